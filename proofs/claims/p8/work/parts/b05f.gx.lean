/-! METHODS LIFTED (printed by wip/p7/gx.py, parts.py) -/
def gx_192 (p1 : Int32) (X : fx_X) (v : Int32) (X' : fx_X) : Prop :=
  (if (p1).toInt < 0 then (v = (Int32.ofInt (-1)) ∧ X' = X) else ((if (p1).toInt < ((X.1 107 4)).toInt then ((if (p1).toInt < 30 then ((0 ≤ (p1).toInt ∧ (p1).toInt < ((30 : Nat) : Int)) ∧ ∃ (w9 : Int32) (X8 : fx_X), gx_181 (X.1 111 (p1).toInt.toNat) X w9 X8 ∧ v = w9 ∧ X' = X8) else (v = (Int32.ofInt (-1)) ∧ X' = X))) else (v = (Int32.ofInt (-1)) ∧ X' = X))))
theorem gx_192_ok {tb : aj_T} (p1 : Int32) {X : fx_X} : fx_K tb 192 [.ref 107, .int p1] X (fx_Q fx_qI (fun v X' => gx_192 p1 X v X')) := by
  refine fx_m aj_m192_at rfl (fun N => ?_)
  refine fx_mono (Q := fx_Q fx_qI (fun v X' => ∃ n : Nat, gx_192 p1 X v X')) (fun r X' ⟨v, e, _, z⟩ => ⟨v, e, z⟩) ?_
  unfold gx_192
  show fx_W _ _ _ 0 [(0, .ref 107), (1, .int p1)] [] _ _
  obtain ⟨lv1, elv1⟩ : ∃ l : aj_V, l = [(0, .ref 107), (1, .int p1)] := ⟨_, rfl⟩
  rw [← elv1]
  have hlv1_0 : aj_lv lv1 0 = some (.ref 107) := by rw [elv1]; rfl
  have hlv1_1 : aj_lv lv1 1 = some (.int p1) := by rw [elv1]; rfl
  refine fx_i0 aj_d192 rfl (Nat.le_succ _) (fun _ => rfl) hlv1_1 ?_
  refine fx_b0 (tgt := 34) aj_d192 rfl (Nat.le_succ _) rfl (fun q2 => ?_) (fun q2 => ?_)
  · skip
    refine fx_qi (c := (p1).toInt < 0) (fx_t_lt q2) ?_
    show fx_W _ _ _ 34 lv1 [] _ _
    refine fx_n (pc' := 35) (lv' := lv1) (st' := [.int (Int32.ofInt (-1))]) aj_d192 rfl (Nat.le_succ _) (fun _ => rfl) ?_
    exact fx_ri aj_d192 rfl ⟨_, rfl, 0, rfl, rfl⟩
  · skip
    refine fx_qe (c := (p1).toInt < 0) (fx_f_lt q2) ?_
    show fx_W _ _ _ 4 lv1 [] _ _
    refine fx_i0 aj_d192 rfl (Nat.le_succ _) (fun _ => rfl) hlv1_1 ?_
    refine fx_i2 aj_d192 rfl (Nat.le_succ _) (fun _ => rfl) hlv1_0 ?_
    refine fx_gI aj_d192 rfl (Nat.le_succ _) rfl rfl (Or.inl rfl) ?_
    refine fx_b (tgt := 34) aj_d192 rfl (Nat.le_succ _) rfl (fun q3 => ?_) (fun q3 => ?_)
    · skip
      refine fx_qe (c := (p1).toInt < ((X.1 107 4)).toInt) (fx_t_ge q3) ?_
      show fx_W _ _ _ 34 lv1 [] _ _
      refine fx_n (pc' := 35) (lv' := lv1) (st' := [.int (Int32.ofInt (-1))]) aj_d192 rfl (Nat.le_succ _) (fun _ => rfl) ?_
      exact fx_ri aj_d192 rfl ⟨_, rfl, 0, rfl, rfl⟩
    · skip
      refine fx_qi (c := (p1).toInt < ((X.1 107 4)).toInt) (fx_f_ge q3) ?_
      show fx_W _ _ _ 12 lv1 [] _ _
      refine fx_i0 aj_d192 rfl (Nat.le_succ _) (fun _ => rfl) hlv1_1 ?_
      refine fx_i2 aj_d192 rfl (Nat.le_succ _) (fun _ => rfl) hlv1_0 ?_
      refine fx_gF aj_d192 rfl (Nat.le_succ _) rfl rfl fx_in_2_9 (t := 111) rfl (fun hA4 => ?_)
      refine fx_al aj_d192 rfl (Nat.le_succ _) ?_
      rw [(hA4 : X.2.2.2.1 111 = (0, 30))]
      show fx_W _ _ _ 18 lv1 [.int (Int32.ofNat 30), .int p1] _ _
      refine fx_b (tgt := 34) aj_d192 rfl (Nat.le_succ _) rfl (fun q5 => ?_) (fun q5 => ?_)
      · skip
        refine fx_qe (c := (p1).toInt < 30) (fx_t_ge q5) ?_
        show fx_W _ _ _ 34 lv1 [] _ _
        refine fx_n (pc' := 35) (lv' := lv1) (st' := [.int (Int32.ofInt (-1))]) aj_d192 rfl (Nat.le_succ _) (fun _ => rfl) ?_
        exact fx_ri aj_d192 rfl ⟨_, rfl, 0, rfl, rfl⟩
      · skip
        refine fx_qi (c := (p1).toInt < 30) (fx_f_ge q5) ?_
        show fx_W _ _ _ 21 lv1 [] _ _
        refine fx_i2 aj_d192 rfl (Nat.le_succ _) (fun _ => rfl) hlv1_0 ?_
        refine fx_i2 aj_d192 rfl (Nat.le_succ _) (fun _ => rfl) hlv1_0 ?_
        refine fx_gF aj_d192 rfl (Nat.le_succ _) rfl rfl fx_in_2_9 (t := 111) rfl (fun hA6 => ?_)
        refine fx_i0 aj_d192 rfl (Nat.le_succ _) (fun _ => rfl) hlv1_1 ?_
        refine fx_ld aj_d192 (Or.inl rfl) rfl (Nat.le_succ _) (fun g70 g71 => ?_)
        show fx_W _ _ _ 28 lv1 [.int (X.1 111 (p1).toInt.toNat), .ref 107] _ _
        refine fx_qa (c := 0 ≤ (p1).toInt ∧ (p1).toInt < ((30 : Nat) : Int)) ⟨g70, fx_lnk g71 hA6⟩ ?_
        refine fx_cv aj_d192 rfl (Nat.le_succ _) rfl [_] rfl rfl (gx_181_ok (X.1 111 (p1).toInt.toNat)) ?_
        rintro _ X8 ⟨w9, rfl, hR8⟩ hok8 hle8
        refine fx_qc hR8 ?_
        show fx_W _ _ _ 31 lv1 [.int w9] _ _
        refine fx_n (pc' := 35) (lv' := lv1) (st' := [.int w9]) aj_d192 rfl (Nat.le_succ _) (fun _ => rfl) ?_
        exact fx_ri aj_d192 rfl ⟨_, rfl, 0, rfl, rfl⟩
def gx_193 (p1 : Nat) (p2 : Int32) (p3 : Int32) (X : fx_X) (v : Int32) (X' : fx_X) : Prop :=
  (if (p2).toInt < 0 then (v = (Int32.ofInt (-100000)) ∧ X' = X) else ((if (p3).toInt < 0 then (v = (Int32.ofInt (-100000)) ∧ X' = X) else ((if (p3).toInt < ((X.1 p1 3)).toInt then (∃ b6 : Nat, X.2.2.1 52 3 = some b6 ∧ ∃ (w8 : Int32) (X7 : fx_X), gx_182 p2 X w8 X7 ∧ ∃ (w10 : Int32) (X9 : fx_X), gx_183 p2 X7 w10 X9 ∧ ∃ (w12 : Int32) (X11 : fx_X), gx_114_2 p1 b6 w8 p3 w10 X9 w12 X11 ∧ v = w12 ∧ X' = X11) else (v = (Int32.ofInt (-100000)) ∧ X' = X))))))
theorem gx_193_ok {tb : aj_T} (p1 : Nat) (p2 : Int32) (p3 : Int32) {X : fx_X} : fx_K tb 193 [.ref 52, .ref p1, .int p2, .int p3] X (fx_Q fx_qI (fun v X' => gx_193 p1 p2 p3 X v X')) := by
  refine fx_m aj_m193_at rfl (fun N => ?_)
  refine fx_mono (Q := fx_Q fx_qI (fun v X' => ∃ n : Nat, gx_193 p1 p2 p3 X v X')) (fun r X' ⟨v, e, _, z⟩ => ⟨v, e, z⟩) ?_
  unfold gx_193
  show fx_W _ _ _ 0 [(0, .ref 52), (1, .ref p1), (2, .int p2), (3, .int p3)] [] _ _
  obtain ⟨lv1, elv1⟩ : ∃ l : aj_V, l = [(0, .ref 52), (1, .ref p1), (2, .int p2), (3, .int p3)] := ⟨_, rfl⟩
  rw [← elv1]
  have hlv1_0 : aj_lv lv1 0 = some (.ref 52) := by rw [elv1]; rfl
  have hlv1_1 : aj_lv lv1 1 = some (.ref p1) := by rw [elv1]; rfl
  have hlv1_2 : aj_lv lv1 2 = some (.int p2) := by rw [elv1]; rfl
  have hlv1_3 : aj_lv lv1 3 = some (.int p3) := by rw [elv1]; rfl
  refine fx_i2 aj_d193 rfl (Nat.le_succ _) (fun _ => rfl) hlv1_1 ?_
  refine fx_n (pc' := 4) (lv' := lv1) (st' := []) aj_d193 rfl (Nat.le_succ _) (fun _ => rfl) ?_
  refine fx_i0 aj_d193 rfl (Nat.le_succ _) (fun _ => rfl) hlv1_2 ?_
  refine fx_b0 (tgt := 20) aj_d193 rfl (Nat.le_succ _) rfl (fun q2 => ?_) (fun q2 => ?_)
  · skip
    refine fx_qi (c := (p2).toInt < 0) (fx_t_lt q2) ?_
    show fx_W _ _ _ 20 lv1 [] _ _
    refine fx_n (pc' := 22) (lv' := lv1) (st' := [.int (Int32.ofInt (-100000))]) aj_d193 rfl (Nat.le_succ _) (fun _ => rfl) ?_
    exact fx_ri aj_d193 rfl ⟨_, rfl, 0, rfl, rfl⟩
  · skip
    refine fx_qe (c := (p2).toInt < 0) (fx_f_lt q2) ?_
    show fx_W _ _ _ 8 lv1 [] _ _
    refine fx_i0 aj_d193 rfl (Nat.le_succ _) (fun _ => rfl) hlv1_3 ?_
    refine fx_b0 (tgt := 20) aj_d193 rfl (Nat.le_succ _) rfl (fun q3 => ?_) (fun q3 => ?_)
    · skip
      refine fx_qi (c := (p3).toInt < 0) (fx_t_lt q3) ?_
      show fx_W _ _ _ 20 lv1 [] _ _
      refine fx_n (pc' := 22) (lv' := lv1) (st' := [.int (Int32.ofInt (-100000))]) aj_d193 rfl (Nat.le_succ _) (fun _ => rfl) ?_
      exact fx_ri aj_d193 rfl ⟨_, rfl, 0, rfl, rfl⟩
    · skip
      refine fx_qe (c := (p3).toInt < 0) (fx_f_lt q3) ?_
      show fx_W _ _ _ 12 lv1 [] _ _
      refine fx_i0 aj_d193 rfl (Nat.le_succ _) (fun _ => rfl) hlv1_3 ?_
      refine fx_i2 aj_d193 rfl (Nat.le_succ _) (fun _ => rfl) hlv1_1 ?_
      refine fx_gI aj_d193 rfl (Nat.le_succ _) rfl rfl (Or.inl rfl) ?_
      refine fx_b (tgt := 23) aj_d193 rfl (Nat.le_succ _) rfl (fun q4 => ?_) (fun q4 => ?_)
      · skip
        refine fx_qi (c := (p3).toInt < ((X.1 p1 3)).toInt) (fx_t_lt q4) ?_
        show fx_W _ _ _ 23 lv1 [] _ _
        refine fx_i2 aj_d193 rfl (Nat.le_succ _) (fun _ => rfl) hlv1_1 ?_
        refine fx_i2 aj_d193 rfl (Nat.le_succ _) (fun _ => rfl) hlv1_0 ?_
        refine fx_gR aj_d193 rfl (Nat.le_succ _) rfl rfl (Or.inl ⟨_, rfl⟩) (fun _ z => absurd (by decide) z) (fun b6 q5 => ?_)
        show fx_W _ _ _ 28 lv1 [.ref b6, .ref p1] _ _
        refine fx_qs q5 ?_
        refine fx_i0 aj_d193 rfl (Nat.le_succ _) (fun _ => rfl) hlv1_2 ?_
        refine fx_cs aj_d193 rfl (Nat.le_succ _) rfl rfl [_] rfl rfl (gx_182_ok p2) ?_
        rintro _ X7 ⟨w8, rfl, hR7⟩ hok7 hle7
        refine fx_qc hR7 ?_
        show fx_W _ _ _ 32 lv1 [.int w8, .ref b6, .ref p1] _ _
        refine fx_i0 aj_d193 rfl (Nat.le_succ _) (fun _ => rfl) hlv1_3 ?_
        refine fx_i0 aj_d193 rfl (Nat.le_succ _) (fun _ => rfl) hlv1_2 ?_
        refine fx_cs aj_d193 rfl (Nat.le_succ _) rfl rfl [_] rfl rfl (gx_183_ok p2) ?_
        rintro _ X9 ⟨w10, rfl, hR9⟩ hok9 hle9
        refine fx_qc hR9 ?_
        show fx_W _ _ _ 37 lv1 [.int w10, .int p3, .int w8, .ref b6, .ref p1] _ _
        refine fx_cv aj_d193 rfl (Nat.le_succ _) rfl [_, _, _, _] rfl rfl (gx_114_2_ok p1 b6 w8 p3 w10) ?_
        rintro _ X11 ⟨w12, rfl, hR11⟩ hok11 hle11
        refine fx_qc hR11 ?_
        show fx_W _ _ _ 40 lv1 [.int w12] _ _
        exact fx_ri aj_d193 rfl ⟨_, rfl, 0, rfl, rfl⟩
      · skip
        refine fx_qe (c := (p3).toInt < ((X.1 p1 3)).toInt) (fx_f_lt q4) ?_
        show fx_W _ _ _ 20 lv1 [] _ _
        refine fx_n (pc' := 22) (lv' := lv1) (st' := [.int (Int32.ofInt (-100000))]) aj_d193 rfl (Nat.le_succ _) (fun _ => rfl) ?_
        exact fx_ri aj_d193 rfl ⟨_, rfl, 0, rfl, rfl⟩
def gxT_197_38 (p1 : Nat) (p2 : Nat) (p3 : Int32) (P : Nat → List Int32 → List Int64 → List Nat → fx_X → Int32 → fx_X → Prop) (y4 : Int32) (y5 : Int32) (X : fx_X) (v : Int32) (X' : fx_X) : Prop :=
  (if (y5).toInt < (y4).toInt then ((if (y5).toInt < 30 then ((if (y5).toInt < 30 then (∃ b21 : Nat, X.2.2.1 52 3 = some b21 ∧ (0 ≤ (y5).toInt ∧ (y5).toInt < ((30 : Nat) : Int)) ∧ (0 ≤ (y5).toInt ∧ (y5).toInt < ((30 : Nat) : Int)) ∧ ∃ (w27 : Int32) (X26 : fx_X), gx_130 p1 b21 (X.1 115 (y5).toInt.toNat) p3 p2 (X.1 116 (y5).toInt.toNat) p3 X w27 X26 ∧ (if (w27).toInt = 0 then (∃ x29 : Int32, x29 = y5 + Int32.ofInt 1 ∧ P 38 [y4, x29] [] [] X26 v X') else (v = (Int32.ofInt 0) ∧ X' = X26))) else (v = (Int32.ofInt 1) ∧ X' = X))) else (v = (Int32.ofInt 1) ∧ X' = X))) else (v = (Int32.ofInt 1) ∧ X' = X))
def gxE_197 (p1 : Nat) (p2 : Nat) (p3 : Int32) (P : Nat → List Int32 → List Int64 → List Nat → fx_X → Int32 → fx_X → Prop) (X : fx_X) (v : Int32) (X' : fx_X) : Prop :=
  ∃ b3 : Nat, X.2.2.1 52 3 = some b3 ∧ ∃ (w6 : Int32) (X5 : fx_X), gx_129 p1 b3 p3 115 X w6 X5 ∧ ∃ b9 : Nat, X5.2.2.1 52 3 = some b9 ∧ ∃ (w12 : Int32) (X11 : fx_X), gx_129 p2 b9 p3 116 X5 w12 X11 ∧ (if (w12).toInt = (w6).toInt then (P 38 [w6, (Int32.ofInt 0)] [] [] X11 v X') else (v = (Int32.ofInt 0) ∧ X' = X11))
noncomputable def gxF_197 (p1 : Nat) (p2 : Nat) (p3 : Int32) (n : Nat) : Nat → List Int32 → List Int64 → List Nat → fx_X → Int32 → fx_X → Prop := Nat.rec (motive := fun _ => Nat → List Int32 → List Int64 → List Nat → fx_X → Int32 → fx_X → Prop) (fun _ _ _ _ _ _ _ => False) (fun _ P l is ls rs X v X' => (l = 38 ∧ ∃ (y4 : Int32) (y5 : Int32), is = [y4, y5] ∧ ls = [] ∧ rs = [] ∧ gxT_197_38 p1 p2 p3 P y4 y5 X v X')) n
theorem gxI_197_38 {p1 : Nat} {p2 : Nat} {p3 : Int32} {n : Nat} {y4 : Int32} {y5 : Int32} {X : fx_X} {v : Int32} {X' : fx_X} (h : gxT_197_38 p1 p2 p3 (gxF_197 p1 p2 p3 n) y4 y5 X v X') : gxF_197 p1 p2 p3 (n + 1) 38 [y4, y5] [] [] X v X' := ⟨rfl, y4, y5, rfl, rfl, rfl, h⟩
theorem gxO_197_38 {p1 : Nat} {p2 : Nat} {p3 : Int32} {n : Nat} {y4 : Int32} {y5 : Int32} {X : fx_X} {v : Int32} {X' : fx_X} (h : gxF_197 p1 p2 p3 (n + 1) 38 [y4, y5] [] [] X v X') : gxT_197_38 p1 p2 p3 (gxF_197 p1 p2 p3 n) y4 y5 X v X' := by
  rcases h with ⟨-, _, _, e1, e2, e3, h⟩
  · cases e1; cases e2; cases e3; exact h
def gx_197 (p1 : Nat) (p2 : Nat) (p3 : Int32) (X : fx_X) (v : Int32) (X' : fx_X) : Prop := ∃ n : Nat, gxE_197 p1 p2 p3 (gxF_197 p1 p2 p3 n) X v X'
theorem gxL_197 {tb : aj_T} (p1 : Nat) (p2 : Nat) (p3 : Int32) : ∀ N : Nat, (∀ (lv : aj_V) (y4 : Int32) (y5 : Int32) (X : fx_X), aj_lv lv 0 = some (.ref 52) → aj_lv lv 1 = some (.ref p1) → aj_lv lv 2 = some (.ref p2) → aj_lv lv 3 = some (.int p3) → aj_lv lv 4 = some (.int y4) → aj_lv lv 5 = some (.int y5) → fx_W tb aj_m197 N 38 lv [] X (fx_Q fx_qI (fun v X' => ∃ n : Nat, gxF_197 p1 p2 p3 n 38 [y4, y5] [] [] X v X'))) := by
  intro N
  induction N with
  | zero => exact (by intros; exact fx_z)
  | succ N ih =>
    skip
    · intro lv y4 y5 X hlv_0 hlv_1 hlv_2 hlv_3 hlv_4 hlv_5
      refine fx_mono (Q := fx_Q fx_qI (fun v X' => ∃ n : Nat, gxT_197_38 p1 p2 p3 (gxF_197 p1 p2 p3 n) y4 y5 X v X')) (fun r X' ⟨v, e, n, z⟩ => ⟨v, e, n + 1, gxI_197_38 z⟩) ?_
      unfold gxT_197_38
      refine fx_i0 aj_d197 rfl (Nat.le_refl _) (fun _ => rfl) hlv_5 ?_
      refine fx_i0 aj_d197 rfl (Nat.le_succ _) (fun _ => rfl) hlv_4 ?_
      refine fx_b (tgt := 101) aj_d197 rfl (Nat.le_succ _) rfl (fun q15 => ?_) (fun q15 => ?_)
      · skip
        refine fx_qe (c := (y5).toInt < (y4).toInt) (fx_t_ge q15) ?_
        show fx_W _ _ _ 101 lv [] _ _
        refine fx_n (pc' := 102) (lv' := lv) (st' := [.int (Int32.ofInt 1)]) aj_d197 rfl (Nat.le_succ _) (fun _ => rfl) ?_
        exact fx_ri aj_d197 rfl ⟨_, rfl, 0, rfl, rfl⟩
      · skip
        refine fx_qi (c := (y5).toInt < (y4).toInt) (fx_f_ge q15) ?_
        show fx_W _ _ _ 45 lv [] _ _
        refine fx_i0 aj_d197 rfl (Nat.le_succ _) (fun _ => rfl) hlv_5 ?_
        refine fx_i2 aj_d197 rfl (Nat.le_succ _) (fun _ => rfl) hlv_0 ?_
        refine fx_gF aj_d197 rfl (Nat.le_succ _) rfl rfl fx_in_10_12 (t := 115) rfl (fun hA16 => ?_)
        refine fx_al aj_d197 rfl (Nat.le_succ _) ?_
        rw [(hA16 : X.2.2.2.1 115 = (0, 30))]
        show fx_W _ _ _ 52 lv [.int (Int32.ofNat 30), .int y5] _ _
        refine fx_b (tgt := 101) aj_d197 rfl (Nat.le_succ _) rfl (fun q17 => ?_) (fun q17 => ?_)
        · skip
          refine fx_qe (c := (y5).toInt < 30) (fx_t_ge q17) ?_
          show fx_W _ _ _ 101 lv [] _ _
          refine fx_n (pc' := 102) (lv' := lv) (st' := [.int (Int32.ofInt 1)]) aj_d197 rfl (Nat.le_succ _) (fun _ => rfl) ?_
          exact fx_ri aj_d197 rfl ⟨_, rfl, 0, rfl, rfl⟩
        · skip
          refine fx_qi (c := (y5).toInt < 30) (fx_f_ge q17) ?_
          show fx_W _ _ _ 55 lv [] _ _
          refine fx_i0 aj_d197 rfl (Nat.le_succ _) (fun _ => rfl) hlv_5 ?_
          refine fx_i2 aj_d197 rfl (Nat.le_succ _) (fun _ => rfl) hlv_0 ?_
          refine fx_gF aj_d197 rfl (Nat.le_succ _) rfl rfl fx_in_10_13 (t := 116) rfl (fun hA18 => ?_)
          refine fx_al aj_d197 rfl (Nat.le_succ _) ?_
          rw [(hA18 : X.2.2.2.1 116 = (0, 30))]
          show fx_W _ _ _ 62 lv [.int (Int32.ofNat 30), .int y5] _ _
          refine fx_b (tgt := 101) aj_d197 rfl (Nat.le_succ _) rfl (fun q19 => ?_) (fun q19 => ?_)
          · skip
            refine fx_qe (c := (y5).toInt < 30) (fx_t_ge q19) ?_
            show fx_W _ _ _ 101 lv [] _ _
            refine fx_n (pc' := 102) (lv' := lv) (st' := [.int (Int32.ofInt 1)]) aj_d197 rfl (Nat.le_succ _) (fun _ => rfl) ?_
            exact fx_ri aj_d197 rfl ⟨_, rfl, 0, rfl, rfl⟩
          · skip
            refine fx_qi (c := (y5).toInt < 30) (fx_f_ge q19) ?_
            show fx_W _ _ _ 65 lv [] _ _
            refine fx_i2 aj_d197 rfl (Nat.le_succ _) (fun _ => rfl) hlv_1 ?_
            refine fx_i2 aj_d197 rfl (Nat.le_succ _) (fun _ => rfl) hlv_0 ?_
            refine fx_gR aj_d197 rfl (Nat.le_succ _) rfl rfl (Or.inl ⟨_, rfl⟩) (fun _ z => absurd (by decide) z) (fun b21 q20 => ?_)
            show fx_W _ _ _ 70 lv [.ref b21, .ref p1] _ _
            refine fx_qs q20 ?_
            refine fx_i2 aj_d197 rfl (Nat.le_succ _) (fun _ => rfl) hlv_0 ?_
            refine fx_gF aj_d197 rfl (Nat.le_succ _) rfl rfl fx_in_10_12 (t := 115) rfl (fun hA22 => ?_)
            refine fx_i0 aj_d197 rfl (Nat.le_succ _) (fun _ => rfl) hlv_5 ?_
            refine fx_ld aj_d197 (Or.inl rfl) rfl (Nat.le_succ _) (fun g230 g231 => ?_)
            show fx_W _ _ _ 77 lv [.int (X.1 115 (y5).toInt.toNat), .ref b21, .ref p1] _ _
            refine fx_qa (c := 0 ≤ (y5).toInt ∧ (y5).toInt < ((30 : Nat) : Int)) ⟨g230, fx_lnk g231 hA22⟩ ?_
            refine fx_i0 aj_d197 rfl (Nat.le_succ _) (fun _ => rfl) hlv_3 ?_
            refine fx_i2 aj_d197 rfl (Nat.le_succ _) (fun _ => rfl) hlv_2 ?_
            refine fx_i2 aj_d197 rfl (Nat.le_succ _) (fun _ => rfl) hlv_0 ?_
            refine fx_gF aj_d197 rfl (Nat.le_succ _) rfl rfl fx_in_10_13 (t := 116) rfl (fun hA24 => ?_)
            refine fx_i0 aj_d197 rfl (Nat.le_succ _) (fun _ => rfl) hlv_5 ?_
            refine fx_ld aj_d197 (Or.inl rfl) rfl (Nat.le_succ _) (fun g250 g251 => ?_)
            show fx_W _ _ _ 86 lv [.int (X.1 116 (y5).toInt.toNat), .ref p2, .int p3, .int (X.1 115 (y5).toInt.toNat), .ref b21, .ref p1] _ _
            refine fx_qa (c := 0 ≤ (y5).toInt ∧ (y5).toInt < ((30 : Nat) : Int)) ⟨g250, fx_lnk g251 hA24⟩ ?_
            refine fx_i0 aj_d197 rfl (Nat.le_succ _) (fun _ => rfl) hlv_3 ?_
            refine fx_cv aj_d197 rfl (Nat.le_succ _) rfl [_, _, _, _, _, _] rfl rfl (gx_130_ok p1 b21 (X.1 115 (y5).toInt.toNat) p3 p2 (X.1 116 (y5).toInt.toNat) p3) ?_
            rintro _ X26 ⟨w27, rfl, hR26⟩ hok26 hle26
            refine fx_qc hR26 ?_
            show fx_W _ _ _ 90 lv [.int w27] _ _
            refine fx_b0 (tgt := 95) aj_d197 rfl (Nat.le_succ _) rfl (fun q28 => ?_) (fun q28 => ?_)
            · skip
              refine fx_qi (c := (w27).toInt = 0) (fx_t_eq q28) ?_
              show fx_W _ _ _ 95 lv [] _ _
              refine fx_incq aj_d197 rfl (Nat.le_succ _) hlv_5 (by decide) (fun x29 ex29 => ?_)
              obtain ⟨lv30, elv30⟩ : ∃ l, l = aj_set1 lv 5 (.int x29) := ⟨_, rfl⟩
              rw [← elv30]
              have hlv30_0 : aj_lv lv30 0 = some (.ref 52) := fx_e1 elv30 hlv_0 (by decide) (Or.inl (by decide))
              have hlv30_1 : aj_lv lv30 1 = some (.ref p1) := fx_e1 elv30 hlv_1 (by decide) (Or.inl (by decide))
              have hlv30_2 : aj_lv lv30 2 = some (.ref p2) := fx_e1 elv30 hlv_2 (by decide) (Or.inl (by decide))
              have hlv30_3 : aj_lv lv30 3 = some (.int p3) := fx_e1 elv30 hlv_3 (by decide) (Or.inl (by decide))
              have hlv30_4 : aj_lv lv30 4 = some (.int y4) := fx_e1 elv30 hlv_4 (by decide) (Or.inr rfl)
              have hlv30_5 : aj_lv lv30 5 = some (.int x29) := by rw [elv30]; exact ak_set1_eq _ _ _
              show fx_W _ _ _ 98 lv30 [] _ _
              refine fx_n (pc' := 38) (lv' := lv30) (st' := []) aj_d197 rfl (Nat.le_succ _) (fun _ => rfl) ?_
              exact (ih) lv30 (y4) (x29) X26  hlv30_0 hlv30_1 hlv30_2 hlv30_3 hlv30_4 hlv30_5
            · skip
              refine fx_qe (c := (w27).toInt = 0) (fx_f_eq q28) ?_
              show fx_W _ _ _ 93 lv [] _ _
              refine fx_n (pc' := 94) (lv' := lv) (st' := [.int (Int32.ofInt 0)]) aj_d197 rfl (Nat.le_succ _) (fun _ => rfl) ?_
              exact fx_ri aj_d197 rfl ⟨_, rfl, 0, rfl, rfl⟩
theorem gx_197_ok {tb : aj_T} (p1 : Nat) (p2 : Nat) (p3 : Int32) {X : fx_X} : fx_K tb 197 [.ref 52, .ref p1, .ref p2, .int p3] X (fx_Q fx_qI (fun v X' => gx_197 p1 p2 p3 X v X')) := by
  refine fx_m aj_m197_at rfl (fun N => ?_)
  refine fx_mono (Q := fx_Q fx_qI (fun v X' => ∃ n : Nat, gxE_197 p1 p2 p3 (gxF_197 p1 p2 p3 n) X v X')) (fun r X' h => h) ?_
  unfold gxE_197
  show fx_W _ _ _ 0 [(0, .ref 52), (1, .ref p1), (2, .ref p2), (3, .int p3)] [] _ _
  obtain ⟨lv1, elv1⟩ : ∃ l : aj_V, l = [(0, .ref 52), (1, .ref p1), (2, .ref p2), (3, .int p3)] := ⟨_, rfl⟩
  rw [← elv1]
  have hlv1_0 : aj_lv lv1 0 = some (.ref 52) := by rw [elv1]; rfl
  have hlv1_1 : aj_lv lv1 1 = some (.ref p1) := by rw [elv1]; rfl
  have hlv1_2 : aj_lv lv1 2 = some (.ref p2) := by rw [elv1]; rfl
  have hlv1_3 : aj_lv lv1 3 = some (.int p3) := by rw [elv1]; rfl
  refine fx_i2 aj_d197 rfl (Nat.le_succ _) (fun _ => rfl) hlv1_1 ?_
  refine fx_i2 aj_d197 rfl (Nat.le_succ _) (fun _ => rfl) hlv1_0 ?_
  refine fx_gR aj_d197 rfl (Nat.le_succ _) rfl rfl (Or.inl ⟨_, rfl⟩) (fun _ z => absurd (by decide) z) (fun b3 q2 => ?_)
  show fx_W _ _ _ 5 lv1 [.ref b3, .ref p1] _ _
  refine fx_qs q2 ?_
  refine fx_i0 aj_d197 rfl (Nat.le_succ _) (fun _ => rfl) hlv1_3 ?_
  refine fx_i2 aj_d197 rfl (Nat.le_succ _) (fun _ => rfl) hlv1_0 ?_
  refine fx_gF aj_d197 rfl (Nat.le_succ _) rfl rfl fx_in_10_12 (t := 115) rfl (fun hA4 => ?_)
  refine fx_cv aj_d197 rfl (Nat.le_succ _) rfl [_, _, _] rfl rfl (gx_129_ok p1 b3 p3 115 hA4) ?_
  rintro _ X5 ⟨w6, rfl, hR5⟩ hok5 hle5
  refine fx_qc hR5 ?_
  show fx_W _ _ _ 13 lv1 [.int w6] _ _
  refine fx_s0 (j := 4) aj_d197 rfl (Nat.le_succ _) (by decide) (fun _ => rfl) ?_
  obtain ⟨lv7, elv7⟩ : ∃ l, l = aj_set1 lv1 4 (.int w6) := ⟨_, rfl⟩
  rw [← elv7]
  have hlv7_0 : aj_lv lv7 0 = some (.ref 52) := fx_e1 elv7 hlv1_0 (by decide) (Or.inl (by decide))
  have hlv7_1 : aj_lv lv7 1 = some (.ref p1) := fx_e1 elv7 hlv1_1 (by decide) (Or.inl (by decide))
  have hlv7_2 : aj_lv lv7 2 = some (.ref p2) := fx_e1 elv7 hlv1_2 (by decide) (Or.inl (by decide))
  have hlv7_3 : aj_lv lv7 3 = some (.int p3) := fx_e1 elv7 hlv1_3 (by decide) (Or.inr rfl)
  have hlv7_4 : aj_lv lv7 4 = some (.int w6) := by rw [elv7]; exact ak_set1_eq _ _ _
  show fx_W _ _ _ 15 lv7 [] _ _
  refine fx_i2 aj_d197 rfl (Nat.le_succ _) (fun _ => rfl) hlv7_2 ?_
  refine fx_i2 aj_d197 rfl (Nat.le_succ _) (fun _ => rfl) hlv7_0 ?_
  refine fx_gR aj_d197 rfl (Nat.le_succ _) rfl rfl (Or.inl ⟨_, rfl⟩) (fun _ z => absurd (by decide) z) (fun b9 q8 => ?_)
  show fx_W _ _ _ 20 lv7 [.ref b9, .ref p2] _ _
  refine fx_qs q8 ?_
  refine fx_i0 aj_d197 rfl (Nat.le_succ _) (fun _ => rfl) hlv7_3 ?_
  refine fx_i2 aj_d197 rfl (Nat.le_succ _) (fun _ => rfl) hlv7_0 ?_
  refine fx_gF aj_d197 rfl (Nat.le_succ _) rfl rfl fx_in_10_13 (t := 116) rfl (fun hA10 => ?_)
  refine fx_cv aj_d197 rfl (Nat.le_succ _) rfl [_, _, _] rfl rfl (gx_129_ok p2 b9 p3 116 hA10) ?_
  rintro _ X11 ⟨w12, rfl, hR11⟩ hok11 hle11
  refine fx_qc hR11 ?_
  show fx_W _ _ _ 28 lv7 [.int w12] _ _
  refine fx_i0 aj_d197 rfl (Nat.le_succ _) (fun _ => rfl) hlv7_4 ?_
  refine fx_b (tgt := 35) aj_d197 rfl (Nat.le_succ _) rfl (fun q13 => ?_) (fun q13 => ?_)
  · skip
    refine fx_qi (c := (w12).toInt = (w6).toInt) (fx_t_eq q13) ?_
    show fx_W _ _ _ 35 lv7 [] _ _
    refine fx_n (pc' := 36) (lv' := lv7) (st' := [.int (Int32.ofInt 0)]) aj_d197 rfl (Nat.le_succ _) (fun _ => rfl) ?_
    refine fx_s0 (j := 5) aj_d197 rfl (Nat.le_succ _) (by decide) (fun _ => rfl) ?_
    obtain ⟨lv14, elv14⟩ : ∃ l, l = aj_set1 lv7 5 (.int (Int32.ofInt 0)) := ⟨_, rfl⟩
    rw [← elv14]
    have hlv14_0 : aj_lv lv14 0 = some (.ref 52) := fx_e1 elv14 hlv7_0 (by decide) (Or.inl (by decide))
    have hlv14_1 : aj_lv lv14 1 = some (.ref p1) := fx_e1 elv14 hlv7_1 (by decide) (Or.inl (by decide))
    have hlv14_2 : aj_lv lv14 2 = some (.ref p2) := fx_e1 elv14 hlv7_2 (by decide) (Or.inl (by decide))
    have hlv14_3 : aj_lv lv14 3 = some (.int p3) := fx_e1 elv14 hlv7_3 (by decide) (Or.inl (by decide))
    have hlv14_4 : aj_lv lv14 4 = some (.int w6) := fx_e1 elv14 hlv7_4 (by decide) (Or.inr rfl)
    have hlv14_5 : aj_lv lv14 5 = some (.int (Int32.ofInt 0)) := by rw [elv14]; exact ak_set1_eq _ _ _
    show fx_W _ _ _ 38 lv14 [] _ _
    exact ((gxL_197 p1 p2 p3 N)) lv14 (w6) ((Int32.ofInt 0)) X11  hlv14_0 hlv14_1 hlv14_2 hlv14_3 hlv14_4 hlv14_5
  · skip
    refine fx_qe (c := (w12).toInt = (w6).toInt) (fx_f_eq q13) ?_
    show fx_W _ _ _ 33 lv7 [] _ _
    refine fx_n (pc' := 34) (lv' := lv7) (st' := [.int (Int32.ofInt 0)]) aj_d197 rfl (Nat.le_succ _) (fun _ => rfl) ?_
    exact fx_ri aj_d197 rfl ⟨_, rfl, 0, rfl, rfl⟩
def gxT_196_46 (p1 : Int32) (p2 : Int32) (P : Nat → List Int32 → List Int64 → List Nat → fx_X → Int32 → fx_X → Prop) (y3 : Nat) (y4 : Nat) (y5 : Int32) (X : fx_X) (v : Int32) (X' : fx_X) : Prop :=
  ∃ b23 : Nat, X.2.2.1 52 3 = some b23 ∧ (if (y5).toInt < ((X.1 b23 14)).toInt then (∃ b26 : Nat, X.2.2.1 52 3 = some b26 ∧ ∃ (w28 : Int32) (X27 : fx_X), gx_158 b26 y5 X w28 X27 ∧ ∃ (w30 : Int32) (X29 : fx_X), gx_197 y3 y4 w28 X27 w30 X29 ∧ (if (w30).toInt = 0 then (v = y5 ∧ X' = X29) else (∃ x32 : Int32, x32 = y5 + Int32.ofInt 1 ∧ P 46 [x32] [] [y3, y4] X29 v X'))) else (v = (Int32.ofInt (-1)) ∧ X' = X))
def gxE_196 (p1 : Int32) (p2 : Int32) (P : Nat → List Int32 → List Int64 → List Nat → fx_X → Int32 → fx_X → Prop) (X : fx_X) (v : Int32) (X' : fx_X) : Prop :=
  ∃ b3 : Nat, X.2.2.1 52 3 = some b3 ∧ ∃ (w5 : (Option Nat)) (X4 : fx_X), gx_63 b3 p1 X w5 X4 ∧ ((w5 = none ∧ ∃ b8 : Nat, X4.2.2.1 52 3 = some b8 ∧ ∃ (w10 : (Option Nat)) (X9 : fx_X), gx_63 b8 p2 X4 w10 X9 ∧ ((w10 = none ∧ v = ((Int8.ofInt (-2)).toInt32) ∧ X' = X9) ∨ (∃ w10b : Nat, w10 = some w10b ∧ v = ((Int8.ofInt (-2)).toInt32) ∧ X' = X9))) ∨ (∃ w5b : Nat, w5 = some w5b ∧ ∃ b15 : Nat, X4.2.2.1 52 3 = some b15 ∧ ∃ (w17 : (Option Nat)) (X16 : fx_X), gx_63 b15 p2 X4 w17 X16 ∧ ((w17 = none ∧ v = ((Int8.ofInt (-2)).toInt32) ∧ X' = X16) ∨ (∃ w17b : Nat, w17 = some w17b ∧ (if ((X16.1 w5b 3)).toInt = ((X16.1 w17b 3)).toInt then (P 46 [(Int32.ofInt 0)] [] [w5b, w17b] X16 v X') else (v = ((Int8.ofInt (-2)).toInt32) ∧ X' = X16))))))
noncomputable def gxF_196 (p1 : Int32) (p2 : Int32) (n : Nat) : Nat → List Int32 → List Int64 → List Nat → fx_X → Int32 → fx_X → Prop := Nat.rec (motive := fun _ => Nat → List Int32 → List Int64 → List Nat → fx_X → Int32 → fx_X → Prop) (fun _ _ _ _ _ _ _ => False) (fun _ P l is ls rs X v X' => (l = 46 ∧ ∃ (y3 : Nat) (y4 : Nat) (y5 : Int32), is = [y5] ∧ ls = [] ∧ rs = [y3, y4] ∧ gxT_196_46 p1 p2 P y3 y4 y5 X v X')) n
theorem gxI_196_46 {p1 : Int32} {p2 : Int32} {n : Nat} {y3 : Nat} {y4 : Nat} {y5 : Int32} {X : fx_X} {v : Int32} {X' : fx_X} (h : gxT_196_46 p1 p2 (gxF_196 p1 p2 n) y3 y4 y5 X v X') : gxF_196 p1 p2 (n + 1) 46 [y5] [] [y3, y4] X v X' := ⟨rfl, y3, y4, y5, rfl, rfl, rfl, h⟩
theorem gxO_196_46 {p1 : Int32} {p2 : Int32} {n : Nat} {y3 : Nat} {y4 : Nat} {y5 : Int32} {X : fx_X} {v : Int32} {X' : fx_X} (h : gxF_196 p1 p2 (n + 1) 46 [y5] [] [y3, y4] X v X') : gxT_196_46 p1 p2 (gxF_196 p1 p2 n) y3 y4 y5 X v X' := by
  rcases h with ⟨-, _, _, _, e1, e2, e3, h⟩
  · cases e1; cases e2; cases e3; exact h
def gx_196 (p1 : Int32) (p2 : Int32) (X : fx_X) (v : Int32) (X' : fx_X) : Prop := ∃ n : Nat, gxE_196 p1 p2 (gxF_196 p1 p2 n) X v X'
theorem gxL_196 {tb : aj_T} (p1 : Int32) (p2 : Int32) : ∀ N : Nat, (∀ (lv : aj_V) (y3 : Nat) (y4 : Nat) (y5 : Int32) (X : fx_X), aj_lv lv 0 = some (.ref 52) → aj_lv lv 3 = some (.ref y3) → aj_lv lv 4 = some (.ref y4) → aj_lv lv 5 = some (.int y5) → fx_W tb aj_m196 N 46 lv [] X (fx_Q fx_qI (fun v X' => ∃ n : Nat, gxF_196 p1 p2 n 46 [y5] [] [y3, y4] X v X'))) := by
  intro N
  induction N with
  | zero => exact (by intros; exact fx_z)
  | succ N ih =>
    skip
    · intro lv y3 y4 y5 X hlv_0 hlv_3 hlv_4 hlv_5
      refine fx_mono (Q := fx_Q fx_qI (fun v X' => ∃ n : Nat, gxT_196_46 p1 p2 (gxF_196 p1 p2 n) y3 y4 y5 X v X')) (fun r X' ⟨v, e, n, z⟩ => ⟨v, e, n + 1, gxI_196_46 z⟩) ?_
      unfold gxT_196_46
      refine fx_i0 aj_d196 rfl (Nat.le_refl _) (fun _ => rfl) hlv_5 ?_
      refine fx_i2 aj_d196 rfl (Nat.le_succ _) (fun _ => rfl) hlv_0 ?_
      refine fx_gR aj_d196 rfl (Nat.le_succ _) rfl rfl (Or.inl ⟨_, rfl⟩) (fun _ z => absurd (by decide) z) (fun b23 q22 => ?_)
      show fx_W _ _ _ 52 lv [.ref b23, .int y5] _ _
      refine fx_qs q22 ?_
      refine fx_gI aj_d196 rfl (Nat.le_succ _) rfl rfl (Or.inl rfl) ?_
      refine fx_b (tgt := 86) aj_d196 rfl (Nat.le_succ _) rfl (fun q24 => ?_) (fun q24 => ?_)
      · skip
        refine fx_qe (c := (y5).toInt < ((X.1 b23 14)).toInt) (fx_t_ge q24) ?_
        show fx_W _ _ _ 86 lv [] _ _
        refine fx_n (pc' := 87) (lv' := lv) (st' := [.int (Int32.ofInt (-1))]) aj_d196 rfl (Nat.le_succ _) (fun _ => rfl) ?_
        exact fx_ri aj_d196 rfl ⟨_, rfl, 0, rfl, rfl⟩
      · skip
        refine fx_qi (c := (y5).toInt < ((X.1 b23 14)).toInt) (fx_f_ge q24) ?_
        show fx_W _ _ _ 58 lv [] _ _
        refine fx_i2 aj_d196 rfl (Nat.le_succ _) (fun _ => rfl) hlv_0 ?_
        refine fx_i2 aj_d196 rfl (Nat.le_succ _) (fun _ => rfl) hlv_3 ?_
        refine fx_i2 aj_d196 rfl (Nat.le_succ _) (fun _ => rfl) hlv_4 ?_
        refine fx_i2 aj_d196 rfl (Nat.le_succ _) (fun _ => rfl) hlv_0 ?_
        refine fx_gR aj_d196 rfl (Nat.le_succ _) rfl rfl (Or.inl ⟨_, rfl⟩) (fun _ z => absurd (by decide) z) (fun b26 q25 => ?_)
        show fx_W _ _ _ 66 lv [.ref b26, .ref y4, .ref y3, .ref 52] _ _
        refine fx_qs q25 ?_
        refine fx_i0 aj_d196 rfl (Nat.le_succ _) (fun _ => rfl) hlv_5 ?_
        refine fx_cv aj_d196 rfl (Nat.le_succ _) rfl [_] rfl rfl (gx_158_ok b26 y5) ?_
        rintro _ X27 ⟨w28, rfl, hR27⟩ hok27 hle27
        refine fx_qc hR27 ?_
        show fx_W _ _ _ 71 lv [.int w28, .ref y4, .ref y3, .ref 52] _ _
        refine fx_cv aj_d196 rfl (Nat.le_succ _) rfl [_, _, _] rfl rfl (gx_197_ok y3 y4 w28) ?_
        rintro _ X29 ⟨w30, rfl, hR29⟩ hok29 hle29
        refine fx_qc hR29 ?_
        show fx_W _ _ _ 74 lv [.int w30] _ _
        refine fx_b0 (tgt := 80) aj_d196 rfl (Nat.le_succ _) rfl (fun q31 => ?_) (fun q31 => ?_)
        · skip
          refine fx_qe (c := (w30).toInt = 0) (fx_t_ne q31) ?_
          show fx_W _ _ _ 80 lv [] _ _
          refine fx_incq aj_d196 rfl (Nat.le_succ _) hlv_5 (by decide) (fun x32 ex32 => ?_)
          obtain ⟨lv33, elv33⟩ : ∃ l, l = aj_set1 lv 5 (.int x32) := ⟨_, rfl⟩
          rw [← elv33]
          have hlv33_0 : aj_lv lv33 0 = some (.ref 52) := fx_e1 elv33 hlv_0 (by decide) (Or.inl (by decide))
          have hlv33_3 : aj_lv lv33 3 = some (.ref y3) := fx_e1 elv33 hlv_3 (by decide) (Or.inl (by decide))
          have hlv33_4 : aj_lv lv33 4 = some (.ref y4) := fx_e1 elv33 hlv_4 (by decide) (Or.inr rfl)
          have hlv33_5 : aj_lv lv33 5 = some (.int x32) := by rw [elv33]; exact ak_set1_eq _ _ _
          show fx_W _ _ _ 83 lv33 [] _ _
          refine fx_n (pc' := 46) (lv' := lv33) (st' := []) aj_d196 rfl (Nat.le_succ _) (fun _ => rfl) ?_
          exact (ih) lv33 (y3) (y4) (x32) X29  hlv33_0 hlv33_3 hlv33_4 hlv33_5
        · skip
          refine fx_qi (c := (w30).toInt = 0) (fx_f_ne q31) ?_
          show fx_W _ _ _ 77 lv [] _ _
          refine fx_i0 aj_d196 rfl (Nat.le_succ _) (fun _ => rfl) hlv_5 ?_
          exact fx_ri aj_d196 rfl ⟨_, rfl, 0, rfl, rfl⟩
theorem gx_196_ok {tb : aj_T} (p1 : Int32) (p2 : Int32) {X : fx_X} : fx_K tb 196 [.ref 52, .int p1, .int p2] X (fx_Q fx_qI (fun v X' => gx_196 p1 p2 X v X')) := by
  refine fx_m aj_m196_at rfl (fun N => ?_)
  refine fx_mono (Q := fx_Q fx_qI (fun v X' => ∃ n : Nat, gxE_196 p1 p2 (gxF_196 p1 p2 n) X v X')) (fun r X' h => h) ?_
  unfold gxE_196
  show fx_W _ _ _ 0 [(0, .ref 52), (1, .int p1), (2, .int p2)] [] _ _
  obtain ⟨lv1, elv1⟩ : ∃ l : aj_V, l = [(0, .ref 52), (1, .int p1), (2, .int p2)] := ⟨_, rfl⟩
  rw [← elv1]
  have hlv1_0 : aj_lv lv1 0 = some (.ref 52) := by rw [elv1]; rfl
  have hlv1_1 : aj_lv lv1 1 = some (.int p1) := by rw [elv1]; rfl
  have hlv1_2 : aj_lv lv1 2 = some (.int p2) := by rw [elv1]; rfl
  refine fx_i2 aj_d196 rfl (Nat.le_succ _) (fun _ => rfl) hlv1_0 ?_
  refine fx_gR aj_d196 rfl (Nat.le_succ _) rfl rfl (Or.inl ⟨_, rfl⟩) (fun _ z => absurd (by decide) z) (fun b3 q2 => ?_)
  show fx_W _ _ _ 4 lv1 [.ref b3] _ _
  refine fx_qs q2 ?_
  refine fx_i0 aj_d196 rfl (Nat.le_succ _) (fun _ => rfl) hlv1_1 ?_
  refine fx_cv aj_d196 rfl (Nat.le_succ _) rfl [_] rfl rfl (gx_63_ok b3 p1) ?_
  rintro _ X4 ⟨w5, rfl, hR4⟩ hok4 hle4
  refine fx_qc hR4 ?_
  rcases w5 with _ | w5b
  · skip
    refine fx_o1 (fx_qa rfl ?_)
    show fx_W _ _ _ 8 lv1 [.null] _ _
    refine fx_s3 (j := 3) aj_d196 rfl (Nat.le_succ _) (by decide) (fun _ => rfl) ?_
    obtain ⟨lv6, elv6⟩ : ∃ l, l = aj_set1 lv1 3 (.null) := ⟨_, rfl⟩
    rw [← elv6]
    have hlv6_0 : aj_lv lv6 0 = some (.ref 52) := fx_e1 elv6 hlv1_0 (by decide) (Or.inl (by decide))
    have hlv6_2 : aj_lv lv6 2 = some (.int p2) := fx_e1 elv6 hlv1_2 (by decide) (Or.inr rfl)
    have hlv6_3 : aj_lv lv6 3 = some (.null) := by rw [elv6]; exact ak_set1_eq _ _ _
    show fx_W _ _ _ 9 lv6 [] _ _
    refine fx_i2 aj_d196 rfl (Nat.le_succ _) (fun _ => rfl) hlv6_0 ?_
    refine fx_gR aj_d196 rfl (Nat.le_succ _) rfl rfl (Or.inl ⟨_, rfl⟩) (fun _ z => absurd (by decide) z) (fun b8 q7 => ?_)
    show fx_W _ _ _ 13 lv6 [.ref b8] _ _
    refine fx_qs q7 ?_
    refine fx_i0 aj_d196 rfl (Nat.le_succ _) (fun _ => rfl) hlv6_2 ?_
    refine fx_cv aj_d196 rfl (Nat.le_succ _) rfl [_] rfl rfl (gx_63_ok b8 p2) ?_
    rintro _ X9 ⟨w10, rfl, hR9⟩ hok9 hle9
    refine fx_qc hR9 ?_
    rcases w10 with _ | w10b
    · skip
      refine fx_o1 (fx_qa rfl ?_)
      show fx_W _ _ _ 17 lv6 [.null] _ _
      refine fx_s3 (j := 4) aj_d196 rfl (Nat.le_succ _) (by decide) (fun _ => rfl) ?_
      obtain ⟨lv11, elv11⟩ : ∃ l, l = aj_set1 lv6 4 (.null) := ⟨_, rfl⟩
      rw [← elv11]
      have hlv11_0 : aj_lv lv11 0 = some (.ref 52) := fx_e1 elv11 hlv6_0 (by decide) (Or.inl (by decide))
      have hlv11_3 : aj_lv lv11 3 = some (.null) := fx_e1 elv11 hlv6_3 (by decide) (Or.inr rfl)
      have hlv11_4 : aj_lv lv11 4 = some (.null) := by rw [elv11]; exact ak_set1_eq _ _ _
      show fx_W _ _ _ 19 lv11 [] _ _
      refine fx_i3 aj_d196 rfl (Nat.le_succ _) (fun _ => rfl) hlv11_3 ?_
      refine fx_n (pc' := 40) (lv' := lv11) (st' := []) aj_d196 rfl (Nat.le_succ _) (fun _ => rfl) ?_
      refine fx_n (pc' := 42) (lv' := lv11) (st' := [.int ((Int8.ofInt (-2)).toInt32)]) aj_d196 rfl (Nat.le_succ _) (fun _ => rfl) ?_
      exact fx_ri aj_d196 rfl ⟨_, rfl, 0, rfl, rfl⟩
    · skip
      refine fx_o2 (fx_qs rfl ?_)
      show fx_W _ _ _ 17 lv6 [.ref w10b] _ _
      refine fx_s2 (j := 4) aj_d196 rfl (Nat.le_succ _) (by decide) (fun _ => rfl) ?_
      obtain ⟨lv12, elv12⟩ : ∃ l, l = aj_set1 lv6 4 (.ref w10b) := ⟨_, rfl⟩
      rw [← elv12]
      have hlv12_0 : aj_lv lv12 0 = some (.ref 52) := fx_e1 elv12 hlv6_0 (by decide) (Or.inl (by decide))
      have hlv12_3 : aj_lv lv12 3 = some (.null) := fx_e1 elv12 hlv6_3 (by decide) (Or.inr rfl)
      have hlv12_4 : aj_lv lv12 4 = some (.ref w10b) := by rw [elv12]; exact ak_set1_eq _ _ _
      show fx_W _ _ _ 19 lv12 [] _ _
      refine fx_i3 aj_d196 rfl (Nat.le_succ _) (fun _ => rfl) hlv12_3 ?_
      refine fx_n (pc' := 40) (lv' := lv12) (st' := []) aj_d196 rfl (Nat.le_succ _) (fun _ => rfl) ?_
      refine fx_n (pc' := 42) (lv' := lv12) (st' := [.int ((Int8.ofInt (-2)).toInt32)]) aj_d196 rfl (Nat.le_succ _) (fun _ => rfl) ?_
      exact fx_ri aj_d196 rfl ⟨_, rfl, 0, rfl, rfl⟩
  · skip
    refine fx_o2 (fx_qs rfl ?_)
    show fx_W _ _ _ 8 lv1 [.ref w5b] _ _
    refine fx_s2 (j := 3) aj_d196 rfl (Nat.le_succ _) (by decide) (fun _ => rfl) ?_
    obtain ⟨lv13, elv13⟩ : ∃ l, l = aj_set1 lv1 3 (.ref w5b) := ⟨_, rfl⟩
    rw [← elv13]
    have hlv13_0 : aj_lv lv13 0 = some (.ref 52) := fx_e1 elv13 hlv1_0 (by decide) (Or.inl (by decide))
    have hlv13_2 : aj_lv lv13 2 = some (.int p2) := fx_e1 elv13 hlv1_2 (by decide) (Or.inr rfl)
    have hlv13_3 : aj_lv lv13 3 = some (.ref w5b) := by rw [elv13]; exact ak_set1_eq _ _ _
    show fx_W _ _ _ 9 lv13 [] _ _
    refine fx_i2 aj_d196 rfl (Nat.le_succ _) (fun _ => rfl) hlv13_0 ?_
    refine fx_gR aj_d196 rfl (Nat.le_succ _) rfl rfl (Or.inl ⟨_, rfl⟩) (fun _ z => absurd (by decide) z) (fun b15 q14 => ?_)
    show fx_W _ _ _ 13 lv13 [.ref b15] _ _
    refine fx_qs q14 ?_
    refine fx_i0 aj_d196 rfl (Nat.le_succ _) (fun _ => rfl) hlv13_2 ?_
    refine fx_cv aj_d196 rfl (Nat.le_succ _) rfl [_] rfl rfl (gx_63_ok b15 p2) ?_
    rintro _ X16 ⟨w17, rfl, hR16⟩ hok16 hle16
    refine fx_qc hR16 ?_
    rcases w17 with _ | w17b
    · skip
      refine fx_o1 (fx_qa rfl ?_)
      show fx_W _ _ _ 17 lv13 [.null] _ _
      refine fx_s3 (j := 4) aj_d196 rfl (Nat.le_succ _) (by decide) (fun _ => rfl) ?_
      obtain ⟨lv18, elv18⟩ : ∃ l, l = aj_set1 lv13 4 (.null) := ⟨_, rfl⟩
      rw [← elv18]
      have hlv18_0 : aj_lv lv18 0 = some (.ref 52) := fx_e1 elv18 hlv13_0 (by decide) (Or.inl (by decide))
      have hlv18_3 : aj_lv lv18 3 = some (.ref w5b) := fx_e1 elv18 hlv13_3 (by decide) (Or.inr rfl)
      have hlv18_4 : aj_lv lv18 4 = some (.null) := by rw [elv18]; exact ak_set1_eq _ _ _
      show fx_W _ _ _ 19 lv18 [] _ _
      refine fx_i2 aj_d196 rfl (Nat.le_succ _) (fun _ => rfl) hlv18_3 ?_
      refine fx_n (pc' := 23) (lv' := lv18) (st' := []) aj_d196 rfl (Nat.le_succ _) (fun _ => rfl) ?_
      refine fx_i3 aj_d196 rfl (Nat.le_succ _) (fun _ => rfl) hlv18_4 ?_
      refine fx_n (pc' := 40) (lv' := lv18) (st' := []) aj_d196 rfl (Nat.le_succ _) (fun _ => rfl) ?_
      refine fx_n (pc' := 42) (lv' := lv18) (st' := [.int ((Int8.ofInt (-2)).toInt32)]) aj_d196 rfl (Nat.le_succ _) (fun _ => rfl) ?_
      exact fx_ri aj_d196 rfl ⟨_, rfl, 0, rfl, rfl⟩
    · skip
      refine fx_o2 (fx_qs rfl ?_)
      show fx_W _ _ _ 17 lv13 [.ref w17b] _ _
      refine fx_s2 (j := 4) aj_d196 rfl (Nat.le_succ _) (by decide) (fun _ => rfl) ?_
      obtain ⟨lv19, elv19⟩ : ∃ l, l = aj_set1 lv13 4 (.ref w17b) := ⟨_, rfl⟩
      rw [← elv19]
      have hlv19_0 : aj_lv lv19 0 = some (.ref 52) := fx_e1 elv19 hlv13_0 (by decide) (Or.inl (by decide))
      have hlv19_3 : aj_lv lv19 3 = some (.ref w5b) := fx_e1 elv19 hlv13_3 (by decide) (Or.inr rfl)
      have hlv19_4 : aj_lv lv19 4 = some (.ref w17b) := by rw [elv19]; exact ak_set1_eq _ _ _
      show fx_W _ _ _ 19 lv19 [] _ _
      refine fx_i2 aj_d196 rfl (Nat.le_succ _) (fun _ => rfl) hlv19_3 ?_
      refine fx_n (pc' := 23) (lv' := lv19) (st' := []) aj_d196 rfl (Nat.le_succ _) (fun _ => rfl) ?_
      refine fx_i2 aj_d196 rfl (Nat.le_succ _) (fun _ => rfl) hlv19_4 ?_
      refine fx_n (pc' := 28) (lv' := lv19) (st' := []) aj_d196 rfl (Nat.le_succ _) (fun _ => rfl) ?_
      refine fx_i2 aj_d196 rfl (Nat.le_succ _) (fun _ => rfl) hlv19_3 ?_
      refine fx_gI aj_d196 rfl (Nat.le_succ _) rfl rfl (Or.inl rfl) ?_
      refine fx_i2 aj_d196 rfl (Nat.le_succ _) (fun _ => rfl) hlv19_4 ?_
      refine fx_gI aj_d196 rfl (Nat.le_succ _) rfl rfl (Or.inl rfl) ?_
      refine fx_b (tgt := 43) aj_d196 rfl (Nat.le_succ _) rfl (fun q20 => ?_) (fun q20 => ?_)
      · skip
        refine fx_qi (c := ((X16.1 w5b 3)).toInt = ((X16.1 w17b 3)).toInt) (fx_t_eq q20) ?_
        show fx_W _ _ _ 43 lv19 [] _ _
        refine fx_n (pc' := 44) (lv' := lv19) (st' := [.int (Int32.ofInt 0)]) aj_d196 rfl (Nat.le_succ _) (fun _ => rfl) ?_
        refine fx_s0 (j := 5) aj_d196 rfl (Nat.le_succ _) (by decide) (fun _ => rfl) ?_
        obtain ⟨lv21, elv21⟩ : ∃ l, l = aj_set1 lv19 5 (.int (Int32.ofInt 0)) := ⟨_, rfl⟩
        rw [← elv21]
        have hlv21_0 : aj_lv lv21 0 = some (.ref 52) := fx_e1 elv21 hlv19_0 (by decide) (Or.inl (by decide))
        have hlv21_3 : aj_lv lv21 3 = some (.ref w5b) := fx_e1 elv21 hlv19_3 (by decide) (Or.inl (by decide))
        have hlv21_4 : aj_lv lv21 4 = some (.ref w17b) := fx_e1 elv21 hlv19_4 (by decide) (Or.inr rfl)
        have hlv21_5 : aj_lv lv21 5 = some (.int (Int32.ofInt 0)) := by rw [elv21]; exact ak_set1_eq _ _ _
        show fx_W _ _ _ 46 lv21 [] _ _
        exact ((gxL_196 p1 p2 N)) lv21 (w5b) (w17b) ((Int32.ofInt 0)) X16  hlv21_0 hlv21_3 hlv21_4 hlv21_5
      · skip
        refine fx_qe (c := ((X16.1 w5b 3)).toInt = ((X16.1 w17b 3)).toInt) (fx_f_eq q20) ?_
        show fx_W _ _ _ 40 lv19 [] _ _
        refine fx_n (pc' := 42) (lv' := lv19) (st' := [.int ((Int8.ofInt (-2)).toInt32)]) aj_d196 rfl (Nat.le_succ _) (fun _ => rfl) ?_
        exact fx_ri aj_d196 rfl ⟨_, rfl, 0, rfl, rfl⟩
def gx_198 (p1 : Int32) (X : fx_X) (v : Int32) (X' : fx_X) : Prop :=
  (if (p1).toInt = 0 then (∃ b5 : Nat, X.2.2.1 52 3 = some b5 ∧ v = (X.1 b5 14) ∧ X' = X) else ((if (p1).toInt = 1 then (∃ b8 : Nat, X.2.2.1 52 3 = some b8 ∧ v = (X.1 b8 13) ∧ X' = X) else ((if (p1).toInt = 2 then (∃ b11 : Nat, X.2.2.1 52 3 = some b11 ∧ v = (X.1 b11 11) ∧ X' = X) else ((if (p1).toInt = 3 then (∃ b14 : Nat, X.2.2.1 52 3 = some b14 ∧ v = (X.1 b14 12) ∧ X' = X) else ((if (p1).toInt = 4 then (∃ b17 : Nat, X.2.2.1 52 3 = some b17 ∧ v = (X.1 b17 15) ∧ X' = X) else ((if (p1).toInt = 5 then (∃ b20 : Nat, X.2.2.1 52 3 = some b20 ∧ v = (X.1 b20 16) ∧ X' = X) else ((if (p1).toInt = 6 then (v = (X.1 52 1) ∧ X' = X) else (v = (Int32.ofInt (-1)) ∧ X' = X))))))))))))))
theorem gx_198_ok {tb : aj_T} (p1 : Int32) {X : fx_X} : fx_K tb 198 [.ref 52, .int p1] X (fx_Q fx_qI (fun v X' => gx_198 p1 X v X')) := by
  refine fx_m aj_m198_at rfl (fun N => ?_)
  refine fx_mono (Q := fx_Q fx_qI (fun v X' => ∃ n : Nat, gx_198 p1 X v X')) (fun r X' ⟨v, e, _, z⟩ => ⟨v, e, z⟩) ?_
  unfold gx_198
  show fx_W _ _ _ 0 [(0, .ref 52), (1, .int p1)] [] _ _
  obtain ⟨lv1, elv1⟩ : ∃ l : aj_V, l = [(0, .ref 52), (1, .int p1)] := ⟨_, rfl⟩
  rw [← elv1]
  have hlv1_0 : aj_lv lv1 0 = some (.ref 52) := by rw [elv1]; rfl
  have hlv1_1 : aj_lv lv1 1 = some (.int p1) := by rw [elv1]; rfl
  refine fx_i0 aj_d198 rfl (Nat.le_succ _) (fun _ => rfl) hlv1_1 ?_
  by_cases q3 : (p1).toInt = 0
  · skip
    refine fx_qi (c := (p1).toInt = 0) q3 ?_
    refine fx_ts (tgt := 44) aj_d198 rfl (Nat.le_succ _) q3 (by decide) rfl rfl ?_
    show fx_W _ _ _ 44 lv1 [] _ _
    refine fx_i2 aj_d198 rfl (Nat.le_succ _) (fun _ => rfl) hlv1_0 ?_
    refine fx_gR aj_d198 rfl (Nat.le_succ _) rfl rfl (Or.inl ⟨_, rfl⟩) (fun _ z => absurd (by decide) z) (fun b5 q4 => ?_)
    show fx_W _ _ _ 48 lv1 [.ref b5] _ _
    refine fx_qs q4 ?_
    refine fx_gI aj_d198 rfl (Nat.le_succ _) rfl rfl (Or.inl rfl) ?_
    exact fx_ri aj_d198 rfl ⟨_, rfl, 0, rfl, rfl⟩
  · skip
    refine fx_qe (c := (p1).toInt = 0) q3 ?_
    by_cases q6 : (p1).toInt = 1
    · skip
      refine fx_qi (c := (p1).toInt = 1) q6 ?_
      refine fx_ts (tgt := 52) aj_d198 rfl (Nat.le_succ _) q6 (by decide) rfl rfl ?_
      show fx_W _ _ _ 52 lv1 [] _ _
      refine fx_i2 aj_d198 rfl (Nat.le_succ _) (fun _ => rfl) hlv1_0 ?_
      refine fx_gR aj_d198 rfl (Nat.le_succ _) rfl rfl (Or.inl ⟨_, rfl⟩) (fun _ z => absurd (by decide) z) (fun b8 q7 => ?_)
      show fx_W _ _ _ 56 lv1 [.ref b8] _ _
      refine fx_qs q7 ?_
      refine fx_gI aj_d198 rfl (Nat.le_succ _) rfl rfl (Or.inl rfl) ?_
      exact fx_ri aj_d198 rfl ⟨_, rfl, 0, rfl, rfl⟩
    · skip
      refine fx_qe (c := (p1).toInt = 1) q6 ?_
      by_cases q9 : (p1).toInt = 2
      · skip
        refine fx_qi (c := (p1).toInt = 2) q9 ?_
        refine fx_ts (tgt := 60) aj_d198 rfl (Nat.le_succ _) q9 (by decide) rfl rfl ?_
        show fx_W _ _ _ 60 lv1 [] _ _
        refine fx_i2 aj_d198 rfl (Nat.le_succ _) (fun _ => rfl) hlv1_0 ?_
        refine fx_gR aj_d198 rfl (Nat.le_succ _) rfl rfl (Or.inl ⟨_, rfl⟩) (fun _ z => absurd (by decide) z) (fun b11 q10 => ?_)
        show fx_W _ _ _ 64 lv1 [.ref b11] _ _
        refine fx_qs q10 ?_
        refine fx_gI aj_d198 rfl (Nat.le_succ _) rfl rfl (Or.inl rfl) ?_
        exact fx_ri aj_d198 rfl ⟨_, rfl, 0, rfl, rfl⟩
      · skip
        refine fx_qe (c := (p1).toInt = 2) q9 ?_
        by_cases q12 : (p1).toInt = 3
        · skip
          refine fx_qi (c := (p1).toInt = 3) q12 ?_
          refine fx_ts (tgt := 68) aj_d198 rfl (Nat.le_succ _) q12 (by decide) rfl rfl ?_
          show fx_W _ _ _ 68 lv1 [] _ _
          refine fx_i2 aj_d198 rfl (Nat.le_succ _) (fun _ => rfl) hlv1_0 ?_
          refine fx_gR aj_d198 rfl (Nat.le_succ _) rfl rfl (Or.inl ⟨_, rfl⟩) (fun _ z => absurd (by decide) z) (fun b14 q13 => ?_)
          show fx_W _ _ _ 72 lv1 [.ref b14] _ _
          refine fx_qs q13 ?_
          refine fx_gI aj_d198 rfl (Nat.le_succ _) rfl rfl (Or.inl rfl) ?_
          exact fx_ri aj_d198 rfl ⟨_, rfl, 0, rfl, rfl⟩
        · skip
          refine fx_qe (c := (p1).toInt = 3) q12 ?_
          by_cases q15 : (p1).toInt = 4
          · skip
            refine fx_qi (c := (p1).toInt = 4) q15 ?_
            refine fx_ts (tgt := 76) aj_d198 rfl (Nat.le_succ _) q15 (by decide) rfl rfl ?_
            show fx_W _ _ _ 76 lv1 [] _ _
            refine fx_i2 aj_d198 rfl (Nat.le_succ _) (fun _ => rfl) hlv1_0 ?_
            refine fx_gR aj_d198 rfl (Nat.le_succ _) rfl rfl (Or.inl ⟨_, rfl⟩) (fun _ z => absurd (by decide) z) (fun b17 q16 => ?_)
            show fx_W _ _ _ 80 lv1 [.ref b17] _ _
            refine fx_qs q16 ?_
            refine fx_gI aj_d198 rfl (Nat.le_succ _) rfl rfl (Or.inl rfl) ?_
            exact fx_ri aj_d198 rfl ⟨_, rfl, 0, rfl, rfl⟩
          · skip
            refine fx_qe (c := (p1).toInt = 4) q15 ?_
            by_cases q18 : (p1).toInt = 5
            · skip
              refine fx_qi (c := (p1).toInt = 5) q18 ?_
              refine fx_ts (tgt := 84) aj_d198 rfl (Nat.le_succ _) q18 (by decide) rfl rfl ?_
              show fx_W _ _ _ 84 lv1 [] _ _
              refine fx_i2 aj_d198 rfl (Nat.le_succ _) (fun _ => rfl) hlv1_0 ?_
              refine fx_gR aj_d198 rfl (Nat.le_succ _) rfl rfl (Or.inl ⟨_, rfl⟩) (fun _ z => absurd (by decide) z) (fun b20 q19 => ?_)
              show fx_W _ _ _ 88 lv1 [.ref b20] _ _
              refine fx_qs q19 ?_
              refine fx_gI aj_d198 rfl (Nat.le_succ _) rfl rfl (Or.inl rfl) ?_
              exact fx_ri aj_d198 rfl ⟨_, rfl, 0, rfl, rfl⟩
            · skip
              refine fx_qe (c := (p1).toInt = 5) q18 ?_
              by_cases q21 : (p1).toInt = 6
              · skip
                refine fx_qi (c := (p1).toInt = 6) q21 ?_
                refine fx_ts (tgt := 92) aj_d198 rfl (Nat.le_succ _) q21 (by decide) rfl rfl ?_
                show fx_W _ _ _ 92 lv1 [] _ _
                refine fx_i2 aj_d198 rfl (Nat.le_succ _) (fun _ => rfl) hlv1_0 ?_
                refine fx_gI aj_d198 rfl (Nat.le_succ _) rfl rfl (Or.inl rfl) ?_
                exact fx_ri aj_d198 rfl ⟨_, rfl, 0, rfl, rfl⟩
              · skip
                refine fx_qe (c := (p1).toInt = 6) q21 ?_
                refine fx_td (tgt := 97) aj_d198 rfl (Nat.le_succ _) (by omega) rfl ?_
                show fx_W _ _ _ 97 lv1 [] _ _
                refine fx_n (pc' := 98) (lv' := lv1) (st' := [.int (Int32.ofInt (-1))]) aj_d198 rfl (Nat.le_succ _) (fun _ => rfl) ?_
                exact fx_ri aj_d198 rfl ⟨_, rfl, 0, rfl, rfl⟩
def gxT_201_2 (p1 : Int32) (P : Nat → List Int32 → List Int64 → List Nat → fx_X → Unit → fx_X → Prop) (y2 : Int32) (X : fx_X) (v : Unit) (X' : fx_X) : Prop :=
  (if (y2).toInt < 0 then (X' = X) else ((0 ≤ ((X.1 117 23)).toInt ∧ ((X.1 117 23)).toInt < ((4000 : Nat) : Int)) ∧ ∃ X6 : fx_X, X6 = (fx_wI X 138 ((X.1 117 23)).toInt.toNat (aj_nar 4 (((((p1).toUInt32 >>> (((((Int8.ofInt 8).toInt32) * y2)).toUInt32 &&& Int32.toUInt32 31)).toInt32)).toInt8.toInt32))) ∧ ∃ X7 : fx_X, X7 = (fx_wI X6 117 23 ((X6.1 117 23) + (Int32.ofInt 1))) ∧ ∃ x8 : Int32, x8 = y2 + Int32.ofInt (-1) ∧ P 2 [x8] [] [] X7 v X'))
def gxE_201 (p1 : Int32) (P : Nat → List Int32 → List Int64 → List Nat → fx_X → Unit → fx_X → Prop) (X : fx_X) (v : Unit) (X' : fx_X) : Prop :=
  P 2 [(Int32.ofInt 3)] [] [] X v X'
noncomputable def gxF_201 (p1 : Int32) (n : Nat) : Nat → List Int32 → List Int64 → List Nat → fx_X → Unit → fx_X → Prop := Nat.rec (motive := fun _ => Nat → List Int32 → List Int64 → List Nat → fx_X → Unit → fx_X → Prop) (fun _ _ _ _ _ _ _ => False) (fun _ P l is ls rs X v X' => (l = 2 ∧ ∃ (y2 : Int32), is = [y2] ∧ ls = [] ∧ rs = [] ∧ gxT_201_2 p1 P y2 X v X')) n
theorem gxI_201_2 {p1 : Int32} {n : Nat} {y2 : Int32} {X : fx_X} {v : Unit} {X' : fx_X} (h : gxT_201_2 p1 (gxF_201 p1 n) y2 X v X') : gxF_201 p1 (n + 1) 2 [y2] [] [] X v X' := ⟨rfl, y2, rfl, rfl, rfl, h⟩
theorem gxO_201_2 {p1 : Int32} {n : Nat} {y2 : Int32} {X : fx_X} {v : Unit} {X' : fx_X} (h : gxF_201 p1 (n + 1) 2 [y2] [] [] X v X') : gxT_201_2 p1 (gxF_201 p1 n) y2 X v X' := by
  rcases h with ⟨-, _, e1, e2, e3, h⟩
  · cases e1; cases e2; cases e3; exact h
def gx_201 (p1 : Int32) (X : fx_X) (v : Unit) (X' : fx_X) : Prop := ∃ n : Nat, gxE_201 p1 (gxF_201 p1 n) X v X'
theorem gxL_201 {tb : aj_T} (p1 : Int32) : ∀ N : Nat, (∀ (lv : aj_V) (y2 : Int32) (X : fx_X), aj_lv lv 0 = some (.ref 117) → aj_lv lv 1 = some (.int p1) → aj_lv lv 2 = some (.int y2) → fx_W tb aj_m201 N 2 lv [] X (fx_Q fx_qN (fun v X' => ∃ n : Nat, gxF_201 p1 n 2 [y2] [] [] X v X'))) := by
  intro N
  induction N with
  | zero => exact (by intros; exact fx_z)
  | succ N ih =>
    skip
    · intro lv y2 X hlv_0 hlv_1 hlv_2
      refine fx_mono (Q := fx_Q fx_qN (fun v X' => ∃ n : Nat, gxT_201_2 p1 (gxF_201 p1 n) y2 X v X')) (fun r X' ⟨v, e, n, z⟩ => ⟨v, e, n + 1, gxI_201_2 z⟩) ?_
      unfold gxT_201_2
      refine fx_i0 aj_d201 rfl (Nat.le_refl _) (fun _ => rfl) hlv_2 ?_
      refine fx_b0 (tgt := 38) aj_d201 rfl (Nat.le_succ _) rfl (fun q3 => ?_) (fun q3 => ?_)
      · skip
        refine fx_qi (c := (y2).toInt < 0) (fx_t_lt q3) ?_
        show fx_W _ _ _ 38 lv [] _ _
        exact fx_rn aj_d201 rfl ⟨(), rfl, 0, rfl⟩
      · skip
        refine fx_qe (c := (y2).toInt < 0) (fx_f_lt q3) ?_
        show fx_W _ _ _ 6 lv [] _ _
        refine fx_i2 aj_d201 rfl (Nat.le_succ _) (fun _ => rfl) hlv_0 ?_
        refine fx_gF aj_d201 rfl (Nat.le_succ _) rfl rfl fx_in_11_22 (t := 138) rfl (fun hA4 => ?_)
        refine fx_i2 aj_d201 rfl (Nat.le_succ _) (fun _ => rfl) hlv_0 ?_
        refine fx_gI aj_d201 rfl (Nat.le_succ _) rfl rfl (Or.inl rfl) ?_
        refine fx_i0 aj_d201 rfl (Nat.le_succ _) (fun _ => rfl) hlv_1 ?_
        refine fx_n (pc' := 17) (lv' := lv) (st' := [.int ((Int8.ofInt 8).toInt32), .int p1, .int (X.1 117 23), .ref 138]) aj_d201 rfl (Nat.le_succ _) (fun _ => rfl) ?_
        refine fx_i0 aj_d201 rfl (Nat.le_succ _) (fun _ => rfl) hlv_2 ?_
        refine fx_n (pc' := 19) (lv' := lv) (st' := [.int (((Int8.ofInt 8).toInt32) * y2), .int p1, .int (X.1 117 23), .ref 138]) aj_d201 rfl (Nat.le_succ _) (fun _ => rfl) ?_
        refine fx_n (pc' := 20) (lv' := lv) (st' := [.int (((p1).toUInt32 >>> (((((Int8.ofInt 8).toInt32) * y2)).toUInt32 &&& Int32.toUInt32 31)).toInt32), .int (X.1 117 23), .ref 138]) aj_d201 rfl (Nat.le_succ _) (fun _ => rfl) ?_
        refine fx_n (pc' := 21) (lv' := lv) (st' := [.int (((((p1).toUInt32 >>> (((((Int8.ofInt 8).toInt32) * y2)).toUInt32 &&& Int32.toUInt32 31)).toInt32)).toInt8.toInt32), .int (X.1 117 23), .ref 138]) aj_d201 rfl (Nat.le_succ _) (fun _ => rfl) ?_
        refine fx_sb (kd := 4) aj_d201 rfl (Nat.le_succ _) hA4 (fun g50 g51 => ?_)
        refine fx_qa (c := 0 ≤ ((X.1 117 23)).toInt ∧ ((X.1 117 23)).toInt < ((4000 : Nat) : Int)) ⟨g50, fx_lnk g51 hA4⟩ ?_
        refine fx_qX (fun X6 eX6 => ?_)
        show fx_W _ _ _ 22 lv [] _ _
        refine fx_i2 aj_d201 rfl (Nat.le_succ _) (fun _ => rfl) hlv_0 ?_
        refine fx_n (pc' := 24) (lv' := lv) (st' := [.ref 117, .ref 117]) aj_d201 rfl (Nat.le_succ _) (fun _ => rfl) ?_
        refine fx_gI aj_d201 rfl (Nat.le_succ _) rfl rfl (Or.inl rfl) ?_
        refine fx_n (pc' := 28) (lv' := lv) (st' := [.int (Int32.ofInt 1), .int (X6.1 117 23), .ref 117]) aj_d201 rfl (Nat.le_succ _) (fun _ => rfl) ?_
        refine fx_n (pc' := 29) (lv' := lv) (st' := [.int ((X6.1 117 23) + (Int32.ofInt 1)), .ref 117]) aj_d201 rfl (Nat.le_succ _) (fun _ => rfl) ?_
        refine fx_pI aj_d201 rfl (Nat.le_succ _) rfl rfl (Or.inl rfl) fx_no_11_23 (by decide) ?_
        refine fx_qX (fun X7 eX7 => ?_)
        show fx_W _ _ _ 32 lv [] _ _
        refine fx_incq aj_d201 rfl (Nat.le_succ _) hlv_2 (by decide) (fun x8 ex8 => ?_)
        obtain ⟨lv9, elv9⟩ : ∃ l, l = aj_set1 lv 2 (.int x8) := ⟨_, rfl⟩
        rw [← elv9]
        have hlv9_0 : aj_lv lv9 0 = some (.ref 117) := fx_e1 elv9 hlv_0 (by decide) (Or.inl (by decide))
        have hlv9_1 : aj_lv lv9 1 = some (.int p1) := fx_e1 elv9 hlv_1 (by decide) (Or.inr rfl)
        have hlv9_2 : aj_lv lv9 2 = some (.int x8) := by rw [elv9]; exact ak_set1_eq _ _ _
        show fx_W _ _ _ 35 lv9 [] _ _
        refine fx_n (pc' := 2) (lv' := lv9) (st' := []) aj_d201 rfl (Nat.le_succ _) (fun _ => rfl) ?_
        exact (ih) lv9 (x8) X7  hlv9_0 hlv9_1 hlv9_2
theorem gx_201_ok {tb : aj_T} (p1 : Int32) {X : fx_X} : fx_K tb 201 [.ref 117, .int p1] X (fx_Q fx_qN (fun v X' => gx_201 p1 X v X')) := by
  refine fx_m aj_m201_at rfl (fun N => ?_)
  refine fx_mono (Q := fx_Q fx_qN (fun v X' => ∃ n : Nat, gxE_201 p1 (gxF_201 p1 n) X v X')) (fun r X' h => h) ?_
  unfold gxE_201
  show fx_W _ _ _ 0 [(0, .ref 117), (1, .int p1)] [] _ _
  obtain ⟨lv1, elv1⟩ : ∃ l : aj_V, l = [(0, .ref 117), (1, .int p1)] := ⟨_, rfl⟩
  rw [← elv1]
  have hlv1_0 : aj_lv lv1 0 = some (.ref 117) := by rw [elv1]; rfl
  have hlv1_1 : aj_lv lv1 1 = some (.int p1) := by rw [elv1]; rfl
  refine fx_n (pc' := 1) (lv' := lv1) (st' := [.int (Int32.ofInt 3)]) aj_d201 rfl (Nat.le_succ _) (fun _ => rfl) ?_
  refine fx_s0 (j := 2) aj_d201 rfl (Nat.le_succ _) (by decide) (fun _ => rfl) ?_
  obtain ⟨lv2, elv2⟩ : ∃ l, l = aj_set1 lv1 2 (.int (Int32.ofInt 3)) := ⟨_, rfl⟩
  rw [← elv2]
  have hlv2_0 : aj_lv lv2 0 = some (.ref 117) := fx_e1 elv2 hlv1_0 (by decide) (Or.inl (by decide))
  have hlv2_1 : aj_lv lv2 1 = some (.int p1) := fx_e1 elv2 hlv1_1 (by decide) (Or.inr rfl)
  have hlv2_2 : aj_lv lv2 2 = some (.int (Int32.ofInt 3)) := by rw [elv2]; exact ak_set1_eq _ _ _
  show fx_W _ _ _ 2 lv2 [] _ _
  exact ((gxL_201 p1 N)) lv2 ((Int32.ofInt 3)) X  hlv2_0 hlv2_1 hlv2_2
def gx_200 (p1 : Int32) (p2 : Int32) (p3 : Int32) (p4 : Int32) (p5 : Int32) (X : fx_X) (v : Int32) (X' : fx_X) : Prop :=
  (if 4000 < (((X.1 117 23) + ((Int8.ofInt 20).toInt32))).toInt then (v = (Int32.ofInt (-1)) ∧ X' = X) else (∃ (w4 : Unit) (X3 : fx_X), gx_201 p1 X w4 X3 ∧ ∃ (w6 : Unit) (X5 : fx_X), gx_201 p2 X3 w6 X5 ∧ ∃ (w8 : Unit) (X7 : fx_X), gx_201 p3 X5 w8 X7 ∧ ∃ (w10 : Unit) (X9 : fx_X), gx_201 p4 X7 w10 X9 ∧ ∃ (w12 : Unit) (X11 : fx_X), gx_201 p5 X9 w12 X11 ∧ v = (X11.1 117 23) ∧ X' = X11))
theorem gx_200_ok {tb : aj_T} (p1 : Int32) (p2 : Int32) (p3 : Int32) (p4 : Int32) (p5 : Int32) {X : fx_X} : fx_K tb 200 [.ref 117, .int p1, .int p2, .int p3, .int p4, .int p5] X (fx_Q fx_qI (fun v X' => gx_200 p1 p2 p3 p4 p5 X v X')) := by
  refine fx_m aj_m200_at rfl (fun N => ?_)
  refine fx_mono (Q := fx_Q fx_qI (fun v X' => ∃ n : Nat, gx_200 p1 p2 p3 p4 p5 X v X')) (fun r X' ⟨v, e, _, z⟩ => ⟨v, e, z⟩) ?_
  unfold gx_200
  show fx_W _ _ _ 0 [(0, .ref 117), (1, .int p1), (2, .int p2), (3, .int p3), (4, .int p4), (5, .int p5)] [] _ _
  obtain ⟨lv1, elv1⟩ : ∃ l : aj_V, l = [(0, .ref 117), (1, .int p1), (2, .int p2), (3, .int p3), (4, .int p4), (5, .int p5)] := ⟨_, rfl⟩
  rw [← elv1]
  have hlv1_0 : aj_lv lv1 0 = some (.ref 117) := by rw [elv1]; rfl
  have hlv1_1 : aj_lv lv1 1 = some (.int p1) := by rw [elv1]; rfl
  have hlv1_2 : aj_lv lv1 2 = some (.int p2) := by rw [elv1]; rfl
  have hlv1_3 : aj_lv lv1 3 = some (.int p3) := by rw [elv1]; rfl
  have hlv1_4 : aj_lv lv1 4 = some (.int p4) := by rw [elv1]; rfl
  have hlv1_5 : aj_lv lv1 5 = some (.int p5) := by rw [elv1]; rfl
  refine fx_i2 aj_d200 rfl (Nat.le_succ _) (fun _ => rfl) hlv1_0 ?_
  refine fx_gI aj_d200 rfl (Nat.le_succ _) rfl rfl (Or.inl rfl) ?_
  refine fx_n (pc' := 6) (lv' := lv1) (st' := [.int ((Int8.ofInt 20).toInt32), .int (X.1 117 23)]) aj_d200 rfl (Nat.le_succ _) (fun _ => rfl) ?_
  refine fx_n (pc' := 7) (lv' := lv1) (st' := [.int ((X.1 117 23) + ((Int8.ofInt 20).toInt32))]) aj_d200 rfl (Nat.le_succ _) (fun _ => rfl) ?_
  refine fx_n (pc' := 10) (lv' := lv1) (st' := [.int ((Int16.ofInt 4000).toInt32), .int ((X.1 117 23) + ((Int8.ofInt 20).toInt32))]) aj_d200 rfl (Nat.le_succ _) (fun _ => rfl) ?_
  refine fx_b (tgt := 15) aj_d200 rfl (Nat.le_succ _) rfl (fun q2 => ?_) (fun q2 => ?_)
  · skip
    refine fx_qe (c := 4000 < (((X.1 117 23) + ((Int8.ofInt 20).toInt32))).toInt) (fx_t_le q2) ?_
    show fx_W _ _ _ 15 lv1 [] _ _
    refine fx_i2 aj_d200 rfl (Nat.le_succ _) (fun _ => rfl) hlv1_0 ?_
    refine fx_i0 aj_d200 rfl (Nat.le_succ _) (fun _ => rfl) hlv1_1 ?_
    refine fx_cv aj_d200 rfl (Nat.le_succ _) rfl [_] rfl rfl (gx_201_ok p1) ?_
    rintro _ X3 ⟨w4, rfl, hR3⟩ hok3 hle3
    refine fx_qc hR3 ?_
    show fx_W _ _ _ 20 lv1 [] _ _
    refine fx_i2 aj_d200 rfl (Nat.le_succ _) (fun _ => rfl) hlv1_0 ?_
    refine fx_i0 aj_d200 rfl (Nat.le_succ _) (fun _ => rfl) hlv1_2 ?_
    refine fx_cv aj_d200 rfl (Nat.le_succ _) rfl [_] rfl rfl (gx_201_ok p2) ?_
    rintro _ X5 ⟨w6, rfl, hR5⟩ hok5 hle5
    refine fx_qc hR5 ?_
    show fx_W _ _ _ 25 lv1 [] _ _
    refine fx_i2 aj_d200 rfl (Nat.le_succ _) (fun _ => rfl) hlv1_0 ?_
    refine fx_i0 aj_d200 rfl (Nat.le_succ _) (fun _ => rfl) hlv1_3 ?_
    refine fx_cv aj_d200 rfl (Nat.le_succ _) rfl [_] rfl rfl (gx_201_ok p3) ?_
    rintro _ X7 ⟨w8, rfl, hR7⟩ hok7 hle7
    refine fx_qc hR7 ?_
    show fx_W _ _ _ 30 lv1 [] _ _
    refine fx_i2 aj_d200 rfl (Nat.le_succ _) (fun _ => rfl) hlv1_0 ?_
    refine fx_i0 aj_d200 rfl (Nat.le_succ _) (fun _ => rfl) hlv1_4 ?_
    refine fx_cv aj_d200 rfl (Nat.le_succ _) rfl [_] rfl rfl (gx_201_ok p4) ?_
    rintro _ X9 ⟨w10, rfl, hR9⟩ hok9 hle9
    refine fx_qc hR9 ?_
    show fx_W _ _ _ 36 lv1 [] _ _
    refine fx_i2 aj_d200 rfl (Nat.le_succ _) (fun _ => rfl) hlv1_0 ?_
    refine fx_i0 aj_d200 rfl (Nat.le_succ _) (fun _ => rfl) hlv1_5 ?_
    refine fx_cv aj_d200 rfl (Nat.le_succ _) rfl [_] rfl rfl (gx_201_ok p5) ?_
    rintro _ X11 ⟨w12, rfl, hR11⟩ hok11 hle11
    refine fx_qc hR11 ?_
    show fx_W _ _ _ 42 lv1 [] _ _
    refine fx_i2 aj_d200 rfl (Nat.le_succ _) (fun _ => rfl) hlv1_0 ?_
    refine fx_gI aj_d200 rfl (Nat.le_succ _) rfl rfl (Or.inl rfl) ?_
    exact fx_ri aj_d200 rfl ⟨_, rfl, 0, rfl, rfl⟩
  · skip
    refine fx_qi (c := 4000 < (((X.1 117 23) + ((Int8.ofInt 20).toInt32))).toInt) (fx_f_le q2) ?_
    show fx_W _ _ _ 13 lv1 [] _ _
    refine fx_n (pc' := 14) (lv' := lv1) (st' := [.int (Int32.ofInt (-1))]) aj_d200 rfl (Nat.le_succ _) (fun _ => rfl) ?_
    exact fx_ri aj_d200 rfl ⟨_, rfl, 0, rfl, rfl⟩
def gx_202 (p1 : Int32) (X : fx_X) (v : Int32) (X' : fx_X) : Prop :=
  (if (p1).toInt < 0 then (v = (Int32.ofInt (-1)) ∧ X' = X) else ((if ((X.1 117 23)).toInt < (p1).toInt then (v = (Int32.ofInt (-1)) ∧ X' = X) else (∃ X4 : fx_X, X4 = (fx_wI X 117 23 ((X.1 117 23) - p1)) ∧ v = (X4.1 117 23) ∧ X' = X4))))
theorem gx_202_ok {tb : aj_T} (p1 : Int32) {X : fx_X} : fx_K tb 202 [.ref 117, .int p1] X (fx_Q fx_qI (fun v X' => gx_202 p1 X v X')) := by
  refine fx_m aj_m202_at rfl (fun N => ?_)
  refine fx_mono (Q := fx_Q fx_qI (fun v X' => ∃ n : Nat, gx_202 p1 X v X')) (fun r X' ⟨v, e, _, z⟩ => ⟨v, e, z⟩) ?_
  unfold gx_202
  show fx_W _ _ _ 0 [(0, .ref 117), (1, .int p1)] [] _ _
  obtain ⟨lv1, elv1⟩ : ∃ l : aj_V, l = [(0, .ref 117), (1, .int p1)] := ⟨_, rfl⟩
  rw [← elv1]
  have hlv1_0 : aj_lv lv1 0 = some (.ref 117) := by rw [elv1]; rfl
  have hlv1_1 : aj_lv lv1 1 = some (.int p1) := by rw [elv1]; rfl
  refine fx_i0 aj_d202 rfl (Nat.le_succ _) (fun _ => rfl) hlv1_1 ?_
  refine fx_b0 (tgt := 12) aj_d202 rfl (Nat.le_succ _) rfl (fun q2 => ?_) (fun q2 => ?_)
  · skip
    refine fx_qi (c := (p1).toInt < 0) (fx_t_lt q2) ?_
    show fx_W _ _ _ 12 lv1 [] _ _
    refine fx_n (pc' := 13) (lv' := lv1) (st' := [.int (Int32.ofInt (-1))]) aj_d202 rfl (Nat.le_succ _) (fun _ => rfl) ?_
    exact fx_ri aj_d202 rfl ⟨_, rfl, 0, rfl, rfl⟩
  · skip
    refine fx_qe (c := (p1).toInt < 0) (fx_f_lt q2) ?_
    show fx_W _ _ _ 4 lv1 [] _ _
    refine fx_i0 aj_d202 rfl (Nat.le_succ _) (fun _ => rfl) hlv1_1 ?_
    refine fx_i2 aj_d202 rfl (Nat.le_succ _) (fun _ => rfl) hlv1_0 ?_
    refine fx_gI aj_d202 rfl (Nat.le_succ _) rfl rfl (Or.inl rfl) ?_
    refine fx_b (tgt := 14) aj_d202 rfl (Nat.le_succ _) rfl (fun q3 => ?_) (fun q3 => ?_)
    · skip
      refine fx_qe (c := ((X.1 117 23)).toInt < (p1).toInt) (fx_t_le q3) ?_
      show fx_W _ _ _ 14 lv1 [] _ _
      refine fx_i2 aj_d202 rfl (Nat.le_succ _) (fun _ => rfl) hlv1_0 ?_
      refine fx_n (pc' := 16) (lv' := lv1) (st' := [.ref 117, .ref 117]) aj_d202 rfl (Nat.le_succ _) (fun _ => rfl) ?_
      refine fx_gI aj_d202 rfl (Nat.le_succ _) rfl rfl (Or.inl rfl) ?_
      refine fx_i0 aj_d202 rfl (Nat.le_succ _) (fun _ => rfl) hlv1_1 ?_
      refine fx_n (pc' := 21) (lv' := lv1) (st' := [.int ((X.1 117 23) - p1), .ref 117]) aj_d202 rfl (Nat.le_succ _) (fun _ => rfl) ?_
      refine fx_pI aj_d202 rfl (Nat.le_succ _) rfl rfl (Or.inl rfl) fx_no_11_23 (by decide) ?_
      refine fx_qX (fun X4 eX4 => ?_)
      show fx_W _ _ _ 24 lv1 [] _ _
      refine fx_i2 aj_d202 rfl (Nat.le_succ _) (fun _ => rfl) hlv1_0 ?_
      refine fx_gI aj_d202 rfl (Nat.le_succ _) rfl rfl (Or.inl rfl) ?_
      exact fx_ri aj_d202 rfl ⟨_, rfl, 0, rfl, rfl⟩
    · skip
      refine fx_qi (c := ((X.1 117 23)).toInt < (p1).toInt) (fx_f_le q3) ?_
      show fx_W _ _ _ 12 lv1 [] _ _
      refine fx_n (pc' := 13) (lv' := lv1) (st' := [.int (Int32.ofInt (-1))]) aj_d202 rfl (Nat.le_succ _) (fun _ => rfl) ?_
      exact fx_ri aj_d202 rfl ⟨_, rfl, 0, rfl, rfl⟩
def gx_207 (p1 : Int32) (X : fx_X) (v : Int32) (X' : fx_X) : Prop :=
  (if (p1).toInt < ((X.1 117 23)).toInt then ((0 ≤ (p1).toInt ∧ (p1).toInt < ((4000 : Nat) : Int)) ∧ v = (X.1 138 (p1).toInt.toNat) ∧ X' = X) else (v = (Int32.ofInt 0) ∧ X' = X))
theorem gx_207_ok {tb : aj_T} (p1 : Int32) {X : fx_X} : fx_K tb 207 [.ref 117, .int p1] X (fx_Q fx_qI (fun v X' => gx_207 p1 X v X')) := by
  refine fx_m aj_m207_at rfl (fun N => ?_)
  refine fx_mono (Q := fx_Q fx_qI (fun v X' => ∃ n : Nat, gx_207 p1 X v X')) (fun r X' ⟨v, e, _, z⟩ => ⟨v, e, z⟩) ?_
  unfold gx_207
  show fx_W _ _ _ 0 [(0, .ref 117), (1, .int p1)] [] _ _
  obtain ⟨lv1, elv1⟩ : ∃ l : aj_V, l = [(0, .ref 117), (1, .int p1)] := ⟨_, rfl⟩
  rw [← elv1]
  have hlv1_0 : aj_lv lv1 0 = some (.ref 117) := by rw [elv1]; rfl
  have hlv1_1 : aj_lv lv1 1 = some (.int p1) := by rw [elv1]; rfl
  refine fx_i0 aj_d207 rfl (Nat.le_succ _) (fun _ => rfl) hlv1_1 ?_
  refine fx_i2 aj_d207 rfl (Nat.le_succ _) (fun _ => rfl) hlv1_0 ?_
  refine fx_gI aj_d207 rfl (Nat.le_succ _) rfl rfl (Or.inl rfl) ?_
  refine fx_b (tgt := 17) aj_d207 rfl (Nat.le_succ _) rfl (fun q2 => ?_) (fun q2 => ?_)
  · skip
    refine fx_qe (c := (p1).toInt < ((X.1 117 23)).toInt) (fx_t_ge q2) ?_
    show fx_W _ _ _ 17 lv1 [] _ _
    refine fx_n (pc' := 18) (lv' := lv1) (st' := [.int (Int32.ofInt 0)]) aj_d207 rfl (Nat.le_succ _) (fun _ => rfl) ?_
    exact fx_ri aj_d207 rfl ⟨_, rfl, 0, rfl, rfl⟩
  · skip
    refine fx_qi (c := (p1).toInt < ((X.1 117 23)).toInt) (fx_f_ge q2) ?_
    show fx_W _ _ _ 8 lv1 [] _ _
    refine fx_i2 aj_d207 rfl (Nat.le_succ _) (fun _ => rfl) hlv1_0 ?_
    refine fx_gF aj_d207 rfl (Nat.le_succ _) rfl rfl fx_in_11_22 (t := 138) rfl (fun hA3 => ?_)
    refine fx_i0 aj_d207 rfl (Nat.le_succ _) (fun _ => rfl) hlv1_1 ?_
    refine fx_ld aj_d207 (Or.inr (Or.inr rfl)) rfl (Nat.le_succ _) (fun g40 g41 => ?_)
    show fx_W _ _ _ 14 lv1 [.int (X.1 138 (p1).toInt.toNat)] _ _
    refine fx_qa (c := 0 ≤ (p1).toInt ∧ (p1).toInt < ((4000 : Nat) : Int)) ⟨g40, fx_lnk g41 hA3⟩ ?_
    refine fx_n (pc' := 18) (lv' := lv1) (st' := [.int (X.1 138 (p1).toInt.toNat)]) aj_d207 rfl (Nat.le_succ _) (fun _ => rfl) ?_
    exact fx_ri aj_d207 rfl ⟨_, rfl, 0, rfl, rfl⟩
def gx_208 (p1 : Int32) (X : fx_X) (v : Int32) (X' : fx_X) : Prop :=
  ∃ (w3 : Int32) (X2 : fx_X), gx_207 p1 X w3 X2 ∧ (if (w3).toInt < 97 then (v = (Int32.ofInt 0) ∧ X' = X2) else (∃ (w6 : Int32) (X5 : fx_X), gx_207 p1 X2 w6 X5 ∧ (if 122 < (w6).toInt then (v = (Int32.ofInt 0) ∧ X' = X5) else (v = (Int32.ofInt 1) ∧ X' = X5))))
theorem gx_208_ok {tb : aj_T} (p1 : Int32) {X : fx_X} : fx_K tb 208 [.ref 117, .int p1] X (fx_Q fx_qI (fun v X' => gx_208 p1 X v X')) := by
  refine fx_m aj_m208_at rfl (fun N => ?_)
  refine fx_mono (Q := fx_Q fx_qI (fun v X' => ∃ n : Nat, gx_208 p1 X v X')) (fun r X' ⟨v, e, _, z⟩ => ⟨v, e, z⟩) ?_
  unfold gx_208
  show fx_W _ _ _ 0 [(0, .ref 117), (1, .int p1)] [] _ _
  obtain ⟨lv1, elv1⟩ : ∃ l : aj_V, l = [(0, .ref 117), (1, .int p1)] := ⟨_, rfl⟩
  rw [← elv1]
  have hlv1_0 : aj_lv lv1 0 = some (.ref 117) := by rw [elv1]; rfl
  have hlv1_1 : aj_lv lv1 1 = some (.int p1) := by rw [elv1]; rfl
  refine fx_i2 aj_d208 rfl (Nat.le_succ _) (fun _ => rfl) hlv1_0 ?_
  refine fx_i0 aj_d208 rfl (Nat.le_succ _) (fun _ => rfl) hlv1_1 ?_
  refine fx_cv aj_d208 rfl (Nat.le_succ _) rfl [_] rfl rfl (gx_207_ok p1) ?_
  rintro _ X2 ⟨w3, rfl, hR2⟩ hok2 hle2
  refine fx_qc hR2 ?_
  show fx_W _ _ _ 5 lv1 [.int w3] _ _
  refine fx_n (pc' := 7) (lv' := lv1) (st' := [.int ((Int8.ofInt 97).toInt32), .int w3]) aj_d208 rfl (Nat.le_succ _) (fun _ => rfl) ?_
  refine fx_b (tgt := 24) aj_d208 rfl (Nat.le_succ _) rfl (fun q4 => ?_) (fun q4 => ?_)
  · skip
    refine fx_qi (c := (w3).toInt < 97) (fx_t_lt q4) ?_
    show fx_W _ _ _ 24 lv1 [] _ _
    refine fx_n (pc' := 25) (lv' := lv1) (st' := [.int (Int32.ofInt 0)]) aj_d208 rfl (Nat.le_succ _) (fun _ => rfl) ?_
    exact fx_ri aj_d208 rfl ⟨_, rfl, 0, rfl, rfl⟩
  · skip
    refine fx_qe (c := (w3).toInt < 97) (fx_f_lt q4) ?_
    show fx_W _ _ _ 10 lv1 [] _ _
    refine fx_i2 aj_d208 rfl (Nat.le_succ _) (fun _ => rfl) hlv1_0 ?_
    refine fx_i0 aj_d208 rfl (Nat.le_succ _) (fun _ => rfl) hlv1_1 ?_
    refine fx_cv aj_d208 rfl (Nat.le_succ _) rfl [_] rfl rfl (gx_207_ok p1) ?_
    rintro _ X5 ⟨w6, rfl, hR5⟩ hok5 hle5
    refine fx_qc hR5 ?_
    show fx_W _ _ _ 15 lv1 [.int w6] _ _
    refine fx_n (pc' := 17) (lv' := lv1) (st' := [.int ((Int8.ofInt 122).toInt32), .int w6]) aj_d208 rfl (Nat.le_succ _) (fun _ => rfl) ?_
    refine fx_b (tgt := 24) aj_d208 rfl (Nat.le_succ _) rfl (fun q7 => ?_) (fun q7 => ?_)
    · skip
      refine fx_qi (c := 122 < (w6).toInt) (fx_t_gt q7) ?_
      show fx_W _ _ _ 24 lv1 [] _ _
      refine fx_n (pc' := 25) (lv' := lv1) (st' := [.int (Int32.ofInt 0)]) aj_d208 rfl (Nat.le_succ _) (fun _ => rfl) ?_
      exact fx_ri aj_d208 rfl ⟨_, rfl, 0, rfl, rfl⟩
    · skip
      refine fx_qe (c := 122 < (w6).toInt) (fx_f_gt q7) ?_
      show fx_W _ _ _ 20 lv1 [] _ _
      refine fx_n (pc' := 21) (lv' := lv1) (st' := [.int (Int32.ofInt 1)]) aj_d208 rfl (Nat.le_succ _) (fun _ => rfl) ?_
      refine fx_n (pc' := 25) (lv' := lv1) (st' := [.int (Int32.ofInt 1)]) aj_d208 rfl (Nat.le_succ _) (fun _ => rfl) ?_
      exact fx_ri aj_d208 rfl ⟨_, rfl, 0, rfl, rfl⟩
def gx_209 (p1 : Int32) (X : fx_X) (v : Int32) (X' : fx_X) : Prop :=
  ∃ (w3 : Int32) (X2 : fx_X), gx_207 p1 X w3 X2 ∧ (if (w3).toInt < 48 then (v = (Int32.ofInt 0) ∧ X' = X2) else (∃ (w6 : Int32) (X5 : fx_X), gx_207 p1 X2 w6 X5 ∧ (if 57 < (w6).toInt then (v = (Int32.ofInt 0) ∧ X' = X5) else (v = (Int32.ofInt 1) ∧ X' = X5))))
theorem gx_209_ok {tb : aj_T} (p1 : Int32) {X : fx_X} : fx_K tb 209 [.ref 117, .int p1] X (fx_Q fx_qI (fun v X' => gx_209 p1 X v X')) := by
  refine fx_m aj_m209_at rfl (fun N => ?_)
  refine fx_mono (Q := fx_Q fx_qI (fun v X' => ∃ n : Nat, gx_209 p1 X v X')) (fun r X' ⟨v, e, _, z⟩ => ⟨v, e, z⟩) ?_
  unfold gx_209
  show fx_W _ _ _ 0 [(0, .ref 117), (1, .int p1)] [] _ _
  obtain ⟨lv1, elv1⟩ : ∃ l : aj_V, l = [(0, .ref 117), (1, .int p1)] := ⟨_, rfl⟩
  rw [← elv1]
  have hlv1_0 : aj_lv lv1 0 = some (.ref 117) := by rw [elv1]; rfl
  have hlv1_1 : aj_lv lv1 1 = some (.int p1) := by rw [elv1]; rfl
  refine fx_i2 aj_d209 rfl (Nat.le_succ _) (fun _ => rfl) hlv1_0 ?_
  refine fx_i0 aj_d209 rfl (Nat.le_succ _) (fun _ => rfl) hlv1_1 ?_
  refine fx_cv aj_d209 rfl (Nat.le_succ _) rfl [_] rfl rfl (gx_207_ok p1) ?_
  rintro _ X2 ⟨w3, rfl, hR2⟩ hok2 hle2
  refine fx_qc hR2 ?_
  show fx_W _ _ _ 5 lv1 [.int w3] _ _
  refine fx_n (pc' := 7) (lv' := lv1) (st' := [.int ((Int8.ofInt 48).toInt32), .int w3]) aj_d209 rfl (Nat.le_succ _) (fun _ => rfl) ?_
  refine fx_b (tgt := 24) aj_d209 rfl (Nat.le_succ _) rfl (fun q4 => ?_) (fun q4 => ?_)
  · skip
    refine fx_qi (c := (w3).toInt < 48) (fx_t_lt q4) ?_
    show fx_W _ _ _ 24 lv1 [] _ _
    refine fx_n (pc' := 25) (lv' := lv1) (st' := [.int (Int32.ofInt 0)]) aj_d209 rfl (Nat.le_succ _) (fun _ => rfl) ?_
    exact fx_ri aj_d209 rfl ⟨_, rfl, 0, rfl, rfl⟩
  · skip
    refine fx_qe (c := (w3).toInt < 48) (fx_f_lt q4) ?_
    show fx_W _ _ _ 10 lv1 [] _ _
    refine fx_i2 aj_d209 rfl (Nat.le_succ _) (fun _ => rfl) hlv1_0 ?_
    refine fx_i0 aj_d209 rfl (Nat.le_succ _) (fun _ => rfl) hlv1_1 ?_
    refine fx_cv aj_d209 rfl (Nat.le_succ _) rfl [_] rfl rfl (gx_207_ok p1) ?_
    rintro _ X5 ⟨w6, rfl, hR5⟩ hok5 hle5
    refine fx_qc hR5 ?_
    show fx_W _ _ _ 15 lv1 [.int w6] _ _
    refine fx_n (pc' := 17) (lv' := lv1) (st' := [.int ((Int8.ofInt 57).toInt32), .int w6]) aj_d209 rfl (Nat.le_succ _) (fun _ => rfl) ?_
    refine fx_b (tgt := 24) aj_d209 rfl (Nat.le_succ _) rfl (fun q7 => ?_) (fun q7 => ?_)
    · skip
      refine fx_qi (c := 57 < (w6).toInt) (fx_t_gt q7) ?_
      show fx_W _ _ _ 24 lv1 [] _ _
      refine fx_n (pc' := 25) (lv' := lv1) (st' := [.int (Int32.ofInt 0)]) aj_d209 rfl (Nat.le_succ _) (fun _ => rfl) ?_
      exact fx_ri aj_d209 rfl ⟨_, rfl, 0, rfl, rfl⟩
    · skip
      refine fx_qe (c := 57 < (w6).toInt) (fx_f_gt q7) ?_
      show fx_W _ _ _ 20 lv1 [] _ _
      refine fx_n (pc' := 21) (lv' := lv1) (st' := [.int (Int32.ofInt 1)]) aj_d209 rfl (Nat.le_succ _) (fun _ => rfl) ?_
      refine fx_n (pc' := 25) (lv' := lv1) (st' := [.int (Int32.ofInt 1)]) aj_d209 rfl (Nat.le_succ _) (fun _ => rfl) ?_
      exact fx_ri aj_d209 rfl ⟨_, rfl, 0, rfl, rfl⟩
def gxT_210_5 (p1 : Int32) (p2 : Int32) (P : Nat → List Int32 → List Int64 → List Nat → fx_X → Int64 → fx_X → Prop) (y3 : Int64) (y5 : Int32) (X : fx_X) (v : Int64) (X' : fx_X) : Prop :=
  (if (y5).toInt < (p2).toInt then ((0 ≤ (y5).toInt ∧ (y5).toInt < ((4000 : Nat) : Int)) ∧ ∃ x7 : Int64, x7 = ((y3 <<< ((((Int8.ofInt 8).toInt32)).toInt64 &&& 63)) ||| (((X.1 138 (y5).toInt.toNat)).toInt64)) ∧ ∃ x9 : Int32, x9 = y5 + Int32.ofInt 1 ∧ P 5 [x9] [x7] [] X v X') else (v = y3 ∧ X' = X))
def gxE_210 (p1 : Int32) (p2 : Int32) (P : Nat → List Int32 → List Int64 → List Nat → fx_X → Int64 → fx_X → Prop) (X : fx_X) (v : Int64) (X' : fx_X) : Prop :=
  P 5 [p1] [(Int64.ofNat 0)] [] X v X'
noncomputable def gxF_210 (p1 : Int32) (p2 : Int32) (n : Nat) : Nat → List Int32 → List Int64 → List Nat → fx_X → Int64 → fx_X → Prop := Nat.rec (motive := fun _ => Nat → List Int32 → List Int64 → List Nat → fx_X → Int64 → fx_X → Prop) (fun _ _ _ _ _ _ _ => False) (fun _ P l is ls rs X v X' => (l = 5 ∧ ∃ (y3 : Int64) (y5 : Int32), is = [y5] ∧ ls = [y3] ∧ rs = [] ∧ gxT_210_5 p1 p2 P y3 y5 X v X')) n
theorem gxI_210_5 {p1 : Int32} {p2 : Int32} {n : Nat} {y3 : Int64} {y5 : Int32} {X : fx_X} {v : Int64} {X' : fx_X} (h : gxT_210_5 p1 p2 (gxF_210 p1 p2 n) y3 y5 X v X') : gxF_210 p1 p2 (n + 1) 5 [y5] [y3] [] X v X' := ⟨rfl, y3, y5, rfl, rfl, rfl, h⟩
theorem gxO_210_5 {p1 : Int32} {p2 : Int32} {n : Nat} {y3 : Int64} {y5 : Int32} {X : fx_X} {v : Int64} {X' : fx_X} (h : gxF_210 p1 p2 (n + 1) 5 [y5] [y3] [] X v X') : gxT_210_5 p1 p2 (gxF_210 p1 p2 n) y3 y5 X v X' := by
  rcases h with ⟨-, _, _, e1, e2, e3, h⟩
  · cases e1; cases e2; cases e3; exact h
def gx_210 (p1 : Int32) (p2 : Int32) (X : fx_X) (v : Int64) (X' : fx_X) : Prop := ∃ n : Nat, gxE_210 p1 p2 (gxF_210 p1 p2 n) X v X'
theorem gxL_210 {tb : aj_T} (p1 : Int32) (p2 : Int32) : ∀ N : Nat, (∀ (lv : aj_V) (y3 : Int64) (y5 : Int32) (X : fx_X), aj_lv lv 0 = some (.ref 117) → aj_lv lv 2 = some (.int p2) → aj_lv lv 3 = some (.long y3) → aj_lv lv 5 = some (.int y5) → fx_W tb aj_m210 N 5 lv [] X (fx_Q fx_qL (fun v X' => ∃ n : Nat, gxF_210 p1 p2 n 5 [y5] [y3] [] X v X'))) := by
  intro N
  induction N with
  | zero => exact (by intros; exact fx_z)
  | succ N ih =>
    skip
    · intro lv y3 y5 X hlv_0 hlv_2 hlv_3 hlv_5
      refine fx_mono (Q := fx_Q fx_qL (fun v X' => ∃ n : Nat, gxT_210_5 p1 p2 (gxF_210 p1 p2 n) y3 y5 X v X')) (fun r X' ⟨v, e, n, z⟩ => ⟨v, e, n + 1, gxI_210_5 z⟩) ?_
      unfold gxT_210_5
      refine fx_i0 aj_d210 rfl (Nat.le_refl _) (fun _ => rfl) hlv_5 ?_
      refine fx_i0 aj_d210 rfl (Nat.le_succ _) (fun _ => rfl) hlv_2 ?_
      refine fx_b (tgt := 31) aj_d210 rfl (Nat.le_succ _) rfl (fun q4 => ?_) (fun q4 => ?_)
      · skip
        refine fx_qe (c := (y5).toInt < (p2).toInt) (fx_t_ge q4) ?_
        show fx_W _ _ _ 31 lv [] _ _
        refine fx_i1 aj_d210 rfl (Nat.le_succ _) (fun _ => rfl) hlv_3 ?_
        exact fx_rl aj_d210 rfl rfl ⟨_, rfl, 0, rfl, rfl⟩
      · skip
        refine fx_qi (c := (y5).toInt < (p2).toInt) (fx_f_ge q4) ?_
        show fx_W _ _ _ 11 lv [] _ _
        refine fx_i1 aj_d210 rfl (Nat.le_succ _) (fun _ => rfl) hlv_3 ?_
        refine fx_n (pc' := 14) (lv' := lv) (st' := [.int ((Int8.ofInt 8).toInt32), .long y3]) aj_d210 rfl (Nat.le_succ _) (fun _ => rfl) ?_
        refine fx_n (pc' := 15) (lv' := lv) (st' := [.long (y3 <<< ((((Int8.ofInt 8).toInt32)).toInt64 &&& 63))]) aj_d210 rfl (Nat.le_succ _) (fun _ => rfl) ?_
        refine fx_i2 aj_d210 rfl (Nat.le_succ _) (fun _ => rfl) hlv_0 ?_
        refine fx_gF aj_d210 rfl (Nat.le_succ _) rfl rfl fx_in_11_22 (t := 138) rfl (fun hA5 => ?_)
        refine fx_i0 aj_d210 rfl (Nat.le_succ _) (fun _ => rfl) hlv_5 ?_
        refine fx_ld aj_d210 (Or.inr (Or.inr rfl)) rfl (Nat.le_succ _) (fun g60 g61 => ?_)
        show fx_W _ _ _ 22 lv [.int (X.1 138 (y5).toInt.toNat), .long (y3 <<< ((((Int8.ofInt 8).toInt32)).toInt64 &&& 63))] _ _
        refine fx_qa (c := 0 ≤ (y5).toInt ∧ (y5).toInt < ((4000 : Nat) : Int)) ⟨g60, fx_lnk g61 hA5⟩ ?_
        refine fx_n (pc' := 23) (lv' := lv) (st' := [.long (((X.1 138 (y5).toInt.toNat)).toInt64), .long (y3 <<< ((((Int8.ofInt 8).toInt32)).toInt64 &&& 63))]) aj_d210 rfl (Nat.le_succ _) (fun _ => rfl) ?_
        refine fx_n (pc' := 24) (lv' := lv) (st' := [.long ((y3 <<< ((((Int8.ofInt 8).toInt32)).toInt64 &&& 63)) ||| (((X.1 138 (y5).toInt.toNat)).toInt64))]) aj_d210 rfl (Nat.le_succ _) (fun _ => rfl) ?_
        refine fx_qxL (fun x7 ex7 => ?_)
        refine fx_s1 (j := 3) aj_d210 rfl (Nat.le_succ _) (by decide) (fun _ => rfl) ?_
        obtain ⟨lv8, elv8⟩ : ∃ l, l = aj_set2 lv 3 (.long x7) := ⟨_, rfl⟩
        rw [← elv8]
        have hlv8_0 : aj_lv lv8 0 = some (.ref 117) := fx_e2 elv8 hlv_0 (by decide) (by decide) (Or.inl (by decide))
        have hlv8_2 : aj_lv lv8 2 = some (.int p2) := fx_e2 elv8 hlv_2 (by decide) (by decide) (Or.inr rfl)
        have hlv8_5 : aj_lv lv8 5 = some (.int y5) := fx_e2 elv8 hlv_5 (by decide) (by decide) (Or.inl (by decide))
        have hlv8_3 : aj_lv lv8 3 = some (.long x7) := by rw [elv8]; exact ak_set2_eq _ _ _
        show fx_W _ _ _ 25 lv8 [] _ _
        refine fx_incq aj_d210 rfl (Nat.le_succ _) hlv8_5 (by decide) (fun x9 ex9 => ?_)
        obtain ⟨lv10, elv10⟩ : ∃ l, l = aj_set1 lv8 5 (.int x9) := ⟨_, rfl⟩
        rw [← elv10]
        have hlv10_0 : aj_lv lv10 0 = some (.ref 117) := fx_e1 elv10 hlv8_0 (by decide) (Or.inl (by decide))
        have hlv10_2 : aj_lv lv10 2 = some (.int p2) := fx_e1 elv10 hlv8_2 (by decide) (Or.inl (by decide))
        have hlv10_3 : aj_lv lv10 3 = some (.long x7) := fx_e1 elv10 hlv8_3 (by decide) (Or.inl (by decide))
        have hlv10_5 : aj_lv lv10 5 = some (.int x9) := by rw [elv10]; exact ak_set1_eq _ _ _
        show fx_W _ _ _ 28 lv10 [] _ _
        refine fx_n (pc' := 5) (lv' := lv10) (st' := []) aj_d210 rfl (Nat.le_succ _) (fun _ => rfl) ?_
        exact (ih) lv10 (x7) (x9) X  hlv10_0 hlv10_2 hlv10_3 hlv10_5
theorem gx_210_ok {tb : aj_T} (p1 : Int32) (p2 : Int32) {X : fx_X} : fx_K tb 210 [.ref 117, .int p1, .int p2] X (fx_Q fx_qL (fun v X' => gx_210 p1 p2 X v X')) := by
  refine fx_m aj_m210_at rfl (fun N => ?_)
  refine fx_mono (Q := fx_Q fx_qL (fun v X' => ∃ n : Nat, gxE_210 p1 p2 (gxF_210 p1 p2 n) X v X')) (fun r X' h => h) ?_
  unfold gxE_210
  show fx_W _ _ _ 0 [(0, .ref 117), (1, .int p1), (2, .int p2)] [] _ _
  obtain ⟨lv1, elv1⟩ : ∃ l : aj_V, l = [(0, .ref 117), (1, .int p1), (2, .int p2)] := ⟨_, rfl⟩
  rw [← elv1]
  have hlv1_0 : aj_lv lv1 0 = some (.ref 117) := by rw [elv1]; rfl
  have hlv1_1 : aj_lv lv1 1 = some (.int p1) := by rw [elv1]; rfl
  have hlv1_2 : aj_lv lv1 2 = some (.int p2) := by rw [elv1]; rfl
  refine fx_n (pc' := 1) (lv' := lv1) (st' := [.long (Int64.ofNat 0)]) aj_d210 rfl (Nat.le_succ _) (fun _ => rfl) ?_
  refine fx_s1 (j := 3) aj_d210 rfl (Nat.le_succ _) (by decide) (fun _ => rfl) ?_
  obtain ⟨lv2, elv2⟩ : ∃ l, l = aj_set2 lv1 3 (.long (Int64.ofNat 0)) := ⟨_, rfl⟩
  rw [← elv2]
  have hlv2_0 : aj_lv lv2 0 = some (.ref 117) := fx_e2 elv2 hlv1_0 (by decide) (by decide) (Or.inl (by decide))
  have hlv2_1 : aj_lv lv2 1 = some (.int p1) := fx_e2 elv2 hlv1_1 (by decide) (by decide) (Or.inl (by decide))
  have hlv2_2 : aj_lv lv2 2 = some (.int p2) := fx_e2 elv2 hlv1_2 (by decide) (by decide) (Or.inr rfl)
  have hlv2_3 : aj_lv lv2 3 = some (.long (Int64.ofNat 0)) := by rw [elv2]; exact ak_set2_eq _ _ _
  show fx_W _ _ _ 2 lv2 [] _ _
  refine fx_i0 aj_d210 rfl (Nat.le_succ _) (fun _ => rfl) hlv2_1 ?_
  refine fx_s0 (j := 5) aj_d210 rfl (Nat.le_succ _) (by decide) (fun _ => rfl) ?_
  obtain ⟨lv3, elv3⟩ : ∃ l, l = aj_set1 lv2 5 (.int p1) := ⟨_, rfl⟩
  rw [← elv3]
  have hlv3_0 : aj_lv lv3 0 = some (.ref 117) := fx_e1 elv3 hlv2_0 (by decide) (Or.inl (by decide))
  have hlv3_2 : aj_lv lv3 2 = some (.int p2) := fx_e1 elv3 hlv2_2 (by decide) (Or.inl (by decide))
  have hlv3_3 : aj_lv lv3 3 = some (.long (Int64.ofNat 0)) := fx_e1 elv3 hlv2_3 (by decide) (Or.inl (by decide))
  have hlv3_5 : aj_lv lv3 5 = some (.int p1) := by rw [elv3]; exact ak_set1_eq _ _ _
  show fx_W _ _ _ 5 lv3 [] _ _
  exact ((gxL_210 p1 p2 N)) lv3 ((Int64.ofNat 0)) (p1) X  hlv3_0 hlv3_2 hlv3_3 hlv3_5
def gx_211 (p0 : Int64) (X : fx_X) (v : Int32) (X' : fx_X) : Prop :=
  (if p0 = (Int64.ofInt 33053979968501614) then (v = (Int32.ofInt 0) ∧ X' = X) else ((if p0 = (Int64.ofInt 499850046565) then (v = (Int32.ofInt 1) ∧ X' = X) else ((if p0 = (Int64.ofInt 7499639) then (v = (Int32.ofInt 2) ∧ X' = X) else ((if p0 = (Int64.ofInt 26982) then (v = (Int32.ofInt 3) ∧ X' = X) else ((if p0 = (Int64.ofInt 107118487239027) then (v = (Int32.ofInt 4) ∧ X' = X) else ((if p0 = (Int64.ofInt 107127011501426) then (v = (Int32.ofInt 5) ∧ X' = X) else ((if p0 = (Int64.ofInt 427071729268) then (v = ((Int8.ofInt 6).toInt32) ∧ X' = X) else ((if p0 = (Int64.ofInt 465557353332) then (v = ((Int8.ofInt 7).toInt32) ∧ X' = X) else ((if p0 = (Int64.ofInt 1836020596) then (v = ((Int8.ofInt 8).toInt32) ∧ X' = X) else ((if p0 = (Int64.ofInt 7566701) then (v = ((Int8.ofInt 9).toInt32) ∧ X' = X) else (v = (Int32.ofInt (-1)) ∧ X' = X))))))))))))))))))))
theorem gx_211_ok {tb : aj_T} (p0 : Int64) {X : fx_X} : fx_K tb 211 [.long p0] X (fx_Q fx_qI (fun v X' => gx_211 p0 X v X')) := by
  refine fx_m aj_m211_at rfl (fun N => ?_)
  refine fx_mono (Q := fx_Q fx_qI (fun v X' => ∃ n : Nat, gx_211 p0 X v X')) (fun r X' ⟨v, e, _, z⟩ => ⟨v, e, z⟩) ?_
  unfold gx_211
  show fx_W _ _ _ 0 [(0, .long p0)] [] _ _
  obtain ⟨lv1, elv1⟩ : ∃ l : aj_V, l = [(0, .long p0)] := ⟨_, rfl⟩
  rw [← elv1]
  have hlv1_0 : aj_lv lv1 0 = some (.long p0) := by rw [elv1]; rfl
  refine fx_i1 aj_d211 rfl (Nat.le_succ _) (fun _ => rfl) hlv1_0 ?_
  refine fx_n (pc' := 4) (lv' := lv1) (st' := [.long (Int64.ofInt 33053979968501614), .long p0]) aj_d211 rfl (Nat.le_succ _) (fun _ => rfl) ?_
  refine fx_n (pc' := 5) (lv' := lv1) (st' := [.int (lg_cmp p0 (Int64.ofInt 33053979968501614))]) aj_d211 rfl (Nat.le_succ _) (fun _ => rfl) ?_
  refine fx_b0 (tgt := 10) aj_d211 rfl (Nat.le_succ _) rfl (fun q2 => ?_) (fun q2 => ?_)
  · skip
    refine fx_qe (c := p0 = (Int64.ofInt 33053979968501614)) (fun z => (fx_t_ne q2) (fx_lc.mpr z)) ?_
    show fx_W _ _ _ 10 lv1 [] _ _
    refine fx_i1 aj_d211 rfl (Nat.le_succ _) (fun _ => rfl) hlv1_0 ?_
    refine fx_n (pc' := 14) (lv' := lv1) (st' := [.long (Int64.ofInt 499850046565), .long p0]) aj_d211 rfl (Nat.le_succ _) (fun _ => rfl) ?_
    refine fx_n (pc' := 15) (lv' := lv1) (st' := [.int (lg_cmp p0 (Int64.ofInt 499850046565))]) aj_d211 rfl (Nat.le_succ _) (fun _ => rfl) ?_
    refine fx_b0 (tgt := 20) aj_d211 rfl (Nat.le_succ _) rfl (fun q3 => ?_) (fun q3 => ?_)
    · skip
      refine fx_qe (c := p0 = (Int64.ofInt 499850046565)) (fun z => (fx_t_ne q3) (fx_lc.mpr z)) ?_
      show fx_W _ _ _ 20 lv1 [] _ _
      refine fx_i1 aj_d211 rfl (Nat.le_succ _) (fun _ => rfl) hlv1_0 ?_
      refine fx_n (pc' := 24) (lv' := lv1) (st' := [.long (Int64.ofInt 7499639), .long p0]) aj_d211 rfl (Nat.le_succ _) (fun _ => rfl) ?_
      refine fx_n (pc' := 25) (lv' := lv1) (st' := [.int (lg_cmp p0 (Int64.ofInt 7499639))]) aj_d211 rfl (Nat.le_succ _) (fun _ => rfl) ?_
      refine fx_b0 (tgt := 30) aj_d211 rfl (Nat.le_succ _) rfl (fun q4 => ?_) (fun q4 => ?_)
      · skip
        refine fx_qe (c := p0 = (Int64.ofInt 7499639)) (fun z => (fx_t_ne q4) (fx_lc.mpr z)) ?_
        show fx_W _ _ _ 30 lv1 [] _ _
        refine fx_i1 aj_d211 rfl (Nat.le_succ _) (fun _ => rfl) hlv1_0 ?_
        refine fx_n (pc' := 34) (lv' := lv1) (st' := [.long (Int64.ofInt 26982), .long p0]) aj_d211 rfl (Nat.le_succ _) (fun _ => rfl) ?_
        refine fx_n (pc' := 35) (lv' := lv1) (st' := [.int (lg_cmp p0 (Int64.ofInt 26982))]) aj_d211 rfl (Nat.le_succ _) (fun _ => rfl) ?_
        refine fx_b0 (tgt := 40) aj_d211 rfl (Nat.le_succ _) rfl (fun q5 => ?_) (fun q5 => ?_)
        · skip
          refine fx_qe (c := p0 = (Int64.ofInt 26982)) (fun z => (fx_t_ne q5) (fx_lc.mpr z)) ?_
          show fx_W _ _ _ 40 lv1 [] _ _
          refine fx_i1 aj_d211 rfl (Nat.le_succ _) (fun _ => rfl) hlv1_0 ?_
          refine fx_n (pc' := 44) (lv' := lv1) (st' := [.long (Int64.ofInt 107118487239027), .long p0]) aj_d211 rfl (Nat.le_succ _) (fun _ => rfl) ?_
          refine fx_n (pc' := 45) (lv' := lv1) (st' := [.int (lg_cmp p0 (Int64.ofInt 107118487239027))]) aj_d211 rfl (Nat.le_succ _) (fun _ => rfl) ?_
          refine fx_b0 (tgt := 50) aj_d211 rfl (Nat.le_succ _) rfl (fun q6 => ?_) (fun q6 => ?_)
          · skip
            refine fx_qe (c := p0 = (Int64.ofInt 107118487239027)) (fun z => (fx_t_ne q6) (fx_lc.mpr z)) ?_
            show fx_W _ _ _ 50 lv1 [] _ _
            refine fx_i1 aj_d211 rfl (Nat.le_succ _) (fun _ => rfl) hlv1_0 ?_
            refine fx_n (pc' := 54) (lv' := lv1) (st' := [.long (Int64.ofInt 107127011501426), .long p0]) aj_d211 rfl (Nat.le_succ _) (fun _ => rfl) ?_
            refine fx_n (pc' := 55) (lv' := lv1) (st' := [.int (lg_cmp p0 (Int64.ofInt 107127011501426))]) aj_d211 rfl (Nat.le_succ _) (fun _ => rfl) ?_
            refine fx_b0 (tgt := 60) aj_d211 rfl (Nat.le_succ _) rfl (fun q7 => ?_) (fun q7 => ?_)
            · skip
              refine fx_qe (c := p0 = (Int64.ofInt 107127011501426)) (fun z => (fx_t_ne q7) (fx_lc.mpr z)) ?_
              show fx_W _ _ _ 60 lv1 [] _ _
              refine fx_i1 aj_d211 rfl (Nat.le_succ _) (fun _ => rfl) hlv1_0 ?_
              refine fx_n (pc' := 64) (lv' := lv1) (st' := [.long (Int64.ofInt 427071729268), .long p0]) aj_d211 rfl (Nat.le_succ _) (fun _ => rfl) ?_
              refine fx_n (pc' := 65) (lv' := lv1) (st' := [.int (lg_cmp p0 (Int64.ofInt 427071729268))]) aj_d211 rfl (Nat.le_succ _) (fun _ => rfl) ?_
              refine fx_b0 (tgt := 71) aj_d211 rfl (Nat.le_succ _) rfl (fun q8 => ?_) (fun q8 => ?_)
              · skip
                refine fx_qe (c := p0 = (Int64.ofInt 427071729268)) (fun z => (fx_t_ne q8) (fx_lc.mpr z)) ?_
                show fx_W _ _ _ 71 lv1 [] _ _
                refine fx_i1 aj_d211 rfl (Nat.le_succ _) (fun _ => rfl) hlv1_0 ?_
                refine fx_n (pc' := 75) (lv' := lv1) (st' := [.long (Int64.ofInt 465557353332), .long p0]) aj_d211 rfl (Nat.le_succ _) (fun _ => rfl) ?_
                refine fx_n (pc' := 76) (lv' := lv1) (st' := [.int (lg_cmp p0 (Int64.ofInt 465557353332))]) aj_d211 rfl (Nat.le_succ _) (fun _ => rfl) ?_
                refine fx_b0 (tgt := 82) aj_d211 rfl (Nat.le_succ _) rfl (fun q9 => ?_) (fun q9 => ?_)
                · skip
                  refine fx_qe (c := p0 = (Int64.ofInt 465557353332)) (fun z => (fx_t_ne q9) (fx_lc.mpr z)) ?_
                  show fx_W _ _ _ 82 lv1 [] _ _
                  refine fx_i1 aj_d211 rfl (Nat.le_succ _) (fun _ => rfl) hlv1_0 ?_
                  refine fx_n (pc' := 86) (lv' := lv1) (st' := [.long (Int64.ofInt 1836020596), .long p0]) aj_d211 rfl (Nat.le_succ _) (fun _ => rfl) ?_
                  refine fx_n (pc' := 87) (lv' := lv1) (st' := [.int (lg_cmp p0 (Int64.ofInt 1836020596))]) aj_d211 rfl (Nat.le_succ _) (fun _ => rfl) ?_
                  refine fx_b0 (tgt := 93) aj_d211 rfl (Nat.le_succ _) rfl (fun q10 => ?_) (fun q10 => ?_)
                  · skip
                    refine fx_qe (c := p0 = (Int64.ofInt 1836020596)) (fun z => (fx_t_ne q10) (fx_lc.mpr z)) ?_
                    show fx_W _ _ _ 93 lv1 [] _ _
                    refine fx_i1 aj_d211 rfl (Nat.le_succ _) (fun _ => rfl) hlv1_0 ?_
                    refine fx_n (pc' := 97) (lv' := lv1) (st' := [.long (Int64.ofInt 7566701), .long p0]) aj_d211 rfl (Nat.le_succ _) (fun _ => rfl) ?_
                    refine fx_n (pc' := 98) (lv' := lv1) (st' := [.int (lg_cmp p0 (Int64.ofInt 7566701))]) aj_d211 rfl (Nat.le_succ _) (fun _ => rfl) ?_
                    refine fx_b0 (tgt := 106) aj_d211 rfl (Nat.le_succ _) rfl (fun q11 => ?_) (fun q11 => ?_)
                    · skip
                      refine fx_qe (c := p0 = (Int64.ofInt 7566701)) (fun z => (fx_t_ne q11) (fx_lc.mpr z)) ?_
                      show fx_W _ _ _ 106 lv1 [] _ _
                      refine fx_n (pc' := 107) (lv' := lv1) (st' := [.int (Int32.ofInt (-1))]) aj_d211 rfl (Nat.le_succ _) (fun _ => rfl) ?_
                      exact fx_ri aj_d211 rfl ⟨_, rfl, 0, rfl, rfl⟩
                    · skip
                      refine fx_qi (c := p0 = (Int64.ofInt 7566701)) (fx_lc.mp (fx_f_ne q11)) ?_
                      show fx_W _ _ _ 101 lv1 [] _ _
                      refine fx_n (pc' := 103) (lv' := lv1) (st' := [.int ((Int8.ofInt 9).toInt32)]) aj_d211 rfl (Nat.le_succ _) (fun _ => rfl) ?_
                      refine fx_n (pc' := 107) (lv' := lv1) (st' := [.int ((Int8.ofInt 9).toInt32)]) aj_d211 rfl (Nat.le_succ _) (fun _ => rfl) ?_
                      exact fx_ri aj_d211 rfl ⟨_, rfl, 0, rfl, rfl⟩
                  · skip
                    refine fx_qi (c := p0 = (Int64.ofInt 1836020596)) (fx_lc.mp (fx_f_ne q10)) ?_
                    show fx_W _ _ _ 90 lv1 [] _ _
                    refine fx_n (pc' := 92) (lv' := lv1) (st' := [.int ((Int8.ofInt 8).toInt32)]) aj_d211 rfl (Nat.le_succ _) (fun _ => rfl) ?_
                    exact fx_ri aj_d211 rfl ⟨_, rfl, 0, rfl, rfl⟩
                · skip
                  refine fx_qi (c := p0 = (Int64.ofInt 465557353332)) (fx_lc.mp (fx_f_ne q9)) ?_
                  show fx_W _ _ _ 79 lv1 [] _ _
                  refine fx_n (pc' := 81) (lv' := lv1) (st' := [.int ((Int8.ofInt 7).toInt32)]) aj_d211 rfl (Nat.le_succ _) (fun _ => rfl) ?_
                  exact fx_ri aj_d211 rfl ⟨_, rfl, 0, rfl, rfl⟩
              · skip
                refine fx_qi (c := p0 = (Int64.ofInt 427071729268)) (fx_lc.mp (fx_f_ne q8)) ?_
                show fx_W _ _ _ 68 lv1 [] _ _
                refine fx_n (pc' := 70) (lv' := lv1) (st' := [.int ((Int8.ofInt 6).toInt32)]) aj_d211 rfl (Nat.le_succ _) (fun _ => rfl) ?_
                exact fx_ri aj_d211 rfl ⟨_, rfl, 0, rfl, rfl⟩
            · skip
              refine fx_qi (c := p0 = (Int64.ofInt 107127011501426)) (fx_lc.mp (fx_f_ne q7)) ?_
              show fx_W _ _ _ 58 lv1 [] _ _
              refine fx_n (pc' := 59) (lv' := lv1) (st' := [.int (Int32.ofInt 5)]) aj_d211 rfl (Nat.le_succ _) (fun _ => rfl) ?_
              exact fx_ri aj_d211 rfl ⟨_, rfl, 0, rfl, rfl⟩
          · skip
            refine fx_qi (c := p0 = (Int64.ofInt 107118487239027)) (fx_lc.mp (fx_f_ne q6)) ?_
            show fx_W _ _ _ 48 lv1 [] _ _
            refine fx_n (pc' := 49) (lv' := lv1) (st' := [.int (Int32.ofInt 4)]) aj_d211 rfl (Nat.le_succ _) (fun _ => rfl) ?_
            exact fx_ri aj_d211 rfl ⟨_, rfl, 0, rfl, rfl⟩
        · skip
          refine fx_qi (c := p0 = (Int64.ofInt 26982)) (fx_lc.mp (fx_f_ne q5)) ?_
          show fx_W _ _ _ 38 lv1 [] _ _
          refine fx_n (pc' := 39) (lv' := lv1) (st' := [.int (Int32.ofInt 3)]) aj_d211 rfl (Nat.le_succ _) (fun _ => rfl) ?_
          exact fx_ri aj_d211 rfl ⟨_, rfl, 0, rfl, rfl⟩
      · skip
        refine fx_qi (c := p0 = (Int64.ofInt 7499639)) (fx_lc.mp (fx_f_ne q4)) ?_
        show fx_W _ _ _ 28 lv1 [] _ _
        refine fx_n (pc' := 29) (lv' := lv1) (st' := [.int (Int32.ofInt 2)]) aj_d211 rfl (Nat.le_succ _) (fun _ => rfl) ?_
        exact fx_ri aj_d211 rfl ⟨_, rfl, 0, rfl, rfl⟩
    · skip
      refine fx_qi (c := p0 = (Int64.ofInt 499850046565)) (fx_lc.mp (fx_f_ne q3)) ?_
      show fx_W _ _ _ 18 lv1 [] _ _
      refine fx_n (pc' := 19) (lv' := lv1) (st' := [.int (Int32.ofInt 1)]) aj_d211 rfl (Nat.le_succ _) (fun _ => rfl) ?_
      exact fx_ri aj_d211 rfl ⟨_, rfl, 0, rfl, rfl⟩
  · skip
    refine fx_qi (c := p0 = (Int64.ofInt 33053979968501614)) (fx_lc.mp (fx_f_ne q2)) ?_
    show fx_W _ _ _ 8 lv1 [] _ _
    refine fx_n (pc' := 9) (lv' := lv1) (st' := [.int (Int32.ofInt 0)]) aj_d211 rfl (Nat.le_succ _) (fun _ => rfl) ?_
    exact fx_ri aj_d211 rfl ⟨_, rfl, 0, rfl, rfl⟩
def gxT_206_5 (P : Nat → List Int32 → List Int64 → List Nat → fx_X → Unit → fx_X → Prop) (y1 : Int32) (X : fx_X) (v : Unit) (X' : fx_X) : Prop :=
  (if (y1).toInt < ((X.1 117 23)).toInt then ((0 ≤ (y1).toInt ∧ (y1).toInt < ((4000 : Nat) : Int)) ∧ (if ((X.1 138 (y1).toInt.toNat)).toInt = 9 then (∃ x33 : Int32, x33 = y1 + Int32.ofInt 1 ∧ P 5 [x33] [] [] X v X') else ((0 ≤ (y1).toInt ∧ (y1).toInt < ((4000 : Nat) : Int)) ∧ (if ((X.1 138 (y1).toInt.toNat)).toInt = 10 then (∃ x38 : Int32, x38 = y1 + Int32.ofInt 1 ∧ P 5 [x38] [] [] X v X') else ((0 ≤ (y1).toInt ∧ (y1).toInt < ((4000 : Nat) : Int)) ∧ (if ((X.1 138 (y1).toInt.toNat)).toInt = 13 then (∃ x43 : Int32, x43 = y1 + Int32.ofInt 1 ∧ P 5 [x43] [] [] X v X') else ((0 ≤ (y1).toInt ∧ (y1).toInt < ((4000 : Nat) : Int)) ∧ (if ((X.1 138 (y1).toInt.toNat)).toInt = 32 then (∃ x73 : Int32, x73 = y1 + Int32.ofInt 1 ∧ P 5 [x73] [] [] X v X') else (∃ X48 : fx_X, X48 = (fx_wI X 117 27 y1) ∧ ∃ x49 : Int32, x49 = (y1 + (Int32.ofInt 1)) ∧ ∃ (w52 : Int32) (X51 : fx_X), gx_207 y1 X48 w52 X51 ∧ ∃ X54 : fx_X, X54 = (fx_wI X51 117 29 w52) ∧ (if (y1).toInt < ((X54.1 117 23)).toInt then (∃ (w57 : Int32) (X56 : fx_X), gx_208 y1 X54 w57 X56 ∧ (if (w57).toInt = 0 then (∃ (w60 : Int32) (X59 : fx_X), gx_209 y1 X56 w60 X59 ∧ (if (w60).toInt = 0 then (∃ (w63 : Int32) (X62 : fx_X), gx_207 x49 X59 w63 X62 ∧ (if (w52).toInt = 46 then ((if (w63).toInt = 46 then (∃ X67 : fx_X, X67 = (fx_wI X62 117 29 ((Int16.ofInt 256).toInt32)) ∧ ∃ x68 : Int32, x68 = x49 + Int32.ofInt 1 ∧ P 310 [x68, w52] [] [] X67 v X') else (P 261 [x49, w52, w63] [] [] X62 v X'))) else (P 261 [x49, w52, w63] [] [] X62 v X'))) else (P 195 [y1, x49] [] [] X59 v X'))) else (P 109 [y1, x49] [] [] X56 v X'))) else (∃ X70 : fx_X, X70 = (fx_wI X54 117 26 (Int32.ofInt 0)) ∧ ∃ X72 : fx_X, X72 = (fx_wI X70 117 28 y1) ∧ X' = X72))))))))))) else (∃ X5 : fx_X, X5 = (fx_wI X 117 27 y1) ∧ ∃ x6 : Int32, x6 = (y1 + (Int32.ofInt 1)) ∧ ∃ (w9 : Int32) (X8 : fx_X), gx_207 y1 X5 w9 X8 ∧ ∃ X11 : fx_X, X11 = (fx_wI X8 117 29 w9) ∧ (if (y1).toInt < ((X11.1 117 23)).toInt then (∃ (w14 : Int32) (X13 : fx_X), gx_208 y1 X11 w14 X13 ∧ (if (w14).toInt = 0 then (∃ (w17 : Int32) (X16 : fx_X), gx_209 y1 X13 w17 X16 ∧ (if (w17).toInt = 0 then (∃ (w20 : Int32) (X19 : fx_X), gx_207 x6 X16 w20 X19 ∧ (if (w9).toInt = 46 then ((if (w20).toInt = 46 then (∃ X24 : fx_X, X24 = (fx_wI X19 117 29 ((Int16.ofInt 256).toInt32)) ∧ ∃ x25 : Int32, x25 = x6 + Int32.ofInt 1 ∧ P 310 [x25, w9] [] [] X24 v X') else (P 261 [x6, w9, w20] [] [] X19 v X'))) else (P 261 [x6, w9, w20] [] [] X19 v X'))) else (P 195 [y1, x6] [] [] X16 v X'))) else (P 109 [y1, x6] [] [] X13 v X'))) else (∃ X27 : fx_X, X27 = (fx_wI X11 117 26 (Int32.ofInt 0)) ∧ ∃ X29 : fx_X, X29 = (fx_wI X27 117 28 y1) ∧ X' = X29))))
def gxT_206_109 (P : Nat → List Int32 → List Int64 → List Nat → fx_X → Unit → fx_X → Prop) (y1 : Int32) (y2 : Int32) (X : fx_X) (v : Unit) (X' : fx_X) : Prop :=
  ∃ (w125 : Int32) (X124 : fx_X), gx_208 y2 X w125 X124 ∧ (if (w125).toInt = 0 then (∃ (w130 : Int32) (X129 : fx_X), gx_209 y2 X124 w130 X129 ∧ (if (w130).toInt = 0 then ((if 8 < ((y2 - y1)).toInt then (∃ X146 : fx_X, X146 = (fx_wI X129 117 29 (Int32.ofInt (-1))) ∧ (if 8 < ((y2 - y1)).toInt then (∃ X153 : fx_X, X153 = (fx_wI X146 117 26 (Int32.ofInt 5)) ∧ ∃ X154 : fx_X, X154 = (fx_wI X153 117 28 y2) ∧ X' = X154) else ((if ((X146.1 117 29)).toInt < 0 then (∃ X149 : fx_X, X149 = (fx_wI X146 117 26 (Int32.ofInt 1)) ∧ ∃ X150 : fx_X, X150 = (fx_wI X149 117 28 y2) ∧ X' = X150) else (∃ X151 : fx_X, X151 = (fx_wI X146 117 26 (Int32.ofInt 4)) ∧ ∃ X152 : fx_X, X152 = (fx_wI X151 117 28 y2) ∧ X' = X152))))) else (∃ (w134 : Int64) (X133 : fx_X), gx_210 y1 y2 X129 w134 X133 ∧ ∃ (w136 : Int32) (X135 : fx_X), gx_211 w134 X133 w136 X135 ∧ ∃ X137 : fx_X, X137 = (fx_wI X135 117 29 w136) ∧ (if 8 < ((y2 - y1)).toInt then (∃ X144 : fx_X, X144 = (fx_wI X137 117 26 (Int32.ofInt 5)) ∧ ∃ X145 : fx_X, X145 = (fx_wI X144 117 28 y2) ∧ X' = X145) else ((if ((X137.1 117 29)).toInt < 0 then (∃ X140 : fx_X, X140 = (fx_wI X137 117 26 (Int32.ofInt 1)) ∧ ∃ X141 : fx_X, X141 = (fx_wI X140 117 28 y2) ∧ X' = X141) else (∃ X142 : fx_X, X142 = (fx_wI X137 117 26 (Int32.ofInt 4)) ∧ ∃ X143 : fx_X, X143 = (fx_wI X142 117 28 y2) ∧ X' = X143))))))) else (∃ x155 : Int32, x155 = y2 + Int32.ofInt 1 ∧ P 109 [y1, x155] [] [] X129 v X'))) else (∃ x127 : Int32, x127 = y2 + Int32.ofInt 1 ∧ P 109 [y1, x127] [] [] X124 v X'))
def gxT_206_195 (P : Nat → List Int32 → List Int64 → List Nat → fx_X → Unit → fx_X → Prop) (y1 : Int32) (y2 : Int32) (X : fx_X) (v : Unit) (X' : fx_X) : Prop :=
  ∃ (w115 : Int32) (X114 : fx_X), gx_209 y2 X w115 X114 ∧ (if (w115).toInt = 0 then ((if 4 < ((y2 - y1)).toInt then (∃ X120 : fx_X, X120 = (fx_wI X114 117 26 (Int32.ofInt 5)) ∧ ∃ X121 : fx_X, X121 = (fx_wI X120 117 28 y2) ∧ X' = X121) else (∃ X118 : fx_X, X118 = (fx_wI X114 117 26 (Int32.ofInt 2)) ∧ ∃ X119 : fx_X, X119 = (fx_wI X118 117 28 y2) ∧ X' = X119))) else (∃ x122 : Int32, x122 = y2 + Int32.ofInt 1 ∧ P 195 [y1, x122] [] [] X114 v X'))
def gxT_206_261 (P : Nat → List Int32 → List Int64 → List Nat → fx_X → Unit → fx_X → Prop) (y2 : Int32) (y3 : Int32) (y4 : Int32) (X : fx_X) (v : Unit) (X' : fx_X) : Prop :=
  (if (y3).toInt = 33 then ((if (y4).toInt = 61 then (∃ X87 : fx_X, X87 = (fx_wI X 117 29 ((Int16.ofInt 257).toInt32)) ∧ ∃ x88 : Int32, x88 = y2 + Int32.ofInt 1 ∧ P 310 [x88, y3] [] [] X87 v X') else ((if (y3).toInt = 60 then ((if (y4).toInt = 61 then (∃ X84 : fx_X, X84 = (fx_wI X 117 29 ((Int16.ofInt 258).toInt32)) ∧ ∃ x85 : Int32, x85 = y2 + Int32.ofInt 1 ∧ P 310 [x85, y3] [] [] X84 v X') else (P 310 [y2, y3] [] [] X v X'))) else (P 310 [y2, y3] [] [] X v X'))))) else ((if (y3).toInt = 60 then ((if (y4).toInt = 61 then (∃ X78 : fx_X, X78 = (fx_wI X 117 29 ((Int16.ofInt 258).toInt32)) ∧ ∃ x79 : Int32, x79 = y2 + Int32.ofInt 1 ∧ P 310 [x79, y3] [] [] X78 v X') else (P 310 [y2, y3] [] [] X v X'))) else (P 310 [y2, y3] [] [] X v X'))))
def gxT_206_310 (P : Nat → List Int32 → List Int64 → List Nat → fx_X → Unit → fx_X → Prop) (y2 : Int32) (y3 : Int32) (X : fx_X) (v : Unit) (X' : fx_X) : Prop :=
  (if (y3).toInt = 40 then (P 430 [y2] [] [] X v X') else ((if (y3).toInt = 41 then (P 430 [y2] [] [] X v X') else ((if (y3).toInt = 91 then (P 430 [y2] [] [] X v X') else ((if (y3).toInt = 93 then (P 430 [y2] [] [] X v X') else ((if (y3).toInt = 123 then (P 430 [y2] [] [] X v X') else ((if (y3).toInt = 125 then (P 430 [y2] [] [] X v X') else ((if (y3).toInt = 44 then (P 430 [y2] [] [] X v X') else ((if (y3).toInt = 59 then (P 430 [y2] [] [] X v X') else ((if (y3).toInt = 58 then (P 430 [y2] [] [] X v X') else ((if (y3).toInt = 46 then (P 430 [y2] [] [] X v X') else ((if (y3).toInt = 63 then (P 430 [y2] [] [] X v X') else ((if (y3).toInt = 35 then (P 430 [y2] [] [] X v X') else ((if (y3).toInt = 43 then (P 430 [y2] [] [] X v X') else ((if (y3).toInt = 45 then (P 430 [y2] [] [] X v X') else ((if (y3).toInt = 42 then (P 430 [y2] [] [] X v X') else ((if (y3).toInt = 61 then (P 430 [y2] [] [] X v X') else ((if (y3).toInt = 33 then (P 430 [y2] [] [] X v X') else ((if (y3).toInt = 60 then (P 430 [y2] [] [] X v X') else ((if (y3).toInt = 38 then (P 430 [y2] [] [] X v X') else ((if (y3).toInt = 124 then (P 430 [y2] [] [] X v X') else (∃ X112 : fx_X, X112 = (fx_wI X 117 26 (Int32.ofInt 5)) ∧ ∃ X113 : fx_X, X113 = (fx_wI X112 117 28 y2) ∧ X' = X113))))))))))))))))))))))))))))))))))))))))
def gxT_206_430 (P : Nat → List Int32 → List Int64 → List Nat → fx_X → Unit → fx_X → Prop) (y2 : Int32) (X : fx_X) (v : Unit) (X' : fx_X) : Prop :=
  ∃ X159 : fx_X, X159 = (fx_wI X 117 26 (Int32.ofInt 3)) ∧ ∃ X160 : fx_X, X160 = (fx_wI X159 117 28 y2) ∧ X' = X160
def gxE_206 (P : Nat → List Int32 → List Int64 → List Nat → fx_X → Unit → fx_X → Prop) (X : fx_X) (v : Unit) (X' : fx_X) : Prop :=
  ∃ x2 : Int32, x2 = (X.1 117 28) ∧ P 5 [x2] [] [] X v X'
noncomputable def gxF_206 (n : Nat) : Nat → List Int32 → List Int64 → List Nat → fx_X → Unit → fx_X → Prop := Nat.rec (motive := fun _ => Nat → List Int32 → List Int64 → List Nat → fx_X → Unit → fx_X → Prop) (fun _ _ _ _ _ _ _ => False) (fun _ P l is ls rs X v X' => (l = 5 ∧ ∃ (y1 : Int32), is = [y1] ∧ ls = [] ∧ rs = [] ∧ gxT_206_5 P y1 X v X') ∨ (l = 109 ∧ ∃ (y1 : Int32) (y2 : Int32), is = [y1, y2] ∧ ls = [] ∧ rs = [] ∧ gxT_206_109 P y1 y2 X v X') ∨ (l = 195 ∧ ∃ (y1 : Int32) (y2 : Int32), is = [y1, y2] ∧ ls = [] ∧ rs = [] ∧ gxT_206_195 P y1 y2 X v X') ∨ (l = 261 ∧ ∃ (y2 : Int32) (y3 : Int32) (y4 : Int32), is = [y2, y3, y4] ∧ ls = [] ∧ rs = [] ∧ gxT_206_261 P y2 y3 y4 X v X') ∨ (l = 310 ∧ ∃ (y2 : Int32) (y3 : Int32), is = [y2, y3] ∧ ls = [] ∧ rs = [] ∧ gxT_206_310 P y2 y3 X v X') ∨ (l = 430 ∧ ∃ (y2 : Int32), is = [y2] ∧ ls = [] ∧ rs = [] ∧ gxT_206_430 P y2 X v X')) n
theorem gxI_206_5 {n : Nat} {y1 : Int32} {X : fx_X} {v : Unit} {X' : fx_X} (h : gxT_206_5 (gxF_206 n) y1 X v X') : gxF_206 (n + 1) 5 [y1] [] [] X v X' := Or.inl ⟨rfl, y1, rfl, rfl, rfl, h⟩
theorem gxO_206_5 {n : Nat} {y1 : Int32} {X : fx_X} {v : Unit} {X' : fx_X} (h : gxF_206 (n + 1) 5 [y1] [] [] X v X') : gxT_206_5 (gxF_206 n) y1 X v X' := by
  rcases h with ⟨-, _, e1, e2, e3, h⟩ | ⟨e, -⟩ | ⟨e, -⟩ | ⟨e, -⟩ | ⟨e, -⟩ | ⟨e, -⟩
  · cases e1; cases e2; cases e3; exact h
  · exact absurd e (by decide)
  · exact absurd e (by decide)
  · exact absurd e (by decide)
  · exact absurd e (by decide)
  · exact absurd e (by decide)
theorem gxI_206_109 {n : Nat} {y1 : Int32} {y2 : Int32} {X : fx_X} {v : Unit} {X' : fx_X} (h : gxT_206_109 (gxF_206 n) y1 y2 X v X') : gxF_206 (n + 1) 109 [y1, y2] [] [] X v X' := Or.inr (Or.inl ⟨rfl, y1, y2, rfl, rfl, rfl, h⟩)
theorem gxO_206_109 {n : Nat} {y1 : Int32} {y2 : Int32} {X : fx_X} {v : Unit} {X' : fx_X} (h : gxF_206 (n + 1) 109 [y1, y2] [] [] X v X') : gxT_206_109 (gxF_206 n) y1 y2 X v X' := by
  rcases h with ⟨e, -⟩ | ⟨-, _, _, e1, e2, e3, h⟩ | ⟨e, -⟩ | ⟨e, -⟩ | ⟨e, -⟩ | ⟨e, -⟩
  · exact absurd e (by decide)
  · cases e1; cases e2; cases e3; exact h
  · exact absurd e (by decide)
  · exact absurd e (by decide)
  · exact absurd e (by decide)
  · exact absurd e (by decide)
theorem gxI_206_195 {n : Nat} {y1 : Int32} {y2 : Int32} {X : fx_X} {v : Unit} {X' : fx_X} (h : gxT_206_195 (gxF_206 n) y1 y2 X v X') : gxF_206 (n + 1) 195 [y1, y2] [] [] X v X' := Or.inr (Or.inr (Or.inl ⟨rfl, y1, y2, rfl, rfl, rfl, h⟩))
theorem gxO_206_195 {n : Nat} {y1 : Int32} {y2 : Int32} {X : fx_X} {v : Unit} {X' : fx_X} (h : gxF_206 (n + 1) 195 [y1, y2] [] [] X v X') : gxT_206_195 (gxF_206 n) y1 y2 X v X' := by
  rcases h with ⟨e, -⟩ | ⟨e, -⟩ | ⟨-, _, _, e1, e2, e3, h⟩ | ⟨e, -⟩ | ⟨e, -⟩ | ⟨e, -⟩
  · exact absurd e (by decide)
  · exact absurd e (by decide)
  · cases e1; cases e2; cases e3; exact h
  · exact absurd e (by decide)
  · exact absurd e (by decide)
  · exact absurd e (by decide)
theorem gxI_206_261 {n : Nat} {y2 : Int32} {y3 : Int32} {y4 : Int32} {X : fx_X} {v : Unit} {X' : fx_X} (h : gxT_206_261 (gxF_206 n) y2 y3 y4 X v X') : gxF_206 (n + 1) 261 [y2, y3, y4] [] [] X v X' := Or.inr (Or.inr (Or.inr (Or.inl ⟨rfl, y2, y3, y4, rfl, rfl, rfl, h⟩)))
theorem gxO_206_261 {n : Nat} {y2 : Int32} {y3 : Int32} {y4 : Int32} {X : fx_X} {v : Unit} {X' : fx_X} (h : gxF_206 (n + 1) 261 [y2, y3, y4] [] [] X v X') : gxT_206_261 (gxF_206 n) y2 y3 y4 X v X' := by
  rcases h with ⟨e, -⟩ | ⟨e, -⟩ | ⟨e, -⟩ | ⟨-, _, _, _, e1, e2, e3, h⟩ | ⟨e, -⟩ | ⟨e, -⟩
  · exact absurd e (by decide)
  · exact absurd e (by decide)
  · exact absurd e (by decide)
  · cases e1; cases e2; cases e3; exact h
  · exact absurd e (by decide)
  · exact absurd e (by decide)
theorem gxI_206_310 {n : Nat} {y2 : Int32} {y3 : Int32} {X : fx_X} {v : Unit} {X' : fx_X} (h : gxT_206_310 (gxF_206 n) y2 y3 X v X') : gxF_206 (n + 1) 310 [y2, y3] [] [] X v X' := Or.inr (Or.inr (Or.inr (Or.inr (Or.inl ⟨rfl, y2, y3, rfl, rfl, rfl, h⟩))))
theorem gxO_206_310 {n : Nat} {y2 : Int32} {y3 : Int32} {X : fx_X} {v : Unit} {X' : fx_X} (h : gxF_206 (n + 1) 310 [y2, y3] [] [] X v X') : gxT_206_310 (gxF_206 n) y2 y3 X v X' := by
  rcases h with ⟨e, -⟩ | ⟨e, -⟩ | ⟨e, -⟩ | ⟨e, -⟩ | ⟨-, _, _, e1, e2, e3, h⟩ | ⟨e, -⟩
  · exact absurd e (by decide)
  · exact absurd e (by decide)
  · exact absurd e (by decide)
  · exact absurd e (by decide)
  · cases e1; cases e2; cases e3; exact h
  · exact absurd e (by decide)
theorem gxI_206_430 {n : Nat} {y2 : Int32} {X : fx_X} {v : Unit} {X' : fx_X} (h : gxT_206_430 (gxF_206 n) y2 X v X') : gxF_206 (n + 1) 430 [y2] [] [] X v X' := Or.inr (Or.inr (Or.inr (Or.inr (Or.inr (⟨rfl, y2, rfl, rfl, rfl, h⟩)))))
theorem gxO_206_430 {n : Nat} {y2 : Int32} {X : fx_X} {v : Unit} {X' : fx_X} (h : gxF_206 (n + 1) 430 [y2] [] [] X v X') : gxT_206_430 (gxF_206 n) y2 X v X' := by
  rcases h with ⟨e, -⟩ | ⟨e, -⟩ | ⟨e, -⟩ | ⟨e, -⟩ | ⟨e, -⟩ | ⟨-, _, e1, e2, e3, h⟩
  · exact absurd e (by decide)
  · exact absurd e (by decide)
  · exact absurd e (by decide)
  · exact absurd e (by decide)
  · exact absurd e (by decide)
  · cases e1; cases e2; cases e3; exact h
def gx_206 (X : fx_X) (v : Unit) (X' : fx_X) : Prop := ∃ n : Nat, gxE_206 (gxF_206 n) X v X'
theorem gxL_206 {tb : aj_T} : ∀ N : Nat, (∀ (lv : aj_V) (y1 : Int32) (X : fx_X), aj_lv lv 0 = some (.ref 117) → aj_lv lv 1 = some (.int y1) → fx_W tb aj_m206 N 5 lv [] X (fx_Q fx_qN (fun v X' => ∃ n : Nat, gxF_206 n 5 [y1] [] [] X v X'))) ∧ (∀ (lv : aj_V) (y1 : Int32) (y2 : Int32) (X : fx_X), aj_lv lv 0 = some (.ref 117) → aj_lv lv 1 = some (.int y1) → aj_lv lv 2 = some (.int y2) → fx_W tb aj_m206 N 109 lv [] X (fx_Q fx_qN (fun v X' => ∃ n : Nat, gxF_206 n 109 [y1, y2] [] [] X v X'))) ∧ (∀ (lv : aj_V) (y1 : Int32) (y2 : Int32) (X : fx_X), aj_lv lv 0 = some (.ref 117) → aj_lv lv 1 = some (.int y1) → aj_lv lv 2 = some (.int y2) → fx_W tb aj_m206 N 195 lv [] X (fx_Q fx_qN (fun v X' => ∃ n : Nat, gxF_206 n 195 [y1, y2] [] [] X v X'))) ∧ (∀ (lv : aj_V) (y2 : Int32) (y3 : Int32) (y4 : Int32) (X : fx_X), aj_lv lv 0 = some (.ref 117) → aj_lv lv 2 = some (.int y2) → aj_lv lv 3 = some (.int y3) → aj_lv lv 4 = some (.int y4) → fx_W tb aj_m206 N 261 lv [] X (fx_Q fx_qN (fun v X' => ∃ n : Nat, gxF_206 n 261 [y2, y3, y4] [] [] X v X'))) ∧ (∀ (lv : aj_V) (y2 : Int32) (y3 : Int32) (X : fx_X), aj_lv lv 0 = some (.ref 117) → aj_lv lv 2 = some (.int y2) → aj_lv lv 3 = some (.int y3) → fx_W tb aj_m206 N 310 lv [] X (fx_Q fx_qN (fun v X' => ∃ n : Nat, gxF_206 n 310 [y2, y3] [] [] X v X'))) ∧ (∀ (lv : aj_V) (y2 : Int32) (X : fx_X), aj_lv lv 0 = some (.ref 117) → aj_lv lv 2 = some (.int y2) → fx_W tb aj_m206 N 430 lv [] X (fx_Q fx_qN (fun v X' => ∃ n : Nat, gxF_206 n 430 [y2] [] [] X v X'))) := by
  intro N
  induction N with
  | zero => exact ⟨(by intros; exact fx_z), (by intros; exact fx_z), (by intros; exact fx_z), (by intros; exact fx_z), (by intros; exact fx_z), (by intros; exact fx_z)⟩
  | succ N ih =>
    refine ⟨?_, ?_, ?_, ?_, ?_, ?_⟩
    · intro lv y1 X hlv_0 hlv_1
      refine fx_mono (Q := fx_Q fx_qN (fun v X' => ∃ n : Nat, gxT_206_5 (gxF_206 n) y1 X v X')) (fun r X' ⟨v, e, n, z⟩ => ⟨v, e, n + 1, gxI_206_5 z⟩) ?_
      unfold gxT_206_5
      refine fx_i0 aj_d206 rfl (Nat.le_refl _) (fun _ => rfl) hlv_1 ?_
      refine fx_i2 aj_d206 rfl (Nat.le_succ _) (fun _ => rfl) hlv_0 ?_
      refine fx_gI aj_d206 rfl (Nat.le_succ _) rfl rfl (Or.inl rfl) ?_
      refine fx_b (tgt := 63) aj_d206 rfl (Nat.le_succ _) rfl (fun q4 => ?_) (fun q4 => ?_)
      · skip
        refine fx_qe (c := (y1).toInt < ((X.1 117 23)).toInt) (fx_t_ge q4) ?_
        show fx_W _ _ _ 63 lv [] _ _
        refine fx_i2 aj_d206 rfl (Nat.le_succ _) (fun _ => rfl) hlv_0 ?_
        refine fx_i0 aj_d206 rfl (Nat.le_succ _) (fun _ => rfl) hlv_1 ?_
        refine fx_pI aj_d206 rfl (Nat.le_succ _) rfl rfl (Or.inl rfl) fx_no_11_27 (by decide) ?_
        refine fx_qX (fun X5 eX5 => ?_)
        show fx_W _ _ _ 68 lv [] _ _
        refine fx_i0 aj_d206 rfl (Nat.le_succ _) (fun _ => rfl) hlv_1 ?_
        refine fx_n (pc' := 70) (lv' := lv) (st' := [.int (Int32.ofInt 1), .int y1]) aj_d206 rfl (Nat.le_succ _) (fun _ => rfl) ?_
        refine fx_n (pc' := 71) (lv' := lv) (st' := [.int (y1 + (Int32.ofInt 1))]) aj_d206 rfl (Nat.le_succ _) (fun _ => rfl) ?_
        refine fx_qxI (fun x6 ex6 => ?_)
        refine fx_s0 (j := 2) aj_d206 rfl (Nat.le_succ _) (by decide) (fun _ => rfl) ?_
        obtain ⟨lv7, elv7⟩ : ∃ l, l = aj_set1 lv 2 (.int x6) := ⟨_, rfl⟩
        rw [← elv7]
        have hlv7_0 : aj_lv lv7 0 = some (.ref 117) := fx_e1 elv7 hlv_0 (by decide) (Or.inl (by decide))
        have hlv7_1 : aj_lv lv7 1 = some (.int y1) := fx_e1 elv7 hlv_1 (by decide) (Or.inr rfl)
        have hlv7_2 : aj_lv lv7 2 = some (.int x6) := by rw [elv7]; exact ak_set1_eq _ _ _
        show fx_W _ _ _ 72 lv7 [] _ _
        refine fx_i2 aj_d206 rfl (Nat.le_succ _) (fun _ => rfl) hlv7_0 ?_
        refine fx_i0 aj_d206 rfl (Nat.le_succ _) (fun _ => rfl) hlv7_1 ?_
        refine fx_cv aj_d206 rfl (Nat.le_succ _) rfl [_] rfl rfl (gx_207_ok y1) ?_
        rintro _ X8 ⟨w9, rfl, hR8⟩ hok8 hle8
        refine fx_qc hR8 ?_
        show fx_W _ _ _ 77 lv7 [.int w9] _ _
        refine fx_s0 (j := 3) aj_d206 rfl (Nat.le_succ _) (by decide) (fun _ => rfl) ?_
        obtain ⟨lv10, elv10⟩ : ∃ l, l = aj_set1 lv7 3 (.int w9) := ⟨_, rfl⟩
        rw [← elv10]
        have hlv10_0 : aj_lv lv10 0 = some (.ref 117) := fx_e1 elv10 hlv7_0 (by decide) (Or.inl (by decide))
        have hlv10_1 : aj_lv lv10 1 = some (.int y1) := fx_e1 elv10 hlv7_1 (by decide) (Or.inl (by decide))
        have hlv10_2 : aj_lv lv10 2 = some (.int x6) := fx_e1 elv10 hlv7_2 (by decide) (Or.inr rfl)
        have hlv10_3 : aj_lv lv10 3 = some (.int w9) := by rw [elv10]; exact ak_set1_eq _ _ _
        show fx_W _ _ _ 78 lv10 [] _ _
        refine fx_i2 aj_d206 rfl (Nat.le_succ _) (fun _ => rfl) hlv10_0 ?_
        refine fx_i0 aj_d206 rfl (Nat.le_succ _) (fun _ => rfl) hlv10_3 ?_
        refine fx_pI aj_d206 rfl (Nat.le_succ _) rfl rfl (Or.inl rfl) fx_no_11_29 (by decide) ?_
        refine fx_qX (fun X11 eX11 => ?_)
        show fx_W _ _ _ 83 lv10 [] _ _
        refine fx_i0 aj_d206 rfl (Nat.le_succ _) (fun _ => rfl) hlv10_1 ?_
        refine fx_i2 aj_d206 rfl (Nat.le_succ _) (fun _ => rfl) hlv10_0 ?_
        refine fx_gI aj_d206 rfl (Nat.le_succ _) rfl rfl (Or.inl rfl) ?_
        refine fx_b (tgt := 101) aj_d206 rfl (Nat.le_succ _) rfl (fun q12 => ?_) (fun q12 => ?_)
        · skip
          refine fx_qi (c := (y1).toInt < ((X11.1 117 23)).toInt) (fx_t_lt q12) ?_
          show fx_W _ _ _ 101 lv10 [] _ _
          refine fx_i2 aj_d206 rfl (Nat.le_succ _) (fun _ => rfl) hlv10_0 ?_
          refine fx_i0 aj_d206 rfl (Nat.le_succ _) (fun _ => rfl) hlv10_1 ?_
          refine fx_cv aj_d206 rfl (Nat.le_succ _) rfl [_] rfl rfl (gx_208_ok y1) ?_
          rintro _ X13 ⟨w14, rfl, hR13⟩ hok13 hle13
          refine fx_qc hR13 ?_
          show fx_W _ _ _ 106 lv10 [.int w14] _ _
          refine fx_b0 (tgt := 187) aj_d206 rfl (Nat.le_succ _) rfl (fun q15 => ?_) (fun q15 => ?_)
          · skip
            refine fx_qi (c := (w14).toInt = 0) (fx_t_eq q15) ?_
            show fx_W _ _ _ 187 lv10 [] _ _
            refine fx_i2 aj_d206 rfl (Nat.le_succ _) (fun _ => rfl) hlv10_0 ?_
            refine fx_i0 aj_d206 rfl (Nat.le_succ _) (fun _ => rfl) hlv10_1 ?_
            refine fx_cv aj_d206 rfl (Nat.le_succ _) rfl [_] rfl rfl (gx_209_ok y1) ?_
            rintro _ X16 ⟨w17, rfl, hR16⟩ hok16 hle16
            refine fx_qc hR16 ?_
            show fx_W _ _ _ 192 lv10 [.int w17] _ _
            refine fx_b0 (tgt := 228) aj_d206 rfl (Nat.le_succ _) rfl (fun q18 => ?_) (fun q18 => ?_)
            · skip
              refine fx_qi (c := (w17).toInt = 0) (fx_t_eq q18) ?_
              show fx_W _ _ _ 228 lv10 [] _ _
              refine fx_i2 aj_d206 rfl (Nat.le_succ _) (fun _ => rfl) hlv10_0 ?_
              refine fx_i0 aj_d206 rfl (Nat.le_succ _) (fun _ => rfl) hlv10_2 ?_
              refine fx_cv aj_d206 rfl (Nat.le_succ _) rfl [_] rfl rfl (gx_207_ok x6) ?_
              rintro _ X19 ⟨w20, rfl, hR19⟩ hok19 hle19
              refine fx_qc hR19 ?_
              show fx_W _ _ _ 233 lv10 [.int w20] _ _
              refine fx_s0 (j := 4) aj_d206 rfl (Nat.le_succ _) (by decide) (fun _ => rfl) ?_
              obtain ⟨lv21, elv21⟩ : ∃ l, l = aj_set1 lv10 4 (.int w20) := ⟨_, rfl⟩
              rw [← elv21]
              have hlv21_0 : aj_lv lv21 0 = some (.ref 117) := fx_e1 elv21 hlv10_0 (by decide) (Or.inl (by decide))
              have hlv21_2 : aj_lv lv21 2 = some (.int x6) := fx_e1 elv21 hlv10_2 (by decide) (Or.inl (by decide))
              have hlv21_3 : aj_lv lv21 3 = some (.int w9) := fx_e1 elv21 hlv10_3 (by decide) (Or.inr rfl)
              have hlv21_4 : aj_lv lv21 4 = some (.int w20) := by rw [elv21]; exact ak_set1_eq _ _ _
              show fx_W _ _ _ 235 lv21 [] _ _
              refine fx_i0 aj_d206 rfl (Nat.le_succ _) (fun _ => rfl) hlv21_3 ?_
              refine fx_n (pc' := 238) (lv' := lv21) (st' := [.int ((Int8.ofInt 46).toInt32), .int w9]) aj_d206 rfl (Nat.le_succ _) (fun _ => rfl) ?_
              refine fx_b (tgt := 261) aj_d206 rfl (Nat.le_succ _) rfl (fun q22 => ?_) (fun q22 => ?_)
              · skip
                refine fx_qe (c := (w9).toInt = 46) (fx_t_ne q22) ?_
                show fx_W _ _ _ 261 lv21 [] _ _
                exact (ih.2.2.2.1) lv21 (x6) (w9) (w20) X19  hlv21_0 hlv21_2 hlv21_3 hlv21_4
              · skip
                refine fx_qi (c := (w9).toInt = 46) (fx_f_ne q22) ?_
                show fx_W _ _ _ 241 lv21 [] _ _
                refine fx_i0 aj_d206 rfl (Nat.le_succ _) (fun _ => rfl) hlv21_4 ?_
                refine fx_n (pc' := 245) (lv' := lv21) (st' := [.int ((Int8.ofInt 46).toInt32), .int w20]) aj_d206 rfl (Nat.le_succ _) (fun _ => rfl) ?_
                refine fx_b (tgt := 261) aj_d206 rfl (Nat.le_succ _) rfl (fun q23 => ?_) (fun q23 => ?_)
                · skip
                  refine fx_qe (c := (w20).toInt = 46) (fx_t_ne q23) ?_
                  show fx_W _ _ _ 261 lv21 [] _ _
                  exact (ih.2.2.2.1) lv21 (x6) (w9) (w20) X19  hlv21_0 hlv21_2 hlv21_3 hlv21_4
                · skip
                  refine fx_qi (c := (w20).toInt = 46) (fx_f_ne q23) ?_
                  show fx_W _ _ _ 248 lv21 [] _ _
                  refine fx_i2 aj_d206 rfl (Nat.le_succ _) (fun _ => rfl) hlv21_0 ?_
                  refine fx_n (pc' := 252) (lv' := lv21) (st' := [.int ((Int16.ofInt 256).toInt32), .ref 117]) aj_d206 rfl (Nat.le_succ _) (fun _ => rfl) ?_
                  refine fx_pI aj_d206 rfl (Nat.le_succ _) rfl rfl (Or.inl rfl) fx_no_11_29 (by decide) ?_
                  refine fx_qX (fun X24 eX24 => ?_)
                  show fx_W _ _ _ 255 lv21 [] _ _
                  refine fx_incq aj_d206 rfl (Nat.le_succ _) hlv21_2 (by decide) (fun x25 ex25 => ?_)
                  obtain ⟨lv26, elv26⟩ : ∃ l, l = aj_set1 lv21 2 (.int x25) := ⟨_, rfl⟩
                  rw [← elv26]
                  have hlv26_0 : aj_lv lv26 0 = some (.ref 117) := fx_e1 elv26 hlv21_0 (by decide) (Or.inl (by decide))
                  have hlv26_3 : aj_lv lv26 3 = some (.int w9) := fx_e1 elv26 hlv21_3 (by decide) (Or.inl (by decide))
                  have hlv26_2 : aj_lv lv26 2 = some (.int x25) := by rw [elv26]; exact ak_set1_eq _ _ _
                  show fx_W _ _ _ 258 lv26 [] _ _
                  refine fx_n (pc' := 310) (lv' := lv26) (st' := []) aj_d206 rfl (Nat.le_succ _) (fun _ => rfl) ?_
                  exact (ih.2.2.2.2.1) lv26 (x25) (w9) X24  hlv26_0 hlv26_2 hlv26_3
            · skip
              refine fx_qe (c := (w17).toInt = 0) (fx_f_eq q18) ?_
              show fx_W _ _ _ 195 lv10 [] _ _
              exact (ih.2.2.1) lv10 (y1) (x6) X16  hlv10_0 hlv10_1 hlv10_2
          · skip
            refine fx_qe (c := (w14).toInt = 0) (fx_f_eq q15) ?_
            show fx_W _ _ _ 109 lv10 [] _ _
            exact (ih.2.1) lv10 (y1) (x6) X13  hlv10_0 hlv10_1 hlv10_2
        · skip
          refine fx_qe (c := (y1).toInt < ((X11.1 117 23)).toInt) (fx_f_lt q12) ?_
          show fx_W _ _ _ 91 lv10 [] _ _
          refine fx_i2 aj_d206 rfl (Nat.le_succ _) (fun _ => rfl) hlv10_0 ?_
          refine fx_n (pc' := 93) (lv' := lv10) (st' := [.int (Int32.ofInt 0), .ref 117]) aj_d206 rfl (Nat.le_succ _) (fun _ => rfl) ?_
          refine fx_pI aj_d206 rfl (Nat.le_succ _) rfl rfl (Or.inl rfl) fx_no_11_26 (by decide) ?_
          refine fx_qX (fun X27 eX27 => ?_)
          show fx_W _ _ _ 96 lv10 [] _ _
          refine fx_i0 aj_d206 rfl (Nat.le_succ _) (fun _ => rfl) hlv10_1 ?_
          refine fx_s0 (j := 2) aj_d206 rfl (Nat.le_succ _) (by decide) (fun _ => rfl) ?_
          obtain ⟨lv28, elv28⟩ : ∃ l, l = aj_set1 lv10 2 (.int y1) := ⟨_, rfl⟩
          rw [← elv28]
          have hlv28_0 : aj_lv lv28 0 = some (.ref 117) := fx_e1 elv28 hlv10_0 (by decide) (Or.inl (by decide))
          have hlv28_2 : aj_lv lv28 2 = some (.int y1) := by rw [elv28]; exact ak_set1_eq _ _ _
          show fx_W _ _ _ 98 lv28 [] _ _
          refine fx_n (pc' := 451) (lv' := lv28) (st' := []) aj_d206 rfl (Nat.le_succ _) (fun _ => rfl) ?_
          refine fx_i2 aj_d206 rfl (Nat.le_succ _) (fun _ => rfl) hlv28_0 ?_
          refine fx_i0 aj_d206 rfl (Nat.le_succ _) (fun _ => rfl) hlv28_2 ?_
          refine fx_pI aj_d206 rfl (Nat.le_succ _) rfl rfl (Or.inl rfl) fx_no_11_28 (by decide) ?_
          refine fx_qX (fun X29 eX29 => ?_)
          show fx_W _ _ _ 456 lv28 [] _ _
          exact fx_rn aj_d206 rfl ⟨(), rfl, 0, rfl⟩
      · skip
        refine fx_qi (c := (y1).toInt < ((X.1 117 23)).toInt) (fx_f_ge q4) ?_
        show fx_W _ _ _ 13 lv [] _ _
        refine fx_i2 aj_d206 rfl (Nat.le_succ _) (fun _ => rfl) hlv_0 ?_
        refine fx_gF aj_d206 rfl (Nat.le_succ _) rfl rfl fx_in_11_22 (t := 138) rfl (fun hA30 => ?_)
        refine fx_i0 aj_d206 rfl (Nat.le_succ _) (fun _ => rfl) hlv_1 ?_
        refine fx_ld aj_d206 (Or.inr (Or.inr rfl)) rfl (Nat.le_succ _) (fun g310 g311 => ?_)
        show fx_W _ _ _ 19 lv [.int (X.1 138 (y1).toInt.toNat)] _ _
        refine fx_qa (c := 0 ≤ (y1).toInt ∧ (y1).toInt < ((4000 : Nat) : Int)) ⟨g310, fx_lnk g311 hA30⟩ ?_
        refine fx_n (pc' := 21) (lv' := lv) (st' := [.int ((Int8.ofInt 9).toInt32), .int (X.1 138 (y1).toInt.toNat)]) aj_d206 rfl (Nat.le_succ _) (fun _ => rfl) ?_
        refine fx_b (tgt := 57) aj_d206 rfl (Nat.le_succ _) rfl (fun q32 => ?_) (fun q32 => ?_)
        · skip
          refine fx_qi (c := ((X.1 138 (y1).toInt.toNat)).toInt = 9) (fx_t_eq q32) ?_
          show fx_W _ _ _ 57 lv [] _ _
          refine fx_incq aj_d206 rfl (Nat.le_succ _) hlv_1 (by decide) (fun x33 ex33 => ?_)
          obtain ⟨lv34, elv34⟩ : ∃ l, l = aj_set1 lv 1 (.int x33) := ⟨_, rfl⟩
          rw [← elv34]
          have hlv34_0 : aj_lv lv34 0 = some (.ref 117) := fx_e1 elv34 hlv_0 (by decide) (Or.inr rfl)
          have hlv34_1 : aj_lv lv34 1 = some (.int x33) := by rw [elv34]; exact ak_set1_eq _ _ _
          show fx_W _ _ _ 60 lv34 [] _ _
          refine fx_n (pc' := 5) (lv' := lv34) (st' := []) aj_d206 rfl (Nat.le_succ _) (fun _ => rfl) ?_
          exact (ih.1) lv34 (x33) X  hlv34_0 hlv34_1
        · skip
          refine fx_qe (c := ((X.1 138 (y1).toInt.toNat)).toInt = 9) (fx_f_eq q32) ?_
          show fx_W _ _ _ 24 lv [] _ _
          refine fx_i2 aj_d206 rfl (Nat.le_succ _) (fun _ => rfl) hlv_0 ?_
          refine fx_gF aj_d206 rfl (Nat.le_succ _) rfl rfl fx_in_11_22 (t := 138) rfl (fun hA35 => ?_)
          refine fx_i0 aj_d206 rfl (Nat.le_succ _) (fun _ => rfl) hlv_1 ?_
          refine fx_ld aj_d206 (Or.inr (Or.inr rfl)) rfl (Nat.le_succ _) (fun g360 g361 => ?_)
          show fx_W _ _ _ 30 lv [.int (X.1 138 (y1).toInt.toNat)] _ _
          refine fx_qa (c := 0 ≤ (y1).toInt ∧ (y1).toInt < ((4000 : Nat) : Int)) ⟨g360, fx_lnk g361 hA35⟩ ?_
          refine fx_n (pc' := 32) (lv' := lv) (st' := [.int ((Int8.ofInt 10).toInt32), .int (X.1 138 (y1).toInt.toNat)]) aj_d206 rfl (Nat.le_succ _) (fun _ => rfl) ?_
          refine fx_b (tgt := 57) aj_d206 rfl (Nat.le_succ _) rfl (fun q37 => ?_) (fun q37 => ?_)
          · skip
            refine fx_qi (c := ((X.1 138 (y1).toInt.toNat)).toInt = 10) (fx_t_eq q37) ?_
            show fx_W _ _ _ 57 lv [] _ _
            refine fx_incq aj_d206 rfl (Nat.le_succ _) hlv_1 (by decide) (fun x38 ex38 => ?_)
            obtain ⟨lv39, elv39⟩ : ∃ l, l = aj_set1 lv 1 (.int x38) := ⟨_, rfl⟩
            rw [← elv39]
            have hlv39_0 : aj_lv lv39 0 = some (.ref 117) := fx_e1 elv39 hlv_0 (by decide) (Or.inr rfl)
            have hlv39_1 : aj_lv lv39 1 = some (.int x38) := by rw [elv39]; exact ak_set1_eq _ _ _
            show fx_W _ _ _ 60 lv39 [] _ _
            refine fx_n (pc' := 5) (lv' := lv39) (st' := []) aj_d206 rfl (Nat.le_succ _) (fun _ => rfl) ?_
            exact (ih.1) lv39 (x38) X  hlv39_0 hlv39_1
          · skip
            refine fx_qe (c := ((X.1 138 (y1).toInt.toNat)).toInt = 10) (fx_f_eq q37) ?_
            show fx_W _ _ _ 35 lv [] _ _
            refine fx_i2 aj_d206 rfl (Nat.le_succ _) (fun _ => rfl) hlv_0 ?_
            refine fx_gF aj_d206 rfl (Nat.le_succ _) rfl rfl fx_in_11_22 (t := 138) rfl (fun hA40 => ?_)
            refine fx_i0 aj_d206 rfl (Nat.le_succ _) (fun _ => rfl) hlv_1 ?_
            refine fx_ld aj_d206 (Or.inr (Or.inr rfl)) rfl (Nat.le_succ _) (fun g410 g411 => ?_)
            show fx_W _ _ _ 41 lv [.int (X.1 138 (y1).toInt.toNat)] _ _
            refine fx_qa (c := 0 ≤ (y1).toInt ∧ (y1).toInt < ((4000 : Nat) : Int)) ⟨g410, fx_lnk g411 hA40⟩ ?_
            refine fx_n (pc' := 43) (lv' := lv) (st' := [.int ((Int8.ofInt 13).toInt32), .int (X.1 138 (y1).toInt.toNat)]) aj_d206 rfl (Nat.le_succ _) (fun _ => rfl) ?_
            refine fx_b (tgt := 57) aj_d206 rfl (Nat.le_succ _) rfl (fun q42 => ?_) (fun q42 => ?_)
            · skip
              refine fx_qi (c := ((X.1 138 (y1).toInt.toNat)).toInt = 13) (fx_t_eq q42) ?_
              show fx_W _ _ _ 57 lv [] _ _
              refine fx_incq aj_d206 rfl (Nat.le_succ _) hlv_1 (by decide) (fun x43 ex43 => ?_)
              obtain ⟨lv44, elv44⟩ : ∃ l, l = aj_set1 lv 1 (.int x43) := ⟨_, rfl⟩
              rw [← elv44]
              have hlv44_0 : aj_lv lv44 0 = some (.ref 117) := fx_e1 elv44 hlv_0 (by decide) (Or.inr rfl)
              have hlv44_1 : aj_lv lv44 1 = some (.int x43) := by rw [elv44]; exact ak_set1_eq _ _ _
              show fx_W _ _ _ 60 lv44 [] _ _
              refine fx_n (pc' := 5) (lv' := lv44) (st' := []) aj_d206 rfl (Nat.le_succ _) (fun _ => rfl) ?_
              exact (ih.1) lv44 (x43) X  hlv44_0 hlv44_1
            · skip
              refine fx_qe (c := ((X.1 138 (y1).toInt.toNat)).toInt = 13) (fx_f_eq q42) ?_
              show fx_W _ _ _ 46 lv [] _ _
              refine fx_i2 aj_d206 rfl (Nat.le_succ _) (fun _ => rfl) hlv_0 ?_
              refine fx_gF aj_d206 rfl (Nat.le_succ _) rfl rfl fx_in_11_22 (t := 138) rfl (fun hA45 => ?_)
              refine fx_i0 aj_d206 rfl (Nat.le_succ _) (fun _ => rfl) hlv_1 ?_
              refine fx_ld aj_d206 (Or.inr (Or.inr rfl)) rfl (Nat.le_succ _) (fun g460 g461 => ?_)
              show fx_W _ _ _ 52 lv [.int (X.1 138 (y1).toInt.toNat)] _ _
              refine fx_qa (c := 0 ≤ (y1).toInt ∧ (y1).toInt < ((4000 : Nat) : Int)) ⟨g460, fx_lnk g461 hA45⟩ ?_
              refine fx_n (pc' := 54) (lv' := lv) (st' := [.int ((Int8.ofInt 32).toInt32), .int (X.1 138 (y1).toInt.toNat)]) aj_d206 rfl (Nat.le_succ _) (fun _ => rfl) ?_
              refine fx_b (tgt := 63) aj_d206 rfl (Nat.le_succ _) rfl (fun q47 => ?_) (fun q47 => ?_)
              · skip
                refine fx_qe (c := ((X.1 138 (y1).toInt.toNat)).toInt = 32) (fx_t_ne q47) ?_
                show fx_W _ _ _ 63 lv [] _ _
                refine fx_i2 aj_d206 rfl (Nat.le_succ _) (fun _ => rfl) hlv_0 ?_
                refine fx_i0 aj_d206 rfl (Nat.le_succ _) (fun _ => rfl) hlv_1 ?_
                refine fx_pI aj_d206 rfl (Nat.le_succ _) rfl rfl (Or.inl rfl) fx_no_11_27 (by decide) ?_
                refine fx_qX (fun X48 eX48 => ?_)
                show fx_W _ _ _ 68 lv [] _ _
                refine fx_i0 aj_d206 rfl (Nat.le_succ _) (fun _ => rfl) hlv_1 ?_
                refine fx_n (pc' := 70) (lv' := lv) (st' := [.int (Int32.ofInt 1), .int y1]) aj_d206 rfl (Nat.le_succ _) (fun _ => rfl) ?_
                refine fx_n (pc' := 71) (lv' := lv) (st' := [.int (y1 + (Int32.ofInt 1))]) aj_d206 rfl (Nat.le_succ _) (fun _ => rfl) ?_
                refine fx_qxI (fun x49 ex49 => ?_)
                refine fx_s0 (j := 2) aj_d206 rfl (Nat.le_succ _) (by decide) (fun _ => rfl) ?_
                obtain ⟨lv50, elv50⟩ : ∃ l, l = aj_set1 lv 2 (.int x49) := ⟨_, rfl⟩
                rw [← elv50]
                have hlv50_0 : aj_lv lv50 0 = some (.ref 117) := fx_e1 elv50 hlv_0 (by decide) (Or.inl (by decide))
                have hlv50_1 : aj_lv lv50 1 = some (.int y1) := fx_e1 elv50 hlv_1 (by decide) (Or.inr rfl)
                have hlv50_2 : aj_lv lv50 2 = some (.int x49) := by rw [elv50]; exact ak_set1_eq _ _ _
                show fx_W _ _ _ 72 lv50 [] _ _
                refine fx_i2 aj_d206 rfl (Nat.le_succ _) (fun _ => rfl) hlv50_0 ?_
                refine fx_i0 aj_d206 rfl (Nat.le_succ _) (fun _ => rfl) hlv50_1 ?_
                refine fx_cv aj_d206 rfl (Nat.le_succ _) rfl [_] rfl rfl (gx_207_ok y1) ?_
                rintro _ X51 ⟨w52, rfl, hR51⟩ hok51 hle51
                refine fx_qc hR51 ?_
                show fx_W _ _ _ 77 lv50 [.int w52] _ _
                refine fx_s0 (j := 3) aj_d206 rfl (Nat.le_succ _) (by decide) (fun _ => rfl) ?_
                obtain ⟨lv53, elv53⟩ : ∃ l, l = aj_set1 lv50 3 (.int w52) := ⟨_, rfl⟩
                rw [← elv53]
                have hlv53_0 : aj_lv lv53 0 = some (.ref 117) := fx_e1 elv53 hlv50_0 (by decide) (Or.inl (by decide))
                have hlv53_1 : aj_lv lv53 1 = some (.int y1) := fx_e1 elv53 hlv50_1 (by decide) (Or.inl (by decide))
                have hlv53_2 : aj_lv lv53 2 = some (.int x49) := fx_e1 elv53 hlv50_2 (by decide) (Or.inr rfl)
                have hlv53_3 : aj_lv lv53 3 = some (.int w52) := by rw [elv53]; exact ak_set1_eq _ _ _
                show fx_W _ _ _ 78 lv53 [] _ _
                refine fx_i2 aj_d206 rfl (Nat.le_succ _) (fun _ => rfl) hlv53_0 ?_
                refine fx_i0 aj_d206 rfl (Nat.le_succ _) (fun _ => rfl) hlv53_3 ?_
                refine fx_pI aj_d206 rfl (Nat.le_succ _) rfl rfl (Or.inl rfl) fx_no_11_29 (by decide) ?_
                refine fx_qX (fun X54 eX54 => ?_)
                show fx_W _ _ _ 83 lv53 [] _ _
                refine fx_i0 aj_d206 rfl (Nat.le_succ _) (fun _ => rfl) hlv53_1 ?_
                refine fx_i2 aj_d206 rfl (Nat.le_succ _) (fun _ => rfl) hlv53_0 ?_
                refine fx_gI aj_d206 rfl (Nat.le_succ _) rfl rfl (Or.inl rfl) ?_
                refine fx_b (tgt := 101) aj_d206 rfl (Nat.le_succ _) rfl (fun q55 => ?_) (fun q55 => ?_)
                · skip
                  refine fx_qi (c := (y1).toInt < ((X54.1 117 23)).toInt) (fx_t_lt q55) ?_
                  show fx_W _ _ _ 101 lv53 [] _ _
                  refine fx_i2 aj_d206 rfl (Nat.le_succ _) (fun _ => rfl) hlv53_0 ?_
                  refine fx_i0 aj_d206 rfl (Nat.le_succ _) (fun _ => rfl) hlv53_1 ?_
                  refine fx_cv aj_d206 rfl (Nat.le_succ _) rfl [_] rfl rfl (gx_208_ok y1) ?_
                  rintro _ X56 ⟨w57, rfl, hR56⟩ hok56 hle56
                  refine fx_qc hR56 ?_
                  show fx_W _ _ _ 106 lv53 [.int w57] _ _
                  refine fx_b0 (tgt := 187) aj_d206 rfl (Nat.le_succ _) rfl (fun q58 => ?_) (fun q58 => ?_)
                  · skip
                    refine fx_qi (c := (w57).toInt = 0) (fx_t_eq q58) ?_
                    show fx_W _ _ _ 187 lv53 [] _ _
                    refine fx_i2 aj_d206 rfl (Nat.le_succ _) (fun _ => rfl) hlv53_0 ?_
                    refine fx_i0 aj_d206 rfl (Nat.le_succ _) (fun _ => rfl) hlv53_1 ?_
                    refine fx_cv aj_d206 rfl (Nat.le_succ _) rfl [_] rfl rfl (gx_209_ok y1) ?_
                    rintro _ X59 ⟨w60, rfl, hR59⟩ hok59 hle59
                    refine fx_qc hR59 ?_
                    show fx_W _ _ _ 192 lv53 [.int w60] _ _
                    refine fx_b0 (tgt := 228) aj_d206 rfl (Nat.le_succ _) rfl (fun q61 => ?_) (fun q61 => ?_)
                    · skip
                      refine fx_qi (c := (w60).toInt = 0) (fx_t_eq q61) ?_
                      show fx_W _ _ _ 228 lv53 [] _ _
                      refine fx_i2 aj_d206 rfl (Nat.le_succ _) (fun _ => rfl) hlv53_0 ?_
                      refine fx_i0 aj_d206 rfl (Nat.le_succ _) (fun _ => rfl) hlv53_2 ?_
                      refine fx_cv aj_d206 rfl (Nat.le_succ _) rfl [_] rfl rfl (gx_207_ok x49) ?_
                      rintro _ X62 ⟨w63, rfl, hR62⟩ hok62 hle62
                      refine fx_qc hR62 ?_
                      show fx_W _ _ _ 233 lv53 [.int w63] _ _
                      refine fx_s0 (j := 4) aj_d206 rfl (Nat.le_succ _) (by decide) (fun _ => rfl) ?_
                      obtain ⟨lv64, elv64⟩ : ∃ l, l = aj_set1 lv53 4 (.int w63) := ⟨_, rfl⟩
                      rw [← elv64]
                      have hlv64_0 : aj_lv lv64 0 = some (.ref 117) := fx_e1 elv64 hlv53_0 (by decide) (Or.inl (by decide))
                      have hlv64_2 : aj_lv lv64 2 = some (.int x49) := fx_e1 elv64 hlv53_2 (by decide) (Or.inl (by decide))
                      have hlv64_3 : aj_lv lv64 3 = some (.int w52) := fx_e1 elv64 hlv53_3 (by decide) (Or.inr rfl)
                      have hlv64_4 : aj_lv lv64 4 = some (.int w63) := by rw [elv64]; exact ak_set1_eq _ _ _
                      show fx_W _ _ _ 235 lv64 [] _ _
                      refine fx_i0 aj_d206 rfl (Nat.le_succ _) (fun _ => rfl) hlv64_3 ?_
                      refine fx_n (pc' := 238) (lv' := lv64) (st' := [.int ((Int8.ofInt 46).toInt32), .int w52]) aj_d206 rfl (Nat.le_succ _) (fun _ => rfl) ?_
                      refine fx_b (tgt := 261) aj_d206 rfl (Nat.le_succ _) rfl (fun q65 => ?_) (fun q65 => ?_)
                      · skip
                        refine fx_qe (c := (w52).toInt = 46) (fx_t_ne q65) ?_
                        show fx_W _ _ _ 261 lv64 [] _ _
                        exact (ih.2.2.2.1) lv64 (x49) (w52) (w63) X62  hlv64_0 hlv64_2 hlv64_3 hlv64_4
                      · skip
                        refine fx_qi (c := (w52).toInt = 46) (fx_f_ne q65) ?_
                        show fx_W _ _ _ 241 lv64 [] _ _
                        refine fx_i0 aj_d206 rfl (Nat.le_succ _) (fun _ => rfl) hlv64_4 ?_
                        refine fx_n (pc' := 245) (lv' := lv64) (st' := [.int ((Int8.ofInt 46).toInt32), .int w63]) aj_d206 rfl (Nat.le_succ _) (fun _ => rfl) ?_
                        refine fx_b (tgt := 261) aj_d206 rfl (Nat.le_succ _) rfl (fun q66 => ?_) (fun q66 => ?_)
                        · skip
                          refine fx_qe (c := (w63).toInt = 46) (fx_t_ne q66) ?_
                          show fx_W _ _ _ 261 lv64 [] _ _
                          exact (ih.2.2.2.1) lv64 (x49) (w52) (w63) X62  hlv64_0 hlv64_2 hlv64_3 hlv64_4
                        · skip
                          refine fx_qi (c := (w63).toInt = 46) (fx_f_ne q66) ?_
                          show fx_W _ _ _ 248 lv64 [] _ _
                          refine fx_i2 aj_d206 rfl (Nat.le_succ _) (fun _ => rfl) hlv64_0 ?_
                          refine fx_n (pc' := 252) (lv' := lv64) (st' := [.int ((Int16.ofInt 256).toInt32), .ref 117]) aj_d206 rfl (Nat.le_succ _) (fun _ => rfl) ?_
                          refine fx_pI aj_d206 rfl (Nat.le_succ _) rfl rfl (Or.inl rfl) fx_no_11_29 (by decide) ?_
                          refine fx_qX (fun X67 eX67 => ?_)
                          show fx_W _ _ _ 255 lv64 [] _ _
                          refine fx_incq aj_d206 rfl (Nat.le_succ _) hlv64_2 (by decide) (fun x68 ex68 => ?_)
                          obtain ⟨lv69, elv69⟩ : ∃ l, l = aj_set1 lv64 2 (.int x68) := ⟨_, rfl⟩
                          rw [← elv69]
                          have hlv69_0 : aj_lv lv69 0 = some (.ref 117) := fx_e1 elv69 hlv64_0 (by decide) (Or.inl (by decide))
                          have hlv69_3 : aj_lv lv69 3 = some (.int w52) := fx_e1 elv69 hlv64_3 (by decide) (Or.inl (by decide))
                          have hlv69_2 : aj_lv lv69 2 = some (.int x68) := by rw [elv69]; exact ak_set1_eq _ _ _
                          show fx_W _ _ _ 258 lv69 [] _ _
                          refine fx_n (pc' := 310) (lv' := lv69) (st' := []) aj_d206 rfl (Nat.le_succ _) (fun _ => rfl) ?_
                          exact (ih.2.2.2.2.1) lv69 (x68) (w52) X67  hlv69_0 hlv69_2 hlv69_3
                    · skip
                      refine fx_qe (c := (w60).toInt = 0) (fx_f_eq q61) ?_
                      show fx_W _ _ _ 195 lv53 [] _ _
                      exact (ih.2.2.1) lv53 (y1) (x49) X59  hlv53_0 hlv53_1 hlv53_2
                  · skip
                    refine fx_qe (c := (w57).toInt = 0) (fx_f_eq q58) ?_
                    show fx_W _ _ _ 109 lv53 [] _ _
                    exact (ih.2.1) lv53 (y1) (x49) X56  hlv53_0 hlv53_1 hlv53_2
                · skip
                  refine fx_qe (c := (y1).toInt < ((X54.1 117 23)).toInt) (fx_f_lt q55) ?_
                  show fx_W _ _ _ 91 lv53 [] _ _
                  refine fx_i2 aj_d206 rfl (Nat.le_succ _) (fun _ => rfl) hlv53_0 ?_
                  refine fx_n (pc' := 93) (lv' := lv53) (st' := [.int (Int32.ofInt 0), .ref 117]) aj_d206 rfl (Nat.le_succ _) (fun _ => rfl) ?_
                  refine fx_pI aj_d206 rfl (Nat.le_succ _) rfl rfl (Or.inl rfl) fx_no_11_26 (by decide) ?_
                  refine fx_qX (fun X70 eX70 => ?_)
                  show fx_W _ _ _ 96 lv53 [] _ _
                  refine fx_i0 aj_d206 rfl (Nat.le_succ _) (fun _ => rfl) hlv53_1 ?_
                  refine fx_s0 (j := 2) aj_d206 rfl (Nat.le_succ _) (by decide) (fun _ => rfl) ?_
                  obtain ⟨lv71, elv71⟩ : ∃ l, l = aj_set1 lv53 2 (.int y1) := ⟨_, rfl⟩
                  rw [← elv71]
                  have hlv71_0 : aj_lv lv71 0 = some (.ref 117) := fx_e1 elv71 hlv53_0 (by decide) (Or.inl (by decide))
                  have hlv71_2 : aj_lv lv71 2 = some (.int y1) := by rw [elv71]; exact ak_set1_eq _ _ _
                  show fx_W _ _ _ 98 lv71 [] _ _
                  refine fx_n (pc' := 451) (lv' := lv71) (st' := []) aj_d206 rfl (Nat.le_succ _) (fun _ => rfl) ?_
                  refine fx_i2 aj_d206 rfl (Nat.le_succ _) (fun _ => rfl) hlv71_0 ?_
                  refine fx_i0 aj_d206 rfl (Nat.le_succ _) (fun _ => rfl) hlv71_2 ?_
                  refine fx_pI aj_d206 rfl (Nat.le_succ _) rfl rfl (Or.inl rfl) fx_no_11_28 (by decide) ?_
                  refine fx_qX (fun X72 eX72 => ?_)
                  show fx_W _ _ _ 456 lv71 [] _ _
                  exact fx_rn aj_d206 rfl ⟨(), rfl, 0, rfl⟩
              · skip
                refine fx_qi (c := ((X.1 138 (y1).toInt.toNat)).toInt = 32) (fx_f_ne q47) ?_
                show fx_W _ _ _ 57 lv [] _ _
                refine fx_incq aj_d206 rfl (Nat.le_succ _) hlv_1 (by decide) (fun x73 ex73 => ?_)
                obtain ⟨lv74, elv74⟩ : ∃ l, l = aj_set1 lv 1 (.int x73) := ⟨_, rfl⟩
                rw [← elv74]
                have hlv74_0 : aj_lv lv74 0 = some (.ref 117) := fx_e1 elv74 hlv_0 (by decide) (Or.inr rfl)
                have hlv74_1 : aj_lv lv74 1 = some (.int x73) := by rw [elv74]; exact ak_set1_eq _ _ _
                show fx_W _ _ _ 60 lv74 [] _ _
                refine fx_n (pc' := 5) (lv' := lv74) (st' := []) aj_d206 rfl (Nat.le_succ _) (fun _ => rfl) ?_
                exact (ih.1) lv74 (x73) X  hlv74_0 hlv74_1
    · intro lv y1 y2 X hlv_0 hlv_1 hlv_2
      refine fx_mono (Q := fx_Q fx_qN (fun v X' => ∃ n : Nat, gxT_206_109 (gxF_206 n) y1 y2 X v X')) (fun r X' ⟨v, e, n, z⟩ => ⟨v, e, n + 1, gxI_206_109 z⟩) ?_
      unfold gxT_206_109
      refine fx_i2 aj_d206 rfl (Nat.le_refl _) (fun _ => rfl) hlv_0 ?_
      refine fx_i0 aj_d206 rfl (Nat.le_succ _) (fun _ => rfl) hlv_2 ?_
      refine fx_cv aj_d206 rfl (Nat.le_succ _) rfl [_] rfl rfl (gx_208_ok y2) ?_
      rintro _ X124 ⟨w125, rfl, hR124⟩ hok124 hle124
      refine fx_qc hR124 ?_
      show fx_W _ _ _ 114 lv [.int w125] _ _
      refine fx_b0 (tgt := 125) aj_d206 rfl (Nat.le_succ _) rfl (fun q126 => ?_) (fun q126 => ?_)
      · skip
        refine fx_qe (c := (w125).toInt = 0) (fx_t_ne q126) ?_
        show fx_W _ _ _ 125 lv [] _ _
        refine fx_incq aj_d206 rfl (Nat.le_succ _) hlv_2 (by decide) (fun x127 ex127 => ?_)
        obtain ⟨lv128, elv128⟩ : ∃ l, l = aj_set1 lv 2 (.int x127) := ⟨_, rfl⟩
        rw [← elv128]
        have hlv128_0 : aj_lv lv128 0 = some (.ref 117) := fx_e1 elv128 hlv_0 (by decide) (Or.inl (by decide))
        have hlv128_1 : aj_lv lv128 1 = some (.int y1) := fx_e1 elv128 hlv_1 (by decide) (Or.inr rfl)
        have hlv128_2 : aj_lv lv128 2 = some (.int x127) := by rw [elv128]; exact ak_set1_eq _ _ _
        show fx_W _ _ _ 128 lv128 [] _ _
        refine fx_n (pc' := 109) (lv' := lv128) (st' := []) aj_d206 rfl (Nat.le_succ _) (fun _ => rfl) ?_
        exact (ih.2.1) lv128 (y1) (x127) X124  hlv128_0 hlv128_1 hlv128_2
      · skip
        refine fx_qi (c := (w125).toInt = 0) (fx_f_ne q126) ?_
        show fx_W _ _ _ 117 lv [] _ _
        refine fx_i2 aj_d206 rfl (Nat.le_succ _) (fun _ => rfl) hlv_0 ?_
        refine fx_i0 aj_d206 rfl (Nat.le_succ _) (fun _ => rfl) hlv_2 ?_
        refine fx_cv aj_d206 rfl (Nat.le_succ _) rfl [_] rfl rfl (gx_209_ok y2) ?_
        rintro _ X129 ⟨w130, rfl, hR129⟩ hok129 hle129
        refine fx_qc hR129 ?_
        show fx_W _ _ _ 122 lv [.int w130] _ _
        refine fx_b0 (tgt := 131) aj_d206 rfl (Nat.le_succ _) rfl (fun q131 => ?_) (fun q131 => ?_)
        · skip
          refine fx_qi (c := (w130).toInt = 0) (fx_t_eq q131) ?_
          show fx_W _ _ _ 131 lv [] _ _
          refine fx_i2 aj_d206 rfl (Nat.le_succ _) (fun _ => rfl) hlv_0 ?_
          refine fx_i0 aj_d206 rfl (Nat.le_succ _) (fun _ => rfl) hlv_2 ?_
          refine fx_i0 aj_d206 rfl (Nat.le_succ _) (fun _ => rfl) hlv_1 ?_
          refine fx_n (pc' := 135) (lv' := lv) (st' := [.int (y2 - y1), .ref 117]) aj_d206 rfl (Nat.le_succ _) (fun _ => rfl) ?_
          refine fx_n (pc' := 137) (lv' := lv) (st' := [.int ((Int8.ofInt 8).toInt32), .int (y2 - y1), .ref 117]) aj_d206 rfl (Nat.le_succ _) (fun _ => rfl) ?_
          refine fx_b (tgt := 144) aj_d206 rfl (Nat.le_succ _) rfl (fun q132 => ?_) (fun q132 => ?_)
          · skip
            refine fx_qe (c := 8 < ((y2 - y1)).toInt) (fx_t_le q132) ?_
            show fx_W _ _ _ 144 lv [.ref 117] _ _
            refine fx_i2 aj_d206 rfl (Nat.le_succ _) (fun _ => rfl) hlv_0 ?_
            refine fx_i0 aj_d206 rfl (Nat.le_succ _) (fun _ => rfl) hlv_1 ?_
            refine fx_i0 aj_d206 rfl (Nat.le_succ _) (fun _ => rfl) hlv_2 ?_
            refine fx_cv aj_d206 rfl (Nat.le_succ _) rfl [_, _] rfl rfl (gx_210_ok y1 y2) ?_
            rintro _ X133 ⟨w134, rfl, hR133⟩ hok133 hle133
            refine fx_qc hR133 ?_
            show fx_W _ _ _ 150 lv [.long w134, .ref 117] _ _
            refine fx_cs aj_d206 rfl (Nat.le_succ _) rfl rfl [_] rfl rfl (gx_211_ok w134) ?_
            rintro _ X135 ⟨w136, rfl, hR135⟩ hok135 hle135
            refine fx_qc hR135 ?_
            show fx_W _ _ _ 153 lv [.int w136, .ref 117] _ _
            refine fx_pI aj_d206 rfl (Nat.le_succ _) rfl rfl (Or.inl rfl) fx_no_11_29 (by decide) ?_
            refine fx_qX (fun X137 eX137 => ?_)
            show fx_W _ _ _ 156 lv [] _ _
            refine fx_i2 aj_d206 rfl (Nat.le_succ _) (fun _ => rfl) hlv_0 ?_
            refine fx_i0 aj_d206 rfl (Nat.le_succ _) (fun _ => rfl) hlv_2 ?_
            refine fx_i0 aj_d206 rfl (Nat.le_succ _) (fun _ => rfl) hlv_1 ?_
            refine fx_n (pc' := 160) (lv' := lv) (st' := [.int (y2 - y1), .ref 117]) aj_d206 rfl (Nat.le_succ _) (fun _ => rfl) ?_
            refine fx_n (pc' := 162) (lv' := lv) (st' := [.int ((Int8.ofInt 8).toInt32), .int (y2 - y1), .ref 117]) aj_d206 rfl (Nat.le_succ _) (fun _ => rfl) ?_
            refine fx_b (tgt := 169) aj_d206 rfl (Nat.le_succ _) rfl (fun q138 => ?_) (fun q138 => ?_)
            · skip
              refine fx_qe (c := 8 < ((y2 - y1)).toInt) (fx_t_le q138) ?_
              show fx_W _ _ _ 169 lv [.ref 117] _ _
              refine fx_i2 aj_d206 rfl (Nat.le_succ _) (fun _ => rfl) hlv_0 ?_
              refine fx_gI aj_d206 rfl (Nat.le_succ _) rfl rfl (Or.inl rfl) ?_
              refine fx_b0 (tgt := 180) aj_d206 rfl (Nat.le_succ _) rfl (fun q139 => ?_) (fun q139 => ?_)
              · skip
                refine fx_qi (c := ((X137.1 117 29)).toInt < 0) (fx_t_lt q139) ?_
                show fx_W _ _ _ 180 lv [.ref 117] _ _
                refine fx_n (pc' := 181) (lv' := lv) (st' := [.int (Int32.ofInt 1), .ref 117]) aj_d206 rfl (Nat.le_succ _) (fun _ => rfl) ?_
                refine fx_pI aj_d206 rfl (Nat.le_succ _) rfl rfl (Or.inl rfl) fx_no_11_26 (by decide) ?_
                refine fx_qX (fun X140 eX140 => ?_)
                show fx_W _ _ _ 184 lv [] _ _
                refine fx_n (pc' := 451) (lv' := lv) (st' := []) aj_d206 rfl (Nat.le_succ _) (fun _ => rfl) ?_
                refine fx_i2 aj_d206 rfl (Nat.le_succ _) (fun _ => rfl) hlv_0 ?_
                refine fx_i0 aj_d206 rfl (Nat.le_succ _) (fun _ => rfl) hlv_2 ?_
                refine fx_pI aj_d206 rfl (Nat.le_succ _) rfl rfl (Or.inl rfl) fx_no_11_28 (by decide) ?_
                refine fx_qX (fun X141 eX141 => ?_)
                show fx_W _ _ _ 456 lv [] _ _
                exact fx_rn aj_d206 rfl ⟨(), rfl, 0, rfl⟩
              · skip
                refine fx_qe (c := ((X137.1 117 29)).toInt < 0) (fx_f_lt q139) ?_
                show fx_W _ _ _ 176 lv [.ref 117] _ _
                refine fx_n (pc' := 177) (lv' := lv) (st' := [.int (Int32.ofInt 4), .ref 117]) aj_d206 rfl (Nat.le_succ _) (fun _ => rfl) ?_
                refine fx_n (pc' := 181) (lv' := lv) (st' := [.int (Int32.ofInt 4), .ref 117]) aj_d206 rfl (Nat.le_succ _) (fun _ => rfl) ?_
                refine fx_pI aj_d206 rfl (Nat.le_succ _) rfl rfl (Or.inl rfl) fx_no_11_26 (by decide) ?_
                refine fx_qX (fun X142 eX142 => ?_)
                show fx_W _ _ _ 184 lv [] _ _
                refine fx_n (pc' := 451) (lv' := lv) (st' := []) aj_d206 rfl (Nat.le_succ _) (fun _ => rfl) ?_
                refine fx_i2 aj_d206 rfl (Nat.le_succ _) (fun _ => rfl) hlv_0 ?_
                refine fx_i0 aj_d206 rfl (Nat.le_succ _) (fun _ => rfl) hlv_2 ?_
                refine fx_pI aj_d206 rfl (Nat.le_succ _) rfl rfl (Or.inl rfl) fx_no_11_28 (by decide) ?_
                refine fx_qX (fun X143 eX143 => ?_)
                show fx_W _ _ _ 456 lv [] _ _
                exact fx_rn aj_d206 rfl ⟨(), rfl, 0, rfl⟩
            · skip
              refine fx_qi (c := 8 < ((y2 - y1)).toInt) (fx_f_le q138) ?_
              show fx_W _ _ _ 165 lv [.ref 117] _ _
              refine fx_n (pc' := 166) (lv' := lv) (st' := [.int (Int32.ofInt 5), .ref 117]) aj_d206 rfl (Nat.le_succ _) (fun _ => rfl) ?_
              refine fx_n (pc' := 181) (lv' := lv) (st' := [.int (Int32.ofInt 5), .ref 117]) aj_d206 rfl (Nat.le_succ _) (fun _ => rfl) ?_
              refine fx_pI aj_d206 rfl (Nat.le_succ _) rfl rfl (Or.inl rfl) fx_no_11_26 (by decide) ?_
              refine fx_qX (fun X144 eX144 => ?_)
              show fx_W _ _ _ 184 lv [] _ _
              refine fx_n (pc' := 451) (lv' := lv) (st' := []) aj_d206 rfl (Nat.le_succ _) (fun _ => rfl) ?_
              refine fx_i2 aj_d206 rfl (Nat.le_succ _) (fun _ => rfl) hlv_0 ?_
              refine fx_i0 aj_d206 rfl (Nat.le_succ _) (fun _ => rfl) hlv_2 ?_
              refine fx_pI aj_d206 rfl (Nat.le_succ _) rfl rfl (Or.inl rfl) fx_no_11_28 (by decide) ?_
              refine fx_qX (fun X145 eX145 => ?_)
              show fx_W _ _ _ 456 lv [] _ _
              exact fx_rn aj_d206 rfl ⟨(), rfl, 0, rfl⟩
          · skip
            refine fx_qi (c := 8 < ((y2 - y1)).toInt) (fx_f_le q132) ?_
            show fx_W _ _ _ 140 lv [.ref 117] _ _
            refine fx_n (pc' := 141) (lv' := lv) (st' := [.int (Int32.ofInt (-1)), .ref 117]) aj_d206 rfl (Nat.le_succ _) (fun _ => rfl) ?_
            refine fx_n (pc' := 153) (lv' := lv) (st' := [.int (Int32.ofInt (-1)), .ref 117]) aj_d206 rfl (Nat.le_succ _) (fun _ => rfl) ?_
            refine fx_pI aj_d206 rfl (Nat.le_succ _) rfl rfl (Or.inl rfl) fx_no_11_29 (by decide) ?_
            refine fx_qX (fun X146 eX146 => ?_)
            show fx_W _ _ _ 156 lv [] _ _
            refine fx_i2 aj_d206 rfl (Nat.le_succ _) (fun _ => rfl) hlv_0 ?_
            refine fx_i0 aj_d206 rfl (Nat.le_succ _) (fun _ => rfl) hlv_2 ?_
            refine fx_i0 aj_d206 rfl (Nat.le_succ _) (fun _ => rfl) hlv_1 ?_
            refine fx_n (pc' := 160) (lv' := lv) (st' := [.int (y2 - y1), .ref 117]) aj_d206 rfl (Nat.le_succ _) (fun _ => rfl) ?_
            refine fx_n (pc' := 162) (lv' := lv) (st' := [.int ((Int8.ofInt 8).toInt32), .int (y2 - y1), .ref 117]) aj_d206 rfl (Nat.le_succ _) (fun _ => rfl) ?_
            refine fx_b (tgt := 169) aj_d206 rfl (Nat.le_succ _) rfl (fun q147 => ?_) (fun q147 => ?_)
            · skip
              refine fx_qe (c := 8 < ((y2 - y1)).toInt) (fx_t_le q147) ?_
              show fx_W _ _ _ 169 lv [.ref 117] _ _
              refine fx_i2 aj_d206 rfl (Nat.le_succ _) (fun _ => rfl) hlv_0 ?_
              refine fx_gI aj_d206 rfl (Nat.le_succ _) rfl rfl (Or.inl rfl) ?_
              refine fx_b0 (tgt := 180) aj_d206 rfl (Nat.le_succ _) rfl (fun q148 => ?_) (fun q148 => ?_)
              · skip
                refine fx_qi (c := ((X146.1 117 29)).toInt < 0) (fx_t_lt q148) ?_
                show fx_W _ _ _ 180 lv [.ref 117] _ _
                refine fx_n (pc' := 181) (lv' := lv) (st' := [.int (Int32.ofInt 1), .ref 117]) aj_d206 rfl (Nat.le_succ _) (fun _ => rfl) ?_
                refine fx_pI aj_d206 rfl (Nat.le_succ _) rfl rfl (Or.inl rfl) fx_no_11_26 (by decide) ?_
                refine fx_qX (fun X149 eX149 => ?_)
                show fx_W _ _ _ 184 lv [] _ _
                refine fx_n (pc' := 451) (lv' := lv) (st' := []) aj_d206 rfl (Nat.le_succ _) (fun _ => rfl) ?_
                refine fx_i2 aj_d206 rfl (Nat.le_succ _) (fun _ => rfl) hlv_0 ?_
                refine fx_i0 aj_d206 rfl (Nat.le_succ _) (fun _ => rfl) hlv_2 ?_
                refine fx_pI aj_d206 rfl (Nat.le_succ _) rfl rfl (Or.inl rfl) fx_no_11_28 (by decide) ?_
                refine fx_qX (fun X150 eX150 => ?_)
                show fx_W _ _ _ 456 lv [] _ _
                exact fx_rn aj_d206 rfl ⟨(), rfl, 0, rfl⟩
              · skip
                refine fx_qe (c := ((X146.1 117 29)).toInt < 0) (fx_f_lt q148) ?_
                show fx_W _ _ _ 176 lv [.ref 117] _ _
                refine fx_n (pc' := 177) (lv' := lv) (st' := [.int (Int32.ofInt 4), .ref 117]) aj_d206 rfl (Nat.le_succ _) (fun _ => rfl) ?_
                refine fx_n (pc' := 181) (lv' := lv) (st' := [.int (Int32.ofInt 4), .ref 117]) aj_d206 rfl (Nat.le_succ _) (fun _ => rfl) ?_
                refine fx_pI aj_d206 rfl (Nat.le_succ _) rfl rfl (Or.inl rfl) fx_no_11_26 (by decide) ?_
                refine fx_qX (fun X151 eX151 => ?_)
                show fx_W _ _ _ 184 lv [] _ _
                refine fx_n (pc' := 451) (lv' := lv) (st' := []) aj_d206 rfl (Nat.le_succ _) (fun _ => rfl) ?_
                refine fx_i2 aj_d206 rfl (Nat.le_succ _) (fun _ => rfl) hlv_0 ?_
                refine fx_i0 aj_d206 rfl (Nat.le_succ _) (fun _ => rfl) hlv_2 ?_
                refine fx_pI aj_d206 rfl (Nat.le_succ _) rfl rfl (Or.inl rfl) fx_no_11_28 (by decide) ?_
                refine fx_qX (fun X152 eX152 => ?_)
                show fx_W _ _ _ 456 lv [] _ _
                exact fx_rn aj_d206 rfl ⟨(), rfl, 0, rfl⟩
            · skip
              refine fx_qi (c := 8 < ((y2 - y1)).toInt) (fx_f_le q147) ?_
              show fx_W _ _ _ 165 lv [.ref 117] _ _
              refine fx_n (pc' := 166) (lv' := lv) (st' := [.int (Int32.ofInt 5), .ref 117]) aj_d206 rfl (Nat.le_succ _) (fun _ => rfl) ?_
              refine fx_n (pc' := 181) (lv' := lv) (st' := [.int (Int32.ofInt 5), .ref 117]) aj_d206 rfl (Nat.le_succ _) (fun _ => rfl) ?_
              refine fx_pI aj_d206 rfl (Nat.le_succ _) rfl rfl (Or.inl rfl) fx_no_11_26 (by decide) ?_
              refine fx_qX (fun X153 eX153 => ?_)
              show fx_W _ _ _ 184 lv [] _ _
              refine fx_n (pc' := 451) (lv' := lv) (st' := []) aj_d206 rfl (Nat.le_succ _) (fun _ => rfl) ?_
              refine fx_i2 aj_d206 rfl (Nat.le_succ _) (fun _ => rfl) hlv_0 ?_
              refine fx_i0 aj_d206 rfl (Nat.le_succ _) (fun _ => rfl) hlv_2 ?_
              refine fx_pI aj_d206 rfl (Nat.le_succ _) rfl rfl (Or.inl rfl) fx_no_11_28 (by decide) ?_
              refine fx_qX (fun X154 eX154 => ?_)
              show fx_W _ _ _ 456 lv [] _ _
              exact fx_rn aj_d206 rfl ⟨(), rfl, 0, rfl⟩
        · skip
          refine fx_qe (c := (w130).toInt = 0) (fx_f_eq q131) ?_
          show fx_W _ _ _ 125 lv [] _ _
          refine fx_incq aj_d206 rfl (Nat.le_succ _) hlv_2 (by decide) (fun x155 ex155 => ?_)
          obtain ⟨lv156, elv156⟩ : ∃ l, l = aj_set1 lv 2 (.int x155) := ⟨_, rfl⟩
          rw [← elv156]
          have hlv156_0 : aj_lv lv156 0 = some (.ref 117) := fx_e1 elv156 hlv_0 (by decide) (Or.inl (by decide))
          have hlv156_1 : aj_lv lv156 1 = some (.int y1) := fx_e1 elv156 hlv_1 (by decide) (Or.inr rfl)
          have hlv156_2 : aj_lv lv156 2 = some (.int x155) := by rw [elv156]; exact ak_set1_eq _ _ _
          show fx_W _ _ _ 128 lv156 [] _ _
          refine fx_n (pc' := 109) (lv' := lv156) (st' := []) aj_d206 rfl (Nat.le_succ _) (fun _ => rfl) ?_
          exact (ih.2.1) lv156 (y1) (x155) X129  hlv156_0 hlv156_1 hlv156_2
    · intro lv y1 y2 X hlv_0 hlv_1 hlv_2
      refine fx_mono (Q := fx_Q fx_qN (fun v X' => ∃ n : Nat, gxT_206_195 (gxF_206 n) y1 y2 X v X')) (fun r X' ⟨v, e, n, z⟩ => ⟨v, e, n + 1, gxI_206_195 z⟩) ?_
      unfold gxT_206_195
      refine fx_i2 aj_d206 rfl (Nat.le_refl _) (fun _ => rfl) hlv_0 ?_
      refine fx_i0 aj_d206 rfl (Nat.le_succ _) (fun _ => rfl) hlv_2 ?_
      refine fx_cv aj_d206 rfl (Nat.le_succ _) rfl [_] rfl rfl (gx_209_ok y2) ?_
      rintro _ X114 ⟨w115, rfl, hR114⟩ hok114 hle114
      refine fx_qc hR114 ?_
      show fx_W _ _ _ 200 lv [.int w115] _ _
      refine fx_b0 (tgt := 209) aj_d206 rfl (Nat.le_succ _) rfl (fun q116 => ?_) (fun q116 => ?_)
      · skip
        refine fx_qi (c := (w115).toInt = 0) (fx_t_eq q116) ?_
        show fx_W _ _ _ 209 lv [] _ _
        refine fx_i2 aj_d206 rfl (Nat.le_succ _) (fun _ => rfl) hlv_0 ?_
        refine fx_i0 aj_d206 rfl (Nat.le_succ _) (fun _ => rfl) hlv_2 ?_
        refine fx_i0 aj_d206 rfl (Nat.le_succ _) (fun _ => rfl) hlv_1 ?_
        refine fx_n (pc' := 213) (lv' := lv) (st' := [.int (y2 - y1), .ref 117]) aj_d206 rfl (Nat.le_succ _) (fun _ => rfl) ?_
        refine fx_n (pc' := 214) (lv' := lv) (st' := [.int (Int32.ofInt 4), .int (y2 - y1), .ref 117]) aj_d206 rfl (Nat.le_succ _) (fun _ => rfl) ?_
        refine fx_b (tgt := 221) aj_d206 rfl (Nat.le_succ _) rfl (fun q117 => ?_) (fun q117 => ?_)
        · skip
          refine fx_qe (c := 4 < ((y2 - y1)).toInt) (fx_t_le q117) ?_
          show fx_W _ _ _ 221 lv [.ref 117] _ _
          refine fx_n (pc' := 222) (lv' := lv) (st' := [.int (Int32.ofInt 2), .ref 117]) aj_d206 rfl (Nat.le_succ _) (fun _ => rfl) ?_
          refine fx_pI aj_d206 rfl (Nat.le_succ _) rfl rfl (Or.inl rfl) fx_no_11_26 (by decide) ?_
          refine fx_qX (fun X118 eX118 => ?_)
          show fx_W _ _ _ 225 lv [] _ _
          refine fx_n (pc' := 451) (lv' := lv) (st' := []) aj_d206 rfl (Nat.le_succ _) (fun _ => rfl) ?_
          refine fx_i2 aj_d206 rfl (Nat.le_succ _) (fun _ => rfl) hlv_0 ?_
          refine fx_i0 aj_d206 rfl (Nat.le_succ _) (fun _ => rfl) hlv_2 ?_
          refine fx_pI aj_d206 rfl (Nat.le_succ _) rfl rfl (Or.inl rfl) fx_no_11_28 (by decide) ?_
          refine fx_qX (fun X119 eX119 => ?_)
          show fx_W _ _ _ 456 lv [] _ _
          exact fx_rn aj_d206 rfl ⟨(), rfl, 0, rfl⟩
        · skip
          refine fx_qi (c := 4 < ((y2 - y1)).toInt) (fx_f_le q117) ?_
          show fx_W _ _ _ 217 lv [.ref 117] _ _
          refine fx_n (pc' := 218) (lv' := lv) (st' := [.int (Int32.ofInt 5), .ref 117]) aj_d206 rfl (Nat.le_succ _) (fun _ => rfl) ?_
          refine fx_n (pc' := 222) (lv' := lv) (st' := [.int (Int32.ofInt 5), .ref 117]) aj_d206 rfl (Nat.le_succ _) (fun _ => rfl) ?_
          refine fx_pI aj_d206 rfl (Nat.le_succ _) rfl rfl (Or.inl rfl) fx_no_11_26 (by decide) ?_
          refine fx_qX (fun X120 eX120 => ?_)
          show fx_W _ _ _ 225 lv [] _ _
          refine fx_n (pc' := 451) (lv' := lv) (st' := []) aj_d206 rfl (Nat.le_succ _) (fun _ => rfl) ?_
          refine fx_i2 aj_d206 rfl (Nat.le_succ _) (fun _ => rfl) hlv_0 ?_
          refine fx_i0 aj_d206 rfl (Nat.le_succ _) (fun _ => rfl) hlv_2 ?_
          refine fx_pI aj_d206 rfl (Nat.le_succ _) rfl rfl (Or.inl rfl) fx_no_11_28 (by decide) ?_
          refine fx_qX (fun X121 eX121 => ?_)
          show fx_W _ _ _ 456 lv [] _ _
          exact fx_rn aj_d206 rfl ⟨(), rfl, 0, rfl⟩
      · skip
        refine fx_qe (c := (w115).toInt = 0) (fx_f_eq q116) ?_
        show fx_W _ _ _ 203 lv [] _ _
        refine fx_incq aj_d206 rfl (Nat.le_succ _) hlv_2 (by decide) (fun x122 ex122 => ?_)
        obtain ⟨lv123, elv123⟩ : ∃ l, l = aj_set1 lv 2 (.int x122) := ⟨_, rfl⟩
        rw [← elv123]
        have hlv123_0 : aj_lv lv123 0 = some (.ref 117) := fx_e1 elv123 hlv_0 (by decide) (Or.inl (by decide))
        have hlv123_1 : aj_lv lv123 1 = some (.int y1) := fx_e1 elv123 hlv_1 (by decide) (Or.inr rfl)
        have hlv123_2 : aj_lv lv123 2 = some (.int x122) := by rw [elv123]; exact ak_set1_eq _ _ _
        show fx_W _ _ _ 206 lv123 [] _ _
        refine fx_n (pc' := 195) (lv' := lv123) (st' := []) aj_d206 rfl (Nat.le_succ _) (fun _ => rfl) ?_
        exact (ih.2.2.1) lv123 (y1) (x122) X114  hlv123_0 hlv123_1 hlv123_2
    · intro lv y2 y3 y4 X hlv_0 hlv_2 hlv_3 hlv_4
      refine fx_mono (Q := fx_Q fx_qN (fun v X' => ∃ n : Nat, gxT_206_261 (gxF_206 n) y2 y3 y4 X v X')) (fun r X' ⟨v, e, n, z⟩ => ⟨v, e, n + 1, gxI_206_261 z⟩) ?_
      unfold gxT_206_261
      refine fx_i0 aj_d206 rfl (Nat.le_refl _) (fun _ => rfl) hlv_3 ?_
      refine fx_n (pc' := 264) (lv' := lv) (st' := [.int ((Int8.ofInt 33).toInt32), .int y3]) aj_d206 rfl (Nat.le_succ _) (fun _ => rfl) ?_
      refine fx_b (tgt := 287) aj_d206 rfl (Nat.le_succ _) rfl (fun q75 => ?_) (fun q75 => ?_)
      · skip
        refine fx_qe (c := (y3).toInt = 33) (fx_t_ne q75) ?_
        show fx_W _ _ _ 287 lv [] _ _
        refine fx_i0 aj_d206 rfl (Nat.le_succ _) (fun _ => rfl) hlv_3 ?_
        refine fx_n (pc' := 290) (lv' := lv) (st' := [.int ((Int8.ofInt 60).toInt32), .int y3]) aj_d206 rfl (Nat.le_succ _) (fun _ => rfl) ?_
        refine fx_b (tgt := 310) aj_d206 rfl (Nat.le_succ _) rfl (fun q76 => ?_) (fun q76 => ?_)
        · skip
          refine fx_qe (c := (y3).toInt = 60) (fx_t_ne q76) ?_
          show fx_W _ _ _ 310 lv [] _ _
          exact (ih.2.2.2.2.1) lv (y2) (y3) X  hlv_0 hlv_2 hlv_3
        · skip
          refine fx_qi (c := (y3).toInt = 60) (fx_f_ne q76) ?_
          show fx_W _ _ _ 293 lv [] _ _
          refine fx_i0 aj_d206 rfl (Nat.le_succ _) (fun _ => rfl) hlv_4 ?_
          refine fx_n (pc' := 297) (lv' := lv) (st' := [.int ((Int8.ofInt 61).toInt32), .int y4]) aj_d206 rfl (Nat.le_succ _) (fun _ => rfl) ?_
          refine fx_b (tgt := 310) aj_d206 rfl (Nat.le_succ _) rfl (fun q77 => ?_) (fun q77 => ?_)
          · skip
            refine fx_qe (c := (y4).toInt = 61) (fx_t_ne q77) ?_
            show fx_W _ _ _ 310 lv [] _ _
            exact (ih.2.2.2.2.1) lv (y2) (y3) X  hlv_0 hlv_2 hlv_3
          · skip
            refine fx_qi (c := (y4).toInt = 61) (fx_f_ne q77) ?_
            show fx_W _ _ _ 300 lv [] _ _
            refine fx_i2 aj_d206 rfl (Nat.le_succ _) (fun _ => rfl) hlv_0 ?_
            refine fx_n (pc' := 304) (lv' := lv) (st' := [.int ((Int16.ofInt 258).toInt32), .ref 117]) aj_d206 rfl (Nat.le_succ _) (fun _ => rfl) ?_
            refine fx_pI aj_d206 rfl (Nat.le_succ _) rfl rfl (Or.inl rfl) fx_no_11_29 (by decide) ?_
            refine fx_qX (fun X78 eX78 => ?_)
            show fx_W _ _ _ 307 lv [] _ _
            refine fx_incq aj_d206 rfl (Nat.le_succ _) hlv_2 (by decide) (fun x79 ex79 => ?_)
            obtain ⟨lv80, elv80⟩ : ∃ l, l = aj_set1 lv 2 (.int x79) := ⟨_, rfl⟩
            rw [← elv80]
            have hlv80_0 : aj_lv lv80 0 = some (.ref 117) := fx_e1 elv80 hlv_0 (by decide) (Or.inl (by decide))
            have hlv80_3 : aj_lv lv80 3 = some (.int y3) := fx_e1 elv80 hlv_3 (by decide) (Or.inl (by decide))
            have hlv80_2 : aj_lv lv80 2 = some (.int x79) := by rw [elv80]; exact ak_set1_eq _ _ _
            show fx_W _ _ _ 310 lv80 [] _ _
            exact (ih.2.2.2.2.1) lv80 (x79) (y3) X78  hlv80_0 hlv80_2 hlv80_3
      · skip
        refine fx_qi (c := (y3).toInt = 33) (fx_f_ne q75) ?_
        show fx_W _ _ _ 267 lv [] _ _
        refine fx_i0 aj_d206 rfl (Nat.le_succ _) (fun _ => rfl) hlv_4 ?_
        refine fx_n (pc' := 271) (lv' := lv) (st' := [.int ((Int8.ofInt 61).toInt32), .int y4]) aj_d206 rfl (Nat.le_succ _) (fun _ => rfl) ?_
        refine fx_b (tgt := 287) aj_d206 rfl (Nat.le_succ _) rfl (fun q81 => ?_) (fun q81 => ?_)
        · skip
          refine fx_qe (c := (y4).toInt = 61) (fx_t_ne q81) ?_
          show fx_W _ _ _ 287 lv [] _ _
          refine fx_i0 aj_d206 rfl (Nat.le_succ _) (fun _ => rfl) hlv_3 ?_
          refine fx_n (pc' := 290) (lv' := lv) (st' := [.int ((Int8.ofInt 60).toInt32), .int y3]) aj_d206 rfl (Nat.le_succ _) (fun _ => rfl) ?_
          refine fx_b (tgt := 310) aj_d206 rfl (Nat.le_succ _) rfl (fun q82 => ?_) (fun q82 => ?_)
          · skip
            refine fx_qe (c := (y3).toInt = 60) (fx_t_ne q82) ?_
            show fx_W _ _ _ 310 lv [] _ _
            exact (ih.2.2.2.2.1) lv (y2) (y3) X  hlv_0 hlv_2 hlv_3
          · skip
            refine fx_qi (c := (y3).toInt = 60) (fx_f_ne q82) ?_
            show fx_W _ _ _ 293 lv [] _ _
            refine fx_i0 aj_d206 rfl (Nat.le_succ _) (fun _ => rfl) hlv_4 ?_
            refine fx_n (pc' := 297) (lv' := lv) (st' := [.int ((Int8.ofInt 61).toInt32), .int y4]) aj_d206 rfl (Nat.le_succ _) (fun _ => rfl) ?_
            refine fx_b (tgt := 310) aj_d206 rfl (Nat.le_succ _) rfl (fun q83 => ?_) (fun q83 => ?_)
            · skip
              refine fx_qe (c := (y4).toInt = 61) (fx_t_ne q83) ?_
              show fx_W _ _ _ 310 lv [] _ _
              exact (ih.2.2.2.2.1) lv (y2) (y3) X  hlv_0 hlv_2 hlv_3
            · skip
              refine fx_qi (c := (y4).toInt = 61) (fx_f_ne q83) ?_
              show fx_W _ _ _ 300 lv [] _ _
              refine fx_i2 aj_d206 rfl (Nat.le_succ _) (fun _ => rfl) hlv_0 ?_
              refine fx_n (pc' := 304) (lv' := lv) (st' := [.int ((Int16.ofInt 258).toInt32), .ref 117]) aj_d206 rfl (Nat.le_succ _) (fun _ => rfl) ?_
              refine fx_pI aj_d206 rfl (Nat.le_succ _) rfl rfl (Or.inl rfl) fx_no_11_29 (by decide) ?_
              refine fx_qX (fun X84 eX84 => ?_)
              show fx_W _ _ _ 307 lv [] _ _
              refine fx_incq aj_d206 rfl (Nat.le_succ _) hlv_2 (by decide) (fun x85 ex85 => ?_)
              obtain ⟨lv86, elv86⟩ : ∃ l, l = aj_set1 lv 2 (.int x85) := ⟨_, rfl⟩
              rw [← elv86]
              have hlv86_0 : aj_lv lv86 0 = some (.ref 117) := fx_e1 elv86 hlv_0 (by decide) (Or.inl (by decide))
              have hlv86_3 : aj_lv lv86 3 = some (.int y3) := fx_e1 elv86 hlv_3 (by decide) (Or.inl (by decide))
              have hlv86_2 : aj_lv lv86 2 = some (.int x85) := by rw [elv86]; exact ak_set1_eq _ _ _
              show fx_W _ _ _ 310 lv86 [] _ _
              exact (ih.2.2.2.2.1) lv86 (x85) (y3) X84  hlv86_0 hlv86_2 hlv86_3
        · skip
          refine fx_qi (c := (y4).toInt = 61) (fx_f_ne q81) ?_
          show fx_W _ _ _ 274 lv [] _ _
          refine fx_i2 aj_d206 rfl (Nat.le_succ _) (fun _ => rfl) hlv_0 ?_
          refine fx_n (pc' := 278) (lv' := lv) (st' := [.int ((Int16.ofInt 257).toInt32), .ref 117]) aj_d206 rfl (Nat.le_succ _) (fun _ => rfl) ?_
          refine fx_pI aj_d206 rfl (Nat.le_succ _) rfl rfl (Or.inl rfl) fx_no_11_29 (by decide) ?_
          refine fx_qX (fun X87 eX87 => ?_)
          show fx_W _ _ _ 281 lv [] _ _
          refine fx_incq aj_d206 rfl (Nat.le_succ _) hlv_2 (by decide) (fun x88 ex88 => ?_)
          obtain ⟨lv89, elv89⟩ : ∃ l, l = aj_set1 lv 2 (.int x88) := ⟨_, rfl⟩
          rw [← elv89]
          have hlv89_0 : aj_lv lv89 0 = some (.ref 117) := fx_e1 elv89 hlv_0 (by decide) (Or.inl (by decide))
          have hlv89_3 : aj_lv lv89 3 = some (.int y3) := fx_e1 elv89 hlv_3 (by decide) (Or.inl (by decide))
          have hlv89_2 : aj_lv lv89 2 = some (.int x88) := by rw [elv89]; exact ak_set1_eq _ _ _
          show fx_W _ _ _ 284 lv89 [] _ _
          refine fx_n (pc' := 310) (lv' := lv89) (st' := []) aj_d206 rfl (Nat.le_succ _) (fun _ => rfl) ?_
          exact (ih.2.2.2.2.1) lv89 (x88) (y3) X87  hlv89_0 hlv89_2 hlv89_3
    · intro lv y2 y3 X hlv_0 hlv_2 hlv_3
      refine fx_mono (Q := fx_Q fx_qN (fun v X' => ∃ n : Nat, gxT_206_310 (gxF_206 n) y2 y3 X v X')) (fun r X' ⟨v, e, n, z⟩ => ⟨v, e, n + 1, gxI_206_310 z⟩) ?_
      unfold gxT_206_310
      refine fx_i0 aj_d206 rfl (Nat.le_refl _) (fun _ => rfl) hlv_3 ?_
      refine fx_n (pc' := 313) (lv' := lv) (st' := [.int ((Int8.ofInt 40).toInt32), .int y3]) aj_d206 rfl (Nat.le_succ _) (fun _ => rfl) ?_
      refine fx_b (tgt := 430) aj_d206 rfl (Nat.le_succ _) rfl (fun q90 => ?_) (fun q90 => ?_)
      · skip
        refine fx_qi (c := (y3).toInt = 40) (fx_t_eq q90) ?_
        show fx_W _ _ _ 430 lv [] _ _
        exact (ih.2.2.2.2.2) lv (y2) X  hlv_0 hlv_2
      · skip
        refine fx_qe (c := (y3).toInt = 40) (fx_f_eq q90) ?_
        show fx_W _ _ _ 316 lv [] _ _
        refine fx_i0 aj_d206 rfl (Nat.le_succ _) (fun _ => rfl) hlv_3 ?_
        refine fx_n (pc' := 319) (lv' := lv) (st' := [.int ((Int8.ofInt 41).toInt32), .int y3]) aj_d206 rfl (Nat.le_succ _) (fun _ => rfl) ?_
        refine fx_b (tgt := 430) aj_d206 rfl (Nat.le_succ _) rfl (fun q91 => ?_) (fun q91 => ?_)
        · skip
          refine fx_qi (c := (y3).toInt = 41) (fx_t_eq q91) ?_
          show fx_W _ _ _ 430 lv [] _ _
          exact (ih.2.2.2.2.2) lv (y2) X  hlv_0 hlv_2
        · skip
          refine fx_qe (c := (y3).toInt = 41) (fx_f_eq q91) ?_
          show fx_W _ _ _ 322 lv [] _ _
          refine fx_i0 aj_d206 rfl (Nat.le_succ _) (fun _ => rfl) hlv_3 ?_
          refine fx_n (pc' := 325) (lv' := lv) (st' := [.int ((Int8.ofInt 91).toInt32), .int y3]) aj_d206 rfl (Nat.le_succ _) (fun _ => rfl) ?_
          refine fx_b (tgt := 430) aj_d206 rfl (Nat.le_succ _) rfl (fun q92 => ?_) (fun q92 => ?_)
          · skip
            refine fx_qi (c := (y3).toInt = 91) (fx_t_eq q92) ?_
            show fx_W _ _ _ 430 lv [] _ _
            exact (ih.2.2.2.2.2) lv (y2) X  hlv_0 hlv_2
          · skip
            refine fx_qe (c := (y3).toInt = 91) (fx_f_eq q92) ?_
            show fx_W _ _ _ 328 lv [] _ _
            refine fx_i0 aj_d206 rfl (Nat.le_succ _) (fun _ => rfl) hlv_3 ?_
            refine fx_n (pc' := 331) (lv' := lv) (st' := [.int ((Int8.ofInt 93).toInt32), .int y3]) aj_d206 rfl (Nat.le_succ _) (fun _ => rfl) ?_
            refine fx_b (tgt := 430) aj_d206 rfl (Nat.le_succ _) rfl (fun q93 => ?_) (fun q93 => ?_)
            · skip
              refine fx_qi (c := (y3).toInt = 93) (fx_t_eq q93) ?_
              show fx_W _ _ _ 430 lv [] _ _
              exact (ih.2.2.2.2.2) lv (y2) X  hlv_0 hlv_2
            · skip
              refine fx_qe (c := (y3).toInt = 93) (fx_f_eq q93) ?_
              show fx_W _ _ _ 334 lv [] _ _
              refine fx_i0 aj_d206 rfl (Nat.le_succ _) (fun _ => rfl) hlv_3 ?_
              refine fx_n (pc' := 337) (lv' := lv) (st' := [.int ((Int8.ofInt 123).toInt32), .int y3]) aj_d206 rfl (Nat.le_succ _) (fun _ => rfl) ?_
              refine fx_b (tgt := 430) aj_d206 rfl (Nat.le_succ _) rfl (fun q94 => ?_) (fun q94 => ?_)
              · skip
                refine fx_qi (c := (y3).toInt = 123) (fx_t_eq q94) ?_
                show fx_W _ _ _ 430 lv [] _ _
                exact (ih.2.2.2.2.2) lv (y2) X  hlv_0 hlv_2
              · skip
                refine fx_qe (c := (y3).toInt = 123) (fx_f_eq q94) ?_
                show fx_W _ _ _ 340 lv [] _ _
                refine fx_i0 aj_d206 rfl (Nat.le_succ _) (fun _ => rfl) hlv_3 ?_
                refine fx_n (pc' := 343) (lv' := lv) (st' := [.int ((Int8.ofInt 125).toInt32), .int y3]) aj_d206 rfl (Nat.le_succ _) (fun _ => rfl) ?_
                refine fx_b (tgt := 430) aj_d206 rfl (Nat.le_succ _) rfl (fun q95 => ?_) (fun q95 => ?_)
                · skip
                  refine fx_qi (c := (y3).toInt = 125) (fx_t_eq q95) ?_
                  show fx_W _ _ _ 430 lv [] _ _
                  exact (ih.2.2.2.2.2) lv (y2) X  hlv_0 hlv_2
                · skip
                  refine fx_qe (c := (y3).toInt = 125) (fx_f_eq q95) ?_
                  show fx_W _ _ _ 346 lv [] _ _
                  refine fx_i0 aj_d206 rfl (Nat.le_succ _) (fun _ => rfl) hlv_3 ?_
                  refine fx_n (pc' := 349) (lv' := lv) (st' := [.int ((Int8.ofInt 44).toInt32), .int y3]) aj_d206 rfl (Nat.le_succ _) (fun _ => rfl) ?_
                  refine fx_b (tgt := 430) aj_d206 rfl (Nat.le_succ _) rfl (fun q96 => ?_) (fun q96 => ?_)
                  · skip
                    refine fx_qi (c := (y3).toInt = 44) (fx_t_eq q96) ?_
                    show fx_W _ _ _ 430 lv [] _ _
                    exact (ih.2.2.2.2.2) lv (y2) X  hlv_0 hlv_2
                  · skip
                    refine fx_qe (c := (y3).toInt = 44) (fx_f_eq q96) ?_
                    show fx_W _ _ _ 352 lv [] _ _
                    refine fx_i0 aj_d206 rfl (Nat.le_succ _) (fun _ => rfl) hlv_3 ?_
                    refine fx_n (pc' := 355) (lv' := lv) (st' := [.int ((Int8.ofInt 59).toInt32), .int y3]) aj_d206 rfl (Nat.le_succ _) (fun _ => rfl) ?_
                    refine fx_b (tgt := 430) aj_d206 rfl (Nat.le_succ _) rfl (fun q97 => ?_) (fun q97 => ?_)
                    · skip
                      refine fx_qi (c := (y3).toInt = 59) (fx_t_eq q97) ?_
                      show fx_W _ _ _ 430 lv [] _ _
                      exact (ih.2.2.2.2.2) lv (y2) X  hlv_0 hlv_2
                    · skip
                      refine fx_qe (c := (y3).toInt = 59) (fx_f_eq q97) ?_
                      show fx_W _ _ _ 358 lv [] _ _
                      refine fx_i0 aj_d206 rfl (Nat.le_succ _) (fun _ => rfl) hlv_3 ?_
                      refine fx_n (pc' := 361) (lv' := lv) (st' := [.int ((Int8.ofInt 58).toInt32), .int y3]) aj_d206 rfl (Nat.le_succ _) (fun _ => rfl) ?_
                      refine fx_b (tgt := 430) aj_d206 rfl (Nat.le_succ _) rfl (fun q98 => ?_) (fun q98 => ?_)
                      · skip
                        refine fx_qi (c := (y3).toInt = 58) (fx_t_eq q98) ?_
                        show fx_W _ _ _ 430 lv [] _ _
                        exact (ih.2.2.2.2.2) lv (y2) X  hlv_0 hlv_2
                      · skip
                        refine fx_qe (c := (y3).toInt = 58) (fx_f_eq q98) ?_
                        show fx_W _ _ _ 364 lv [] _ _
                        refine fx_i0 aj_d206 rfl (Nat.le_succ _) (fun _ => rfl) hlv_3 ?_
                        refine fx_n (pc' := 367) (lv' := lv) (st' := [.int ((Int8.ofInt 46).toInt32), .int y3]) aj_d206 rfl (Nat.le_succ _) (fun _ => rfl) ?_
                        refine fx_b (tgt := 430) aj_d206 rfl (Nat.le_succ _) rfl (fun q99 => ?_) (fun q99 => ?_)
                        · skip
                          refine fx_qi (c := (y3).toInt = 46) (fx_t_eq q99) ?_
                          show fx_W _ _ _ 430 lv [] _ _
                          exact (ih.2.2.2.2.2) lv (y2) X  hlv_0 hlv_2
                        · skip
                          refine fx_qe (c := (y3).toInt = 46) (fx_f_eq q99) ?_
                          show fx_W _ _ _ 370 lv [] _ _
                          refine fx_i0 aj_d206 rfl (Nat.le_succ _) (fun _ => rfl) hlv_3 ?_
                          refine fx_n (pc' := 373) (lv' := lv) (st' := [.int ((Int8.ofInt 63).toInt32), .int y3]) aj_d206 rfl (Nat.le_succ _) (fun _ => rfl) ?_
                          refine fx_b (tgt := 430) aj_d206 rfl (Nat.le_succ _) rfl (fun q100 => ?_) (fun q100 => ?_)
                          · skip
                            refine fx_qi (c := (y3).toInt = 63) (fx_t_eq q100) ?_
                            show fx_W _ _ _ 430 lv [] _ _
                            exact (ih.2.2.2.2.2) lv (y2) X  hlv_0 hlv_2
                          · skip
                            refine fx_qe (c := (y3).toInt = 63) (fx_f_eq q100) ?_
                            show fx_W _ _ _ 376 lv [] _ _
                            refine fx_i0 aj_d206 rfl (Nat.le_succ _) (fun _ => rfl) hlv_3 ?_
                            refine fx_n (pc' := 379) (lv' := lv) (st' := [.int ((Int8.ofInt 35).toInt32), .int y3]) aj_d206 rfl (Nat.le_succ _) (fun _ => rfl) ?_
                            refine fx_b (tgt := 430) aj_d206 rfl (Nat.le_succ _) rfl (fun q101 => ?_) (fun q101 => ?_)
                            · skip
                              refine fx_qi (c := (y3).toInt = 35) (fx_t_eq q101) ?_
                              show fx_W _ _ _ 430 lv [] _ _
                              exact (ih.2.2.2.2.2) lv (y2) X  hlv_0 hlv_2
                            · skip
                              refine fx_qe (c := (y3).toInt = 35) (fx_f_eq q101) ?_
                              show fx_W _ _ _ 382 lv [] _ _
                              refine fx_i0 aj_d206 rfl (Nat.le_succ _) (fun _ => rfl) hlv_3 ?_
                              refine fx_n (pc' := 385) (lv' := lv) (st' := [.int ((Int8.ofInt 43).toInt32), .int y3]) aj_d206 rfl (Nat.le_succ _) (fun _ => rfl) ?_
                              refine fx_b (tgt := 430) aj_d206 rfl (Nat.le_succ _) rfl (fun q102 => ?_) (fun q102 => ?_)
                              · skip
                                refine fx_qi (c := (y3).toInt = 43) (fx_t_eq q102) ?_
                                show fx_W _ _ _ 430 lv [] _ _
                                exact (ih.2.2.2.2.2) lv (y2) X  hlv_0 hlv_2
                              · skip
                                refine fx_qe (c := (y3).toInt = 43) (fx_f_eq q102) ?_
                                show fx_W _ _ _ 388 lv [] _ _
                                refine fx_i0 aj_d206 rfl (Nat.le_succ _) (fun _ => rfl) hlv_3 ?_
                                refine fx_n (pc' := 391) (lv' := lv) (st' := [.int ((Int8.ofInt 45).toInt32), .int y3]) aj_d206 rfl (Nat.le_succ _) (fun _ => rfl) ?_
                                refine fx_b (tgt := 430) aj_d206 rfl (Nat.le_succ _) rfl (fun q103 => ?_) (fun q103 => ?_)
                                · skip
                                  refine fx_qi (c := (y3).toInt = 45) (fx_t_eq q103) ?_
                                  show fx_W _ _ _ 430 lv [] _ _
                                  exact (ih.2.2.2.2.2) lv (y2) X  hlv_0 hlv_2
                                · skip
                                  refine fx_qe (c := (y3).toInt = 45) (fx_f_eq q103) ?_
                                  show fx_W _ _ _ 394 lv [] _ _
                                  refine fx_i0 aj_d206 rfl (Nat.le_succ _) (fun _ => rfl) hlv_3 ?_
                                  refine fx_n (pc' := 397) (lv' := lv) (st' := [.int ((Int8.ofInt 42).toInt32), .int y3]) aj_d206 rfl (Nat.le_succ _) (fun _ => rfl) ?_
                                  refine fx_b (tgt := 430) aj_d206 rfl (Nat.le_succ _) rfl (fun q104 => ?_) (fun q104 => ?_)
                                  · skip
                                    refine fx_qi (c := (y3).toInt = 42) (fx_t_eq q104) ?_
                                    show fx_W _ _ _ 430 lv [] _ _
                                    exact (ih.2.2.2.2.2) lv (y2) X  hlv_0 hlv_2
                                  · skip
                                    refine fx_qe (c := (y3).toInt = 42) (fx_f_eq q104) ?_
                                    show fx_W _ _ _ 400 lv [] _ _
                                    refine fx_i0 aj_d206 rfl (Nat.le_succ _) (fun _ => rfl) hlv_3 ?_
                                    refine fx_n (pc' := 403) (lv' := lv) (st' := [.int ((Int8.ofInt 61).toInt32), .int y3]) aj_d206 rfl (Nat.le_succ _) (fun _ => rfl) ?_
                                    refine fx_b (tgt := 430) aj_d206 rfl (Nat.le_succ _) rfl (fun q105 => ?_) (fun q105 => ?_)
                                    · skip
                                      refine fx_qi (c := (y3).toInt = 61) (fx_t_eq q105) ?_
                                      show fx_W _ _ _ 430 lv [] _ _
                                      exact (ih.2.2.2.2.2) lv (y2) X  hlv_0 hlv_2
                                    · skip
                                      refine fx_qe (c := (y3).toInt = 61) (fx_f_eq q105) ?_
                                      show fx_W _ _ _ 406 lv [] _ _
                                      refine fx_i0 aj_d206 rfl (Nat.le_succ _) (fun _ => rfl) hlv_3 ?_
                                      refine fx_n (pc' := 409) (lv' := lv) (st' := [.int ((Int8.ofInt 33).toInt32), .int y3]) aj_d206 rfl (Nat.le_succ _) (fun _ => rfl) ?_
                                      refine fx_b (tgt := 430) aj_d206 rfl (Nat.le_succ _) rfl (fun q106 => ?_) (fun q106 => ?_)
                                      · skip
                                        refine fx_qi (c := (y3).toInt = 33) (fx_t_eq q106) ?_
                                        show fx_W _ _ _ 430 lv [] _ _
                                        exact (ih.2.2.2.2.2) lv (y2) X  hlv_0 hlv_2
                                      · skip
                                        refine fx_qe (c := (y3).toInt = 33) (fx_f_eq q106) ?_
                                        show fx_W _ _ _ 412 lv [] _ _
                                        refine fx_i0 aj_d206 rfl (Nat.le_succ _) (fun _ => rfl) hlv_3 ?_
                                        refine fx_n (pc' := 415) (lv' := lv) (st' := [.int ((Int8.ofInt 60).toInt32), .int y3]) aj_d206 rfl (Nat.le_succ _) (fun _ => rfl) ?_
                                        refine fx_b (tgt := 430) aj_d206 rfl (Nat.le_succ _) rfl (fun q107 => ?_) (fun q107 => ?_)
                                        · skip
                                          refine fx_qi (c := (y3).toInt = 60) (fx_t_eq q107) ?_
                                          show fx_W _ _ _ 430 lv [] _ _
                                          exact (ih.2.2.2.2.2) lv (y2) X  hlv_0 hlv_2
                                        · skip
                                          refine fx_qe (c := (y3).toInt = 60) (fx_f_eq q107) ?_
                                          show fx_W _ _ _ 418 lv [] _ _
                                          refine fx_i0 aj_d206 rfl (Nat.le_succ _) (fun _ => rfl) hlv_3 ?_
                                          refine fx_n (pc' := 421) (lv' := lv) (st' := [.int ((Int8.ofInt 38).toInt32), .int y3]) aj_d206 rfl (Nat.le_succ _) (fun _ => rfl) ?_
                                          refine fx_b (tgt := 430) aj_d206 rfl (Nat.le_succ _) rfl (fun q108 => ?_) (fun q108 => ?_)
                                          · skip
                                            refine fx_qi (c := (y3).toInt = 38) (fx_t_eq q108) ?_
                                            show fx_W _ _ _ 430 lv [] _ _
                                            exact (ih.2.2.2.2.2) lv (y2) X  hlv_0 hlv_2
                                          · skip
                                            refine fx_qe (c := (y3).toInt = 38) (fx_f_eq q108) ?_
                                            show fx_W _ _ _ 424 lv [] _ _
                                            refine fx_i0 aj_d206 rfl (Nat.le_succ _) (fun _ => rfl) hlv_3 ?_
                                            refine fx_n (pc' := 427) (lv' := lv) (st' := [.int ((Int8.ofInt 124).toInt32), .int y3]) aj_d206 rfl (Nat.le_succ _) (fun _ => rfl) ?_
                                            refine fx_b (tgt := 434) aj_d206 rfl (Nat.le_succ _) rfl (fun q109 => ?_) (fun q109 => ?_)
                                            · skip
                                              refine fx_qe (c := (y3).toInt = 124) (fx_t_ne q109) ?_
                                              show fx_W _ _ _ 434 lv [] _ _
                                              refine fx_n (pc' := 435) (lv' := lv) (st' := [.int (Int32.ofInt 0)]) aj_d206 rfl (Nat.le_succ _) (fun _ => rfl) ?_
                                              refine fx_s0 (j := 5) aj_d206 rfl (Nat.le_succ _) (by decide) (fun _ => rfl) ?_
                                              obtain ⟨lv110, elv110⟩ : ∃ l, l = aj_set1 lv 5 (.int (Int32.ofInt 0)) := ⟨_, rfl⟩
                                              rw [← elv110]
                                              have hlv110_0 : aj_lv lv110 0 = some (.ref 117) := fx_e1 elv110 hlv_0 (by decide) (Or.inl (by decide))
                                              have hlv110_2 : aj_lv lv110 2 = some (.int y2) := fx_e1 elv110 hlv_2 (by decide) (Or.inl (by decide))
                                              have hlv110_5 : aj_lv lv110 5 = some (.int (Int32.ofInt 0)) := by rw [elv110]; exact ak_set1_eq _ _ _
                                              show fx_W _ _ _ 437 lv110 [] _ _
                                              refine fx_i2 aj_d206 rfl (Nat.le_succ _) (fun _ => rfl) hlv110_0 ?_
                                              refine fx_i0 aj_d206 rfl (Nat.le_succ _) (fun _ => rfl) hlv110_5 ?_
                                              refine fx_b0 (tgt := 447) aj_d206 rfl (Nat.le_succ _) rfl (fun q111 => ?_) (fun q111 => ?_)
                                              · skip
                                                show fx_W _ _ _ 447 lv110 [.ref 117] _ _
                                                refine fx_n (pc' := 448) (lv' := lv110) (st' := [.int (Int32.ofInt 5), .ref 117]) aj_d206 rfl (Nat.le_succ _) (fun _ => rfl) ?_
                                                refine fx_pI aj_d206 rfl (Nat.le_succ _) rfl rfl (Or.inl rfl) fx_no_11_26 (by decide) ?_
                                                refine fx_qX (fun X112 eX112 => ?_)
                                                show fx_W _ _ _ 451 lv110 [] _ _
                                                refine fx_i2 aj_d206 rfl (Nat.le_succ _) (fun _ => rfl) hlv110_0 ?_
                                                refine fx_i0 aj_d206 rfl (Nat.le_succ _) (fun _ => rfl) hlv110_2 ?_
                                                refine fx_pI aj_d206 rfl (Nat.le_succ _) rfl rfl (Or.inl rfl) fx_no_11_28 (by decide) ?_
                                                refine fx_qX (fun X113 eX113 => ?_)
                                                show fx_W _ _ _ 456 lv110 [] _ _
                                                exact fx_rn aj_d206 rfl ⟨(), rfl, 0, rfl⟩
                                              · exact absurd q111 (by decide)
                                            · skip
                                              refine fx_qi (c := (y3).toInt = 124) (fx_f_ne q109) ?_
                                              show fx_W _ _ _ 430 lv [] _ _
                                              exact (ih.2.2.2.2.2) lv (y2) X  hlv_0 hlv_2
    · intro lv y2 X hlv_0 hlv_2
      refine fx_mono (Q := fx_Q fx_qN (fun v X' => ∃ n : Nat, gxT_206_430 (gxF_206 n) y2 X v X')) (fun r X' ⟨v, e, n, z⟩ => ⟨v, e, n + 1, gxI_206_430 z⟩) ?_
      unfold gxT_206_430
      refine fx_n (pc' := 431) (lv' := lv) (st' := [.int (Int32.ofInt 1)]) aj_d206 rfl (Nat.le_refl _) (fun _ => rfl) ?_
      refine fx_n (pc' := 435) (lv' := lv) (st' := [.int (Int32.ofInt 1)]) aj_d206 rfl (Nat.le_succ _) (fun _ => rfl) ?_
      refine fx_s0 (j := 5) aj_d206 rfl (Nat.le_succ _) (by decide) (fun _ => rfl) ?_
      obtain ⟨lv157, elv157⟩ : ∃ l, l = aj_set1 lv 5 (.int (Int32.ofInt 1)) := ⟨_, rfl⟩
      rw [← elv157]
      have hlv157_0 : aj_lv lv157 0 = some (.ref 117) := fx_e1 elv157 hlv_0 (by decide) (Or.inl (by decide))
      have hlv157_2 : aj_lv lv157 2 = some (.int y2) := fx_e1 elv157 hlv_2 (by decide) (Or.inl (by decide))
      have hlv157_5 : aj_lv lv157 5 = some (.int (Int32.ofInt 1)) := by rw [elv157]; exact ak_set1_eq _ _ _
      show fx_W _ _ _ 437 lv157 [] _ _
      refine fx_i2 aj_d206 rfl (Nat.le_succ _) (fun _ => rfl) hlv157_0 ?_
      refine fx_i0 aj_d206 rfl (Nat.le_succ _) (fun _ => rfl) hlv157_5 ?_
      refine fx_b0 (tgt := 447) aj_d206 rfl (Nat.le_succ _) rfl (fun q158 => ?_) (fun q158 => ?_)
      · exact absurd q158 (by decide)
      · skip
        show fx_W _ _ _ 443 lv157 [.ref 117] _ _
        refine fx_n (pc' := 444) (lv' := lv157) (st' := [.int (Int32.ofInt 3), .ref 117]) aj_d206 rfl (Nat.le_succ _) (fun _ => rfl) ?_
        refine fx_n (pc' := 448) (lv' := lv157) (st' := [.int (Int32.ofInt 3), .ref 117]) aj_d206 rfl (Nat.le_succ _) (fun _ => rfl) ?_
        refine fx_pI aj_d206 rfl (Nat.le_succ _) rfl rfl (Or.inl rfl) fx_no_11_26 (by decide) ?_
        refine fx_qX (fun X159 eX159 => ?_)
        show fx_W _ _ _ 451 lv157 [] _ _
        refine fx_i2 aj_d206 rfl (Nat.le_succ _) (fun _ => rfl) hlv157_0 ?_
        refine fx_i0 aj_d206 rfl (Nat.le_succ _) (fun _ => rfl) hlv157_2 ?_
        refine fx_pI aj_d206 rfl (Nat.le_succ _) rfl rfl (Or.inl rfl) fx_no_11_28 (by decide) ?_
        refine fx_qX (fun X160 eX160 => ?_)
        show fx_W _ _ _ 456 lv157 [] _ _
        exact fx_rn aj_d206 rfl ⟨(), rfl, 0, rfl⟩
theorem gx_206_ok {tb : aj_T} {X : fx_X} : fx_K tb 206 [.ref 117] X (fx_Q fx_qN (fun v X' => gx_206 X v X')) := by
  refine fx_m aj_m206_at rfl (fun N => ?_)
  refine fx_mono (Q := fx_Q fx_qN (fun v X' => ∃ n : Nat, gxE_206 (gxF_206 n) X v X')) (fun r X' h => h) ?_
  unfold gxE_206
  show fx_W _ _ _ 0 [(0, .ref 117)] [] _ _
  obtain ⟨lv1, elv1⟩ : ∃ l : aj_V, l = [(0, .ref 117)] := ⟨_, rfl⟩
  rw [← elv1]
  have hlv1_0 : aj_lv lv1 0 = some (.ref 117) := by rw [elv1]; rfl
  refine fx_i2 aj_d206 rfl (Nat.le_succ _) (fun _ => rfl) hlv1_0 ?_
  refine fx_gI aj_d206 rfl (Nat.le_succ _) rfl rfl (Or.inl rfl) ?_
  refine fx_qxI (fun x2 ex2 => ?_)
  refine fx_s0 (j := 1) aj_d206 rfl (Nat.le_succ _) (by decide) (fun _ => rfl) ?_
  obtain ⟨lv3, elv3⟩ : ∃ l, l = aj_set1 lv1 1 (.int x2) := ⟨_, rfl⟩
  rw [← elv3]
  have hlv3_0 : aj_lv lv3 0 = some (.ref 117) := fx_e1 elv3 hlv1_0 (by decide) (Or.inr rfl)
  have hlv3_1 : aj_lv lv3 1 = some (.int x2) := by rw [elv3]; exact ak_set1_eq _ _ _
  show fx_W _ _ _ 5 lv3 [] _ _
  exact ((gxL_206 N).1) lv3 (x2) X  hlv3_0 hlv3_1
def gx_205 (X : fx_X) (v : Unit) (X' : fx_X) : Prop :=
  ∃ X2 : fx_X, X2 = (fx_wI X 117 28 (Int32.ofInt 0)) ∧ ∃ X3 : fx_X, X3 = (fx_wI X2 117 30 (Int32.ofInt 1)) ∧ ∃ X4 : fx_X, X4 = (fx_wI X3 117 31 (Int32.ofInt 0)) ∧ ∃ X5 : fx_X, X5 = (fx_wI X4 117 41 (Int32.ofInt 0)) ∧ ∃ X6 : fx_X, X6 = (fx_wI X5 117 46 (Int32.ofInt 0)) ∧ ∃ X7 : fx_X, X7 = (fx_wI X6 117 47 (Int32.ofInt 0)) ∧ ∃ X8 : fx_X, X8 = (fx_wI X7 117 45 (Int32.ofInt 0)) ∧ ∃ (w10 : Unit) (X9 : fx_X), gx_206 X8 w10 X9 ∧ X' = X9
theorem gx_205_ok {tb : aj_T} {X : fx_X} : fx_K tb 205 [.ref 117] X (fx_Q fx_qN (fun v X' => gx_205 X v X')) := by
  refine fx_m aj_m205_at rfl (fun N => ?_)
  refine fx_mono (Q := fx_Q fx_qN (fun v X' => ∃ n : Nat, gx_205 X v X')) (fun r X' ⟨v, e, _, z⟩ => ⟨v, e, z⟩) ?_
  unfold gx_205
  show fx_W _ _ _ 0 [(0, .ref 117)] [] _ _
  obtain ⟨lv1, elv1⟩ : ∃ l : aj_V, l = [(0, .ref 117)] := ⟨_, rfl⟩
  rw [← elv1]
  have hlv1_0 : aj_lv lv1 0 = some (.ref 117) := by rw [elv1]; rfl
  refine fx_i2 aj_d205 rfl (Nat.le_succ _) (fun _ => rfl) hlv1_0 ?_
  refine fx_n (pc' := 2) (lv' := lv1) (st' := [.int (Int32.ofInt 0), .ref 117]) aj_d205 rfl (Nat.le_succ _) (fun _ => rfl) ?_
  refine fx_pI aj_d205 rfl (Nat.le_succ _) rfl rfl (Or.inl rfl) fx_no_11_28 (by decide) ?_
  refine fx_qX (fun X2 eX2 => ?_)
  show fx_W _ _ _ 5 lv1 [] _ _
  refine fx_i2 aj_d205 rfl (Nat.le_succ _) (fun _ => rfl) hlv1_0 ?_
  refine fx_n (pc' := 7) (lv' := lv1) (st' := [.int (Int32.ofInt 1), .ref 117]) aj_d205 rfl (Nat.le_succ _) (fun _ => rfl) ?_
  refine fx_pI aj_d205 rfl (Nat.le_succ _) rfl rfl (Or.inl rfl) fx_no_11_30 (by decide) ?_
  refine fx_qX (fun X3 eX3 => ?_)
  show fx_W _ _ _ 10 lv1 [] _ _
  refine fx_i2 aj_d205 rfl (Nat.le_succ _) (fun _ => rfl) hlv1_0 ?_
  refine fx_n (pc' := 12) (lv' := lv1) (st' := [.int (Int32.ofInt 0), .ref 117]) aj_d205 rfl (Nat.le_succ _) (fun _ => rfl) ?_
  refine fx_pI aj_d205 rfl (Nat.le_succ _) rfl rfl (Or.inr (Or.inl rfl)) fx_no_11_31 (by decide) ?_
  refine fx_qX (fun X4 eX4 => ?_)
  show fx_W _ _ _ 15 lv1 [] _ _
  refine fx_i2 aj_d205 rfl (Nat.le_succ _) (fun _ => rfl) hlv1_0 ?_
  refine fx_n (pc' := 17) (lv' := lv1) (st' := [.int (Int32.ofInt 0), .ref 117]) aj_d205 rfl (Nat.le_succ _) (fun _ => rfl) ?_
  refine fx_pI aj_d205 rfl (Nat.le_succ _) rfl rfl (Or.inl rfl) fx_no_11_41 (by decide) ?_
  refine fx_qX (fun X5 eX5 => ?_)
  show fx_W _ _ _ 20 lv1 [] _ _
  refine fx_i2 aj_d205 rfl (Nat.le_succ _) (fun _ => rfl) hlv1_0 ?_
  refine fx_n (pc' := 22) (lv' := lv1) (st' := [.int (Int32.ofInt 0), .ref 117]) aj_d205 rfl (Nat.le_succ _) (fun _ => rfl) ?_
  refine fx_pI aj_d205 rfl (Nat.le_succ _) rfl rfl (Or.inl rfl) fx_no_11_46 (by decide) ?_
  refine fx_qX (fun X6 eX6 => ?_)
  show fx_W _ _ _ 25 lv1 [] _ _
  refine fx_i2 aj_d205 rfl (Nat.le_succ _) (fun _ => rfl) hlv1_0 ?_
  refine fx_n (pc' := 27) (lv' := lv1) (st' := [.int (Int32.ofInt 0), .ref 117]) aj_d205 rfl (Nat.le_succ _) (fun _ => rfl) ?_
  refine fx_pI aj_d205 rfl (Nat.le_succ _) rfl rfl (Or.inl rfl) fx_no_11_47 (by decide) ?_
  refine fx_qX (fun X7 eX7 => ?_)
  show fx_W _ _ _ 30 lv1 [] _ _
  refine fx_i2 aj_d205 rfl (Nat.le_succ _) (fun _ => rfl) hlv1_0 ?_
  refine fx_n (pc' := 32) (lv' := lv1) (st' := [.int (Int32.ofInt 0), .ref 117]) aj_d205 rfl (Nat.le_succ _) (fun _ => rfl) ?_
  refine fx_pI aj_d205 rfl (Nat.le_succ _) rfl rfl (Or.inl rfl) fx_no_11_45 (by decide) ?_
  refine fx_qX (fun X8 eX8 => ?_)
  show fx_W _ _ _ 35 lv1 [] _ _
  refine fx_i2 aj_d205 rfl (Nat.le_succ _) (fun _ => rfl) hlv1_0 ?_
  refine fx_cv aj_d205 rfl (Nat.le_succ _) rfl [] rfl rfl (gx_206_ok) ?_
  rintro _ X9 ⟨w10, rfl, hR9⟩ hok9 hle9
  refine fx_qc hR9 ?_
  show fx_W _ _ _ 39 lv1 [] _ _
  exact fx_rn aj_d205 rfl ⟨(), rfl, 0, rfl⟩
def gx_212 (p1 : Int32) (X : fx_X) (v : Int32) (X' : fx_X) : Prop :=
  (if ((X.1 117 26)).toInt = 4 then ((if ((X.1 117 29)).toInt = (p1).toInt then (v = (Int32.ofInt 1) ∧ X' = X) else (v = (Int32.ofInt 0) ∧ X' = X))) else (v = (Int32.ofInt 0) ∧ X' = X))
theorem gx_212_ok {tb : aj_T} (p1 : Int32) {X : fx_X} : fx_K tb 212 [.ref 117, .int p1] X (fx_Q fx_qI (fun v X' => gx_212 p1 X v X')) := by
  refine fx_m aj_m212_at rfl (fun N => ?_)
  refine fx_mono (Q := fx_Q fx_qI (fun v X' => ∃ n : Nat, gx_212 p1 X v X')) (fun r X' ⟨v, e, _, z⟩ => ⟨v, e, z⟩) ?_
  unfold gx_212
  show fx_W _ _ _ 0 [(0, .ref 117), (1, .int p1)] [] _ _
  obtain ⟨lv1, elv1⟩ : ∃ l : aj_V, l = [(0, .ref 117), (1, .int p1)] := ⟨_, rfl⟩
  rw [← elv1]
  have hlv1_0 : aj_lv lv1 0 = some (.ref 117) := by rw [elv1]; rfl
  have hlv1_1 : aj_lv lv1 1 = some (.int p1) := by rw [elv1]; rfl
  refine fx_i2 aj_d212 rfl (Nat.le_succ _) (fun _ => rfl) hlv1_0 ?_
  refine fx_gI aj_d212 rfl (Nat.le_succ _) rfl rfl (Or.inl rfl) ?_
  refine fx_n (pc' := 5) (lv' := lv1) (st' := [.int (Int32.ofInt 4), .int (X.1 117 26)]) aj_d212 rfl (Nat.le_succ _) (fun _ => rfl) ?_
  refine fx_b (tgt := 20) aj_d212 rfl (Nat.le_succ _) rfl (fun q2 => ?_) (fun q2 => ?_)
  · skip
    refine fx_qe (c := ((X.1 117 26)).toInt = 4) (fx_t_ne q2) ?_
    show fx_W _ _ _ 20 lv1 [] _ _
    refine fx_n (pc' := 21) (lv' := lv1) (st' := [.int (Int32.ofInt 0)]) aj_d212 rfl (Nat.le_succ _) (fun _ => rfl) ?_
    exact fx_ri aj_d212 rfl ⟨_, rfl, 0, rfl, rfl⟩
  · skip
    refine fx_qi (c := ((X.1 117 26)).toInt = 4) (fx_f_ne q2) ?_
    show fx_W _ _ _ 8 lv1 [] _ _
    refine fx_i2 aj_d212 rfl (Nat.le_succ _) (fun _ => rfl) hlv1_0 ?_
    refine fx_gI aj_d212 rfl (Nat.le_succ _) rfl rfl (Or.inl rfl) ?_
    refine fx_i0 aj_d212 rfl (Nat.le_succ _) (fun _ => rfl) hlv1_1 ?_
    refine fx_b (tgt := 20) aj_d212 rfl (Nat.le_succ _) rfl (fun q3 => ?_) (fun q3 => ?_)
    · skip
      refine fx_qe (c := ((X.1 117 29)).toInt = (p1).toInt) (fx_t_ne q3) ?_
      show fx_W _ _ _ 20 lv1 [] _ _
      refine fx_n (pc' := 21) (lv' := lv1) (st' := [.int (Int32.ofInt 0)]) aj_d212 rfl (Nat.le_succ _) (fun _ => rfl) ?_
      exact fx_ri aj_d212 rfl ⟨_, rfl, 0, rfl, rfl⟩
    · skip
      refine fx_qi (c := ((X.1 117 29)).toInt = (p1).toInt) (fx_f_ne q3) ?_
      show fx_W _ _ _ 16 lv1 [] _ _
      refine fx_n (pc' := 17) (lv' := lv1) (st' := [.int (Int32.ofInt 1)]) aj_d212 rfl (Nat.le_succ _) (fun _ => rfl) ?_
      refine fx_n (pc' := 21) (lv' := lv1) (st' := [.int (Int32.ofInt 1)]) aj_d212 rfl (Nat.le_succ _) (fun _ => rfl) ?_
      exact fx_ri aj_d212 rfl ⟨_, rfl, 0, rfl, rfl⟩
def gx_215 (p1 : Int32) (p2 : Int32) (X : fx_X) (v : Int32) (X' : fx_X) : Prop :=
  ∃ X2 : fx_X, X2 = (fx_wI X 117 24 p1) ∧ ∃ X3 : fx_X, X3 = (fx_wI X2 117 25 p2) ∧ ∃ X4 : fx_X, X4 = (fx_wI X3 117 31 (Int32.ofInt 1)) ∧ v = (Int32.ofInt 0) ∧ X' = X4
theorem gx_215_ok {tb : aj_T} (p1 : Int32) (p2 : Int32) {X : fx_X} : fx_K tb 215 [.ref 117, .int p1, .int p2] X (fx_Q fx_qI (fun v X' => gx_215 p1 p2 X v X')) := by
  refine fx_m aj_m215_at rfl (fun N => ?_)
  refine fx_mono (Q := fx_Q fx_qI (fun v X' => ∃ n : Nat, gx_215 p1 p2 X v X')) (fun r X' ⟨v, e, _, z⟩ => ⟨v, e, z⟩) ?_
  unfold gx_215
  show fx_W _ _ _ 0 [(0, .ref 117), (1, .int p1), (2, .int p2)] [] _ _
  obtain ⟨lv1, elv1⟩ : ∃ l : aj_V, l = [(0, .ref 117), (1, .int p1), (2, .int p2)] := ⟨_, rfl⟩
  rw [← elv1]
  have hlv1_0 : aj_lv lv1 0 = some (.ref 117) := by rw [elv1]; rfl
  have hlv1_1 : aj_lv lv1 1 = some (.int p1) := by rw [elv1]; rfl
  have hlv1_2 : aj_lv lv1 2 = some (.int p2) := by rw [elv1]; rfl
  refine fx_i2 aj_d215 rfl (Nat.le_succ _) (fun _ => rfl) hlv1_0 ?_
  refine fx_i0 aj_d215 rfl (Nat.le_succ _) (fun _ => rfl) hlv1_1 ?_
  refine fx_pI aj_d215 rfl (Nat.le_succ _) rfl rfl (Or.inl rfl) fx_no_11_24 (by decide) ?_
  refine fx_qX (fun X2 eX2 => ?_)
  show fx_W _ _ _ 5 lv1 [] _ _
  refine fx_i2 aj_d215 rfl (Nat.le_succ _) (fun _ => rfl) hlv1_0 ?_
  refine fx_i0 aj_d215 rfl (Nat.le_succ _) (fun _ => rfl) hlv1_2 ?_
  refine fx_pI aj_d215 rfl (Nat.le_succ _) rfl rfl (Or.inl rfl) fx_no_11_25 (by decide) ?_
  refine fx_qX (fun X3 eX3 => ?_)
  show fx_W _ _ _ 10 lv1 [] _ _
  refine fx_i2 aj_d215 rfl (Nat.le_succ _) (fun _ => rfl) hlv1_0 ?_
  refine fx_n (pc' := 12) (lv' := lv1) (st' := [.int (Int32.ofInt 1), .ref 117]) aj_d215 rfl (Nat.le_succ _) (fun _ => rfl) ?_
  refine fx_pI aj_d215 rfl (Nat.le_succ _) rfl rfl (Or.inr (Or.inl rfl)) fx_no_11_31 (by decide) ?_
  refine fx_qX (fun X4 eX4 => ?_)
  show fx_W _ _ _ 15 lv1 [] _ _
  refine fx_n (pc' := 16) (lv' := lv1) (st' := [.int (Int32.ofInt 0)]) aj_d215 rfl (Nat.le_succ _) (fun _ => rfl) ?_
  exact fx_ri aj_d215 rfl ⟨_, rfl, 0, rfl, rfl⟩
def gx_214 (X : fx_X) (v : Int32) (X' : fx_X) : Prop :=
  (if 1000 < ((X.1 117 30)).toInt then (∃ (w7 : Int32) (X6 : fx_X), gx_215 (Int32.ofInt 2) (X.1 117 27) X w7 X6 ∧ v = w7 ∧ X' = X6) else (∃ X3 : fx_X, X3 = (fx_wI X 117 30 ((X.1 117 30) + (Int32.ofInt 1))) ∧ ∃ (w5 : Unit) (X4 : fx_X), gx_206 X3 w5 X4 ∧ v = (Int32.ofInt 1) ∧ X' = X4))
theorem gx_214_ok {tb : aj_T} {X : fx_X} : fx_K tb 214 [.ref 117] X (fx_Q fx_qI (fun v X' => gx_214 X v X')) := by
  refine fx_m aj_m214_at rfl (fun N => ?_)
  refine fx_mono (Q := fx_Q fx_qI (fun v X' => ∃ n : Nat, gx_214 X v X')) (fun r X' ⟨v, e, _, z⟩ => ⟨v, e, z⟩) ?_
  unfold gx_214
  show fx_W _ _ _ 0 [(0, .ref 117)] [] _ _
  obtain ⟨lv1, elv1⟩ : ∃ l : aj_V, l = [(0, .ref 117)] := ⟨_, rfl⟩
  rw [← elv1]
  have hlv1_0 : aj_lv lv1 0 = some (.ref 117) := by rw [elv1]; rfl
  refine fx_i2 aj_d214 rfl (Nat.le_succ _) (fun _ => rfl) hlv1_0 ?_
  refine fx_gI aj_d214 rfl (Nat.le_succ _) rfl rfl (Or.inl rfl) ?_
  refine fx_n (pc' := 7) (lv' := lv1) (st' := [.int ((Int16.ofInt 1000).toInt32), .int (X.1 117 30)]) aj_d214 rfl (Nat.le_succ _) (fun _ => rfl) ?_
  refine fx_b (tgt := 20) aj_d214 rfl (Nat.le_succ _) rfl (fun q2 => ?_) (fun q2 => ?_)
  · skip
    refine fx_qe (c := 1000 < ((X.1 117 30)).toInt) (fx_t_le q2) ?_
    show fx_W _ _ _ 20 lv1 [] _ _
    refine fx_i2 aj_d214 rfl (Nat.le_succ _) (fun _ => rfl) hlv1_0 ?_
    refine fx_n (pc' := 22) (lv' := lv1) (st' := [.ref 117, .ref 117]) aj_d214 rfl (Nat.le_succ _) (fun _ => rfl) ?_
    refine fx_gI aj_d214 rfl (Nat.le_succ _) rfl rfl (Or.inl rfl) ?_
    refine fx_n (pc' := 26) (lv' := lv1) (st' := [.int (Int32.ofInt 1), .int (X.1 117 30), .ref 117]) aj_d214 rfl (Nat.le_succ _) (fun _ => rfl) ?_
    refine fx_n (pc' := 27) (lv' := lv1) (st' := [.int ((X.1 117 30) + (Int32.ofInt 1)), .ref 117]) aj_d214 rfl (Nat.le_succ _) (fun _ => rfl) ?_
    refine fx_pI aj_d214 rfl (Nat.le_succ _) rfl rfl (Or.inl rfl) fx_no_11_30 (by decide) ?_
    refine fx_qX (fun X3 eX3 => ?_)
    show fx_W _ _ _ 30 lv1 [] _ _
    refine fx_i2 aj_d214 rfl (Nat.le_succ _) (fun _ => rfl) hlv1_0 ?_
    refine fx_cv aj_d214 rfl (Nat.le_succ _) rfl [] rfl rfl (gx_206_ok) ?_
    rintro _ X4 ⟨w5, rfl, hR4⟩ hok4 hle4
    refine fx_qc hR4 ?_
    show fx_W _ _ _ 34 lv1 [] _ _
    refine fx_n (pc' := 35) (lv' := lv1) (st' := [.int (Int32.ofInt 1)]) aj_d214 rfl (Nat.le_succ _) (fun _ => rfl) ?_
    exact fx_ri aj_d214 rfl ⟨_, rfl, 0, rfl, rfl⟩
  · skip
    refine fx_qi (c := 1000 < ((X.1 117 30)).toInt) (fx_f_le q2) ?_
    show fx_W _ _ _ 10 lv1 [] _ _
    refine fx_i2 aj_d214 rfl (Nat.le_succ _) (fun _ => rfl) hlv1_0 ?_
    refine fx_n (pc' := 12) (lv' := lv1) (st' := [.int (Int32.ofInt 2), .ref 117]) aj_d214 rfl (Nat.le_succ _) (fun _ => rfl) ?_
    refine fx_i2 aj_d214 rfl (Nat.le_succ _) (fun _ => rfl) hlv1_0 ?_
    refine fx_gI aj_d214 rfl (Nat.le_succ _) rfl rfl (Or.inl rfl) ?_
    refine fx_cv aj_d214 rfl (Nat.le_succ _) rfl [_, _] rfl rfl (gx_215_ok (Int32.ofInt 2) (X.1 117 27)) ?_
    rintro _ X6 ⟨w7, rfl, hR6⟩ hok6 hle6
    refine fx_qc hR6 ?_
    show fx_W _ _ _ 19 lv1 [.int w7] _ _
    exact fx_ri aj_d214 rfl ⟨_, rfl, 0, rfl, rfl⟩
def gx_216 (X : fx_X) (v : Int32) (X' : fx_X) : Prop :=
  (if ((X.1 117 26)).toInt = 1 then (∃ (w4 : Int64) (X3 : fx_X), gx_210 (X.1 117 27) (X.1 117 28) X w4 X3 ∧ ∃ X5 : fx_X, X5 = (fx_wL X3 117 33 w4) ∧ ∃ X6 : fx_X, X6 = (fx_wI X5 117 34 (X5.1 117 27)) ∧ ∃ (w8 : Int32) (X7 : fx_X), gx_214 X6 w8 X7 ∧ v = w8 ∧ X' = X7) else (∃ (w10 : Int32) (X9 : fx_X), gx_215 (Int32.ofInt 1) (X.1 117 27) X w10 X9 ∧ v = w10 ∧ X' = X9))
theorem gx_216_ok {tb : aj_T} {X : fx_X} : fx_K tb 216 [.ref 117] X (fx_Q fx_qI (fun v X' => gx_216 X v X')) := by
  refine fx_m aj_m216_at rfl (fun N => ?_)
  refine fx_mono (Q := fx_Q fx_qI (fun v X' => ∃ n : Nat, gx_216 X v X')) (fun r X' ⟨v, e, _, z⟩ => ⟨v, e, z⟩) ?_
  unfold gx_216
  show fx_W _ _ _ 0 [(0, .ref 117)] [] _ _
  obtain ⟨lv1, elv1⟩ : ∃ l : aj_V, l = [(0, .ref 117)] := ⟨_, rfl⟩
  rw [← elv1]
  have hlv1_0 : aj_lv lv1 0 = some (.ref 117) := by rw [elv1]; rfl
  refine fx_i2 aj_d216 rfl (Nat.le_succ _) (fun _ => rfl) hlv1_0 ?_
  refine fx_gI aj_d216 rfl (Nat.le_succ _) rfl rfl (Or.inl rfl) ?_
  refine fx_n (pc' := 5) (lv' := lv1) (st' := [.int (Int32.ofInt 1), .int (X.1 117 26)]) aj_d216 rfl (Nat.le_succ _) (fun _ => rfl) ?_
  refine fx_b (tgt := 18) aj_d216 rfl (Nat.le_succ _) rfl (fun q2 => ?_) (fun q2 => ?_)
  · skip
    refine fx_qi (c := ((X.1 117 26)).toInt = 1) (fx_t_eq q2) ?_
    show fx_W _ _ _ 18 lv1 [] _ _
    refine fx_i2 aj_d216 rfl (Nat.le_succ _) (fun _ => rfl) hlv1_0 ?_
    refine fx_i2 aj_d216 rfl (Nat.le_succ _) (fun _ => rfl) hlv1_0 ?_
    refine fx_i2 aj_d216 rfl (Nat.le_succ _) (fun _ => rfl) hlv1_0 ?_
    refine fx_gI aj_d216 rfl (Nat.le_succ _) rfl rfl (Or.inl rfl) ?_
    refine fx_i2 aj_d216 rfl (Nat.le_succ _) (fun _ => rfl) hlv1_0 ?_
    refine fx_gI aj_d216 rfl (Nat.le_succ _) rfl rfl (Or.inl rfl) ?_
    refine fx_cv aj_d216 rfl (Nat.le_succ _) rfl [_, _] rfl rfl (gx_210_ok (X.1 117 27) (X.1 117 28)) ?_
    rintro _ X3 ⟨w4, rfl, hR3⟩ hok3 hle3
    refine fx_qc hR3 ?_
    show fx_W _ _ _ 31 lv1 [.long w4, .ref 117] _ _
    refine fx_pL aj_d216 rfl (Nat.le_succ _) rfl rfl rfl fx_no_11_33 (by decide) ?_
    refine fx_qX (fun X5 eX5 => ?_)
    show fx_W _ _ _ 34 lv1 [] _ _
    refine fx_i2 aj_d216 rfl (Nat.le_succ _) (fun _ => rfl) hlv1_0 ?_
    refine fx_i2 aj_d216 rfl (Nat.le_succ _) (fun _ => rfl) hlv1_0 ?_
    refine fx_gI aj_d216 rfl (Nat.le_succ _) rfl rfl (Or.inl rfl) ?_
    refine fx_pI aj_d216 rfl (Nat.le_succ _) rfl rfl (Or.inl rfl) fx_no_11_34 (by decide) ?_
    refine fx_qX (fun X6 eX6 => ?_)
    show fx_W _ _ _ 42 lv1 [] _ _
    refine fx_i2 aj_d216 rfl (Nat.le_succ _) (fun _ => rfl) hlv1_0 ?_
    refine fx_cv aj_d216 rfl (Nat.le_succ _) rfl [] rfl rfl (gx_214_ok) ?_
    rintro _ X7 ⟨w8, rfl, hR7⟩ hok7 hle7
    refine fx_qc hR7 ?_
    show fx_W _ _ _ 46 lv1 [.int w8] _ _
    exact fx_ri aj_d216 rfl ⟨_, rfl, 0, rfl, rfl⟩
  · skip
    refine fx_qe (c := ((X.1 117 26)).toInt = 1) (fx_f_eq q2) ?_
    show fx_W _ _ _ 8 lv1 [] _ _
    refine fx_i2 aj_d216 rfl (Nat.le_succ _) (fun _ => rfl) hlv1_0 ?_
    refine fx_n (pc' := 10) (lv' := lv1) (st' := [.int (Int32.ofInt 1), .ref 117]) aj_d216 rfl (Nat.le_succ _) (fun _ => rfl) ?_
    refine fx_i2 aj_d216 rfl (Nat.le_succ _) (fun _ => rfl) hlv1_0 ?_
    refine fx_gI aj_d216 rfl (Nat.le_succ _) rfl rfl (Or.inl rfl) ?_
    refine fx_cv aj_d216 rfl (Nat.le_succ _) rfl [_, _] rfl rfl (gx_215_ok (Int32.ofInt 1) (X.1 117 27)) ?_
    rintro _ X9 ⟨w10, rfl, hR9⟩ hok9 hle9
    refine fx_qc hR9 ?_
    show fx_W _ _ _ 17 lv1 [.int w10] _ _
    exact fx_ri aj_d216 rfl ⟨_, rfl, 0, rfl, rfl⟩
def gxT_231_3 (p1 : Int32) (p2 : Int64) (P : Nat → List Int32 → List Int64 → List Nat → fx_X → Int32 → fx_X → Prop) (y4 : Int32) (X : fx_X) (v : Int32) (X' : fx_X) : Prop :=
  (0 ≤ (p1).toInt ∧ (p1).toInt < ((2 : Nat) : Int)) ∧ (if (y4).toInt < ((X.1 124 (p1).toInt.toNat)).toInt then ((0 ≤ (((p1 * ((Int8.ofInt 10).toInt32)) + y4)).toInt ∧ (((p1 * ((Int8.ofInt 10).toInt32)) + y4)).toInt < ((20 : Nat) : Int)) ∧ (if (X.2.1 125 (((p1 * ((Int8.ofInt 10).toInt32)) + y4)).toInt.toNat) = p2 then (v = y4 ∧ X' = X) else (∃ x9 : Int32, x9 = y4 + Int32.ofInt 1 ∧ P 3 [x9] [] [] X v X'))) else (v = (Int32.ofInt (-1)) ∧ X' = X))
def gxE_231 (p1 : Int32) (p2 : Int64) (P : Nat → List Int32 → List Int64 → List Nat → fx_X → Int32 → fx_X → Prop) (X : fx_X) (v : Int32) (X' : fx_X) : Prop :=
  P 3 [(Int32.ofInt 0)] [] [] X v X'
noncomputable def gxF_231 (p1 : Int32) (p2 : Int64) (n : Nat) : Nat → List Int32 → List Int64 → List Nat → fx_X → Int32 → fx_X → Prop := Nat.rec (motive := fun _ => Nat → List Int32 → List Int64 → List Nat → fx_X → Int32 → fx_X → Prop) (fun _ _ _ _ _ _ _ => False) (fun _ P l is ls rs X v X' => (l = 3 ∧ ∃ (y4 : Int32), is = [y4] ∧ ls = [] ∧ rs = [] ∧ gxT_231_3 p1 p2 P y4 X v X')) n
theorem gxI_231_3 {p1 : Int32} {p2 : Int64} {n : Nat} {y4 : Int32} {X : fx_X} {v : Int32} {X' : fx_X} (h : gxT_231_3 p1 p2 (gxF_231 p1 p2 n) y4 X v X') : gxF_231 p1 p2 (n + 1) 3 [y4] [] [] X v X' := ⟨rfl, y4, rfl, rfl, rfl, h⟩
theorem gxO_231_3 {p1 : Int32} {p2 : Int64} {n : Nat} {y4 : Int32} {X : fx_X} {v : Int32} {X' : fx_X} (h : gxF_231 p1 p2 (n + 1) 3 [y4] [] [] X v X') : gxT_231_3 p1 p2 (gxF_231 p1 p2 n) y4 X v X' := by
  rcases h with ⟨-, _, e1, e2, e3, h⟩
  · cases e1; cases e2; cases e3; exact h
def gx_231 (p1 : Int32) (p2 : Int64) (X : fx_X) (v : Int32) (X' : fx_X) : Prop := ∃ n : Nat, gxE_231 p1 p2 (gxF_231 p1 p2 n) X v X'
theorem gxL_231 {tb : aj_T} (p1 : Int32) (p2 : Int64) : ∀ N : Nat, (∀ (lv : aj_V) (y4 : Int32) (X : fx_X), aj_lv lv 0 = some (.ref 117) → aj_lv lv 1 = some (.int p1) → aj_lv lv 2 = some (.long p2) → aj_lv lv 4 = some (.int y4) → fx_W tb aj_m231 N 3 lv [] X (fx_Q fx_qI (fun v X' => ∃ n : Nat, gxF_231 p1 p2 n 3 [y4] [] [] X v X'))) := by
  intro N
  induction N with
  | zero => exact (by intros; exact fx_z)
  | succ N ih =>
    skip
    · intro lv y4 X hlv_0 hlv_1 hlv_2 hlv_4
      refine fx_mono (Q := fx_Q fx_qI (fun v X' => ∃ n : Nat, gxT_231_3 p1 p2 (gxF_231 p1 p2 n) y4 X v X')) (fun r X' ⟨v, e, n, z⟩ => ⟨v, e, n + 1, gxI_231_3 z⟩) ?_
      unfold gxT_231_3
      refine fx_i0 aj_d231 rfl (Nat.le_refl _) (fun _ => rfl) hlv_4 ?_
      refine fx_i2 aj_d231 rfl (Nat.le_succ _) (fun _ => rfl) hlv_0 ?_
      refine fx_gF aj_d231 rfl (Nat.le_succ _) rfl rfl fx_in_11_7 (t := 124) rfl (fun hA3 => ?_)
      refine fx_i0 aj_d231 rfl (Nat.le_succ _) (fun _ => rfl) hlv_1 ?_
      refine fx_ld aj_d231 (Or.inl rfl) rfl (Nat.le_succ _) (fun g40 g41 => ?_)
      show fx_W _ _ _ 11 lv [.int (X.1 124 (p1).toInt.toNat), .int y4] _ _
      refine fx_qa (c := 0 ≤ (p1).toInt ∧ (p1).toInt < ((2 : Nat) : Int)) ⟨g40, fx_lnk g41 hA3⟩ ?_
      refine fx_b (tgt := 40) aj_d231 rfl (Nat.le_succ _) rfl (fun q5 => ?_) (fun q5 => ?_)
      · skip
        refine fx_qe (c := (y4).toInt < ((X.1 124 (p1).toInt.toNat)).toInt) (fx_t_ge q5) ?_
        show fx_W _ _ _ 40 lv [] _ _
        refine fx_n (pc' := 41) (lv' := lv) (st' := [.int (Int32.ofInt (-1))]) aj_d231 rfl (Nat.le_succ _) (fun _ => rfl) ?_
        exact fx_ri aj_d231 rfl ⟨_, rfl, 0, rfl, rfl⟩
      · skip
        refine fx_qi (c := (y4).toInt < ((X.1 124 (p1).toInt.toNat)).toInt) (fx_f_ge q5) ?_
        show fx_W _ _ _ 14 lv [] _ _
        refine fx_i2 aj_d231 rfl (Nat.le_succ _) (fun _ => rfl) hlv_0 ?_
        refine fx_gF aj_d231 rfl (Nat.le_succ _) rfl rfl fx_in_11_8 (t := 125) rfl (fun hA6 => ?_)
        refine fx_i0 aj_d231 rfl (Nat.le_succ _) (fun _ => rfl) hlv_1 ?_
        refine fx_n (pc' := 21) (lv' := lv) (st' := [.int ((Int8.ofInt 10).toInt32), .int p1, .ref 125]) aj_d231 rfl (Nat.le_succ _) (fun _ => rfl) ?_
        refine fx_n (pc' := 22) (lv' := lv) (st' := [.int (p1 * ((Int8.ofInt 10).toInt32)), .ref 125]) aj_d231 rfl (Nat.le_succ _) (fun _ => rfl) ?_
        refine fx_i0 aj_d231 rfl (Nat.le_succ _) (fun _ => rfl) hlv_4 ?_
        refine fx_n (pc' := 25) (lv' := lv) (st' := [.int ((p1 * ((Int8.ofInt 10).toInt32)) + y4), .ref 125]) aj_d231 rfl (Nat.le_succ _) (fun _ => rfl) ?_
        refine fx_ldL aj_d231 rfl (Nat.le_succ _) (fun g70 g71 => ?_)
        show fx_W _ _ _ 26 lv [.long (X.2.1 125 (((p1 * ((Int8.ofInt 10).toInt32)) + y4)).toInt.toNat)] _ _
        refine fx_qa (c := 0 ≤ (((p1 * ((Int8.ofInt 10).toInt32)) + y4)).toInt ∧ (((p1 * ((Int8.ofInt 10).toInt32)) + y4)).toInt < ((20 : Nat) : Int)) ⟨g70, fx_lnk g71 hA6⟩ ?_
        refine fx_i1 aj_d231 rfl (Nat.le_succ _) (fun _ => rfl) hlv_2 ?_
        refine fx_n (pc' := 28) (lv' := lv) (st' := [.int (lg_cmp (X.2.1 125 (((p1 * ((Int8.ofInt 10).toInt32)) + y4)).toInt.toNat) p2)]) aj_d231 rfl (Nat.le_succ _) (fun _ => rfl) ?_
        refine fx_b0 (tgt := 34) aj_d231 rfl (Nat.le_succ _) rfl (fun q8 => ?_) (fun q8 => ?_)
        · skip
          refine fx_qe (c := (X.2.1 125 (((p1 * ((Int8.ofInt 10).toInt32)) + y4)).toInt.toNat) = p2) (fun z => (fx_t_ne q8) (fx_lc.mpr z)) ?_
          show fx_W _ _ _ 34 lv [] _ _
          refine fx_incq aj_d231 rfl (Nat.le_succ _) hlv_4 (by decide) (fun x9 ex9 => ?_)
          obtain ⟨lv10, elv10⟩ : ∃ l, l = aj_set1 lv 4 (.int x9) := ⟨_, rfl⟩
          rw [← elv10]
          have hlv10_0 : aj_lv lv10 0 = some (.ref 117) := fx_e1 elv10 hlv_0 (by decide) (Or.inl (by decide))
          have hlv10_1 : aj_lv lv10 1 = some (.int p1) := fx_e1 elv10 hlv_1 (by decide) (Or.inl (by decide))
          have hlv10_2 : aj_lv lv10 2 = some (.long p2) := fx_e1 elv10 hlv_2 (by decide) (Or.inl (by decide))
          have hlv10_4 : aj_lv lv10 4 = some (.int x9) := by rw [elv10]; exact ak_set1_eq _ _ _
          show fx_W _ _ _ 37 lv10 [] _ _
          refine fx_n (pc' := 3) (lv' := lv10) (st' := []) aj_d231 rfl (Nat.le_succ _) (fun _ => rfl) ?_
          exact (ih) lv10 (x9) X  hlv10_0 hlv10_1 hlv10_2 hlv10_4
        · skip
          refine fx_qi (c := (X.2.1 125 (((p1 * ((Int8.ofInt 10).toInt32)) + y4)).toInt.toNat) = p2) (fx_lc.mp (fx_f_ne q8)) ?_
          show fx_W _ _ _ 31 lv [] _ _
          refine fx_i0 aj_d231 rfl (Nat.le_succ _) (fun _ => rfl) hlv_4 ?_
          exact fx_ri aj_d231 rfl ⟨_, rfl, 0, rfl, rfl⟩
theorem gx_231_ok {tb : aj_T} (p1 : Int32) (p2 : Int64) {X : fx_X} : fx_K tb 231 [.ref 117, .int p1, .long p2] X (fx_Q fx_qI (fun v X' => gx_231 p1 p2 X v X')) := by
  refine fx_m aj_m231_at rfl (fun N => ?_)
  refine fx_mono (Q := fx_Q fx_qI (fun v X' => ∃ n : Nat, gxE_231 p1 p2 (gxF_231 p1 p2 n) X v X')) (fun r X' h => h) ?_
  unfold gxE_231
  show fx_W _ _ _ 0 [(0, .ref 117), (1, .int p1), (2, .long p2)] [] _ _
  obtain ⟨lv1, elv1⟩ : ∃ l : aj_V, l = [(0, .ref 117), (1, .int p1), (2, .long p2)] := ⟨_, rfl⟩
  rw [← elv1]
  have hlv1_0 : aj_lv lv1 0 = some (.ref 117) := by rw [elv1]; rfl
  have hlv1_1 : aj_lv lv1 1 = some (.int p1) := by rw [elv1]; rfl
  have hlv1_2 : aj_lv lv1 2 = some (.long p2) := by rw [elv1]; rfl
  refine fx_n (pc' := 1) (lv' := lv1) (st' := [.int (Int32.ofInt 0)]) aj_d231 rfl (Nat.le_succ _) (fun _ => rfl) ?_
  refine fx_s0 (j := 4) aj_d231 rfl (Nat.le_succ _) (by decide) (fun _ => rfl) ?_
  obtain ⟨lv2, elv2⟩ : ∃ l, l = aj_set1 lv1 4 (.int (Int32.ofInt 0)) := ⟨_, rfl⟩
  rw [← elv2]
  have hlv2_0 : aj_lv lv2 0 = some (.ref 117) := fx_e1 elv2 hlv1_0 (by decide) (Or.inl (by decide))
  have hlv2_1 : aj_lv lv2 1 = some (.int p1) := fx_e1 elv2 hlv1_1 (by decide) (Or.inl (by decide))
  have hlv2_2 : aj_lv lv2 2 = some (.long p2) := fx_e1 elv2 hlv1_2 (by decide) (Or.inl (by decide))
  have hlv2_4 : aj_lv lv2 4 = some (.int (Int32.ofInt 0)) := by rw [elv2]; exact ak_set1_eq _ _ _
  show fx_W _ _ _ 3 lv2 [] _ _
  exact ((gxL_231 p1 p2 N)) lv2 ((Int32.ofInt 0)) X  hlv2_0 hlv2_1 hlv2_2 hlv2_4
def gx_218 (p1 : Int32) (p2 : Int32) (X : fx_X) (v : Unit) (X' : fx_X) : Prop :=
  (if ((X.1 117 32)).toInt = 0 then ((if ((X.1 117 24)).toInt = 0 then (∃ X4 : fx_X, X4 = (fx_wI X 117 24 p1) ∧ ∃ X5 : fx_X, X5 = (fx_wI X4 117 25 p2) ∧ X' = X5) else ((if ((X.1 117 25)).toInt < (p2).toInt then (X' = X) else ((if (p2).toInt = ((X.1 117 25)).toInt then ((if (p1).toInt < ((X.1 117 24)).toInt then (∃ X11 : fx_X, X11 = (fx_wI X 117 24 p1) ∧ ∃ X12 : fx_X, X12 = (fx_wI X11 117 25 p2) ∧ X' = X12) else (X' = X))) else (∃ X8 : fx_X, X8 = (fx_wI X 117 24 p1) ∧ ∃ X9 : fx_X, X9 = (fx_wI X8 117 25 p2) ∧ X' = X9))))))) else (X' = X))
theorem gx_218_ok {tb : aj_T} (p1 : Int32) (p2 : Int32) {X : fx_X} : fx_K tb 218 [.ref 117, .int p1, .int p2] X (fx_Q fx_qN (fun v X' => gx_218 p1 p2 X v X')) := by
  refine fx_m aj_m218_at rfl (fun N => ?_)
  refine fx_mono (Q := fx_Q fx_qN (fun v X' => ∃ n : Nat, gx_218 p1 p2 X v X')) (fun r X' ⟨v, e, _, z⟩ => ⟨v, e, z⟩) ?_
  unfold gx_218
  show fx_W _ _ _ 0 [(0, .ref 117), (1, .int p1), (2, .int p2)] [] _ _
  obtain ⟨lv1, elv1⟩ : ∃ l : aj_V, l = [(0, .ref 117), (1, .int p1), (2, .int p2)] := ⟨_, rfl⟩
  rw [← elv1]
  have hlv1_0 : aj_lv lv1 0 = some (.ref 117) := by rw [elv1]; rfl
  have hlv1_1 : aj_lv lv1 1 = some (.int p1) := by rw [elv1]; rfl
  have hlv1_2 : aj_lv lv1 2 = some (.int p2) := by rw [elv1]; rfl
  refine fx_i2 aj_d218 rfl (Nat.le_succ _) (fun _ => rfl) hlv1_0 ?_
  refine fx_gI aj_d218 rfl (Nat.le_succ _) rfl rfl (Or.inr (Or.inl rfl)) ?_
  refine fx_b0 (tgt := 38) aj_d218 rfl (Nat.le_succ _) rfl (fun q2 => ?_) (fun q2 => ?_)
  · skip
    refine fx_qe (c := ((X.1 117 32)).toInt = 0) (fx_t_ne q2) ?_
    show fx_W _ _ _ 38 lv1 [] _ _
    exact fx_rn aj_d218 rfl ⟨(), rfl, 0, rfl⟩
  · skip
    refine fx_qi (c := ((X.1 117 32)).toInt = 0) (fx_f_ne q2) ?_
    show fx_W _ _ _ 7 lv1 [] _ _
    refine fx_i2 aj_d218 rfl (Nat.le_succ _) (fun _ => rfl) hlv1_0 ?_
    refine fx_gI aj_d218 rfl (Nat.le_succ _) rfl rfl (Or.inl rfl) ?_
    refine fx_b0 (tgt := 39) aj_d218 rfl (Nat.le_succ _) rfl (fun q3 => ?_) (fun q3 => ?_)
    · skip
      refine fx_qi (c := ((X.1 117 24)).toInt = 0) (fx_t_eq q3) ?_
      show fx_W _ _ _ 39 lv1 [] _ _
      refine fx_i2 aj_d218 rfl (Nat.le_succ _) (fun _ => rfl) hlv1_0 ?_
      refine fx_i0 aj_d218 rfl (Nat.le_succ _) (fun _ => rfl) hlv1_1 ?_
      refine fx_pI aj_d218 rfl (Nat.le_succ _) rfl rfl (Or.inl rfl) fx_no_11_24 (by decide) ?_
      refine fx_qX (fun X4 eX4 => ?_)
      show fx_W _ _ _ 44 lv1 [] _ _
      refine fx_i2 aj_d218 rfl (Nat.le_succ _) (fun _ => rfl) hlv1_0 ?_
      refine fx_i0 aj_d218 rfl (Nat.le_succ _) (fun _ => rfl) hlv1_2 ?_
      refine fx_pI aj_d218 rfl (Nat.le_succ _) rfl rfl (Or.inl rfl) fx_no_11_25 (by decide) ?_
      refine fx_qX (fun X5 eX5 => ?_)
      show fx_W _ _ _ 49 lv1 [] _ _
      exact fx_rn aj_d218 rfl ⟨(), rfl, 0, rfl⟩
    · skip
      refine fx_qe (c := ((X.1 117 24)).toInt = 0) (fx_f_eq q3) ?_
      show fx_W _ _ _ 14 lv1 [] _ _
      refine fx_i0 aj_d218 rfl (Nat.le_succ _) (fun _ => rfl) hlv1_2 ?_
      refine fx_i2 aj_d218 rfl (Nat.le_succ _) (fun _ => rfl) hlv1_0 ?_
      refine fx_gI aj_d218 rfl (Nat.le_succ _) rfl rfl (Or.inl rfl) ?_
      refine fx_b (tgt := 38) aj_d218 rfl (Nat.le_succ _) rfl (fun q6 => ?_) (fun q6 => ?_)
      · skip
        refine fx_qi (c := ((X.1 117 25)).toInt < (p2).toInt) (fx_t_gt q6) ?_
        show fx_W _ _ _ 38 lv1 [] _ _
        exact fx_rn aj_d218 rfl ⟨(), rfl, 0, rfl⟩
      · skip
        refine fx_qe (c := ((X.1 117 25)).toInt < (p2).toInt) (fx_f_gt q6) ?_
        show fx_W _ _ _ 22 lv1 [] _ _
        refine fx_i0 aj_d218 rfl (Nat.le_succ _) (fun _ => rfl) hlv1_2 ?_
        refine fx_i2 aj_d218 rfl (Nat.le_succ _) (fun _ => rfl) hlv1_0 ?_
        refine fx_gI aj_d218 rfl (Nat.le_succ _) rfl rfl (Or.inl rfl) ?_
        refine fx_b (tgt := 39) aj_d218 rfl (Nat.le_succ _) rfl (fun q7 => ?_) (fun q7 => ?_)
        · skip
          refine fx_qe (c := (p2).toInt = ((X.1 117 25)).toInt) (fx_t_ne q7) ?_
          show fx_W _ _ _ 39 lv1 [] _ _
          refine fx_i2 aj_d218 rfl (Nat.le_succ _) (fun _ => rfl) hlv1_0 ?_
          refine fx_i0 aj_d218 rfl (Nat.le_succ _) (fun _ => rfl) hlv1_1 ?_
          refine fx_pI aj_d218 rfl (Nat.le_succ _) rfl rfl (Or.inl rfl) fx_no_11_24 (by decide) ?_
          refine fx_qX (fun X8 eX8 => ?_)
          show fx_W _ _ _ 44 lv1 [] _ _
          refine fx_i2 aj_d218 rfl (Nat.le_succ _) (fun _ => rfl) hlv1_0 ?_
          refine fx_i0 aj_d218 rfl (Nat.le_succ _) (fun _ => rfl) hlv1_2 ?_
          refine fx_pI aj_d218 rfl (Nat.le_succ _) rfl rfl (Or.inl rfl) fx_no_11_25 (by decide) ?_
          refine fx_qX (fun X9 eX9 => ?_)
          show fx_W _ _ _ 49 lv1 [] _ _
          exact fx_rn aj_d218 rfl ⟨(), rfl, 0, rfl⟩
        · skip
          refine fx_qi (c := (p2).toInt = ((X.1 117 25)).toInt) (fx_f_ne q7) ?_
          show fx_W _ _ _ 30 lv1 [] _ _
          refine fx_i0 aj_d218 rfl (Nat.le_succ _) (fun _ => rfl) hlv1_1 ?_
          refine fx_i2 aj_d218 rfl (Nat.le_succ _) (fun _ => rfl) hlv1_0 ?_
          refine fx_gI aj_d218 rfl (Nat.le_succ _) rfl rfl (Or.inl rfl) ?_
          refine fx_b (tgt := 39) aj_d218 rfl (Nat.le_succ _) rfl (fun q10 => ?_) (fun q10 => ?_)
          · skip
            refine fx_qi (c := (p1).toInt < ((X.1 117 24)).toInt) (fx_t_lt q10) ?_
            show fx_W _ _ _ 39 lv1 [] _ _
            refine fx_i2 aj_d218 rfl (Nat.le_succ _) (fun _ => rfl) hlv1_0 ?_
            refine fx_i0 aj_d218 rfl (Nat.le_succ _) (fun _ => rfl) hlv1_1 ?_
            refine fx_pI aj_d218 rfl (Nat.le_succ _) rfl rfl (Or.inl rfl) fx_no_11_24 (by decide) ?_
            refine fx_qX (fun X11 eX11 => ?_)
            show fx_W _ _ _ 44 lv1 [] _ _
            refine fx_i2 aj_d218 rfl (Nat.le_succ _) (fun _ => rfl) hlv1_0 ?_
            refine fx_i0 aj_d218 rfl (Nat.le_succ _) (fun _ => rfl) hlv1_2 ?_
            refine fx_pI aj_d218 rfl (Nat.le_succ _) rfl rfl (Or.inl rfl) fx_no_11_25 (by decide) ?_
            refine fx_qX (fun X12 eX12 => ?_)
            show fx_W _ _ _ 49 lv1 [] _ _
            exact fx_rn aj_d218 rfl ⟨(), rfl, 0, rfl⟩
          · skip
            refine fx_qe (c := (p1).toInt < ((X.1 117 24)).toInt) (fx_f_lt q10) ?_
            show fx_W _ _ _ 38 lv1 [] _ _
            exact fx_rn aj_d218 rfl ⟨(), rfl, 0, rfl⟩
def gx_230 (p1 : Int32) (X : fx_X) (v : Int32) (X' : fx_X) : Prop :=
  ∃ (w3 : Int32) (X2 : fx_X), gx_214 X w3 X2 ∧ (if (w3).toInt = 0 then (v = (Int32.ofInt 0) ∧ X' = X2) else ((if ((X2.1 117 26)).toInt = 1 then ((0 ≤ ((X2.1 117 37)).toInt ∧ ((X2.1 117 37)).toInt < ((2 : Nat) : Int)) ∧ (if ((X2.1 124 ((X2.1 117 37)).toInt.toNat)).toInt = 10 then (∃ (w78 : Int32) (X77 : fx_X), gx_215 (Int32.ofInt 2) (X2.1 117 27) X2 w78 X77 ∧ v = w78 ∧ X' = X77) else (∃ (w44 : Int32) (X43 : fx_X), gx_216 X2 w44 X43 ∧ (if (w44).toInt = 0 then (v = (Int32.ofInt 0) ∧ X' = X43) else (∃ (w47 : Int32) (X46 : fx_X), gx_231 (X43.1 117 37) (X43.2.1 117 33) X43 w47 X46 ∧ (if (w47).toInt < 0 then ((0 ≤ ((X46.1 117 37)).toInt ∧ ((X46.1 117 37)).toInt < ((2 : Nat) : Int)) ∧ (0 ≤ ((((X46.1 117 37) * ((Int8.ofInt 10).toInt32)) + (X46.1 124 ((X46.1 117 37)).toInt.toNat))).toInt ∧ ((((X46.1 117 37) * ((Int8.ofInt 10).toInt32)) + (X46.1 124 ((X46.1 117 37)).toInt.toNat))).toInt < ((20 : Nat) : Int)) ∧ ∃ X53 : fx_X, X53 = (fx_wL X46 125 ((((X46.1 117 37) * ((Int8.ofInt 10).toInt32)) + (X46.1 124 ((X46.1 117 37)).toInt.toNat))).toInt.toNat (X46.2.1 117 33)) ∧ (0 ≤ ((X53.1 117 37)).toInt ∧ ((X53.1 117 37)).toInt < ((2 : Nat) : Int)) ∧ (if (p1).toInt = 1 then ((0 ≤ ((((X53.1 117 37) * ((Int8.ofInt 10).toInt32)) + (X53.1 124 ((X53.1 117 37)).toInt.toNat))).toInt ∧ ((((X53.1 117 37) * ((Int8.ofInt 10).toInt32)) + (X53.1 124 ((X53.1 117 37)).toInt.toNat))).toInt < ((20 : Nat) : Int)) ∧ ∃ X61 : fx_X, X61 = (fx_wI X53 126 ((((X53.1 117 37) * ((Int8.ofInt 10).toInt32)) + (X53.1 124 ((X53.1 117 37)).toInt.toNat))).toInt.toNat (aj_nar 2 (Int32.ofInt 1))) ∧ v = (Int32.ofInt 1) ∧ X' = X61) else ((0 ≤ ((((X53.1 117 37) * ((Int8.ofInt 10).toInt32)) + (X53.1 124 ((X53.1 117 37)).toInt.toNat))).toInt ∧ ((((X53.1 117 37) * ((Int8.ofInt 10).toInt32)) + (X53.1 124 ((X53.1 117 37)).toInt.toNat))).toInt < ((20 : Nat) : Int)) ∧ ∃ X59 : fx_X, X59 = (fx_wI X53 126 ((((X53.1 117 37) * ((Int8.ofInt 10).toInt32)) + (X53.1 124 ((X53.1 117 37)).toInt.toNat))).toInt.toNat (aj_nar 2 (Int32.ofInt 0))) ∧ v = (Int32.ofInt 1) ∧ X' = X59))) else (∃ (w63 : Unit) (X62 : fx_X), gx_218 (Int32.ofInt 3) (X46.1 117 34) X46 w63 X62 ∧ (0 ≤ ((X62.1 117 37)).toInt ∧ ((X62.1 117 37)).toInt < ((2 : Nat) : Int)) ∧ (0 ≤ ((((X62.1 117 37) * ((Int8.ofInt 10).toInt32)) + (X62.1 124 ((X62.1 117 37)).toInt.toNat))).toInt ∧ ((((X62.1 117 37) * ((Int8.ofInt 10).toInt32)) + (X62.1 124 ((X62.1 117 37)).toInt.toNat))).toInt < ((20 : Nat) : Int)) ∧ ∃ X68 : fx_X, X68 = (fx_wL X62 125 ((((X62.1 117 37) * ((Int8.ofInt 10).toInt32)) + (X62.1 124 ((X62.1 117 37)).toInt.toNat))).toInt.toNat (X62.2.1 117 33)) ∧ (0 ≤ ((X68.1 117 37)).toInt ∧ ((X68.1 117 37)).toInt < ((2 : Nat) : Int)) ∧ (if (p1).toInt = 1 then ((0 ≤ ((((X68.1 117 37) * ((Int8.ofInt 10).toInt32)) + (X68.1 124 ((X68.1 117 37)).toInt.toNat))).toInt ∧ ((((X68.1 117 37) * ((Int8.ofInt 10).toInt32)) + (X68.1 124 ((X68.1 117 37)).toInt.toNat))).toInt < ((20 : Nat) : Int)) ∧ ∃ X76 : fx_X, X76 = (fx_wI X68 126 ((((X68.1 117 37) * ((Int8.ofInt 10).toInt32)) + (X68.1 124 ((X68.1 117 37)).toInt.toNat))).toInt.toNat (aj_nar 2 (Int32.ofInt 1))) ∧ v = (Int32.ofInt 1) ∧ X' = X76) else ((0 ≤ ((((X68.1 117 37) * ((Int8.ofInt 10).toInt32)) + (X68.1 124 ((X68.1 117 37)).toInt.toNat))).toInt ∧ ((((X68.1 117 37) * ((Int8.ofInt 10).toInt32)) + (X68.1 124 ((X68.1 117 37)).toInt.toNat))).toInt < ((20 : Nat) : Int)) ∧ ∃ X74 : fx_X, X74 = (fx_wI X68 126 ((((X68.1 117 37) * ((Int8.ofInt 10).toInt32)) + (X68.1 124 ((X68.1 117 37)).toInt.toNat))).toInt.toNat (aj_nar 2 (Int32.ofInt 0))) ∧ v = (Int32.ofInt 1) ∧ X' = X74))))))))) else (∃ (w7 : Int32) (X6 : fx_X), gx_216 X2 w7 X6 ∧ (if (w7).toInt = 0 then (v = (Int32.ofInt 0) ∧ X' = X6) else (∃ (w10 : Int32) (X9 : fx_X), gx_231 (X6.1 117 37) (X6.2.1 117 33) X6 w10 X9 ∧ (if (w10).toInt < 0 then ((0 ≤ ((X9.1 117 37)).toInt ∧ ((X9.1 117 37)).toInt < ((2 : Nat) : Int)) ∧ (0 ≤ ((((X9.1 117 37) * ((Int8.ofInt 10).toInt32)) + (X9.1 124 ((X9.1 117 37)).toInt.toNat))).toInt ∧ ((((X9.1 117 37) * ((Int8.ofInt 10).toInt32)) + (X9.1 124 ((X9.1 117 37)).toInt.toNat))).toInt < ((20 : Nat) : Int)) ∧ ∃ X16 : fx_X, X16 = (fx_wL X9 125 ((((X9.1 117 37) * ((Int8.ofInt 10).toInt32)) + (X9.1 124 ((X9.1 117 37)).toInt.toNat))).toInt.toNat (X9.2.1 117 33)) ∧ (0 ≤ ((X16.1 117 37)).toInt ∧ ((X16.1 117 37)).toInt < ((2 : Nat) : Int)) ∧ (if (p1).toInt = 1 then ((0 ≤ ((((X16.1 117 37) * ((Int8.ofInt 10).toInt32)) + (X16.1 124 ((X16.1 117 37)).toInt.toNat))).toInt ∧ ((((X16.1 117 37) * ((Int8.ofInt 10).toInt32)) + (X16.1 124 ((X16.1 117 37)).toInt.toNat))).toInt < ((20 : Nat) : Int)) ∧ ∃ X24 : fx_X, X24 = (fx_wI X16 126 ((((X16.1 117 37) * ((Int8.ofInt 10).toInt32)) + (X16.1 124 ((X16.1 117 37)).toInt.toNat))).toInt.toNat (aj_nar 2 (Int32.ofInt 1))) ∧ v = (Int32.ofInt 1) ∧ X' = X24) else ((0 ≤ ((((X16.1 117 37) * ((Int8.ofInt 10).toInt32)) + (X16.1 124 ((X16.1 117 37)).toInt.toNat))).toInt ∧ ((((X16.1 117 37) * ((Int8.ofInt 10).toInt32)) + (X16.1 124 ((X16.1 117 37)).toInt.toNat))).toInt < ((20 : Nat) : Int)) ∧ ∃ X22 : fx_X, X22 = (fx_wI X16 126 ((((X16.1 117 37) * ((Int8.ofInt 10).toInt32)) + (X16.1 124 ((X16.1 117 37)).toInt.toNat))).toInt.toNat (aj_nar 2 (Int32.ofInt 0))) ∧ v = (Int32.ofInt 1) ∧ X' = X22))) else (∃ (w26 : Unit) (X25 : fx_X), gx_218 (Int32.ofInt 3) (X9.1 117 34) X9 w26 X25 ∧ (0 ≤ ((X25.1 117 37)).toInt ∧ ((X25.1 117 37)).toInt < ((2 : Nat) : Int)) ∧ (0 ≤ ((((X25.1 117 37) * ((Int8.ofInt 10).toInt32)) + (X25.1 124 ((X25.1 117 37)).toInt.toNat))).toInt ∧ ((((X25.1 117 37) * ((Int8.ofInt 10).toInt32)) + (X25.1 124 ((X25.1 117 37)).toInt.toNat))).toInt < ((20 : Nat) : Int)) ∧ ∃ X31 : fx_X, X31 = (fx_wL X25 125 ((((X25.1 117 37) * ((Int8.ofInt 10).toInt32)) + (X25.1 124 ((X25.1 117 37)).toInt.toNat))).toInt.toNat (X25.2.1 117 33)) ∧ (0 ≤ ((X31.1 117 37)).toInt ∧ ((X31.1 117 37)).toInt < ((2 : Nat) : Int)) ∧ (if (p1).toInt = 1 then ((0 ≤ ((((X31.1 117 37) * ((Int8.ofInt 10).toInt32)) + (X31.1 124 ((X31.1 117 37)).toInt.toNat))).toInt ∧ ((((X31.1 117 37) * ((Int8.ofInt 10).toInt32)) + (X31.1 124 ((X31.1 117 37)).toInt.toNat))).toInt < ((20 : Nat) : Int)) ∧ ∃ X39 : fx_X, X39 = (fx_wI X31 126 ((((X31.1 117 37) * ((Int8.ofInt 10).toInt32)) + (X31.1 124 ((X31.1 117 37)).toInt.toNat))).toInt.toNat (aj_nar 2 (Int32.ofInt 1))) ∧ v = (Int32.ofInt 1) ∧ X' = X39) else ((0 ≤ ((((X31.1 117 37) * ((Int8.ofInt 10).toInt32)) + (X31.1 124 ((X31.1 117 37)).toInt.toNat))).toInt ∧ ((((X31.1 117 37) * ((Int8.ofInt 10).toInt32)) + (X31.1 124 ((X31.1 117 37)).toInt.toNat))).toInt < ((20 : Nat) : Int)) ∧ ∃ X37 : fx_X, X37 = (fx_wI X31 126 ((((X31.1 117 37) * ((Int8.ofInt 10).toInt32)) + (X31.1 124 ((X31.1 117 37)).toInt.toNat))).toInt.toNat (aj_nar 2 (Int32.ofInt 0))) ∧ v = (Int32.ofInt 1) ∧ X' = X37))))))))))
theorem gx_230_ok {tb : aj_T} (p1 : Int32) {X : fx_X} : fx_K tb 230 [.ref 117, .int p1] X (fx_Q fx_qI (fun v X' => gx_230 p1 X v X')) := by
  refine fx_m aj_m230_at rfl (fun N => ?_)
  refine fx_mono (Q := fx_Q fx_qI (fun v X' => ∃ n : Nat, gx_230 p1 X v X')) (fun r X' ⟨v, e, _, z⟩ => ⟨v, e, z⟩) ?_
  unfold gx_230
  show fx_W _ _ _ 0 [(0, .ref 117), (1, .int p1)] [] _ _
  obtain ⟨lv1, elv1⟩ : ∃ l : aj_V, l = [(0, .ref 117), (1, .int p1)] := ⟨_, rfl⟩
  rw [← elv1]
  have hlv1_0 : aj_lv lv1 0 = some (.ref 117) := by rw [elv1]; rfl
  have hlv1_1 : aj_lv lv1 1 = some (.int p1) := by rw [elv1]; rfl
  refine fx_i2 aj_d230 rfl (Nat.le_succ _) (fun _ => rfl) hlv1_0 ?_
  refine fx_cv aj_d230 rfl (Nat.le_succ _) rfl [] rfl rfl (gx_214_ok) ?_
  rintro _ X2 ⟨w3, rfl, hR2⟩ hok2 hle2
  refine fx_qc hR2 ?_
  show fx_W _ _ _ 4 lv1 [.int w3] _ _
  refine fx_b0 (tgt := 9) aj_d230 rfl (Nat.le_succ _) rfl (fun q4 => ?_) (fun q4 => ?_)
  · skip
    refine fx_qe (c := (w3).toInt = 0) (fx_t_ne q4) ?_
    show fx_W _ _ _ 9 lv1 [] _ _
    refine fx_i2 aj_d230 rfl (Nat.le_succ _) (fun _ => rfl) hlv1_0 ?_
    refine fx_gI aj_d230 rfl (Nat.le_succ _) rfl rfl (Or.inl rfl) ?_
    refine fx_n (pc' := 14) (lv' := lv1) (st' := [.int (Int32.ofInt 1), .int (X2.1 117 26)]) aj_d230 rfl (Nat.le_succ _) (fun _ => rfl) ?_
    refine fx_b (tgt := 41) aj_d230 rfl (Nat.le_succ _) rfl (fun q5 => ?_) (fun q5 => ?_)
    · skip
      refine fx_qe (c := ((X2.1 117 26)).toInt = 1) (fx_t_ne q5) ?_
      show fx_W _ _ _ 41 lv1 [] _ _
      refine fx_i2 aj_d230 rfl (Nat.le_succ _) (fun _ => rfl) hlv1_0 ?_
      refine fx_cv aj_d230 rfl (Nat.le_succ _) rfl [] rfl rfl (gx_216_ok) ?_
      rintro _ X6 ⟨w7, rfl, hR6⟩ hok6 hle6
      refine fx_qc hR6 ?_
      show fx_W _ _ _ 45 lv1 [.int w7] _ _
      refine fx_b0 (tgt := 50) aj_d230 rfl (Nat.le_succ _) rfl (fun q8 => ?_) (fun q8 => ?_)
      · skip
        refine fx_qe (c := (w7).toInt = 0) (fx_t_ne q8) ?_
        show fx_W _ _ _ 50 lv1 [] _ _
        refine fx_i2 aj_d230 rfl (Nat.le_succ _) (fun _ => rfl) hlv1_0 ?_
        refine fx_i2 aj_d230 rfl (Nat.le_succ _) (fun _ => rfl) hlv1_0 ?_
        refine fx_gI aj_d230 rfl (Nat.le_succ _) rfl rfl (Or.inl rfl) ?_
        refine fx_i2 aj_d230 rfl (Nat.le_succ _) (fun _ => rfl) hlv1_0 ?_
        refine fx_gL aj_d230 rfl (Nat.le_succ _) rfl rfl rfl ?_
        refine fx_cv aj_d230 rfl (Nat.le_succ _) rfl [_, _] rfl rfl (gx_231_ok (X6.1 117 37) (X6.2.1 117 33)) ?_
        rintro _ X9 ⟨w10, rfl, hR9⟩ hok9 hle9
        refine fx_qc hR9 ?_
        show fx_W _ _ _ 62 lv1 [.int w10] _ _
        refine fx_b0 (tgt := 74) aj_d230 rfl (Nat.le_succ _) rfl (fun q11 => ?_) (fun q11 => ?_)
        · skip
          refine fx_qi (c := (w10).toInt < 0) (fx_t_lt q11) ?_
          show fx_W _ _ _ 74 lv1 [] _ _
          refine fx_i2 aj_d230 rfl (Nat.le_succ _) (fun _ => rfl) hlv1_0 ?_
          refine fx_gF aj_d230 rfl (Nat.le_succ _) rfl rfl fx_in_11_8 (t := 125) rfl (fun hA12 => ?_)
          refine fx_i2 aj_d230 rfl (Nat.le_succ _) (fun _ => rfl) hlv1_0 ?_
          refine fx_gI aj_d230 rfl (Nat.le_succ _) rfl rfl (Or.inl rfl) ?_
          refine fx_n (pc' := 84) (lv' := lv1) (st' := [.int ((Int8.ofInt 10).toInt32), .int (X9.1 117 37), .ref 125]) aj_d230 rfl (Nat.le_succ _) (fun _ => rfl) ?_
          refine fx_n (pc' := 85) (lv' := lv1) (st' := [.int ((X9.1 117 37) * ((Int8.ofInt 10).toInt32)), .ref 125]) aj_d230 rfl (Nat.le_succ _) (fun _ => rfl) ?_
          refine fx_i2 aj_d230 rfl (Nat.le_succ _) (fun _ => rfl) hlv1_0 ?_
          refine fx_gF aj_d230 rfl (Nat.le_succ _) rfl rfl fx_in_11_7 (t := 124) rfl (fun hA13 => ?_)
          refine fx_i2 aj_d230 rfl (Nat.le_succ _) (fun _ => rfl) hlv1_0 ?_
          refine fx_gI aj_d230 rfl (Nat.le_succ _) rfl rfl (Or.inl rfl) ?_
          refine fx_ld aj_d230 (Or.inl rfl) rfl (Nat.le_succ _) (fun g140 g141 => ?_)
          show fx_W _ _ _ 94 lv1 [.int (X9.1 124 ((X9.1 117 37)).toInt.toNat), .int ((X9.1 117 37) * ((Int8.ofInt 10).toInt32)), .ref 125] _ _
          refine fx_qa (c := 0 ≤ ((X9.1 117 37)).toInt ∧ ((X9.1 117 37)).toInt < ((2 : Nat) : Int)) ⟨g140, fx_lnk g141 hA13⟩ ?_
          refine fx_n (pc' := 95) (lv' := lv1) (st' := [.int (((X9.1 117 37) * ((Int8.ofInt 10).toInt32)) + (X9.1 124 ((X9.1 117 37)).toInt.toNat)), .ref 125]) aj_d230 rfl (Nat.le_succ _) (fun _ => rfl) ?_
          refine fx_i2 aj_d230 rfl (Nat.le_succ _) (fun _ => rfl) hlv1_0 ?_
          refine fx_gL aj_d230 rfl (Nat.le_succ _) rfl rfl rfl ?_
          refine fx_sL aj_d230 rfl (Nat.le_succ _) (fun g150 g151 => ?_)
          refine fx_qa (c := 0 ≤ ((((X9.1 117 37) * ((Int8.ofInt 10).toInt32)) + (X9.1 124 ((X9.1 117 37)).toInt.toNat))).toInt ∧ ((((X9.1 117 37) * ((Int8.ofInt 10).toInt32)) + (X9.1 124 ((X9.1 117 37)).toInt.toNat))).toInt < ((20 : Nat) : Int)) ⟨g150, fx_lnk g151 hA12⟩ ?_
          refine fx_qX (fun X16 eX16 => ?_)
          show fx_W _ _ _ 100 lv1 [] _ _
          refine fx_i2 aj_d230 rfl (Nat.le_succ _) (fun _ => rfl) hlv1_0 ?_
          refine fx_gF aj_d230 rfl (Nat.le_succ _) rfl rfl fx_in_11_9 (t := 126) rfl (fun hA17 => ?_)
          refine fx_i2 aj_d230 rfl (Nat.le_succ _) (fun _ => rfl) hlv1_0 ?_
          refine fx_gI aj_d230 rfl (Nat.le_succ _) rfl rfl (Or.inl rfl) ?_
          refine fx_n (pc' := 110) (lv' := lv1) (st' := [.int ((Int8.ofInt 10).toInt32), .int (X16.1 117 37), .ref 126]) aj_d230 rfl (Nat.le_succ _) (fun _ => rfl) ?_
          refine fx_n (pc' := 111) (lv' := lv1) (st' := [.int ((X16.1 117 37) * ((Int8.ofInt 10).toInt32)), .ref 126]) aj_d230 rfl (Nat.le_succ _) (fun _ => rfl) ?_
          refine fx_i2 aj_d230 rfl (Nat.le_succ _) (fun _ => rfl) hlv1_0 ?_
          refine fx_gF aj_d230 rfl (Nat.le_succ _) rfl rfl fx_in_11_7 (t := 124) rfl (fun hA18 => ?_)
          refine fx_i2 aj_d230 rfl (Nat.le_succ _) (fun _ => rfl) hlv1_0 ?_
          refine fx_gI aj_d230 rfl (Nat.le_succ _) rfl rfl (Or.inl rfl) ?_
          refine fx_ld aj_d230 (Or.inl rfl) rfl (Nat.le_succ _) (fun g190 g191 => ?_)
          show fx_W _ _ _ 120 lv1 [.int (X16.1 124 ((X16.1 117 37)).toInt.toNat), .int ((X16.1 117 37) * ((Int8.ofInt 10).toInt32)), .ref 126] _ _
          refine fx_qa (c := 0 ≤ ((X16.1 117 37)).toInt ∧ ((X16.1 117 37)).toInt < ((2 : Nat) : Int)) ⟨g190, fx_lnk g191 hA18⟩ ?_
          refine fx_n (pc' := 121) (lv' := lv1) (st' := [.int (((X16.1 117 37) * ((Int8.ofInt 10).toInt32)) + (X16.1 124 ((X16.1 117 37)).toInt.toNat)), .ref 126]) aj_d230 rfl (Nat.le_succ _) (fun _ => rfl) ?_
          refine fx_i0 aj_d230 rfl (Nat.le_succ _) (fun _ => rfl) hlv1_1 ?_
          refine fx_n (pc' := 123) (lv' := lv1) (st' := [.int (Int32.ofInt 1), .int p1, .int (((X16.1 117 37) * ((Int8.ofInt 10).toInt32)) + (X16.1 124 ((X16.1 117 37)).toInt.toNat)), .ref 126]) aj_d230 rfl (Nat.le_succ _) (fun _ => rfl) ?_
          refine fx_b (tgt := 130) aj_d230 rfl (Nat.le_succ _) rfl (fun q20 => ?_) (fun q20 => ?_)
          · skip
            refine fx_qe (c := (p1).toInt = 1) (fx_t_ne q20) ?_
            show fx_W _ _ _ 130 lv1 [.int (((X16.1 117 37) * ((Int8.ofInt 10).toInt32)) + (X16.1 124 ((X16.1 117 37)).toInt.toNat)), .ref 126] _ _
            refine fx_n (pc' := 131) (lv' := lv1) (st' := [.int (Int32.ofInt 0), .int (((X16.1 117 37) * ((Int8.ofInt 10).toInt32)) + (X16.1 124 ((X16.1 117 37)).toInt.toNat)), .ref 126]) aj_d230 rfl (Nat.le_succ _) (fun _ => rfl) ?_
            refine fx_sb (kd := 2) aj_d230 rfl (Nat.le_succ _) hA17 (fun g210 g211 => ?_)
            refine fx_qa (c := 0 ≤ ((((X16.1 117 37) * ((Int8.ofInt 10).toInt32)) + (X16.1 124 ((X16.1 117 37)).toInt.toNat))).toInt ∧ ((((X16.1 117 37) * ((Int8.ofInt 10).toInt32)) + (X16.1 124 ((X16.1 117 37)).toInt.toNat))).toInt < ((20 : Nat) : Int)) ⟨g210, fx_lnk g211 hA17⟩ ?_
            refine fx_qX (fun X22 eX22 => ?_)
            show fx_W _ _ _ 132 lv1 [] _ _
            refine fx_n (pc' := 133) (lv' := lv1) (st' := [.int (Int32.ofInt 1)]) aj_d230 rfl (Nat.le_succ _) (fun _ => rfl) ?_
            exact fx_ri aj_d230 rfl ⟨_, rfl, 0, rfl, rfl⟩
          · skip
            refine fx_qi (c := (p1).toInt = 1) (fx_f_ne q20) ?_
            show fx_W _ _ _ 126 lv1 [.int (((X16.1 117 37) * ((Int8.ofInt 10).toInt32)) + (X16.1 124 ((X16.1 117 37)).toInt.toNat)), .ref 126] _ _
            refine fx_n (pc' := 127) (lv' := lv1) (st' := [.int (Int32.ofInt 1), .int (((X16.1 117 37) * ((Int8.ofInt 10).toInt32)) + (X16.1 124 ((X16.1 117 37)).toInt.toNat)), .ref 126]) aj_d230 rfl (Nat.le_succ _) (fun _ => rfl) ?_
            refine fx_n (pc' := 131) (lv' := lv1) (st' := [.int (Int32.ofInt 1), .int (((X16.1 117 37) * ((Int8.ofInt 10).toInt32)) + (X16.1 124 ((X16.1 117 37)).toInt.toNat)), .ref 126]) aj_d230 rfl (Nat.le_succ _) (fun _ => rfl) ?_
            refine fx_sb (kd := 2) aj_d230 rfl (Nat.le_succ _) hA17 (fun g230 g231 => ?_)
            refine fx_qa (c := 0 ≤ ((((X16.1 117 37) * ((Int8.ofInt 10).toInt32)) + (X16.1 124 ((X16.1 117 37)).toInt.toNat))).toInt ∧ ((((X16.1 117 37) * ((Int8.ofInt 10).toInt32)) + (X16.1 124 ((X16.1 117 37)).toInt.toNat))).toInt < ((20 : Nat) : Int)) ⟨g230, fx_lnk g231 hA17⟩ ?_
            refine fx_qX (fun X24 eX24 => ?_)
            show fx_W _ _ _ 132 lv1 [] _ _
            refine fx_n (pc' := 133) (lv' := lv1) (st' := [.int (Int32.ofInt 1)]) aj_d230 rfl (Nat.le_succ _) (fun _ => rfl) ?_
            exact fx_ri aj_d230 rfl ⟨_, rfl, 0, rfl, rfl⟩
        · skip
          refine fx_qe (c := (w10).toInt < 0) (fx_f_lt q11) ?_
          show fx_W _ _ _ 65 lv1 [] _ _
          refine fx_i2 aj_d230 rfl (Nat.le_succ _) (fun _ => rfl) hlv1_0 ?_
          refine fx_n (pc' := 67) (lv' := lv1) (st' := [.int (Int32.ofInt 3), .ref 117]) aj_d230 rfl (Nat.le_succ _) (fun _ => rfl) ?_
          refine fx_i2 aj_d230 rfl (Nat.le_succ _) (fun _ => rfl) hlv1_0 ?_
          refine fx_gI aj_d230 rfl (Nat.le_succ _) rfl rfl (Or.inl rfl) ?_
          refine fx_cv aj_d230 rfl (Nat.le_succ _) rfl [_, _] rfl rfl (gx_218_ok (Int32.ofInt 3) (X9.1 117 34)) ?_
          rintro _ X25 ⟨w26, rfl, hR25⟩ hok25 hle25
          refine fx_qc hR25 ?_
          show fx_W _ _ _ 74 lv1 [] _ _
          refine fx_i2 aj_d230 rfl (Nat.le_succ _) (fun _ => rfl) hlv1_0 ?_
          refine fx_gF aj_d230 rfl (Nat.le_succ _) rfl rfl fx_in_11_8 (t := 125) rfl (fun hA27 => ?_)
          refine fx_i2 aj_d230 rfl (Nat.le_succ _) (fun _ => rfl) hlv1_0 ?_
          refine fx_gI aj_d230 rfl (Nat.le_succ _) rfl rfl (Or.inl rfl) ?_
          refine fx_n (pc' := 84) (lv' := lv1) (st' := [.int ((Int8.ofInt 10).toInt32), .int (X25.1 117 37), .ref 125]) aj_d230 rfl (Nat.le_succ _) (fun _ => rfl) ?_
          refine fx_n (pc' := 85) (lv' := lv1) (st' := [.int ((X25.1 117 37) * ((Int8.ofInt 10).toInt32)), .ref 125]) aj_d230 rfl (Nat.le_succ _) (fun _ => rfl) ?_
          refine fx_i2 aj_d230 rfl (Nat.le_succ _) (fun _ => rfl) hlv1_0 ?_
          refine fx_gF aj_d230 rfl (Nat.le_succ _) rfl rfl fx_in_11_7 (t := 124) rfl (fun hA28 => ?_)
          refine fx_i2 aj_d230 rfl (Nat.le_succ _) (fun _ => rfl) hlv1_0 ?_
          refine fx_gI aj_d230 rfl (Nat.le_succ _) rfl rfl (Or.inl rfl) ?_
          refine fx_ld aj_d230 (Or.inl rfl) rfl (Nat.le_succ _) (fun g290 g291 => ?_)
          show fx_W _ _ _ 94 lv1 [.int (X25.1 124 ((X25.1 117 37)).toInt.toNat), .int ((X25.1 117 37) * ((Int8.ofInt 10).toInt32)), .ref 125] _ _
          refine fx_qa (c := 0 ≤ ((X25.1 117 37)).toInt ∧ ((X25.1 117 37)).toInt < ((2 : Nat) : Int)) ⟨g290, fx_lnk g291 hA28⟩ ?_
          refine fx_n (pc' := 95) (lv' := lv1) (st' := [.int (((X25.1 117 37) * ((Int8.ofInt 10).toInt32)) + (X25.1 124 ((X25.1 117 37)).toInt.toNat)), .ref 125]) aj_d230 rfl (Nat.le_succ _) (fun _ => rfl) ?_
          refine fx_i2 aj_d230 rfl (Nat.le_succ _) (fun _ => rfl) hlv1_0 ?_
          refine fx_gL aj_d230 rfl (Nat.le_succ _) rfl rfl rfl ?_
          refine fx_sL aj_d230 rfl (Nat.le_succ _) (fun g300 g301 => ?_)
          refine fx_qa (c := 0 ≤ ((((X25.1 117 37) * ((Int8.ofInt 10).toInt32)) + (X25.1 124 ((X25.1 117 37)).toInt.toNat))).toInt ∧ ((((X25.1 117 37) * ((Int8.ofInt 10).toInt32)) + (X25.1 124 ((X25.1 117 37)).toInt.toNat))).toInt < ((20 : Nat) : Int)) ⟨g300, fx_lnk g301 hA27⟩ ?_
          refine fx_qX (fun X31 eX31 => ?_)
          show fx_W _ _ _ 100 lv1 [] _ _
          refine fx_i2 aj_d230 rfl (Nat.le_succ _) (fun _ => rfl) hlv1_0 ?_
          refine fx_gF aj_d230 rfl (Nat.le_succ _) rfl rfl fx_in_11_9 (t := 126) rfl (fun hA32 => ?_)
          refine fx_i2 aj_d230 rfl (Nat.le_succ _) (fun _ => rfl) hlv1_0 ?_
          refine fx_gI aj_d230 rfl (Nat.le_succ _) rfl rfl (Or.inl rfl) ?_
          refine fx_n (pc' := 110) (lv' := lv1) (st' := [.int ((Int8.ofInt 10).toInt32), .int (X31.1 117 37), .ref 126]) aj_d230 rfl (Nat.le_succ _) (fun _ => rfl) ?_
          refine fx_n (pc' := 111) (lv' := lv1) (st' := [.int ((X31.1 117 37) * ((Int8.ofInt 10).toInt32)), .ref 126]) aj_d230 rfl (Nat.le_succ _) (fun _ => rfl) ?_
          refine fx_i2 aj_d230 rfl (Nat.le_succ _) (fun _ => rfl) hlv1_0 ?_
          refine fx_gF aj_d230 rfl (Nat.le_succ _) rfl rfl fx_in_11_7 (t := 124) rfl (fun hA33 => ?_)
          refine fx_i2 aj_d230 rfl (Nat.le_succ _) (fun _ => rfl) hlv1_0 ?_
          refine fx_gI aj_d230 rfl (Nat.le_succ _) rfl rfl (Or.inl rfl) ?_
          refine fx_ld aj_d230 (Or.inl rfl) rfl (Nat.le_succ _) (fun g340 g341 => ?_)
          show fx_W _ _ _ 120 lv1 [.int (X31.1 124 ((X31.1 117 37)).toInt.toNat), .int ((X31.1 117 37) * ((Int8.ofInt 10).toInt32)), .ref 126] _ _
          refine fx_qa (c := 0 ≤ ((X31.1 117 37)).toInt ∧ ((X31.1 117 37)).toInt < ((2 : Nat) : Int)) ⟨g340, fx_lnk g341 hA33⟩ ?_
          refine fx_n (pc' := 121) (lv' := lv1) (st' := [.int (((X31.1 117 37) * ((Int8.ofInt 10).toInt32)) + (X31.1 124 ((X31.1 117 37)).toInt.toNat)), .ref 126]) aj_d230 rfl (Nat.le_succ _) (fun _ => rfl) ?_
          refine fx_i0 aj_d230 rfl (Nat.le_succ _) (fun _ => rfl) hlv1_1 ?_
          refine fx_n (pc' := 123) (lv' := lv1) (st' := [.int (Int32.ofInt 1), .int p1, .int (((X31.1 117 37) * ((Int8.ofInt 10).toInt32)) + (X31.1 124 ((X31.1 117 37)).toInt.toNat)), .ref 126]) aj_d230 rfl (Nat.le_succ _) (fun _ => rfl) ?_
          refine fx_b (tgt := 130) aj_d230 rfl (Nat.le_succ _) rfl (fun q35 => ?_) (fun q35 => ?_)
          · skip
            refine fx_qe (c := (p1).toInt = 1) (fx_t_ne q35) ?_
            show fx_W _ _ _ 130 lv1 [.int (((X31.1 117 37) * ((Int8.ofInt 10).toInt32)) + (X31.1 124 ((X31.1 117 37)).toInt.toNat)), .ref 126] _ _
            refine fx_n (pc' := 131) (lv' := lv1) (st' := [.int (Int32.ofInt 0), .int (((X31.1 117 37) * ((Int8.ofInt 10).toInt32)) + (X31.1 124 ((X31.1 117 37)).toInt.toNat)), .ref 126]) aj_d230 rfl (Nat.le_succ _) (fun _ => rfl) ?_
            refine fx_sb (kd := 2) aj_d230 rfl (Nat.le_succ _) hA32 (fun g360 g361 => ?_)
            refine fx_qa (c := 0 ≤ ((((X31.1 117 37) * ((Int8.ofInt 10).toInt32)) + (X31.1 124 ((X31.1 117 37)).toInt.toNat))).toInt ∧ ((((X31.1 117 37) * ((Int8.ofInt 10).toInt32)) + (X31.1 124 ((X31.1 117 37)).toInt.toNat))).toInt < ((20 : Nat) : Int)) ⟨g360, fx_lnk g361 hA32⟩ ?_
            refine fx_qX (fun X37 eX37 => ?_)
            show fx_W _ _ _ 132 lv1 [] _ _
            refine fx_n (pc' := 133) (lv' := lv1) (st' := [.int (Int32.ofInt 1)]) aj_d230 rfl (Nat.le_succ _) (fun _ => rfl) ?_
            exact fx_ri aj_d230 rfl ⟨_, rfl, 0, rfl, rfl⟩
          · skip
            refine fx_qi (c := (p1).toInt = 1) (fx_f_ne q35) ?_
            show fx_W _ _ _ 126 lv1 [.int (((X31.1 117 37) * ((Int8.ofInt 10).toInt32)) + (X31.1 124 ((X31.1 117 37)).toInt.toNat)), .ref 126] _ _
            refine fx_n (pc' := 127) (lv' := lv1) (st' := [.int (Int32.ofInt 1), .int (((X31.1 117 37) * ((Int8.ofInt 10).toInt32)) + (X31.1 124 ((X31.1 117 37)).toInt.toNat)), .ref 126]) aj_d230 rfl (Nat.le_succ _) (fun _ => rfl) ?_
            refine fx_n (pc' := 131) (lv' := lv1) (st' := [.int (Int32.ofInt 1), .int (((X31.1 117 37) * ((Int8.ofInt 10).toInt32)) + (X31.1 124 ((X31.1 117 37)).toInt.toNat)), .ref 126]) aj_d230 rfl (Nat.le_succ _) (fun _ => rfl) ?_
            refine fx_sb (kd := 2) aj_d230 rfl (Nat.le_succ _) hA32 (fun g380 g381 => ?_)
            refine fx_qa (c := 0 ≤ ((((X31.1 117 37) * ((Int8.ofInt 10).toInt32)) + (X31.1 124 ((X31.1 117 37)).toInt.toNat))).toInt ∧ ((((X31.1 117 37) * ((Int8.ofInt 10).toInt32)) + (X31.1 124 ((X31.1 117 37)).toInt.toNat))).toInt < ((20 : Nat) : Int)) ⟨g380, fx_lnk g381 hA32⟩ ?_
            refine fx_qX (fun X39 eX39 => ?_)
            show fx_W _ _ _ 132 lv1 [] _ _
            refine fx_n (pc' := 133) (lv' := lv1) (st' := [.int (Int32.ofInt 1)]) aj_d230 rfl (Nat.le_succ _) (fun _ => rfl) ?_
            exact fx_ri aj_d230 rfl ⟨_, rfl, 0, rfl, rfl⟩
      · skip
        refine fx_qi (c := (w7).toInt = 0) (fx_f_ne q8) ?_
        show fx_W _ _ _ 48 lv1 [] _ _
        refine fx_n (pc' := 49) (lv' := lv1) (st' := [.int (Int32.ofInt 0)]) aj_d230 rfl (Nat.le_succ _) (fun _ => rfl) ?_
        exact fx_ri aj_d230 rfl ⟨_, rfl, 0, rfl, rfl⟩
    · skip
      refine fx_qi (c := ((X2.1 117 26)).toInt = 1) (fx_f_ne q5) ?_
      show fx_W _ _ _ 17 lv1 [] _ _
      refine fx_i2 aj_d230 rfl (Nat.le_succ _) (fun _ => rfl) hlv1_0 ?_
      refine fx_gF aj_d230 rfl (Nat.le_succ _) rfl rfl fx_in_11_7 (t := 124) rfl (fun hA40 => ?_)
      refine fx_i2 aj_d230 rfl (Nat.le_succ _) (fun _ => rfl) hlv1_0 ?_
      refine fx_gI aj_d230 rfl (Nat.le_succ _) rfl rfl (Or.inl rfl) ?_
      refine fx_ld aj_d230 (Or.inl rfl) rfl (Nat.le_succ _) (fun g410 g411 => ?_)
      show fx_W _ _ _ 26 lv1 [.int (X2.1 124 ((X2.1 117 37)).toInt.toNat)] _ _
      refine fx_qa (c := 0 ≤ ((X2.1 117 37)).toInt ∧ ((X2.1 117 37)).toInt < ((2 : Nat) : Int)) ⟨g410, fx_lnk g411 hA40⟩ ?_
      refine fx_n (pc' := 28) (lv' := lv1) (st' := [.int ((Int8.ofInt 10).toInt32), .int (X2.1 124 ((X2.1 117 37)).toInt.toNat)]) aj_d230 rfl (Nat.le_succ _) (fun _ => rfl) ?_
      refine fx_b (tgt := 41) aj_d230 rfl (Nat.le_succ _) rfl (fun q42 => ?_) (fun q42 => ?_)
      · skip
        refine fx_qe (c := ((X2.1 124 ((X2.1 117 37)).toInt.toNat)).toInt = 10) (fx_t_ne q42) ?_
        show fx_W _ _ _ 41 lv1 [] _ _
        refine fx_i2 aj_d230 rfl (Nat.le_succ _) (fun _ => rfl) hlv1_0 ?_
        refine fx_cv aj_d230 rfl (Nat.le_succ _) rfl [] rfl rfl (gx_216_ok) ?_
        rintro _ X43 ⟨w44, rfl, hR43⟩ hok43 hle43
        refine fx_qc hR43 ?_
        show fx_W _ _ _ 45 lv1 [.int w44] _ _
        refine fx_b0 (tgt := 50) aj_d230 rfl (Nat.le_succ _) rfl (fun q45 => ?_) (fun q45 => ?_)
        · skip
          refine fx_qe (c := (w44).toInt = 0) (fx_t_ne q45) ?_
          show fx_W _ _ _ 50 lv1 [] _ _
          refine fx_i2 aj_d230 rfl (Nat.le_succ _) (fun _ => rfl) hlv1_0 ?_
          refine fx_i2 aj_d230 rfl (Nat.le_succ _) (fun _ => rfl) hlv1_0 ?_
          refine fx_gI aj_d230 rfl (Nat.le_succ _) rfl rfl (Or.inl rfl) ?_
          refine fx_i2 aj_d230 rfl (Nat.le_succ _) (fun _ => rfl) hlv1_0 ?_
          refine fx_gL aj_d230 rfl (Nat.le_succ _) rfl rfl rfl ?_
          refine fx_cv aj_d230 rfl (Nat.le_succ _) rfl [_, _] rfl rfl (gx_231_ok (X43.1 117 37) (X43.2.1 117 33)) ?_
          rintro _ X46 ⟨w47, rfl, hR46⟩ hok46 hle46
          refine fx_qc hR46 ?_
          show fx_W _ _ _ 62 lv1 [.int w47] _ _
          refine fx_b0 (tgt := 74) aj_d230 rfl (Nat.le_succ _) rfl (fun q48 => ?_) (fun q48 => ?_)
          · skip
            refine fx_qi (c := (w47).toInt < 0) (fx_t_lt q48) ?_
            show fx_W _ _ _ 74 lv1 [] _ _
            refine fx_i2 aj_d230 rfl (Nat.le_succ _) (fun _ => rfl) hlv1_0 ?_
            refine fx_gF aj_d230 rfl (Nat.le_succ _) rfl rfl fx_in_11_8 (t := 125) rfl (fun hA49 => ?_)
            refine fx_i2 aj_d230 rfl (Nat.le_succ _) (fun _ => rfl) hlv1_0 ?_
            refine fx_gI aj_d230 rfl (Nat.le_succ _) rfl rfl (Or.inl rfl) ?_
            refine fx_n (pc' := 84) (lv' := lv1) (st' := [.int ((Int8.ofInt 10).toInt32), .int (X46.1 117 37), .ref 125]) aj_d230 rfl (Nat.le_succ _) (fun _ => rfl) ?_
            refine fx_n (pc' := 85) (lv' := lv1) (st' := [.int ((X46.1 117 37) * ((Int8.ofInt 10).toInt32)), .ref 125]) aj_d230 rfl (Nat.le_succ _) (fun _ => rfl) ?_
            refine fx_i2 aj_d230 rfl (Nat.le_succ _) (fun _ => rfl) hlv1_0 ?_
            refine fx_gF aj_d230 rfl (Nat.le_succ _) rfl rfl fx_in_11_7 (t := 124) rfl (fun hA50 => ?_)
            refine fx_i2 aj_d230 rfl (Nat.le_succ _) (fun _ => rfl) hlv1_0 ?_
            refine fx_gI aj_d230 rfl (Nat.le_succ _) rfl rfl (Or.inl rfl) ?_
            refine fx_ld aj_d230 (Or.inl rfl) rfl (Nat.le_succ _) (fun g510 g511 => ?_)
            show fx_W _ _ _ 94 lv1 [.int (X46.1 124 ((X46.1 117 37)).toInt.toNat), .int ((X46.1 117 37) * ((Int8.ofInt 10).toInt32)), .ref 125] _ _
            refine fx_qa (c := 0 ≤ ((X46.1 117 37)).toInt ∧ ((X46.1 117 37)).toInt < ((2 : Nat) : Int)) ⟨g510, fx_lnk g511 hA50⟩ ?_
            refine fx_n (pc' := 95) (lv' := lv1) (st' := [.int (((X46.1 117 37) * ((Int8.ofInt 10).toInt32)) + (X46.1 124 ((X46.1 117 37)).toInt.toNat)), .ref 125]) aj_d230 rfl (Nat.le_succ _) (fun _ => rfl) ?_
            refine fx_i2 aj_d230 rfl (Nat.le_succ _) (fun _ => rfl) hlv1_0 ?_
            refine fx_gL aj_d230 rfl (Nat.le_succ _) rfl rfl rfl ?_
            refine fx_sL aj_d230 rfl (Nat.le_succ _) (fun g520 g521 => ?_)
            refine fx_qa (c := 0 ≤ ((((X46.1 117 37) * ((Int8.ofInt 10).toInt32)) + (X46.1 124 ((X46.1 117 37)).toInt.toNat))).toInt ∧ ((((X46.1 117 37) * ((Int8.ofInt 10).toInt32)) + (X46.1 124 ((X46.1 117 37)).toInt.toNat))).toInt < ((20 : Nat) : Int)) ⟨g520, fx_lnk g521 hA49⟩ ?_
            refine fx_qX (fun X53 eX53 => ?_)
            show fx_W _ _ _ 100 lv1 [] _ _
            refine fx_i2 aj_d230 rfl (Nat.le_succ _) (fun _ => rfl) hlv1_0 ?_
            refine fx_gF aj_d230 rfl (Nat.le_succ _) rfl rfl fx_in_11_9 (t := 126) rfl (fun hA54 => ?_)
            refine fx_i2 aj_d230 rfl (Nat.le_succ _) (fun _ => rfl) hlv1_0 ?_
            refine fx_gI aj_d230 rfl (Nat.le_succ _) rfl rfl (Or.inl rfl) ?_
            refine fx_n (pc' := 110) (lv' := lv1) (st' := [.int ((Int8.ofInt 10).toInt32), .int (X53.1 117 37), .ref 126]) aj_d230 rfl (Nat.le_succ _) (fun _ => rfl) ?_
            refine fx_n (pc' := 111) (lv' := lv1) (st' := [.int ((X53.1 117 37) * ((Int8.ofInt 10).toInt32)), .ref 126]) aj_d230 rfl (Nat.le_succ _) (fun _ => rfl) ?_
            refine fx_i2 aj_d230 rfl (Nat.le_succ _) (fun _ => rfl) hlv1_0 ?_
            refine fx_gF aj_d230 rfl (Nat.le_succ _) rfl rfl fx_in_11_7 (t := 124) rfl (fun hA55 => ?_)
            refine fx_i2 aj_d230 rfl (Nat.le_succ _) (fun _ => rfl) hlv1_0 ?_
            refine fx_gI aj_d230 rfl (Nat.le_succ _) rfl rfl (Or.inl rfl) ?_
            refine fx_ld aj_d230 (Or.inl rfl) rfl (Nat.le_succ _) (fun g560 g561 => ?_)
            show fx_W _ _ _ 120 lv1 [.int (X53.1 124 ((X53.1 117 37)).toInt.toNat), .int ((X53.1 117 37) * ((Int8.ofInt 10).toInt32)), .ref 126] _ _
            refine fx_qa (c := 0 ≤ ((X53.1 117 37)).toInt ∧ ((X53.1 117 37)).toInt < ((2 : Nat) : Int)) ⟨g560, fx_lnk g561 hA55⟩ ?_
            refine fx_n (pc' := 121) (lv' := lv1) (st' := [.int (((X53.1 117 37) * ((Int8.ofInt 10).toInt32)) + (X53.1 124 ((X53.1 117 37)).toInt.toNat)), .ref 126]) aj_d230 rfl (Nat.le_succ _) (fun _ => rfl) ?_
            refine fx_i0 aj_d230 rfl (Nat.le_succ _) (fun _ => rfl) hlv1_1 ?_
            refine fx_n (pc' := 123) (lv' := lv1) (st' := [.int (Int32.ofInt 1), .int p1, .int (((X53.1 117 37) * ((Int8.ofInt 10).toInt32)) + (X53.1 124 ((X53.1 117 37)).toInt.toNat)), .ref 126]) aj_d230 rfl (Nat.le_succ _) (fun _ => rfl) ?_
            refine fx_b (tgt := 130) aj_d230 rfl (Nat.le_succ _) rfl (fun q57 => ?_) (fun q57 => ?_)
            · skip
              refine fx_qe (c := (p1).toInt = 1) (fx_t_ne q57) ?_
              show fx_W _ _ _ 130 lv1 [.int (((X53.1 117 37) * ((Int8.ofInt 10).toInt32)) + (X53.1 124 ((X53.1 117 37)).toInt.toNat)), .ref 126] _ _
              refine fx_n (pc' := 131) (lv' := lv1) (st' := [.int (Int32.ofInt 0), .int (((X53.1 117 37) * ((Int8.ofInt 10).toInt32)) + (X53.1 124 ((X53.1 117 37)).toInt.toNat)), .ref 126]) aj_d230 rfl (Nat.le_succ _) (fun _ => rfl) ?_
              refine fx_sb (kd := 2) aj_d230 rfl (Nat.le_succ _) hA54 (fun g580 g581 => ?_)
              refine fx_qa (c := 0 ≤ ((((X53.1 117 37) * ((Int8.ofInt 10).toInt32)) + (X53.1 124 ((X53.1 117 37)).toInt.toNat))).toInt ∧ ((((X53.1 117 37) * ((Int8.ofInt 10).toInt32)) + (X53.1 124 ((X53.1 117 37)).toInt.toNat))).toInt < ((20 : Nat) : Int)) ⟨g580, fx_lnk g581 hA54⟩ ?_
              refine fx_qX (fun X59 eX59 => ?_)
              show fx_W _ _ _ 132 lv1 [] _ _
              refine fx_n (pc' := 133) (lv' := lv1) (st' := [.int (Int32.ofInt 1)]) aj_d230 rfl (Nat.le_succ _) (fun _ => rfl) ?_
              exact fx_ri aj_d230 rfl ⟨_, rfl, 0, rfl, rfl⟩
            · skip
              refine fx_qi (c := (p1).toInt = 1) (fx_f_ne q57) ?_
              show fx_W _ _ _ 126 lv1 [.int (((X53.1 117 37) * ((Int8.ofInt 10).toInt32)) + (X53.1 124 ((X53.1 117 37)).toInt.toNat)), .ref 126] _ _
              refine fx_n (pc' := 127) (lv' := lv1) (st' := [.int (Int32.ofInt 1), .int (((X53.1 117 37) * ((Int8.ofInt 10).toInt32)) + (X53.1 124 ((X53.1 117 37)).toInt.toNat)), .ref 126]) aj_d230 rfl (Nat.le_succ _) (fun _ => rfl) ?_
              refine fx_n (pc' := 131) (lv' := lv1) (st' := [.int (Int32.ofInt 1), .int (((X53.1 117 37) * ((Int8.ofInt 10).toInt32)) + (X53.1 124 ((X53.1 117 37)).toInt.toNat)), .ref 126]) aj_d230 rfl (Nat.le_succ _) (fun _ => rfl) ?_
              refine fx_sb (kd := 2) aj_d230 rfl (Nat.le_succ _) hA54 (fun g600 g601 => ?_)
              refine fx_qa (c := 0 ≤ ((((X53.1 117 37) * ((Int8.ofInt 10).toInt32)) + (X53.1 124 ((X53.1 117 37)).toInt.toNat))).toInt ∧ ((((X53.1 117 37) * ((Int8.ofInt 10).toInt32)) + (X53.1 124 ((X53.1 117 37)).toInt.toNat))).toInt < ((20 : Nat) : Int)) ⟨g600, fx_lnk g601 hA54⟩ ?_
              refine fx_qX (fun X61 eX61 => ?_)
              show fx_W _ _ _ 132 lv1 [] _ _
              refine fx_n (pc' := 133) (lv' := lv1) (st' := [.int (Int32.ofInt 1)]) aj_d230 rfl (Nat.le_succ _) (fun _ => rfl) ?_
              exact fx_ri aj_d230 rfl ⟨_, rfl, 0, rfl, rfl⟩
          · skip
            refine fx_qe (c := (w47).toInt < 0) (fx_f_lt q48) ?_
            show fx_W _ _ _ 65 lv1 [] _ _
            refine fx_i2 aj_d230 rfl (Nat.le_succ _) (fun _ => rfl) hlv1_0 ?_
            refine fx_n (pc' := 67) (lv' := lv1) (st' := [.int (Int32.ofInt 3), .ref 117]) aj_d230 rfl (Nat.le_succ _) (fun _ => rfl) ?_
            refine fx_i2 aj_d230 rfl (Nat.le_succ _) (fun _ => rfl) hlv1_0 ?_
            refine fx_gI aj_d230 rfl (Nat.le_succ _) rfl rfl (Or.inl rfl) ?_
            refine fx_cv aj_d230 rfl (Nat.le_succ _) rfl [_, _] rfl rfl (gx_218_ok (Int32.ofInt 3) (X46.1 117 34)) ?_
            rintro _ X62 ⟨w63, rfl, hR62⟩ hok62 hle62
            refine fx_qc hR62 ?_
            show fx_W _ _ _ 74 lv1 [] _ _
            refine fx_i2 aj_d230 rfl (Nat.le_succ _) (fun _ => rfl) hlv1_0 ?_
            refine fx_gF aj_d230 rfl (Nat.le_succ _) rfl rfl fx_in_11_8 (t := 125) rfl (fun hA64 => ?_)
            refine fx_i2 aj_d230 rfl (Nat.le_succ _) (fun _ => rfl) hlv1_0 ?_
            refine fx_gI aj_d230 rfl (Nat.le_succ _) rfl rfl (Or.inl rfl) ?_
            refine fx_n (pc' := 84) (lv' := lv1) (st' := [.int ((Int8.ofInt 10).toInt32), .int (X62.1 117 37), .ref 125]) aj_d230 rfl (Nat.le_succ _) (fun _ => rfl) ?_
            refine fx_n (pc' := 85) (lv' := lv1) (st' := [.int ((X62.1 117 37) * ((Int8.ofInt 10).toInt32)), .ref 125]) aj_d230 rfl (Nat.le_succ _) (fun _ => rfl) ?_
            refine fx_i2 aj_d230 rfl (Nat.le_succ _) (fun _ => rfl) hlv1_0 ?_
            refine fx_gF aj_d230 rfl (Nat.le_succ _) rfl rfl fx_in_11_7 (t := 124) rfl (fun hA65 => ?_)
            refine fx_i2 aj_d230 rfl (Nat.le_succ _) (fun _ => rfl) hlv1_0 ?_
            refine fx_gI aj_d230 rfl (Nat.le_succ _) rfl rfl (Or.inl rfl) ?_
            refine fx_ld aj_d230 (Or.inl rfl) rfl (Nat.le_succ _) (fun g660 g661 => ?_)
            show fx_W _ _ _ 94 lv1 [.int (X62.1 124 ((X62.1 117 37)).toInt.toNat), .int ((X62.1 117 37) * ((Int8.ofInt 10).toInt32)), .ref 125] _ _
            refine fx_qa (c := 0 ≤ ((X62.1 117 37)).toInt ∧ ((X62.1 117 37)).toInt < ((2 : Nat) : Int)) ⟨g660, fx_lnk g661 hA65⟩ ?_
            refine fx_n (pc' := 95) (lv' := lv1) (st' := [.int (((X62.1 117 37) * ((Int8.ofInt 10).toInt32)) + (X62.1 124 ((X62.1 117 37)).toInt.toNat)), .ref 125]) aj_d230 rfl (Nat.le_succ _) (fun _ => rfl) ?_
            refine fx_i2 aj_d230 rfl (Nat.le_succ _) (fun _ => rfl) hlv1_0 ?_
            refine fx_gL aj_d230 rfl (Nat.le_succ _) rfl rfl rfl ?_
            refine fx_sL aj_d230 rfl (Nat.le_succ _) (fun g670 g671 => ?_)
            refine fx_qa (c := 0 ≤ ((((X62.1 117 37) * ((Int8.ofInt 10).toInt32)) + (X62.1 124 ((X62.1 117 37)).toInt.toNat))).toInt ∧ ((((X62.1 117 37) * ((Int8.ofInt 10).toInt32)) + (X62.1 124 ((X62.1 117 37)).toInt.toNat))).toInt < ((20 : Nat) : Int)) ⟨g670, fx_lnk g671 hA64⟩ ?_
            refine fx_qX (fun X68 eX68 => ?_)
            show fx_W _ _ _ 100 lv1 [] _ _
            refine fx_i2 aj_d230 rfl (Nat.le_succ _) (fun _ => rfl) hlv1_0 ?_
            refine fx_gF aj_d230 rfl (Nat.le_succ _) rfl rfl fx_in_11_9 (t := 126) rfl (fun hA69 => ?_)
            refine fx_i2 aj_d230 rfl (Nat.le_succ _) (fun _ => rfl) hlv1_0 ?_
            refine fx_gI aj_d230 rfl (Nat.le_succ _) rfl rfl (Or.inl rfl) ?_
            refine fx_n (pc' := 110) (lv' := lv1) (st' := [.int ((Int8.ofInt 10).toInt32), .int (X68.1 117 37), .ref 126]) aj_d230 rfl (Nat.le_succ _) (fun _ => rfl) ?_
            refine fx_n (pc' := 111) (lv' := lv1) (st' := [.int ((X68.1 117 37) * ((Int8.ofInt 10).toInt32)), .ref 126]) aj_d230 rfl (Nat.le_succ _) (fun _ => rfl) ?_
            refine fx_i2 aj_d230 rfl (Nat.le_succ _) (fun _ => rfl) hlv1_0 ?_
            refine fx_gF aj_d230 rfl (Nat.le_succ _) rfl rfl fx_in_11_7 (t := 124) rfl (fun hA70 => ?_)
            refine fx_i2 aj_d230 rfl (Nat.le_succ _) (fun _ => rfl) hlv1_0 ?_
            refine fx_gI aj_d230 rfl (Nat.le_succ _) rfl rfl (Or.inl rfl) ?_
            refine fx_ld aj_d230 (Or.inl rfl) rfl (Nat.le_succ _) (fun g710 g711 => ?_)
            show fx_W _ _ _ 120 lv1 [.int (X68.1 124 ((X68.1 117 37)).toInt.toNat), .int ((X68.1 117 37) * ((Int8.ofInt 10).toInt32)), .ref 126] _ _
            refine fx_qa (c := 0 ≤ ((X68.1 117 37)).toInt ∧ ((X68.1 117 37)).toInt < ((2 : Nat) : Int)) ⟨g710, fx_lnk g711 hA70⟩ ?_
            refine fx_n (pc' := 121) (lv' := lv1) (st' := [.int (((X68.1 117 37) * ((Int8.ofInt 10).toInt32)) + (X68.1 124 ((X68.1 117 37)).toInt.toNat)), .ref 126]) aj_d230 rfl (Nat.le_succ _) (fun _ => rfl) ?_
            refine fx_i0 aj_d230 rfl (Nat.le_succ _) (fun _ => rfl) hlv1_1 ?_
            refine fx_n (pc' := 123) (lv' := lv1) (st' := [.int (Int32.ofInt 1), .int p1, .int (((X68.1 117 37) * ((Int8.ofInt 10).toInt32)) + (X68.1 124 ((X68.1 117 37)).toInt.toNat)), .ref 126]) aj_d230 rfl (Nat.le_succ _) (fun _ => rfl) ?_
            refine fx_b (tgt := 130) aj_d230 rfl (Nat.le_succ _) rfl (fun q72 => ?_) (fun q72 => ?_)
            · skip
              refine fx_qe (c := (p1).toInt = 1) (fx_t_ne q72) ?_
              show fx_W _ _ _ 130 lv1 [.int (((X68.1 117 37) * ((Int8.ofInt 10).toInt32)) + (X68.1 124 ((X68.1 117 37)).toInt.toNat)), .ref 126] _ _
              refine fx_n (pc' := 131) (lv' := lv1) (st' := [.int (Int32.ofInt 0), .int (((X68.1 117 37) * ((Int8.ofInt 10).toInt32)) + (X68.1 124 ((X68.1 117 37)).toInt.toNat)), .ref 126]) aj_d230 rfl (Nat.le_succ _) (fun _ => rfl) ?_
              refine fx_sb (kd := 2) aj_d230 rfl (Nat.le_succ _) hA69 (fun g730 g731 => ?_)
              refine fx_qa (c := 0 ≤ ((((X68.1 117 37) * ((Int8.ofInt 10).toInt32)) + (X68.1 124 ((X68.1 117 37)).toInt.toNat))).toInt ∧ ((((X68.1 117 37) * ((Int8.ofInt 10).toInt32)) + (X68.1 124 ((X68.1 117 37)).toInt.toNat))).toInt < ((20 : Nat) : Int)) ⟨g730, fx_lnk g731 hA69⟩ ?_
              refine fx_qX (fun X74 eX74 => ?_)
              show fx_W _ _ _ 132 lv1 [] _ _
              refine fx_n (pc' := 133) (lv' := lv1) (st' := [.int (Int32.ofInt 1)]) aj_d230 rfl (Nat.le_succ _) (fun _ => rfl) ?_
              exact fx_ri aj_d230 rfl ⟨_, rfl, 0, rfl, rfl⟩
            · skip
              refine fx_qi (c := (p1).toInt = 1) (fx_f_ne q72) ?_
              show fx_W _ _ _ 126 lv1 [.int (((X68.1 117 37) * ((Int8.ofInt 10).toInt32)) + (X68.1 124 ((X68.1 117 37)).toInt.toNat)), .ref 126] _ _
              refine fx_n (pc' := 127) (lv' := lv1) (st' := [.int (Int32.ofInt 1), .int (((X68.1 117 37) * ((Int8.ofInt 10).toInt32)) + (X68.1 124 ((X68.1 117 37)).toInt.toNat)), .ref 126]) aj_d230 rfl (Nat.le_succ _) (fun _ => rfl) ?_
              refine fx_n (pc' := 131) (lv' := lv1) (st' := [.int (Int32.ofInt 1), .int (((X68.1 117 37) * ((Int8.ofInt 10).toInt32)) + (X68.1 124 ((X68.1 117 37)).toInt.toNat)), .ref 126]) aj_d230 rfl (Nat.le_succ _) (fun _ => rfl) ?_
              refine fx_sb (kd := 2) aj_d230 rfl (Nat.le_succ _) hA69 (fun g750 g751 => ?_)
              refine fx_qa (c := 0 ≤ ((((X68.1 117 37) * ((Int8.ofInt 10).toInt32)) + (X68.1 124 ((X68.1 117 37)).toInt.toNat))).toInt ∧ ((((X68.1 117 37) * ((Int8.ofInt 10).toInt32)) + (X68.1 124 ((X68.1 117 37)).toInt.toNat))).toInt < ((20 : Nat) : Int)) ⟨g750, fx_lnk g751 hA69⟩ ?_
              refine fx_qX (fun X76 eX76 => ?_)
              show fx_W _ _ _ 132 lv1 [] _ _
              refine fx_n (pc' := 133) (lv' := lv1) (st' := [.int (Int32.ofInt 1)]) aj_d230 rfl (Nat.le_succ _) (fun _ => rfl) ?_
              exact fx_ri aj_d230 rfl ⟨_, rfl, 0, rfl, rfl⟩
        · skip
          refine fx_qi (c := (w44).toInt = 0) (fx_f_ne q45) ?_
          show fx_W _ _ _ 48 lv1 [] _ _
          refine fx_n (pc' := 49) (lv' := lv1) (st' := [.int (Int32.ofInt 0)]) aj_d230 rfl (Nat.le_succ _) (fun _ => rfl) ?_
          exact fx_ri aj_d230 rfl ⟨_, rfl, 0, rfl, rfl⟩
      · skip
        refine fx_qi (c := ((X2.1 124 ((X2.1 117 37)).toInt.toNat)).toInt = 10) (fx_f_ne q42) ?_
        show fx_W _ _ _ 31 lv1 [] _ _
        refine fx_i2 aj_d230 rfl (Nat.le_succ _) (fun _ => rfl) hlv1_0 ?_
        refine fx_n (pc' := 33) (lv' := lv1) (st' := [.int (Int32.ofInt 2), .ref 117]) aj_d230 rfl (Nat.le_succ _) (fun _ => rfl) ?_
        refine fx_i2 aj_d230 rfl (Nat.le_succ _) (fun _ => rfl) hlv1_0 ?_
        refine fx_gI aj_d230 rfl (Nat.le_succ _) rfl rfl (Or.inl rfl) ?_
        refine fx_cv aj_d230 rfl (Nat.le_succ _) rfl [_, _] rfl rfl (gx_215_ok (Int32.ofInt 2) (X2.1 117 27)) ?_
        rintro _ X77 ⟨w78, rfl, hR77⟩ hok77 hle77
        refine fx_qc hR77 ?_
        show fx_W _ _ _ 40 lv1 [.int w78] _ _
        exact fx_ri aj_d230 rfl ⟨_, rfl, 0, rfl, rfl⟩
  · skip
    refine fx_qi (c := (w3).toInt = 0) (fx_f_ne q4) ?_
    show fx_W _ _ _ 7 lv1 [] _ _
    refine fx_n (pc' := 8) (lv' := lv1) (st' := [.int (Int32.ofInt 0)]) aj_d230 rfl (Nat.le_succ _) (fun _ => rfl) ?_
    exact fx_ri aj_d230 rfl ⟨_, rfl, 0, rfl, rfl⟩
def gx_220 (p1 : Int32) (X : fx_X) (v : Int32) (X' : fx_X) : Prop :=
  (if ((X.1 117 26)).toInt = 3 then ((if ((X.1 117 29)).toInt = (p1).toInt then (v = (Int32.ofInt 1) ∧ X' = X) else (v = (Int32.ofInt 0) ∧ X' = X))) else (v = (Int32.ofInt 0) ∧ X' = X))
theorem gx_220_ok {tb : aj_T} (p1 : Int32) {X : fx_X} : fx_K tb 220 [.ref 117, .int p1] X (fx_Q fx_qI (fun v X' => gx_220 p1 X v X')) := by
  refine fx_m aj_m220_at rfl (fun N => ?_)
  refine fx_mono (Q := fx_Q fx_qI (fun v X' => ∃ n : Nat, gx_220 p1 X v X')) (fun r X' ⟨v, e, _, z⟩ => ⟨v, e, z⟩) ?_
  unfold gx_220
  show fx_W _ _ _ 0 [(0, .ref 117), (1, .int p1)] [] _ _
  obtain ⟨lv1, elv1⟩ : ∃ l : aj_V, l = [(0, .ref 117), (1, .int p1)] := ⟨_, rfl⟩
  rw [← elv1]
  have hlv1_0 : aj_lv lv1 0 = some (.ref 117) := by rw [elv1]; rfl
  have hlv1_1 : aj_lv lv1 1 = some (.int p1) := by rw [elv1]; rfl
  refine fx_i2 aj_d220 rfl (Nat.le_succ _) (fun _ => rfl) hlv1_0 ?_
  refine fx_gI aj_d220 rfl (Nat.le_succ _) rfl rfl (Or.inl rfl) ?_
  refine fx_n (pc' := 5) (lv' := lv1) (st' := [.int (Int32.ofInt 3), .int (X.1 117 26)]) aj_d220 rfl (Nat.le_succ _) (fun _ => rfl) ?_
  refine fx_b (tgt := 20) aj_d220 rfl (Nat.le_succ _) rfl (fun q2 => ?_) (fun q2 => ?_)
  · skip
    refine fx_qe (c := ((X.1 117 26)).toInt = 3) (fx_t_ne q2) ?_
    show fx_W _ _ _ 20 lv1 [] _ _
    refine fx_n (pc' := 21) (lv' := lv1) (st' := [.int (Int32.ofInt 0)]) aj_d220 rfl (Nat.le_succ _) (fun _ => rfl) ?_
    exact fx_ri aj_d220 rfl ⟨_, rfl, 0, rfl, rfl⟩
  · skip
    refine fx_qi (c := ((X.1 117 26)).toInt = 3) (fx_f_ne q2) ?_
    show fx_W _ _ _ 8 lv1 [] _ _
    refine fx_i2 aj_d220 rfl (Nat.le_succ _) (fun _ => rfl) hlv1_0 ?_
    refine fx_gI aj_d220 rfl (Nat.le_succ _) rfl rfl (Or.inl rfl) ?_
    refine fx_i0 aj_d220 rfl (Nat.le_succ _) (fun _ => rfl) hlv1_1 ?_
    refine fx_b (tgt := 20) aj_d220 rfl (Nat.le_succ _) rfl (fun q3 => ?_) (fun q3 => ?_)
    · skip
      refine fx_qe (c := ((X.1 117 29)).toInt = (p1).toInt) (fx_t_ne q3) ?_
      show fx_W _ _ _ 20 lv1 [] _ _
      refine fx_n (pc' := 21) (lv' := lv1) (st' := [.int (Int32.ofInt 0)]) aj_d220 rfl (Nat.le_succ _) (fun _ => rfl) ?_
      exact fx_ri aj_d220 rfl ⟨_, rfl, 0, rfl, rfl⟩
    · skip
      refine fx_qi (c := ((X.1 117 29)).toInt = (p1).toInt) (fx_f_ne q3) ?_
      show fx_W _ _ _ 16 lv1 [] _ _
      refine fx_n (pc' := 17) (lv' := lv1) (st' := [.int (Int32.ofInt 1)]) aj_d220 rfl (Nat.le_succ _) (fun _ => rfl) ?_
      refine fx_n (pc' := 21) (lv' := lv1) (st' := [.int (Int32.ofInt 1)]) aj_d220 rfl (Nat.le_succ _) (fun _ => rfl) ?_
      exact fx_ri aj_d220 rfl ⟨_, rfl, 0, rfl, rfl⟩
def gx_219 (p1 : Int32) (X : fx_X) (v : Int32) (X' : fx_X) : Prop :=
  ∃ (w3 : Int32) (X2 : fx_X), gx_220 p1 X w3 X2 ∧ (if (w3).toInt = 0 then (∃ (w6 : Int32) (X5 : fx_X), gx_215 (Int32.ofInt 1) (X2.1 117 27) X2 w6 X5 ∧ v = w6 ∧ X' = X5) else (∃ (w8 : Int32) (X7 : fx_X), gx_214 X2 w8 X7 ∧ v = w8 ∧ X' = X7))
theorem gx_219_ok {tb : aj_T} (p1 : Int32) {X : fx_X} : fx_K tb 219 [.ref 117, .int p1] X (fx_Q fx_qI (fun v X' => gx_219 p1 X v X')) := by
  refine fx_m aj_m219_at rfl (fun N => ?_)
  refine fx_mono (Q := fx_Q fx_qI (fun v X' => ∃ n : Nat, gx_219 p1 X v X')) (fun r X' ⟨v, e, _, z⟩ => ⟨v, e, z⟩) ?_
  unfold gx_219
  show fx_W _ _ _ 0 [(0, .ref 117), (1, .int p1)] [] _ _
  obtain ⟨lv1, elv1⟩ : ∃ l : aj_V, l = [(0, .ref 117), (1, .int p1)] := ⟨_, rfl⟩
  rw [← elv1]
  have hlv1_0 : aj_lv lv1 0 = some (.ref 117) := by rw [elv1]; rfl
  have hlv1_1 : aj_lv lv1 1 = some (.int p1) := by rw [elv1]; rfl
  refine fx_i2 aj_d219 rfl (Nat.le_succ _) (fun _ => rfl) hlv1_0 ?_
  refine fx_i0 aj_d219 rfl (Nat.le_succ _) (fun _ => rfl) hlv1_1 ?_
  refine fx_cv aj_d219 rfl (Nat.le_succ _) rfl [_] rfl rfl (gx_220_ok p1) ?_
  rintro _ X2 ⟨w3, rfl, hR2⟩ hok2 hle2
  refine fx_qc hR2 ?_
  show fx_W _ _ _ 5 lv1 [.int w3] _ _
  refine fx_b0 (tgt := 15) aj_d219 rfl (Nat.le_succ _) rfl (fun q4 => ?_) (fun q4 => ?_)
  · skip
    refine fx_qi (c := (w3).toInt = 0) (fx_t_eq q4) ?_
    show fx_W _ _ _ 15 lv1 [] _ _
    refine fx_i2 aj_d219 rfl (Nat.le_succ _) (fun _ => rfl) hlv1_0 ?_
    refine fx_n (pc' := 17) (lv' := lv1) (st' := [.int (Int32.ofInt 1), .ref 117]) aj_d219 rfl (Nat.le_succ _) (fun _ => rfl) ?_
    refine fx_i2 aj_d219 rfl (Nat.le_succ _) (fun _ => rfl) hlv1_0 ?_
    refine fx_gI aj_d219 rfl (Nat.le_succ _) rfl rfl (Or.inl rfl) ?_
    refine fx_cv aj_d219 rfl (Nat.le_succ _) rfl [_, _] rfl rfl (gx_215_ok (Int32.ofInt 1) (X2.1 117 27)) ?_
    rintro _ X5 ⟨w6, rfl, hR5⟩ hok5 hle5
    refine fx_qc hR5 ?_
    show fx_W _ _ _ 24 lv1 [.int w6] _ _
    exact fx_ri aj_d219 rfl ⟨_, rfl, 0, rfl, rfl⟩
  · skip
    refine fx_qe (c := (w3).toInt = 0) (fx_f_eq q4) ?_
    show fx_W _ _ _ 8 lv1 [] _ _
    refine fx_i2 aj_d219 rfl (Nat.le_succ _) (fun _ => rfl) hlv1_0 ?_
    refine fx_cv aj_d219 rfl (Nat.le_succ _) rfl [] rfl rfl (gx_214_ok) ?_
    rintro _ X7 ⟨w8, rfl, hR7⟩ hok7 hle7
    refine fx_qc hR7 ?_
    show fx_W _ _ _ 12 lv1 [.int w8] _ _
    refine fx_n (pc' := 24) (lv' := lv1) (st' := [.int w8]) aj_d219 rfl (Nat.le_succ _) (fun _ => rfl) ?_
    exact fx_ri aj_d219 rfl ⟨_, rfl, 0, rfl, rfl⟩
def gxT_277_19 (p1 : Int32) (p2 : Int32) (P : Nat → List Int32 → List Int64 → List Nat → fx_X → Int32 → fx_X → Prop) (y3 : Int32) (X : fx_X) (v : Int32) (X' : fx_X) : Prop :=
  (0 ≤ (p1).toInt ∧ (p1).toInt < ((50 : Nat) : Int)) ∧ (if (y3).toInt < ((X.1 132 (p1).toInt.toNat)).toInt then ((0 ≤ (((p1 * ((Int8.ofInt 8).toInt32)) + y3)).toInt ∧ (((p1 * ((Int8.ofInt 8).toInt32)) + y3)).toInt < ((400 : Nat) : Int)) ∧ (0 ≤ (((p2 * ((Int8.ofInt 8).toInt32)) + y3)).toInt ∧ (((p2 * ((Int8.ofInt 8).toInt32)) + y3)).toInt < ((400 : Nat) : Int)) ∧ (if (X.2.1 133 (((p1 * ((Int8.ofInt 8).toInt32)) + y3)).toInt.toNat) = (X.2.1 133 (((p2 * ((Int8.ofInt 8).toInt32)) + y3)).toInt.toNat) then (∃ x16 : Int32, x16 = y3 + Int32.ofInt 1 ∧ P 19 [x16] [] [] X v X') else (v = (Int32.ofInt 0) ∧ X' = X))) else (v = (Int32.ofInt 1) ∧ X' = X))
def gxE_277 (p1 : Int32) (p2 : Int32) (P : Nat → List Int32 → List Int64 → List Nat → fx_X → Int32 → fx_X → Prop) (X : fx_X) (v : Int32) (X' : fx_X) : Prop :=
  (0 ≤ (p1).toInt ∧ (p1).toInt < ((50 : Nat) : Int)) ∧ (0 ≤ (p2).toInt ∧ (p2).toInt < ((50 : Nat) : Int)) ∧ (if ((X.1 132 (p1).toInt.toNat)).toInt = ((X.1 132 (p2).toInt.toNat)).toInt then (P 19 [(Int32.ofInt 0)] [] [] X v X') else (v = (Int32.ofInt 0) ∧ X' = X))
noncomputable def gxF_277 (p1 : Int32) (p2 : Int32) (n : Nat) : Nat → List Int32 → List Int64 → List Nat → fx_X → Int32 → fx_X → Prop := Nat.rec (motive := fun _ => Nat → List Int32 → List Int64 → List Nat → fx_X → Int32 → fx_X → Prop) (fun _ _ _ _ _ _ _ => False) (fun _ P l is ls rs X v X' => (l = 19 ∧ ∃ (y3 : Int32), is = [y3] ∧ ls = [] ∧ rs = [] ∧ gxT_277_19 p1 p2 P y3 X v X')) n
theorem gxI_277_19 {p1 : Int32} {p2 : Int32} {n : Nat} {y3 : Int32} {X : fx_X} {v : Int32} {X' : fx_X} (h : gxT_277_19 p1 p2 (gxF_277 p1 p2 n) y3 X v X') : gxF_277 p1 p2 (n + 1) 19 [y3] [] [] X v X' := ⟨rfl, y3, rfl, rfl, rfl, h⟩
theorem gxO_277_19 {p1 : Int32} {p2 : Int32} {n : Nat} {y3 : Int32} {X : fx_X} {v : Int32} {X' : fx_X} (h : gxF_277 p1 p2 (n + 1) 19 [y3] [] [] X v X') : gxT_277_19 p1 p2 (gxF_277 p1 p2 n) y3 X v X' := by
  rcases h with ⟨-, _, e1, e2, e3, h⟩
  · cases e1; cases e2; cases e3; exact h
def gx_277 (p1 : Int32) (p2 : Int32) (X : fx_X) (v : Int32) (X' : fx_X) : Prop := ∃ n : Nat, gxE_277 p1 p2 (gxF_277 p1 p2 n) X v X'
theorem gxL_277 {tb : aj_T} (p1 : Int32) (p2 : Int32) : ∀ N : Nat, (∀ (lv : aj_V) (y3 : Int32) (X : fx_X), aj_lv lv 0 = some (.ref 117) → aj_lv lv 1 = some (.int p1) → aj_lv lv 2 = some (.int p2) → aj_lv lv 3 = some (.int y3) → fx_W tb aj_m277 N 19 lv [] X (fx_Q fx_qI (fun v X' => ∃ n : Nat, gxF_277 p1 p2 n 19 [y3] [] [] X v X'))) := by
  intro N
  induction N with
  | zero => exact (by intros; exact fx_z)
  | succ N ih =>
    skip
    · intro lv y3 X hlv_0 hlv_1 hlv_2 hlv_3
      refine fx_mono (Q := fx_Q fx_qI (fun v X' => ∃ n : Nat, gxT_277_19 p1 p2 (gxF_277 p1 p2 n) y3 X v X')) (fun r X' ⟨v, e, n, z⟩ => ⟨v, e, n + 1, gxI_277_19 z⟩) ?_
      unfold gxT_277_19
      refine fx_i0 aj_d277 rfl (Nat.le_refl _) (fun _ => rfl) hlv_3 ?_
      refine fx_i2 aj_d277 rfl (Nat.le_succ _) (fun _ => rfl) hlv_0 ?_
      refine fx_gF aj_d277 rfl (Nat.le_succ _) rfl rfl fx_in_11_16 (t := 132) rfl (fun hA8 => ?_)
      refine fx_i0 aj_d277 rfl (Nat.le_succ _) (fun _ => rfl) hlv_1 ?_
      refine fx_ld aj_d277 (Or.inl rfl) rfl (Nat.le_succ _) (fun g90 g91 => ?_)
      show fx_W _ _ _ 26 lv [.int (X.1 132 (p1).toInt.toNat), .int y3] _ _
      refine fx_qa (c := 0 ≤ (p1).toInt ∧ (p1).toInt < ((50 : Nat) : Int)) ⟨g90, fx_lnk g91 hA8⟩ ?_
      refine fx_b (tgt := 63) aj_d277 rfl (Nat.le_succ _) rfl (fun q10 => ?_) (fun q10 => ?_)
      · skip
        refine fx_qe (c := (y3).toInt < ((X.1 132 (p1).toInt.toNat)).toInt) (fx_t_ge q10) ?_
        show fx_W _ _ _ 63 lv [] _ _
        refine fx_n (pc' := 64) (lv' := lv) (st' := [.int (Int32.ofInt 1)]) aj_d277 rfl (Nat.le_succ _) (fun _ => rfl) ?_
        exact fx_ri aj_d277 rfl ⟨_, rfl, 0, rfl, rfl⟩
      · skip
        refine fx_qi (c := (y3).toInt < ((X.1 132 (p1).toInt.toNat)).toInt) (fx_f_ge q10) ?_
        show fx_W _ _ _ 29 lv [] _ _
        refine fx_i2 aj_d277 rfl (Nat.le_succ _) (fun _ => rfl) hlv_0 ?_
        refine fx_gF aj_d277 rfl (Nat.le_succ _) rfl rfl fx_in_11_17 (t := 133) rfl (fun hA11 => ?_)
        refine fx_i0 aj_d277 rfl (Nat.le_succ _) (fun _ => rfl) hlv_1 ?_
        refine fx_n (pc' := 36) (lv' := lv) (st' := [.int ((Int8.ofInt 8).toInt32), .int p1, .ref 133]) aj_d277 rfl (Nat.le_succ _) (fun _ => rfl) ?_
        refine fx_n (pc' := 37) (lv' := lv) (st' := [.int (p1 * ((Int8.ofInt 8).toInt32)), .ref 133]) aj_d277 rfl (Nat.le_succ _) (fun _ => rfl) ?_
        refine fx_i0 aj_d277 rfl (Nat.le_succ _) (fun _ => rfl) hlv_3 ?_
        refine fx_n (pc' := 39) (lv' := lv) (st' := [.int ((p1 * ((Int8.ofInt 8).toInt32)) + y3), .ref 133]) aj_d277 rfl (Nat.le_succ _) (fun _ => rfl) ?_
        refine fx_ldL aj_d277 rfl (Nat.le_succ _) (fun g120 g121 => ?_)
        show fx_W _ _ _ 40 lv [.long (X.2.1 133 (((p1 * ((Int8.ofInt 8).toInt32)) + y3)).toInt.toNat)] _ _
        refine fx_qa (c := 0 ≤ (((p1 * ((Int8.ofInt 8).toInt32)) + y3)).toInt ∧ (((p1 * ((Int8.ofInt 8).toInt32)) + y3)).toInt < ((400 : Nat) : Int)) ⟨g120, fx_lnk g121 hA11⟩ ?_
        refine fx_i2 aj_d277 rfl (Nat.le_succ _) (fun _ => rfl) hlv_0 ?_
        refine fx_gF aj_d277 rfl (Nat.le_succ _) rfl rfl fx_in_11_17 (t := 133) rfl (fun hA13 => ?_)
        refine fx_i0 aj_d277 rfl (Nat.le_succ _) (fun _ => rfl) hlv_2 ?_
        refine fx_n (pc' := 47) (lv' := lv) (st' := [.int ((Int8.ofInt 8).toInt32), .int p2, .ref 133, .long (X.2.1 133 (((p1 * ((Int8.ofInt 8).toInt32)) + y3)).toInt.toNat)]) aj_d277 rfl (Nat.le_succ _) (fun _ => rfl) ?_
        refine fx_n (pc' := 48) (lv' := lv) (st' := [.int (p2 * ((Int8.ofInt 8).toInt32)), .ref 133, .long (X.2.1 133 (((p1 * ((Int8.ofInt 8).toInt32)) + y3)).toInt.toNat)]) aj_d277 rfl (Nat.le_succ _) (fun _ => rfl) ?_
        refine fx_i0 aj_d277 rfl (Nat.le_succ _) (fun _ => rfl) hlv_3 ?_
        refine fx_n (pc' := 50) (lv' := lv) (st' := [.int ((p2 * ((Int8.ofInt 8).toInt32)) + y3), .ref 133, .long (X.2.1 133 (((p1 * ((Int8.ofInt 8).toInt32)) + y3)).toInt.toNat)]) aj_d277 rfl (Nat.le_succ _) (fun _ => rfl) ?_
        refine fx_ldL aj_d277 rfl (Nat.le_succ _) (fun g140 g141 => ?_)
        show fx_W _ _ _ 51 lv [.long (X.2.1 133 (((p2 * ((Int8.ofInt 8).toInt32)) + y3)).toInt.toNat), .long (X.2.1 133 (((p1 * ((Int8.ofInt 8).toInt32)) + y3)).toInt.toNat)] _ _
        refine fx_qa (c := 0 ≤ (((p2 * ((Int8.ofInt 8).toInt32)) + y3)).toInt ∧ (((p2 * ((Int8.ofInt 8).toInt32)) + y3)).toInt < ((400 : Nat) : Int)) ⟨g140, fx_lnk g141 hA13⟩ ?_
        refine fx_n (pc' := 52) (lv' := lv) (st' := [.int (lg_cmp (X.2.1 133 (((p1 * ((Int8.ofInt 8).toInt32)) + y3)).toInt.toNat) (X.2.1 133 (((p2 * ((Int8.ofInt 8).toInt32)) + y3)).toInt.toNat))]) aj_d277 rfl (Nat.le_succ _) (fun _ => rfl) ?_
        refine fx_b0 (tgt := 57) aj_d277 rfl (Nat.le_succ _) rfl (fun q15 => ?_) (fun q15 => ?_)
        · skip
          refine fx_qi (c := (X.2.1 133 (((p1 * ((Int8.ofInt 8).toInt32)) + y3)).toInt.toNat) = (X.2.1 133 (((p2 * ((Int8.ofInt 8).toInt32)) + y3)).toInt.toNat)) (fx_lc.mp (fx_t_eq q15)) ?_
          show fx_W _ _ _ 57 lv [] _ _
          refine fx_incq aj_d277 rfl (Nat.le_succ _) hlv_3 (by decide) (fun x16 ex16 => ?_)
          obtain ⟨lv17, elv17⟩ : ∃ l, l = aj_set1 lv 3 (.int x16) := ⟨_, rfl⟩
          rw [← elv17]
          have hlv17_0 : aj_lv lv17 0 = some (.ref 117) := fx_e1 elv17 hlv_0 (by decide) (Or.inl (by decide))
          have hlv17_1 : aj_lv lv17 1 = some (.int p1) := fx_e1 elv17 hlv_1 (by decide) (Or.inl (by decide))
          have hlv17_2 : aj_lv lv17 2 = some (.int p2) := fx_e1 elv17 hlv_2 (by decide) (Or.inr rfl)
          have hlv17_3 : aj_lv lv17 3 = some (.int x16) := by rw [elv17]; exact ak_set1_eq _ _ _
          show fx_W _ _ _ 60 lv17 [] _ _
          refine fx_n (pc' := 19) (lv' := lv17) (st' := []) aj_d277 rfl (Nat.le_succ _) (fun _ => rfl) ?_
          exact (ih) lv17 (x16) X  hlv17_0 hlv17_1 hlv17_2 hlv17_3
        · skip
          refine fx_qe (c := (X.2.1 133 (((p1 * ((Int8.ofInt 8).toInt32)) + y3)).toInt.toNat) = (X.2.1 133 (((p2 * ((Int8.ofInt 8).toInt32)) + y3)).toInt.toNat)) (fun z => (fx_f_eq q15) (fx_lc.mpr z)) ?_
          show fx_W _ _ _ 55 lv [] _ _
          refine fx_n (pc' := 56) (lv' := lv) (st' := [.int (Int32.ofInt 0)]) aj_d277 rfl (Nat.le_succ _) (fun _ => rfl) ?_
          exact fx_ri aj_d277 rfl ⟨_, rfl, 0, rfl, rfl⟩
theorem gx_277_ok {tb : aj_T} (p1 : Int32) (p2 : Int32) {X : fx_X} : fx_K tb 277 [.ref 117, .int p1, .int p2] X (fx_Q fx_qI (fun v X' => gx_277 p1 p2 X v X')) := by
  refine fx_m aj_m277_at rfl (fun N => ?_)
  refine fx_mono (Q := fx_Q fx_qI (fun v X' => ∃ n : Nat, gxE_277 p1 p2 (gxF_277 p1 p2 n) X v X')) (fun r X' h => h) ?_
  unfold gxE_277
  show fx_W _ _ _ 0 [(0, .ref 117), (1, .int p1), (2, .int p2)] [] _ _
  obtain ⟨lv1, elv1⟩ : ∃ l : aj_V, l = [(0, .ref 117), (1, .int p1), (2, .int p2)] := ⟨_, rfl⟩
  rw [← elv1]
  have hlv1_0 : aj_lv lv1 0 = some (.ref 117) := by rw [elv1]; rfl
  have hlv1_1 : aj_lv lv1 1 = some (.int p1) := by rw [elv1]; rfl
  have hlv1_2 : aj_lv lv1 2 = some (.int p2) := by rw [elv1]; rfl
  refine fx_i2 aj_d277 rfl (Nat.le_succ _) (fun _ => rfl) hlv1_0 ?_
  refine fx_gF aj_d277 rfl (Nat.le_succ _) rfl rfl fx_in_11_16 (t := 132) rfl (fun hA2 => ?_)
  refine fx_i0 aj_d277 rfl (Nat.le_succ _) (fun _ => rfl) hlv1_1 ?_
  refine fx_ld aj_d277 (Or.inl rfl) rfl (Nat.le_succ _) (fun g30 g31 => ?_)
  show fx_W _ _ _ 6 lv1 [.int (X.1 132 (p1).toInt.toNat)] _ _
  refine fx_qa (c := 0 ≤ (p1).toInt ∧ (p1).toInt < ((50 : Nat) : Int)) ⟨g30, fx_lnk g31 hA2⟩ ?_
  refine fx_i2 aj_d277 rfl (Nat.le_succ _) (fun _ => rfl) hlv1_0 ?_
  refine fx_gF aj_d277 rfl (Nat.le_succ _) rfl rfl fx_in_11_16 (t := 132) rfl (fun hA4 => ?_)
  refine fx_i0 aj_d277 rfl (Nat.le_succ _) (fun _ => rfl) hlv1_2 ?_
  refine fx_ld aj_d277 (Or.inl rfl) rfl (Nat.le_succ _) (fun g50 g51 => ?_)
  show fx_W _ _ _ 12 lv1 [.int (X.1 132 (p2).toInt.toNat), .int (X.1 132 (p1).toInt.toNat)] _ _
  refine fx_qa (c := 0 ≤ (p2).toInt ∧ (p2).toInt < ((50 : Nat) : Int)) ⟨g50, fx_lnk g51 hA4⟩ ?_
  refine fx_b (tgt := 17) aj_d277 rfl (Nat.le_succ _) rfl (fun q6 => ?_) (fun q6 => ?_)
  · skip
    refine fx_qi (c := ((X.1 132 (p1).toInt.toNat)).toInt = ((X.1 132 (p2).toInt.toNat)).toInt) (fx_t_eq q6) ?_
    show fx_W _ _ _ 17 lv1 [] _ _
    refine fx_n (pc' := 18) (lv' := lv1) (st' := [.int (Int32.ofInt 0)]) aj_d277 rfl (Nat.le_succ _) (fun _ => rfl) ?_
    refine fx_s0 (j := 3) aj_d277 rfl (Nat.le_succ _) (by decide) (fun _ => rfl) ?_
    obtain ⟨lv7, elv7⟩ : ∃ l, l = aj_set1 lv1 3 (.int (Int32.ofInt 0)) := ⟨_, rfl⟩
    rw [← elv7]
    have hlv7_0 : aj_lv lv7 0 = some (.ref 117) := fx_e1 elv7 hlv1_0 (by decide) (Or.inl (by decide))
    have hlv7_1 : aj_lv lv7 1 = some (.int p1) := fx_e1 elv7 hlv1_1 (by decide) (Or.inl (by decide))
    have hlv7_2 : aj_lv lv7 2 = some (.int p2) := fx_e1 elv7 hlv1_2 (by decide) (Or.inr rfl)
    have hlv7_3 : aj_lv lv7 3 = some (.int (Int32.ofInt 0)) := by rw [elv7]; exact ak_set1_eq _ _ _
    show fx_W _ _ _ 19 lv7 [] _ _
    exact ((gxL_277 p1 p2 N)) lv7 ((Int32.ofInt 0)) X  hlv7_0 hlv7_1 hlv7_2 hlv7_3
  · skip
    refine fx_qe (c := ((X.1 132 (p1).toInt.toNat)).toInt = ((X.1 132 (p2).toInt.toNat)).toInt) (fx_f_eq q6) ?_
    show fx_W _ _ _ 15 lv1 [] _ _
    refine fx_n (pc' := 16) (lv' := lv1) (st' := [.int (Int32.ofInt 0)]) aj_d277 rfl (Nat.le_succ _) (fun _ => rfl) ?_
    exact fx_ri aj_d277 rfl ⟨_, rfl, 0, rfl, rfl⟩
def gx_236 (p0 : Int32) (p1 : Int32) (p2 : Int32) (X : fx_X) (v : Int32) (X' : fx_X) : Prop :=
  v = ((((p0 * ((Int8.ofInt 30).toInt32)) + p1) * ((Int8.ofInt 8).toInt32)) + p2) ∧ X' = X
theorem gx_236_ok {tb : aj_T} (p0 : Int32) (p1 : Int32) (p2 : Int32) {X : fx_X} : fx_K tb 236 [.int p0, .int p1, .int p2] X (fx_Q fx_qI (fun v X' => gx_236 p0 p1 p2 X v X')) := by
  refine fx_m aj_m236_at rfl (fun N => ?_)
  refine fx_mono (Q := fx_Q fx_qI (fun v X' => ∃ n : Nat, gx_236 p0 p1 p2 X v X')) (fun r X' ⟨v, e, _, z⟩ => ⟨v, e, z⟩) ?_
  unfold gx_236
  show fx_W _ _ _ 0 [(0, .int p0), (1, .int p1), (2, .int p2)] [] _ _
  obtain ⟨lv1, elv1⟩ : ∃ l : aj_V, l = [(0, .int p0), (1, .int p1), (2, .int p2)] := ⟨_, rfl⟩
  rw [← elv1]
  have hlv1_0 : aj_lv lv1 0 = some (.int p0) := by rw [elv1]; rfl
  have hlv1_1 : aj_lv lv1 1 = some (.int p1) := by rw [elv1]; rfl
  have hlv1_2 : aj_lv lv1 2 = some (.int p2) := by rw [elv1]; rfl
  refine fx_i0 aj_d236 rfl (Nat.le_succ _) (fun _ => rfl) hlv1_0 ?_
  refine fx_n (pc' := 3) (lv' := lv1) (st' := [.int ((Int8.ofInt 30).toInt32), .int p0]) aj_d236 rfl (Nat.le_succ _) (fun _ => rfl) ?_
  refine fx_n (pc' := 4) (lv' := lv1) (st' := [.int (p0 * ((Int8.ofInt 30).toInt32))]) aj_d236 rfl (Nat.le_succ _) (fun _ => rfl) ?_
  refine fx_i0 aj_d236 rfl (Nat.le_succ _) (fun _ => rfl) hlv1_1 ?_
  refine fx_n (pc' := 6) (lv' := lv1) (st' := [.int ((p0 * ((Int8.ofInt 30).toInt32)) + p1)]) aj_d236 rfl (Nat.le_succ _) (fun _ => rfl) ?_
  refine fx_n (pc' := 8) (lv' := lv1) (st' := [.int ((Int8.ofInt 8).toInt32), .int ((p0 * ((Int8.ofInt 30).toInt32)) + p1)]) aj_d236 rfl (Nat.le_succ _) (fun _ => rfl) ?_
  refine fx_n (pc' := 9) (lv' := lv1) (st' := [.int (((p0 * ((Int8.ofInt 30).toInt32)) + p1) * ((Int8.ofInt 8).toInt32))]) aj_d236 rfl (Nat.le_succ _) (fun _ => rfl) ?_
  refine fx_i0 aj_d236 rfl (Nat.le_succ _) (fun _ => rfl) hlv1_2 ?_
  refine fx_n (pc' := 11) (lv' := lv1) (st' := [.int ((((p0 * ((Int8.ofInt 30).toInt32)) + p1) * ((Int8.ofInt 8).toInt32)) + p2)]) aj_d236 rfl (Nat.le_succ _) (fun _ => rfl) ?_
  exact fx_ri aj_d236 rfl ⟨_, rfl, 0, rfl, rfl⟩
def gx_225 (p1 : Int32) (p2 : Int32) (X : fx_X) (v : Int32) (X' : fx_X) : Prop :=
  v = (((p1 * ((Int8.ofInt 30).toInt32)) + p2) * ((Int8.ofInt 32).toInt32)) ∧ X' = X
theorem gx_225_ok {tb : aj_T} (p1 : Int32) (p2 : Int32) {X : fx_X} : fx_K tb 225 [.ref 117, .int p1, .int p2] X (fx_Q fx_qI (fun v X' => gx_225 p1 p2 X v X')) := by
  refine fx_m aj_m225_at rfl (fun N => ?_)
  refine fx_mono (Q := fx_Q fx_qI (fun v X' => ∃ n : Nat, gx_225 p1 p2 X v X')) (fun r X' ⟨v, e, _, z⟩ => ⟨v, e, z⟩) ?_
  unfold gx_225
  show fx_W _ _ _ 0 [(0, .ref 117), (1, .int p1), (2, .int p2)] [] _ _
  obtain ⟨lv1, elv1⟩ : ∃ l : aj_V, l = [(0, .ref 117), (1, .int p1), (2, .int p2)] := ⟨_, rfl⟩
  rw [← elv1]
  have hlv1_1 : aj_lv lv1 1 = some (.int p1) := by rw [elv1]; rfl
  have hlv1_2 : aj_lv lv1 2 = some (.int p2) := by rw [elv1]; rfl
  refine fx_i0 aj_d225 rfl (Nat.le_succ _) (fun _ => rfl) hlv1_1 ?_
  refine fx_n (pc' := 3) (lv' := lv1) (st' := [.int ((Int8.ofInt 30).toInt32), .int p1]) aj_d225 rfl (Nat.le_succ _) (fun _ => rfl) ?_
  refine fx_n (pc' := 4) (lv' := lv1) (st' := [.int (p1 * ((Int8.ofInt 30).toInt32))]) aj_d225 rfl (Nat.le_succ _) (fun _ => rfl) ?_
  refine fx_i0 aj_d225 rfl (Nat.le_succ _) (fun _ => rfl) hlv1_2 ?_
  refine fx_n (pc' := 6) (lv' := lv1) (st' := [.int ((p1 * ((Int8.ofInt 30).toInt32)) + p2)]) aj_d225 rfl (Nat.le_succ _) (fun _ => rfl) ?_
  refine fx_n (pc' := 8) (lv' := lv1) (st' := [.int ((Int8.ofInt 32).toInt32), .int ((p1 * ((Int8.ofInt 30).toInt32)) + p2)]) aj_d225 rfl (Nat.le_succ _) (fun _ => rfl) ?_
  refine fx_n (pc' := 9) (lv' := lv1) (st' := [.int (((p1 * ((Int8.ofInt 30).toInt32)) + p2) * ((Int8.ofInt 32).toInt32))]) aj_d225 rfl (Nat.le_succ _) (fun _ => rfl) ?_
  exact fx_ri aj_d225 rfl ⟨_, rfl, 0, rfl, rfl⟩
def gxT_252_3 (p1 : Int32) (p2 : Int32) (p3 : Int32) (p4 : Int32) (P : Nat → List Int32 → List Int64 → List Nat → fx_X → Unit → fx_X → Prop) (y5 : Int32) (X : fx_X) (v : Unit) (X' : fx_X) : Prop :=
  (if (y5).toInt < 8 then (∃ (w7 : Int32) (X6 : fx_X), gx_236 p3 p4 y5 X w7 X6 ∧ ∃ (w10 : Int32) (X9 : fx_X), gx_236 p1 p2 y5 X6 w10 X9 ∧ (0 ≤ (w10).toInt ∧ (w10).toInt < ((12000 : Nat) : Int)) ∧ (0 ≤ (w7).toInt ∧ (w7).toInt < ((12000 : Nat) : Int)) ∧ ∃ X13 : fx_X, X13 = (fx_wI X9 134 (w7).toInt.toNat (aj_nar 4 (X9.1 134 (w10).toInt.toNat))) ∧ ∃ (w16 : Int32) (X15 : fx_X), gx_236 p3 p4 y5 X13 w16 X15 ∧ ∃ (w19 : Int32) (X18 : fx_X), gx_236 p1 p2 y5 X15 w19 X18 ∧ (0 ≤ (w19).toInt ∧ (w19).toInt < ((12000 : Nat) : Int)) ∧ (0 ≤ (w16).toInt ∧ (w16).toInt < ((12000 : Nat) : Int)) ∧ ∃ X22 : fx_X, X22 = (fx_wI X18 135 (w16).toInt.toNat (X18.1 135 (w19).toInt.toNat)) ∧ ∃ x23 : Int32, x23 = y5 + Int32.ofInt 1 ∧ P 3 [x23] [] [] X22 v X') else (P 69 [(Int32.ofInt 0)] [] [] X v X'))
def gxT_252_69 (p1 : Int32) (p2 : Int32) (p3 : Int32) (p4 : Int32) (P : Nat → List Int32 → List Int64 → List Nat → fx_X → Unit → fx_X → Prop) (y5 : Int32) (X : fx_X) (v : Unit) (X' : fx_X) : Prop :=
  (if (y5).toInt < 32 then (∃ (w28 : Int32) (X27 : fx_X), gx_225 p3 p4 X w28 X27 ∧ ∃ (w31 : Int32) (X30 : fx_X), gx_225 p1 p2 X27 w31 X30 ∧ (0 ≤ ((w31 + y5)).toInt ∧ ((w31 + y5)).toInt < ((48000 : Nat) : Int)) ∧ (0 ≤ ((w28 + y5)).toInt ∧ ((w28 + y5)).toInt < ((48000 : Nat) : Int)) ∧ ∃ X34 : fx_X, X34 = (fx_wI X30 136 ((w28 + y5)).toInt.toNat (X30.1 136 ((w31 + y5)).toInt.toNat)) ∧ ∃ x35 : Int32, x35 = y5 + Int32.ofInt 1 ∧ P 69 [x35] [] [] X34 v X') else (X' = X))
def gxE_252 (p1 : Int32) (p2 : Int32) (p3 : Int32) (p4 : Int32) (P : Nat → List Int32 → List Int64 → List Nat → fx_X → Unit → fx_X → Prop) (X : fx_X) (v : Unit) (X' : fx_X) : Prop :=
  P 3 [(Int32.ofInt 0)] [] [] X v X'
noncomputable def gxF_252 (p1 : Int32) (p2 : Int32) (p3 : Int32) (p4 : Int32) (n : Nat) : Nat → List Int32 → List Int64 → List Nat → fx_X → Unit → fx_X → Prop := Nat.rec (motive := fun _ => Nat → List Int32 → List Int64 → List Nat → fx_X → Unit → fx_X → Prop) (fun _ _ _ _ _ _ _ => False) (fun _ P l is ls rs X v X' => (l = 3 ∧ ∃ (y5 : Int32), is = [y5] ∧ ls = [] ∧ rs = [] ∧ gxT_252_3 p1 p2 p3 p4 P y5 X v X') ∨ (l = 69 ∧ ∃ (y5 : Int32), is = [y5] ∧ ls = [] ∧ rs = [] ∧ gxT_252_69 p1 p2 p3 p4 P y5 X v X')) n
theorem gxI_252_3 {p1 : Int32} {p2 : Int32} {p3 : Int32} {p4 : Int32} {n : Nat} {y5 : Int32} {X : fx_X} {v : Unit} {X' : fx_X} (h : gxT_252_3 p1 p2 p3 p4 (gxF_252 p1 p2 p3 p4 n) y5 X v X') : gxF_252 p1 p2 p3 p4 (n + 1) 3 [y5] [] [] X v X' := Or.inl ⟨rfl, y5, rfl, rfl, rfl, h⟩
theorem gxO_252_3 {p1 : Int32} {p2 : Int32} {p3 : Int32} {p4 : Int32} {n : Nat} {y5 : Int32} {X : fx_X} {v : Unit} {X' : fx_X} (h : gxF_252 p1 p2 p3 p4 (n + 1) 3 [y5] [] [] X v X') : gxT_252_3 p1 p2 p3 p4 (gxF_252 p1 p2 p3 p4 n) y5 X v X' := by
  rcases h with ⟨-, _, e1, e2, e3, h⟩ | ⟨e, -⟩
  · cases e1; cases e2; cases e3; exact h
  · exact absurd e (by decide)
theorem gxI_252_69 {p1 : Int32} {p2 : Int32} {p3 : Int32} {p4 : Int32} {n : Nat} {y5 : Int32} {X : fx_X} {v : Unit} {X' : fx_X} (h : gxT_252_69 p1 p2 p3 p4 (gxF_252 p1 p2 p3 p4 n) y5 X v X') : gxF_252 p1 p2 p3 p4 (n + 1) 69 [y5] [] [] X v X' := Or.inr (⟨rfl, y5, rfl, rfl, rfl, h⟩)
theorem gxO_252_69 {p1 : Int32} {p2 : Int32} {p3 : Int32} {p4 : Int32} {n : Nat} {y5 : Int32} {X : fx_X} {v : Unit} {X' : fx_X} (h : gxF_252 p1 p2 p3 p4 (n + 1) 69 [y5] [] [] X v X') : gxT_252_69 p1 p2 p3 p4 (gxF_252 p1 p2 p3 p4 n) y5 X v X' := by
  rcases h with ⟨e, -⟩ | ⟨-, _, e1, e2, e3, h⟩
  · exact absurd e (by decide)
  · cases e1; cases e2; cases e3; exact h
def gx_252 (p1 : Int32) (p2 : Int32) (p3 : Int32) (p4 : Int32) (X : fx_X) (v : Unit) (X' : fx_X) : Prop := ∃ n : Nat, gxE_252 p1 p2 p3 p4 (gxF_252 p1 p2 p3 p4 n) X v X'
theorem gxL_252 {tb : aj_T} (p1 : Int32) (p2 : Int32) (p3 : Int32) (p4 : Int32) : ∀ N : Nat, (∀ (lv : aj_V) (y5 : Int32) (X : fx_X), aj_lv lv 0 = some (.ref 117) → aj_lv lv 1 = some (.int p1) → aj_lv lv 2 = some (.int p2) → aj_lv lv 3 = some (.int p3) → aj_lv lv 4 = some (.int p4) → aj_lv lv 5 = some (.int y5) → fx_W tb aj_m252 N 3 lv [] X (fx_Q fx_qN (fun v X' => ∃ n : Nat, gxF_252 p1 p2 p3 p4 n 3 [y5] [] [] X v X'))) ∧ (∀ (lv : aj_V) (y5 : Int32) (X : fx_X), aj_lv lv 0 = some (.ref 117) → aj_lv lv 1 = some (.int p1) → aj_lv lv 2 = some (.int p2) → aj_lv lv 3 = some (.int p3) → aj_lv lv 4 = some (.int p4) → aj_lv lv 5 = some (.int y5) → fx_W tb aj_m252 N 69 lv [] X (fx_Q fx_qN (fun v X' => ∃ n : Nat, gxF_252 p1 p2 p3 p4 n 69 [y5] [] [] X v X'))) := by
  intro N
  induction N with
  | zero => exact ⟨(by intros; exact fx_z), (by intros; exact fx_z)⟩
  | succ N ih =>
    refine ⟨?_, ?_⟩
    · intro lv y5 X hlv_0 hlv_1 hlv_2 hlv_3 hlv_4 hlv_5
      refine fx_mono (Q := fx_Q fx_qN (fun v X' => ∃ n : Nat, gxT_252_3 p1 p2 p3 p4 (gxF_252 p1 p2 p3 p4 n) y5 X v X')) (fun r X' ⟨v, e, n, z⟩ => ⟨v, e, n + 1, gxI_252_3 z⟩) ?_
      unfold gxT_252_3
      refine fx_i0 aj_d252 rfl (Nat.le_refl _) (fun _ => rfl) hlv_5 ?_
      refine fx_n (pc' := 7) (lv' := lv) (st' := [.int ((Int8.ofInt 8).toInt32), .int y5]) aj_d252 rfl (Nat.le_succ _) (fun _ => rfl) ?_
      refine fx_b (tgt := 66) aj_d252 rfl (Nat.le_succ _) rfl (fun q3 => ?_) (fun q3 => ?_)
      · skip
        refine fx_qe (c := (y5).toInt < 8) (fx_t_ge q3) ?_
        show fx_W _ _ _ 66 lv [] _ _
        refine fx_n (pc' := 67) (lv' := lv) (st' := [.int (Int32.ofInt 0)]) aj_d252 rfl (Nat.le_succ _) (fun _ => rfl) ?_
        refine fx_s0 (j := 5) aj_d252 rfl (Nat.le_succ _) (by decide) (fun _ => rfl) ?_
        obtain ⟨lv4, elv4⟩ : ∃ l, l = aj_set1 lv 5 (.int (Int32.ofInt 0)) := ⟨_, rfl⟩
        rw [← elv4]
        have hlv4_0 : aj_lv lv4 0 = some (.ref 117) := fx_e1 elv4 hlv_0 (by decide) (Or.inl (by decide))
        have hlv4_1 : aj_lv lv4 1 = some (.int p1) := fx_e1 elv4 hlv_1 (by decide) (Or.inl (by decide))
        have hlv4_2 : aj_lv lv4 2 = some (.int p2) := fx_e1 elv4 hlv_2 (by decide) (Or.inl (by decide))
        have hlv4_3 : aj_lv lv4 3 = some (.int p3) := fx_e1 elv4 hlv_3 (by decide) (Or.inl (by decide))
        have hlv4_4 : aj_lv lv4 4 = some (.int p4) := fx_e1 elv4 hlv_4 (by decide) (Or.inr rfl)
        have hlv4_5 : aj_lv lv4 5 = some (.int (Int32.ofInt 0)) := by rw [elv4]; exact ak_set1_eq _ _ _
        show fx_W _ _ _ 69 lv4 [] _ _
        exact (ih.2) lv4 ((Int32.ofInt 0)) X  hlv4_0 hlv4_1 hlv4_2 hlv4_3 hlv4_4 hlv4_5
      · skip
        refine fx_qi (c := (y5).toInt < 8) (fx_f_ge q3) ?_
        show fx_W _ _ _ 10 lv [] _ _
        refine fx_i2 aj_d252 rfl (Nat.le_succ _) (fun _ => rfl) hlv_0 ?_
        refine fx_gF aj_d252 rfl (Nat.le_succ _) rfl rfl fx_in_11_18 (t := 134) rfl (fun hA5 => ?_)
        refine fx_i0 aj_d252 rfl (Nat.le_succ _) (fun _ => rfl) hlv_3 ?_
        refine fx_i0 aj_d252 rfl (Nat.le_succ _) (fun _ => rfl) hlv_4 ?_
        refine fx_i0 aj_d252 rfl (Nat.le_succ _) (fun _ => rfl) hlv_5 ?_
        refine fx_cs aj_d252 rfl (Nat.le_succ _) rfl rfl [_, _, _] rfl rfl (gx_236_ok p3 p4 y5) ?_
        rintro _ X6 ⟨w7, rfl, hR6⟩ hok6 hle6
        refine fx_qc hR6 ?_
        show fx_W _ _ _ 22 lv [.int w7, .ref 134] _ _
        refine fx_i2 aj_d252 rfl (Nat.le_succ _) (fun _ => rfl) hlv_0 ?_
        refine fx_gF aj_d252 rfl (Nat.le_succ _) rfl rfl fx_in_11_18 (t := 134) rfl (fun hA8 => ?_)
        refine fx_i0 aj_d252 rfl (Nat.le_succ _) (fun _ => rfl) hlv_1 ?_
        refine fx_i0 aj_d252 rfl (Nat.le_succ _) (fun _ => rfl) hlv_2 ?_
        refine fx_i0 aj_d252 rfl (Nat.le_succ _) (fun _ => rfl) hlv_5 ?_
        refine fx_cs aj_d252 rfl (Nat.le_succ _) rfl rfl [_, _, _] rfl rfl (gx_236_ok p1 p2 y5) ?_
        rintro _ X9 ⟨w10, rfl, hR9⟩ hok9 hle9
        refine fx_qc hR9 ?_
        show fx_W _ _ _ 33 lv [.int w10, .ref 134, .int w7, .ref 134] _ _
        refine fx_ld aj_d252 (Or.inr (Or.inr rfl)) rfl (Nat.le_succ _) (fun g110 g111 => ?_)
        show fx_W _ _ _ 34 lv [.int (X9.1 134 (w10).toInt.toNat), .int w7, .ref 134] _ _
        refine fx_qa (c := 0 ≤ (w10).toInt ∧ (w10).toInt < ((12000 : Nat) : Int)) ⟨g110, fx_lnk g111 ((hle9.2 _ (by rw [hA8]; decide)).trans hA8)⟩ ?_
        refine fx_sb (kd := 4) aj_d252 rfl (Nat.le_succ _) ((hle9.2 _ (by rw [((hle6.2 _ (by rw [hA5]; decide)).trans hA5)]; decide)).trans ((hle6.2 _ (by rw [hA5]; decide)).trans hA5)) (fun g120 g121 => ?_)
        refine fx_qa (c := 0 ≤ (w7).toInt ∧ (w7).toInt < ((12000 : Nat) : Int)) ⟨g120, fx_lnk g121 ((hle9.2 _ (by rw [((hle6.2 _ (by rw [hA5]; decide)).trans hA5)]; decide)).trans ((hle6.2 _ (by rw [hA5]; decide)).trans hA5))⟩ ?_
        refine fx_qX (fun X13 eX13 => ?_)
        show fx_W _ _ _ 35 lv [] _ _
        refine fx_i2 aj_d252 rfl (Nat.le_succ _) (fun _ => rfl) hlv_0 ?_
        refine fx_gF aj_d252 rfl (Nat.le_succ _) rfl rfl fx_in_11_19 (t := 135) rfl (fun hA14 => ?_)
        refine fx_i0 aj_d252 rfl (Nat.le_succ _) (fun _ => rfl) hlv_3 ?_
        refine fx_i0 aj_d252 rfl (Nat.le_succ _) (fun _ => rfl) hlv_4 ?_
        refine fx_i0 aj_d252 rfl (Nat.le_succ _) (fun _ => rfl) hlv_5 ?_
        refine fx_cs aj_d252 rfl (Nat.le_succ _) rfl rfl [_, _, _] rfl rfl (gx_236_ok p3 p4 y5) ?_
        rintro _ X15 ⟨w16, rfl, hR15⟩ hok15 hle15
        refine fx_qc hR15 ?_
        show fx_W _ _ _ 47 lv [.int w16, .ref 135] _ _
        refine fx_i2 aj_d252 rfl (Nat.le_succ _) (fun _ => rfl) hlv_0 ?_
        refine fx_gF aj_d252 rfl (Nat.le_succ _) rfl rfl fx_in_11_19 (t := 135) rfl (fun hA17 => ?_)
        refine fx_i0 aj_d252 rfl (Nat.le_succ _) (fun _ => rfl) hlv_1 ?_
        refine fx_i0 aj_d252 rfl (Nat.le_succ _) (fun _ => rfl) hlv_2 ?_
        refine fx_i0 aj_d252 rfl (Nat.le_succ _) (fun _ => rfl) hlv_5 ?_
        refine fx_cs aj_d252 rfl (Nat.le_succ _) rfl rfl [_, _, _] rfl rfl (gx_236_ok p1 p2 y5) ?_
        rintro _ X18 ⟨w19, rfl, hR18⟩ hok18 hle18
        refine fx_qc hR18 ?_
        show fx_W _ _ _ 58 lv [.int w19, .ref 135, .int w16, .ref 135] _ _
        refine fx_ld aj_d252 (Or.inl rfl) rfl (Nat.le_succ _) (fun g200 g201 => ?_)
        show fx_W _ _ _ 59 lv [.int (X18.1 135 (w19).toInt.toNat), .int w16, .ref 135] _ _
        refine fx_qa (c := 0 ≤ (w19).toInt ∧ (w19).toInt < ((12000 : Nat) : Int)) ⟨g200, fx_lnk g201 ((hle18.2 _ (by rw [hA17]; decide)).trans hA17)⟩ ?_
        refine fx_st aj_d252 (Or.inl ⟨rfl, rfl⟩) rfl (Nat.le_succ _) (fun g210 g211 => ?_)
        show fx_W _ _ _ _ _ _ (fx_wI X18 135 (w16).toInt.toNat (X18.1 135 (w19).toInt.toNat)) _
        refine fx_qa (c := 0 ≤ (w16).toInt ∧ (w16).toInt < ((12000 : Nat) : Int)) ⟨g210, fx_lnk g211 ((hle18.2 _ (by rw [((hle15.2 _ (by rw [hA14]; decide)).trans hA14)]; decide)).trans ((hle15.2 _ (by rw [hA14]; decide)).trans hA14))⟩ ?_
        refine fx_qX (fun X22 eX22 => ?_)
        show fx_W _ _ _ 60 lv [] _ _
        refine fx_incq aj_d252 rfl (Nat.le_succ _) hlv_5 (by decide) (fun x23 ex23 => ?_)
        obtain ⟨lv24, elv24⟩ : ∃ l, l = aj_set1 lv 5 (.int x23) := ⟨_, rfl⟩
        rw [← elv24]
        have hlv24_0 : aj_lv lv24 0 = some (.ref 117) := fx_e1 elv24 hlv_0 (by decide) (Or.inl (by decide))
        have hlv24_1 : aj_lv lv24 1 = some (.int p1) := fx_e1 elv24 hlv_1 (by decide) (Or.inl (by decide))
        have hlv24_2 : aj_lv lv24 2 = some (.int p2) := fx_e1 elv24 hlv_2 (by decide) (Or.inl (by decide))
        have hlv24_3 : aj_lv lv24 3 = some (.int p3) := fx_e1 elv24 hlv_3 (by decide) (Or.inl (by decide))
        have hlv24_4 : aj_lv lv24 4 = some (.int p4) := fx_e1 elv24 hlv_4 (by decide) (Or.inr rfl)
        have hlv24_5 : aj_lv lv24 5 = some (.int x23) := by rw [elv24]; exact ak_set1_eq _ _ _
        show fx_W _ _ _ 63 lv24 [] _ _
        refine fx_n (pc' := 3) (lv' := lv24) (st' := []) aj_d252 rfl (Nat.le_succ _) (fun _ => rfl) ?_
        exact (ih.1) lv24 (x23) X22  hlv24_0 hlv24_1 hlv24_2 hlv24_3 hlv24_4 hlv24_5
    · intro lv y5 X hlv_0 hlv_1 hlv_2 hlv_3 hlv_4 hlv_5
      refine fx_mono (Q := fx_Q fx_qN (fun v X' => ∃ n : Nat, gxT_252_69 p1 p2 p3 p4 (gxF_252 p1 p2 p3 p4 n) y5 X v X')) (fun r X' ⟨v, e, n, z⟩ => ⟨v, e, n + 1, gxI_252_69 z⟩) ?_
      unfold gxT_252_69
      refine fx_i0 aj_d252 rfl (Nat.le_refl _) (fun _ => rfl) hlv_5 ?_
      refine fx_n (pc' := 73) (lv' := lv) (st' := [.int ((Int8.ofInt 32).toInt32), .int y5]) aj_d252 rfl (Nat.le_succ _) (fun _ => rfl) ?_
      refine fx_b (tgt := 111) aj_d252 rfl (Nat.le_succ _) rfl (fun q25 => ?_) (fun q25 => ?_)
      · skip
        refine fx_qe (c := (y5).toInt < 32) (fx_t_ge q25) ?_
        show fx_W _ _ _ 111 lv [] _ _
        exact fx_rn aj_d252 rfl ⟨(), rfl, 0, rfl⟩
      · skip
        refine fx_qi (c := (y5).toInt < 32) (fx_f_ge q25) ?_
        show fx_W _ _ _ 76 lv [] _ _
        refine fx_i2 aj_d252 rfl (Nat.le_succ _) (fun _ => rfl) hlv_0 ?_
        refine fx_gF aj_d252 rfl (Nat.le_succ _) rfl rfl fx_in_11_20 (t := 136) rfl (fun hA26 => ?_)
        refine fx_i2 aj_d252 rfl (Nat.le_succ _) (fun _ => rfl) hlv_0 ?_
        refine fx_i0 aj_d252 rfl (Nat.le_succ _) (fun _ => rfl) hlv_3 ?_
        refine fx_i0 aj_d252 rfl (Nat.le_succ _) (fun _ => rfl) hlv_4 ?_
        refine fx_cv aj_d252 rfl (Nat.le_succ _) rfl [_, _] rfl rfl (gx_225_ok p3 p4) ?_
        rintro _ X27 ⟨w28, rfl, hR27⟩ hok27 hle27
        refine fx_qc hR27 ?_
        show fx_W _ _ _ 87 lv [.int w28, .ref 136] _ _
        refine fx_i0 aj_d252 rfl (Nat.le_succ _) (fun _ => rfl) hlv_5 ?_
        refine fx_n (pc' := 90) (lv' := lv) (st' := [.int (w28 + y5), .ref 136]) aj_d252 rfl (Nat.le_succ _) (fun _ => rfl) ?_
        refine fx_i2 aj_d252 rfl (Nat.le_succ _) (fun _ => rfl) hlv_0 ?_
        refine fx_gF aj_d252 rfl (Nat.le_succ _) rfl rfl fx_in_11_20 (t := 136) rfl (fun hA29 => ?_)
        refine fx_i2 aj_d252 rfl (Nat.le_succ _) (fun _ => rfl) hlv_0 ?_
        refine fx_i0 aj_d252 rfl (Nat.le_succ _) (fun _ => rfl) hlv_1 ?_
        refine fx_i0 aj_d252 rfl (Nat.le_succ _) (fun _ => rfl) hlv_2 ?_
        refine fx_cv aj_d252 rfl (Nat.le_succ _) rfl [_, _] rfl rfl (gx_225_ok p1 p2) ?_
        rintro _ X30 ⟨w31, rfl, hR30⟩ hok30 hle30
        refine fx_qc hR30 ?_
        show fx_W _ _ _ 100 lv [.int w31, .ref 136, .int (w28 + y5), .ref 136] _ _
        refine fx_i0 aj_d252 rfl (Nat.le_succ _) (fun _ => rfl) hlv_5 ?_
        refine fx_n (pc' := 103) (lv' := lv) (st' := [.int (w31 + y5), .ref 136, .int (w28 + y5), .ref 136]) aj_d252 rfl (Nat.le_succ _) (fun _ => rfl) ?_
        refine fx_ld aj_d252 (Or.inl rfl) rfl (Nat.le_succ _) (fun g320 g321 => ?_)
        show fx_W _ _ _ 104 lv [.int (X30.1 136 ((w31 + y5)).toInt.toNat), .int (w28 + y5), .ref 136] _ _
        refine fx_qa (c := 0 ≤ ((w31 + y5)).toInt ∧ ((w31 + y5)).toInt < ((48000 : Nat) : Int)) ⟨g320, fx_lnk g321 ((hle30.2 _ (by rw [hA29]; decide)).trans hA29)⟩ ?_
        refine fx_st aj_d252 (Or.inl ⟨rfl, rfl⟩) rfl (Nat.le_succ _) (fun g330 g331 => ?_)
        show fx_W _ _ _ _ _ _ (fx_wI X30 136 ((w28 + y5)).toInt.toNat (X30.1 136 ((w31 + y5)).toInt.toNat)) _
        refine fx_qa (c := 0 ≤ ((w28 + y5)).toInt ∧ ((w28 + y5)).toInt < ((48000 : Nat) : Int)) ⟨g330, fx_lnk g331 ((hle30.2 _ (by rw [((hle27.2 _ (by rw [hA26]; decide)).trans hA26)]; decide)).trans ((hle27.2 _ (by rw [hA26]; decide)).trans hA26))⟩ ?_
        refine fx_qX (fun X34 eX34 => ?_)
        show fx_W _ _ _ 105 lv [] _ _
        refine fx_incq aj_d252 rfl (Nat.le_succ _) hlv_5 (by decide) (fun x35 ex35 => ?_)
        obtain ⟨lv36, elv36⟩ : ∃ l, l = aj_set1 lv 5 (.int x35) := ⟨_, rfl⟩
        rw [← elv36]
        have hlv36_0 : aj_lv lv36 0 = some (.ref 117) := fx_e1 elv36 hlv_0 (by decide) (Or.inl (by decide))
        have hlv36_1 : aj_lv lv36 1 = some (.int p1) := fx_e1 elv36 hlv_1 (by decide) (Or.inl (by decide))
        have hlv36_2 : aj_lv lv36 2 = some (.int p2) := fx_e1 elv36 hlv_2 (by decide) (Or.inl (by decide))
        have hlv36_3 : aj_lv lv36 3 = some (.int p3) := fx_e1 elv36 hlv_3 (by decide) (Or.inl (by decide))
        have hlv36_4 : aj_lv lv36 4 = some (.int p4) := fx_e1 elv36 hlv_4 (by decide) (Or.inr rfl)
        have hlv36_5 : aj_lv lv36 5 = some (.int x35) := by rw [elv36]; exact ak_set1_eq _ _ _
        show fx_W _ _ _ 108 lv36 [] _ _
        refine fx_n (pc' := 69) (lv' := lv36) (st' := []) aj_d252 rfl (Nat.le_succ _) (fun _ => rfl) ?_
        exact (ih.2) lv36 (x35) X34  hlv36_0 hlv36_1 hlv36_2 hlv36_3 hlv36_4 hlv36_5
theorem gx_252_ok {tb : aj_T} (p1 : Int32) (p2 : Int32) (p3 : Int32) (p4 : Int32) {X : fx_X} : fx_K tb 252 [.ref 117, .int p1, .int p2, .int p3, .int p4] X (fx_Q fx_qN (fun v X' => gx_252 p1 p2 p3 p4 X v X')) := by
  refine fx_m aj_m252_at rfl (fun N => ?_)
  refine fx_mono (Q := fx_Q fx_qN (fun v X' => ∃ n : Nat, gxE_252 p1 p2 p3 p4 (gxF_252 p1 p2 p3 p4 n) X v X')) (fun r X' h => h) ?_
  unfold gxE_252
  show fx_W _ _ _ 0 [(0, .ref 117), (1, .int p1), (2, .int p2), (3, .int p3), (4, .int p4)] [] _ _
  obtain ⟨lv1, elv1⟩ : ∃ l : aj_V, l = [(0, .ref 117), (1, .int p1), (2, .int p2), (3, .int p3), (4, .int p4)] := ⟨_, rfl⟩
  rw [← elv1]
  have hlv1_0 : aj_lv lv1 0 = some (.ref 117) := by rw [elv1]; rfl
  have hlv1_1 : aj_lv lv1 1 = some (.int p1) := by rw [elv1]; rfl
  have hlv1_2 : aj_lv lv1 2 = some (.int p2) := by rw [elv1]; rfl
  have hlv1_3 : aj_lv lv1 3 = some (.int p3) := by rw [elv1]; rfl
  have hlv1_4 : aj_lv lv1 4 = some (.int p4) := by rw [elv1]; rfl
  refine fx_n (pc' := 1) (lv' := lv1) (st' := [.int (Int32.ofInt 0)]) aj_d252 rfl (Nat.le_succ _) (fun _ => rfl) ?_
  refine fx_s0 (j := 5) aj_d252 rfl (Nat.le_succ _) (by decide) (fun _ => rfl) ?_
  obtain ⟨lv2, elv2⟩ : ∃ l, l = aj_set1 lv1 5 (.int (Int32.ofInt 0)) := ⟨_, rfl⟩
  rw [← elv2]
  have hlv2_0 : aj_lv lv2 0 = some (.ref 117) := fx_e1 elv2 hlv1_0 (by decide) (Or.inl (by decide))
  have hlv2_1 : aj_lv lv2 1 = some (.int p1) := fx_e1 elv2 hlv1_1 (by decide) (Or.inl (by decide))
  have hlv2_2 : aj_lv lv2 2 = some (.int p2) := fx_e1 elv2 hlv1_2 (by decide) (Or.inl (by decide))
  have hlv2_3 : aj_lv lv2 3 = some (.int p3) := fx_e1 elv2 hlv1_3 (by decide) (Or.inl (by decide))
  have hlv2_4 : aj_lv lv2 4 = some (.int p4) := fx_e1 elv2 hlv1_4 (by decide) (Or.inr rfl)
  have hlv2_5 : aj_lv lv2 5 = some (.int (Int32.ofInt 0)) := by rw [elv2]; exact ak_set1_eq _ _ _
  show fx_W _ _ _ 3 lv2 [] _ _
  exact ((gxL_252 p1 p2 p3 p4 N).1) lv2 ((Int32.ofInt 0)) X  hlv2_0 hlv2_1 hlv2_2 hlv2_3 hlv2_4 hlv2_5
def gxT_233_3 (p1 : Int32) (p2 : Int64) (P : Nat → List Int32 → List Int64 → List Nat → fx_X → Int32 → fx_X → Prop) (y4 : Int32) (X : fx_X) (v : Int32) (X' : fx_X) : Prop :=
  (0 ≤ (p1).toInt ∧ (p1).toInt < ((50 : Nat) : Int)) ∧ (if (y4).toInt < ((X.1 132 (p1).toInt.toNat)).toInt then ((0 ≤ (((p1 * ((Int8.ofInt 8).toInt32)) + y4)).toInt ∧ (((p1 * ((Int8.ofInt 8).toInt32)) + y4)).toInt < ((400 : Nat) : Int)) ∧ (if (X.2.1 133 (((p1 * ((Int8.ofInt 8).toInt32)) + y4)).toInt.toNat) = p2 then (v = y4 ∧ X' = X) else (∃ x9 : Int32, x9 = y4 + Int32.ofInt 1 ∧ P 3 [x9] [] [] X v X'))) else (v = (Int32.ofInt (-1)) ∧ X' = X))
def gxE_233 (p1 : Int32) (p2 : Int64) (P : Nat → List Int32 → List Int64 → List Nat → fx_X → Int32 → fx_X → Prop) (X : fx_X) (v : Int32) (X' : fx_X) : Prop :=
  P 3 [(Int32.ofInt 0)] [] [] X v X'
noncomputable def gxF_233 (p1 : Int32) (p2 : Int64) (n : Nat) : Nat → List Int32 → List Int64 → List Nat → fx_X → Int32 → fx_X → Prop := Nat.rec (motive := fun _ => Nat → List Int32 → List Int64 → List Nat → fx_X → Int32 → fx_X → Prop) (fun _ _ _ _ _ _ _ => False) (fun _ P l is ls rs X v X' => (l = 3 ∧ ∃ (y4 : Int32), is = [y4] ∧ ls = [] ∧ rs = [] ∧ gxT_233_3 p1 p2 P y4 X v X')) n
theorem gxI_233_3 {p1 : Int32} {p2 : Int64} {n : Nat} {y4 : Int32} {X : fx_X} {v : Int32} {X' : fx_X} (h : gxT_233_3 p1 p2 (gxF_233 p1 p2 n) y4 X v X') : gxF_233 p1 p2 (n + 1) 3 [y4] [] [] X v X' := ⟨rfl, y4, rfl, rfl, rfl, h⟩
theorem gxO_233_3 {p1 : Int32} {p2 : Int64} {n : Nat} {y4 : Int32} {X : fx_X} {v : Int32} {X' : fx_X} (h : gxF_233 p1 p2 (n + 1) 3 [y4] [] [] X v X') : gxT_233_3 p1 p2 (gxF_233 p1 p2 n) y4 X v X' := by
  rcases h with ⟨-, _, e1, e2, e3, h⟩
  · cases e1; cases e2; cases e3; exact h
def gx_233 (p1 : Int32) (p2 : Int64) (X : fx_X) (v : Int32) (X' : fx_X) : Prop := ∃ n : Nat, gxE_233 p1 p2 (gxF_233 p1 p2 n) X v X'
theorem gxL_233 {tb : aj_T} (p1 : Int32) (p2 : Int64) : ∀ N : Nat, (∀ (lv : aj_V) (y4 : Int32) (X : fx_X), aj_lv lv 0 = some (.ref 117) → aj_lv lv 1 = some (.int p1) → aj_lv lv 2 = some (.long p2) → aj_lv lv 4 = some (.int y4) → fx_W tb aj_m233 N 3 lv [] X (fx_Q fx_qI (fun v X' => ∃ n : Nat, gxF_233 p1 p2 n 3 [y4] [] [] X v X'))) := by
  intro N
  induction N with
  | zero => exact (by intros; exact fx_z)
  | succ N ih =>
    skip
    · intro lv y4 X hlv_0 hlv_1 hlv_2 hlv_4
      refine fx_mono (Q := fx_Q fx_qI (fun v X' => ∃ n : Nat, gxT_233_3 p1 p2 (gxF_233 p1 p2 n) y4 X v X')) (fun r X' ⟨v, e, n, z⟩ => ⟨v, e, n + 1, gxI_233_3 z⟩) ?_
      unfold gxT_233_3
      refine fx_i0 aj_d233 rfl (Nat.le_refl _) (fun _ => rfl) hlv_4 ?_
      refine fx_i2 aj_d233 rfl (Nat.le_succ _) (fun _ => rfl) hlv_0 ?_
      refine fx_gF aj_d233 rfl (Nat.le_succ _) rfl rfl fx_in_11_16 (t := 132) rfl (fun hA3 => ?_)
      refine fx_i0 aj_d233 rfl (Nat.le_succ _) (fun _ => rfl) hlv_1 ?_
      refine fx_ld aj_d233 (Or.inl rfl) rfl (Nat.le_succ _) (fun g40 g41 => ?_)
      show fx_W _ _ _ 11 lv [.int (X.1 132 (p1).toInt.toNat), .int y4] _ _
      refine fx_qa (c := 0 ≤ (p1).toInt ∧ (p1).toInt < ((50 : Nat) : Int)) ⟨g40, fx_lnk g41 hA3⟩ ?_
      refine fx_b (tgt := 40) aj_d233 rfl (Nat.le_succ _) rfl (fun q5 => ?_) (fun q5 => ?_)
      · skip
        refine fx_qe (c := (y4).toInt < ((X.1 132 (p1).toInt.toNat)).toInt) (fx_t_ge q5) ?_
        show fx_W _ _ _ 40 lv [] _ _
        refine fx_n (pc' := 41) (lv' := lv) (st' := [.int (Int32.ofInt (-1))]) aj_d233 rfl (Nat.le_succ _) (fun _ => rfl) ?_
        exact fx_ri aj_d233 rfl ⟨_, rfl, 0, rfl, rfl⟩
      · skip
        refine fx_qi (c := (y4).toInt < ((X.1 132 (p1).toInt.toNat)).toInt) (fx_f_ge q5) ?_
        show fx_W _ _ _ 14 lv [] _ _
        refine fx_i2 aj_d233 rfl (Nat.le_succ _) (fun _ => rfl) hlv_0 ?_
        refine fx_gF aj_d233 rfl (Nat.le_succ _) rfl rfl fx_in_11_17 (t := 133) rfl (fun hA6 => ?_)
        refine fx_i0 aj_d233 rfl (Nat.le_succ _) (fun _ => rfl) hlv_1 ?_
        refine fx_n (pc' := 21) (lv' := lv) (st' := [.int ((Int8.ofInt 8).toInt32), .int p1, .ref 133]) aj_d233 rfl (Nat.le_succ _) (fun _ => rfl) ?_
        refine fx_n (pc' := 22) (lv' := lv) (st' := [.int (p1 * ((Int8.ofInt 8).toInt32)), .ref 133]) aj_d233 rfl (Nat.le_succ _) (fun _ => rfl) ?_
        refine fx_i0 aj_d233 rfl (Nat.le_succ _) (fun _ => rfl) hlv_4 ?_
        refine fx_n (pc' := 25) (lv' := lv) (st' := [.int ((p1 * ((Int8.ofInt 8).toInt32)) + y4), .ref 133]) aj_d233 rfl (Nat.le_succ _) (fun _ => rfl) ?_
        refine fx_ldL aj_d233 rfl (Nat.le_succ _) (fun g70 g71 => ?_)
        show fx_W _ _ _ 26 lv [.long (X.2.1 133 (((p1 * ((Int8.ofInt 8).toInt32)) + y4)).toInt.toNat)] _ _
        refine fx_qa (c := 0 ≤ (((p1 * ((Int8.ofInt 8).toInt32)) + y4)).toInt ∧ (((p1 * ((Int8.ofInt 8).toInt32)) + y4)).toInt < ((400 : Nat) : Int)) ⟨g70, fx_lnk g71 hA6⟩ ?_
        refine fx_i1 aj_d233 rfl (Nat.le_succ _) (fun _ => rfl) hlv_2 ?_
        refine fx_n (pc' := 28) (lv' := lv) (st' := [.int (lg_cmp (X.2.1 133 (((p1 * ((Int8.ofInt 8).toInt32)) + y4)).toInt.toNat) p2)]) aj_d233 rfl (Nat.le_succ _) (fun _ => rfl) ?_
        refine fx_b0 (tgt := 34) aj_d233 rfl (Nat.le_succ _) rfl (fun q8 => ?_) (fun q8 => ?_)
        · skip
          refine fx_qe (c := (X.2.1 133 (((p1 * ((Int8.ofInt 8).toInt32)) + y4)).toInt.toNat) = p2) (fun z => (fx_t_ne q8) (fx_lc.mpr z)) ?_
          show fx_W _ _ _ 34 lv [] _ _
          refine fx_incq aj_d233 rfl (Nat.le_succ _) hlv_4 (by decide) (fun x9 ex9 => ?_)
          obtain ⟨lv10, elv10⟩ : ∃ l, l = aj_set1 lv 4 (.int x9) := ⟨_, rfl⟩
          rw [← elv10]
          have hlv10_0 : aj_lv lv10 0 = some (.ref 117) := fx_e1 elv10 hlv_0 (by decide) (Or.inl (by decide))
          have hlv10_1 : aj_lv lv10 1 = some (.int p1) := fx_e1 elv10 hlv_1 (by decide) (Or.inl (by decide))
          have hlv10_2 : aj_lv lv10 2 = some (.long p2) := fx_e1 elv10 hlv_2 (by decide) (Or.inl (by decide))
          have hlv10_4 : aj_lv lv10 4 = some (.int x9) := by rw [elv10]; exact ak_set1_eq _ _ _
          show fx_W _ _ _ 37 lv10 [] _ _
          refine fx_n (pc' := 3) (lv' := lv10) (st' := []) aj_d233 rfl (Nat.le_succ _) (fun _ => rfl) ?_
          exact (ih) lv10 (x9) X  hlv10_0 hlv10_1 hlv10_2 hlv10_4
        · skip
          refine fx_qi (c := (X.2.1 133 (((p1 * ((Int8.ofInt 8).toInt32)) + y4)).toInt.toNat) = p2) (fx_lc.mp (fx_f_ne q8)) ?_
          show fx_W _ _ _ 31 lv [] _ _
          refine fx_i0 aj_d233 rfl (Nat.le_succ _) (fun _ => rfl) hlv_4 ?_
          exact fx_ri aj_d233 rfl ⟨_, rfl, 0, rfl, rfl⟩
theorem gx_233_ok {tb : aj_T} (p1 : Int32) (p2 : Int64) {X : fx_X} : fx_K tb 233 [.ref 117, .int p1, .long p2] X (fx_Q fx_qI (fun v X' => gx_233 p1 p2 X v X')) := by
  refine fx_m aj_m233_at rfl (fun N => ?_)
  refine fx_mono (Q := fx_Q fx_qI (fun v X' => ∃ n : Nat, gxE_233 p1 p2 (gxF_233 p1 p2 n) X v X')) (fun r X' h => h) ?_
  unfold gxE_233
  show fx_W _ _ _ 0 [(0, .ref 117), (1, .int p1), (2, .long p2)] [] _ _
  obtain ⟨lv1, elv1⟩ : ∃ l : aj_V, l = [(0, .ref 117), (1, .int p1), (2, .long p2)] := ⟨_, rfl⟩
  rw [← elv1]
  have hlv1_0 : aj_lv lv1 0 = some (.ref 117) := by rw [elv1]; rfl
  have hlv1_1 : aj_lv lv1 1 = some (.int p1) := by rw [elv1]; rfl
  have hlv1_2 : aj_lv lv1 2 = some (.long p2) := by rw [elv1]; rfl
  refine fx_n (pc' := 1) (lv' := lv1) (st' := [.int (Int32.ofInt 0)]) aj_d233 rfl (Nat.le_succ _) (fun _ => rfl) ?_
  refine fx_s0 (j := 4) aj_d233 rfl (Nat.le_succ _) (by decide) (fun _ => rfl) ?_
  obtain ⟨lv2, elv2⟩ : ∃ l, l = aj_set1 lv1 4 (.int (Int32.ofInt 0)) := ⟨_, rfl⟩
  rw [← elv2]
  have hlv2_0 : aj_lv lv2 0 = some (.ref 117) := fx_e1 elv2 hlv1_0 (by decide) (Or.inl (by decide))
  have hlv2_1 : aj_lv lv2 1 = some (.int p1) := fx_e1 elv2 hlv1_1 (by decide) (Or.inl (by decide))
  have hlv2_2 : aj_lv lv2 2 = some (.long p2) := fx_e1 elv2 hlv1_2 (by decide) (Or.inl (by decide))
  have hlv2_4 : aj_lv lv2 4 = some (.int (Int32.ofInt 0)) := by rw [elv2]; exact ak_set1_eq _ _ _
  show fx_W _ _ _ 3 lv2 [] _ _
  exact ((gxL_233 p1 p2 N)) lv2 ((Int32.ofInt 0)) X  hlv2_0 hlv2_1 hlv2_2 hlv2_4
def gxT_251_26 (p1 : Int32) (p2 : Int32) (P : Nat → List Int32 → List Int64 → List Nat → fx_X → Unit → fx_X → Prop) (y3 : Int32) (X : fx_X) (v : Unit) (X' : fx_X) : Prop :=
  (if (y3).toInt < 8 then ((0 ≤ (((p1 * ((Int8.ofInt 8).toInt32)) + y3)).toInt ∧ (((p1 * ((Int8.ofInt 8).toInt32)) + y3)).toInt < ((400 : Nat) : Int)) ∧ (0 ≤ (((p2 * ((Int8.ofInt 8).toInt32)) + y3)).toInt ∧ (((p2 * ((Int8.ofInt 8).toInt32)) + y3)).toInt < ((400 : Nat) : Int)) ∧ ∃ X19 : fx_X, X19 = (fx_wL X 133 (((p2 * ((Int8.ofInt 8).toInt32)) + y3)).toInt.toNat (X.2.1 133 (((p1 * ((Int8.ofInt 8).toInt32)) + y3)).toInt.toNat)) ∧ ∃ x20 : Int32, x20 = y3 + Int32.ofInt 1 ∧ P 26 [x20] [] [] X19 v X') else (P 62 [(Int32.ofInt 0)] [] [] X v X'))
def gxT_251_62 (p1 : Int32) (p2 : Int32) (P : Nat → List Int32 → List Int64 → List Nat → fx_X → Unit → fx_X → Prop) (y3 : Int32) (X : fx_X) (v : Unit) (X' : fx_X) : Prop :=
  (if ((X.1 117 32)).toInt = 0 then (X' = X) else ((0 ≤ (p1).toInt ∧ (p1).toInt < ((50 : Nat) : Int)) ∧ (if (y3).toInt < ((X.1 131 (p1).toInt.toNat)).toInt then (∃ (w27 : Unit) (X26 : fx_X), gx_252 p1 y3 p2 y3 X w27 X26 ∧ ∃ x28 : Int32, x28 = y3 + Int32.ofInt 1 ∧ P 62 [x28] [] [] X26 v X') else (X' = X))))
def gxE_251 (p1 : Int32) (p2 : Int32) (P : Nat → List Int32 → List Int64 → List Nat → fx_X → Unit → fx_X → Prop) (X : fx_X) (v : Unit) (X' : fx_X) : Prop :=
  (0 ≤ (p1).toInt ∧ (p1).toInt < ((50 : Nat) : Int)) ∧ (0 ≤ (p2).toInt ∧ (p2).toInt < ((50 : Nat) : Int)) ∧ ∃ X6 : fx_X, X6 = (fx_wI X 131 (p2).toInt.toNat (X.1 131 (p1).toInt.toNat)) ∧ (0 ≤ (p1).toInt ∧ (p1).toInt < ((50 : Nat) : Int)) ∧ (0 ≤ (p2).toInt ∧ (p2).toInt < ((50 : Nat) : Int)) ∧ ∃ X11 : fx_X, X11 = (fx_wI X6 132 (p2).toInt.toNat (X6.1 132 (p1).toInt.toNat)) ∧ P 26 [(Int32.ofInt 0)] [] [] X11 v X'
noncomputable def gxF_251 (p1 : Int32) (p2 : Int32) (n : Nat) : Nat → List Int32 → List Int64 → List Nat → fx_X → Unit → fx_X → Prop := Nat.rec (motive := fun _ => Nat → List Int32 → List Int64 → List Nat → fx_X → Unit → fx_X → Prop) (fun _ _ _ _ _ _ _ => False) (fun _ P l is ls rs X v X' => (l = 26 ∧ ∃ (y3 : Int32), is = [y3] ∧ ls = [] ∧ rs = [] ∧ gxT_251_26 p1 p2 P y3 X v X') ∨ (l = 62 ∧ ∃ (y3 : Int32), is = [y3] ∧ ls = [] ∧ rs = [] ∧ gxT_251_62 p1 p2 P y3 X v X')) n
theorem gxI_251_26 {p1 : Int32} {p2 : Int32} {n : Nat} {y3 : Int32} {X : fx_X} {v : Unit} {X' : fx_X} (h : gxT_251_26 p1 p2 (gxF_251 p1 p2 n) y3 X v X') : gxF_251 p1 p2 (n + 1) 26 [y3] [] [] X v X' := Or.inl ⟨rfl, y3, rfl, rfl, rfl, h⟩
theorem gxO_251_26 {p1 : Int32} {p2 : Int32} {n : Nat} {y3 : Int32} {X : fx_X} {v : Unit} {X' : fx_X} (h : gxF_251 p1 p2 (n + 1) 26 [y3] [] [] X v X') : gxT_251_26 p1 p2 (gxF_251 p1 p2 n) y3 X v X' := by
  rcases h with ⟨-, _, e1, e2, e3, h⟩ | ⟨e, -⟩
  · cases e1; cases e2; cases e3; exact h
  · exact absurd e (by decide)
theorem gxI_251_62 {p1 : Int32} {p2 : Int32} {n : Nat} {y3 : Int32} {X : fx_X} {v : Unit} {X' : fx_X} (h : gxT_251_62 p1 p2 (gxF_251 p1 p2 n) y3 X v X') : gxF_251 p1 p2 (n + 1) 62 [y3] [] [] X v X' := Or.inr (⟨rfl, y3, rfl, rfl, rfl, h⟩)
theorem gxO_251_62 {p1 : Int32} {p2 : Int32} {n : Nat} {y3 : Int32} {X : fx_X} {v : Unit} {X' : fx_X} (h : gxF_251 p1 p2 (n + 1) 62 [y3] [] [] X v X') : gxT_251_62 p1 p2 (gxF_251 p1 p2 n) y3 X v X' := by
  rcases h with ⟨e, -⟩ | ⟨-, _, e1, e2, e3, h⟩
  · exact absurd e (by decide)
  · cases e1; cases e2; cases e3; exact h
def gx_251 (p1 : Int32) (p2 : Int32) (X : fx_X) (v : Unit) (X' : fx_X) : Prop := ∃ n : Nat, gxE_251 p1 p2 (gxF_251 p1 p2 n) X v X'
theorem gxL_251 {tb : aj_T} (p1 : Int32) (p2 : Int32) : ∀ N : Nat, (∀ (lv : aj_V) (y3 : Int32) (X : fx_X), aj_lv lv 0 = some (.ref 117) → aj_lv lv 1 = some (.int p1) → aj_lv lv 2 = some (.int p2) → aj_lv lv 3 = some (.int y3) → fx_W tb aj_m251 N 26 lv [] X (fx_Q fx_qN (fun v X' => ∃ n : Nat, gxF_251 p1 p2 n 26 [y3] [] [] X v X'))) ∧ (∀ (lv : aj_V) (y3 : Int32) (X : fx_X), aj_lv lv 0 = some (.ref 117) → aj_lv lv 1 = some (.int p1) → aj_lv lv 2 = some (.int p2) → aj_lv lv 3 = some (.int y3) → fx_W tb aj_m251 N 62 lv [] X (fx_Q fx_qN (fun v X' => ∃ n : Nat, gxF_251 p1 p2 n 62 [y3] [] [] X v X'))) := by
  intro N
  induction N with
  | zero => exact ⟨(by intros; exact fx_z), (by intros; exact fx_z)⟩
  | succ N ih =>
    refine ⟨?_, ?_⟩
    · intro lv y3 X hlv_0 hlv_1 hlv_2 hlv_3
      refine fx_mono (Q := fx_Q fx_qN (fun v X' => ∃ n : Nat, gxT_251_26 p1 p2 (gxF_251 p1 p2 n) y3 X v X')) (fun r X' ⟨v, e, n, z⟩ => ⟨v, e, n + 1, gxI_251_26 z⟩) ?_
      unfold gxT_251_26
      refine fx_i0 aj_d251 rfl (Nat.le_refl _) (fun _ => rfl) hlv_3 ?_
      refine fx_n (pc' := 29) (lv' := lv) (st' := [.int ((Int8.ofInt 8).toInt32), .int y3]) aj_d251 rfl (Nat.le_succ _) (fun _ => rfl) ?_
      refine fx_b (tgt := 60) aj_d251 rfl (Nat.le_succ _) rfl (fun q13 => ?_) (fun q13 => ?_)
      · skip
        refine fx_qe (c := (y3).toInt < 8) (fx_t_ge q13) ?_
        show fx_W _ _ _ 60 lv [] _ _
        refine fx_n (pc' := 61) (lv' := lv) (st' := [.int (Int32.ofInt 0)]) aj_d251 rfl (Nat.le_succ _) (fun _ => rfl) ?_
        refine fx_s0 (j := 3) aj_d251 rfl (Nat.le_succ _) (by decide) (fun _ => rfl) ?_
        obtain ⟨lv14, elv14⟩ : ∃ l, l = aj_set1 lv 3 (.int (Int32.ofInt 0)) := ⟨_, rfl⟩
        rw [← elv14]
        have hlv14_0 : aj_lv lv14 0 = some (.ref 117) := fx_e1 elv14 hlv_0 (by decide) (Or.inl (by decide))
        have hlv14_1 : aj_lv lv14 1 = some (.int p1) := fx_e1 elv14 hlv_1 (by decide) (Or.inl (by decide))
        have hlv14_2 : aj_lv lv14 2 = some (.int p2) := fx_e1 elv14 hlv_2 (by decide) (Or.inr rfl)
        have hlv14_3 : aj_lv lv14 3 = some (.int (Int32.ofInt 0)) := by rw [elv14]; exact ak_set1_eq _ _ _
        show fx_W _ _ _ 62 lv14 [] _ _
        exact (ih.2) lv14 ((Int32.ofInt 0)) X  hlv14_0 hlv14_1 hlv14_2 hlv14_3
      · skip
        refine fx_qi (c := (y3).toInt < 8) (fx_f_ge q13) ?_
        show fx_W _ _ _ 32 lv [] _ _
        refine fx_i2 aj_d251 rfl (Nat.le_succ _) (fun _ => rfl) hlv_0 ?_
        refine fx_gF aj_d251 rfl (Nat.le_succ _) rfl rfl fx_in_11_17 (t := 133) rfl (fun hA15 => ?_)
        refine fx_i0 aj_d251 rfl (Nat.le_succ _) (fun _ => rfl) hlv_2 ?_
        refine fx_n (pc' := 39) (lv' := lv) (st' := [.int ((Int8.ofInt 8).toInt32), .int p2, .ref 133]) aj_d251 rfl (Nat.le_succ _) (fun _ => rfl) ?_
        refine fx_n (pc' := 40) (lv' := lv) (st' := [.int (p2 * ((Int8.ofInt 8).toInt32)), .ref 133]) aj_d251 rfl (Nat.le_succ _) (fun _ => rfl) ?_
        refine fx_i0 aj_d251 rfl (Nat.le_succ _) (fun _ => rfl) hlv_3 ?_
        refine fx_n (pc' := 42) (lv' := lv) (st' := [.int ((p2 * ((Int8.ofInt 8).toInt32)) + y3), .ref 133]) aj_d251 rfl (Nat.le_succ _) (fun _ => rfl) ?_
        refine fx_i2 aj_d251 rfl (Nat.le_succ _) (fun _ => rfl) hlv_0 ?_
        refine fx_gF aj_d251 rfl (Nat.le_succ _) rfl rfl fx_in_11_17 (t := 133) rfl (fun hA16 => ?_)
        refine fx_i0 aj_d251 rfl (Nat.le_succ _) (fun _ => rfl) hlv_1 ?_
        refine fx_n (pc' := 49) (lv' := lv) (st' := [.int ((Int8.ofInt 8).toInt32), .int p1, .ref 133, .int ((p2 * ((Int8.ofInt 8).toInt32)) + y3), .ref 133]) aj_d251 rfl (Nat.le_succ _) (fun _ => rfl) ?_
        refine fx_n (pc' := 50) (lv' := lv) (st' := [.int (p1 * ((Int8.ofInt 8).toInt32)), .ref 133, .int ((p2 * ((Int8.ofInt 8).toInt32)) + y3), .ref 133]) aj_d251 rfl (Nat.le_succ _) (fun _ => rfl) ?_
        refine fx_i0 aj_d251 rfl (Nat.le_succ _) (fun _ => rfl) hlv_3 ?_
        refine fx_n (pc' := 52) (lv' := lv) (st' := [.int ((p1 * ((Int8.ofInt 8).toInt32)) + y3), .ref 133, .int ((p2 * ((Int8.ofInt 8).toInt32)) + y3), .ref 133]) aj_d251 rfl (Nat.le_succ _) (fun _ => rfl) ?_
        refine fx_ldL aj_d251 rfl (Nat.le_succ _) (fun g170 g171 => ?_)
        show fx_W _ _ _ 53 lv [.long (X.2.1 133 (((p1 * ((Int8.ofInt 8).toInt32)) + y3)).toInt.toNat), .int ((p2 * ((Int8.ofInt 8).toInt32)) + y3), .ref 133] _ _
        refine fx_qa (c := 0 ≤ (((p1 * ((Int8.ofInt 8).toInt32)) + y3)).toInt ∧ (((p1 * ((Int8.ofInt 8).toInt32)) + y3)).toInt < ((400 : Nat) : Int)) ⟨g170, fx_lnk g171 hA16⟩ ?_
        refine fx_sL aj_d251 rfl (Nat.le_succ _) (fun g180 g181 => ?_)
        refine fx_qa (c := 0 ≤ (((p2 * ((Int8.ofInt 8).toInt32)) + y3)).toInt ∧ (((p2 * ((Int8.ofInt 8).toInt32)) + y3)).toInt < ((400 : Nat) : Int)) ⟨g180, fx_lnk g181 hA15⟩ ?_
        refine fx_qX (fun X19 eX19 => ?_)
        show fx_W _ _ _ 54 lv [] _ _
        refine fx_incq aj_d251 rfl (Nat.le_succ _) hlv_3 (by decide) (fun x20 ex20 => ?_)
        obtain ⟨lv21, elv21⟩ : ∃ l, l = aj_set1 lv 3 (.int x20) := ⟨_, rfl⟩
        rw [← elv21]
        have hlv21_0 : aj_lv lv21 0 = some (.ref 117) := fx_e1 elv21 hlv_0 (by decide) (Or.inl (by decide))
        have hlv21_1 : aj_lv lv21 1 = some (.int p1) := fx_e1 elv21 hlv_1 (by decide) (Or.inl (by decide))
        have hlv21_2 : aj_lv lv21 2 = some (.int p2) := fx_e1 elv21 hlv_2 (by decide) (Or.inr rfl)
        have hlv21_3 : aj_lv lv21 3 = some (.int x20) := by rw [elv21]; exact ak_set1_eq _ _ _
        show fx_W _ _ _ 57 lv21 [] _ _
        refine fx_n (pc' := 26) (lv' := lv21) (st' := []) aj_d251 rfl (Nat.le_succ _) (fun _ => rfl) ?_
        exact (ih.1) lv21 (x20) X19  hlv21_0 hlv21_1 hlv21_2 hlv21_3
    · intro lv y3 X hlv_0 hlv_1 hlv_2 hlv_3
      refine fx_mono (Q := fx_Q fx_qN (fun v X' => ∃ n : Nat, gxT_251_62 p1 p2 (gxF_251 p1 p2 n) y3 X v X')) (fun r X' ⟨v, e, n, z⟩ => ⟨v, e, n + 1, gxI_251_62 z⟩) ?_
      unfold gxT_251_62
      refine fx_i2 aj_d251 rfl (Nat.le_refl _) (fun _ => rfl) hlv_0 ?_
      refine fx_gI aj_d251 rfl (Nat.le_succ _) rfl rfl (Or.inr (Or.inl rfl)) ?_
      refine fx_b0 (tgt := 93) aj_d251 rfl (Nat.le_succ _) rfl (fun q22 => ?_) (fun q22 => ?_)
      · skip
        refine fx_qi (c := ((X.1 117 32)).toInt = 0) (fx_t_eq q22) ?_
        show fx_W _ _ _ 93 lv [] _ _
        exact fx_rn aj_d251 rfl ⟨(), rfl, 0, rfl⟩
      · skip
        refine fx_qe (c := ((X.1 117 32)).toInt = 0) (fx_f_eq q22) ?_
        show fx_W _ _ _ 69 lv [] _ _
        refine fx_i0 aj_d251 rfl (Nat.le_succ _) (fun _ => rfl) hlv_3 ?_
        refine fx_i2 aj_d251 rfl (Nat.le_succ _) (fun _ => rfl) hlv_0 ?_
        refine fx_gF aj_d251 rfl (Nat.le_succ _) rfl rfl fx_in_11_15 (t := 131) rfl (fun hA23 => ?_)
        refine fx_i0 aj_d251 rfl (Nat.le_succ _) (fun _ => rfl) hlv_1 ?_
        refine fx_ld aj_d251 (Or.inl rfl) rfl (Nat.le_succ _) (fun g240 g241 => ?_)
        show fx_W _ _ _ 76 lv [.int (X.1 131 (p1).toInt.toNat), .int y3] _ _
        refine fx_qa (c := 0 ≤ (p1).toInt ∧ (p1).toInt < ((50 : Nat) : Int)) ⟨g240, fx_lnk g241 hA23⟩ ?_
        refine fx_b (tgt := 93) aj_d251 rfl (Nat.le_succ _) rfl (fun q25 => ?_) (fun q25 => ?_)
        · skip
          refine fx_qe (c := (y3).toInt < ((X.1 131 (p1).toInt.toNat)).toInt) (fx_t_ge q25) ?_
          show fx_W _ _ _ 93 lv [] _ _
          exact fx_rn aj_d251 rfl ⟨(), rfl, 0, rfl⟩
        · skip
          refine fx_qi (c := (y3).toInt < ((X.1 131 (p1).toInt.toNat)).toInt) (fx_f_ge q25) ?_
          show fx_W _ _ _ 79 lv [] _ _
          refine fx_i2 aj_d251 rfl (Nat.le_succ _) (fun _ => rfl) hlv_0 ?_
          refine fx_i0 aj_d251 rfl (Nat.le_succ _) (fun _ => rfl) hlv_1 ?_
          refine fx_i0 aj_d251 rfl (Nat.le_succ _) (fun _ => rfl) hlv_3 ?_
          refine fx_i0 aj_d251 rfl (Nat.le_succ _) (fun _ => rfl) hlv_2 ?_
          refine fx_i0 aj_d251 rfl (Nat.le_succ _) (fun _ => rfl) hlv_3 ?_
          refine fx_cv aj_d251 rfl (Nat.le_succ _) rfl [_, _, _, _] rfl rfl (gx_252_ok p1 y3 p2 y3) ?_
          rintro _ X26 ⟨w27, rfl, hR26⟩ hok26 hle26
          refine fx_qc hR26 ?_
          show fx_W _ _ _ 87 lv [] _ _
          refine fx_incq aj_d251 rfl (Nat.le_succ _) hlv_3 (by decide) (fun x28 ex28 => ?_)
          obtain ⟨lv29, elv29⟩ : ∃ l, l = aj_set1 lv 3 (.int x28) := ⟨_, rfl⟩
          rw [← elv29]
          have hlv29_0 : aj_lv lv29 0 = some (.ref 117) := fx_e1 elv29 hlv_0 (by decide) (Or.inl (by decide))
          have hlv29_1 : aj_lv lv29 1 = some (.int p1) := fx_e1 elv29 hlv_1 (by decide) (Or.inl (by decide))
          have hlv29_2 : aj_lv lv29 2 = some (.int p2) := fx_e1 elv29 hlv_2 (by decide) (Or.inr rfl)
          have hlv29_3 : aj_lv lv29 3 = some (.int x28) := by rw [elv29]; exact ak_set1_eq _ _ _
          show fx_W _ _ _ 90 lv29 [] _ _
          refine fx_n (pc' := 62) (lv' := lv29) (st' := []) aj_d251 rfl (Nat.le_succ _) (fun _ => rfl) ?_
          exact (ih.2) lv29 (x28) X26  hlv29_0 hlv29_1 hlv29_2 hlv29_3
theorem gx_251_ok {tb : aj_T} (p1 : Int32) (p2 : Int32) {X : fx_X} : fx_K tb 251 [.ref 117, .int p1, .int p2] X (fx_Q fx_qN (fun v X' => gx_251 p1 p2 X v X')) := by
  refine fx_m aj_m251_at rfl (fun N => ?_)
  refine fx_mono (Q := fx_Q fx_qN (fun v X' => ∃ n : Nat, gxE_251 p1 p2 (gxF_251 p1 p2 n) X v X')) (fun r X' h => h) ?_
  unfold gxE_251
  show fx_W _ _ _ 0 [(0, .ref 117), (1, .int p1), (2, .int p2)] [] _ _
  obtain ⟨lv1, elv1⟩ : ∃ l : aj_V, l = [(0, .ref 117), (1, .int p1), (2, .int p2)] := ⟨_, rfl⟩
  rw [← elv1]
  have hlv1_0 : aj_lv lv1 0 = some (.ref 117) := by rw [elv1]; rfl
  have hlv1_1 : aj_lv lv1 1 = some (.int p1) := by rw [elv1]; rfl
  have hlv1_2 : aj_lv lv1 2 = some (.int p2) := by rw [elv1]; rfl
  refine fx_i2 aj_d251 rfl (Nat.le_succ _) (fun _ => rfl) hlv1_0 ?_
  refine fx_gF aj_d251 rfl (Nat.le_succ _) rfl rfl fx_in_11_15 (t := 131) rfl (fun hA2 => ?_)
  refine fx_i0 aj_d251 rfl (Nat.le_succ _) (fun _ => rfl) hlv1_2 ?_
  refine fx_i2 aj_d251 rfl (Nat.le_succ _) (fun _ => rfl) hlv1_0 ?_
  refine fx_gF aj_d251 rfl (Nat.le_succ _) rfl rfl fx_in_11_15 (t := 131) rfl (fun hA3 => ?_)
  refine fx_i0 aj_d251 rfl (Nat.le_succ _) (fun _ => rfl) hlv1_1 ?_
  refine fx_ld aj_d251 (Or.inl rfl) rfl (Nat.le_succ _) (fun g40 g41 => ?_)
  show fx_W _ _ _ 11 lv1 [.int (X.1 131 (p1).toInt.toNat), .int p2, .ref 131] _ _
  refine fx_qa (c := 0 ≤ (p1).toInt ∧ (p1).toInt < ((50 : Nat) : Int)) ⟨g40, fx_lnk g41 hA3⟩ ?_
  refine fx_st aj_d251 (Or.inl ⟨rfl, rfl⟩) rfl (Nat.le_succ _) (fun g50 g51 => ?_)
  show fx_W _ _ _ _ _ _ (fx_wI X 131 (p2).toInt.toNat (X.1 131 (p1).toInt.toNat)) _
  refine fx_qa (c := 0 ≤ (p2).toInt ∧ (p2).toInt < ((50 : Nat) : Int)) ⟨g50, fx_lnk g51 hA2⟩ ?_
  refine fx_qX (fun X6 eX6 => ?_)
  show fx_W _ _ _ 12 lv1 [] _ _
  refine fx_i2 aj_d251 rfl (Nat.le_succ _) (fun _ => rfl) hlv1_0 ?_
  refine fx_gF aj_d251 rfl (Nat.le_succ _) rfl rfl fx_in_11_16 (t := 132) rfl (fun hA7 => ?_)
  refine fx_i0 aj_d251 rfl (Nat.le_succ _) (fun _ => rfl) hlv1_2 ?_
  refine fx_i2 aj_d251 rfl (Nat.le_succ _) (fun _ => rfl) hlv1_0 ?_
  refine fx_gF aj_d251 rfl (Nat.le_succ _) rfl rfl fx_in_11_16 (t := 132) rfl (fun hA8 => ?_)
  refine fx_i0 aj_d251 rfl (Nat.le_succ _) (fun _ => rfl) hlv1_1 ?_
  refine fx_ld aj_d251 (Or.inl rfl) rfl (Nat.le_succ _) (fun g90 g91 => ?_)
  show fx_W _ _ _ 23 lv1 [.int (X6.1 132 (p1).toInt.toNat), .int p2, .ref 132] _ _
  refine fx_qa (c := 0 ≤ (p1).toInt ∧ (p1).toInt < ((50 : Nat) : Int)) ⟨g90, fx_lnk g91 hA8⟩ ?_
  refine fx_st aj_d251 (Or.inl ⟨rfl, rfl⟩) rfl (Nat.le_succ _) (fun g100 g101 => ?_)
  show fx_W _ _ _ _ _ _ (fx_wI X6 132 (p2).toInt.toNat (X6.1 132 (p1).toInt.toNat)) _
  refine fx_qa (c := 0 ≤ (p2).toInt ∧ (p2).toInt < ((50 : Nat) : Int)) ⟨g100, fx_lnk g101 hA7⟩ ?_
  refine fx_qX (fun X11 eX11 => ?_)
  show fx_W _ _ _ 24 lv1 [] _ _
  refine fx_n (pc' := 25) (lv' := lv1) (st' := [.int (Int32.ofInt 0)]) aj_d251 rfl (Nat.le_succ _) (fun _ => rfl) ?_
  refine fx_s0 (j := 3) aj_d251 rfl (Nat.le_succ _) (by decide) (fun _ => rfl) ?_
  obtain ⟨lv12, elv12⟩ : ∃ l, l = aj_set1 lv1 3 (.int (Int32.ofInt 0)) := ⟨_, rfl⟩
  rw [← elv12]
  have hlv12_0 : aj_lv lv12 0 = some (.ref 117) := fx_e1 elv12 hlv1_0 (by decide) (Or.inl (by decide))
  have hlv12_1 : aj_lv lv12 1 = some (.int p1) := fx_e1 elv12 hlv1_1 (by decide) (Or.inl (by decide))
  have hlv12_2 : aj_lv lv12 2 = some (.int p2) := fx_e1 elv12 hlv1_2 (by decide) (Or.inr rfl)
  have hlv12_3 : aj_lv lv12 3 = some (.int (Int32.ofInt 0)) := by rw [elv12]; exact ak_set1_eq _ _ _
  show fx_W _ _ _ 26 lv12 [] _ _
  exact ((gxL_251 p1 p2 N).1) lv12 ((Int32.ofInt 0)) X11  hlv12_0 hlv12_1 hlv12_2 hlv12_3
def gx_259 (p1 : Int32) (X : fx_X) (v : Int32) (X' : fx_X) : Prop :=
  (if (p1).toInt < 20 then (v = (p1 / ((Int8.ofInt 10).toInt32)) ∧ X' = X) else (v = (X.1 117 37) ∧ X' = X))
theorem gx_259_ok {tb : aj_T} (p1 : Int32) {X : fx_X} : fx_K tb 259 [.ref 117, .int p1] X (fx_Q fx_qI (fun v X' => gx_259 p1 X v X')) := by
  refine fx_m aj_m259_at rfl (fun N => ?_)
  refine fx_mono (Q := fx_Q fx_qI (fun v X' => ∃ n : Nat, gx_259 p1 X v X')) (fun r X' ⟨v, e, _, z⟩ => ⟨v, e, z⟩) ?_
  unfold gx_259
  show fx_W _ _ _ 0 [(0, .ref 117), (1, .int p1)] [] _ _
  obtain ⟨lv1, elv1⟩ : ∃ l : aj_V, l = [(0, .ref 117), (1, .int p1)] := ⟨_, rfl⟩
  rw [← elv1]
  have hlv1_0 : aj_lv lv1 0 = some (.ref 117) := by rw [elv1]; rfl
  have hlv1_1 : aj_lv lv1 1 = some (.int p1) := by rw [elv1]; rfl
  refine fx_i0 aj_d259 rfl (Nat.le_succ _) (fun _ => rfl) hlv1_1 ?_
  refine fx_n (pc' := 3) (lv' := lv1) (st' := [.int ((Int8.ofInt 20).toInt32), .int p1]) aj_d259 rfl (Nat.le_succ _) (fun _ => rfl) ?_
  refine fx_b (tgt := 13) aj_d259 rfl (Nat.le_succ _) rfl (fun q2 => ?_) (fun q2 => ?_)
  · skip
    refine fx_qe (c := (p1).toInt < 20) (fx_t_ge q2) ?_
    show fx_W _ _ _ 13 lv1 [] _ _
    refine fx_i2 aj_d259 rfl (Nat.le_succ _) (fun _ => rfl) hlv1_0 ?_
    refine fx_gI aj_d259 rfl (Nat.le_succ _) rfl rfl (Or.inl rfl) ?_
    exact fx_ri aj_d259 rfl ⟨_, rfl, 0, rfl, rfl⟩
  · skip
    refine fx_qi (c := (p1).toInt < 20) (fx_f_ge q2) ?_
    show fx_W _ _ _ 6 lv1 [] _ _
    refine fx_i0 aj_d259 rfl (Nat.le_succ _) (fun _ => rfl) hlv1_1 ?_
    refine fx_n (pc' := 9) (lv' := lv1) (st' := [.int ((Int8.ofInt 10).toInt32), .int p1]) aj_d259 rfl (Nat.le_succ _) (fun _ => rfl) ?_
    refine fx_dv aj_d259 rfl (Nat.le_succ _) (fun q3 => ?_)
    refine fx_n (pc' := 17) (lv' := lv1) (st' := [.int (p1 / ((Int8.ofInt 10).toInt32))]) aj_d259 rfl (Nat.le_succ _) (fun _ => rfl) ?_
    exact fx_ri aj_d259 rfl ⟨_, rfl, 0, rfl, rfl⟩
def gx_241 (p1 : Int32) (p2 : Int32) (p3 : Int32) (X : fx_X) (v : Int32) (X' : fx_X) : Prop :=
  (0 ≤ (((((p1 * ((Int8.ofInt 8).toInt32)) + p2) * ((Int16.ofInt 1024).toInt32)) + p3)).toInt ∧ (((((p1 * ((Int8.ofInt 8).toInt32)) + p2) * ((Int16.ofInt 1024).toInt32)) + p3)).toInt < ((16384 : Nat) : Int)) ∧ v = (X.1 123 (((((p1 * ((Int8.ofInt 8).toInt32)) + p2) * ((Int16.ofInt 1024).toInt32)) + p3)).toInt.toNat) ∧ X' = X
theorem gx_241_ok {tb : aj_T} (p1 : Int32) (p2 : Int32) (p3 : Int32) {X : fx_X} : fx_K tb 241 [.ref 117, .int p1, .int p2, .int p3] X (fx_Q fx_qI (fun v X' => gx_241 p1 p2 p3 X v X')) := by
  refine fx_m aj_m241_at rfl (fun N => ?_)
  refine fx_mono (Q := fx_Q fx_qI (fun v X' => ∃ n : Nat, gx_241 p1 p2 p3 X v X')) (fun r X' ⟨v, e, _, z⟩ => ⟨v, e, z⟩) ?_
  unfold gx_241
  show fx_W _ _ _ 0 [(0, .ref 117), (1, .int p1), (2, .int p2), (3, .int p3)] [] _ _
  obtain ⟨lv1, elv1⟩ : ∃ l : aj_V, l = [(0, .ref 117), (1, .int p1), (2, .int p2), (3, .int p3)] := ⟨_, rfl⟩
  rw [← elv1]
  have hlv1_0 : aj_lv lv1 0 = some (.ref 117) := by rw [elv1]; rfl
  have hlv1_1 : aj_lv lv1 1 = some (.int p1) := by rw [elv1]; rfl
  have hlv1_2 : aj_lv lv1 2 = some (.int p2) := by rw [elv1]; rfl
  have hlv1_3 : aj_lv lv1 3 = some (.int p3) := by rw [elv1]; rfl
  refine fx_i2 aj_d241 rfl (Nat.le_succ _) (fun _ => rfl) hlv1_0 ?_
  refine fx_gF aj_d241 rfl (Nat.le_succ _) rfl rfl fx_in_11_6 (t := 123) rfl (fun hA2 => ?_)
  refine fx_i0 aj_d241 rfl (Nat.le_succ _) (fun _ => rfl) hlv1_1 ?_
  refine fx_n (pc' := 7) (lv' := lv1) (st' := [.int ((Int8.ofInt 8).toInt32), .int p1, .ref 123]) aj_d241 rfl (Nat.le_succ _) (fun _ => rfl) ?_
  refine fx_n (pc' := 8) (lv' := lv1) (st' := [.int (p1 * ((Int8.ofInt 8).toInt32)), .ref 123]) aj_d241 rfl (Nat.le_succ _) (fun _ => rfl) ?_
  refine fx_i0 aj_d241 rfl (Nat.le_succ _) (fun _ => rfl) hlv1_2 ?_
  refine fx_n (pc' := 10) (lv' := lv1) (st' := [.int ((p1 * ((Int8.ofInt 8).toInt32)) + p2), .ref 123]) aj_d241 rfl (Nat.le_succ _) (fun _ => rfl) ?_
  refine fx_n (pc' := 13) (lv' := lv1) (st' := [.int ((Int16.ofInt 1024).toInt32), .int ((p1 * ((Int8.ofInt 8).toInt32)) + p2), .ref 123]) aj_d241 rfl (Nat.le_succ _) (fun _ => rfl) ?_
  refine fx_n (pc' := 14) (lv' := lv1) (st' := [.int (((p1 * ((Int8.ofInt 8).toInt32)) + p2) * ((Int16.ofInt 1024).toInt32)), .ref 123]) aj_d241 rfl (Nat.le_succ _) (fun _ => rfl) ?_
  refine fx_i0 aj_d241 rfl (Nat.le_succ _) (fun _ => rfl) hlv1_3 ?_
  refine fx_n (pc' := 16) (lv' := lv1) (st' := [.int ((((p1 * ((Int8.ofInt 8).toInt32)) + p2) * ((Int16.ofInt 1024).toInt32)) + p3), .ref 123]) aj_d241 rfl (Nat.le_succ _) (fun _ => rfl) ?_
  refine fx_ld aj_d241 (Or.inl rfl) rfl (Nat.le_succ _) (fun g30 g31 => ?_)
  show fx_W _ _ _ 17 lv1 [.int (X.1 123 (((((p1 * ((Int8.ofInt 8).toInt32)) + p2) * ((Int16.ofInt 1024).toInt32)) + p3)).toInt.toNat)] _ _
  refine fx_qa (c := 0 ≤ (((((p1 * ((Int8.ofInt 8).toInt32)) + p2) * ((Int16.ofInt 1024).toInt32)) + p3)).toInt ∧ (((((p1 * ((Int8.ofInt 8).toInt32)) + p2) * ((Int16.ofInt 1024).toInt32)) + p3)).toInt < ((16384 : Nat) : Int)) ⟨g30, fx_lnk g31 hA2⟩ ?_
  exact fx_ri aj_d241 rfl ⟨_, rfl, 0, rfl, rfl⟩
def gx_240 (p1 : Int32) (p2 : Int32) (p3 : Int32) (p4 : Int32) (X : fx_X) (v : Int32) (X' : fx_X) : Prop :=
  (if (p2).toInt = 1 then (∃ (w4 : Int32) (X3 : fx_X), gx_241 p1 p3 p4 X w4 X3 ∧ v = w4 ∧ X' = X3) else (v = p3 ∧ X' = X))
theorem gx_240_ok {tb : aj_T} (p1 : Int32) (p2 : Int32) (p3 : Int32) (p4 : Int32) {X : fx_X} : fx_K tb 240 [.ref 117, .int p1, .int p2, .int p3, .int p4] X (fx_Q fx_qI (fun v X' => gx_240 p1 p2 p3 p4 X v X')) := by
  refine fx_m aj_m240_at rfl (fun N => ?_)
  refine fx_mono (Q := fx_Q fx_qI (fun v X' => ∃ n : Nat, gx_240 p1 p2 p3 p4 X v X')) (fun r X' ⟨v, e, _, z⟩ => ⟨v, e, z⟩) ?_
  unfold gx_240
  show fx_W _ _ _ 0 [(0, .ref 117), (1, .int p1), (2, .int p2), (3, .int p3), (4, .int p4)] [] _ _
  obtain ⟨lv1, elv1⟩ : ∃ l : aj_V, l = [(0, .ref 117), (1, .int p1), (2, .int p2), (3, .int p3), (4, .int p4)] := ⟨_, rfl⟩
  rw [← elv1]
  have hlv1_0 : aj_lv lv1 0 = some (.ref 117) := by rw [elv1]; rfl
  have hlv1_1 : aj_lv lv1 1 = some (.int p1) := by rw [elv1]; rfl
  have hlv1_2 : aj_lv lv1 2 = some (.int p2) := by rw [elv1]; rfl
  have hlv1_3 : aj_lv lv1 3 = some (.int p3) := by rw [elv1]; rfl
  have hlv1_4 : aj_lv lv1 4 = some (.int p4) := by rw [elv1]; rfl
  refine fx_i0 aj_d240 rfl (Nat.le_succ _) (fun _ => rfl) hlv1_2 ?_
  refine fx_n (pc' := 2) (lv' := lv1) (st' := [.int (Int32.ofInt 1), .int p2]) aj_d240 rfl (Nat.le_succ _) (fun _ => rfl) ?_
  refine fx_b (tgt := 16) aj_d240 rfl (Nat.le_succ _) rfl (fun q2 => ?_) (fun q2 => ?_)
  · skip
    refine fx_qe (c := (p2).toInt = 1) (fx_t_ne q2) ?_
    show fx_W _ _ _ 16 lv1 [] _ _
    refine fx_i0 aj_d240 rfl (Nat.le_succ _) (fun _ => rfl) hlv1_3 ?_
    exact fx_ri aj_d240 rfl ⟨_, rfl, 0, rfl, rfl⟩
  · skip
    refine fx_qi (c := (p2).toInt = 1) (fx_f_ne q2) ?_
    show fx_W _ _ _ 5 lv1 [] _ _
    refine fx_i2 aj_d240 rfl (Nat.le_succ _) (fun _ => rfl) hlv1_0 ?_
    refine fx_i0 aj_d240 rfl (Nat.le_succ _) (fun _ => rfl) hlv1_1 ?_
    refine fx_i0 aj_d240 rfl (Nat.le_succ _) (fun _ => rfl) hlv1_3 ?_
    refine fx_i0 aj_d240 rfl (Nat.le_succ _) (fun _ => rfl) hlv1_4 ?_
    refine fx_cv aj_d240 rfl (Nat.le_succ _) rfl [_, _, _] rfl rfl (gx_241_ok p1 p3 p4) ?_
    rintro _ X3 ⟨w4, rfl, hR3⟩ hok3 hle3
    refine fx_qc hR3 ?_
    show fx_W _ _ _ 13 lv1 [.int w4] _ _
    refine fx_n (pc' := 17) (lv' := lv1) (st' := [.int w4]) aj_d240 rfl (Nat.le_succ _) (fun _ => rfl) ?_
    exact fx_ri aj_d240 rfl ⟨_, rfl, 0, rfl, rfl⟩
def gx_258 (p1 : Int32) (p2 : Int32) (p3 : Int32) (p4 : Int32) (X : fx_X) (v : Int32) (X' : fx_X) : Prop :=
  ∃ (w3 : Int32) (X2 : fx_X), gx_236 p1 p2 p3 X w3 X2 ∧ ∃ (w6 : Int32) (X5 : fx_X), gx_259 p1 X2 w6 X5 ∧ (0 ≤ (w3).toInt ∧ (w3).toInt < ((12000 : Nat) : Int)) ∧ (0 ≤ (w3).toInt ∧ (w3).toInt < ((12000 : Nat) : Int)) ∧ ∃ (w12 : Int32) (X11 : fx_X), gx_240 w6 (X5.1 134 (w3).toInt.toNat) (X5.1 135 (w3).toInt.toNat) p4 X5 w12 X11 ∧ v = w12 ∧ X' = X11
theorem gx_258_ok {tb : aj_T} (p1 : Int32) (p2 : Int32) (p3 : Int32) (p4 : Int32) {X : fx_X} : fx_K tb 258 [.ref 117, .int p1, .int p2, .int p3, .int p4] X (fx_Q fx_qI (fun v X' => gx_258 p1 p2 p3 p4 X v X')) := by
  refine fx_m aj_m258_at rfl (fun N => ?_)
  refine fx_mono (Q := fx_Q fx_qI (fun v X' => ∃ n : Nat, gx_258 p1 p2 p3 p4 X v X')) (fun r X' ⟨v, e, _, z⟩ => ⟨v, e, z⟩) ?_
  unfold gx_258
  show fx_W _ _ _ 0 [(0, .ref 117), (1, .int p1), (2, .int p2), (3, .int p3), (4, .int p4)] [] _ _
  obtain ⟨lv1, elv1⟩ : ∃ l : aj_V, l = [(0, .ref 117), (1, .int p1), (2, .int p2), (3, .int p3), (4, .int p4)] := ⟨_, rfl⟩
  rw [← elv1]
  have hlv1_0 : aj_lv lv1 0 = some (.ref 117) := by rw [elv1]; rfl
  have hlv1_1 : aj_lv lv1 1 = some (.int p1) := by rw [elv1]; rfl
  have hlv1_2 : aj_lv lv1 2 = some (.int p2) := by rw [elv1]; rfl
  have hlv1_3 : aj_lv lv1 3 = some (.int p3) := by rw [elv1]; rfl
  have hlv1_4 : aj_lv lv1 4 = some (.int p4) := by rw [elv1]; rfl
  refine fx_i0 aj_d258 rfl (Nat.le_succ _) (fun _ => rfl) hlv1_1 ?_
  refine fx_i0 aj_d258 rfl (Nat.le_succ _) (fun _ => rfl) hlv1_2 ?_
  refine fx_i0 aj_d258 rfl (Nat.le_succ _) (fun _ => rfl) hlv1_3 ?_
  refine fx_cs aj_d258 rfl (Nat.le_succ _) rfl rfl [_, _, _] rfl rfl (gx_236_ok p1 p2 p3) ?_
  rintro _ X2 ⟨w3, rfl, hR2⟩ hok2 hle2
  refine fx_qc hR2 ?_
  show fx_W _ _ _ 6 lv1 [.int w3] _ _
  refine fx_s0 (j := 5) aj_d258 rfl (Nat.le_succ _) (by decide) (fun _ => rfl) ?_
  obtain ⟨lv4, elv4⟩ : ∃ l, l = aj_set1 lv1 5 (.int w3) := ⟨_, rfl⟩
  rw [← elv4]
  have hlv4_0 : aj_lv lv4 0 = some (.ref 117) := fx_e1 elv4 hlv1_0 (by decide) (Or.inl (by decide))
  have hlv4_1 : aj_lv lv4 1 = some (.int p1) := fx_e1 elv4 hlv1_1 (by decide) (Or.inl (by decide))
  have hlv4_4 : aj_lv lv4 4 = some (.int p4) := fx_e1 elv4 hlv1_4 (by decide) (Or.inr rfl)
  have hlv4_5 : aj_lv lv4 5 = some (.int w3) := by rw [elv4]; exact ak_set1_eq _ _ _
  show fx_W _ _ _ 8 lv4 [] _ _
  refine fx_i2 aj_d258 rfl (Nat.le_succ _) (fun _ => rfl) hlv4_0 ?_
  refine fx_i2 aj_d258 rfl (Nat.le_succ _) (fun _ => rfl) hlv4_0 ?_
  refine fx_i0 aj_d258 rfl (Nat.le_succ _) (fun _ => rfl) hlv4_1 ?_
  refine fx_cv aj_d258 rfl (Nat.le_succ _) rfl [_] rfl rfl (gx_259_ok p1) ?_
  rintro _ X5 ⟨w6, rfl, hR5⟩ hok5 hle5
  refine fx_qc hR5 ?_
  show fx_W _ _ _ 14 lv4 [.int w6, .ref 117] _ _
  refine fx_i2 aj_d258 rfl (Nat.le_succ _) (fun _ => rfl) hlv4_0 ?_
  refine fx_gF aj_d258 rfl (Nat.le_succ _) rfl rfl fx_in_11_18 (t := 134) rfl (fun hA7 => ?_)
  refine fx_i0 aj_d258 rfl (Nat.le_succ _) (fun _ => rfl) hlv4_5 ?_
  refine fx_ld aj_d258 (Or.inr (Or.inr rfl)) rfl (Nat.le_succ _) (fun g80 g81 => ?_)
  show fx_W _ _ _ 21 lv4 [.int (X5.1 134 (w3).toInt.toNat), .int w6, .ref 117] _ _
  refine fx_qa (c := 0 ≤ (w3).toInt ∧ (w3).toInt < ((12000 : Nat) : Int)) ⟨g80, fx_lnk g81 hA7⟩ ?_
  refine fx_i2 aj_d258 rfl (Nat.le_succ _) (fun _ => rfl) hlv4_0 ?_
  refine fx_gF aj_d258 rfl (Nat.le_succ _) rfl rfl fx_in_11_19 (t := 135) rfl (fun hA9 => ?_)
  refine fx_i0 aj_d258 rfl (Nat.le_succ _) (fun _ => rfl) hlv4_5 ?_
  refine fx_ld aj_d258 (Or.inl rfl) rfl (Nat.le_succ _) (fun g100 g101 => ?_)
  show fx_W _ _ _ 28 lv4 [.int (X5.1 135 (w3).toInt.toNat), .int (X5.1 134 (w3).toInt.toNat), .int w6, .ref 117] _ _
  refine fx_qa (c := 0 ≤ (w3).toInt ∧ (w3).toInt < ((12000 : Nat) : Int)) ⟨g100, fx_lnk g101 hA9⟩ ?_
  refine fx_i0 aj_d258 rfl (Nat.le_succ _) (fun _ => rfl) hlv4_4 ?_
  refine fx_cv aj_d258 rfl (Nat.le_succ _) rfl [_, _, _, _] rfl rfl (gx_240_ok w6 (X5.1 134 (w3).toInt.toNat) (X5.1 135 (w3).toInt.toNat) p4) ?_
  rintro _ X11 ⟨w12, rfl, hR11⟩ hok11 hle11
  refine fx_qc hR11 ?_
  show fx_W _ _ _ 33 lv4 [.int w12] _ _
  exact fx_ri aj_d258 rfl ⟨_, rfl, 0, rfl, rfl⟩
def gx_228 (p0 : Nat) (p1 : Int32) (p2 : Int32) (p3 : Int32) (X : fx_X) (v : Unit) (X' : fx_X) : Prop :=
  ∃ x2 : Int32, x2 = ((Int32.ofInt 1) <<< ((p2 &&& ((Int8.ofInt 31).toInt32)) &&& 31)) ∧ ∃ x4 : Int32, x4 = (p1 + (p2 >>> ((Int32.ofInt 5) &&& 31))) ∧ (if (p3).toInt = 0 then ((0 ≤ (x4).toInt) ∧ (0 ≤ (x4).toInt) ∧ ∃ X9 : fx_X, X9 = (fx_wI X p0 (x4).toInt.toNat ((X.1 p0 (x4).toInt.toNat) &&& (x2 ^^^ (Int32.ofInt (-1))))) ∧ X' = X9) else ((0 ≤ (x4).toInt) ∧ (0 ≤ (x4).toInt) ∧ ∃ X12 : fx_X, X12 = (fx_wI X p0 (x4).toInt.toNat ((X.1 p0 (x4).toInt.toNat) ||| x2)) ∧ X' = X12))
theorem gx_228_ok {tb : aj_T} (p0 : Nat) (p1 : Int32) (p2 : Int32) (p3 : Int32) {X : fx_X} : fx_K tb 228 [.ref p0, .int p1, .int p2, .int p3] X (fx_Q fx_qN (fun v X' => gx_228 p0 p1 p2 p3 X v X')) := by
  refine fx_m aj_m228_at rfl (fun N => ?_)
  refine fx_mono (Q := fx_Q fx_qN (fun v X' => ∃ n : Nat, gx_228 p0 p1 p2 p3 X v X')) (fun r X' ⟨v, e, _, z⟩ => ⟨v, e, z⟩) ?_
  unfold gx_228
  show fx_W _ _ _ 0 [(0, .ref p0), (1, .int p1), (2, .int p2), (3, .int p3)] [] _ _
  obtain ⟨lv1, elv1⟩ : ∃ l : aj_V, l = [(0, .ref p0), (1, .int p1), (2, .int p2), (3, .int p3)] := ⟨_, rfl⟩
  rw [← elv1]
  have hlv1_0 : aj_lv lv1 0 = some (.ref p0) := by rw [elv1]; rfl
  have hlv1_1 : aj_lv lv1 1 = some (.int p1) := by rw [elv1]; rfl
  have hlv1_2 : aj_lv lv1 2 = some (.int p2) := by rw [elv1]; rfl
  have hlv1_3 : aj_lv lv1 3 = some (.int p3) := by rw [elv1]; rfl
  refine fx_n (pc' := 1) (lv' := lv1) (st' := [.int (Int32.ofInt 1)]) aj_d228 rfl (Nat.le_succ _) (fun _ => rfl) ?_
  refine fx_i0 aj_d228 rfl (Nat.le_succ _) (fun _ => rfl) hlv1_2 ?_
  refine fx_n (pc' := 4) (lv' := lv1) (st' := [.int ((Int8.ofInt 31).toInt32), .int p2, .int (Int32.ofInt 1)]) aj_d228 rfl (Nat.le_succ _) (fun _ => rfl) ?_
  refine fx_n (pc' := 5) (lv' := lv1) (st' := [.int (p2 &&& ((Int8.ofInt 31).toInt32)), .int (Int32.ofInt 1)]) aj_d228 rfl (Nat.le_succ _) (fun _ => rfl) ?_
  refine fx_n (pc' := 6) (lv' := lv1) (st' := [.int ((Int32.ofInt 1) <<< ((p2 &&& ((Int8.ofInt 31).toInt32)) &&& 31))]) aj_d228 rfl (Nat.le_succ _) (fun _ => rfl) ?_
  refine fx_qxI (fun x2 ex2 => ?_)
  refine fx_s0 (j := 4) aj_d228 rfl (Nat.le_succ _) (by decide) (fun _ => rfl) ?_
  obtain ⟨lv3, elv3⟩ : ∃ l, l = aj_set1 lv1 4 (.int x2) := ⟨_, rfl⟩
  rw [← elv3]
  have hlv3_0 : aj_lv lv3 0 = some (.ref p0) := fx_e1 elv3 hlv1_0 (by decide) (Or.inl (by decide))
  have hlv3_1 : aj_lv lv3 1 = some (.int p1) := fx_e1 elv3 hlv1_1 (by decide) (Or.inl (by decide))
  have hlv3_2 : aj_lv lv3 2 = some (.int p2) := fx_e1 elv3 hlv1_2 (by decide) (Or.inl (by decide))
  have hlv3_3 : aj_lv lv3 3 = some (.int p3) := fx_e1 elv3 hlv1_3 (by decide) (Or.inr rfl)
  have hlv3_4 : aj_lv lv3 4 = some (.int x2) := by rw [elv3]; exact ak_set1_eq _ _ _
  show fx_W _ _ _ 8 lv3 [] _ _
  refine fx_i0 aj_d228 rfl (Nat.le_succ _) (fun _ => rfl) hlv3_1 ?_
  refine fx_i0 aj_d228 rfl (Nat.le_succ _) (fun _ => rfl) hlv3_2 ?_
  refine fx_n (pc' := 11) (lv' := lv3) (st' := [.int (Int32.ofInt 5), .int p2, .int p1]) aj_d228 rfl (Nat.le_succ _) (fun _ => rfl) ?_
  refine fx_n (pc' := 12) (lv' := lv3) (st' := [.int (p2 >>> ((Int32.ofInt 5) &&& 31)), .int p1]) aj_d228 rfl (Nat.le_succ _) (fun _ => rfl) ?_
  refine fx_n (pc' := 13) (lv' := lv3) (st' := [.int (p1 + (p2 >>> ((Int32.ofInt 5) &&& 31)))]) aj_d228 rfl (Nat.le_succ _) (fun _ => rfl) ?_
  refine fx_qxI (fun x4 ex4 => ?_)
  refine fx_s0 (j := 5) aj_d228 rfl (Nat.le_succ _) (by decide) (fun _ => rfl) ?_
  obtain ⟨lv5, elv5⟩ : ∃ l, l = aj_set1 lv3 5 (.int x4) := ⟨_, rfl⟩
  rw [← elv5]
  have hlv5_0 : aj_lv lv5 0 = some (.ref p0) := fx_e1 elv5 hlv3_0 (by decide) (Or.inl (by decide))
  have hlv5_3 : aj_lv lv5 3 = some (.int p3) := fx_e1 elv5 hlv3_3 (by decide) (Or.inl (by decide))
  have hlv5_4 : aj_lv lv5 4 = some (.int x2) := fx_e1 elv5 hlv3_4 (by decide) (Or.inr rfl)
  have hlv5_5 : aj_lv lv5 5 = some (.int x4) := by rw [elv5]; exact ak_set1_eq _ _ _
  show fx_W _ _ _ 15 lv5 [] _ _
  refine fx_i2 aj_d228 rfl (Nat.le_succ _) (fun _ => rfl) hlv5_0 ?_
  refine fx_i0 aj_d228 rfl (Nat.le_succ _) (fun _ => rfl) hlv5_5 ?_
  refine fx_i0 aj_d228 rfl (Nat.le_succ _) (fun _ => rfl) hlv5_3 ?_
  refine fx_b0 (tgt := 32) aj_d228 rfl (Nat.le_succ _) rfl (fun q6 => ?_) (fun q6 => ?_)
  · skip
    refine fx_qi (c := (p3).toInt = 0) (fx_t_eq q6) ?_
    show fx_W _ _ _ 32 lv5 [.int x4, .ref p0] _ _
    refine fx_i2 aj_d228 rfl (Nat.le_succ _) (fun _ => rfl) hlv5_0 ?_
    refine fx_i0 aj_d228 rfl (Nat.le_succ _) (fun _ => rfl) hlv5_5 ?_
    refine fx_ld aj_d228 (Or.inl rfl) rfl (Nat.le_succ _) (fun g70 g71 => ?_)
    show fx_W _ _ _ 36 lv5 [.int (X.1 p0 (x4).toInt.toNat), .int x4, .ref p0] _ _
    refine fx_qa (c := 0 ≤ (x4).toInt) g70 ?_
    refine fx_i0 aj_d228 rfl (Nat.le_succ _) (fun _ => rfl) hlv5_4 ?_
    refine fx_n (pc' := 39) (lv' := lv5) (st' := [.int (Int32.ofInt (-1)), .int x2, .int (X.1 p0 (x4).toInt.toNat), .int x4, .ref p0]) aj_d228 rfl (Nat.le_succ _) (fun _ => rfl) ?_
    refine fx_n (pc' := 40) (lv' := lv5) (st' := [.int (x2 ^^^ (Int32.ofInt (-1))), .int (X.1 p0 (x4).toInt.toNat), .int x4, .ref p0]) aj_d228 rfl (Nat.le_succ _) (fun _ => rfl) ?_
    refine fx_n (pc' := 41) (lv' := lv5) (st' := [.int ((X.1 p0 (x4).toInt.toNat) &&& (x2 ^^^ (Int32.ofInt (-1)))), .int x4, .ref p0]) aj_d228 rfl (Nat.le_succ _) (fun _ => rfl) ?_
    refine fx_st aj_d228 (Or.inl ⟨rfl, rfl⟩) rfl (Nat.le_succ _) (fun g80 g81 => ?_)
    show fx_W _ _ _ _ _ _ (fx_wI X p0 (x4).toInt.toNat ((X.1 p0 (x4).toInt.toNat) &&& (x2 ^^^ (Int32.ofInt (-1))))) _
    refine fx_qa (c := 0 ≤ (x4).toInt) g80 ?_
    refine fx_qX (fun X9 eX9 => ?_)
    show fx_W _ _ _ 42 lv5 [] _ _
    exact fx_rn aj_d228 rfl ⟨(), rfl, 0, rfl⟩
  · skip
    refine fx_qe (c := (p3).toInt = 0) (fx_f_eq q6) ?_
    show fx_W _ _ _ 22 lv5 [.int x4, .ref p0] _ _
    refine fx_i2 aj_d228 rfl (Nat.le_succ _) (fun _ => rfl) hlv5_0 ?_
    refine fx_i0 aj_d228 rfl (Nat.le_succ _) (fun _ => rfl) hlv5_5 ?_
    refine fx_ld aj_d228 (Or.inl rfl) rfl (Nat.le_succ _) (fun g100 g101 => ?_)
    show fx_W _ _ _ 26 lv5 [.int (X.1 p0 (x4).toInt.toNat), .int x4, .ref p0] _ _
    refine fx_qa (c := 0 ≤ (x4).toInt) g100 ?_
    refine fx_i0 aj_d228 rfl (Nat.le_succ _) (fun _ => rfl) hlv5_4 ?_
    refine fx_n (pc' := 29) (lv' := lv5) (st' := [.int ((X.1 p0 (x4).toInt.toNat) ||| x2), .int x4, .ref p0]) aj_d228 rfl (Nat.le_succ _) (fun _ => rfl) ?_
    refine fx_n (pc' := 41) (lv' := lv5) (st' := [.int ((X.1 p0 (x4).toInt.toNat) ||| x2), .int x4, .ref p0]) aj_d228 rfl (Nat.le_succ _) (fun _ => rfl) ?_
    refine fx_st aj_d228 (Or.inl ⟨rfl, rfl⟩) rfl (Nat.le_succ _) (fun g110 g111 => ?_)
    show fx_W _ _ _ _ _ _ (fx_wI X p0 (x4).toInt.toNat ((X.1 p0 (x4).toInt.toNat) ||| x2)) _
    refine fx_qa (c := 0 ≤ (x4).toInt) g110 ?_
    refine fx_qX (fun X12 eX12 => ?_)
    show fx_W _ _ _ 42 lv5 [] _ _
    exact fx_rn aj_d228 rfl ⟨(), rfl, 0, rfl⟩
