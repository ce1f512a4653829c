/-! METHODS LIFTED (printed by wip/p7/gx.py, parts.py) -/
def gx_301 (p1 : Int32) (p2 : Int32) (X : fx_X) (v : Int32) (X' : fx_X) : Prop :=
  ∃ (w3 : Int32) (X2 : fx_X), gx_291 p1 X w3 X2 ∧ (if (w3).toInt = 0 then (v = (Int32.ofInt (-1)) ∧ X' = X2) else ((if (p2).toInt < 0 then (v = (Int32.ofInt (-1)) ∧ X' = X2) else (∃ (w9 : Int32) (X8 : fx_X), gx_289 p2 X2 w9 X8 ∧ (if (w9).toInt < 0 then (v = (Int32.ofInt (-1)) ∧ X' = X8) else (∃ (w13 : Unit) (X12 : fx_X), gx_266 (((X8.1 117 0) * ((Int8.ofInt 10).toInt32)) + p1) w9 X8 w13 X12 ∧ v = (X12.1 117 58) ∧ X' = X12))))))
theorem gx_301_ok {tb : aj_T} (p1 : Int32) (p2 : Int32) {X : fx_X} : fx_K tb 301 [.ref 117, .int p1, .int p2] X (fx_Q fx_qI (fun v X' => gx_301 p1 p2 X v X')) := by
  refine fx_m aj_m301_at rfl (fun N => ?_)
  refine fx_mono (Q := fx_Q fx_qI (fun v X' => ∃ n : Nat, gx_301 p1 p2 X v X')) (fun r X' ⟨v, e, _, z⟩ => ⟨v, e, z⟩) ?_
  unfold gx_301
  show fx_W _ _ _ 0 [(0, .ref 117), (1, .int p1), (2, .int p2)] [] _ _
  obtain ⟨lv1, elv1⟩ : ∃ l : aj_V, l = [(0, .ref 117), (1, .int p1), (2, .int p2)] := ⟨_, rfl⟩
  rw [← elv1]
  have hlv1_0 : aj_lv lv1 0 = some (.ref 117) := by rw [elv1]; rfl
  have hlv1_1 : aj_lv lv1 1 = some (.int p1) := by rw [elv1]; rfl
  have hlv1_2 : aj_lv lv1 2 = some (.int p2) := by rw [elv1]; rfl
  refine fx_i2 aj_d301 rfl (Nat.le_succ _) (fun _ => rfl) hlv1_0 ?_
  refine fx_i0 aj_d301 rfl (Nat.le_succ _) (fun _ => rfl) hlv1_1 ?_
  refine fx_cv aj_d301 rfl (Nat.le_succ _) rfl [_] rfl rfl (gx_291_ok p1) ?_
  rintro _ X2 ⟨w3, rfl, hR2⟩ hok2 hle2
  refine fx_qc hR2 ?_
  show fx_W _ _ _ 5 lv1 [.int w3] _ _
  refine fx_b0 (tgt := 12) aj_d301 rfl (Nat.le_succ _) rfl (fun q4 => ?_) (fun q4 => ?_)
  · skip
    refine fx_qi (c := (w3).toInt = 0) (fx_t_eq q4) ?_
    show fx_W _ _ _ 12 lv1 [] _ _
    refine fx_n (pc' := 13) (lv' := lv1) (st' := [.int (Int32.ofInt (-1))]) aj_d301 rfl (Nat.le_succ _) (fun _ => rfl) ?_
    refine fx_n (pc' := 21) (lv' := lv1) (st' := [.int (Int32.ofInt (-1))]) aj_d301 rfl (Nat.le_succ _) (fun _ => rfl) ?_
    refine fx_s0 (j := 3) aj_d301 rfl (Nat.le_succ _) (by decide) (fun _ => rfl) ?_
    obtain ⟨lv5, elv5⟩ : ∃ l, l = aj_set1 lv1 3 (.int (Int32.ofInt (-1))) := ⟨_, rfl⟩
    rw [← elv5]
    have hlv5_0 : aj_lv lv5 0 = some (.ref 117) := fx_e1 elv5 hlv1_0 (by decide) (Or.inl (by decide))
    have hlv5_1 : aj_lv lv5 1 = some (.int p1) := fx_e1 elv5 hlv1_1 (by decide) (Or.inl (by decide))
    have hlv5_3 : aj_lv lv5 3 = some (.int (Int32.ofInt (-1))) := by rw [elv5]; exact ak_set1_eq _ _ _
    show fx_W _ _ _ 22 lv5 [] _ _
    refine fx_i0 aj_d301 rfl (Nat.le_succ _) (fun _ => rfl) hlv5_3 ?_
    refine fx_b0 (tgt := 28) aj_d301 rfl (Nat.le_succ _) rfl (fun q6 => ?_) (fun q6 => ?_)
    · exact absurd q6 (by decide)
    · skip
      show fx_W _ _ _ 26 lv5 [] _ _
      refine fx_n (pc' := 27) (lv' := lv5) (st' := [.int (Int32.ofInt (-1))]) aj_d301 rfl (Nat.le_succ _) (fun _ => rfl) ?_
      exact fx_ri aj_d301 rfl ⟨_, rfl, 0, rfl, rfl⟩
  · skip
    refine fx_qe (c := (w3).toInt = 0) (fx_f_eq q4) ?_
    show fx_W _ _ _ 8 lv1 [] _ _
    refine fx_i0 aj_d301 rfl (Nat.le_succ _) (fun _ => rfl) hlv1_2 ?_
    refine fx_b0 (tgt := 16) aj_d301 rfl (Nat.le_succ _) rfl (fun q7 => ?_) (fun q7 => ?_)
    · skip
      refine fx_qe (c := (p2).toInt < 0) (fx_t_ge q7) ?_
      show fx_W _ _ _ 16 lv1 [] _ _
      refine fx_i2 aj_d301 rfl (Nat.le_succ _) (fun _ => rfl) hlv1_0 ?_
      refine fx_i0 aj_d301 rfl (Nat.le_succ _) (fun _ => rfl) hlv1_2 ?_
      refine fx_cv aj_d301 rfl (Nat.le_succ _) rfl [_] rfl rfl (gx_289_ok p2) ?_
      rintro _ X8 ⟨w9, rfl, hR8⟩ hok8 hle8
      refine fx_qc hR8 ?_
      show fx_W _ _ _ 21 lv1 [.int w9] _ _
      refine fx_s0 (j := 3) aj_d301 rfl (Nat.le_succ _) (by decide) (fun _ => rfl) ?_
      obtain ⟨lv10, elv10⟩ : ∃ l, l = aj_set1 lv1 3 (.int w9) := ⟨_, rfl⟩
      rw [← elv10]
      have hlv10_0 : aj_lv lv10 0 = some (.ref 117) := fx_e1 elv10 hlv1_0 (by decide) (Or.inl (by decide))
      have hlv10_1 : aj_lv lv10 1 = some (.int p1) := fx_e1 elv10 hlv1_1 (by decide) (Or.inl (by decide))
      have hlv10_3 : aj_lv lv10 3 = some (.int w9) := by rw [elv10]; exact ak_set1_eq _ _ _
      show fx_W _ _ _ 22 lv10 [] _ _
      refine fx_i0 aj_d301 rfl (Nat.le_succ _) (fun _ => rfl) hlv10_3 ?_
      refine fx_b0 (tgt := 28) aj_d301 rfl (Nat.le_succ _) rfl (fun q11 => ?_) (fun q11 => ?_)
      · skip
        refine fx_qe (c := (w9).toInt < 0) (fx_t_ge q11) ?_
        show fx_W _ _ _ 28 lv10 [] _ _
        refine fx_i2 aj_d301 rfl (Nat.le_succ _) (fun _ => rfl) hlv10_0 ?_
        refine fx_i2 aj_d301 rfl (Nat.le_succ _) (fun _ => rfl) hlv10_0 ?_
        refine fx_gI aj_d301 rfl (Nat.le_succ _) rfl rfl (Or.inl rfl) ?_
        refine fx_n (pc' := 35) (lv' := lv10) (st' := [.int ((Int8.ofInt 10).toInt32), .int (X8.1 117 0), .ref 117]) aj_d301 rfl (Nat.le_succ _) (fun _ => rfl) ?_
        refine fx_n (pc' := 36) (lv' := lv10) (st' := [.int ((X8.1 117 0) * ((Int8.ofInt 10).toInt32)), .ref 117]) aj_d301 rfl (Nat.le_succ _) (fun _ => rfl) ?_
        refine fx_i0 aj_d301 rfl (Nat.le_succ _) (fun _ => rfl) hlv10_1 ?_
        refine fx_n (pc' := 38) (lv' := lv10) (st' := [.int (((X8.1 117 0) * ((Int8.ofInt 10).toInt32)) + p1), .ref 117]) aj_d301 rfl (Nat.le_succ _) (fun _ => rfl) ?_
        refine fx_i0 aj_d301 rfl (Nat.le_succ _) (fun _ => rfl) hlv10_3 ?_
        refine fx_cv aj_d301 rfl (Nat.le_succ _) rfl [_, _] rfl rfl (gx_266_ok (((X8.1 117 0) * ((Int8.ofInt 10).toInt32)) + p1) w9) ?_
        rintro _ X12 ⟨w13, rfl, hR12⟩ hok12 hle12
        refine fx_qc hR12 ?_
        show fx_W _ _ _ 42 lv10 [] _ _
        refine fx_i2 aj_d301 rfl (Nat.le_succ _) (fun _ => rfl) hlv10_0 ?_
        refine fx_gI aj_d301 rfl (Nat.le_succ _) rfl rfl (Or.inl rfl) ?_
        exact fx_ri aj_d301 rfl ⟨_, rfl, 0, rfl, rfl⟩
      · skip
        refine fx_qi (c := (w9).toInt < 0) (fx_f_ge q11) ?_
        show fx_W _ _ _ 26 lv10 [] _ _
        refine fx_n (pc' := 27) (lv' := lv10) (st' := [.int (Int32.ofInt (-1))]) aj_d301 rfl (Nat.le_succ _) (fun _ => rfl) ?_
        exact fx_ri aj_d301 rfl ⟨_, rfl, 0, rfl, rfl⟩
    · skip
      refine fx_qi (c := (p2).toInt < 0) (fx_f_ge q7) ?_
      show fx_W _ _ _ 12 lv1 [] _ _
      refine fx_n (pc' := 13) (lv' := lv1) (st' := [.int (Int32.ofInt (-1))]) aj_d301 rfl (Nat.le_succ _) (fun _ => rfl) ?_
      refine fx_n (pc' := 21) (lv' := lv1) (st' := [.int (Int32.ofInt (-1))]) aj_d301 rfl (Nat.le_succ _) (fun _ => rfl) ?_
      refine fx_s0 (j := 3) aj_d301 rfl (Nat.le_succ _) (by decide) (fun _ => rfl) ?_
      obtain ⟨lv14, elv14⟩ : ∃ l, l = aj_set1 lv1 3 (.int (Int32.ofInt (-1))) := ⟨_, rfl⟩
      rw [← elv14]
      have hlv14_0 : aj_lv lv14 0 = some (.ref 117) := fx_e1 elv14 hlv1_0 (by decide) (Or.inl (by decide))
      have hlv14_1 : aj_lv lv14 1 = some (.int p1) := fx_e1 elv14 hlv1_1 (by decide) (Or.inl (by decide))
      have hlv14_3 : aj_lv lv14 3 = some (.int (Int32.ofInt (-1))) := by rw [elv14]; exact ak_set1_eq _ _ _
      show fx_W _ _ _ 22 lv14 [] _ _
      refine fx_i0 aj_d301 rfl (Nat.le_succ _) (fun _ => rfl) hlv14_3 ?_
      refine fx_b0 (tgt := 28) aj_d301 rfl (Nat.le_succ _) rfl (fun q15 => ?_) (fun q15 => ?_)
      · exact absurd q15 (by decide)
      · skip
        show fx_W _ _ _ 26 lv14 [] _ _
        refine fx_n (pc' := 27) (lv' := lv14) (st' := [.int (Int32.ofInt (-1))]) aj_d301 rfl (Nat.le_succ _) (fun _ => rfl) ?_
        exact fx_ri aj_d301 rfl ⟨_, rfl, 0, rfl, rfl⟩
def gx_302 (p1 : Int32) (p2 : Int32) (p3 : Int32) (p4 : Int32) (X : fx_X) (v : Int32) (X' : fx_X) : Prop :=
  ∃ (w3 : Int32) (X2 : fx_X), gx_291 p1 X w3 X2 ∧ (if (w3).toInt = 0 then (v = (Int32.ofInt (-100000)) ∧ X' = X2) else ((if (p2).toInt < 0 then (v = (Int32.ofInt (-100000)) ∧ X' = X2) else ((if (p3).toInt < 0 then (v = (Int32.ofInt (-100000)) ∧ X' = X2) else (∃ (w12 : Int32) (X11 : fx_X), gx_289 p2 X2 w12 X11 ∧ (if (w12).toInt < 0 then (v = (Int32.ofInt (-100000)) ∧ X' = X11) else ((if (p4).toInt < 0 then (v = (Int32.ofInt (-100000)) ∧ X' = X11) else ((0 ≤ ((((X11.1 117 0) * ((Int8.ofInt 10).toInt32)) + p1)).toInt ∧ ((((X11.1 117 0) * ((Int8.ofInt 10).toInt32)) + p1)).toInt < ((50 : Nat) : Int)) ∧ (if (p4).toInt < ((X11.1 132 ((((X11.1 117 0) * ((Int8.ofInt 10).toInt32)) + p1)).toInt.toNat)).toInt then (∃ (w20 : Unit) (X19 : fx_X), gx_266 (((X11.1 117 0) * ((Int8.ofInt 10).toInt32)) + p1) w12 X11 w20 X19 ∧ (if (p3).toInt < ((X19.1 117 58)).toInt then ((0 ≤ (p3).toInt ∧ (p3).toInt < ((30 : Nat) : Int)) ∧ ∃ (w25 : Int32) (X24 : fx_X), gx_258 (((X19.1 117 0) * ((Int8.ofInt 10).toInt32)) + p1) (X19.1 143 (p3).toInt.toNat) p4 w12 X19 w25 X24 ∧ v = w25 ∧ X' = X24) else (v = (Int32.ofInt (-100000)) ∧ X' = X19))) else (v = (Int32.ofInt (-100000)) ∧ X' = X11))))))))))))
theorem gx_302_ok {tb : aj_T} (p1 : Int32) (p2 : Int32) (p3 : Int32) (p4 : Int32) {X : fx_X} : fx_K tb 302 [.ref 117, .int p1, .int p2, .int p3, .int p4] X (fx_Q fx_qI (fun v X' => gx_302 p1 p2 p3 p4 X v X')) := by
  refine fx_m aj_m302_at rfl (fun N => ?_)
  refine fx_mono (Q := fx_Q fx_qI (fun v X' => ∃ n : Nat, gx_302 p1 p2 p3 p4 X v X')) (fun r X' ⟨v, e, _, z⟩ => ⟨v, e, z⟩) ?_
  unfold gx_302
  show fx_W _ _ _ 0 [(0, .ref 117), (1, .int p1), (2, .int p2), (3, .int p3), (4, .int p4)] [] _ _
  obtain ⟨lv1, elv1⟩ : ∃ l : aj_V, l = [(0, .ref 117), (1, .int p1), (2, .int p2), (3, .int p3), (4, .int p4)] := ⟨_, rfl⟩
  rw [← elv1]
  have hlv1_0 : aj_lv lv1 0 = some (.ref 117) := by rw [elv1]; rfl
  have hlv1_1 : aj_lv lv1 1 = some (.int p1) := by rw [elv1]; rfl
  have hlv1_2 : aj_lv lv1 2 = some (.int p2) := by rw [elv1]; rfl
  have hlv1_3 : aj_lv lv1 3 = some (.int p3) := by rw [elv1]; rfl
  have hlv1_4 : aj_lv lv1 4 = some (.int p4) := by rw [elv1]; rfl
  refine fx_i2 aj_d302 rfl (Nat.le_succ _) (fun _ => rfl) hlv1_0 ?_
  refine fx_i0 aj_d302 rfl (Nat.le_succ _) (fun _ => rfl) hlv1_1 ?_
  refine fx_cv aj_d302 rfl (Nat.le_succ _) rfl [_] rfl rfl (gx_291_ok p1) ?_
  rintro _ X2 ⟨w3, rfl, hR2⟩ hok2 hle2
  refine fx_qc hR2 ?_
  show fx_W _ _ _ 5 lv1 [.int w3] _ _
  refine fx_b0 (tgt := 16) aj_d302 rfl (Nat.le_succ _) rfl (fun q4 => ?_) (fun q4 => ?_)
  · skip
    refine fx_qi (c := (w3).toInt = 0) (fx_t_eq q4) ?_
    show fx_W _ _ _ 16 lv1 [] _ _
    refine fx_n (pc' := 17) (lv' := lv1) (st' := [.int (Int32.ofInt (-1))]) aj_d302 rfl (Nat.le_succ _) (fun _ => rfl) ?_
    refine fx_n (pc' := 25) (lv' := lv1) (st' := [.int (Int32.ofInt (-1))]) aj_d302 rfl (Nat.le_succ _) (fun _ => rfl) ?_
    refine fx_s0 (j := 5) aj_d302 rfl (Nat.le_succ _) (by decide) (fun _ => rfl) ?_
    obtain ⟨lv5, elv5⟩ : ∃ l, l = aj_set1 lv1 5 (.int (Int32.ofInt (-1))) := ⟨_, rfl⟩
    rw [← elv5]
    have hlv5_0 : aj_lv lv5 0 = some (.ref 117) := fx_e1 elv5 hlv1_0 (by decide) (Or.inl (by decide))
    have hlv5_1 : aj_lv lv5 1 = some (.int p1) := fx_e1 elv5 hlv1_1 (by decide) (Or.inl (by decide))
    have hlv5_3 : aj_lv lv5 3 = some (.int p3) := fx_e1 elv5 hlv1_3 (by decide) (Or.inl (by decide))
    have hlv5_4 : aj_lv lv5 4 = some (.int p4) := fx_e1 elv5 hlv1_4 (by decide) (Or.inr rfl)
    have hlv5_5 : aj_lv lv5 5 = some (.int (Int32.ofInt (-1))) := by rw [elv5]; exact ak_set1_eq _ _ _
    show fx_W _ _ _ 27 lv5 [] _ _
    refine fx_i0 aj_d302 rfl (Nat.le_succ _) (fun _ => rfl) hlv5_5 ?_
    refine fx_b0 (tgt := 56) aj_d302 rfl (Nat.le_succ _) rfl (fun q6 => ?_) (fun q6 => ?_)
    · skip
      show fx_W _ _ _ 56 lv5 [] _ _
      refine fx_n (pc' := 59) (lv' := lv5) (st' := [.int (Int32.ofInt (-100000))]) aj_d302 rfl (Nat.le_succ _) (fun _ => rfl) ?_
      exact fx_ri aj_d302 rfl ⟨_, rfl, 0, rfl, rfl⟩
    · exact absurd q6 (by decide)
  · skip
    refine fx_qe (c := (w3).toInt = 0) (fx_f_eq q4) ?_
    show fx_W _ _ _ 8 lv1 [] _ _
    refine fx_i0 aj_d302 rfl (Nat.le_succ _) (fun _ => rfl) hlv1_2 ?_
    refine fx_b0 (tgt := 16) aj_d302 rfl (Nat.le_succ _) rfl (fun q7 => ?_) (fun q7 => ?_)
    · skip
      refine fx_qi (c := (p2).toInt < 0) (fx_t_lt q7) ?_
      show fx_W _ _ _ 16 lv1 [] _ _
      refine fx_n (pc' := 17) (lv' := lv1) (st' := [.int (Int32.ofInt (-1))]) aj_d302 rfl (Nat.le_succ _) (fun _ => rfl) ?_
      refine fx_n (pc' := 25) (lv' := lv1) (st' := [.int (Int32.ofInt (-1))]) aj_d302 rfl (Nat.le_succ _) (fun _ => rfl) ?_
      refine fx_s0 (j := 5) aj_d302 rfl (Nat.le_succ _) (by decide) (fun _ => rfl) ?_
      obtain ⟨lv8, elv8⟩ : ∃ l, l = aj_set1 lv1 5 (.int (Int32.ofInt (-1))) := ⟨_, rfl⟩
      rw [← elv8]
      have hlv8_0 : aj_lv lv8 0 = some (.ref 117) := fx_e1 elv8 hlv1_0 (by decide) (Or.inl (by decide))
      have hlv8_1 : aj_lv lv8 1 = some (.int p1) := fx_e1 elv8 hlv1_1 (by decide) (Or.inl (by decide))
      have hlv8_3 : aj_lv lv8 3 = some (.int p3) := fx_e1 elv8 hlv1_3 (by decide) (Or.inl (by decide))
      have hlv8_4 : aj_lv lv8 4 = some (.int p4) := fx_e1 elv8 hlv1_4 (by decide) (Or.inr rfl)
      have hlv8_5 : aj_lv lv8 5 = some (.int (Int32.ofInt (-1))) := by rw [elv8]; exact ak_set1_eq _ _ _
      show fx_W _ _ _ 27 lv8 [] _ _
      refine fx_i0 aj_d302 rfl (Nat.le_succ _) (fun _ => rfl) hlv8_5 ?_
      refine fx_b0 (tgt := 56) aj_d302 rfl (Nat.le_succ _) rfl (fun q9 => ?_) (fun q9 => ?_)
      · skip
        show fx_W _ _ _ 56 lv8 [] _ _
        refine fx_n (pc' := 59) (lv' := lv8) (st' := [.int (Int32.ofInt (-100000))]) aj_d302 rfl (Nat.le_succ _) (fun _ => rfl) ?_
        exact fx_ri aj_d302 rfl ⟨_, rfl, 0, rfl, rfl⟩
      · exact absurd q9 (by decide)
    · skip
      refine fx_qe (c := (p2).toInt < 0) (fx_f_lt q7) ?_
      show fx_W _ _ _ 12 lv1 [] _ _
      refine fx_i0 aj_d302 rfl (Nat.le_succ _) (fun _ => rfl) hlv1_3 ?_
      refine fx_b0 (tgt := 20) aj_d302 rfl (Nat.le_succ _) rfl (fun q10 => ?_) (fun q10 => ?_)
      · skip
        refine fx_qe (c := (p3).toInt < 0) (fx_t_ge q10) ?_
        show fx_W _ _ _ 20 lv1 [] _ _
        refine fx_i2 aj_d302 rfl (Nat.le_succ _) (fun _ => rfl) hlv1_0 ?_
        refine fx_i0 aj_d302 rfl (Nat.le_succ _) (fun _ => rfl) hlv1_2 ?_
        refine fx_cv aj_d302 rfl (Nat.le_succ _) rfl [_] rfl rfl (gx_289_ok p2) ?_
        rintro _ X11 ⟨w12, rfl, hR11⟩ hok11 hle11
        refine fx_qc hR11 ?_
        show fx_W _ _ _ 25 lv1 [.int w12] _ _
        refine fx_s0 (j := 5) aj_d302 rfl (Nat.le_succ _) (by decide) (fun _ => rfl) ?_
        obtain ⟨lv13, elv13⟩ : ∃ l, l = aj_set1 lv1 5 (.int w12) := ⟨_, rfl⟩
        rw [← elv13]
        have hlv13_0 : aj_lv lv13 0 = some (.ref 117) := fx_e1 elv13 hlv1_0 (by decide) (Or.inl (by decide))
        have hlv13_1 : aj_lv lv13 1 = some (.int p1) := fx_e1 elv13 hlv1_1 (by decide) (Or.inl (by decide))
        have hlv13_3 : aj_lv lv13 3 = some (.int p3) := fx_e1 elv13 hlv1_3 (by decide) (Or.inl (by decide))
        have hlv13_4 : aj_lv lv13 4 = some (.int p4) := fx_e1 elv13 hlv1_4 (by decide) (Or.inr rfl)
        have hlv13_5 : aj_lv lv13 5 = some (.int w12) := by rw [elv13]; exact ak_set1_eq _ _ _
        show fx_W _ _ _ 27 lv13 [] _ _
        refine fx_i0 aj_d302 rfl (Nat.le_succ _) (fun _ => rfl) hlv13_5 ?_
        refine fx_b0 (tgt := 56) aj_d302 rfl (Nat.le_succ _) rfl (fun q14 => ?_) (fun q14 => ?_)
        · skip
          refine fx_qi (c := (w12).toInt < 0) (fx_t_lt q14) ?_
          show fx_W _ _ _ 56 lv13 [] _ _
          refine fx_n (pc' := 59) (lv' := lv13) (st' := [.int (Int32.ofInt (-100000))]) aj_d302 rfl (Nat.le_succ _) (fun _ => rfl) ?_
          exact fx_ri aj_d302 rfl ⟨_, rfl, 0, rfl, rfl⟩
        · skip
          refine fx_qe (c := (w12).toInt < 0) (fx_f_lt q14) ?_
          show fx_W _ _ _ 32 lv13 [] _ _
          refine fx_i0 aj_d302 rfl (Nat.le_succ _) (fun _ => rfl) hlv13_4 ?_
          refine fx_b0 (tgt := 56) aj_d302 rfl (Nat.le_succ _) rfl (fun q15 => ?_) (fun q15 => ?_)
          · skip
            refine fx_qi (c := (p4).toInt < 0) (fx_t_lt q15) ?_
            show fx_W _ _ _ 56 lv13 [] _ _
            refine fx_n (pc' := 59) (lv' := lv13) (st' := [.int (Int32.ofInt (-100000))]) aj_d302 rfl (Nat.le_succ _) (fun _ => rfl) ?_
            exact fx_ri aj_d302 rfl ⟨_, rfl, 0, rfl, rfl⟩
          · skip
            refine fx_qe (c := (p4).toInt < 0) (fx_f_lt q15) ?_
            show fx_W _ _ _ 37 lv13 [] _ _
            refine fx_i0 aj_d302 rfl (Nat.le_succ _) (fun _ => rfl) hlv13_4 ?_
            refine fx_i2 aj_d302 rfl (Nat.le_succ _) (fun _ => rfl) hlv13_0 ?_
            refine fx_gF aj_d302 rfl (Nat.le_succ _) rfl rfl fx_in_11_16 (t := 132) rfl (fun hA16 => ?_)
            refine fx_i2 aj_d302 rfl (Nat.le_succ _) (fun _ => rfl) hlv13_0 ?_
            refine fx_gI aj_d302 rfl (Nat.le_succ _) rfl rfl (Or.inl rfl) ?_
            refine fx_n (pc' := 49) (lv' := lv13) (st' := [.int ((Int8.ofInt 10).toInt32), .int (X11.1 117 0), .ref 132, .int p4]) aj_d302 rfl (Nat.le_succ _) (fun _ => rfl) ?_
            refine fx_n (pc' := 50) (lv' := lv13) (st' := [.int ((X11.1 117 0) * ((Int8.ofInt 10).toInt32)), .ref 132, .int p4]) aj_d302 rfl (Nat.le_succ _) (fun _ => rfl) ?_
            refine fx_i0 aj_d302 rfl (Nat.le_succ _) (fun _ => rfl) hlv13_1 ?_
            refine fx_n (pc' := 52) (lv' := lv13) (st' := [.int (((X11.1 117 0) * ((Int8.ofInt 10).toInt32)) + p1), .ref 132, .int p4]) aj_d302 rfl (Nat.le_succ _) (fun _ => rfl) ?_
            refine fx_ld aj_d302 (Or.inl rfl) rfl (Nat.le_succ _) (fun g170 g171 => ?_)
            show fx_W _ _ _ 53 lv13 [.int (X11.1 132 ((((X11.1 117 0) * ((Int8.ofInt 10).toInt32)) + p1)).toInt.toNat), .int p4] _ _
            refine fx_qa (c := 0 ≤ ((((X11.1 117 0) * ((Int8.ofInt 10).toInt32)) + p1)).toInt ∧ ((((X11.1 117 0) * ((Int8.ofInt 10).toInt32)) + p1)).toInt < ((50 : Nat) : Int)) ⟨g170, fx_lnk g171 hA16⟩ ?_
            refine fx_b (tgt := 60) aj_d302 rfl (Nat.le_succ _) rfl (fun q18 => ?_) (fun q18 => ?_)
            · skip
              refine fx_qi (c := (p4).toInt < ((X11.1 132 ((((X11.1 117 0) * ((Int8.ofInt 10).toInt32)) + p1)).toInt.toNat)).toInt) (fx_t_lt q18) ?_
              show fx_W _ _ _ 60 lv13 [] _ _
              refine fx_i2 aj_d302 rfl (Nat.le_succ _) (fun _ => rfl) hlv13_0 ?_
              refine fx_i2 aj_d302 rfl (Nat.le_succ _) (fun _ => rfl) hlv13_0 ?_
              refine fx_gI aj_d302 rfl (Nat.le_succ _) rfl rfl (Or.inl rfl) ?_
              refine fx_n (pc' := 67) (lv' := lv13) (st' := [.int ((Int8.ofInt 10).toInt32), .int (X11.1 117 0), .ref 117]) aj_d302 rfl (Nat.le_succ _) (fun _ => rfl) ?_
              refine fx_n (pc' := 68) (lv' := lv13) (st' := [.int ((X11.1 117 0) * ((Int8.ofInt 10).toInt32)), .ref 117]) aj_d302 rfl (Nat.le_succ _) (fun _ => rfl) ?_
              refine fx_i0 aj_d302 rfl (Nat.le_succ _) (fun _ => rfl) hlv13_1 ?_
              refine fx_n (pc' := 70) (lv' := lv13) (st' := [.int (((X11.1 117 0) * ((Int8.ofInt 10).toInt32)) + p1), .ref 117]) aj_d302 rfl (Nat.le_succ _) (fun _ => rfl) ?_
              refine fx_i0 aj_d302 rfl (Nat.le_succ _) (fun _ => rfl) hlv13_5 ?_
              refine fx_cv aj_d302 rfl (Nat.le_succ _) rfl [_, _] rfl rfl (gx_266_ok (((X11.1 117 0) * ((Int8.ofInt 10).toInt32)) + p1) w12) ?_
              rintro _ X19 ⟨w20, rfl, hR19⟩ hok19 hle19
              refine fx_qc hR19 ?_
              show fx_W _ _ _ 75 lv13 [] _ _
              refine fx_i0 aj_d302 rfl (Nat.le_succ _) (fun _ => rfl) hlv13_3 ?_
              refine fx_i2 aj_d302 rfl (Nat.le_succ _) (fun _ => rfl) hlv13_0 ?_
              refine fx_gI aj_d302 rfl (Nat.le_succ _) rfl rfl (Or.inl rfl) ?_
              refine fx_b (tgt := 109) aj_d302 rfl (Nat.le_succ _) rfl (fun q21 => ?_) (fun q21 => ?_)
              · skip
                refine fx_qe (c := (p3).toInt < ((X19.1 117 58)).toInt) (fx_t_ge q21) ?_
                show fx_W _ _ _ 109 lv13 [] _ _
                refine fx_n (pc' := 112) (lv' := lv13) (st' := [.int (Int32.ofInt (-100000))]) aj_d302 rfl (Nat.le_succ _) (fun _ => rfl) ?_
                exact fx_ri aj_d302 rfl ⟨_, rfl, 0, rfl, rfl⟩
              · skip
                refine fx_qi (c := (p3).toInt < ((X19.1 117 58)).toInt) (fx_f_ge q21) ?_
                show fx_W _ _ _ 83 lv13 [] _ _
                refine fx_i2 aj_d302 rfl (Nat.le_succ _) (fun _ => rfl) hlv13_0 ?_
                refine fx_i2 aj_d302 rfl (Nat.le_succ _) (fun _ => rfl) hlv13_0 ?_
                refine fx_gI aj_d302 rfl (Nat.le_succ _) rfl rfl (Or.inl rfl) ?_
                refine fx_n (pc' := 90) (lv' := lv13) (st' := [.int ((Int8.ofInt 10).toInt32), .int (X19.1 117 0), .ref 117]) aj_d302 rfl (Nat.le_succ _) (fun _ => rfl) ?_
                refine fx_n (pc' := 91) (lv' := lv13) (st' := [.int ((X19.1 117 0) * ((Int8.ofInt 10).toInt32)), .ref 117]) aj_d302 rfl (Nat.le_succ _) (fun _ => rfl) ?_
                refine fx_i0 aj_d302 rfl (Nat.le_succ _) (fun _ => rfl) hlv13_1 ?_
                refine fx_n (pc' := 93) (lv' := lv13) (st' := [.int (((X19.1 117 0) * ((Int8.ofInt 10).toInt32)) + p1), .ref 117]) aj_d302 rfl (Nat.le_succ _) (fun _ => rfl) ?_
                refine fx_i2 aj_d302 rfl (Nat.le_succ _) (fun _ => rfl) hlv13_0 ?_
                refine fx_gF aj_d302 rfl (Nat.le_succ _) rfl rfl fx_in_11_57 (t := 143) rfl (fun hA22 => ?_)
                refine fx_i0 aj_d302 rfl (Nat.le_succ _) (fun _ => rfl) hlv13_3 ?_
                refine fx_ld aj_d302 (Or.inl rfl) rfl (Nat.le_succ _) (fun g230 g231 => ?_)
                show fx_W _ _ _ 99 lv13 [.int (X19.1 143 (p3).toInt.toNat), .int (((X19.1 117 0) * ((Int8.ofInt 10).toInt32)) + p1), .ref 117] _ _
                refine fx_qa (c := 0 ≤ (p3).toInt ∧ (p3).toInt < ((30 : Nat) : Int)) ⟨g230, fx_lnk g231 hA22⟩ ?_
                refine fx_i0 aj_d302 rfl (Nat.le_succ _) (fun _ => rfl) hlv13_4 ?_
                refine fx_i0 aj_d302 rfl (Nat.le_succ _) (fun _ => rfl) hlv13_5 ?_
                refine fx_cv aj_d302 rfl (Nat.le_succ _) rfl [_, _, _, _] rfl rfl (gx_258_ok (((X19.1 117 0) * ((Int8.ofInt 10).toInt32)) + p1) (X19.1 143 (p3).toInt.toNat) p4 w12) ?_
                rintro _ X24 ⟨w25, rfl, hR24⟩ hok24 hle24
                refine fx_qc hR24 ?_
                show fx_W _ _ _ 106 lv13 [.int w25] _ _
                refine fx_n (pc' := 112) (lv' := lv13) (st' := [.int w25]) aj_d302 rfl (Nat.le_succ _) (fun _ => rfl) ?_
                exact fx_ri aj_d302 rfl ⟨_, rfl, 0, rfl, rfl⟩
            · skip
              refine fx_qe (c := (p4).toInt < ((X11.1 132 ((((X11.1 117 0) * ((Int8.ofInt 10).toInt32)) + p1)).toInt.toNat)).toInt) (fx_f_lt q18) ?_
              show fx_W _ _ _ 56 lv13 [] _ _
              refine fx_n (pc' := 59) (lv' := lv13) (st' := [.int (Int32.ofInt (-100000))]) aj_d302 rfl (Nat.le_succ _) (fun _ => rfl) ?_
              exact fx_ri aj_d302 rfl ⟨_, rfl, 0, rfl, rfl⟩
      · skip
        refine fx_qi (c := (p3).toInt < 0) (fx_f_ge q10) ?_
        show fx_W _ _ _ 16 lv1 [] _ _
        refine fx_n (pc' := 17) (lv' := lv1) (st' := [.int (Int32.ofInt (-1))]) aj_d302 rfl (Nat.le_succ _) (fun _ => rfl) ?_
        refine fx_n (pc' := 25) (lv' := lv1) (st' := [.int (Int32.ofInt (-1))]) aj_d302 rfl (Nat.le_succ _) (fun _ => rfl) ?_
        refine fx_s0 (j := 5) aj_d302 rfl (Nat.le_succ _) (by decide) (fun _ => rfl) ?_
        obtain ⟨lv26, elv26⟩ : ∃ l, l = aj_set1 lv1 5 (.int (Int32.ofInt (-1))) := ⟨_, rfl⟩
        rw [← elv26]
        have hlv26_0 : aj_lv lv26 0 = some (.ref 117) := fx_e1 elv26 hlv1_0 (by decide) (Or.inl (by decide))
        have hlv26_1 : aj_lv lv26 1 = some (.int p1) := fx_e1 elv26 hlv1_1 (by decide) (Or.inl (by decide))
        have hlv26_3 : aj_lv lv26 3 = some (.int p3) := fx_e1 elv26 hlv1_3 (by decide) (Or.inl (by decide))
        have hlv26_4 : aj_lv lv26 4 = some (.int p4) := fx_e1 elv26 hlv1_4 (by decide) (Or.inr rfl)
        have hlv26_5 : aj_lv lv26 5 = some (.int (Int32.ofInt (-1))) := by rw [elv26]; exact ak_set1_eq _ _ _
        show fx_W _ _ _ 27 lv26 [] _ _
        refine fx_i0 aj_d302 rfl (Nat.le_succ _) (fun _ => rfl) hlv26_5 ?_
        refine fx_b0 (tgt := 56) aj_d302 rfl (Nat.le_succ _) rfl (fun q27 => ?_) (fun q27 => ?_)
        · skip
          show fx_W _ _ _ 56 lv26 [] _ _
          refine fx_n (pc' := 59) (lv' := lv26) (st' := [.int (Int32.ofInt (-100000))]) aj_d302 rfl (Nat.le_succ _) (fun _ => rfl) ?_
          exact fx_ri aj_d302 rfl ⟨_, rfl, 0, rfl, rfl⟩
        · exact absurd q27 (by decide)
def gx_303 (p1 : Int32) (p2 : Int32) (p3 : Int32) (X : fx_X) (v : Int32) (X' : fx_X) : Prop :=
  ∃ (w3 : Int32) (X2 : fx_X), gx_291 p1 X w3 X2 ∧ (if (w3).toInt = 0 then (v = (Int32.ofInt (-100000)) ∧ X' = X2) else ((if (p2).toInt < 0 then (v = (Int32.ofInt (-100000)) ∧ X' = X2) else ((if (p3).toInt < 0 then (v = (Int32.ofInt (-100000)) ∧ X' = X2) else ((0 ≤ ((((X2.1 117 0) * ((Int8.ofInt 10).toInt32)) + p1)).toInt ∧ ((((X2.1 117 0) * ((Int8.ofInt 10).toInt32)) + p1)).toInt < ((50 : Nat) : Int)) ∧ (if (p3).toInt < ((X2.1 132 ((((X2.1 117 0) * ((Int8.ofInt 10).toInt32)) + p1)).toInt.toNat)).toInt then (∃ (w11 : Unit) (X10 : fx_X), gx_292 (((X2.1 117 0) * ((Int8.ofInt 10).toInt32)) + p1) X2 w11 X10 ∧ (if (p2).toInt < ((X10.1 117 65)).toInt then ((0 ≤ (p2).toInt ∧ (p2).toInt < ((30 : Nat) : Int)) ∧ ∃ (w16 : Int32) (X15 : fx_X), gx_258 (((X10.1 117 0) * ((Int8.ofInt 10).toInt32)) + p1) (X10.1 147 (p2).toInt.toNat) p3 (X10.1 117 64) X10 w16 X15 ∧ v = w16 ∧ X' = X15) else (v = (Int32.ofInt (-100000)) ∧ X' = X10))) else (v = (Int32.ofInt (-100000)) ∧ X' = X2))))))))
theorem gx_303_ok {tb : aj_T} (p1 : Int32) (p2 : Int32) (p3 : Int32) {X : fx_X} : fx_K tb 303 [.ref 117, .int p1, .int p2, .int p3] X (fx_Q fx_qI (fun v X' => gx_303 p1 p2 p3 X v X')) := by
  refine fx_m aj_m303_at rfl (fun N => ?_)
  refine fx_mono (Q := fx_Q fx_qI (fun v X' => ∃ n : Nat, gx_303 p1 p2 p3 X v X')) (fun r X' ⟨v, e, _, z⟩ => ⟨v, e, z⟩) ?_
  unfold gx_303
  show fx_W _ _ _ 0 [(0, .ref 117), (1, .int p1), (2, .int p2), (3, .int p3)] [] _ _
  obtain ⟨lv1, elv1⟩ : ∃ l : aj_V, l = [(0, .ref 117), (1, .int p1), (2, .int p2), (3, .int p3)] := ⟨_, rfl⟩
  rw [← elv1]
  have hlv1_0 : aj_lv lv1 0 = some (.ref 117) := by rw [elv1]; rfl
  have hlv1_1 : aj_lv lv1 1 = some (.int p1) := by rw [elv1]; rfl
  have hlv1_2 : aj_lv lv1 2 = some (.int p2) := by rw [elv1]; rfl
  have hlv1_3 : aj_lv lv1 3 = some (.int p3) := by rw [elv1]; rfl
  refine fx_i2 aj_d303 rfl (Nat.le_succ _) (fun _ => rfl) hlv1_0 ?_
  refine fx_i0 aj_d303 rfl (Nat.le_succ _) (fun _ => rfl) hlv1_1 ?_
  refine fx_cv aj_d303 rfl (Nat.le_succ _) rfl [_] rfl rfl (gx_291_ok p1) ?_
  rintro _ X2 ⟨w3, rfl, hR2⟩ hok2 hle2
  refine fx_qc hR2 ?_
  show fx_W _ _ _ 5 lv1 [.int w3] _ _
  refine fx_b0 (tgt := 34) aj_d303 rfl (Nat.le_succ _) rfl (fun q4 => ?_) (fun q4 => ?_)
  · skip
    refine fx_qi (c := (w3).toInt = 0) (fx_t_eq q4) ?_
    show fx_W _ _ _ 34 lv1 [] _ _
    refine fx_n (pc' := 37) (lv' := lv1) (st' := [.int (Int32.ofInt (-100000))]) aj_d303 rfl (Nat.le_succ _) (fun _ => rfl) ?_
    exact fx_ri aj_d303 rfl ⟨_, rfl, 0, rfl, rfl⟩
  · skip
    refine fx_qe (c := (w3).toInt = 0) (fx_f_eq q4) ?_
    show fx_W _ _ _ 8 lv1 [] _ _
    refine fx_i0 aj_d303 rfl (Nat.le_succ _) (fun _ => rfl) hlv1_2 ?_
    refine fx_b0 (tgt := 34) aj_d303 rfl (Nat.le_succ _) rfl (fun q5 => ?_) (fun q5 => ?_)
    · skip
      refine fx_qi (c := (p2).toInt < 0) (fx_t_lt q5) ?_
      show fx_W _ _ _ 34 lv1 [] _ _
      refine fx_n (pc' := 37) (lv' := lv1) (st' := [.int (Int32.ofInt (-100000))]) aj_d303 rfl (Nat.le_succ _) (fun _ => rfl) ?_
      exact fx_ri aj_d303 rfl ⟨_, rfl, 0, rfl, rfl⟩
    · skip
      refine fx_qe (c := (p2).toInt < 0) (fx_f_lt q5) ?_
      show fx_W _ _ _ 12 lv1 [] _ _
      refine fx_i0 aj_d303 rfl (Nat.le_succ _) (fun _ => rfl) hlv1_3 ?_
      refine fx_b0 (tgt := 34) aj_d303 rfl (Nat.le_succ _) rfl (fun q6 => ?_) (fun q6 => ?_)
      · skip
        refine fx_qi (c := (p3).toInt < 0) (fx_t_lt q6) ?_
        show fx_W _ _ _ 34 lv1 [] _ _
        refine fx_n (pc' := 37) (lv' := lv1) (st' := [.int (Int32.ofInt (-100000))]) aj_d303 rfl (Nat.le_succ _) (fun _ => rfl) ?_
        exact fx_ri aj_d303 rfl ⟨_, rfl, 0, rfl, rfl⟩
      · skip
        refine fx_qe (c := (p3).toInt < 0) (fx_f_lt q6) ?_
        show fx_W _ _ _ 16 lv1 [] _ _
        refine fx_i0 aj_d303 rfl (Nat.le_succ _) (fun _ => rfl) hlv1_3 ?_
        refine fx_i2 aj_d303 rfl (Nat.le_succ _) (fun _ => rfl) hlv1_0 ?_
        refine fx_gF aj_d303 rfl (Nat.le_succ _) rfl rfl fx_in_11_16 (t := 132) rfl (fun hA7 => ?_)
        refine fx_i2 aj_d303 rfl (Nat.le_succ _) (fun _ => rfl) hlv1_0 ?_
        refine fx_gI aj_d303 rfl (Nat.le_succ _) rfl rfl (Or.inl rfl) ?_
        refine fx_n (pc' := 27) (lv' := lv1) (st' := [.int ((Int8.ofInt 10).toInt32), .int (X2.1 117 0), .ref 132, .int p3]) aj_d303 rfl (Nat.le_succ _) (fun _ => rfl) ?_
        refine fx_n (pc' := 28) (lv' := lv1) (st' := [.int ((X2.1 117 0) * ((Int8.ofInt 10).toInt32)), .ref 132, .int p3]) aj_d303 rfl (Nat.le_succ _) (fun _ => rfl) ?_
        refine fx_i0 aj_d303 rfl (Nat.le_succ _) (fun _ => rfl) hlv1_1 ?_
        refine fx_n (pc' := 30) (lv' := lv1) (st' := [.int (((X2.1 117 0) * ((Int8.ofInt 10).toInt32)) + p1), .ref 132, .int p3]) aj_d303 rfl (Nat.le_succ _) (fun _ => rfl) ?_
        refine fx_ld aj_d303 (Or.inl rfl) rfl (Nat.le_succ _) (fun g80 g81 => ?_)
        show fx_W _ _ _ 31 lv1 [.int (X2.1 132 ((((X2.1 117 0) * ((Int8.ofInt 10).toInt32)) + p1)).toInt.toNat), .int p3] _ _
        refine fx_qa (c := 0 ≤ ((((X2.1 117 0) * ((Int8.ofInt 10).toInt32)) + p1)).toInt ∧ ((((X2.1 117 0) * ((Int8.ofInt 10).toInt32)) + p1)).toInt < ((50 : Nat) : Int)) ⟨g80, fx_lnk g81 hA7⟩ ?_
        refine fx_b (tgt := 38) aj_d303 rfl (Nat.le_succ _) rfl (fun q9 => ?_) (fun q9 => ?_)
        · skip
          refine fx_qi (c := (p3).toInt < ((X2.1 132 ((((X2.1 117 0) * ((Int8.ofInt 10).toInt32)) + p1)).toInt.toNat)).toInt) (fx_t_lt q9) ?_
          show fx_W _ _ _ 38 lv1 [] _ _
          refine fx_i2 aj_d303 rfl (Nat.le_succ _) (fun _ => rfl) hlv1_0 ?_
          refine fx_i2 aj_d303 rfl (Nat.le_succ _) (fun _ => rfl) hlv1_0 ?_
          refine fx_gI aj_d303 rfl (Nat.le_succ _) rfl rfl (Or.inl rfl) ?_
          refine fx_n (pc' := 45) (lv' := lv1) (st' := [.int ((Int8.ofInt 10).toInt32), .int (X2.1 117 0), .ref 117]) aj_d303 rfl (Nat.le_succ _) (fun _ => rfl) ?_
          refine fx_n (pc' := 46) (lv' := lv1) (st' := [.int ((X2.1 117 0) * ((Int8.ofInt 10).toInt32)), .ref 117]) aj_d303 rfl (Nat.le_succ _) (fun _ => rfl) ?_
          refine fx_i0 aj_d303 rfl (Nat.le_succ _) (fun _ => rfl) hlv1_1 ?_
          refine fx_n (pc' := 48) (lv' := lv1) (st' := [.int (((X2.1 117 0) * ((Int8.ofInt 10).toInt32)) + p1), .ref 117]) aj_d303 rfl (Nat.le_succ _) (fun _ => rfl) ?_
          refine fx_cv aj_d303 rfl (Nat.le_succ _) rfl [_] rfl rfl (gx_292_ok (((X2.1 117 0) * ((Int8.ofInt 10).toInt32)) + p1)) ?_
          rintro _ X10 ⟨w11, rfl, hR10⟩ hok10 hle10
          refine fx_qc hR10 ?_
          show fx_W _ _ _ 51 lv1 [] _ _
          refine fx_i0 aj_d303 rfl (Nat.le_succ _) (fun _ => rfl) hlv1_2 ?_
          refine fx_i2 aj_d303 rfl (Nat.le_succ _) (fun _ => rfl) hlv1_0 ?_
          refine fx_gI aj_d303 rfl (Nat.le_succ _) rfl rfl (Or.inl rfl) ?_
          refine fx_b (tgt := 86) aj_d303 rfl (Nat.le_succ _) rfl (fun q12 => ?_) (fun q12 => ?_)
          · skip
            refine fx_qe (c := (p2).toInt < ((X10.1 117 65)).toInt) (fx_t_ge q12) ?_
            show fx_W _ _ _ 86 lv1 [] _ _
            refine fx_n (pc' := 89) (lv' := lv1) (st' := [.int (Int32.ofInt (-100000))]) aj_d303 rfl (Nat.le_succ _) (fun _ => rfl) ?_
            exact fx_ri aj_d303 rfl ⟨_, rfl, 0, rfl, rfl⟩
          · skip
            refine fx_qi (c := (p2).toInt < ((X10.1 117 65)).toInt) (fx_f_ge q12) ?_
            show fx_W _ _ _ 59 lv1 [] _ _
            refine fx_i2 aj_d303 rfl (Nat.le_succ _) (fun _ => rfl) hlv1_0 ?_
            refine fx_i2 aj_d303 rfl (Nat.le_succ _) (fun _ => rfl) hlv1_0 ?_
            refine fx_gI aj_d303 rfl (Nat.le_succ _) rfl rfl (Or.inl rfl) ?_
            refine fx_n (pc' := 66) (lv' := lv1) (st' := [.int ((Int8.ofInt 10).toInt32), .int (X10.1 117 0), .ref 117]) aj_d303 rfl (Nat.le_succ _) (fun _ => rfl) ?_
            refine fx_n (pc' := 67) (lv' := lv1) (st' := [.int ((X10.1 117 0) * ((Int8.ofInt 10).toInt32)), .ref 117]) aj_d303 rfl (Nat.le_succ _) (fun _ => rfl) ?_
            refine fx_i0 aj_d303 rfl (Nat.le_succ _) (fun _ => rfl) hlv1_1 ?_
            refine fx_n (pc' := 69) (lv' := lv1) (st' := [.int (((X10.1 117 0) * ((Int8.ofInt 10).toInt32)) + p1), .ref 117]) aj_d303 rfl (Nat.le_succ _) (fun _ => rfl) ?_
            refine fx_i2 aj_d303 rfl (Nat.le_succ _) (fun _ => rfl) hlv1_0 ?_
            refine fx_gF aj_d303 rfl (Nat.le_succ _) rfl rfl fx_in_11_63 (t := 147) rfl (fun hA13 => ?_)
            refine fx_i0 aj_d303 rfl (Nat.le_succ _) (fun _ => rfl) hlv1_2 ?_
            refine fx_ld aj_d303 (Or.inl rfl) rfl (Nat.le_succ _) (fun g140 g141 => ?_)
            show fx_W _ _ _ 75 lv1 [.int (X10.1 147 (p2).toInt.toNat), .int (((X10.1 117 0) * ((Int8.ofInt 10).toInt32)) + p1), .ref 117] _ _
            refine fx_qa (c := 0 ≤ (p2).toInt ∧ (p2).toInt < ((30 : Nat) : Int)) ⟨g140, fx_lnk g141 hA13⟩ ?_
            refine fx_i0 aj_d303 rfl (Nat.le_succ _) (fun _ => rfl) hlv1_3 ?_
            refine fx_i2 aj_d303 rfl (Nat.le_succ _) (fun _ => rfl) hlv1_0 ?_
            refine fx_gI aj_d303 rfl (Nat.le_succ _) rfl rfl (Or.inl rfl) ?_
            refine fx_cv aj_d303 rfl (Nat.le_succ _) rfl [_, _, _, _] rfl rfl (gx_258_ok (((X10.1 117 0) * ((Int8.ofInt 10).toInt32)) + p1) (X10.1 147 (p2).toInt.toNat) p3 (X10.1 117 64)) ?_
            rintro _ X15 ⟨w16, rfl, hR15⟩ hok15 hle15
            refine fx_qc hR15 ?_
            show fx_W _ _ _ 83 lv1 [.int w16] _ _
            refine fx_n (pc' := 89) (lv' := lv1) (st' := [.int w16]) aj_d303 rfl (Nat.le_succ _) (fun _ => rfl) ?_
            exact fx_ri aj_d303 rfl ⟨_, rfl, 0, rfl, rfl⟩
        · skip
          refine fx_qe (c := (p3).toInt < ((X2.1 132 ((((X2.1 117 0) * ((Int8.ofInt 10).toInt32)) + p1)).toInt.toNat)).toInt) (fx_f_lt q9) ?_
          show fx_W _ _ _ 34 lv1 [] _ _
          refine fx_n (pc' := 37) (lv' := lv1) (st' := [.int (Int32.ofInt (-100000))]) aj_d303 rfl (Nat.le_succ _) (fun _ => rfl) ?_
          exact fx_ri aj_d303 rfl ⟨_, rfl, 0, rfl, rfl⟩
def gx_304 (p1 : Int32) (p2 : Int32) (p3 : Int32) (X : fx_X) (v : Int32) (X' : fx_X) : Prop :=
  ∃ (w3 : Int32) (X2 : fx_X), gx_291 p1 X w3 X2 ∧ (if (w3).toInt = 0 then (v = (Int32.ofInt (-100000)) ∧ X' = X2) else ((if (p2).toInt < 0 then (v = (Int32.ofInt (-100000)) ∧ X' = X2) else ((if (p3).toInt < 0 then (v = (Int32.ofInt (-100000)) ∧ X' = X2) else ((0 ≤ ((((X2.1 117 0) * ((Int8.ofInt 10).toInt32)) + p1)).toInt ∧ ((((X2.1 117 0) * ((Int8.ofInt 10).toInt32)) + p1)).toInt < ((50 : Nat) : Int)) ∧ (if (p3).toInt < ((X2.1 132 ((((X2.1 117 0) * ((Int8.ofInt 10).toInt32)) + p1)).toInt.toNat)).toInt then (∃ (w11 : Unit) (X10 : fx_X), gx_294 p1 X2 w11 X10 ∧ (if (p2).toInt < ((X10.1 117 67)).toInt then ((0 ≤ (p2).toInt ∧ (p2).toInt < ((30720 : Nat) : Int)) ∧ (0 ≤ (p2).toInt ∧ (p2).toInt < ((30720 : Nat) : Int)) ∧ ∃ (w18 : Int32) (X17 : fx_X), gx_258 (((X10.1 117 0) * ((Int8.ofInt 10).toInt32)) + p1) ((X10.1 148 (p2).toInt.toNat) >>> (((Int8.ofInt 10).toInt32) &&& 31)) p3 ((X10.1 148 (p2).toInt.toNat) &&& ((Int16.ofInt 1023).toInt32)) X10 w18 X17 ∧ v = w18 ∧ X' = X17) else (v = (Int32.ofInt (-100000)) ∧ X' = X10))) else (v = (Int32.ofInt (-100000)) ∧ X' = X2))))))))
theorem gx_304_ok {tb : aj_T} (p1 : Int32) (p2 : Int32) (p3 : Int32) {X : fx_X} : fx_K tb 304 [.ref 117, .int p1, .int p2, .int p3] X (fx_Q fx_qI (fun v X' => gx_304 p1 p2 p3 X v X')) := by
  refine fx_m aj_m304_at rfl (fun N => ?_)
  refine fx_mono (Q := fx_Q fx_qI (fun v X' => ∃ n : Nat, gx_304 p1 p2 p3 X v X')) (fun r X' ⟨v, e, _, z⟩ => ⟨v, e, z⟩) ?_
  unfold gx_304
  show fx_W _ _ _ 0 [(0, .ref 117), (1, .int p1), (2, .int p2), (3, .int p3)] [] _ _
  obtain ⟨lv1, elv1⟩ : ∃ l : aj_V, l = [(0, .ref 117), (1, .int p1), (2, .int p2), (3, .int p3)] := ⟨_, rfl⟩
  rw [← elv1]
  have hlv1_0 : aj_lv lv1 0 = some (.ref 117) := by rw [elv1]; rfl
  have hlv1_1 : aj_lv lv1 1 = some (.int p1) := by rw [elv1]; rfl
  have hlv1_2 : aj_lv lv1 2 = some (.int p2) := by rw [elv1]; rfl
  have hlv1_3 : aj_lv lv1 3 = some (.int p3) := by rw [elv1]; rfl
  refine fx_i2 aj_d304 rfl (Nat.le_succ _) (fun _ => rfl) hlv1_0 ?_
  refine fx_i0 aj_d304 rfl (Nat.le_succ _) (fun _ => rfl) hlv1_1 ?_
  refine fx_cv aj_d304 rfl (Nat.le_succ _) rfl [_] rfl rfl (gx_291_ok p1) ?_
  rintro _ X2 ⟨w3, rfl, hR2⟩ hok2 hle2
  refine fx_qc hR2 ?_
  show fx_W _ _ _ 5 lv1 [.int w3] _ _
  refine fx_b0 (tgt := 34) aj_d304 rfl (Nat.le_succ _) rfl (fun q4 => ?_) (fun q4 => ?_)
  · skip
    refine fx_qi (c := (w3).toInt = 0) (fx_t_eq q4) ?_
    show fx_W _ _ _ 34 lv1 [] _ _
    refine fx_n (pc' := 37) (lv' := lv1) (st' := [.int (Int32.ofInt (-100000))]) aj_d304 rfl (Nat.le_succ _) (fun _ => rfl) ?_
    exact fx_ri aj_d304 rfl ⟨_, rfl, 0, rfl, rfl⟩
  · skip
    refine fx_qe (c := (w3).toInt = 0) (fx_f_eq q4) ?_
    show fx_W _ _ _ 8 lv1 [] _ _
    refine fx_i0 aj_d304 rfl (Nat.le_succ _) (fun _ => rfl) hlv1_2 ?_
    refine fx_b0 (tgt := 34) aj_d304 rfl (Nat.le_succ _) rfl (fun q5 => ?_) (fun q5 => ?_)
    · skip
      refine fx_qi (c := (p2).toInt < 0) (fx_t_lt q5) ?_
      show fx_W _ _ _ 34 lv1 [] _ _
      refine fx_n (pc' := 37) (lv' := lv1) (st' := [.int (Int32.ofInt (-100000))]) aj_d304 rfl (Nat.le_succ _) (fun _ => rfl) ?_
      exact fx_ri aj_d304 rfl ⟨_, rfl, 0, rfl, rfl⟩
    · skip
      refine fx_qe (c := (p2).toInt < 0) (fx_f_lt q5) ?_
      show fx_W _ _ _ 12 lv1 [] _ _
      refine fx_i0 aj_d304 rfl (Nat.le_succ _) (fun _ => rfl) hlv1_3 ?_
      refine fx_b0 (tgt := 34) aj_d304 rfl (Nat.le_succ _) rfl (fun q6 => ?_) (fun q6 => ?_)
      · skip
        refine fx_qi (c := (p3).toInt < 0) (fx_t_lt q6) ?_
        show fx_W _ _ _ 34 lv1 [] _ _
        refine fx_n (pc' := 37) (lv' := lv1) (st' := [.int (Int32.ofInt (-100000))]) aj_d304 rfl (Nat.le_succ _) (fun _ => rfl) ?_
        exact fx_ri aj_d304 rfl ⟨_, rfl, 0, rfl, rfl⟩
      · skip
        refine fx_qe (c := (p3).toInt < 0) (fx_f_lt q6) ?_
        show fx_W _ _ _ 16 lv1 [] _ _
        refine fx_i0 aj_d304 rfl (Nat.le_succ _) (fun _ => rfl) hlv1_3 ?_
        refine fx_i2 aj_d304 rfl (Nat.le_succ _) (fun _ => rfl) hlv1_0 ?_
        refine fx_gF aj_d304 rfl (Nat.le_succ _) rfl rfl fx_in_11_16 (t := 132) rfl (fun hA7 => ?_)
        refine fx_i2 aj_d304 rfl (Nat.le_succ _) (fun _ => rfl) hlv1_0 ?_
        refine fx_gI aj_d304 rfl (Nat.le_succ _) rfl rfl (Or.inl rfl) ?_
        refine fx_n (pc' := 27) (lv' := lv1) (st' := [.int ((Int8.ofInt 10).toInt32), .int (X2.1 117 0), .ref 132, .int p3]) aj_d304 rfl (Nat.le_succ _) (fun _ => rfl) ?_
        refine fx_n (pc' := 28) (lv' := lv1) (st' := [.int ((X2.1 117 0) * ((Int8.ofInt 10).toInt32)), .ref 132, .int p3]) aj_d304 rfl (Nat.le_succ _) (fun _ => rfl) ?_
        refine fx_i0 aj_d304 rfl (Nat.le_succ _) (fun _ => rfl) hlv1_1 ?_
        refine fx_n (pc' := 30) (lv' := lv1) (st' := [.int (((X2.1 117 0) * ((Int8.ofInt 10).toInt32)) + p1), .ref 132, .int p3]) aj_d304 rfl (Nat.le_succ _) (fun _ => rfl) ?_
        refine fx_ld aj_d304 (Or.inl rfl) rfl (Nat.le_succ _) (fun g80 g81 => ?_)
        show fx_W _ _ _ 31 lv1 [.int (X2.1 132 ((((X2.1 117 0) * ((Int8.ofInt 10).toInt32)) + p1)).toInt.toNat), .int p3] _ _
        refine fx_qa (c := 0 ≤ ((((X2.1 117 0) * ((Int8.ofInt 10).toInt32)) + p1)).toInt ∧ ((((X2.1 117 0) * ((Int8.ofInt 10).toInt32)) + p1)).toInt < ((50 : Nat) : Int)) ⟨g80, fx_lnk g81 hA7⟩ ?_
        refine fx_b (tgt := 38) aj_d304 rfl (Nat.le_succ _) rfl (fun q9 => ?_) (fun q9 => ?_)
        · skip
          refine fx_qi (c := (p3).toInt < ((X2.1 132 ((((X2.1 117 0) * ((Int8.ofInt 10).toInt32)) + p1)).toInt.toNat)).toInt) (fx_t_lt q9) ?_
          show fx_W _ _ _ 38 lv1 [] _ _
          refine fx_i2 aj_d304 rfl (Nat.le_succ _) (fun _ => rfl) hlv1_0 ?_
          refine fx_i0 aj_d304 rfl (Nat.le_succ _) (fun _ => rfl) hlv1_1 ?_
          refine fx_cv aj_d304 rfl (Nat.le_succ _) rfl [_] rfl rfl (gx_294_ok p1) ?_
          rintro _ X10 ⟨w11, rfl, hR10⟩ hok10 hle10
          refine fx_qc hR10 ?_
          show fx_W _ _ _ 43 lv1 [] _ _
          refine fx_i0 aj_d304 rfl (Nat.le_succ _) (fun _ => rfl) hlv1_2 ?_
          refine fx_i2 aj_d304 rfl (Nat.le_succ _) (fun _ => rfl) hlv1_0 ?_
          refine fx_gI aj_d304 rfl (Nat.le_succ _) rfl rfl (Or.inl rfl) ?_
          refine fx_b (tgt := 87) aj_d304 rfl (Nat.le_succ _) rfl (fun q12 => ?_) (fun q12 => ?_)
          · skip
            refine fx_qe (c := (p2).toInt < ((X10.1 117 67)).toInt) (fx_t_ge q12) ?_
            show fx_W _ _ _ 87 lv1 [] _ _
            refine fx_n (pc' := 90) (lv' := lv1) (st' := [.int (Int32.ofInt (-100000))]) aj_d304 rfl (Nat.le_succ _) (fun _ => rfl) ?_
            exact fx_ri aj_d304 rfl ⟨_, rfl, 0, rfl, rfl⟩
          · skip
            refine fx_qi (c := (p2).toInt < ((X10.1 117 67)).toInt) (fx_f_ge q12) ?_
            show fx_W _ _ _ 51 lv1 [] _ _
            refine fx_i2 aj_d304 rfl (Nat.le_succ _) (fun _ => rfl) hlv1_0 ?_
            refine fx_i2 aj_d304 rfl (Nat.le_succ _) (fun _ => rfl) hlv1_0 ?_
            refine fx_gI aj_d304 rfl (Nat.le_succ _) rfl rfl (Or.inl rfl) ?_
            refine fx_n (pc' := 58) (lv' := lv1) (st' := [.int ((Int8.ofInt 10).toInt32), .int (X10.1 117 0), .ref 117]) aj_d304 rfl (Nat.le_succ _) (fun _ => rfl) ?_
            refine fx_n (pc' := 59) (lv' := lv1) (st' := [.int ((X10.1 117 0) * ((Int8.ofInt 10).toInt32)), .ref 117]) aj_d304 rfl (Nat.le_succ _) (fun _ => rfl) ?_
            refine fx_i0 aj_d304 rfl (Nat.le_succ _) (fun _ => rfl) hlv1_1 ?_
            refine fx_n (pc' := 61) (lv' := lv1) (st' := [.int (((X10.1 117 0) * ((Int8.ofInt 10).toInt32)) + p1), .ref 117]) aj_d304 rfl (Nat.le_succ _) (fun _ => rfl) ?_
            refine fx_i2 aj_d304 rfl (Nat.le_succ _) (fun _ => rfl) hlv1_0 ?_
            refine fx_gF aj_d304 rfl (Nat.le_succ _) rfl rfl fx_in_11_66 (t := 148) rfl (fun hA13 => ?_)
            refine fx_i0 aj_d304 rfl (Nat.le_succ _) (fun _ => rfl) hlv1_2 ?_
            refine fx_ld aj_d304 (Or.inl rfl) rfl (Nat.le_succ _) (fun g140 g141 => ?_)
            show fx_W _ _ _ 67 lv1 [.int (X10.1 148 (p2).toInt.toNat), .int (((X10.1 117 0) * ((Int8.ofInt 10).toInt32)) + p1), .ref 117] _ _
            refine fx_qa (c := 0 ≤ (p2).toInt ∧ (p2).toInt < ((30720 : Nat) : Int)) ⟨g140, fx_lnk g141 hA13⟩ ?_
            refine fx_n (pc' := 69) (lv' := lv1) (st' := [.int ((Int8.ofInt 10).toInt32), .int (X10.1 148 (p2).toInt.toNat), .int (((X10.1 117 0) * ((Int8.ofInt 10).toInt32)) + p1), .ref 117]) aj_d304 rfl (Nat.le_succ _) (fun _ => rfl) ?_
            refine fx_n (pc' := 70) (lv' := lv1) (st' := [.int ((X10.1 148 (p2).toInt.toNat) >>> (((Int8.ofInt 10).toInt32) &&& 31)), .int (((X10.1 117 0) * ((Int8.ofInt 10).toInt32)) + p1), .ref 117]) aj_d304 rfl (Nat.le_succ _) (fun _ => rfl) ?_
            refine fx_i0 aj_d304 rfl (Nat.le_succ _) (fun _ => rfl) hlv1_3 ?_
            refine fx_i2 aj_d304 rfl (Nat.le_succ _) (fun _ => rfl) hlv1_0 ?_
            refine fx_gF aj_d304 rfl (Nat.le_succ _) rfl rfl fx_in_11_66 (t := 148) rfl (fun hA15 => ?_)
            refine fx_i0 aj_d304 rfl (Nat.le_succ _) (fun _ => rfl) hlv1_2 ?_
            refine fx_ld aj_d304 (Or.inl rfl) rfl (Nat.le_succ _) (fun g160 g161 => ?_)
            show fx_W _ _ _ 77 lv1 [.int (X10.1 148 (p2).toInt.toNat), .int p3, .int ((X10.1 148 (p2).toInt.toNat) >>> (((Int8.ofInt 10).toInt32) &&& 31)), .int (((X10.1 117 0) * ((Int8.ofInt 10).toInt32)) + p1), .ref 117] _ _
            refine fx_qa (c := 0 ≤ (p2).toInt ∧ (p2).toInt < ((30720 : Nat) : Int)) ⟨g160, fx_lnk g161 hA15⟩ ?_
            refine fx_n (pc' := 80) (lv' := lv1) (st' := [.int ((Int16.ofInt 1023).toInt32), .int (X10.1 148 (p2).toInt.toNat), .int p3, .int ((X10.1 148 (p2).toInt.toNat) >>> (((Int8.ofInt 10).toInt32) &&& 31)), .int (((X10.1 117 0) * ((Int8.ofInt 10).toInt32)) + p1), .ref 117]) aj_d304 rfl (Nat.le_succ _) (fun _ => rfl) ?_
            refine fx_n (pc' := 81) (lv' := lv1) (st' := [.int ((X10.1 148 (p2).toInt.toNat) &&& ((Int16.ofInt 1023).toInt32)), .int p3, .int ((X10.1 148 (p2).toInt.toNat) >>> (((Int8.ofInt 10).toInt32) &&& 31)), .int (((X10.1 117 0) * ((Int8.ofInt 10).toInt32)) + p1), .ref 117]) aj_d304 rfl (Nat.le_succ _) (fun _ => rfl) ?_
            refine fx_cv aj_d304 rfl (Nat.le_succ _) rfl [_, _, _, _] rfl rfl (gx_258_ok (((X10.1 117 0) * ((Int8.ofInt 10).toInt32)) + p1) ((X10.1 148 (p2).toInt.toNat) >>> (((Int8.ofInt 10).toInt32) &&& 31)) p3 ((X10.1 148 (p2).toInt.toNat) &&& ((Int16.ofInt 1023).toInt32))) ?_
            rintro _ X17 ⟨w18, rfl, hR17⟩ hok17 hle17
            refine fx_qc hR17 ?_
            show fx_W _ _ _ 84 lv1 [.int w18] _ _
            refine fx_n (pc' := 90) (lv' := lv1) (st' := [.int w18]) aj_d304 rfl (Nat.le_succ _) (fun _ => rfl) ?_
            exact fx_ri aj_d304 rfl ⟨_, rfl, 0, rfl, rfl⟩
        · skip
          refine fx_qe (c := (p3).toInt < ((X2.1 132 ((((X2.1 117 0) * ((Int8.ofInt 10).toInt32)) + p1)).toInt.toNat)).toInt) (fx_f_lt q9) ?_
          show fx_W _ _ _ 34 lv1 [] _ _
          refine fx_n (pc' := 37) (lv' := lv1) (st' := [.int (Int32.ofInt (-100000))]) aj_d304 rfl (Nat.le_succ _) (fun _ => rfl) ?_
          exact fx_ri aj_d304 rfl ⟨_, rfl, 0, rfl, rfl⟩
def gxT_305_45 (p1 : Int32) (p2 : Int32) (P : Nat → List Int32 → List Int64 → List Nat → fx_X → Int32 → fx_X → Prop) (y3 : Int32) (y4 : Int32) (y5 : Int32) (X : fx_X) (v : Int32) (X' : fx_X) : Prop :=
  (0 ≤ ((X.1 117 0)).toInt ∧ ((X.1 117 0)).toInt < ((2 : Nat) : Int)) ∧ (if (y5).toInt < ((X.1 122 ((X.1 117 0)).toInt.toNat)).toInt then (∃ (w17 : Int32) (X16 : fx_X), gx_247 (X.1 117 0) y5 X w17 X16 ∧ (if (w17).toInt = 0 then (∃ x20 : Int32, x20 = y5 + Int32.ofInt 1 ∧ P 45 [y3, y4, x20] [] [] X16 v X') else ((0 ≤ (p2).toInt ∧ (p2).toInt < ((30720 : Nat) : Int)) ∧ (0 ≤ (p2).toInt ∧ (p2).toInt < ((30720 : Nat) : Int)) ∧ ∃ (w27 : Int32) (X26 : fx_X), gx_293 y3 ((X16.1 148 (p2).toInt.toNat) >>> (((Int8.ofInt 10).toInt32) &&& 31)) ((X16.1 148 (p2).toInt.toNat) &&& ((Int16.ofInt 1023).toInt32)) y5 X16 w27 X26 ∧ (if (w27).toInt = 0 then (∃ x30 : Int32, x30 = y5 + Int32.ofInt 1 ∧ P 45 [y3, y4, x30] [] [] X26 v X') else (∃ x32 : Int32, x32 = (y4 + (Int32.ofInt 1)) ∧ ∃ x34 : Int32, x34 = y5 + Int32.ofInt 1 ∧ P 45 [y3, x32, x34] [] [] X26 v X'))))) else (v = y4 ∧ X' = X))
def gxE_305 (p1 : Int32) (p2 : Int32) (P : Nat → List Int32 → List Int64 → List Nat → fx_X → Int32 → fx_X → Prop) (X : fx_X) (v : Int32) (X' : fx_X) : Prop :=
  ∃ (w3 : Int32) (X2 : fx_X), gx_291 p1 X w3 X2 ∧ (if (w3).toInt = 0 then (v = (Int32.ofInt (-1)) ∧ X' = X2) else ((if (p2).toInt < 0 then (v = (Int32.ofInt (-1)) ∧ X' = X2) else (∃ (w7 : Unit) (X6 : fx_X), gx_294 p1 X2 w7 X6 ∧ (if (p2).toInt < ((X6.1 117 67)).toInt then (∃ x9 : Int32, x9 = (((X6.1 117 0) * ((Int8.ofInt 10).toInt32)) + p1) ∧ P 45 [x9, (Int32.ofInt 0), (Int32.ofInt 0)] [] [] X6 v X') else (v = (Int32.ofInt (-1)) ∧ X' = X6))))))
noncomputable def gxF_305 (p1 : Int32) (p2 : Int32) (n : Nat) : Nat → List Int32 → List Int64 → List Nat → fx_X → Int32 → fx_X → Prop := Nat.rec (motive := fun _ => Nat → List Int32 → List Int64 → List Nat → fx_X → Int32 → fx_X → Prop) (fun _ _ _ _ _ _ _ => False) (fun _ P l is ls rs X v X' => (l = 45 ∧ ∃ (y3 : Int32) (y4 : Int32) (y5 : Int32), is = [y3, y4, y5] ∧ ls = [] ∧ rs = [] ∧ gxT_305_45 p1 p2 P y3 y4 y5 X v X')) n
theorem gxI_305_45 {p1 : Int32} {p2 : Int32} {n : Nat} {y3 : Int32} {y4 : Int32} {y5 : Int32} {X : fx_X} {v : Int32} {X' : fx_X} (h : gxT_305_45 p1 p2 (gxF_305 p1 p2 n) y3 y4 y5 X v X') : gxF_305 p1 p2 (n + 1) 45 [y3, y4, y5] [] [] X v X' := ⟨rfl, y3, y4, y5, rfl, rfl, rfl, h⟩
theorem gxO_305_45 {p1 : Int32} {p2 : Int32} {n : Nat} {y3 : Int32} {y4 : Int32} {y5 : Int32} {X : fx_X} {v : Int32} {X' : fx_X} (h : gxF_305 p1 p2 (n + 1) 45 [y3, y4, y5] [] [] X v X') : gxT_305_45 p1 p2 (gxF_305 p1 p2 n) y3 y4 y5 X v X' := by
  rcases h with ⟨-, _, _, _, e1, e2, e3, h⟩
  · cases e1; cases e2; cases e3; exact h
def gx_305 (p1 : Int32) (p2 : Int32) (X : fx_X) (v : Int32) (X' : fx_X) : Prop := ∃ n : Nat, gxE_305 p1 p2 (gxF_305 p1 p2 n) X v X'
theorem gxL_305 {tb : aj_T} (p1 : Int32) (p2 : Int32) : ∀ N : Nat, (∀ (lv : aj_V) (y3 : Int32) (y4 : Int32) (y5 : Int32) (X : fx_X), aj_lv lv 0 = some (.ref 117) → aj_lv lv 2 = some (.int p2) → aj_lv lv 3 = some (.int y3) → aj_lv lv 4 = some (.int y4) → aj_lv lv 5 = some (.int y5) → fx_W tb aj_m305 N 45 lv [] X (fx_Q fx_qI (fun v X' => ∃ n : Nat, gxF_305 p1 p2 n 45 [y3, y4, y5] [] [] X v X'))) := by
  intro N
  induction N with
  | zero => exact (by intros; exact fx_z)
  | succ N ih =>
    skip
    · intro lv y3 y4 y5 X hlv_0 hlv_2 hlv_3 hlv_4 hlv_5
      refine fx_mono (Q := fx_Q fx_qI (fun v X' => ∃ n : Nat, gxT_305_45 p1 p2 (gxF_305 p1 p2 n) y3 y4 y5 X v X')) (fun r X' ⟨v, e, n, z⟩ => ⟨v, e, n + 1, gxI_305_45 z⟩) ?_
      unfold gxT_305_45
      refine fx_i0 aj_d305 rfl (Nat.le_refl _) (fun _ => rfl) hlv_5 ?_
      refine fx_i2 aj_d305 rfl (Nat.le_succ _) (fun _ => rfl) hlv_0 ?_
      refine fx_gF aj_d305 rfl (Nat.le_succ _) rfl rfl fx_in_11_5 (t := 122) rfl (fun hA13 => ?_)
      refine fx_i2 aj_d305 rfl (Nat.le_succ _) (fun _ => rfl) hlv_0 ?_
      refine fx_gI aj_d305 rfl (Nat.le_succ _) rfl rfl (Or.inl rfl) ?_
      refine fx_ld aj_d305 (Or.inl rfl) rfl (Nat.le_succ _) (fun g140 g141 => ?_)
      show fx_W _ _ _ 56 lv [.int (X.1 122 ((X.1 117 0)).toInt.toNat), .int y5] _ _
      refine fx_qa (c := 0 ≤ ((X.1 117 0)).toInt ∧ ((X.1 117 0)).toInt < ((2 : Nat) : Int)) ⟨g140, fx_lnk g141 hA13⟩ ?_
      refine fx_b (tgt := 118) aj_d305 rfl (Nat.le_succ _) rfl (fun q15 => ?_) (fun q15 => ?_)
      · skip
        refine fx_qe (c := (y5).toInt < ((X.1 122 ((X.1 117 0)).toInt.toNat)).toInt) (fx_t_ge q15) ?_
        show fx_W _ _ _ 118 lv [] _ _
        refine fx_i0 aj_d305 rfl (Nat.le_succ _) (fun _ => rfl) hlv_4 ?_
        exact fx_ri aj_d305 rfl ⟨_, rfl, 0, rfl, rfl⟩
      · skip
        refine fx_qi (c := (y5).toInt < ((X.1 122 ((X.1 117 0)).toInt.toNat)).toInt) (fx_f_ge q15) ?_
        show fx_W _ _ _ 59 lv [] _ _
        refine fx_i2 aj_d305 rfl (Nat.le_succ _) (fun _ => rfl) hlv_0 ?_
        refine fx_i2 aj_d305 rfl (Nat.le_succ _) (fun _ => rfl) hlv_0 ?_
        refine fx_gI aj_d305 rfl (Nat.le_succ _) rfl rfl (Or.inl rfl) ?_
        refine fx_i0 aj_d305 rfl (Nat.le_succ _) (fun _ => rfl) hlv_5 ?_
        refine fx_cv aj_d305 rfl (Nat.le_succ _) rfl [_, _] rfl rfl (gx_247_ok (X.1 117 0) y5) ?_
        rintro _ X16 ⟨w17, rfl, hR16⟩ hok16 hle16
        refine fx_qc hR16 ?_
        show fx_W _ _ _ 69 lv [.int w17] _ _
        refine fx_b0 (tgt := 108) aj_d305 rfl (Nat.le_succ _) rfl (fun q18 => ?_) (fun q18 => ?_)
        · skip
          refine fx_qi (c := (w17).toInt = 0) (fx_t_eq q18) ?_
          show fx_W _ _ _ 108 lv [] _ _
          refine fx_i0 aj_d305 rfl (Nat.le_succ _) (fun _ => rfl) hlv_4 ?_
          refine fx_s0 (j := 4) aj_d305 rfl (Nat.le_succ _) (by decide) (fun _ => rfl) ?_
          obtain ⟨lv19, elv19⟩ : ∃ l, l = aj_set1 lv 4 (.int y4) := ⟨_, rfl⟩
          rw [← elv19]
          have hlv19_0 : aj_lv lv19 0 = some (.ref 117) := fx_e1 elv19 hlv_0 (by decide) (Or.inl (by decide))
          have hlv19_2 : aj_lv lv19 2 = some (.int p2) := fx_e1 elv19 hlv_2 (by decide) (Or.inl (by decide))
          have hlv19_3 : aj_lv lv19 3 = some (.int y3) := fx_e1 elv19 hlv_3 (by decide) (Or.inr rfl)
          have hlv19_5 : aj_lv lv19 5 = some (.int y5) := fx_e1 elv19 hlv_5 (by decide) (Or.inl (by decide))
          have hlv19_4 : aj_lv lv19 4 = some (.int y4) := by rw [elv19]; exact ak_set1_eq _ _ _
          show fx_W _ _ _ 112 lv19 [] _ _
          refine fx_incq aj_d305 rfl (Nat.le_succ _) hlv19_5 (by decide) (fun x20 ex20 => ?_)
          obtain ⟨lv21, elv21⟩ : ∃ l, l = aj_set1 lv19 5 (.int x20) := ⟨_, rfl⟩
          rw [← elv21]
          have hlv21_0 : aj_lv lv21 0 = some (.ref 117) := fx_e1 elv21 hlv19_0 (by decide) (Or.inl (by decide))
          have hlv21_2 : aj_lv lv21 2 = some (.int p2) := fx_e1 elv21 hlv19_2 (by decide) (Or.inl (by decide))
          have hlv21_3 : aj_lv lv21 3 = some (.int y3) := fx_e1 elv21 hlv19_3 (by decide) (Or.inl (by decide))
          have hlv21_4 : aj_lv lv21 4 = some (.int y4) := fx_e1 elv21 hlv19_4 (by decide) (Or.inr rfl)
          have hlv21_5 : aj_lv lv21 5 = some (.int x20) := by rw [elv21]; exact ak_set1_eq _ _ _
          show fx_W _ _ _ 115 lv21 [] _ _
          refine fx_n (pc' := 45) (lv' := lv21) (st' := []) aj_d305 rfl (Nat.le_succ _) (fun _ => rfl) ?_
          exact (ih) lv21 (y3) (y4) (x20) X16  hlv21_0 hlv21_2 hlv21_3 hlv21_4 hlv21_5
        · skip
          refine fx_qe (c := (w17).toInt = 0) (fx_f_eq q18) ?_
          show fx_W _ _ _ 72 lv [] _ _
          refine fx_i2 aj_d305 rfl (Nat.le_succ _) (fun _ => rfl) hlv_0 ?_
          refine fx_i0 aj_d305 rfl (Nat.le_succ _) (fun _ => rfl) hlv_3 ?_
          refine fx_i2 aj_d305 rfl (Nat.le_succ _) (fun _ => rfl) hlv_0 ?_
          refine fx_gF aj_d305 rfl (Nat.le_succ _) rfl rfl fx_in_11_66 (t := 148) rfl (fun hA22 => ?_)
          refine fx_i0 aj_d305 rfl (Nat.le_succ _) (fun _ => rfl) hlv_2 ?_
          refine fx_ld aj_d305 (Or.inl rfl) rfl (Nat.le_succ _) (fun g230 g231 => ?_)
          show fx_W _ _ _ 80 lv [.int (X16.1 148 (p2).toInt.toNat), .int y3, .ref 117] _ _
          refine fx_qa (c := 0 ≤ (p2).toInt ∧ (p2).toInt < ((30720 : Nat) : Int)) ⟨g230, fx_lnk g231 hA22⟩ ?_
          refine fx_n (pc' := 82) (lv' := lv) (st' := [.int ((Int8.ofInt 10).toInt32), .int (X16.1 148 (p2).toInt.toNat), .int y3, .ref 117]) aj_d305 rfl (Nat.le_succ _) (fun _ => rfl) ?_
          refine fx_n (pc' := 83) (lv' := lv) (st' := [.int ((X16.1 148 (p2).toInt.toNat) >>> (((Int8.ofInt 10).toInt32) &&& 31)), .int y3, .ref 117]) aj_d305 rfl (Nat.le_succ _) (fun _ => rfl) ?_
          refine fx_i2 aj_d305 rfl (Nat.le_succ _) (fun _ => rfl) hlv_0 ?_
          refine fx_gF aj_d305 rfl (Nat.le_succ _) rfl rfl fx_in_11_66 (t := 148) rfl (fun hA24 => ?_)
          refine fx_i0 aj_d305 rfl (Nat.le_succ _) (fun _ => rfl) hlv_2 ?_
          refine fx_ld aj_d305 (Or.inl rfl) rfl (Nat.le_succ _) (fun g250 g251 => ?_)
          show fx_W _ _ _ 89 lv [.int (X16.1 148 (p2).toInt.toNat), .int ((X16.1 148 (p2).toInt.toNat) >>> (((Int8.ofInt 10).toInt32) &&& 31)), .int y3, .ref 117] _ _
          refine fx_qa (c := 0 ≤ (p2).toInt ∧ (p2).toInt < ((30720 : Nat) : Int)) ⟨g250, fx_lnk g251 hA24⟩ ?_
          refine fx_n (pc' := 92) (lv' := lv) (st' := [.int ((Int16.ofInt 1023).toInt32), .int (X16.1 148 (p2).toInt.toNat), .int ((X16.1 148 (p2).toInt.toNat) >>> (((Int8.ofInt 10).toInt32) &&& 31)), .int y3, .ref 117]) aj_d305 rfl (Nat.le_succ _) (fun _ => rfl) ?_
          refine fx_n (pc' := 93) (lv' := lv) (st' := [.int ((X16.1 148 (p2).toInt.toNat) &&& ((Int16.ofInt 1023).toInt32)), .int ((X16.1 148 (p2).toInt.toNat) >>> (((Int8.ofInt 10).toInt32) &&& 31)), .int y3, .ref 117]) aj_d305 rfl (Nat.le_succ _) (fun _ => rfl) ?_
          refine fx_i0 aj_d305 rfl (Nat.le_succ _) (fun _ => rfl) hlv_5 ?_
          refine fx_cv aj_d305 rfl (Nat.le_succ _) rfl [_, _, _, _] rfl rfl (gx_293_ok y3 ((X16.1 148 (p2).toInt.toNat) >>> (((Int8.ofInt 10).toInt32) &&& 31)) ((X16.1 148 (p2).toInt.toNat) &&& ((Int16.ofInt 1023).toInt32)) y5) ?_
          rintro _ X26 ⟨w27, rfl, hR26⟩ hok26 hle26
          refine fx_qc hR26 ?_
          show fx_W _ _ _ 98 lv [.int w27] _ _
          refine fx_b0 (tgt := 108) aj_d305 rfl (Nat.le_succ _) rfl (fun q28 => ?_) (fun q28 => ?_)
          · skip
            refine fx_qi (c := (w27).toInt = 0) (fx_t_eq q28) ?_
            show fx_W _ _ _ 108 lv [] _ _
            refine fx_i0 aj_d305 rfl (Nat.le_succ _) (fun _ => rfl) hlv_4 ?_
            refine fx_s0 (j := 4) aj_d305 rfl (Nat.le_succ _) (by decide) (fun _ => rfl) ?_
            obtain ⟨lv29, elv29⟩ : ∃ l, l = aj_set1 lv 4 (.int y4) := ⟨_, rfl⟩
            rw [← elv29]
            have hlv29_0 : aj_lv lv29 0 = some (.ref 117) := fx_e1 elv29 hlv_0 (by decide) (Or.inl (by decide))
            have hlv29_2 : aj_lv lv29 2 = some (.int p2) := fx_e1 elv29 hlv_2 (by decide) (Or.inl (by decide))
            have hlv29_3 : aj_lv lv29 3 = some (.int y3) := fx_e1 elv29 hlv_3 (by decide) (Or.inr rfl)
            have hlv29_5 : aj_lv lv29 5 = some (.int y5) := fx_e1 elv29 hlv_5 (by decide) (Or.inl (by decide))
            have hlv29_4 : aj_lv lv29 4 = some (.int y4) := by rw [elv29]; exact ak_set1_eq _ _ _
            show fx_W _ _ _ 112 lv29 [] _ _
            refine fx_incq aj_d305 rfl (Nat.le_succ _) hlv29_5 (by decide) (fun x30 ex30 => ?_)
            obtain ⟨lv31, elv31⟩ : ∃ l, l = aj_set1 lv29 5 (.int x30) := ⟨_, rfl⟩
            rw [← elv31]
            have hlv31_0 : aj_lv lv31 0 = some (.ref 117) := fx_e1 elv31 hlv29_0 (by decide) (Or.inl (by decide))
            have hlv31_2 : aj_lv lv31 2 = some (.int p2) := fx_e1 elv31 hlv29_2 (by decide) (Or.inl (by decide))
            have hlv31_3 : aj_lv lv31 3 = some (.int y3) := fx_e1 elv31 hlv29_3 (by decide) (Or.inl (by decide))
            have hlv31_4 : aj_lv lv31 4 = some (.int y4) := fx_e1 elv31 hlv29_4 (by decide) (Or.inr rfl)
            have hlv31_5 : aj_lv lv31 5 = some (.int x30) := by rw [elv31]; exact ak_set1_eq _ _ _
            show fx_W _ _ _ 115 lv31 [] _ _
            refine fx_n (pc' := 45) (lv' := lv31) (st' := []) aj_d305 rfl (Nat.le_succ _) (fun _ => rfl) ?_
            exact (ih) lv31 (y3) (y4) (x30) X26  hlv31_0 hlv31_2 hlv31_3 hlv31_4 hlv31_5
          · skip
            refine fx_qe (c := (w27).toInt = 0) (fx_f_eq q28) ?_
            show fx_W _ _ _ 101 lv [] _ _
            refine fx_i0 aj_d305 rfl (Nat.le_succ _) (fun _ => rfl) hlv_4 ?_
            refine fx_n (pc' := 104) (lv' := lv) (st' := [.int (Int32.ofInt 1), .int y4]) aj_d305 rfl (Nat.le_succ _) (fun _ => rfl) ?_
            refine fx_n (pc' := 105) (lv' := lv) (st' := [.int (y4 + (Int32.ofInt 1))]) aj_d305 rfl (Nat.le_succ _) (fun _ => rfl) ?_
            refine fx_n (pc' := 110) (lv' := lv) (st' := [.int (y4 + (Int32.ofInt 1))]) aj_d305 rfl (Nat.le_succ _) (fun _ => rfl) ?_
            refine fx_qxI (fun x32 ex32 => ?_)
            refine fx_s0 (j := 4) aj_d305 rfl (Nat.le_succ _) (by decide) (fun _ => rfl) ?_
            obtain ⟨lv33, elv33⟩ : ∃ l, l = aj_set1 lv 4 (.int x32) := ⟨_, rfl⟩
            rw [← elv33]
            have hlv33_0 : aj_lv lv33 0 = some (.ref 117) := fx_e1 elv33 hlv_0 (by decide) (Or.inl (by decide))
            have hlv33_2 : aj_lv lv33 2 = some (.int p2) := fx_e1 elv33 hlv_2 (by decide) (Or.inl (by decide))
            have hlv33_3 : aj_lv lv33 3 = some (.int y3) := fx_e1 elv33 hlv_3 (by decide) (Or.inr rfl)
            have hlv33_5 : aj_lv lv33 5 = some (.int y5) := fx_e1 elv33 hlv_5 (by decide) (Or.inl (by decide))
            have hlv33_4 : aj_lv lv33 4 = some (.int x32) := by rw [elv33]; exact ak_set1_eq _ _ _
            show fx_W _ _ _ 112 lv33 [] _ _
            refine fx_incq aj_d305 rfl (Nat.le_succ _) hlv33_5 (by decide) (fun x34 ex34 => ?_)
            obtain ⟨lv35, elv35⟩ : ∃ l, l = aj_set1 lv33 5 (.int x34) := ⟨_, rfl⟩
            rw [← elv35]
            have hlv35_0 : aj_lv lv35 0 = some (.ref 117) := fx_e1 elv35 hlv33_0 (by decide) (Or.inl (by decide))
            have hlv35_2 : aj_lv lv35 2 = some (.int p2) := fx_e1 elv35 hlv33_2 (by decide) (Or.inl (by decide))
            have hlv35_3 : aj_lv lv35 3 = some (.int y3) := fx_e1 elv35 hlv33_3 (by decide) (Or.inl (by decide))
            have hlv35_4 : aj_lv lv35 4 = some (.int x32) := fx_e1 elv35 hlv33_4 (by decide) (Or.inr rfl)
            have hlv35_5 : aj_lv lv35 5 = some (.int x34) := by rw [elv35]; exact ak_set1_eq _ _ _
            show fx_W _ _ _ 115 lv35 [] _ _
            refine fx_n (pc' := 45) (lv' := lv35) (st' := []) aj_d305 rfl (Nat.le_succ _) (fun _ => rfl) ?_
            exact (ih) lv35 (y3) (x32) (x34) X26  hlv35_0 hlv35_2 hlv35_3 hlv35_4 hlv35_5
theorem gx_305_ok {tb : aj_T} (p1 : Int32) (p2 : Int32) {X : fx_X} : fx_K tb 305 [.ref 117, .int p1, .int p2] X (fx_Q fx_qI (fun v X' => gx_305 p1 p2 X v X')) := by
  refine fx_m aj_m305_at rfl (fun N => ?_)
  refine fx_mono (Q := fx_Q fx_qI (fun v X' => ∃ n : Nat, gxE_305 p1 p2 (gxF_305 p1 p2 n) X v X')) (fun r X' h => h) ?_
  unfold gxE_305
  show fx_W _ _ _ 0 [(0, .ref 117), (1, .int p1), (2, .int p2)] [] _ _
  obtain ⟨lv1, elv1⟩ : ∃ l : aj_V, l = [(0, .ref 117), (1, .int p1), (2, .int p2)] := ⟨_, rfl⟩
  rw [← elv1]
  have hlv1_0 : aj_lv lv1 0 = some (.ref 117) := by rw [elv1]; rfl
  have hlv1_1 : aj_lv lv1 1 = some (.int p1) := by rw [elv1]; rfl
  have hlv1_2 : aj_lv lv1 2 = some (.int p2) := by rw [elv1]; rfl
  refine fx_i2 aj_d305 rfl (Nat.le_succ _) (fun _ => rfl) hlv1_0 ?_
  refine fx_i0 aj_d305 rfl (Nat.le_succ _) (fun _ => rfl) hlv1_1 ?_
  refine fx_cv aj_d305 rfl (Nat.le_succ _) rfl [_] rfl rfl (gx_291_ok p1) ?_
  rintro _ X2 ⟨w3, rfl, hR2⟩ hok2 hle2
  refine fx_qc hR2 ?_
  show fx_W _ _ _ 5 lv1 [.int w3] _ _
  refine fx_b0 (tgt := 12) aj_d305 rfl (Nat.le_succ _) rfl (fun q4 => ?_) (fun q4 => ?_)
  · skip
    refine fx_qi (c := (w3).toInt = 0) (fx_t_eq q4) ?_
    show fx_W _ _ _ 12 lv1 [] _ _
    refine fx_n (pc' := 13) (lv' := lv1) (st' := [.int (Int32.ofInt (-1))]) aj_d305 rfl (Nat.le_succ _) (fun _ => rfl) ?_
    exact fx_ri aj_d305 rfl ⟨_, rfl, 0, rfl, rfl⟩
  · skip
    refine fx_qe (c := (w3).toInt = 0) (fx_f_eq q4) ?_
    show fx_W _ _ _ 8 lv1 [] _ _
    refine fx_i0 aj_d305 rfl (Nat.le_succ _) (fun _ => rfl) hlv1_2 ?_
    refine fx_b0 (tgt := 14) aj_d305 rfl (Nat.le_succ _) rfl (fun q5 => ?_) (fun q5 => ?_)
    · skip
      refine fx_qe (c := (p2).toInt < 0) (fx_t_ge q5) ?_
      show fx_W _ _ _ 14 lv1 [] _ _
      refine fx_i2 aj_d305 rfl (Nat.le_succ _) (fun _ => rfl) hlv1_0 ?_
      refine fx_i0 aj_d305 rfl (Nat.le_succ _) (fun _ => rfl) hlv1_1 ?_
      refine fx_cv aj_d305 rfl (Nat.le_succ _) rfl [_] rfl rfl (gx_294_ok p1) ?_
      rintro _ X6 ⟨w7, rfl, hR6⟩ hok6 hle6
      refine fx_qc hR6 ?_
      show fx_W _ _ _ 19 lv1 [] _ _
      refine fx_i0 aj_d305 rfl (Nat.le_succ _) (fun _ => rfl) hlv1_2 ?_
      refine fx_i2 aj_d305 rfl (Nat.le_succ _) (fun _ => rfl) hlv1_0 ?_
      refine fx_gI aj_d305 rfl (Nat.le_succ _) rfl rfl (Or.inl rfl) ?_
      refine fx_b (tgt := 29) aj_d305 rfl (Nat.le_succ _) rfl (fun q8 => ?_) (fun q8 => ?_)
      · skip
        refine fx_qi (c := (p2).toInt < ((X6.1 117 67)).toInt) (fx_t_lt q8) ?_
        show fx_W _ _ _ 29 lv1 [] _ _
        refine fx_i2 aj_d305 rfl (Nat.le_succ _) (fun _ => rfl) hlv1_0 ?_
        refine fx_gI aj_d305 rfl (Nat.le_succ _) rfl rfl (Or.inl rfl) ?_
        refine fx_n (pc' := 35) (lv' := lv1) (st' := [.int ((Int8.ofInt 10).toInt32), .int (X6.1 117 0)]) aj_d305 rfl (Nat.le_succ _) (fun _ => rfl) ?_
        refine fx_n (pc' := 36) (lv' := lv1) (st' := [.int ((X6.1 117 0) * ((Int8.ofInt 10).toInt32))]) aj_d305 rfl (Nat.le_succ _) (fun _ => rfl) ?_
        refine fx_i0 aj_d305 rfl (Nat.le_succ _) (fun _ => rfl) hlv1_1 ?_
        refine fx_n (pc' := 38) (lv' := lv1) (st' := [.int (((X6.1 117 0) * ((Int8.ofInt 10).toInt32)) + p1)]) aj_d305 rfl (Nat.le_succ _) (fun _ => rfl) ?_
        refine fx_qxI (fun x9 ex9 => ?_)
        refine fx_s0 (j := 3) aj_d305 rfl (Nat.le_succ _) (by decide) (fun _ => rfl) ?_
        obtain ⟨lv10, elv10⟩ : ∃ l, l = aj_set1 lv1 3 (.int x9) := ⟨_, rfl⟩
        rw [← elv10]
        have hlv10_0 : aj_lv lv10 0 = some (.ref 117) := fx_e1 elv10 hlv1_0 (by decide) (Or.inl (by decide))
        have hlv10_2 : aj_lv lv10 2 = some (.int p2) := fx_e1 elv10 hlv1_2 (by decide) (Or.inr rfl)
        have hlv10_3 : aj_lv lv10 3 = some (.int x9) := by rw [elv10]; exact ak_set1_eq _ _ _
        show fx_W _ _ _ 39 lv10 [] _ _
        refine fx_n (pc' := 40) (lv' := lv10) (st' := [.int (Int32.ofInt 0)]) aj_d305 rfl (Nat.le_succ _) (fun _ => rfl) ?_
        refine fx_s0 (j := 4) aj_d305 rfl (Nat.le_succ _) (by decide) (fun _ => rfl) ?_
        obtain ⟨lv11, elv11⟩ : ∃ l, l = aj_set1 lv10 4 (.int (Int32.ofInt 0)) := ⟨_, rfl⟩
        rw [← elv11]
        have hlv11_0 : aj_lv lv11 0 = some (.ref 117) := fx_e1 elv11 hlv10_0 (by decide) (Or.inl (by decide))
        have hlv11_2 : aj_lv lv11 2 = some (.int p2) := fx_e1 elv11 hlv10_2 (by decide) (Or.inl (by decide))
        have hlv11_3 : aj_lv lv11 3 = some (.int x9) := fx_e1 elv11 hlv10_3 (by decide) (Or.inr rfl)
        have hlv11_4 : aj_lv lv11 4 = some (.int (Int32.ofInt 0)) := by rw [elv11]; exact ak_set1_eq _ _ _
        show fx_W _ _ _ 42 lv11 [] _ _
        refine fx_n (pc' := 43) (lv' := lv11) (st' := [.int (Int32.ofInt 0)]) aj_d305 rfl (Nat.le_succ _) (fun _ => rfl) ?_
        refine fx_s0 (j := 5) aj_d305 rfl (Nat.le_succ _) (by decide) (fun _ => rfl) ?_
        obtain ⟨lv12, elv12⟩ : ∃ l, l = aj_set1 lv11 5 (.int (Int32.ofInt 0)) := ⟨_, rfl⟩
        rw [← elv12]
        have hlv12_0 : aj_lv lv12 0 = some (.ref 117) := fx_e1 elv12 hlv11_0 (by decide) (Or.inl (by decide))
        have hlv12_2 : aj_lv lv12 2 = some (.int p2) := fx_e1 elv12 hlv11_2 (by decide) (Or.inl (by decide))
        have hlv12_3 : aj_lv lv12 3 = some (.int x9) := fx_e1 elv12 hlv11_3 (by decide) (Or.inl (by decide))
        have hlv12_4 : aj_lv lv12 4 = some (.int (Int32.ofInt 0)) := fx_e1 elv12 hlv11_4 (by decide) (Or.inr rfl)
        have hlv12_5 : aj_lv lv12 5 = some (.int (Int32.ofInt 0)) := by rw [elv12]; exact ak_set1_eq _ _ _
        show fx_W _ _ _ 45 lv12 [] _ _
        exact ((gxL_305 p1 p2 N)) lv12 (x9) ((Int32.ofInt 0)) ((Int32.ofInt 0)) X6  hlv12_0 hlv12_2 hlv12_3 hlv12_4 hlv12_5
      · skip
        refine fx_qe (c := (p2).toInt < ((X6.1 117 67)).toInt) (fx_f_lt q8) ?_
        show fx_W _ _ _ 27 lv1 [] _ _
        refine fx_n (pc' := 28) (lv' := lv1) (st' := [.int (Int32.ofInt (-1))]) aj_d305 rfl (Nat.le_succ _) (fun _ => rfl) ?_
        exact fx_ri aj_d305 rfl ⟨_, rfl, 0, rfl, rfl⟩
    · skip
      refine fx_qi (c := (p2).toInt < 0) (fx_f_ge q5) ?_
      show fx_W _ _ _ 12 lv1 [] _ _
      refine fx_n (pc' := 13) (lv' := lv1) (st' := [.int (Int32.ofInt (-1))]) aj_d305 rfl (Nat.le_succ _) (fun _ => rfl) ?_
      exact fx_ri aj_d305 rfl ⟨_, rfl, 0, rfl, rfl⟩
def gxT_307_15 (p1 : Int32) (p2 : Int32) (p3 : Int32) (P : Nat → List Int32 → List Int64 → List Nat → fx_X → Int32 → fx_X → Prop) (y4 : Int32) (y5 : Int32) (X : fx_X) (v : Int32) (X' : fx_X) : Prop :=
  (if (y5).toInt < (y4).toInt then ((0 ≤ (y5).toInt ∧ (y5).toInt < ((30 : Nat) : Int)) ∧ (0 ≤ (y5).toInt ∧ (y5).toInt < ((30 : Nat) : Int)) ∧ ∃ X16 : fx_X, X16 = (fx_wI X 149 (y5).toInt.toNat (X.1 143 (y5).toInt.toNat)) ∧ ∃ x17 : Int32, x17 = y5 + Int32.ofInt 1 ∧ P 15 [y4, x17] [] [] X16 v X') else (∃ (w9 : Unit) (X8 : fx_X), gx_266 p2 p3 X w9 X8 ∧ (if ((X8.1 117 58)).toInt = (y4).toInt then (P 62 [y4, (Int32.ofInt 0)] [] [] X8 v X') else (v = (Int32.ofInt 0) ∧ X' = X8))))
def gxT_307_62 (p1 : Int32) (p2 : Int32) (p3 : Int32) (P : Nat → List Int32 → List Int64 → List Nat → fx_X → Int32 → fx_X → Prop) (y4 : Int32) (y5 : Int32) (X : fx_X) (v : Int32) (X' : fx_X) : Prop :=
  (if (y5).toInt < (y4).toInt then (P 72 [y4, y5, (Int32.ofInt 0)] [] [] X v X') else (v = (Int32.ofInt 1) ∧ X' = X))
def gxT_307_72 (p1 : Int32) (p2 : Int32) (p3 : Int32) (P : Nat → List Int32 → List Int64 → List Nat → fx_X → Int32 → fx_X → Prop) (y4 : Int32) (y5 : Int32) (y6 : Int32) (X : fx_X) (v : Int32) (X' : fx_X) : Prop :=
  (0 ≤ (p1).toInt ∧ (p1).toInt < ((50 : Nat) : Int)) ∧ (if (y6).toInt < ((X.1 132 (p1).toInt.toNat)).toInt then ((0 ≤ (y5).toInt ∧ (y5).toInt < ((30 : Nat) : Int)) ∧ ∃ (w29 : Int32) (X28 : fx_X), gx_258 p1 (X.1 149 (y5).toInt.toNat) y6 p3 X w29 X28 ∧ (0 ≤ (y5).toInt ∧ (y5).toInt < ((30 : Nat) : Int)) ∧ ∃ (w33 : Int32) (X32 : fx_X), gx_258 p2 (X28.1 143 (y5).toInt.toNat) y6 p3 X28 w33 X32 ∧ (if (w29).toInt = (w33).toInt then (∃ x35 : Int32, x35 = y6 + Int32.ofInt 1 ∧ P 72 [y4, y5, x35] [] [] X32 v X') else (v = (Int32.ofInt 0) ∧ X' = X32))) else (∃ x24 : Int32, x24 = y5 + Int32.ofInt 1 ∧ P 62 [y4, x24] [] [] X v X'))
def gxE_307 (p1 : Int32) (p2 : Int32) (p3 : Int32) (P : Nat → List Int32 → List Int64 → List Nat → fx_X → Int32 → fx_X → Prop) (X : fx_X) (v : Int32) (X' : fx_X) : Prop :=
  ∃ (w3 : Unit) (X2 : fx_X), gx_266 p1 p3 X w3 X2 ∧ ∃ x4 : Int32, x4 = (X2.1 117 58) ∧ P 15 [x4, (Int32.ofInt 0)] [] [] X2 v X'
noncomputable def gxF_307 (p1 : Int32) (p2 : Int32) (p3 : Int32) (n : Nat) : Nat → List Int32 → List Int64 → List Nat → fx_X → Int32 → fx_X → Prop := Nat.rec (motive := fun _ => Nat → List Int32 → List Int64 → List Nat → fx_X → Int32 → fx_X → Prop) (fun _ _ _ _ _ _ _ => False) (fun _ P l is ls rs X v X' => (l = 15 ∧ ∃ (y4 : Int32) (y5 : Int32), is = [y4, y5] ∧ ls = [] ∧ rs = [] ∧ gxT_307_15 p1 p2 p3 P y4 y5 X v X') ∨ (l = 62 ∧ ∃ (y4 : Int32) (y5 : Int32), is = [y4, y5] ∧ ls = [] ∧ rs = [] ∧ gxT_307_62 p1 p2 p3 P y4 y5 X v X') ∨ (l = 72 ∧ ∃ (y4 : Int32) (y5 : Int32) (y6 : Int32), is = [y4, y5, y6] ∧ ls = [] ∧ rs = [] ∧ gxT_307_72 p1 p2 p3 P y4 y5 y6 X v X')) n
theorem gxI_307_15 {p1 : Int32} {p2 : Int32} {p3 : Int32} {n : Nat} {y4 : Int32} {y5 : Int32} {X : fx_X} {v : Int32} {X' : fx_X} (h : gxT_307_15 p1 p2 p3 (gxF_307 p1 p2 p3 n) y4 y5 X v X') : gxF_307 p1 p2 p3 (n + 1) 15 [y4, y5] [] [] X v X' := Or.inl ⟨rfl, y4, y5, rfl, rfl, rfl, h⟩
theorem gxO_307_15 {p1 : Int32} {p2 : Int32} {p3 : Int32} {n : Nat} {y4 : Int32} {y5 : Int32} {X : fx_X} {v : Int32} {X' : fx_X} (h : gxF_307 p1 p2 p3 (n + 1) 15 [y4, y5] [] [] X v X') : gxT_307_15 p1 p2 p3 (gxF_307 p1 p2 p3 n) y4 y5 X v X' := by
  rcases h with ⟨-, _, _, e1, e2, e3, h⟩ | ⟨e, -⟩ | ⟨e, -⟩
  · cases e1; cases e2; cases e3; exact h
  · exact absurd e (by decide)
  · exact absurd e (by decide)
theorem gxI_307_62 {p1 : Int32} {p2 : Int32} {p3 : Int32} {n : Nat} {y4 : Int32} {y5 : Int32} {X : fx_X} {v : Int32} {X' : fx_X} (h : gxT_307_62 p1 p2 p3 (gxF_307 p1 p2 p3 n) y4 y5 X v X') : gxF_307 p1 p2 p3 (n + 1) 62 [y4, y5] [] [] X v X' := Or.inr (Or.inl ⟨rfl, y4, y5, rfl, rfl, rfl, h⟩)
theorem gxO_307_62 {p1 : Int32} {p2 : Int32} {p3 : Int32} {n : Nat} {y4 : Int32} {y5 : Int32} {X : fx_X} {v : Int32} {X' : fx_X} (h : gxF_307 p1 p2 p3 (n + 1) 62 [y4, y5] [] [] X v X') : gxT_307_62 p1 p2 p3 (gxF_307 p1 p2 p3 n) y4 y5 X v X' := by
  rcases h with ⟨e, -⟩ | ⟨-, _, _, e1, e2, e3, h⟩ | ⟨e, -⟩
  · exact absurd e (by decide)
  · cases e1; cases e2; cases e3; exact h
  · exact absurd e (by decide)
theorem gxI_307_72 {p1 : Int32} {p2 : Int32} {p3 : Int32} {n : Nat} {y4 : Int32} {y5 : Int32} {y6 : Int32} {X : fx_X} {v : Int32} {X' : fx_X} (h : gxT_307_72 p1 p2 p3 (gxF_307 p1 p2 p3 n) y4 y5 y6 X v X') : gxF_307 p1 p2 p3 (n + 1) 72 [y4, y5, y6] [] [] X v X' := Or.inr (Or.inr (⟨rfl, y4, y5, y6, rfl, rfl, rfl, h⟩))
theorem gxO_307_72 {p1 : Int32} {p2 : Int32} {p3 : Int32} {n : Nat} {y4 : Int32} {y5 : Int32} {y6 : Int32} {X : fx_X} {v : Int32} {X' : fx_X} (h : gxF_307 p1 p2 p3 (n + 1) 72 [y4, y5, y6] [] [] X v X') : gxT_307_72 p1 p2 p3 (gxF_307 p1 p2 p3 n) y4 y5 y6 X v X' := by
  rcases h with ⟨e, -⟩ | ⟨e, -⟩ | ⟨-, _, _, _, e1, e2, e3, h⟩
  · exact absurd e (by decide)
  · exact absurd e (by decide)
  · cases e1; cases e2; cases e3; exact h
def gx_307 (p1 : Int32) (p2 : Int32) (p3 : Int32) (X : fx_X) (v : Int32) (X' : fx_X) : Prop := ∃ n : Nat, gxE_307 p1 p2 p3 (gxF_307 p1 p2 p3 n) X v X'
theorem gxL_307 {tb : aj_T} (p1 : Int32) (p2 : Int32) (p3 : Int32) : ∀ N : Nat, (∀ (lv : aj_V) (y4 : Int32) (y5 : Int32) (X : fx_X), aj_lv lv 0 = some (.ref 117) → aj_lv lv 1 = some (.int p1) → aj_lv lv 2 = some (.int p2) → aj_lv lv 3 = some (.int p3) → aj_lv lv 4 = some (.int y4) → aj_lv lv 5 = some (.int y5) → fx_W tb aj_m307 N 15 lv [] X (fx_Q fx_qI (fun v X' => ∃ n : Nat, gxF_307 p1 p2 p3 n 15 [y4, y5] [] [] X v X'))) ∧ (∀ (lv : aj_V) (y4 : Int32) (y5 : Int32) (X : fx_X), aj_lv lv 0 = some (.ref 117) → aj_lv lv 1 = some (.int p1) → aj_lv lv 2 = some (.int p2) → aj_lv lv 3 = some (.int p3) → aj_lv lv 4 = some (.int y4) → aj_lv lv 5 = some (.int y5) → fx_W tb aj_m307 N 62 lv [] X (fx_Q fx_qI (fun v X' => ∃ n : Nat, gxF_307 p1 p2 p3 n 62 [y4, y5] [] [] X v X'))) ∧ (∀ (lv : aj_V) (y4 : Int32) (y5 : Int32) (y6 : Int32) (X : fx_X), aj_lv lv 0 = some (.ref 117) → aj_lv lv 1 = some (.int p1) → aj_lv lv 2 = some (.int p2) → aj_lv lv 3 = some (.int p3) → aj_lv lv 4 = some (.int y4) → aj_lv lv 5 = some (.int y5) → aj_lv lv 6 = some (.int y6) → fx_W tb aj_m307 N 72 lv [] X (fx_Q fx_qI (fun v X' => ∃ n : Nat, gxF_307 p1 p2 p3 n 72 [y4, y5, y6] [] [] X v X'))) := by
  intro N
  induction N with
  | zero => exact ⟨(by intros; exact fx_z), (by intros; exact fx_z), (by intros; exact fx_z)⟩
  | succ N ih =>
    refine ⟨?_, ?_, ?_⟩
    · intro lv y4 y5 X hlv_0 hlv_1 hlv_2 hlv_3 hlv_4 hlv_5
      refine fx_mono (Q := fx_Q fx_qI (fun v X' => ∃ n : Nat, gxT_307_15 p1 p2 p3 (gxF_307 p1 p2 p3 n) y4 y5 X v X')) (fun r X' ⟨v, e, n, z⟩ => ⟨v, e, n + 1, gxI_307_15 z⟩) ?_
      unfold gxT_307_15
      refine fx_i0 aj_d307 rfl (Nat.le_refl _) (fun _ => rfl) hlv_5 ?_
      refine fx_i0 aj_d307 rfl (Nat.le_succ _) (fun _ => rfl) hlv_4 ?_
      refine fx_b (tgt := 42) aj_d307 rfl (Nat.le_succ _) rfl (fun q7 => ?_) (fun q7 => ?_)
      · skip
        refine fx_qe (c := (y5).toInt < (y4).toInt) (fx_t_ge q7) ?_
        show fx_W _ _ _ 42 lv [] _ _
        refine fx_i2 aj_d307 rfl (Nat.le_succ _) (fun _ => rfl) hlv_0 ?_
        refine fx_i0 aj_d307 rfl (Nat.le_succ _) (fun _ => rfl) hlv_2 ?_
        refine fx_i0 aj_d307 rfl (Nat.le_succ _) (fun _ => rfl) hlv_3 ?_
        refine fx_cv aj_d307 rfl (Nat.le_succ _) rfl [_, _] rfl rfl (gx_266_ok p2 p3) ?_
        rintro _ X8 ⟨w9, rfl, hR8⟩ hok8 hle8
        refine fx_qc hR8 ?_
        show fx_W _ _ _ 48 lv [] _ _
        refine fx_i2 aj_d307 rfl (Nat.le_succ _) (fun _ => rfl) hlv_0 ?_
        refine fx_gI aj_d307 rfl (Nat.le_succ _) rfl rfl (Or.inl rfl) ?_
        refine fx_i0 aj_d307 rfl (Nat.le_succ _) (fun _ => rfl) hlv_4 ?_
        refine fx_b (tgt := 59) aj_d307 rfl (Nat.le_succ _) rfl (fun q10 => ?_) (fun q10 => ?_)
        · skip
          refine fx_qi (c := ((X8.1 117 58)).toInt = (y4).toInt) (fx_t_eq q10) ?_
          show fx_W _ _ _ 59 lv [] _ _
          refine fx_n (pc' := 60) (lv' := lv) (st' := [.int (Int32.ofInt 0)]) aj_d307 rfl (Nat.le_succ _) (fun _ => rfl) ?_
          refine fx_s0 (j := 5) aj_d307 rfl (Nat.le_succ _) (by decide) (fun _ => rfl) ?_
          obtain ⟨lv11, elv11⟩ : ∃ l, l = aj_set1 lv 5 (.int (Int32.ofInt 0)) := ⟨_, rfl⟩
          rw [← elv11]
          have hlv11_0 : aj_lv lv11 0 = some (.ref 117) := fx_e1 elv11 hlv_0 (by decide) (Or.inl (by decide))
          have hlv11_1 : aj_lv lv11 1 = some (.int p1) := fx_e1 elv11 hlv_1 (by decide) (Or.inl (by decide))
          have hlv11_2 : aj_lv lv11 2 = some (.int p2) := fx_e1 elv11 hlv_2 (by decide) (Or.inl (by decide))
          have hlv11_3 : aj_lv lv11 3 = some (.int p3) := fx_e1 elv11 hlv_3 (by decide) (Or.inl (by decide))
          have hlv11_4 : aj_lv lv11 4 = some (.int y4) := fx_e1 elv11 hlv_4 (by decide) (Or.inr rfl)
          have hlv11_5 : aj_lv lv11 5 = some (.int (Int32.ofInt 0)) := by rw [elv11]; exact ak_set1_eq _ _ _
          show fx_W _ _ _ 62 lv11 [] _ _
          exact (ih.2.1) lv11 (y4) ((Int32.ofInt 0)) X8  hlv11_0 hlv11_1 hlv11_2 hlv11_3 hlv11_4 hlv11_5
        · skip
          refine fx_qe (c := ((X8.1 117 58)).toInt = (y4).toInt) (fx_f_eq q10) ?_
          show fx_W _ _ _ 57 lv [] _ _
          refine fx_n (pc' := 58) (lv' := lv) (st' := [.int (Int32.ofInt 0)]) aj_d307 rfl (Nat.le_succ _) (fun _ => rfl) ?_
          exact fx_ri aj_d307 rfl ⟨_, rfl, 0, rfl, rfl⟩
      · skip
        refine fx_qi (c := (y5).toInt < (y4).toInt) (fx_f_ge q7) ?_
        show fx_W _ _ _ 22 lv [] _ _
        refine fx_i2 aj_d307 rfl (Nat.le_succ _) (fun _ => rfl) hlv_0 ?_
        refine fx_gF aj_d307 rfl (Nat.le_succ _) rfl rfl fx_in_11_71 (t := 149) rfl (fun hA12 => ?_)
        refine fx_i0 aj_d307 rfl (Nat.le_succ _) (fun _ => rfl) hlv_5 ?_
        refine fx_i2 aj_d307 rfl (Nat.le_succ _) (fun _ => rfl) hlv_0 ?_
        refine fx_gF aj_d307 rfl (Nat.le_succ _) rfl rfl fx_in_11_57 (t := 143) rfl (fun hA13 => ?_)
        refine fx_i0 aj_d307 rfl (Nat.le_succ _) (fun _ => rfl) hlv_5 ?_
        refine fx_ld aj_d307 (Or.inl rfl) rfl (Nat.le_succ _) (fun g140 g141 => ?_)
        show fx_W _ _ _ 35 lv [.int (X.1 143 (y5).toInt.toNat), .int y5, .ref 149] _ _
        refine fx_qa (c := 0 ≤ (y5).toInt ∧ (y5).toInt < ((30 : Nat) : Int)) ⟨g140, fx_lnk g141 hA13⟩ ?_
        refine fx_st aj_d307 (Or.inl ⟨rfl, rfl⟩) rfl (Nat.le_succ _) (fun g150 g151 => ?_)
        show fx_W _ _ _ _ _ _ (fx_wI X 149 (y5).toInt.toNat (X.1 143 (y5).toInt.toNat)) _
        refine fx_qa (c := 0 ≤ (y5).toInt ∧ (y5).toInt < ((30 : Nat) : Int)) ⟨g150, fx_lnk g151 hA12⟩ ?_
        refine fx_qX (fun X16 eX16 => ?_)
        show fx_W _ _ _ 36 lv [] _ _
        refine fx_incq aj_d307 rfl (Nat.le_succ _) hlv_5 (by decide) (fun x17 ex17 => ?_)
        obtain ⟨lv18, elv18⟩ : ∃ l, l = aj_set1 lv 5 (.int x17) := ⟨_, rfl⟩
        rw [← elv18]
        have hlv18_0 : aj_lv lv18 0 = some (.ref 117) := fx_e1 elv18 hlv_0 (by decide) (Or.inl (by decide))
        have hlv18_1 : aj_lv lv18 1 = some (.int p1) := fx_e1 elv18 hlv_1 (by decide) (Or.inl (by decide))
        have hlv18_2 : aj_lv lv18 2 = some (.int p2) := fx_e1 elv18 hlv_2 (by decide) (Or.inl (by decide))
        have hlv18_3 : aj_lv lv18 3 = some (.int p3) := fx_e1 elv18 hlv_3 (by decide) (Or.inl (by decide))
        have hlv18_4 : aj_lv lv18 4 = some (.int y4) := fx_e1 elv18 hlv_4 (by decide) (Or.inr rfl)
        have hlv18_5 : aj_lv lv18 5 = some (.int x17) := by rw [elv18]; exact ak_set1_eq _ _ _
        show fx_W _ _ _ 39 lv18 [] _ _
        refine fx_n (pc' := 15) (lv' := lv18) (st' := []) aj_d307 rfl (Nat.le_succ _) (fun _ => rfl) ?_
        exact (ih.1) lv18 (y4) (x17) X16  hlv18_0 hlv18_1 hlv18_2 hlv18_3 hlv18_4 hlv18_5
    · intro lv y4 y5 X hlv_0 hlv_1 hlv_2 hlv_3 hlv_4 hlv_5
      refine fx_mono (Q := fx_Q fx_qI (fun v X' => ∃ n : Nat, gxT_307_62 p1 p2 p3 (gxF_307 p1 p2 p3 n) y4 y5 X v X')) (fun r X' ⟨v, e, n, z⟩ => ⟨v, e, n + 1, gxI_307_62 z⟩) ?_
      unfold gxT_307_62
      refine fx_i0 aj_d307 rfl (Nat.le_refl _) (fun _ => rfl) hlv_5 ?_
      refine fx_i0 aj_d307 rfl (Nat.le_succ _) (fun _ => rfl) hlv_4 ?_
      refine fx_b (tgt := 130) aj_d307 rfl (Nat.le_succ _) rfl (fun q19 => ?_) (fun q19 => ?_)
      · skip
        refine fx_qe (c := (y5).toInt < (y4).toInt) (fx_t_ge q19) ?_
        show fx_W _ _ _ 130 lv [] _ _
        refine fx_n (pc' := 131) (lv' := lv) (st' := [.int (Int32.ofInt 1)]) aj_d307 rfl (Nat.le_succ _) (fun _ => rfl) ?_
        exact fx_ri aj_d307 rfl ⟨_, rfl, 0, rfl, rfl⟩
      · skip
        refine fx_qi (c := (y5).toInt < (y4).toInt) (fx_f_ge q19) ?_
        show fx_W _ _ _ 69 lv [] _ _
        refine fx_n (pc' := 70) (lv' := lv) (st' := [.int (Int32.ofInt 0)]) aj_d307 rfl (Nat.le_succ _) (fun _ => rfl) ?_
        refine fx_s0 (j := 6) aj_d307 rfl (Nat.le_succ _) (by decide) (fun _ => rfl) ?_
        obtain ⟨lv20, elv20⟩ : ∃ l, l = aj_set1 lv 6 (.int (Int32.ofInt 0)) := ⟨_, rfl⟩
        rw [← elv20]
        have hlv20_0 : aj_lv lv20 0 = some (.ref 117) := fx_e1 elv20 hlv_0 (by decide) (Or.inl (by decide))
        have hlv20_1 : aj_lv lv20 1 = some (.int p1) := fx_e1 elv20 hlv_1 (by decide) (Or.inl (by decide))
        have hlv20_2 : aj_lv lv20 2 = some (.int p2) := fx_e1 elv20 hlv_2 (by decide) (Or.inl (by decide))
        have hlv20_3 : aj_lv lv20 3 = some (.int p3) := fx_e1 elv20 hlv_3 (by decide) (Or.inl (by decide))
        have hlv20_4 : aj_lv lv20 4 = some (.int y4) := fx_e1 elv20 hlv_4 (by decide) (Or.inl (by decide))
        have hlv20_5 : aj_lv lv20 5 = some (.int y5) := fx_e1 elv20 hlv_5 (by decide) (Or.inr rfl)
        have hlv20_6 : aj_lv lv20 6 = some (.int (Int32.ofInt 0)) := by rw [elv20]; exact ak_set1_eq _ _ _
        show fx_W _ _ _ 72 lv20 [] _ _
        exact (ih.2.2) lv20 (y4) (y5) ((Int32.ofInt 0)) X  hlv20_0 hlv20_1 hlv20_2 hlv20_3 hlv20_4 hlv20_5 hlv20_6
    · intro lv y4 y5 y6 X hlv_0 hlv_1 hlv_2 hlv_3 hlv_4 hlv_5 hlv_6
      refine fx_mono (Q := fx_Q fx_qI (fun v X' => ∃ n : Nat, gxT_307_72 p1 p2 p3 (gxF_307 p1 p2 p3 n) y4 y5 y6 X v X')) (fun r X' ⟨v, e, n, z⟩ => ⟨v, e, n + 1, gxI_307_72 z⟩) ?_
      unfold gxT_307_72
      refine fx_i0 aj_d307 rfl (Nat.le_refl _) (fun _ => rfl) hlv_6 ?_
      refine fx_i2 aj_d307 rfl (Nat.le_succ _) (fun _ => rfl) hlv_0 ?_
      refine fx_gF aj_d307 rfl (Nat.le_succ _) rfl rfl fx_in_11_16 (t := 132) rfl (fun hA21 => ?_)
      refine fx_i0 aj_d307 rfl (Nat.le_succ _) (fun _ => rfl) hlv_1 ?_
      refine fx_ld aj_d307 (Or.inl rfl) rfl (Nat.le_succ _) (fun g220 g221 => ?_)
      show fx_W _ _ _ 80 lv [.int (X.1 132 (p1).toInt.toNat), .int y6] _ _
      refine fx_qa (c := 0 ≤ (p1).toInt ∧ (p1).toInt < ((50 : Nat) : Int)) ⟨g220, fx_lnk g221 hA21⟩ ?_
      refine fx_b (tgt := 124) aj_d307 rfl (Nat.le_succ _) rfl (fun q23 => ?_) (fun q23 => ?_)
      · skip
        refine fx_qe (c := (y6).toInt < ((X.1 132 (p1).toInt.toNat)).toInt) (fx_t_ge q23) ?_
        show fx_W _ _ _ 124 lv [] _ _
        refine fx_incq aj_d307 rfl (Nat.le_succ _) hlv_5 (by decide) (fun x24 ex24 => ?_)
        obtain ⟨lv25, elv25⟩ : ∃ l, l = aj_set1 lv 5 (.int x24) := ⟨_, rfl⟩
        rw [← elv25]
        have hlv25_0 : aj_lv lv25 0 = some (.ref 117) := fx_e1 elv25 hlv_0 (by decide) (Or.inl (by decide))
        have hlv25_1 : aj_lv lv25 1 = some (.int p1) := fx_e1 elv25 hlv_1 (by decide) (Or.inl (by decide))
        have hlv25_2 : aj_lv lv25 2 = some (.int p2) := fx_e1 elv25 hlv_2 (by decide) (Or.inl (by decide))
        have hlv25_3 : aj_lv lv25 3 = some (.int p3) := fx_e1 elv25 hlv_3 (by decide) (Or.inl (by decide))
        have hlv25_4 : aj_lv lv25 4 = some (.int y4) := fx_e1 elv25 hlv_4 (by decide) (Or.inr rfl)
        have hlv25_5 : aj_lv lv25 5 = some (.int x24) := by rw [elv25]; exact ak_set1_eq _ _ _
        show fx_W _ _ _ 127 lv25 [] _ _
        refine fx_n (pc' := 62) (lv' := lv25) (st' := []) aj_d307 rfl (Nat.le_succ _) (fun _ => rfl) ?_
        exact (ih.2.1) lv25 (y4) (x24) X  hlv25_0 hlv25_1 hlv25_2 hlv25_3 hlv25_4 hlv25_5
      · skip
        refine fx_qi (c := (y6).toInt < ((X.1 132 (p1).toInt.toNat)).toInt) (fx_f_ge q23) ?_
        show fx_W _ _ _ 83 lv [] _ _
        refine fx_i2 aj_d307 rfl (Nat.le_succ _) (fun _ => rfl) hlv_0 ?_
        refine fx_i0 aj_d307 rfl (Nat.le_succ _) (fun _ => rfl) hlv_1 ?_
        refine fx_i2 aj_d307 rfl (Nat.le_succ _) (fun _ => rfl) hlv_0 ?_
        refine fx_gF aj_d307 rfl (Nat.le_succ _) rfl rfl fx_in_11_71 (t := 149) rfl (fun hA26 => ?_)
        refine fx_i0 aj_d307 rfl (Nat.le_succ _) (fun _ => rfl) hlv_5 ?_
        refine fx_ld aj_d307 (Or.inl rfl) rfl (Nat.le_succ _) (fun g270 g271 => ?_)
        show fx_W _ _ _ 92 lv [.int (X.1 149 (y5).toInt.toNat), .int p1, .ref 117] _ _
        refine fx_qa (c := 0 ≤ (y5).toInt ∧ (y5).toInt < ((30 : Nat) : Int)) ⟨g270, fx_lnk g271 hA26⟩ ?_
        refine fx_i0 aj_d307 rfl (Nat.le_succ _) (fun _ => rfl) hlv_6 ?_
        refine fx_i0 aj_d307 rfl (Nat.le_succ _) (fun _ => rfl) hlv_3 ?_
        refine fx_cv aj_d307 rfl (Nat.le_succ _) rfl [_, _, _, _] rfl rfl (gx_258_ok p1 (X.1 149 (y5).toInt.toNat) y6 p3) ?_
        rintro _ X28 ⟨w29, rfl, hR28⟩ hok28 hle28
        refine fx_qc hR28 ?_
        show fx_W _ _ _ 98 lv [.int w29] _ _
        refine fx_i2 aj_d307 rfl (Nat.le_succ _) (fun _ => rfl) hlv_0 ?_
        refine fx_i0 aj_d307 rfl (Nat.le_succ _) (fun _ => rfl) hlv_2 ?_
        refine fx_i2 aj_d307 rfl (Nat.le_succ _) (fun _ => rfl) hlv_0 ?_
        refine fx_gF aj_d307 rfl (Nat.le_succ _) rfl rfl fx_in_11_57 (t := 143) rfl (fun hA30 => ?_)
        refine fx_i0 aj_d307 rfl (Nat.le_succ _) (fun _ => rfl) hlv_5 ?_
        refine fx_ld aj_d307 (Or.inl rfl) rfl (Nat.le_succ _) (fun g310 g311 => ?_)
        show fx_W _ _ _ 107 lv [.int (X28.1 143 (y5).toInt.toNat), .int p2, .ref 117, .int w29] _ _
        refine fx_qa (c := 0 ≤ (y5).toInt ∧ (y5).toInt < ((30 : Nat) : Int)) ⟨g310, fx_lnk g311 hA30⟩ ?_
        refine fx_i0 aj_d307 rfl (Nat.le_succ _) (fun _ => rfl) hlv_6 ?_
        refine fx_i0 aj_d307 rfl (Nat.le_succ _) (fun _ => rfl) hlv_3 ?_
        refine fx_cv aj_d307 rfl (Nat.le_succ _) rfl [_, _, _, _] rfl rfl (gx_258_ok p2 (X28.1 143 (y5).toInt.toNat) y6 p3) ?_
        rintro _ X32 ⟨w33, rfl, hR32⟩ hok32 hle32
        refine fx_qc hR32 ?_
        show fx_W _ _ _ 113 lv [.int w33, .int w29] _ _
        refine fx_b (tgt := 118) aj_d307 rfl (Nat.le_succ _) rfl (fun q34 => ?_) (fun q34 => ?_)
        · skip
          refine fx_qi (c := (w29).toInt = (w33).toInt) (fx_t_eq q34) ?_
          show fx_W _ _ _ 118 lv [] _ _
          refine fx_incq aj_d307 rfl (Nat.le_succ _) hlv_6 (by decide) (fun x35 ex35 => ?_)
          obtain ⟨lv36, elv36⟩ : ∃ l, l = aj_set1 lv 6 (.int x35) := ⟨_, rfl⟩
          rw [← elv36]
          have hlv36_0 : aj_lv lv36 0 = some (.ref 117) := fx_e1 elv36 hlv_0 (by decide) (Or.inl (by decide))
          have hlv36_1 : aj_lv lv36 1 = some (.int p1) := fx_e1 elv36 hlv_1 (by decide) (Or.inl (by decide))
          have hlv36_2 : aj_lv lv36 2 = some (.int p2) := fx_e1 elv36 hlv_2 (by decide) (Or.inl (by decide))
          have hlv36_3 : aj_lv lv36 3 = some (.int p3) := fx_e1 elv36 hlv_3 (by decide) (Or.inl (by decide))
          have hlv36_4 : aj_lv lv36 4 = some (.int y4) := fx_e1 elv36 hlv_4 (by decide) (Or.inl (by decide))
          have hlv36_5 : aj_lv lv36 5 = some (.int y5) := fx_e1 elv36 hlv_5 (by decide) (Or.inr rfl)
          have hlv36_6 : aj_lv lv36 6 = some (.int x35) := by rw [elv36]; exact ak_set1_eq _ _ _
          show fx_W _ _ _ 121 lv36 [] _ _
          refine fx_n (pc' := 72) (lv' := lv36) (st' := []) aj_d307 rfl (Nat.le_succ _) (fun _ => rfl) ?_
          exact (ih.2.2) lv36 (y4) (y5) (x35) X32  hlv36_0 hlv36_1 hlv36_2 hlv36_3 hlv36_4 hlv36_5 hlv36_6
        · skip
          refine fx_qe (c := (w29).toInt = (w33).toInt) (fx_f_eq q34) ?_
          show fx_W _ _ _ 116 lv [] _ _
          refine fx_n (pc' := 117) (lv' := lv) (st' := [.int (Int32.ofInt 0)]) aj_d307 rfl (Nat.le_succ _) (fun _ => rfl) ?_
          exact fx_ri aj_d307 rfl ⟨_, rfl, 0, rfl, rfl⟩
theorem gx_307_ok {tb : aj_T} (p1 : Int32) (p2 : Int32) (p3 : Int32) {X : fx_X} : fx_K tb 307 [.ref 117, .int p1, .int p2, .int p3] X (fx_Q fx_qI (fun v X' => gx_307 p1 p2 p3 X v X')) := by
  refine fx_m aj_m307_at rfl (fun N => ?_)
  refine fx_mono (Q := fx_Q fx_qI (fun v X' => ∃ n : Nat, gxE_307 p1 p2 p3 (gxF_307 p1 p2 p3 n) X v X')) (fun r X' h => h) ?_
  unfold gxE_307
  show fx_W _ _ _ 0 [(0, .ref 117), (1, .int p1), (2, .int p2), (3, .int p3)] [] _ _
  obtain ⟨lv1, elv1⟩ : ∃ l : aj_V, l = [(0, .ref 117), (1, .int p1), (2, .int p2), (3, .int p3)] := ⟨_, rfl⟩
  rw [← elv1]
  have hlv1_0 : aj_lv lv1 0 = some (.ref 117) := by rw [elv1]; rfl
  have hlv1_1 : aj_lv lv1 1 = some (.int p1) := by rw [elv1]; rfl
  have hlv1_2 : aj_lv lv1 2 = some (.int p2) := by rw [elv1]; rfl
  have hlv1_3 : aj_lv lv1 3 = some (.int p3) := by rw [elv1]; rfl
  refine fx_i2 aj_d307 rfl (Nat.le_succ _) (fun _ => rfl) hlv1_0 ?_
  refine fx_i0 aj_d307 rfl (Nat.le_succ _) (fun _ => rfl) hlv1_1 ?_
  refine fx_i0 aj_d307 rfl (Nat.le_succ _) (fun _ => rfl) hlv1_3 ?_
  refine fx_cv aj_d307 rfl (Nat.le_succ _) rfl [_, _] rfl rfl (gx_266_ok p1 p3) ?_
  rintro _ X2 ⟨w3, rfl, hR2⟩ hok2 hle2
  refine fx_qc hR2 ?_
  show fx_W _ _ _ 6 lv1 [] _ _
  refine fx_i2 aj_d307 rfl (Nat.le_succ _) (fun _ => rfl) hlv1_0 ?_
  refine fx_gI aj_d307 rfl (Nat.le_succ _) rfl rfl (Or.inl rfl) ?_
  refine fx_qxI (fun x4 ex4 => ?_)
  refine fx_s0 (j := 4) aj_d307 rfl (Nat.le_succ _) (by decide) (fun _ => rfl) ?_
  obtain ⟨lv5, elv5⟩ : ∃ l, l = aj_set1 lv1 4 (.int x4) := ⟨_, rfl⟩
  rw [← elv5]
  have hlv5_0 : aj_lv lv5 0 = some (.ref 117) := fx_e1 elv5 hlv1_0 (by decide) (Or.inl (by decide))
  have hlv5_1 : aj_lv lv5 1 = some (.int p1) := fx_e1 elv5 hlv1_1 (by decide) (Or.inl (by decide))
  have hlv5_2 : aj_lv lv5 2 = some (.int p2) := fx_e1 elv5 hlv1_2 (by decide) (Or.inl (by decide))
  have hlv5_3 : aj_lv lv5 3 = some (.int p3) := fx_e1 elv5 hlv1_3 (by decide) (Or.inr rfl)
  have hlv5_4 : aj_lv lv5 4 = some (.int x4) := by rw [elv5]; exact ak_set1_eq _ _ _
  show fx_W _ _ _ 12 lv5 [] _ _
  refine fx_n (pc' := 13) (lv' := lv5) (st' := [.int (Int32.ofInt 0)]) aj_d307 rfl (Nat.le_succ _) (fun _ => rfl) ?_
  refine fx_s0 (j := 5) aj_d307 rfl (Nat.le_succ _) (by decide) (fun _ => rfl) ?_
  obtain ⟨lv6, elv6⟩ : ∃ l, l = aj_set1 lv5 5 (.int (Int32.ofInt 0)) := ⟨_, rfl⟩
  rw [← elv6]
  have hlv6_0 : aj_lv lv6 0 = some (.ref 117) := fx_e1 elv6 hlv5_0 (by decide) (Or.inl (by decide))
  have hlv6_1 : aj_lv lv6 1 = some (.int p1) := fx_e1 elv6 hlv5_1 (by decide) (Or.inl (by decide))
  have hlv6_2 : aj_lv lv6 2 = some (.int p2) := fx_e1 elv6 hlv5_2 (by decide) (Or.inl (by decide))
  have hlv6_3 : aj_lv lv6 3 = some (.int p3) := fx_e1 elv6 hlv5_3 (by decide) (Or.inl (by decide))
  have hlv6_4 : aj_lv lv6 4 = some (.int x4) := fx_e1 elv6 hlv5_4 (by decide) (Or.inr rfl)
  have hlv6_5 : aj_lv lv6 5 = some (.int (Int32.ofInt 0)) := by rw [elv6]; exact ak_set1_eq _ _ _
  show fx_W _ _ _ 15 lv6 [] _ _
  exact ((gxL_307 p1 p2 p3 N).1) lv6 (x4) ((Int32.ofInt 0)) X2  hlv6_0 hlv6_1 hlv6_2 hlv6_3 hlv6_4 hlv6_5
def gxT_306_77 (p1 : Int32) (p2 : Int32) (P : Nat → List Int32 → List Int64 → List Nat → fx_X → Int32 → fx_X → Prop) (y3 : Int32) (y4 : Int32) (y5 : Int32) (y6 : Int32) (X : fx_X) (v : Int32) (X' : fx_X) : Prop :=
  (0 ≤ ((X.1 117 0)).toInt ∧ ((X.1 117 0)).toInt < ((2 : Nat) : Int)) ∧ (if (y6).toInt < ((X.1 122 ((X.1 117 0)).toInt.toNat)).toInt then (∃ (w23 : Int32) (X22 : fx_X), gx_247 (X.1 117 0) y6 X w23 X22 ∧ (if (w23).toInt = 0 then (∃ x25 : Int32, x25 = y6 + Int32.ofInt 1 ∧ P 77 [y3, y4, y5, x25] [] [] X22 v X') else (∃ (w28 : Int32) (X27 : fx_X), gx_307 y3 y4 y6 X22 w28 X27 ∧ (if (w28).toInt = 0 then (v = y5 ∧ X' = X27) else (∃ x30 : Int32, x30 = y5 + Int32.ofInt 1 ∧ ∃ x32 : Int32, x32 = y6 + Int32.ofInt 1 ∧ P 77 [y3, y4, x30, x32] [] [] X27 v X'))))) else (v = (Int32.ofInt (-1)) ∧ X' = X))
def gxE_306 (p1 : Int32) (p2 : Int32) (P : Nat → List Int32 → List Int64 → List Nat → fx_X → Int32 → fx_X → Prop) (X : fx_X) (v : Int32) (X' : fx_X) : Prop :=
  ∃ (w3 : Int32) (X2 : fx_X), gx_291 p1 X w3 X2 ∧ (if (w3).toInt = 0 then (v = ((Int8.ofInt (-2)).toInt32) ∧ X' = X2) else (∃ (w6 : Int32) (X5 : fx_X), gx_291 p2 X2 w6 X5 ∧ (if (w6).toInt = 0 then (v = ((Int8.ofInt (-2)).toInt32) ∧ X' = X5) else ((0 ≤ ((((X5.1 117 0) * ((Int8.ofInt 10).toInt32)) + p1)).toInt ∧ ((((X5.1 117 0) * ((Int8.ofInt 10).toInt32)) + p1)).toInt < ((50 : Nat) : Int)) ∧ (0 ≤ ((((X5.1 117 0) * ((Int8.ofInt 10).toInt32)) + p2)).toInt ∧ ((((X5.1 117 0) * ((Int8.ofInt 10).toInt32)) + p2)).toInt < ((50 : Nat) : Int)) ∧ (if ((X5.1 132 ((((X5.1 117 0) * ((Int8.ofInt 10).toInt32)) + p1)).toInt.toNat)).toInt = ((X5.1 132 ((((X5.1 117 0) * ((Int8.ofInt 10).toInt32)) + p2)).toInt.toNat)).toInt then (∃ x13 : Int32, x13 = (((X5.1 117 0) * ((Int8.ofInt 10).toInt32)) + p1) ∧ ∃ x15 : Int32, x15 = (((X5.1 117 0) * ((Int8.ofInt 10).toInt32)) + p2) ∧ P 77 [x13, x15, (Int32.ofInt 0), (Int32.ofInt 0)] [] [] X5 v X') else (v = ((Int8.ofInt (-2)).toInt32) ∧ X' = X5))))))
noncomputable def gxF_306 (p1 : Int32) (p2 : Int32) (n : Nat) : Nat → List Int32 → List Int64 → List Nat → fx_X → Int32 → fx_X → Prop := Nat.rec (motive := fun _ => Nat → List Int32 → List Int64 → List Nat → fx_X → Int32 → fx_X → Prop) (fun _ _ _ _ _ _ _ => False) (fun _ P l is ls rs X v X' => (l = 77 ∧ ∃ (y3 : Int32) (y4 : Int32) (y5 : Int32) (y6 : Int32), is = [y3, y4, y5, y6] ∧ ls = [] ∧ rs = [] ∧ gxT_306_77 p1 p2 P y3 y4 y5 y6 X v X')) n
theorem gxI_306_77 {p1 : Int32} {p2 : Int32} {n : Nat} {y3 : Int32} {y4 : Int32} {y5 : Int32} {y6 : Int32} {X : fx_X} {v : Int32} {X' : fx_X} (h : gxT_306_77 p1 p2 (gxF_306 p1 p2 n) y3 y4 y5 y6 X v X') : gxF_306 p1 p2 (n + 1) 77 [y3, y4, y5, y6] [] [] X v X' := ⟨rfl, y3, y4, y5, y6, rfl, rfl, rfl, h⟩
theorem gxO_306_77 {p1 : Int32} {p2 : Int32} {n : Nat} {y3 : Int32} {y4 : Int32} {y5 : Int32} {y6 : Int32} {X : fx_X} {v : Int32} {X' : fx_X} (h : gxF_306 p1 p2 (n + 1) 77 [y3, y4, y5, y6] [] [] X v X') : gxT_306_77 p1 p2 (gxF_306 p1 p2 n) y3 y4 y5 y6 X v X' := by
  rcases h with ⟨-, _, _, _, _, e1, e2, e3, h⟩
  · cases e1; cases e2; cases e3; exact h
def gx_306 (p1 : Int32) (p2 : Int32) (X : fx_X) (v : Int32) (X' : fx_X) : Prop := ∃ n : Nat, gxE_306 p1 p2 (gxF_306 p1 p2 n) X v X'
theorem gxL_306 {tb : aj_T} (p1 : Int32) (p2 : Int32) : ∀ N : Nat, (∀ (lv : aj_V) (y3 : Int32) (y4 : Int32) (y5 : Int32) (y6 : Int32) (X : fx_X), aj_lv lv 0 = some (.ref 117) → aj_lv lv 3 = some (.int y3) → aj_lv lv 4 = some (.int y4) → aj_lv lv 5 = some (.int y5) → aj_lv lv 6 = some (.int y6) → fx_W tb aj_m306 N 77 lv [] X (fx_Q fx_qI (fun v X' => ∃ n : Nat, gxF_306 p1 p2 n 77 [y3, y4, y5, y6] [] [] X v X'))) := by
  intro N
  induction N with
  | zero => exact (by intros; exact fx_z)
  | succ N ih =>
    skip
    · intro lv y3 y4 y5 y6 X hlv_0 hlv_3 hlv_4 hlv_5 hlv_6
      refine fx_mono (Q := fx_Q fx_qI (fun v X' => ∃ n : Nat, gxT_306_77 p1 p2 (gxF_306 p1 p2 n) y3 y4 y5 y6 X v X')) (fun r X' ⟨v, e, n, z⟩ => ⟨v, e, n + 1, gxI_306_77 z⟩) ?_
      unfold gxT_306_77
      refine fx_i0 aj_d306 rfl (Nat.le_refl _) (fun _ => rfl) hlv_6 ?_
      refine fx_i2 aj_d306 rfl (Nat.le_succ _) (fun _ => rfl) hlv_0 ?_
      refine fx_gF aj_d306 rfl (Nat.le_succ _) rfl rfl fx_in_11_5 (t := 122) rfl (fun hA19 => ?_)
      refine fx_i2 aj_d306 rfl (Nat.le_succ _) (fun _ => rfl) hlv_0 ?_
      refine fx_gI aj_d306 rfl (Nat.le_succ _) rfl rfl (Or.inl rfl) ?_
      refine fx_ld aj_d306 (Or.inl rfl) rfl (Nat.le_succ _) (fun g200 g201 => ?_)
      show fx_W _ _ _ 88 lv [.int (X.1 122 ((X.1 117 0)).toInt.toNat), .int y6] _ _
      refine fx_qa (c := 0 ≤ ((X.1 117 0)).toInt ∧ ((X.1 117 0)).toInt < ((2 : Nat) : Int)) ⟨g200, fx_lnk g201 hA19⟩ ?_
      refine fx_b (tgt := 128) aj_d306 rfl (Nat.le_succ _) rfl (fun q21 => ?_) (fun q21 => ?_)
      · skip
        refine fx_qe (c := (y6).toInt < ((X.1 122 ((X.1 117 0)).toInt.toNat)).toInt) (fx_t_ge q21) ?_
        show fx_W _ _ _ 128 lv [] _ _
        refine fx_n (pc' := 129) (lv' := lv) (st' := [.int (Int32.ofInt (-1))]) aj_d306 rfl (Nat.le_succ _) (fun _ => rfl) ?_
        exact fx_ri aj_d306 rfl ⟨_, rfl, 0, rfl, rfl⟩
      · skip
        refine fx_qi (c := (y6).toInt < ((X.1 122 ((X.1 117 0)).toInt.toNat)).toInt) (fx_f_ge q21) ?_
        show fx_W _ _ _ 91 lv [] _ _
        refine fx_i2 aj_d306 rfl (Nat.le_succ _) (fun _ => rfl) hlv_0 ?_
        refine fx_i2 aj_d306 rfl (Nat.le_succ _) (fun _ => rfl) hlv_0 ?_
        refine fx_gI aj_d306 rfl (Nat.le_succ _) rfl rfl (Or.inl rfl) ?_
        refine fx_i0 aj_d306 rfl (Nat.le_succ _) (fun _ => rfl) hlv_6 ?_
        refine fx_cv aj_d306 rfl (Nat.le_succ _) rfl [_, _] rfl rfl (gx_247_ok (X.1 117 0) y6) ?_
        rintro _ X22 ⟨w23, rfl, hR22⟩ hok22 hle22
        refine fx_qc hR22 ?_
        show fx_W _ _ _ 101 lv [.int w23] _ _
        refine fx_b0 (tgt := 122) aj_d306 rfl (Nat.le_succ _) rfl (fun q24 => ?_) (fun q24 => ?_)
        · skip
          refine fx_qi (c := (w23).toInt = 0) (fx_t_eq q24) ?_
          show fx_W _ _ _ 122 lv [] _ _
          refine fx_incq aj_d306 rfl (Nat.le_succ _) hlv_6 (by decide) (fun x25 ex25 => ?_)
          obtain ⟨lv26, elv26⟩ : ∃ l, l = aj_set1 lv 6 (.int x25) := ⟨_, rfl⟩
          rw [← elv26]
          have hlv26_0 : aj_lv lv26 0 = some (.ref 117) := fx_e1 elv26 hlv_0 (by decide) (Or.inl (by decide))
          have hlv26_3 : aj_lv lv26 3 = some (.int y3) := fx_e1 elv26 hlv_3 (by decide) (Or.inl (by decide))
          have hlv26_4 : aj_lv lv26 4 = some (.int y4) := fx_e1 elv26 hlv_4 (by decide) (Or.inl (by decide))
          have hlv26_5 : aj_lv lv26 5 = some (.int y5) := fx_e1 elv26 hlv_5 (by decide) (Or.inr rfl)
          have hlv26_6 : aj_lv lv26 6 = some (.int x25) := by rw [elv26]; exact ak_set1_eq _ _ _
          show fx_W _ _ _ 125 lv26 [] _ _
          refine fx_n (pc' := 77) (lv' := lv26) (st' := []) aj_d306 rfl (Nat.le_succ _) (fun _ => rfl) ?_
          exact (ih) lv26 (y3) (y4) (y5) (x25) X22  hlv26_0 hlv26_3 hlv26_4 hlv26_5 hlv26_6
        · skip
          refine fx_qe (c := (w23).toInt = 0) (fx_f_eq q24) ?_
          show fx_W _ _ _ 104 lv [] _ _
          refine fx_i2 aj_d306 rfl (Nat.le_succ _) (fun _ => rfl) hlv_0 ?_
          refine fx_i0 aj_d306 rfl (Nat.le_succ _) (fun _ => rfl) hlv_3 ?_
          refine fx_i0 aj_d306 rfl (Nat.le_succ _) (fun _ => rfl) hlv_4 ?_
          refine fx_i0 aj_d306 rfl (Nat.le_succ _) (fun _ => rfl) hlv_6 ?_
          refine fx_cv aj_d306 rfl (Nat.le_succ _) rfl [_, _, _] rfl rfl (gx_307_ok y3 y4 y6) ?_
          rintro _ X27 ⟨w28, rfl, hR27⟩ hok27 hle27
          refine fx_qc hR27 ?_
          show fx_W _ _ _ 113 lv [.int w28] _ _
          refine fx_b0 (tgt := 119) aj_d306 rfl (Nat.le_succ _) rfl (fun q29 => ?_) (fun q29 => ?_)
          · skip
            refine fx_qe (c := (w28).toInt = 0) (fx_t_ne q29) ?_
            show fx_W _ _ _ 119 lv [] _ _
            refine fx_incq aj_d306 rfl (Nat.le_succ _) hlv_5 (by decide) (fun x30 ex30 => ?_)
            obtain ⟨lv31, elv31⟩ : ∃ l, l = aj_set1 lv 5 (.int x30) := ⟨_, rfl⟩
            rw [← elv31]
            have hlv31_0 : aj_lv lv31 0 = some (.ref 117) := fx_e1 elv31 hlv_0 (by decide) (Or.inl (by decide))
            have hlv31_3 : aj_lv lv31 3 = some (.int y3) := fx_e1 elv31 hlv_3 (by decide) (Or.inl (by decide))
            have hlv31_4 : aj_lv lv31 4 = some (.int y4) := fx_e1 elv31 hlv_4 (by decide) (Or.inr rfl)
            have hlv31_6 : aj_lv lv31 6 = some (.int y6) := fx_e1 elv31 hlv_6 (by decide) (Or.inl (by decide))
            have hlv31_5 : aj_lv lv31 5 = some (.int x30) := by rw [elv31]; exact ak_set1_eq _ _ _
            show fx_W _ _ _ 122 lv31 [] _ _
            refine fx_incq aj_d306 rfl (Nat.le_succ _) hlv31_6 (by decide) (fun x32 ex32 => ?_)
            obtain ⟨lv33, elv33⟩ : ∃ l, l = aj_set1 lv31 6 (.int x32) := ⟨_, rfl⟩
            rw [← elv33]
            have hlv33_0 : aj_lv lv33 0 = some (.ref 117) := fx_e1 elv33 hlv31_0 (by decide) (Or.inl (by decide))
            have hlv33_3 : aj_lv lv33 3 = some (.int y3) := fx_e1 elv33 hlv31_3 (by decide) (Or.inl (by decide))
            have hlv33_4 : aj_lv lv33 4 = some (.int y4) := fx_e1 elv33 hlv31_4 (by decide) (Or.inl (by decide))
            have hlv33_5 : aj_lv lv33 5 = some (.int x30) := fx_e1 elv33 hlv31_5 (by decide) (Or.inr rfl)
            have hlv33_6 : aj_lv lv33 6 = some (.int x32) := by rw [elv33]; exact ak_set1_eq _ _ _
            show fx_W _ _ _ 125 lv33 [] _ _
            refine fx_n (pc' := 77) (lv' := lv33) (st' := []) aj_d306 rfl (Nat.le_succ _) (fun _ => rfl) ?_
            exact (ih) lv33 (y3) (y4) (x30) (x32) X27  hlv33_0 hlv33_3 hlv33_4 hlv33_5 hlv33_6
          · skip
            refine fx_qi (c := (w28).toInt = 0) (fx_f_ne q29) ?_
            show fx_W _ _ _ 116 lv [] _ _
            refine fx_i0 aj_d306 rfl (Nat.le_succ _) (fun _ => rfl) hlv_5 ?_
            exact fx_ri aj_d306 rfl ⟨_, rfl, 0, rfl, rfl⟩
theorem gx_306_ok {tb : aj_T} (p1 : Int32) (p2 : Int32) {X : fx_X} : fx_K tb 306 [.ref 117, .int p1, .int p2] X (fx_Q fx_qI (fun v X' => gx_306 p1 p2 X v X')) := by
  refine fx_m aj_m306_at rfl (fun N => ?_)
  refine fx_mono (Q := fx_Q fx_qI (fun v X' => ∃ n : Nat, gxE_306 p1 p2 (gxF_306 p1 p2 n) X v X')) (fun r X' h => h) ?_
  unfold gxE_306
  show fx_W _ _ _ 0 [(0, .ref 117), (1, .int p1), (2, .int p2)] [] _ _
  obtain ⟨lv1, elv1⟩ : ∃ l : aj_V, l = [(0, .ref 117), (1, .int p1), (2, .int p2)] := ⟨_, rfl⟩
  rw [← elv1]
  have hlv1_0 : aj_lv lv1 0 = some (.ref 117) := by rw [elv1]; rfl
  have hlv1_1 : aj_lv lv1 1 = some (.int p1) := by rw [elv1]; rfl
  have hlv1_2 : aj_lv lv1 2 = some (.int p2) := by rw [elv1]; rfl
  refine fx_i2 aj_d306 rfl (Nat.le_succ _) (fun _ => rfl) hlv1_0 ?_
  refine fx_i0 aj_d306 rfl (Nat.le_succ _) (fun _ => rfl) hlv1_1 ?_
  refine fx_cv aj_d306 rfl (Nat.le_succ _) rfl [_] rfl rfl (gx_291_ok p1) ?_
  rintro _ X2 ⟨w3, rfl, hR2⟩ hok2 hle2
  refine fx_qc hR2 ?_
  show fx_W _ _ _ 5 lv1 [.int w3] _ _
  refine fx_b0 (tgt := 47) aj_d306 rfl (Nat.le_succ _) rfl (fun q4 => ?_) (fun q4 => ?_)
  · skip
    refine fx_qi (c := (w3).toInt = 0) (fx_t_eq q4) ?_
    show fx_W _ _ _ 47 lv1 [] _ _
    refine fx_n (pc' := 49) (lv' := lv1) (st' := [.int ((Int8.ofInt (-2)).toInt32)]) aj_d306 rfl (Nat.le_succ _) (fun _ => rfl) ?_
    exact fx_ri aj_d306 rfl ⟨_, rfl, 0, rfl, rfl⟩
  · skip
    refine fx_qe (c := (w3).toInt = 0) (fx_f_eq q4) ?_
    show fx_W _ _ _ 8 lv1 [] _ _
    refine fx_i2 aj_d306 rfl (Nat.le_succ _) (fun _ => rfl) hlv1_0 ?_
    refine fx_i0 aj_d306 rfl (Nat.le_succ _) (fun _ => rfl) hlv1_2 ?_
    refine fx_cv aj_d306 rfl (Nat.le_succ _) rfl [_] rfl rfl (gx_291_ok p2) ?_
    rintro _ X5 ⟨w6, rfl, hR5⟩ hok5 hle5
    refine fx_qc hR5 ?_
    show fx_W _ _ _ 13 lv1 [.int w6] _ _
    refine fx_b0 (tgt := 47) aj_d306 rfl (Nat.le_succ _) rfl (fun q7 => ?_) (fun q7 => ?_)
    · skip
      refine fx_qi (c := (w6).toInt = 0) (fx_t_eq q7) ?_
      show fx_W _ _ _ 47 lv1 [] _ _
      refine fx_n (pc' := 49) (lv' := lv1) (st' := [.int ((Int8.ofInt (-2)).toInt32)]) aj_d306 rfl (Nat.le_succ _) (fun _ => rfl) ?_
      exact fx_ri aj_d306 rfl ⟨_, rfl, 0, rfl, rfl⟩
    · skip
      refine fx_qe (c := (w6).toInt = 0) (fx_f_eq q7) ?_
      show fx_W _ _ _ 16 lv1 [] _ _
      refine fx_i2 aj_d306 rfl (Nat.le_succ _) (fun _ => rfl) hlv1_0 ?_
      refine fx_gF aj_d306 rfl (Nat.le_succ _) rfl rfl fx_in_11_16 (t := 132) rfl (fun hA8 => ?_)
      refine fx_i2 aj_d306 rfl (Nat.le_succ _) (fun _ => rfl) hlv1_0 ?_
      refine fx_gI aj_d306 rfl (Nat.le_succ _) rfl rfl (Or.inl rfl) ?_
      refine fx_n (pc' := 26) (lv' := lv1) (st' := [.int ((Int8.ofInt 10).toInt32), .int (X5.1 117 0), .ref 132]) aj_d306 rfl (Nat.le_succ _) (fun _ => rfl) ?_
      refine fx_n (pc' := 27) (lv' := lv1) (st' := [.int ((X5.1 117 0) * ((Int8.ofInt 10).toInt32)), .ref 132]) aj_d306 rfl (Nat.le_succ _) (fun _ => rfl) ?_
      refine fx_i0 aj_d306 rfl (Nat.le_succ _) (fun _ => rfl) hlv1_1 ?_
      refine fx_n (pc' := 29) (lv' := lv1) (st' := [.int (((X5.1 117 0) * ((Int8.ofInt 10).toInt32)) + p1), .ref 132]) aj_d306 rfl (Nat.le_succ _) (fun _ => rfl) ?_
      refine fx_ld aj_d306 (Or.inl rfl) rfl (Nat.le_succ _) (fun g90 g91 => ?_)
      show fx_W _ _ _ 30 lv1 [.int (X5.1 132 ((((X5.1 117 0) * ((Int8.ofInt 10).toInt32)) + p1)).toInt.toNat)] _ _
      refine fx_qa (c := 0 ≤ ((((X5.1 117 0) * ((Int8.ofInt 10).toInt32)) + p1)).toInt ∧ ((((X5.1 117 0) * ((Int8.ofInt 10).toInt32)) + p1)).toInt < ((50 : Nat) : Int)) ⟨g90, fx_lnk g91 hA8⟩ ?_
      refine fx_i2 aj_d306 rfl (Nat.le_succ _) (fun _ => rfl) hlv1_0 ?_
      refine fx_gF aj_d306 rfl (Nat.le_succ _) rfl rfl fx_in_11_16 (t := 132) rfl (fun hA10 => ?_)
      refine fx_i2 aj_d306 rfl (Nat.le_succ _) (fun _ => rfl) hlv1_0 ?_
      refine fx_gI aj_d306 rfl (Nat.le_succ _) rfl rfl (Or.inl rfl) ?_
      refine fx_n (pc' := 40) (lv' := lv1) (st' := [.int ((Int8.ofInt 10).toInt32), .int (X5.1 117 0), .ref 132, .int (X5.1 132 ((((X5.1 117 0) * ((Int8.ofInt 10).toInt32)) + p1)).toInt.toNat)]) aj_d306 rfl (Nat.le_succ _) (fun _ => rfl) ?_
      refine fx_n (pc' := 41) (lv' := lv1) (st' := [.int ((X5.1 117 0) * ((Int8.ofInt 10).toInt32)), .ref 132, .int (X5.1 132 ((((X5.1 117 0) * ((Int8.ofInt 10).toInt32)) + p1)).toInt.toNat)]) aj_d306 rfl (Nat.le_succ _) (fun _ => rfl) ?_
      refine fx_i0 aj_d306 rfl (Nat.le_succ _) (fun _ => rfl) hlv1_2 ?_
      refine fx_n (pc' := 43) (lv' := lv1) (st' := [.int (((X5.1 117 0) * ((Int8.ofInt 10).toInt32)) + p2), .ref 132, .int (X5.1 132 ((((X5.1 117 0) * ((Int8.ofInt 10).toInt32)) + p1)).toInt.toNat)]) aj_d306 rfl (Nat.le_succ _) (fun _ => rfl) ?_
      refine fx_ld aj_d306 (Or.inl rfl) rfl (Nat.le_succ _) (fun g110 g111 => ?_)
      show fx_W _ _ _ 44 lv1 [.int (X5.1 132 ((((X5.1 117 0) * ((Int8.ofInt 10).toInt32)) + p2)).toInt.toNat), .int (X5.1 132 ((((X5.1 117 0) * ((Int8.ofInt 10).toInt32)) + p1)).toInt.toNat)] _ _
      refine fx_qa (c := 0 ≤ ((((X5.1 117 0) * ((Int8.ofInt 10).toInt32)) + p2)).toInt ∧ ((((X5.1 117 0) * ((Int8.ofInt 10).toInt32)) + p2)).toInt < ((50 : Nat) : Int)) ⟨g110, fx_lnk g111 hA10⟩ ?_
      refine fx_b (tgt := 50) aj_d306 rfl (Nat.le_succ _) rfl (fun q12 => ?_) (fun q12 => ?_)
      · skip
        refine fx_qi (c := ((X5.1 132 ((((X5.1 117 0) * ((Int8.ofInt 10).toInt32)) + p1)).toInt.toNat)).toInt = ((X5.1 132 ((((X5.1 117 0) * ((Int8.ofInt 10).toInt32)) + p2)).toInt.toNat)).toInt) (fx_t_eq q12) ?_
        show fx_W _ _ _ 50 lv1 [] _ _
        refine fx_i2 aj_d306 rfl (Nat.le_succ _) (fun _ => rfl) hlv1_0 ?_
        refine fx_gI aj_d306 rfl (Nat.le_succ _) rfl rfl (Or.inl rfl) ?_
        refine fx_n (pc' := 56) (lv' := lv1) (st' := [.int ((Int8.ofInt 10).toInt32), .int (X5.1 117 0)]) aj_d306 rfl (Nat.le_succ _) (fun _ => rfl) ?_
        refine fx_n (pc' := 57) (lv' := lv1) (st' := [.int ((X5.1 117 0) * ((Int8.ofInt 10).toInt32))]) aj_d306 rfl (Nat.le_succ _) (fun _ => rfl) ?_
        refine fx_i0 aj_d306 rfl (Nat.le_succ _) (fun _ => rfl) hlv1_1 ?_
        refine fx_n (pc' := 59) (lv' := lv1) (st' := [.int (((X5.1 117 0) * ((Int8.ofInt 10).toInt32)) + p1)]) aj_d306 rfl (Nat.le_succ _) (fun _ => rfl) ?_
        refine fx_qxI (fun x13 ex13 => ?_)
        refine fx_s0 (j := 3) aj_d306 rfl (Nat.le_succ _) (by decide) (fun _ => rfl) ?_
        obtain ⟨lv14, elv14⟩ : ∃ l, l = aj_set1 lv1 3 (.int x13) := ⟨_, rfl⟩
        rw [← elv14]
        have hlv14_0 : aj_lv lv14 0 = some (.ref 117) := fx_e1 elv14 hlv1_0 (by decide) (Or.inl (by decide))
        have hlv14_2 : aj_lv lv14 2 = some (.int p2) := fx_e1 elv14 hlv1_2 (by decide) (Or.inr rfl)
        have hlv14_3 : aj_lv lv14 3 = some (.int x13) := by rw [elv14]; exact ak_set1_eq _ _ _
        show fx_W _ _ _ 60 lv14 [] _ _
        refine fx_i2 aj_d306 rfl (Nat.le_succ _) (fun _ => rfl) hlv14_0 ?_
        refine fx_gI aj_d306 rfl (Nat.le_succ _) rfl rfl (Or.inl rfl) ?_
        refine fx_n (pc' := 66) (lv' := lv14) (st' := [.int ((Int8.ofInt 10).toInt32), .int (X5.1 117 0)]) aj_d306 rfl (Nat.le_succ _) (fun _ => rfl) ?_
        refine fx_n (pc' := 67) (lv' := lv14) (st' := [.int ((X5.1 117 0) * ((Int8.ofInt 10).toInt32))]) aj_d306 rfl (Nat.le_succ _) (fun _ => rfl) ?_
        refine fx_i0 aj_d306 rfl (Nat.le_succ _) (fun _ => rfl) hlv14_2 ?_
        refine fx_n (pc' := 69) (lv' := lv14) (st' := [.int (((X5.1 117 0) * ((Int8.ofInt 10).toInt32)) + p2)]) aj_d306 rfl (Nat.le_succ _) (fun _ => rfl) ?_
        refine fx_qxI (fun x15 ex15 => ?_)
        refine fx_s0 (j := 4) aj_d306 rfl (Nat.le_succ _) (by decide) (fun _ => rfl) ?_
        obtain ⟨lv16, elv16⟩ : ∃ l, l = aj_set1 lv14 4 (.int x15) := ⟨_, rfl⟩
        rw [← elv16]
        have hlv16_0 : aj_lv lv16 0 = some (.ref 117) := fx_e1 elv16 hlv14_0 (by decide) (Or.inl (by decide))
        have hlv16_3 : aj_lv lv16 3 = some (.int x13) := fx_e1 elv16 hlv14_3 (by decide) (Or.inr rfl)
        have hlv16_4 : aj_lv lv16 4 = some (.int x15) := by rw [elv16]; exact ak_set1_eq _ _ _
        show fx_W _ _ _ 71 lv16 [] _ _
        refine fx_n (pc' := 72) (lv' := lv16) (st' := [.int (Int32.ofInt 0)]) aj_d306 rfl (Nat.le_succ _) (fun _ => rfl) ?_
        refine fx_s0 (j := 5) aj_d306 rfl (Nat.le_succ _) (by decide) (fun _ => rfl) ?_
        obtain ⟨lv17, elv17⟩ : ∃ l, l = aj_set1 lv16 5 (.int (Int32.ofInt 0)) := ⟨_, rfl⟩
        rw [← elv17]
        have hlv17_0 : aj_lv lv17 0 = some (.ref 117) := fx_e1 elv17 hlv16_0 (by decide) (Or.inl (by decide))
        have hlv17_3 : aj_lv lv17 3 = some (.int x13) := fx_e1 elv17 hlv16_3 (by decide) (Or.inl (by decide))
        have hlv17_4 : aj_lv lv17 4 = some (.int x15) := fx_e1 elv17 hlv16_4 (by decide) (Or.inr rfl)
        have hlv17_5 : aj_lv lv17 5 = some (.int (Int32.ofInt 0)) := by rw [elv17]; exact ak_set1_eq _ _ _
        show fx_W _ _ _ 74 lv17 [] _ _
        refine fx_n (pc' := 75) (lv' := lv17) (st' := [.int (Int32.ofInt 0)]) aj_d306 rfl (Nat.le_succ _) (fun _ => rfl) ?_
        refine fx_s0 (j := 6) aj_d306 rfl (Nat.le_succ _) (by decide) (fun _ => rfl) ?_
        obtain ⟨lv18, elv18⟩ : ∃ l, l = aj_set1 lv17 6 (.int (Int32.ofInt 0)) := ⟨_, rfl⟩
        rw [← elv18]
        have hlv18_0 : aj_lv lv18 0 = some (.ref 117) := fx_e1 elv18 hlv17_0 (by decide) (Or.inl (by decide))
        have hlv18_3 : aj_lv lv18 3 = some (.int x13) := fx_e1 elv18 hlv17_3 (by decide) (Or.inl (by decide))
        have hlv18_4 : aj_lv lv18 4 = some (.int x15) := fx_e1 elv18 hlv17_4 (by decide) (Or.inl (by decide))
        have hlv18_5 : aj_lv lv18 5 = some (.int (Int32.ofInt 0)) := fx_e1 elv18 hlv17_5 (by decide) (Or.inr rfl)
        have hlv18_6 : aj_lv lv18 6 = some (.int (Int32.ofInt 0)) := by rw [elv18]; exact ak_set1_eq _ _ _
        show fx_W _ _ _ 77 lv18 [] _ _
        exact ((gxL_306 p1 p2 N)) lv18 (x13) (x15) ((Int32.ofInt 0)) ((Int32.ofInt 0)) X5  hlv18_0 hlv18_3 hlv18_4 hlv18_5 hlv18_6
      · skip
        refine fx_qe (c := ((X5.1 132 ((((X5.1 117 0) * ((Int8.ofInt 10).toInt32)) + p1)).toInt.toNat)).toInt = ((X5.1 132 ((((X5.1 117 0) * ((Int8.ofInt 10).toInt32)) + p2)).toInt.toNat)).toInt) (fx_f_eq q12) ?_
        show fx_W _ _ _ 47 lv1 [] _ _
        refine fx_n (pc' := 49) (lv' := lv1) (st' := [.int ((Int8.ofInt (-2)).toInt32)]) aj_d306 rfl (Nat.le_succ _) (fun _ => rfl) ?_
        exact fx_ri aj_d306 rfl ⟨_, rfl, 0, rfl, rfl⟩
def gxT_309_4 (P : Nat → List Int32 → List Int64 → List Nat → fx_X → Int32 → fx_X → Prop) (y1 : Int32) (y2 : Int32) (X : fx_X) (v : Int32) (X' : fx_X) : Prop :=
  (0 ≤ ((X.1 117 0)).toInt ∧ ((X.1 117 0)).toInt < ((2 : Nat) : Int)) ∧ (if (y2).toInt < ((X.1 122 ((X.1 117 0)).toInt.toNat)).toInt then (∃ (w8 : Int32) (X7 : fx_X), gx_247 (X.1 117 0) y2 X w8 X7 ∧ (if (w8).toInt = 0 then (∃ x11 : Int32, x11 = y2 + Int32.ofInt 1 ∧ P 4 [y1, x11] [] [] X7 v X') else (∃ x13 : Int32, x13 = (y1 + (Int32.ofInt 1)) ∧ ∃ x15 : Int32, x15 = y2 + Int32.ofInt 1 ∧ P 4 [x13, x15] [] [] X7 v X'))) else (v = y1 ∧ X' = X))
def gxE_309 (P : Nat → List Int32 → List Int64 → List Nat → fx_X → Int32 → fx_X → Prop) (X : fx_X) (v : Int32) (X' : fx_X) : Prop :=
  P 4 [(Int32.ofInt 0), (Int32.ofInt 0)] [] [] X v X'
noncomputable def gxF_309 (n : Nat) : Nat → List Int32 → List Int64 → List Nat → fx_X → Int32 → fx_X → Prop := Nat.rec (motive := fun _ => Nat → List Int32 → List Int64 → List Nat → fx_X → Int32 → fx_X → Prop) (fun _ _ _ _ _ _ _ => False) (fun _ P l is ls rs X v X' => (l = 4 ∧ ∃ (y1 : Int32) (y2 : Int32), is = [y1, y2] ∧ ls = [] ∧ rs = [] ∧ gxT_309_4 P y1 y2 X v X')) n
theorem gxI_309_4 {n : Nat} {y1 : Int32} {y2 : Int32} {X : fx_X} {v : Int32} {X' : fx_X} (h : gxT_309_4 (gxF_309 n) y1 y2 X v X') : gxF_309 (n + 1) 4 [y1, y2] [] [] X v X' := ⟨rfl, y1, y2, rfl, rfl, rfl, h⟩
theorem gxO_309_4 {n : Nat} {y1 : Int32} {y2 : Int32} {X : fx_X} {v : Int32} {X' : fx_X} (h : gxF_309 (n + 1) 4 [y1, y2] [] [] X v X') : gxT_309_4 (gxF_309 n) y1 y2 X v X' := by
  rcases h with ⟨-, _, _, e1, e2, e3, h⟩
  · cases e1; cases e2; cases e3; exact h
def gx_309 (X : fx_X) (v : Int32) (X' : fx_X) : Prop := ∃ n : Nat, gxE_309 (gxF_309 n) X v X'
theorem gxL_309 {tb : aj_T} : ∀ N : Nat, (∀ (lv : aj_V) (y1 : Int32) (y2 : Int32) (X : fx_X), aj_lv lv 0 = some (.ref 117) → aj_lv lv 1 = some (.int y1) → aj_lv lv 2 = some (.int y2) → fx_W tb aj_m309 N 4 lv [] X (fx_Q fx_qI (fun v X' => ∃ n : Nat, gxF_309 n 4 [y1, y2] [] [] X v X'))) := by
  intro N
  induction N with
  | zero => exact (by intros; exact fx_z)
  | succ N ih =>
    skip
    · intro lv y1 y2 X hlv_0 hlv_1 hlv_2
      refine fx_mono (Q := fx_Q fx_qI (fun v X' => ∃ n : Nat, gxT_309_4 (gxF_309 n) y1 y2 X v X')) (fun r X' ⟨v, e, n, z⟩ => ⟨v, e, n + 1, gxI_309_4 z⟩) ?_
      unfold gxT_309_4
      refine fx_i0 aj_d309 rfl (Nat.le_refl _) (fun _ => rfl) hlv_2 ?_
      refine fx_i2 aj_d309 rfl (Nat.le_succ _) (fun _ => rfl) hlv_0 ?_
      refine fx_gF aj_d309 rfl (Nat.le_succ _) rfl rfl fx_in_11_5 (t := 122) rfl (fun hA4 => ?_)
      refine fx_i2 aj_d309 rfl (Nat.le_succ _) (fun _ => rfl) hlv_0 ?_
      refine fx_gI aj_d309 rfl (Nat.le_succ _) rfl rfl (Or.inl rfl) ?_
      refine fx_ld aj_d309 (Or.inl rfl) rfl (Nat.le_succ _) (fun g50 g51 => ?_)
      show fx_W _ _ _ 14 lv [.int (X.1 122 ((X.1 117 0)).toInt.toNat), .int y2] _ _
      refine fx_qa (c := 0 ≤ ((X.1 117 0)).toInt ∧ ((X.1 117 0)).toInt < ((2 : Nat) : Int)) ⟨g50, fx_lnk g51 hA4⟩ ?_
      refine fx_b (tgt := 43) aj_d309 rfl (Nat.le_succ _) rfl (fun q6 => ?_) (fun q6 => ?_)
      · skip
        refine fx_qe (c := (y2).toInt < ((X.1 122 ((X.1 117 0)).toInt.toNat)).toInt) (fx_t_ge q6) ?_
        show fx_W _ _ _ 43 lv [] _ _
        refine fx_i0 aj_d309 rfl (Nat.le_succ _) (fun _ => rfl) hlv_1 ?_
        exact fx_ri aj_d309 rfl ⟨_, rfl, 0, rfl, rfl⟩
      · skip
        refine fx_qi (c := (y2).toInt < ((X.1 122 ((X.1 117 0)).toInt.toNat)).toInt) (fx_f_ge q6) ?_
        show fx_W _ _ _ 17 lv [] _ _
        refine fx_i2 aj_d309 rfl (Nat.le_succ _) (fun _ => rfl) hlv_0 ?_
        refine fx_i2 aj_d309 rfl (Nat.le_succ _) (fun _ => rfl) hlv_0 ?_
        refine fx_gI aj_d309 rfl (Nat.le_succ _) rfl rfl (Or.inl rfl) ?_
        refine fx_i0 aj_d309 rfl (Nat.le_succ _) (fun _ => rfl) hlv_2 ?_
        refine fx_cv aj_d309 rfl (Nat.le_succ _) rfl [_, _] rfl rfl (gx_247_ok (X.1 117 0) y2) ?_
        rintro _ X7 ⟨w8, rfl, hR7⟩ hok7 hle7
        refine fx_qc hR7 ?_
        show fx_W _ _ _ 26 lv [.int w8] _ _
        refine fx_b0 (tgt := 35) aj_d309 rfl (Nat.le_succ _) rfl (fun q9 => ?_) (fun q9 => ?_)
        · skip
          refine fx_qi (c := (w8).toInt = 0) (fx_t_eq q9) ?_
          show fx_W _ _ _ 35 lv [] _ _
          refine fx_i0 aj_d309 rfl (Nat.le_succ _) (fun _ => rfl) hlv_1 ?_
          refine fx_s0 (j := 1) aj_d309 rfl (Nat.le_succ _) (by decide) (fun _ => rfl) ?_
          obtain ⟨lv10, elv10⟩ : ∃ l, l = aj_set1 lv 1 (.int y1) := ⟨_, rfl⟩
          rw [← elv10]
          have hlv10_0 : aj_lv lv10 0 = some (.ref 117) := fx_e1 elv10 hlv_0 (by decide) (Or.inr rfl)
          have hlv10_2 : aj_lv lv10 2 = some (.int y2) := fx_e1 elv10 hlv_2 (by decide) (Or.inl (by decide))
          have hlv10_1 : aj_lv lv10 1 = some (.int y1) := by rw [elv10]; exact ak_set1_eq _ _ _
          show fx_W _ _ _ 37 lv10 [] _ _
          refine fx_incq aj_d309 rfl (Nat.le_succ _) hlv10_2 (by decide) (fun x11 ex11 => ?_)
          obtain ⟨lv12, elv12⟩ : ∃ l, l = aj_set1 lv10 2 (.int x11) := ⟨_, rfl⟩
          rw [← elv12]
          have hlv12_0 : aj_lv lv12 0 = some (.ref 117) := fx_e1 elv12 hlv10_0 (by decide) (Or.inl (by decide))
          have hlv12_1 : aj_lv lv12 1 = some (.int y1) := fx_e1 elv12 hlv10_1 (by decide) (Or.inr rfl)
          have hlv12_2 : aj_lv lv12 2 = some (.int x11) := by rw [elv12]; exact ak_set1_eq _ _ _
          show fx_W _ _ _ 40 lv12 [] _ _
          refine fx_n (pc' := 4) (lv' := lv12) (st' := []) aj_d309 rfl (Nat.le_succ _) (fun _ => rfl) ?_
          exact (ih) lv12 (y1) (x11) X7  hlv12_0 hlv12_1 hlv12_2
        · skip
          refine fx_qe (c := (w8).toInt = 0) (fx_f_eq q9) ?_
          show fx_W _ _ _ 29 lv [] _ _
          refine fx_i0 aj_d309 rfl (Nat.le_succ _) (fun _ => rfl) hlv_1 ?_
          refine fx_n (pc' := 31) (lv' := lv) (st' := [.int (Int32.ofInt 1), .int y1]) aj_d309 rfl (Nat.le_succ _) (fun _ => rfl) ?_
          refine fx_n (pc' := 32) (lv' := lv) (st' := [.int (y1 + (Int32.ofInt 1))]) aj_d309 rfl (Nat.le_succ _) (fun _ => rfl) ?_
          refine fx_n (pc' := 36) (lv' := lv) (st' := [.int (y1 + (Int32.ofInt 1))]) aj_d309 rfl (Nat.le_succ _) (fun _ => rfl) ?_
          refine fx_qxI (fun x13 ex13 => ?_)
          refine fx_s0 (j := 1) aj_d309 rfl (Nat.le_succ _) (by decide) (fun _ => rfl) ?_
          obtain ⟨lv14, elv14⟩ : ∃ l, l = aj_set1 lv 1 (.int x13) := ⟨_, rfl⟩
          rw [← elv14]
          have hlv14_0 : aj_lv lv14 0 = some (.ref 117) := fx_e1 elv14 hlv_0 (by decide) (Or.inr rfl)
          have hlv14_2 : aj_lv lv14 2 = some (.int y2) := fx_e1 elv14 hlv_2 (by decide) (Or.inl (by decide))
          have hlv14_1 : aj_lv lv14 1 = some (.int x13) := by rw [elv14]; exact ak_set1_eq _ _ _
          show fx_W _ _ _ 37 lv14 [] _ _
          refine fx_incq aj_d309 rfl (Nat.le_succ _) hlv14_2 (by decide) (fun x15 ex15 => ?_)
          obtain ⟨lv16, elv16⟩ : ∃ l, l = aj_set1 lv14 2 (.int x15) := ⟨_, rfl⟩
          rw [← elv16]
          have hlv16_0 : aj_lv lv16 0 = some (.ref 117) := fx_e1 elv16 hlv14_0 (by decide) (Or.inl (by decide))
          have hlv16_1 : aj_lv lv16 1 = some (.int x13) := fx_e1 elv16 hlv14_1 (by decide) (Or.inr rfl)
          have hlv16_2 : aj_lv lv16 2 = some (.int x15) := by rw [elv16]; exact ak_set1_eq _ _ _
          show fx_W _ _ _ 40 lv16 [] _ _
          refine fx_n (pc' := 4) (lv' := lv16) (st' := []) aj_d309 rfl (Nat.le_succ _) (fun _ => rfl) ?_
          exact (ih) lv16 (x13) (x15) X7  hlv16_0 hlv16_1 hlv16_2
theorem gx_309_ok {tb : aj_T} {X : fx_X} : fx_K tb 309 [.ref 117] X (fx_Q fx_qI (fun v X' => gx_309 X v X')) := by
  refine fx_m aj_m309_at rfl (fun N => ?_)
  refine fx_mono (Q := fx_Q fx_qI (fun v X' => ∃ n : Nat, gxE_309 (gxF_309 n) X v X')) (fun r X' h => h) ?_
  unfold gxE_309
  show fx_W _ _ _ 0 [(0, .ref 117)] [] _ _
  obtain ⟨lv1, elv1⟩ : ∃ l : aj_V, l = [(0, .ref 117)] := ⟨_, rfl⟩
  rw [← elv1]
  have hlv1_0 : aj_lv lv1 0 = some (.ref 117) := by rw [elv1]; rfl
  refine fx_n (pc' := 1) (lv' := lv1) (st' := [.int (Int32.ofInt 0)]) aj_d309 rfl (Nat.le_succ _) (fun _ => rfl) ?_
  refine fx_s0 (j := 1) aj_d309 rfl (Nat.le_succ _) (by decide) (fun _ => rfl) ?_
  obtain ⟨lv2, elv2⟩ : ∃ l, l = aj_set1 lv1 1 (.int (Int32.ofInt 0)) := ⟨_, rfl⟩
  rw [← elv2]
  have hlv2_0 : aj_lv lv2 0 = some (.ref 117) := fx_e1 elv2 hlv1_0 (by decide) (Or.inr rfl)
  have hlv2_1 : aj_lv lv2 1 = some (.int (Int32.ofInt 0)) := by rw [elv2]; exact ak_set1_eq _ _ _
  show fx_W _ _ _ 2 lv2 [] _ _
  refine fx_n (pc' := 3) (lv' := lv2) (st' := [.int (Int32.ofInt 0)]) aj_d309 rfl (Nat.le_succ _) (fun _ => rfl) ?_
  refine fx_s0 (j := 2) aj_d309 rfl (Nat.le_succ _) (by decide) (fun _ => rfl) ?_
  obtain ⟨lv3, elv3⟩ : ∃ l, l = aj_set1 lv2 2 (.int (Int32.ofInt 0)) := ⟨_, rfl⟩
  rw [← elv3]
  have hlv3_0 : aj_lv lv3 0 = some (.ref 117) := fx_e1 elv3 hlv2_0 (by decide) (Or.inl (by decide))
  have hlv3_1 : aj_lv lv3 1 = some (.int (Int32.ofInt 0)) := fx_e1 elv3 hlv2_1 (by decide) (Or.inr rfl)
  have hlv3_2 : aj_lv lv3 2 = some (.int (Int32.ofInt 0)) := by rw [elv3]; exact ak_set1_eq _ _ _
  show fx_W _ _ _ 4 lv3 [] _ _
  exact ((gxL_309 N)) lv3 ((Int32.ofInt 0)) ((Int32.ofInt 0)) X  hlv3_0 hlv3_1 hlv3_2
def gx_308 (p1 : Int32) (X : fx_X) (v : Int32) (X' : fx_X) : Prop :=
  (if (p1).toInt = 0 then (∃ (w5 : Int32) (X4 : fx_X), gx_309 X w5 X4 ∧ v = w5 ∧ X' = X4) else ((if (p1).toInt = 1 then ((0 ≤ ((X.1 117 0)).toInt ∧ ((X.1 117 0)).toInt < ((2 : Nat) : Int)) ∧ v = (X.1 122 ((X.1 117 0)).toInt.toNat) ∧ X' = X) else ((if (p1).toInt = 2 then ((0 ≤ ((X.1 117 0)).toInt ∧ ((X.1 117 0)).toInt < ((2 : Nat) : Int)) ∧ v = (X.1 118 ((X.1 117 0)).toInt.toNat) ∧ X' = X) else ((if (p1).toInt = 3 then ((0 ≤ ((X.1 117 0)).toInt ∧ ((X.1 117 0)).toInt < ((2 : Nat) : Int)) ∧ v = (X.1 124 ((X.1 117 0)).toInt.toNat) ∧ X' = X) else ((if (p1).toInt = 4 then ((0 ≤ ((X.1 117 0)).toInt ∧ ((X.1 117 0)).toInt < ((2 : Nat) : Int)) ∧ v = (X.1 127 ((X.1 117 0)).toInt.toNat) ∧ X' = X) else ((if (p1).toInt = 5 then ((0 ≤ ((X.1 117 0)).toInt ∧ ((X.1 117 0)).toInt < ((2 : Nat) : Int)) ∧ v = (X.1 128 ((X.1 117 0)).toInt.toNat) ∧ X' = X) else ((if (p1).toInt = 6 then (v = (X.1 117 23) ∧ X' = X) else (v = (Int32.ofInt (-1)) ∧ X' = X))))))))))))))
theorem gx_308_ok {tb : aj_T} (p1 : Int32) {X : fx_X} : fx_K tb 308 [.ref 117, .int p1] X (fx_Q fx_qI (fun v X' => gx_308 p1 X v X')) := by
  refine fx_m aj_m308_at rfl (fun N => ?_)
  refine fx_mono (Q := fx_Q fx_qI (fun v X' => ∃ n : Nat, gx_308 p1 X v X')) (fun r X' ⟨v, e, _, z⟩ => ⟨v, e, z⟩) ?_
  unfold gx_308
  show fx_W _ _ _ 0 [(0, .ref 117), (1, .int p1)] [] _ _
  obtain ⟨lv1, elv1⟩ : ∃ l : aj_V, l = [(0, .ref 117), (1, .int p1)] := ⟨_, rfl⟩
  rw [← elv1]
  have hlv1_0 : aj_lv lv1 0 = some (.ref 117) := by rw [elv1]; rfl
  have hlv1_1 : aj_lv lv1 1 = some (.int p1) := by rw [elv1]; rfl
  refine fx_i0 aj_d308 rfl (Nat.le_succ _) (fun _ => rfl) hlv1_1 ?_
  by_cases q3 : (p1).toInt = 0
  · skip
    refine fx_qi (c := (p1).toInt = 0) q3 ?_
    refine fx_ts (tgt := 44) aj_d308 rfl (Nat.le_succ _) q3 (by decide) rfl rfl ?_
    show fx_W _ _ _ 44 lv1 [] _ _
    refine fx_i2 aj_d308 rfl (Nat.le_succ _) (fun _ => rfl) hlv1_0 ?_
    refine fx_cv aj_d308 rfl (Nat.le_succ _) rfl [] rfl rfl (gx_309_ok) ?_
    rintro _ X4 ⟨w5, rfl, hR4⟩ hok4 hle4
    refine fx_qc hR4 ?_
    show fx_W _ _ _ 48 lv1 [.int w5] _ _
    exact fx_ri aj_d308 rfl ⟨_, rfl, 0, rfl, rfl⟩
  · skip
    refine fx_qe (c := (p1).toInt = 0) q3 ?_
    by_cases q6 : (p1).toInt = 1
    · skip
      refine fx_qi (c := (p1).toInt = 1) q6 ?_
      refine fx_ts (tgt := 49) aj_d308 rfl (Nat.le_succ _) q6 (by decide) rfl rfl ?_
      show fx_W _ _ _ 49 lv1 [] _ _
      refine fx_i2 aj_d308 rfl (Nat.le_succ _) (fun _ => rfl) hlv1_0 ?_
      refine fx_gF aj_d308 rfl (Nat.le_succ _) rfl rfl fx_in_11_5 (t := 122) rfl (fun hA7 => ?_)
      refine fx_i2 aj_d308 rfl (Nat.le_succ _) (fun _ => rfl) hlv1_0 ?_
      refine fx_gI aj_d308 rfl (Nat.le_succ _) rfl rfl (Or.inl rfl) ?_
      refine fx_ld aj_d308 (Or.inl rfl) rfl (Nat.le_succ _) (fun g80 g81 => ?_)
      show fx_W _ _ _ 58 lv1 [.int (X.1 122 ((X.1 117 0)).toInt.toNat)] _ _
      refine fx_qa (c := 0 ≤ ((X.1 117 0)).toInt ∧ ((X.1 117 0)).toInt < ((2 : Nat) : Int)) ⟨g80, fx_lnk g81 hA7⟩ ?_
      exact fx_ri aj_d308 rfl ⟨_, rfl, 0, rfl, rfl⟩
    · skip
      refine fx_qe (c := (p1).toInt = 1) q6 ?_
      by_cases q9 : (p1).toInt = 2
      · skip
        refine fx_qi (c := (p1).toInt = 2) q9 ?_
        refine fx_ts (tgt := 59) aj_d308 rfl (Nat.le_succ _) q9 (by decide) rfl rfl ?_
        show fx_W _ _ _ 59 lv1 [] _ _
        refine fx_i2 aj_d308 rfl (Nat.le_succ _) (fun _ => rfl) hlv1_0 ?_
        refine fx_gF aj_d308 rfl (Nat.le_succ _) rfl rfl fx_in_11_1 (t := 118) rfl (fun hA10 => ?_)
        refine fx_i2 aj_d308 rfl (Nat.le_succ _) (fun _ => rfl) hlv1_0 ?_
        refine fx_gI aj_d308 rfl (Nat.le_succ _) rfl rfl (Or.inl rfl) ?_
        refine fx_ld aj_d308 (Or.inl rfl) rfl (Nat.le_succ _) (fun g110 g111 => ?_)
        show fx_W _ _ _ 68 lv1 [.int (X.1 118 ((X.1 117 0)).toInt.toNat)] _ _
        refine fx_qa (c := 0 ≤ ((X.1 117 0)).toInt ∧ ((X.1 117 0)).toInt < ((2 : Nat) : Int)) ⟨g110, fx_lnk g111 hA10⟩ ?_
        exact fx_ri aj_d308 rfl ⟨_, rfl, 0, rfl, rfl⟩
      · skip
        refine fx_qe (c := (p1).toInt = 2) q9 ?_
        by_cases q12 : (p1).toInt = 3
        · skip
          refine fx_qi (c := (p1).toInt = 3) q12 ?_
          refine fx_ts (tgt := 69) aj_d308 rfl (Nat.le_succ _) q12 (by decide) rfl rfl ?_
          show fx_W _ _ _ 69 lv1 [] _ _
          refine fx_i2 aj_d308 rfl (Nat.le_succ _) (fun _ => rfl) hlv1_0 ?_
          refine fx_gF aj_d308 rfl (Nat.le_succ _) rfl rfl fx_in_11_7 (t := 124) rfl (fun hA13 => ?_)
          refine fx_i2 aj_d308 rfl (Nat.le_succ _) (fun _ => rfl) hlv1_0 ?_
          refine fx_gI aj_d308 rfl (Nat.le_succ _) rfl rfl (Or.inl rfl) ?_
          refine fx_ld aj_d308 (Or.inl rfl) rfl (Nat.le_succ _) (fun g140 g141 => ?_)
          show fx_W _ _ _ 78 lv1 [.int (X.1 124 ((X.1 117 0)).toInt.toNat)] _ _
          refine fx_qa (c := 0 ≤ ((X.1 117 0)).toInt ∧ ((X.1 117 0)).toInt < ((2 : Nat) : Int)) ⟨g140, fx_lnk g141 hA13⟩ ?_
          exact fx_ri aj_d308 rfl ⟨_, rfl, 0, rfl, rfl⟩
        · skip
          refine fx_qe (c := (p1).toInt = 3) q12 ?_
          by_cases q15 : (p1).toInt = 4
          · skip
            refine fx_qi (c := (p1).toInt = 4) q15 ?_
            refine fx_ts (tgt := 79) aj_d308 rfl (Nat.le_succ _) q15 (by decide) rfl rfl ?_
            show fx_W _ _ _ 79 lv1 [] _ _
            refine fx_i2 aj_d308 rfl (Nat.le_succ _) (fun _ => rfl) hlv1_0 ?_
            refine fx_gF aj_d308 rfl (Nat.le_succ _) rfl rfl fx_in_11_10 (t := 127) rfl (fun hA16 => ?_)
            refine fx_i2 aj_d308 rfl (Nat.le_succ _) (fun _ => rfl) hlv1_0 ?_
            refine fx_gI aj_d308 rfl (Nat.le_succ _) rfl rfl (Or.inl rfl) ?_
            refine fx_ld aj_d308 (Or.inl rfl) rfl (Nat.le_succ _) (fun g170 g171 => ?_)
            show fx_W _ _ _ 88 lv1 [.int (X.1 127 ((X.1 117 0)).toInt.toNat)] _ _
            refine fx_qa (c := 0 ≤ ((X.1 117 0)).toInt ∧ ((X.1 117 0)).toInt < ((2 : Nat) : Int)) ⟨g170, fx_lnk g171 hA16⟩ ?_
            exact fx_ri aj_d308 rfl ⟨_, rfl, 0, rfl, rfl⟩
          · skip
            refine fx_qe (c := (p1).toInt = 4) q15 ?_
            by_cases q18 : (p1).toInt = 5
            · skip
              refine fx_qi (c := (p1).toInt = 5) q18 ?_
              refine fx_ts (tgt := 89) aj_d308 rfl (Nat.le_succ _) q18 (by decide) rfl rfl ?_
              show fx_W _ _ _ 89 lv1 [] _ _
              refine fx_i2 aj_d308 rfl (Nat.le_succ _) (fun _ => rfl) hlv1_0 ?_
              refine fx_gF aj_d308 rfl (Nat.le_succ _) rfl rfl fx_in_11_11 (t := 128) rfl (fun hA19 => ?_)
              refine fx_i2 aj_d308 rfl (Nat.le_succ _) (fun _ => rfl) hlv1_0 ?_
              refine fx_gI aj_d308 rfl (Nat.le_succ _) rfl rfl (Or.inl rfl) ?_
              refine fx_ld aj_d308 (Or.inl rfl) rfl (Nat.le_succ _) (fun g200 g201 => ?_)
              show fx_W _ _ _ 98 lv1 [.int (X.1 128 ((X.1 117 0)).toInt.toNat)] _ _
              refine fx_qa (c := 0 ≤ ((X.1 117 0)).toInt ∧ ((X.1 117 0)).toInt < ((2 : Nat) : Int)) ⟨g200, fx_lnk g201 hA19⟩ ?_
              exact fx_ri aj_d308 rfl ⟨_, rfl, 0, rfl, rfl⟩
            · skip
              refine fx_qe (c := (p1).toInt = 5) q18 ?_
              by_cases q21 : (p1).toInt = 6
              · skip
                refine fx_qi (c := (p1).toInt = 6) q21 ?_
                refine fx_ts (tgt := 99) aj_d308 rfl (Nat.le_succ _) q21 (by decide) rfl rfl ?_
                show fx_W _ _ _ 99 lv1 [] _ _
                refine fx_i2 aj_d308 rfl (Nat.le_succ _) (fun _ => rfl) hlv1_0 ?_
                refine fx_gI aj_d308 rfl (Nat.le_succ _) rfl rfl (Or.inl rfl) ?_
                exact fx_ri aj_d308 rfl ⟨_, rfl, 0, rfl, rfl⟩
              · skip
                refine fx_qe (c := (p1).toInt = 6) q21 ?_
                refine fx_td (tgt := 104) aj_d308 rfl (Nat.le_succ _) (by omega) rfl ?_
                show fx_W _ _ _ 104 lv1 [] _ _
                refine fx_n (pc' := 105) (lv' := lv1) (st' := [.int (Int32.ofInt (-1))]) aj_d308 rfl (Nat.le_succ _) (fun _ => rfl) ?_
                exact fx_ri aj_d308 rfl ⟨_, rfl, 0, rfl, rfl⟩
