/-! METHODS LIFTED (printed by wip/p7/gx.py, parts.py) -/
def gx_42 (p1 : Int32) (p2 : Int32) (p3 : Int32) (p4 : Int32) (X : fx_X) (v : Unit) (X' : fx_X) : Prop :=
  (if ((X.1 82 4)).toInt < 2500 then ((0 ≤ ((X.1 82 4)).toInt ∧ ((X.1 82 4)).toInt < ((2500 : Nat) : Int)) ∧ ∃ X5 : fx_X, X5 = (fx_wI X 83 ((X.1 82 4)).toInt.toNat p1) ∧ (0 ≤ ((X5.1 82 4)).toInt ∧ ((X5.1 82 4)).toInt < ((2500 : Nat) : Int)) ∧ ∃ X8 : fx_X, X8 = (fx_wI X5 84 ((X5.1 82 4)).toInt.toNat p2) ∧ (0 ≤ ((X8.1 82 4)).toInt ∧ ((X8.1 82 4)).toInt < ((2500 : Nat) : Int)) ∧ ∃ X11 : fx_X, X11 = (fx_wI X8 85 ((X8.1 82 4)).toInt.toNat p3) ∧ (0 ≤ ((X11.1 82 4)).toInt ∧ ((X11.1 82 4)).toInt < ((2500 : Nat) : Int)) ∧ ∃ X14 : fx_X, X14 = (fx_wI X11 86 ((X11.1 82 4)).toInt.toNat p4) ∧ ∃ X15 : fx_X, X15 = (fx_wI X14 82 4 ((X14.1 82 4) + (Int32.ofInt 1))) ∧ X' = X15) else (X' = X))
theorem gx_42_ok {tb : aj_T} (p1 : Int32) (p2 : Int32) (p3 : Int32) (p4 : Int32) {X : fx_X} : fx_K tb 42 [.ref 82, .int p1, .int p2, .int p3, .int p4] X (fx_Q fx_qN (fun v X' => gx_42 p1 p2 p3 p4 X v X')) := by
  refine fx_m aj_m42_at rfl (fun N => ?_)
  refine fx_mono (Q := fx_Q fx_qN (fun v X' => ∃ n : Nat, gx_42 p1 p2 p3 p4 X v X')) (fun r X' ⟨v, e, _, z⟩ => ⟨v, e, z⟩) ?_
  unfold gx_42
  show fx_W _ _ _ 0 [(0, .ref 82), (1, .int p1), (2, .int p2), (3, .int p3), (4, .int p4)] [] _ _
  obtain ⟨lv1, elv1⟩ : ∃ l : aj_V, l = [(0, .ref 82), (1, .int p1), (2, .int p2), (3, .int p3), (4, .int p4)] := ⟨_, rfl⟩
  rw [← elv1]
  have hlv1_0 : aj_lv lv1 0 = some (.ref 82) := by rw [elv1]; rfl
  have hlv1_1 : aj_lv lv1 1 = some (.int p1) := by rw [elv1]; rfl
  have hlv1_2 : aj_lv lv1 2 = some (.int p2) := by rw [elv1]; rfl
  have hlv1_3 : aj_lv lv1 3 = some (.int p3) := by rw [elv1]; rfl
  have hlv1_4 : aj_lv lv1 4 = some (.int p4) := by rw [elv1]; rfl
  refine fx_i2 aj_d42 rfl (Nat.le_succ _) (fun _ => rfl) hlv1_0 ?_
  refine fx_gI aj_d42 rfl (Nat.le_succ _) rfl rfl (Or.inl rfl) ?_
  refine fx_n (pc' := 7) (lv' := lv1) (st' := [.int ((Int16.ofInt 2500).toInt32), .int (X.1 82 4)]) aj_d42 rfl (Nat.le_succ _) (fun _ => rfl) ?_
  refine fx_b (tgt := 61) aj_d42 rfl (Nat.le_succ _) rfl (fun q2 => ?_) (fun q2 => ?_)
  · skip
    refine fx_qe (c := ((X.1 82 4)).toInt < 2500) (fx_t_ge q2) ?_
    show fx_W _ _ _ 61 lv1 [] _ _
    exact fx_rn aj_d42 rfl ⟨(), rfl, 0, rfl⟩
  · skip
    refine fx_qi (c := ((X.1 82 4)).toInt < 2500) (fx_f_ge q2) ?_
    show fx_W _ _ _ 10 lv1 [] _ _
    refine fx_i2 aj_d42 rfl (Nat.le_succ _) (fun _ => rfl) hlv1_0 ?_
    refine fx_gF aj_d42 rfl (Nat.le_succ _) rfl rfl fx_in_4_0 (t := 83) rfl (fun hA3 => ?_)
    refine fx_i2 aj_d42 rfl (Nat.le_succ _) (fun _ => rfl) hlv1_0 ?_
    refine fx_gI aj_d42 rfl (Nat.le_succ _) rfl rfl (Or.inl rfl) ?_
    refine fx_i0 aj_d42 rfl (Nat.le_succ _) (fun _ => rfl) hlv1_1 ?_
    refine fx_st aj_d42 (Or.inl ⟨rfl, rfl⟩) rfl (Nat.le_succ _) (fun g40 g41 => ?_)
    show fx_W _ _ _ _ _ _ (fx_wI X 83 ((X.1 82 4)).toInt.toNat p1) _
    refine fx_qa (c := 0 ≤ ((X.1 82 4)).toInt ∧ ((X.1 82 4)).toInt < ((2500 : Nat) : Int)) ⟨g40, fx_lnk g41 hA3⟩ ?_
    refine fx_qX (fun X5 eX5 => ?_)
    show fx_W _ _ _ 20 lv1 [] _ _
    refine fx_i2 aj_d42 rfl (Nat.le_succ _) (fun _ => rfl) hlv1_0 ?_
    refine fx_gF aj_d42 rfl (Nat.le_succ _) rfl rfl fx_in_4_1 (t := 84) rfl (fun hA6 => ?_)
    refine fx_i2 aj_d42 rfl (Nat.le_succ _) (fun _ => rfl) hlv1_0 ?_
    refine fx_gI aj_d42 rfl (Nat.le_succ _) rfl rfl (Or.inl rfl) ?_
    refine fx_i0 aj_d42 rfl (Nat.le_succ _) (fun _ => rfl) hlv1_2 ?_
    refine fx_st aj_d42 (Or.inl ⟨rfl, rfl⟩) rfl (Nat.le_succ _) (fun g70 g71 => ?_)
    show fx_W _ _ _ _ _ _ (fx_wI X5 84 ((X5.1 82 4)).toInt.toNat p2) _
    refine fx_qa (c := 0 ≤ ((X5.1 82 4)).toInt ∧ ((X5.1 82 4)).toInt < ((2500 : Nat) : Int)) ⟨g70, fx_lnk g71 hA6⟩ ?_
    refine fx_qX (fun X8 eX8 => ?_)
    show fx_W _ _ _ 30 lv1 [] _ _
    refine fx_i2 aj_d42 rfl (Nat.le_succ _) (fun _ => rfl) hlv1_0 ?_
    refine fx_gF aj_d42 rfl (Nat.le_succ _) rfl rfl fx_in_4_2 (t := 85) rfl (fun hA9 => ?_)
    refine fx_i2 aj_d42 rfl (Nat.le_succ _) (fun _ => rfl) hlv1_0 ?_
    refine fx_gI aj_d42 rfl (Nat.le_succ _) rfl rfl (Or.inl rfl) ?_
    refine fx_i0 aj_d42 rfl (Nat.le_succ _) (fun _ => rfl) hlv1_3 ?_
    refine fx_st aj_d42 (Or.inl ⟨rfl, rfl⟩) rfl (Nat.le_succ _) (fun g100 g101 => ?_)
    show fx_W _ _ _ _ _ _ (fx_wI X8 85 ((X8.1 82 4)).toInt.toNat p3) _
    refine fx_qa (c := 0 ≤ ((X8.1 82 4)).toInt ∧ ((X8.1 82 4)).toInt < ((2500 : Nat) : Int)) ⟨g100, fx_lnk g101 hA9⟩ ?_
    refine fx_qX (fun X11 eX11 => ?_)
    show fx_W _ _ _ 40 lv1 [] _ _
    refine fx_i2 aj_d42 rfl (Nat.le_succ _) (fun _ => rfl) hlv1_0 ?_
    refine fx_gF aj_d42 rfl (Nat.le_succ _) rfl rfl fx_in_4_3 (t := 86) rfl (fun hA12 => ?_)
    refine fx_i2 aj_d42 rfl (Nat.le_succ _) (fun _ => rfl) hlv1_0 ?_
    refine fx_gI aj_d42 rfl (Nat.le_succ _) rfl rfl (Or.inl rfl) ?_
    refine fx_i0 aj_d42 rfl (Nat.le_succ _) (fun _ => rfl) hlv1_4 ?_
    refine fx_st aj_d42 (Or.inl ⟨rfl, rfl⟩) rfl (Nat.le_succ _) (fun g130 g131 => ?_)
    show fx_W _ _ _ _ _ _ (fx_wI X11 86 ((X11.1 82 4)).toInt.toNat p4) _
    refine fx_qa (c := 0 ≤ ((X11.1 82 4)).toInt ∧ ((X11.1 82 4)).toInt < ((2500 : Nat) : Int)) ⟨g130, fx_lnk g131 hA12⟩ ?_
    refine fx_qX (fun X14 eX14 => ?_)
    show fx_W _ _ _ 51 lv1 [] _ _
    refine fx_i2 aj_d42 rfl (Nat.le_succ _) (fun _ => rfl) hlv1_0 ?_
    refine fx_n (pc' := 53) (lv' := lv1) (st' := [.ref 82, .ref 82]) aj_d42 rfl (Nat.le_succ _) (fun _ => rfl) ?_
    refine fx_gI aj_d42 rfl (Nat.le_succ _) rfl rfl (Or.inl rfl) ?_
    refine fx_n (pc' := 57) (lv' := lv1) (st' := [.int (Int32.ofInt 1), .int (X14.1 82 4), .ref 82]) aj_d42 rfl (Nat.le_succ _) (fun _ => rfl) ?_
    refine fx_n (pc' := 58) (lv' := lv1) (st' := [.int ((X14.1 82 4) + (Int32.ofInt 1)), .ref 82]) aj_d42 rfl (Nat.le_succ _) (fun _ => rfl) ?_
    refine fx_pI aj_d42 rfl (Nat.le_succ _) rfl rfl (Or.inl rfl) fx_no_4_4 (by decide) ?_
    refine fx_qX (fun X15 eX15 => ?_)
    show fx_W _ _ _ 61 lv1 [] _ _
    exact fx_rn aj_d42 rfl ⟨(), rfl, 0, rfl⟩
def gx_40 (p1 : Int32) (X : fx_X) (v : Int32) (X' : fx_X) : Prop :=
  (if (p1).toInt < 0 then (v = (Int32.ofInt 0) ∧ X' = X) else ((if (p1).toInt < 2500 then ((0 ≤ (p1).toInt ∧ (p1).toInt < ((2500 : Nat) : Int)) ∧ v = (X.1 86 (p1).toInt.toNat) ∧ X' = X) else (v = (Int32.ofInt 0) ∧ X' = X))))
theorem gx_40_ok {tb : aj_T} (p1 : Int32) {X : fx_X} : fx_K tb 40 [.ref 82, .int p1] X (fx_Q fx_qI (fun v X' => gx_40 p1 X v X')) := by
  refine fx_m aj_m40_at rfl (fun N => ?_)
  refine fx_mono (Q := fx_Q fx_qI (fun v X' => ∃ n : Nat, gx_40 p1 X v X')) (fun r X' ⟨v, e, _, z⟩ => ⟨v, e, z⟩) ?_
  unfold gx_40
  show fx_W _ _ _ 0 [(0, .ref 82), (1, .int p1)] [] _ _
  obtain ⟨lv1, elv1⟩ : ∃ l : aj_V, l = [(0, .ref 82), (1, .int p1)] := ⟨_, rfl⟩
  rw [← elv1]
  have hlv1_0 : aj_lv lv1 0 = some (.ref 82) := by rw [elv1]; rfl
  have hlv1_1 : aj_lv lv1 1 = some (.int p1) := by rw [elv1]; rfl
  refine fx_i0 aj_d40 rfl (Nat.le_succ _) (fun _ => rfl) hlv1_1 ?_
  refine fx_b0 (tgt := 22) aj_d40 rfl (Nat.le_succ _) rfl (fun q2 => ?_) (fun q2 => ?_)
  · skip
    refine fx_qi (c := (p1).toInt < 0) (fx_t_lt q2) ?_
    show fx_W _ _ _ 22 lv1 [] _ _
    refine fx_n (pc' := 23) (lv' := lv1) (st' := [.int (Int32.ofInt 0)]) aj_d40 rfl (Nat.le_succ _) (fun _ => rfl) ?_
    exact fx_ri aj_d40 rfl ⟨_, rfl, 0, rfl, rfl⟩
  · skip
    refine fx_qe (c := (p1).toInt < 0) (fx_f_lt q2) ?_
    show fx_W _ _ _ 4 lv1 [] _ _
    refine fx_i0 aj_d40 rfl (Nat.le_succ _) (fun _ => rfl) hlv1_1 ?_
    refine fx_i2 aj_d40 rfl (Nat.le_succ _) (fun _ => rfl) hlv1_0 ?_
    refine fx_gF aj_d40 rfl (Nat.le_succ _) rfl rfl fx_in_4_3 (t := 86) rfl (fun hA3 => ?_)
    refine fx_al aj_d40 rfl (Nat.le_succ _) ?_
    rw [(hA3 : X.2.2.2.1 86 = (0, 2500))]
    show fx_W _ _ _ 10 lv1 [.int (Int32.ofNat 2500), .int p1] _ _
    refine fx_b (tgt := 22) aj_d40 rfl (Nat.le_succ _) rfl (fun q4 => ?_) (fun q4 => ?_)
    · skip
      refine fx_qe (c := (p1).toInt < 2500) (fx_t_ge q4) ?_
      show fx_W _ _ _ 22 lv1 [] _ _
      refine fx_n (pc' := 23) (lv' := lv1) (st' := [.int (Int32.ofInt 0)]) aj_d40 rfl (Nat.le_succ _) (fun _ => rfl) ?_
      exact fx_ri aj_d40 rfl ⟨_, rfl, 0, rfl, rfl⟩
    · skip
      refine fx_qi (c := (p1).toInt < 2500) (fx_f_ge q4) ?_
      show fx_W _ _ _ 13 lv1 [] _ _
      refine fx_i2 aj_d40 rfl (Nat.le_succ _) (fun _ => rfl) hlv1_0 ?_
      refine fx_gF aj_d40 rfl (Nat.le_succ _) rfl rfl fx_in_4_3 (t := 86) rfl (fun hA5 => ?_)
      refine fx_i0 aj_d40 rfl (Nat.le_succ _) (fun _ => rfl) hlv1_1 ?_
      refine fx_ld aj_d40 (Or.inl rfl) rfl (Nat.le_succ _) (fun g60 g61 => ?_)
      show fx_W _ _ _ 19 lv1 [.int (X.1 86 (p1).toInt.toNat)] _ _
      refine fx_qa (c := 0 ≤ (p1).toInt ∧ (p1).toInt < ((2500 : Nat) : Int)) ⟨g60, fx_lnk g61 hA5⟩ ?_
      refine fx_n (pc' := 23) (lv' := lv1) (st' := [.int (X.1 86 (p1).toInt.toNat)]) aj_d40 rfl (Nat.le_succ _) (fun _ => rfl) ?_
      exact fx_ri aj_d40 rfl ⟨_, rfl, 0, rfl, rfl⟩
def gx_41 (p1 : Int32) (p2 : Int32) (X : fx_X) (v : Unit) (X' : fx_X) : Prop :=
  (if (p1).toInt < 0 then (X' = X) else ((if (p1).toInt < 2500 then ((0 ≤ (p1).toInt ∧ (p1).toInt < ((2500 : Nat) : Int)) ∧ ∃ X7 : fx_X, X7 = (fx_wI X 86 (p1).toInt.toNat p2) ∧ X' = X7) else (X' = X))))
theorem gx_41_ok {tb : aj_T} (p1 : Int32) (p2 : Int32) {X : fx_X} : fx_K tb 41 [.ref 82, .int p1, .int p2] X (fx_Q fx_qN (fun v X' => gx_41 p1 p2 X v X')) := by
  refine fx_m aj_m41_at rfl (fun N => ?_)
  refine fx_mono (Q := fx_Q fx_qN (fun v X' => ∃ n : Nat, gx_41 p1 p2 X v X')) (fun r X' ⟨v, e, _, z⟩ => ⟨v, e, z⟩) ?_
  unfold gx_41
  show fx_W _ _ _ 0 [(0, .ref 82), (1, .int p1), (2, .int p2)] [] _ _
  obtain ⟨lv1, elv1⟩ : ∃ l : aj_V, l = [(0, .ref 82), (1, .int p1), (2, .int p2)] := ⟨_, rfl⟩
  rw [← elv1]
  have hlv1_0 : aj_lv lv1 0 = some (.ref 82) := by rw [elv1]; rfl
  have hlv1_1 : aj_lv lv1 1 = some (.int p1) := by rw [elv1]; rfl
  have hlv1_2 : aj_lv lv1 2 = some (.int p2) := by rw [elv1]; rfl
  refine fx_i0 aj_d41 rfl (Nat.le_succ _) (fun _ => rfl) hlv1_1 ?_
  refine fx_b0 (tgt := 20) aj_d41 rfl (Nat.le_succ _) rfl (fun q2 => ?_) (fun q2 => ?_)
  · skip
    refine fx_qi (c := (p1).toInt < 0) (fx_t_lt q2) ?_
    show fx_W _ _ _ 20 lv1 [] _ _
    exact fx_rn aj_d41 rfl ⟨(), rfl, 0, rfl⟩
  · skip
    refine fx_qe (c := (p1).toInt < 0) (fx_f_lt q2) ?_
    show fx_W _ _ _ 4 lv1 [] _ _
    refine fx_i0 aj_d41 rfl (Nat.le_succ _) (fun _ => rfl) hlv1_1 ?_
    refine fx_i2 aj_d41 rfl (Nat.le_succ _) (fun _ => rfl) hlv1_0 ?_
    refine fx_gF aj_d41 rfl (Nat.le_succ _) rfl rfl fx_in_4_3 (t := 86) rfl (fun hA3 => ?_)
    refine fx_al aj_d41 rfl (Nat.le_succ _) ?_
    rw [(hA3 : X.2.2.2.1 86 = (0, 2500))]
    show fx_W _ _ _ 10 lv1 [.int (Int32.ofNat 2500), .int p1] _ _
    refine fx_b (tgt := 20) aj_d41 rfl (Nat.le_succ _) rfl (fun q4 => ?_) (fun q4 => ?_)
    · skip
      refine fx_qe (c := (p1).toInt < 2500) (fx_t_ge q4) ?_
      show fx_W _ _ _ 20 lv1 [] _ _
      exact fx_rn aj_d41 rfl ⟨(), rfl, 0, rfl⟩
    · skip
      refine fx_qi (c := (p1).toInt < 2500) (fx_f_ge q4) ?_
      show fx_W _ _ _ 13 lv1 [] _ _
      refine fx_i2 aj_d41 rfl (Nat.le_succ _) (fun _ => rfl) hlv1_0 ?_
      refine fx_gF aj_d41 rfl (Nat.le_succ _) rfl rfl fx_in_4_3 (t := 86) rfl (fun hA5 => ?_)
      refine fx_i0 aj_d41 rfl (Nat.le_succ _) (fun _ => rfl) hlv1_1 ?_
      refine fx_i0 aj_d41 rfl (Nat.le_succ _) (fun _ => rfl) hlv1_2 ?_
      refine fx_st aj_d41 (Or.inl ⟨rfl, rfl⟩) rfl (Nat.le_succ _) (fun g60 g61 => ?_)
      show fx_W _ _ _ _ _ _ (fx_wI X 86 (p1).toInt.toNat p2) _
      refine fx_qa (c := 0 ≤ (p1).toInt ∧ (p1).toInt < ((2500 : Nat) : Int)) ⟨g60, fx_lnk g61 hA5⟩ ?_
      refine fx_qX (fun X7 eX7 => ?_)
      show fx_W _ _ _ 20 lv1 [] _ _
      exact fx_rn aj_d41 rfl ⟨(), rfl, 0, rfl⟩
def gx_39 (p1 : Int32) (p2 : Int32) (X : fx_X) (v : Unit) (X' : fx_X) : Prop :=
  (if (p1).toInt = 170 then (X' = X) else ((if (p1).toInt = 171 then (X' = X) else ((if (p1).toInt = 172 then (X' = X) else ((if (p1).toInt = 186 then (∃ X8 : fx_X, X8 = (fx_wI X 87 15 (X.1 82 4)) ∧ ∃ (w11 : Unit) (X10 : fx_X), gx_42 p1 (X8.1 87 7) p2 (Int32.ofInt 0) X8 w11 X10 ∧ X' = X10) else ((if (p1).toInt = 187 then (∃ (w16 : Int32) (X15 : fx_X), gx_40 (X.1 87 15) X w16 X15 ∧ ∃ (w18 : Unit) (X17 : fx_X), gx_41 (X.1 87 15) (w16 + (Int32.ofInt 1)) X15 w18 X17 ∧ ∃ (w21 : Unit) (X20 : fx_X), gx_42 p1 (X17.1 87 7) p2 (Int32.ofInt 0) X17 w21 X20 ∧ X' = X20) else (∃ (w24 : Unit) (X23 : fx_X), gx_42 p1 (X.1 87 7) p2 (Int32.ofInt 0) X w24 X23 ∧ X' = X23))))))))))
theorem gx_39_ok {tb : aj_T} (p1 : Int32) (p2 : Int32) {X : fx_X} : fx_K tb 39 [.ref 87, .int p1, .int p2] X (fx_Q fx_qN (fun v X' => gx_39 p1 p2 X v X')) := by
  refine fx_m aj_m39_at rfl (fun N => ?_)
  refine fx_mono (Q := fx_Q fx_qN (fun v X' => ∃ n : Nat, gx_39 p1 p2 X v X')) (fun r X' ⟨v, e, _, z⟩ => ⟨v, e, z⟩) ?_
  unfold gx_39
  show fx_W _ _ _ 0 [(0, .ref 87), (1, .int p1), (2, .int p2)] [] _ _
  obtain ⟨lv1, elv1⟩ : ∃ l : aj_V, l = [(0, .ref 87), (1, .int p1), (2, .int p2)] := ⟨_, rfl⟩
  rw [← elv1]
  have hlv1_0 : aj_lv lv1 0 = some (.ref 87) := by rw [elv1]; rfl
  have hlv1_1 : aj_lv lv1 1 = some (.int p1) := by rw [elv1]; rfl
  have hlv1_2 : aj_lv lv1 2 = some (.int p2) := by rw [elv1]; rfl
  refine fx_i0 aj_d39 rfl (Nat.le_succ _) (fun _ => rfl) hlv1_1 ?_
  by_cases q3 : (p1).toInt = 170
  · skip
    refine fx_qi (c := (p1).toInt = 170) q3 ?_
    refine fx_lk (tgt := 52) (off := 51) aj_d39 rfl (Nat.le_succ _) (by decide) (by rw [q3]; rfl) rfl ?_
    show fx_W _ _ _ 52 lv1 [] _ _
    exact fx_rn aj_d39 rfl ⟨(), rfl, 0, rfl⟩
  · skip
    refine fx_qe (c := (p1).toInt = 170) q3 ?_
    by_cases q4 : (p1).toInt = 171
    · skip
      refine fx_qi (c := (p1).toInt = 171) q4 ?_
      refine fx_lk (tgt := 52) (off := 51) aj_d39 rfl (Nat.le_succ _) (by decide) (by rw [q4]; rfl) rfl ?_
      show fx_W _ _ _ 52 lv1 [] _ _
      exact fx_rn aj_d39 rfl ⟨(), rfl, 0, rfl⟩
    · skip
      refine fx_qe (c := (p1).toInt = 171) q4 ?_
      by_cases q5 : (p1).toInt = 172
      · skip
        refine fx_qi (c := (p1).toInt = 172) q5 ?_
        refine fx_lk (tgt := 52) (off := 51) aj_d39 rfl (Nat.le_succ _) (by decide) (by rw [q5]; rfl) rfl ?_
        show fx_W _ _ _ 52 lv1 [] _ _
        exact fx_rn aj_d39 rfl ⟨(), rfl, 0, rfl⟩
      · skip
        refine fx_qe (c := (p1).toInt = 172) q5 ?_
        by_cases q6 : (p1).toInt = 186
        · skip
          refine fx_qi (c := (p1).toInt = 186) q6 ?_
          refine fx_lk (tgt := 53) (off := 52) aj_d39 rfl (Nat.le_succ _) (by decide) (by rw [q6]; rfl) rfl ?_
          show fx_W _ _ _ 53 lv1 [] _ _
          refine fx_i2 aj_d39 rfl (Nat.le_succ _) (fun _ => rfl) hlv1_0 ?_
          refine fx_i2 aj_d39 rfl (Nat.le_succ _) (fun _ => rfl) hlv1_0 ?_
          refine fx_gF aj_d39 rfl (Nat.le_succ _) rfl rfl fx_in_3_1 (t := 82) rfl (fun hA7 => ?_)
          refine fx_gI aj_d39 rfl (Nat.le_succ _) rfl rfl (Or.inl rfl) ?_
          refine fx_pI aj_d39 rfl (Nat.le_succ _) rfl rfl (Or.inl rfl) fx_no_3_15 (by decide) ?_
          refine fx_qX (fun X8 eX8 => ?_)
          show fx_W _ _ _ 64 lv1 [] _ _
          refine fx_n (pc' := 94) (lv' := lv1) (st' := []) aj_d39 rfl (Nat.le_succ _) (fun _ => rfl) ?_
          refine fx_i2 aj_d39 rfl (Nat.le_succ _) (fun _ => rfl) hlv1_0 ?_
          refine fx_gF aj_d39 rfl (Nat.le_succ _) rfl rfl fx_in_3_1 (t := 82) rfl (fun hA9 => ?_)
          refine fx_i0 aj_d39 rfl (Nat.le_succ _) (fun _ => rfl) hlv1_1 ?_
          refine fx_i2 aj_d39 rfl (Nat.le_succ _) (fun _ => rfl) hlv1_0 ?_
          refine fx_gI aj_d39 rfl (Nat.le_succ _) rfl rfl (Or.inl rfl) ?_
          refine fx_i0 aj_d39 rfl (Nat.le_succ _) (fun _ => rfl) hlv1_2 ?_
          refine fx_n (pc' := 105) (lv' := lv1) (st' := [.int (Int32.ofInt 0), .int p2, .int (X8.1 87 7), .int p1, .ref 82]) aj_d39 rfl (Nat.le_succ _) (fun _ => rfl) ?_
          refine fx_cv aj_d39 rfl (Nat.le_succ _) rfl [_, _, _, _] rfl rfl (gx_42_ok p1 (X8.1 87 7) p2 (Int32.ofInt 0)) ?_
          rintro _ X10 ⟨w11, rfl, hR10⟩ hok10 hle10
          refine fx_qc hR10 ?_
          show fx_W _ _ _ 108 lv1 [] _ _
          exact fx_rn aj_d39 rfl ⟨(), rfl, 0, rfl⟩
        · skip
          refine fx_qe (c := (p1).toInt = 186) q6 ?_
          by_cases q12 : (p1).toInt = 187
          · skip
            refine fx_qi (c := (p1).toInt = 187) q12 ?_
            refine fx_lk (tgt := 67) (off := 66) aj_d39 rfl (Nat.le_succ _) (by decide) (by rw [q12]; rfl) rfl ?_
            show fx_W _ _ _ 67 lv1 [] _ _
            refine fx_i2 aj_d39 rfl (Nat.le_succ _) (fun _ => rfl) hlv1_0 ?_
            refine fx_gF aj_d39 rfl (Nat.le_succ _) rfl rfl fx_in_3_1 (t := 82) rfl (fun hA13 => ?_)
            refine fx_i2 aj_d39 rfl (Nat.le_succ _) (fun _ => rfl) hlv1_0 ?_
            refine fx_gI aj_d39 rfl (Nat.le_succ _) rfl rfl (Or.inl rfl) ?_
            refine fx_i2 aj_d39 rfl (Nat.le_succ _) (fun _ => rfl) hlv1_0 ?_
            refine fx_gF aj_d39 rfl (Nat.le_succ _) rfl rfl fx_in_3_1 (t := 82) rfl (fun hA14 => ?_)
            refine fx_i2 aj_d39 rfl (Nat.le_succ _) (fun _ => rfl) hlv1_0 ?_
            refine fx_gI aj_d39 rfl (Nat.le_succ _) rfl rfl (Or.inl rfl) ?_
            refine fx_cv aj_d39 rfl (Nat.le_succ _) rfl [_] rfl rfl (gx_40_ok (X.1 87 15)) ?_
            rintro _ X15 ⟨w16, rfl, hR15⟩ hok15 hle15
            refine fx_qc hR15 ?_
            show fx_W _ _ _ 86 lv1 [.int w16, .int (X.1 87 15), .ref 82] _ _
            refine fx_n (pc' := 87) (lv' := lv1) (st' := [.int (Int32.ofInt 1), .int w16, .int (X.1 87 15), .ref 82]) aj_d39 rfl (Nat.le_succ _) (fun _ => rfl) ?_
            refine fx_n (pc' := 88) (lv' := lv1) (st' := [.int (w16 + (Int32.ofInt 1)), .int (X.1 87 15), .ref 82]) aj_d39 rfl (Nat.le_succ _) (fun _ => rfl) ?_
            refine fx_cv aj_d39 rfl (Nat.le_succ _) rfl [_, _] rfl rfl (gx_41_ok (X.1 87 15) (w16 + (Int32.ofInt 1))) ?_
            rintro _ X17 ⟨w18, rfl, hR17⟩ hok17 hle17
            refine fx_qc hR17 ?_
            show fx_W _ _ _ 91 lv1 [] _ _
            refine fx_n (pc' := 94) (lv' := lv1) (st' := []) aj_d39 rfl (Nat.le_succ _) (fun _ => rfl) ?_
            refine fx_i2 aj_d39 rfl (Nat.le_succ _) (fun _ => rfl) hlv1_0 ?_
            refine fx_gF aj_d39 rfl (Nat.le_succ _) rfl rfl fx_in_3_1 (t := 82) rfl (fun hA19 => ?_)
            refine fx_i0 aj_d39 rfl (Nat.le_succ _) (fun _ => rfl) hlv1_1 ?_
            refine fx_i2 aj_d39 rfl (Nat.le_succ _) (fun _ => rfl) hlv1_0 ?_
            refine fx_gI aj_d39 rfl (Nat.le_succ _) rfl rfl (Or.inl rfl) ?_
            refine fx_i0 aj_d39 rfl (Nat.le_succ _) (fun _ => rfl) hlv1_2 ?_
            refine fx_n (pc' := 105) (lv' := lv1) (st' := [.int (Int32.ofInt 0), .int p2, .int (X17.1 87 7), .int p1, .ref 82]) aj_d39 rfl (Nat.le_succ _) (fun _ => rfl) ?_
            refine fx_cv aj_d39 rfl (Nat.le_succ _) rfl [_, _, _, _] rfl rfl (gx_42_ok p1 (X17.1 87 7) p2 (Int32.ofInt 0)) ?_
            rintro _ X20 ⟨w21, rfl, hR20⟩ hok20 hle20
            refine fx_qc hR20 ?_
            show fx_W _ _ _ 108 lv1 [] _ _
            exact fx_rn aj_d39 rfl ⟨(), rfl, 0, rfl⟩
          · skip
            refine fx_qe (c := (p1).toInt = 187) q12 ?_
            refine fx_lk (tgt := 94) (off := 93) aj_d39 rfl (Nat.le_succ _) (by decide) (fx_lkd (by intro z hz; simp only [List.mem_cons, List.not_mem_nil, or_false] at hz; rcases hz with rfl | rfl | rfl | rfl | rfl <;> (dsimp only; omega))) rfl ?_
            show fx_W _ _ _ 94 lv1 [] _ _
            refine fx_i2 aj_d39 rfl (Nat.le_succ _) (fun _ => rfl) hlv1_0 ?_
            refine fx_gF aj_d39 rfl (Nat.le_succ _) rfl rfl fx_in_3_1 (t := 82) rfl (fun hA22 => ?_)
            refine fx_i0 aj_d39 rfl (Nat.le_succ _) (fun _ => rfl) hlv1_1 ?_
            refine fx_i2 aj_d39 rfl (Nat.le_succ _) (fun _ => rfl) hlv1_0 ?_
            refine fx_gI aj_d39 rfl (Nat.le_succ _) rfl rfl (Or.inl rfl) ?_
            refine fx_i0 aj_d39 rfl (Nat.le_succ _) (fun _ => rfl) hlv1_2 ?_
            refine fx_n (pc' := 105) (lv' := lv1) (st' := [.int (Int32.ofInt 0), .int p2, .int (X.1 87 7), .int p1, .ref 82]) aj_d39 rfl (Nat.le_succ _) (fun _ => rfl) ?_
            refine fx_cv aj_d39 rfl (Nat.le_succ _) rfl [_, _, _, _] rfl rfl (gx_42_ok p1 (X.1 87 7) p2 (Int32.ofInt 0)) ?_
            rintro _ X23 ⟨w24, rfl, hR23⟩ hok23 hle23
            refine fx_qc hR23 ?_
            show fx_W _ _ _ 108 lv1 [] _ _
            exact fx_rn aj_d39 rfl ⟨(), rfl, 0, rfl⟩
def gx_34 (p1 : Int32) (p2 : Int32) (X : fx_X) (v : Unit) (X' : fx_X) : Prop :=
  ∃ (w3 : Int32) (X2 : fx_X), gx_35 p1 X w3 X2 ∧ (if (w3).toInt = 0 then (∃ (w8 : Int32) (X7 : fx_X), gx_43 (X2.1 87 7) X2 w8 X7 ∧ ∃ (w10 : Unit) (X9 : fx_X), gx_44 (Int32.ofInt 2) w8 X7 w10 X9 ∧ X' = X9) else (∃ (w12 : Unit) (X11 : fx_X), gx_39 p1 p2 X2 w12 X11 ∧ X' = X11))
theorem gx_34_ok {tb : aj_T} (p1 : Int32) (p2 : Int32) {X : fx_X} : fx_K tb 34 [.ref 87, .int p1, .int p2] X (fx_Q fx_qN (fun v X' => gx_34 p1 p2 X v X')) := by
  refine fx_m aj_m34_at rfl (fun N => ?_)
  refine fx_mono (Q := fx_Q fx_qN (fun v X' => ∃ n : Nat, gx_34 p1 p2 X v X')) (fun r X' ⟨v, e, _, z⟩ => ⟨v, e, z⟩) ?_
  unfold gx_34
  show fx_W _ _ _ 0 [(0, .ref 87), (1, .int p1), (2, .int p2)] [] _ _
  obtain ⟨lv1, elv1⟩ : ∃ l : aj_V, l = [(0, .ref 87), (1, .int p1), (2, .int p2)] := ⟨_, rfl⟩
  rw [← elv1]
  have hlv1_0 : aj_lv lv1 0 = some (.ref 87) := by rw [elv1]; rfl
  have hlv1_1 : aj_lv lv1 1 = some (.int p1) := by rw [elv1]; rfl
  have hlv1_2 : aj_lv lv1 2 = some (.int p2) := by rw [elv1]; rfl
  refine fx_i2 aj_d34 rfl (Nat.le_succ _) (fun _ => rfl) hlv1_0 ?_
  refine fx_i0 aj_d34 rfl (Nat.le_succ _) (fun _ => rfl) hlv1_1 ?_
  refine fx_cv aj_d34 rfl (Nat.le_succ _) rfl [_] rfl rfl (gx_35_ok p1) ?_
  rintro _ X2 ⟨w3, rfl, hR2⟩ hok2 hle2
  refine fx_qc hR2 ?_
  show fx_W _ _ _ 5 lv1 [.int w3] _ _
  refine fx_b0 (tgt := 17) aj_d34 rfl (Nat.le_succ _) rfl (fun q4 => ?_) (fun q4 => ?_)
  · skip
    refine fx_qi (c := (w3).toInt = 0) (fx_t_eq q4) ?_
    show fx_W _ _ _ 17 lv1 [] _ _
    refine fx_i2 aj_d34 rfl (Nat.le_succ _) (fun _ => rfl) hlv1_0 ?_
    refine fx_gF aj_d34 rfl (Nat.le_succ _) rfl rfl fx_in_3_1 (t := 82) rfl (fun hA5 => ?_)
    refine fx_n (pc' := 22) (lv' := lv1) (st' := [.int (Int32.ofInt 2), .ref 82]) aj_d34 rfl (Nat.le_succ _) (fun _ => rfl) ?_
    refine fx_i2 aj_d34 rfl (Nat.le_succ _) (fun _ => rfl) hlv1_0 ?_
    refine fx_gF aj_d34 rfl (Nat.le_succ _) rfl rfl fx_in_3_0 (t := 78) rfl (fun hA6 => ?_)
    refine fx_i2 aj_d34 rfl (Nat.le_succ _) (fun _ => rfl) hlv1_0 ?_
    refine fx_gI aj_d34 rfl (Nat.le_succ _) rfl rfl (Or.inl rfl) ?_
    refine fx_cv aj_d34 rfl (Nat.le_succ _) rfl [_] rfl rfl (gx_43_ok (X2.1 87 7)) ?_
    rintro _ X7 ⟨w8, rfl, hR7⟩ hok7 hle7
    refine fx_qc hR7 ?_
    show fx_W _ _ _ 33 lv1 [.int w8, .int (Int32.ofInt 2), .ref 82] _ _
    refine fx_cv aj_d34 rfl (Nat.le_succ _) rfl [_, _] rfl rfl (gx_44_ok (Int32.ofInt 2) w8) ?_
    rintro _ X9 ⟨w10, rfl, hR9⟩ hok9 hle9
    refine fx_qc hR9 ?_
    show fx_W _ _ _ 36 lv1 [] _ _
    exact fx_rn aj_d34 rfl ⟨(), rfl, 0, rfl⟩
  · skip
    refine fx_qe (c := (w3).toInt = 0) (fx_f_eq q4) ?_
    show fx_W _ _ _ 8 lv1 [] _ _
    refine fx_i2 aj_d34 rfl (Nat.le_succ _) (fun _ => rfl) hlv1_0 ?_
    refine fx_i0 aj_d34 rfl (Nat.le_succ _) (fun _ => rfl) hlv1_1 ?_
    refine fx_i0 aj_d34 rfl (Nat.le_succ _) (fun _ => rfl) hlv1_2 ?_
    refine fx_cv aj_d34 rfl (Nat.le_succ _) rfl [_, _] rfl rfl (gx_39_ok p1 p2) ?_
    rintro _ X11 ⟨w12, rfl, hR11⟩ hok11 hle11
    refine fx_qc hR11 ?_
    show fx_W _ _ _ 14 lv1 [] _ _
    refine fx_n (pc' := 36) (lv' := lv1) (st' := []) aj_d34 rfl (Nat.le_succ _) (fun _ => rfl) ?_
    exact fx_rn aj_d34 rfl ⟨(), rfl, 0, rfl⟩
def gxT_32_67 (p1 : Int32) (P : Nat → List Int32 → List Int64 → List Nat → fx_X → Unit → fx_X → Prop) (y2 : Int32) (X : fx_X) (v : Unit) (X' : fx_X) : Prop :=
  (if (y2).toInt < 1000000 then ((if 0 < ((X.1 87 5)).toInt then ((if ((X.1 82 5)).toInt = 0 then (∃ X22 : fx_X, X22 = (fx_wI X 87 5 ((X.1 87 5) - (Int32.ofInt 1))) ∧ (if ((X22.1 87 5)).toInt < 512 then ((0 ≤ ((X22.1 87 5)).toInt ∧ ((X22.1 87 5)).toInt < ((512 : Nat) : Int)) ∧ ∃ x44 : Int32, x44 = (X22.1 88 ((X22.1 87 5)).toInt.toNat) ∧ ∃ x46 : Int32, x46 = (x44 &&& ((Int16.ofInt 255).toInt32)) ∧ (if (x46).toInt < 170 then ((if (x46).toInt < 130 then (∃ (w51 : Unit) (X50 : fx_X), gx_55 x46 X22 w51 X50 ∧ ∃ x52 : Int32, x52 = y2 + Int32.ofInt 1 ∧ P 67 [x52] [] [] X50 v X') else (∃ (w55 : Unit) (X54 : fx_X), gx_45 x46 X22 w55 X54 ∧ ∃ x56 : Int32, x56 = y2 + Int32.ofInt 1 ∧ P 67 [x56] [] [] X54 v X'))) else (∃ (w59 : Unit) (X58 : fx_X), gx_34 x46 (x44 >>> (((Int8.ofInt 8).toInt32) &&& 31)) X22 w59 X58 ∧ ∃ x60 : Int32, x60 = y2 + Int32.ofInt 1 ∧ P 67 [x60] [] [] X58 v X'))) else (∃ x26 : Int32, x26 = ((Int32.ofInt 0) &&& ((Int16.ofInt 255).toInt32)) ∧ (if (x26).toInt < 170 then ((if (x26).toInt < 130 then (∃ (w31 : Unit) (X30 : fx_X), gx_55 x26 X22 w31 X30 ∧ ∃ x32 : Int32, x32 = y2 + Int32.ofInt 1 ∧ P 67 [x32] [] [] X30 v X') else (∃ (w35 : Unit) (X34 : fx_X), gx_45 x26 X22 w35 X34 ∧ ∃ x36 : Int32, x36 = y2 + Int32.ofInt 1 ∧ P 67 [x36] [] [] X34 v X'))) else (∃ (w39 : Unit) (X38 : fx_X), gx_34 x26 ((Int32.ofInt 0) >>> (((Int8.ofInt 8).toInt32) &&& 31)) X22 w39 X38 ∧ ∃ x40 : Int32, x40 = y2 + Int32.ofInt 1 ∧ P 67 [x40] [] [] X38 v X'))))) else (X' = X))) else (X' = X))) else (X' = X))
def gxE_32 (p1 : Int32) (P : Nat → List Int32 → List Int64 → List Nat → fx_X → Unit → fx_X → Prop) (X : fx_X) (v : Unit) (X' : fx_X) : Prop :=
  ∃ X2 : fx_X, X2 = (fx_wI X 87 6 (Int32.ofInt 0)) ∧ ∃ X3 : fx_X, X3 = (fx_wI X2 87 7 (Int32.ofInt 0)) ∧ ∃ X4 : fx_X, X4 = (fx_wI X3 87 8 (Int32.ofInt 0)) ∧ ∃ X5 : fx_X, X5 = (fx_wI X4 87 9 (Int32.ofInt 0)) ∧ ∃ X6 : fx_X, X6 = (fx_wI X5 87 10 (Int32.ofInt 0)) ∧ ∃ X7 : fx_X, X7 = (fx_wI X6 87 11 (Int32.ofInt 0)) ∧ ∃ X8 : fx_X, X8 = (fx_wI X7 87 12 (Int32.ofInt 0)) ∧ ∃ X9 : fx_X, X9 = (fx_wI X8 87 13 (Int32.ofInt 0)) ∧ ∃ X10 : fx_X, X10 = (fx_wI X9 87 14 (Int32.ofInt 0)) ∧ ∃ X11 : fx_X, X11 = (fx_wI X10 87 15 (Int32.ofInt (-1))) ∧ ∃ X12 : fx_X, X12 = (fx_wI X11 87 5 (Int32.ofInt 0)) ∧ ∃ (w14 : Unit) (X13 : fx_X), gx_33 (Int32.ofInt 1) X12 w14 X13 ∧ ∃ (w16 : Unit) (X15 : fx_X), gx_33 p1 X13 w16 X15 ∧ P 67 [(Int32.ofInt 0)] [] [] X15 v X'
noncomputable def gxF_32 (p1 : Int32) (n : Nat) : Nat → List Int32 → List Int64 → List Nat → fx_X → Unit → fx_X → Prop := Nat.rec (motive := fun _ => Nat → List Int32 → List Int64 → List Nat → fx_X → Unit → fx_X → Prop) (fun _ _ _ _ _ _ _ => False) (fun _ P l is ls rs X v X' => (l = 67 ∧ ∃ (y2 : Int32), is = [y2] ∧ ls = [] ∧ rs = [] ∧ gxT_32_67 p1 P y2 X v X')) n
theorem gxI_32_67 {p1 : Int32} {n : Nat} {y2 : Int32} {X : fx_X} {v : Unit} {X' : fx_X} (h : gxT_32_67 p1 (gxF_32 p1 n) y2 X v X') : gxF_32 p1 (n + 1) 67 [y2] [] [] X v X' := ⟨rfl, y2, rfl, rfl, rfl, h⟩
theorem gxO_32_67 {p1 : Int32} {n : Nat} {y2 : Int32} {X : fx_X} {v : Unit} {X' : fx_X} (h : gxF_32 p1 (n + 1) 67 [y2] [] [] X v X') : gxT_32_67 p1 (gxF_32 p1 n) y2 X v X' := by
  rcases h with ⟨-, _, e1, e2, e3, h⟩
  · cases e1; cases e2; cases e3; exact h
def gx_32 (p1 : Int32) (X : fx_X) (v : Unit) (X' : fx_X) : Prop := ∃ n : Nat, gxE_32 p1 (gxF_32 p1 n) X v X'
theorem gxL_32 {tb : aj_T} (p1 : Int32) : ∀ N : Nat, (∀ (lv : aj_V) (y2 : Int32) (X : fx_X), aj_lv lv 0 = some (.ref 87) → aj_lv lv 2 = some (.int y2) → fx_W tb aj_m32 N 67 lv [] X (fx_Q fx_qN (fun v X' => ∃ n : Nat, gxF_32 p1 n 67 [y2] [] [] X v X'))) := by
  intro N
  induction N with
  | zero => exact (by intros; exact fx_z)
  | succ N ih =>
    skip
    · intro lv y2 X hlv_0 hlv_2
      refine fx_mono (Q := fx_Q fx_qN (fun v X' => ∃ n : Nat, gxT_32_67 p1 (gxF_32 p1 n) y2 X v X')) (fun r X' ⟨v, e, n, z⟩ => ⟨v, e, n + 1, gxI_32_67 z⟩) ?_
      unfold gxT_32_67
      refine fx_i0 aj_d32 rfl (Nat.le_refl _) (fun _ => rfl) hlv_2 ?_
      refine fx_n (pc' := 70) (lv' := lv) (st' := [.int (Int32.ofInt 1000000), .int y2]) aj_d32 rfl (Nat.le_succ _) (fun _ => rfl) ?_
      refine fx_b (tgt := 183) aj_d32 rfl (Nat.le_succ _) rfl (fun q18 => ?_) (fun q18 => ?_)
      · skip
        refine fx_qe (c := (y2).toInt < 1000000) (fx_t_ge q18) ?_
        show fx_W _ _ _ 183 lv [] _ _
        exact fx_rn aj_d32 rfl ⟨(), rfl, 0, rfl⟩
      · skip
        refine fx_qi (c := (y2).toInt < 1000000) (fx_f_ge q18) ?_
        show fx_W _ _ _ 73 lv [] _ _
        refine fx_i2 aj_d32 rfl (Nat.le_succ _) (fun _ => rfl) hlv_0 ?_
        refine fx_gI aj_d32 rfl (Nat.le_succ _) rfl rfl (Or.inl rfl) ?_
        refine fx_b0 (tgt := 183) aj_d32 rfl (Nat.le_succ _) rfl (fun q19 => ?_) (fun q19 => ?_)
        · skip
          refine fx_qe (c := 0 < ((X.1 87 5)).toInt) (fx_t_le q19) ?_
          show fx_W _ _ _ 183 lv [] _ _
          exact fx_rn aj_d32 rfl ⟨(), rfl, 0, rfl⟩
        · skip
          refine fx_qi (c := 0 < ((X.1 87 5)).toInt) (fx_f_le q19) ?_
          show fx_W _ _ _ 80 lv [] _ _
          refine fx_i2 aj_d32 rfl (Nat.le_succ _) (fun _ => rfl) hlv_0 ?_
          refine fx_gF aj_d32 rfl (Nat.le_succ _) rfl rfl fx_in_3_1 (t := 82) rfl (fun hA20 => ?_)
          refine fx_gI aj_d32 rfl (Nat.le_succ _) rfl rfl (Or.inl rfl) ?_
          refine fx_b0 (tgt := 183) aj_d32 rfl (Nat.le_succ _) rfl (fun q21 => ?_) (fun q21 => ?_)
          · skip
            refine fx_qe (c := ((X.1 82 5)).toInt = 0) (fx_t_ne q21) ?_
            show fx_W _ _ _ 183 lv [] _ _
            exact fx_rn aj_d32 rfl ⟨(), rfl, 0, rfl⟩
          · skip
            refine fx_qi (c := ((X.1 82 5)).toInt = 0) (fx_f_ne q21) ?_
            show fx_W _ _ _ 90 lv [] _ _
            refine fx_i2 aj_d32 rfl (Nat.le_succ _) (fun _ => rfl) hlv_0 ?_
            refine fx_n (pc' := 92) (lv' := lv) (st' := [.ref 87, .ref 87]) aj_d32 rfl (Nat.le_succ _) (fun _ => rfl) ?_
            refine fx_gI aj_d32 rfl (Nat.le_succ _) rfl rfl (Or.inl rfl) ?_
            refine fx_n (pc' := 96) (lv' := lv) (st' := [.int (Int32.ofInt 1), .int (X.1 87 5), .ref 87]) aj_d32 rfl (Nat.le_succ _) (fun _ => rfl) ?_
            refine fx_n (pc' := 97) (lv' := lv) (st' := [.int ((X.1 87 5) - (Int32.ofInt 1)), .ref 87]) aj_d32 rfl (Nat.le_succ _) (fun _ => rfl) ?_
            refine fx_pI aj_d32 rfl (Nat.le_succ _) rfl rfl (Or.inl rfl) fx_no_3_5 (by decide) ?_
            refine fx_qX (fun X22 eX22 => ?_)
            show fx_W _ _ _ 100 lv [] _ _
            refine fx_i2 aj_d32 rfl (Nat.le_succ _) (fun _ => rfl) hlv_0 ?_
            refine fx_gI aj_d32 rfl (Nat.le_succ _) rfl rfl (Or.inl rfl) ?_
            refine fx_i2 aj_d32 rfl (Nat.le_succ _) (fun _ => rfl) hlv_0 ?_
            refine fx_gF aj_d32 rfl (Nat.le_succ _) rfl rfl fx_in_3_2 (t := 88) rfl (fun hA23 => ?_)
            refine fx_al aj_d32 rfl (Nat.le_succ _) ?_
            rw [(hA23 : X22.2.2.2.1 88 = (0, 512))]
            show fx_W _ _ _ 109 lv [.int (Int32.ofNat 512), .int (X22.1 87 5)] _ _
            refine fx_b (tgt := 124) aj_d32 rfl (Nat.le_succ _) rfl (fun q24 => ?_) (fun q24 => ?_)
            · skip
              refine fx_qe (c := ((X22.1 87 5)).toInt < 512) (fx_t_ge q24) ?_
              show fx_W _ _ _ 124 lv [] _ _
              refine fx_n (pc' := 125) (lv' := lv) (st' := [.int (Int32.ofInt 0)]) aj_d32 rfl (Nat.le_succ _) (fun _ => rfl) ?_
              refine fx_s0 (j := 3) aj_d32 rfl (Nat.le_succ _) (by decide) (fun _ => rfl) ?_
              obtain ⟨lv25, elv25⟩ : ∃ l, l = aj_set1 lv 3 (.int (Int32.ofInt 0)) := ⟨_, rfl⟩
              rw [← elv25]
              have hlv25_0 : aj_lv lv25 0 = some (.ref 87) := fx_e1 elv25 hlv_0 (by decide) (Or.inl (by decide))
              have hlv25_2 : aj_lv lv25 2 = some (.int y2) := fx_e1 elv25 hlv_2 (by decide) (Or.inr rfl)
              have hlv25_3 : aj_lv lv25 3 = some (.int (Int32.ofInt 0)) := by rw [elv25]; exact ak_set1_eq _ _ _
              show fx_W _ _ _ 126 lv25 [] _ _
              refine fx_i0 aj_d32 rfl (Nat.le_succ _) (fun _ => rfl) hlv25_3 ?_
              refine fx_n (pc' := 130) (lv' := lv25) (st' := [.int ((Int16.ofInt 255).toInt32), .int (Int32.ofInt 0)]) aj_d32 rfl (Nat.le_succ _) (fun _ => rfl) ?_
              refine fx_n (pc' := 131) (lv' := lv25) (st' := [.int ((Int32.ofInt 0) &&& ((Int16.ofInt 255).toInt32))]) aj_d32 rfl (Nat.le_succ _) (fun _ => rfl) ?_
              refine fx_qxI (fun x26 ex26 => ?_)
              refine fx_s0 (j := 4) aj_d32 rfl (Nat.le_succ _) (by decide) (fun _ => rfl) ?_
              obtain ⟨lv27, elv27⟩ : ∃ l, l = aj_set1 lv25 4 (.int x26) := ⟨_, rfl⟩
              rw [← elv27]
              have hlv27_0 : aj_lv lv27 0 = some (.ref 87) := fx_e1 elv27 hlv25_0 (by decide) (Or.inl (by decide))
              have hlv27_2 : aj_lv lv27 2 = some (.int y2) := fx_e1 elv27 hlv25_2 (by decide) (Or.inl (by decide))
              have hlv27_3 : aj_lv lv27 3 = some (.int (Int32.ofInt 0)) := fx_e1 elv27 hlv25_3 (by decide) (Or.inr rfl)
              have hlv27_4 : aj_lv lv27 4 = some (.int x26) := by rw [elv27]; exact ak_set1_eq _ _ _
              show fx_W _ _ _ 133 lv27 [] _ _
              refine fx_i0 aj_d32 rfl (Nat.le_succ _) (fun _ => rfl) hlv27_4 ?_
              refine fx_n (pc' := 138) (lv' := lv27) (st' := [.int ((Int16.ofInt 170).toInt32), .int x26]) aj_d32 rfl (Nat.le_succ _) (fun _ => rfl) ?_
              refine fx_b (tgt := 154) aj_d32 rfl (Nat.le_succ _) rfl (fun q28 => ?_) (fun q28 => ?_)
              · skip
                refine fx_qi (c := (x26).toInt < 170) (fx_t_lt q28) ?_
                show fx_W _ _ _ 154 lv27 [] _ _
                refine fx_i0 aj_d32 rfl (Nat.le_succ _) (fun _ => rfl) hlv27_4 ?_
                refine fx_n (pc' := 159) (lv' := lv27) (st' := [.int ((Int16.ofInt 130).toInt32), .int x26]) aj_d32 rfl (Nat.le_succ _) (fun _ => rfl) ?_
                refine fx_b (tgt := 171) aj_d32 rfl (Nat.le_succ _) rfl (fun q29 => ?_) (fun q29 => ?_)
                · skip
                  refine fx_qi (c := (x26).toInt < 130) (fx_t_lt q29) ?_
                  show fx_W _ _ _ 171 lv27 [] _ _
                  refine fx_i2 aj_d32 rfl (Nat.le_succ _) (fun _ => rfl) hlv27_0 ?_
                  refine fx_i0 aj_d32 rfl (Nat.le_succ _) (fun _ => rfl) hlv27_4 ?_
                  refine fx_cv aj_d32 rfl (Nat.le_succ _) rfl [_] rfl rfl (gx_55_ok x26) ?_
                  rintro _ X30 ⟨w31, rfl, hR30⟩ hok30 hle30
                  refine fx_qc hR30 ?_
                  show fx_W _ _ _ 177 lv27 [] _ _
                  refine fx_incq aj_d32 rfl (Nat.le_succ _) hlv27_2 (by decide) (fun x32 ex32 => ?_)
                  obtain ⟨lv33, elv33⟩ : ∃ l, l = aj_set1 lv27 2 (.int x32) := ⟨_, rfl⟩
                  rw [← elv33]
                  have hlv33_0 : aj_lv lv33 0 = some (.ref 87) := fx_e1 elv33 hlv27_0 (by decide) (Or.inl (by decide))
                  have hlv33_2 : aj_lv lv33 2 = some (.int x32) := by rw [elv33]; exact ak_set1_eq _ _ _
                  show fx_W _ _ _ 180 lv33 [] _ _
                  refine fx_n (pc' := 67) (lv' := lv33) (st' := []) aj_d32 rfl (Nat.le_succ _) (fun _ => rfl) ?_
                  exact (ih) lv33 (x32) X30  hlv33_0 hlv33_2
                · skip
                  refine fx_qe (c := (x26).toInt < 130) (fx_f_lt q29) ?_
                  show fx_W _ _ _ 162 lv27 [] _ _
                  refine fx_i2 aj_d32 rfl (Nat.le_succ _) (fun _ => rfl) hlv27_0 ?_
                  refine fx_i0 aj_d32 rfl (Nat.le_succ _) (fun _ => rfl) hlv27_4 ?_
                  refine fx_cv aj_d32 rfl (Nat.le_succ _) rfl [_] rfl rfl (gx_45_ok x26) ?_
                  rintro _ X34 ⟨w35, rfl, hR34⟩ hok34 hle34
                  refine fx_qc hR34 ?_
                  show fx_W _ _ _ 168 lv27 [] _ _
                  refine fx_n (pc' := 177) (lv' := lv27) (st' := []) aj_d32 rfl (Nat.le_succ _) (fun _ => rfl) ?_
                  refine fx_incq aj_d32 rfl (Nat.le_succ _) hlv27_2 (by decide) (fun x36 ex36 => ?_)
                  obtain ⟨lv37, elv37⟩ : ∃ l, l = aj_set1 lv27 2 (.int x36) := ⟨_, rfl⟩
                  rw [← elv37]
                  have hlv37_0 : aj_lv lv37 0 = some (.ref 87) := fx_e1 elv37 hlv27_0 (by decide) (Or.inl (by decide))
                  have hlv37_2 : aj_lv lv37 2 = some (.int x36) := by rw [elv37]; exact ak_set1_eq _ _ _
                  show fx_W _ _ _ 180 lv37 [] _ _
                  refine fx_n (pc' := 67) (lv' := lv37) (st' := []) aj_d32 rfl (Nat.le_succ _) (fun _ => rfl) ?_
                  exact (ih) lv37 (x36) X34  hlv37_0 hlv37_2
              · skip
                refine fx_qe (c := (x26).toInt < 170) (fx_f_lt q28) ?_
                show fx_W _ _ _ 141 lv27 [] _ _
                refine fx_i2 aj_d32 rfl (Nat.le_succ _) (fun _ => rfl) hlv27_0 ?_
                refine fx_i0 aj_d32 rfl (Nat.le_succ _) (fun _ => rfl) hlv27_4 ?_
                refine fx_i0 aj_d32 rfl (Nat.le_succ _) (fun _ => rfl) hlv27_3 ?_
                refine fx_n (pc' := 147) (lv' := lv27) (st' := [.int ((Int8.ofInt 8).toInt32), .int (Int32.ofInt 0), .int x26, .ref 87]) aj_d32 rfl (Nat.le_succ _) (fun _ => rfl) ?_
                refine fx_n (pc' := 148) (lv' := lv27) (st' := [.int ((Int32.ofInt 0) >>> (((Int8.ofInt 8).toInt32) &&& 31)), .int x26, .ref 87]) aj_d32 rfl (Nat.le_succ _) (fun _ => rfl) ?_
                refine fx_cv aj_d32 rfl (Nat.le_succ _) rfl [_, _] rfl rfl (gx_34_ok x26 ((Int32.ofInt 0) >>> (((Int8.ofInt 8).toInt32) &&& 31))) ?_
                rintro _ X38 ⟨w39, rfl, hR38⟩ hok38 hle38
                refine fx_qc hR38 ?_
                show fx_W _ _ _ 151 lv27 [] _ _
                refine fx_n (pc' := 177) (lv' := lv27) (st' := []) aj_d32 rfl (Nat.le_succ _) (fun _ => rfl) ?_
                refine fx_incq aj_d32 rfl (Nat.le_succ _) hlv27_2 (by decide) (fun x40 ex40 => ?_)
                obtain ⟨lv41, elv41⟩ : ∃ l, l = aj_set1 lv27 2 (.int x40) := ⟨_, rfl⟩
                rw [← elv41]
                have hlv41_0 : aj_lv lv41 0 = some (.ref 87) := fx_e1 elv41 hlv27_0 (by decide) (Or.inl (by decide))
                have hlv41_2 : aj_lv lv41 2 = some (.int x40) := by rw [elv41]; exact ak_set1_eq _ _ _
                show fx_W _ _ _ 180 lv41 [] _ _
                refine fx_n (pc' := 67) (lv' := lv41) (st' := []) aj_d32 rfl (Nat.le_succ _) (fun _ => rfl) ?_
                exact (ih) lv41 (x40) X38  hlv41_0 hlv41_2
            · skip
              refine fx_qi (c := ((X22.1 87 5)).toInt < 512) (fx_f_ge q24) ?_
              show fx_W _ _ _ 112 lv [] _ _
              refine fx_i2 aj_d32 rfl (Nat.le_succ _) (fun _ => rfl) hlv_0 ?_
              refine fx_gF aj_d32 rfl (Nat.le_succ _) rfl rfl fx_in_3_2 (t := 88) rfl (fun hA42 => ?_)
              refine fx_i2 aj_d32 rfl (Nat.le_succ _) (fun _ => rfl) hlv_0 ?_
              refine fx_gI aj_d32 rfl (Nat.le_succ _) rfl rfl (Or.inl rfl) ?_
              refine fx_ld aj_d32 (Or.inl rfl) rfl (Nat.le_succ _) (fun g430 g431 => ?_)
              show fx_W _ _ _ 121 lv [.int (X22.1 88 ((X22.1 87 5)).toInt.toNat)] _ _
              refine fx_qa (c := 0 ≤ ((X22.1 87 5)).toInt ∧ ((X22.1 87 5)).toInt < ((512 : Nat) : Int)) ⟨g430, fx_lnk g431 hA42⟩ ?_
              refine fx_n (pc' := 125) (lv' := lv) (st' := [.int (X22.1 88 ((X22.1 87 5)).toInt.toNat)]) aj_d32 rfl (Nat.le_succ _) (fun _ => rfl) ?_
              refine fx_qxI (fun x44 ex44 => ?_)
              refine fx_s0 (j := 3) aj_d32 rfl (Nat.le_succ _) (by decide) (fun _ => rfl) ?_
              obtain ⟨lv45, elv45⟩ : ∃ l, l = aj_set1 lv 3 (.int x44) := ⟨_, rfl⟩
              rw [← elv45]
              have hlv45_0 : aj_lv lv45 0 = some (.ref 87) := fx_e1 elv45 hlv_0 (by decide) (Or.inl (by decide))
              have hlv45_2 : aj_lv lv45 2 = some (.int y2) := fx_e1 elv45 hlv_2 (by decide) (Or.inr rfl)
              have hlv45_3 : aj_lv lv45 3 = some (.int x44) := by rw [elv45]; exact ak_set1_eq _ _ _
              show fx_W _ _ _ 126 lv45 [] _ _
              refine fx_i0 aj_d32 rfl (Nat.le_succ _) (fun _ => rfl) hlv45_3 ?_
              refine fx_n (pc' := 130) (lv' := lv45) (st' := [.int ((Int16.ofInt 255).toInt32), .int x44]) aj_d32 rfl (Nat.le_succ _) (fun _ => rfl) ?_
              refine fx_n (pc' := 131) (lv' := lv45) (st' := [.int (x44 &&& ((Int16.ofInt 255).toInt32))]) aj_d32 rfl (Nat.le_succ _) (fun _ => rfl) ?_
              refine fx_qxI (fun x46 ex46 => ?_)
              refine fx_s0 (j := 4) aj_d32 rfl (Nat.le_succ _) (by decide) (fun _ => rfl) ?_
              obtain ⟨lv47, elv47⟩ : ∃ l, l = aj_set1 lv45 4 (.int x46) := ⟨_, rfl⟩
              rw [← elv47]
              have hlv47_0 : aj_lv lv47 0 = some (.ref 87) := fx_e1 elv47 hlv45_0 (by decide) (Or.inl (by decide))
              have hlv47_2 : aj_lv lv47 2 = some (.int y2) := fx_e1 elv47 hlv45_2 (by decide) (Or.inl (by decide))
              have hlv47_3 : aj_lv lv47 3 = some (.int x44) := fx_e1 elv47 hlv45_3 (by decide) (Or.inr rfl)
              have hlv47_4 : aj_lv lv47 4 = some (.int x46) := by rw [elv47]; exact ak_set1_eq _ _ _
              show fx_W _ _ _ 133 lv47 [] _ _
              refine fx_i0 aj_d32 rfl (Nat.le_succ _) (fun _ => rfl) hlv47_4 ?_
              refine fx_n (pc' := 138) (lv' := lv47) (st' := [.int ((Int16.ofInt 170).toInt32), .int x46]) aj_d32 rfl (Nat.le_succ _) (fun _ => rfl) ?_
              refine fx_b (tgt := 154) aj_d32 rfl (Nat.le_succ _) rfl (fun q48 => ?_) (fun q48 => ?_)
              · skip
                refine fx_qi (c := (x46).toInt < 170) (fx_t_lt q48) ?_
                show fx_W _ _ _ 154 lv47 [] _ _
                refine fx_i0 aj_d32 rfl (Nat.le_succ _) (fun _ => rfl) hlv47_4 ?_
                refine fx_n (pc' := 159) (lv' := lv47) (st' := [.int ((Int16.ofInt 130).toInt32), .int x46]) aj_d32 rfl (Nat.le_succ _) (fun _ => rfl) ?_
                refine fx_b (tgt := 171) aj_d32 rfl (Nat.le_succ _) rfl (fun q49 => ?_) (fun q49 => ?_)
                · skip
                  refine fx_qi (c := (x46).toInt < 130) (fx_t_lt q49) ?_
                  show fx_W _ _ _ 171 lv47 [] _ _
                  refine fx_i2 aj_d32 rfl (Nat.le_succ _) (fun _ => rfl) hlv47_0 ?_
                  refine fx_i0 aj_d32 rfl (Nat.le_succ _) (fun _ => rfl) hlv47_4 ?_
                  refine fx_cv aj_d32 rfl (Nat.le_succ _) rfl [_] rfl rfl (gx_55_ok x46) ?_
                  rintro _ X50 ⟨w51, rfl, hR50⟩ hok50 hle50
                  refine fx_qc hR50 ?_
                  show fx_W _ _ _ 177 lv47 [] _ _
                  refine fx_incq aj_d32 rfl (Nat.le_succ _) hlv47_2 (by decide) (fun x52 ex52 => ?_)
                  obtain ⟨lv53, elv53⟩ : ∃ l, l = aj_set1 lv47 2 (.int x52) := ⟨_, rfl⟩
                  rw [← elv53]
                  have hlv53_0 : aj_lv lv53 0 = some (.ref 87) := fx_e1 elv53 hlv47_0 (by decide) (Or.inl (by decide))
                  have hlv53_2 : aj_lv lv53 2 = some (.int x52) := by rw [elv53]; exact ak_set1_eq _ _ _
                  show fx_W _ _ _ 180 lv53 [] _ _
                  refine fx_n (pc' := 67) (lv' := lv53) (st' := []) aj_d32 rfl (Nat.le_succ _) (fun _ => rfl) ?_
                  exact (ih) lv53 (x52) X50  hlv53_0 hlv53_2
                · skip
                  refine fx_qe (c := (x46).toInt < 130) (fx_f_lt q49) ?_
                  show fx_W _ _ _ 162 lv47 [] _ _
                  refine fx_i2 aj_d32 rfl (Nat.le_succ _) (fun _ => rfl) hlv47_0 ?_
                  refine fx_i0 aj_d32 rfl (Nat.le_succ _) (fun _ => rfl) hlv47_4 ?_
                  refine fx_cv aj_d32 rfl (Nat.le_succ _) rfl [_] rfl rfl (gx_45_ok x46) ?_
                  rintro _ X54 ⟨w55, rfl, hR54⟩ hok54 hle54
                  refine fx_qc hR54 ?_
                  show fx_W _ _ _ 168 lv47 [] _ _
                  refine fx_n (pc' := 177) (lv' := lv47) (st' := []) aj_d32 rfl (Nat.le_succ _) (fun _ => rfl) ?_
                  refine fx_incq aj_d32 rfl (Nat.le_succ _) hlv47_2 (by decide) (fun x56 ex56 => ?_)
                  obtain ⟨lv57, elv57⟩ : ∃ l, l = aj_set1 lv47 2 (.int x56) := ⟨_, rfl⟩
                  rw [← elv57]
                  have hlv57_0 : aj_lv lv57 0 = some (.ref 87) := fx_e1 elv57 hlv47_0 (by decide) (Or.inl (by decide))
                  have hlv57_2 : aj_lv lv57 2 = some (.int x56) := by rw [elv57]; exact ak_set1_eq _ _ _
                  show fx_W _ _ _ 180 lv57 [] _ _
                  refine fx_n (pc' := 67) (lv' := lv57) (st' := []) aj_d32 rfl (Nat.le_succ _) (fun _ => rfl) ?_
                  exact (ih) lv57 (x56) X54  hlv57_0 hlv57_2
              · skip
                refine fx_qe (c := (x46).toInt < 170) (fx_f_lt q48) ?_
                show fx_W _ _ _ 141 lv47 [] _ _
                refine fx_i2 aj_d32 rfl (Nat.le_succ _) (fun _ => rfl) hlv47_0 ?_
                refine fx_i0 aj_d32 rfl (Nat.le_succ _) (fun _ => rfl) hlv47_4 ?_
                refine fx_i0 aj_d32 rfl (Nat.le_succ _) (fun _ => rfl) hlv47_3 ?_
                refine fx_n (pc' := 147) (lv' := lv47) (st' := [.int ((Int8.ofInt 8).toInt32), .int x44, .int x46, .ref 87]) aj_d32 rfl (Nat.le_succ _) (fun _ => rfl) ?_
                refine fx_n (pc' := 148) (lv' := lv47) (st' := [.int (x44 >>> (((Int8.ofInt 8).toInt32) &&& 31)), .int x46, .ref 87]) aj_d32 rfl (Nat.le_succ _) (fun _ => rfl) ?_
                refine fx_cv aj_d32 rfl (Nat.le_succ _) rfl [_, _] rfl rfl (gx_34_ok x46 (x44 >>> (((Int8.ofInt 8).toInt32) &&& 31))) ?_
                rintro _ X58 ⟨w59, rfl, hR58⟩ hok58 hle58
                refine fx_qc hR58 ?_
                show fx_W _ _ _ 151 lv47 [] _ _
                refine fx_n (pc' := 177) (lv' := lv47) (st' := []) aj_d32 rfl (Nat.le_succ _) (fun _ => rfl) ?_
                refine fx_incq aj_d32 rfl (Nat.le_succ _) hlv47_2 (by decide) (fun x60 ex60 => ?_)
                obtain ⟨lv61, elv61⟩ : ∃ l, l = aj_set1 lv47 2 (.int x60) := ⟨_, rfl⟩
                rw [← elv61]
                have hlv61_0 : aj_lv lv61 0 = some (.ref 87) := fx_e1 elv61 hlv47_0 (by decide) (Or.inl (by decide))
                have hlv61_2 : aj_lv lv61 2 = some (.int x60) := by rw [elv61]; exact ak_set1_eq _ _ _
                show fx_W _ _ _ 180 lv61 [] _ _
                refine fx_n (pc' := 67) (lv' := lv61) (st' := []) aj_d32 rfl (Nat.le_succ _) (fun _ => rfl) ?_
                exact (ih) lv61 (x60) X58  hlv61_0 hlv61_2
theorem gx_32_ok {tb : aj_T} (p1 : Int32) {X : fx_X} : fx_K tb 32 [.ref 87, .int p1] X (fx_Q fx_qN (fun v X' => gx_32 p1 X v X')) := by
  refine fx_m aj_m32_at rfl (fun N => ?_)
  refine fx_mono (Q := fx_Q fx_qN (fun v X' => ∃ n : Nat, gxE_32 p1 (gxF_32 p1 n) X v X')) (fun r X' h => h) ?_
  unfold gxE_32
  show fx_W _ _ _ 0 [(0, .ref 87), (1, .int p1)] [] _ _
  obtain ⟨lv1, elv1⟩ : ∃ l : aj_V, l = [(0, .ref 87), (1, .int p1)] := ⟨_, rfl⟩
  rw [← elv1]
  have hlv1_0 : aj_lv lv1 0 = some (.ref 87) := by rw [elv1]; rfl
  have hlv1_1 : aj_lv lv1 1 = some (.int p1) := by rw [elv1]; rfl
  refine fx_i2 aj_d32 rfl (Nat.le_succ _) (fun _ => rfl) hlv1_0 ?_
  refine fx_n (pc' := 2) (lv' := lv1) (st' := [.int (Int32.ofInt 0), .ref 87]) aj_d32 rfl (Nat.le_succ _) (fun _ => rfl) ?_
  refine fx_pI aj_d32 rfl (Nat.le_succ _) rfl rfl (Or.inl rfl) fx_no_3_6 (by decide) ?_
  refine fx_qX (fun X2 eX2 => ?_)
  show fx_W _ _ _ 5 lv1 [] _ _
  refine fx_i2 aj_d32 rfl (Nat.le_succ _) (fun _ => rfl) hlv1_0 ?_
  refine fx_n (pc' := 7) (lv' := lv1) (st' := [.int (Int32.ofInt 0), .ref 87]) aj_d32 rfl (Nat.le_succ _) (fun _ => rfl) ?_
  refine fx_pI aj_d32 rfl (Nat.le_succ _) rfl rfl (Or.inl rfl) fx_no_3_7 (by decide) ?_
  refine fx_qX (fun X3 eX3 => ?_)
  show fx_W _ _ _ 10 lv1 [] _ _
  refine fx_i2 aj_d32 rfl (Nat.le_succ _) (fun _ => rfl) hlv1_0 ?_
  refine fx_n (pc' := 12) (lv' := lv1) (st' := [.int (Int32.ofInt 0), .ref 87]) aj_d32 rfl (Nat.le_succ _) (fun _ => rfl) ?_
  refine fx_pI aj_d32 rfl (Nat.le_succ _) rfl rfl (Or.inl rfl) fx_no_3_8 (by decide) ?_
  refine fx_qX (fun X4 eX4 => ?_)
  show fx_W _ _ _ 15 lv1 [] _ _
  refine fx_i2 aj_d32 rfl (Nat.le_succ _) (fun _ => rfl) hlv1_0 ?_
  refine fx_n (pc' := 17) (lv' := lv1) (st' := [.int (Int32.ofInt 0), .ref 87]) aj_d32 rfl (Nat.le_succ _) (fun _ => rfl) ?_
  refine fx_pI aj_d32 rfl (Nat.le_succ _) rfl rfl (Or.inl rfl) fx_no_3_9 (by decide) ?_
  refine fx_qX (fun X5 eX5 => ?_)
  show fx_W _ _ _ 20 lv1 [] _ _
  refine fx_i2 aj_d32 rfl (Nat.le_succ _) (fun _ => rfl) hlv1_0 ?_
  refine fx_n (pc' := 22) (lv' := lv1) (st' := [.int (Int32.ofInt 0), .ref 87]) aj_d32 rfl (Nat.le_succ _) (fun _ => rfl) ?_
  refine fx_pI aj_d32 rfl (Nat.le_succ _) rfl rfl (Or.inl rfl) fx_no_3_10 (by decide) ?_
  refine fx_qX (fun X6 eX6 => ?_)
  show fx_W _ _ _ 25 lv1 [] _ _
  refine fx_i2 aj_d32 rfl (Nat.le_succ _) (fun _ => rfl) hlv1_0 ?_
  refine fx_n (pc' := 27) (lv' := lv1) (st' := [.int (Int32.ofInt 0), .ref 87]) aj_d32 rfl (Nat.le_succ _) (fun _ => rfl) ?_
  refine fx_pI aj_d32 rfl (Nat.le_succ _) rfl rfl (Or.inl rfl) fx_no_3_11 (by decide) ?_
  refine fx_qX (fun X7 eX7 => ?_)
  show fx_W _ _ _ 30 lv1 [] _ _
  refine fx_i2 aj_d32 rfl (Nat.le_succ _) (fun _ => rfl) hlv1_0 ?_
  refine fx_n (pc' := 32) (lv' := lv1) (st' := [.int (Int32.ofInt 0), .ref 87]) aj_d32 rfl (Nat.le_succ _) (fun _ => rfl) ?_
  refine fx_pI aj_d32 rfl (Nat.le_succ _) rfl rfl (Or.inl rfl) fx_no_3_12 (by decide) ?_
  refine fx_qX (fun X8 eX8 => ?_)
  show fx_W _ _ _ 35 lv1 [] _ _
  refine fx_i2 aj_d32 rfl (Nat.le_succ _) (fun _ => rfl) hlv1_0 ?_
  refine fx_n (pc' := 37) (lv' := lv1) (st' := [.int (Int32.ofInt 0), .ref 87]) aj_d32 rfl (Nat.le_succ _) (fun _ => rfl) ?_
  refine fx_pI aj_d32 rfl (Nat.le_succ _) rfl rfl (Or.inl rfl) fx_no_3_13 (by decide) ?_
  refine fx_qX (fun X9 eX9 => ?_)
  show fx_W _ _ _ 40 lv1 [] _ _
  refine fx_i2 aj_d32 rfl (Nat.le_succ _) (fun _ => rfl) hlv1_0 ?_
  refine fx_n (pc' := 42) (lv' := lv1) (st' := [.int (Int32.ofInt 0), .ref 87]) aj_d32 rfl (Nat.le_succ _) (fun _ => rfl) ?_
  refine fx_pI aj_d32 rfl (Nat.le_succ _) rfl rfl (Or.inl rfl) fx_no_3_14 (by decide) ?_
  refine fx_qX (fun X10 eX10 => ?_)
  show fx_W _ _ _ 45 lv1 [] _ _
  refine fx_i2 aj_d32 rfl (Nat.le_succ _) (fun _ => rfl) hlv1_0 ?_
  refine fx_n (pc' := 47) (lv' := lv1) (st' := [.int (Int32.ofInt (-1)), .ref 87]) aj_d32 rfl (Nat.le_succ _) (fun _ => rfl) ?_
  refine fx_pI aj_d32 rfl (Nat.le_succ _) rfl rfl (Or.inl rfl) fx_no_3_15 (by decide) ?_
  refine fx_qX (fun X11 eX11 => ?_)
  show fx_W _ _ _ 50 lv1 [] _ _
  refine fx_i2 aj_d32 rfl (Nat.le_succ _) (fun _ => rfl) hlv1_0 ?_
  refine fx_n (pc' := 52) (lv' := lv1) (st' := [.int (Int32.ofInt 0), .ref 87]) aj_d32 rfl (Nat.le_succ _) (fun _ => rfl) ?_
  refine fx_pI aj_d32 rfl (Nat.le_succ _) rfl rfl (Or.inl rfl) fx_no_3_5 (by decide) ?_
  refine fx_qX (fun X12 eX12 => ?_)
  show fx_W _ _ _ 55 lv1 [] _ _
  refine fx_i2 aj_d32 rfl (Nat.le_succ _) (fun _ => rfl) hlv1_0 ?_
  refine fx_n (pc' := 57) (lv' := lv1) (st' := [.int (Int32.ofInt 1), .ref 87]) aj_d32 rfl (Nat.le_succ _) (fun _ => rfl) ?_
  refine fx_cv aj_d32 rfl (Nat.le_succ _) rfl [_] rfl rfl (gx_33_ok (Int32.ofInt 1)) ?_
  rintro _ X13 ⟨w14, rfl, hR13⟩ hok13 hle13
  refine fx_qc hR13 ?_
  show fx_W _ _ _ 60 lv1 [] _ _
  refine fx_i2 aj_d32 rfl (Nat.le_succ _) (fun _ => rfl) hlv1_0 ?_
  refine fx_i0 aj_d32 rfl (Nat.le_succ _) (fun _ => rfl) hlv1_1 ?_
  refine fx_cv aj_d32 rfl (Nat.le_succ _) rfl [_] rfl rfl (gx_33_ok p1) ?_
  rintro _ X15 ⟨w16, rfl, hR15⟩ hok15 hle15
  refine fx_qc hR15 ?_
  show fx_W _ _ _ 65 lv1 [] _ _
  refine fx_n (pc' := 66) (lv' := lv1) (st' := [.int (Int32.ofInt 0)]) aj_d32 rfl (Nat.le_succ _) (fun _ => rfl) ?_
  refine fx_s0 (j := 2) aj_d32 rfl (Nat.le_succ _) (by decide) (fun _ => rfl) ?_
  obtain ⟨lv17, elv17⟩ : ∃ l, l = aj_set1 lv1 2 (.int (Int32.ofInt 0)) := ⟨_, rfl⟩
  rw [← elv17]
  have hlv17_0 : aj_lv lv17 0 = some (.ref 87) := fx_e1 elv17 hlv1_0 (by decide) (Or.inl (by decide))
  have hlv17_2 : aj_lv lv17 2 = some (.int (Int32.ofInt 0)) := by rw [elv17]; exact ak_set1_eq _ _ _
  show fx_W _ _ _ 67 lv17 [] _ _
  exact ((gxL_32 p1 N)) lv17 ((Int32.ofInt 0)) X15  hlv17_0 hlv17_2
def gx_57 (p1 : Int32) (X : fx_X) (v : Int32) (X' : fx_X) : Prop :=
  (if (p1).toInt < 0 then (v = (Int32.ofInt 0) ∧ X' = X) else ((if (p1).toInt < 2500 then ((0 ≤ (p1).toInt ∧ (p1).toInt < ((2500 : Nat) : Int)) ∧ v = (X.1 83 (p1).toInt.toNat) ∧ X' = X) else (v = (Int32.ofInt 0) ∧ X' = X))))
theorem gx_57_ok {tb : aj_T} (p1 : Int32) {X : fx_X} : fx_K tb 57 [.ref 82, .int p1] X (fx_Q fx_qI (fun v X' => gx_57 p1 X v X')) := by
  refine fx_m aj_m57_at rfl (fun N => ?_)
  refine fx_mono (Q := fx_Q fx_qI (fun v X' => ∃ n : Nat, gx_57 p1 X v X')) (fun r X' ⟨v, e, _, z⟩ => ⟨v, e, z⟩) ?_
  unfold gx_57
  show fx_W _ _ _ 0 [(0, .ref 82), (1, .int p1)] [] _ _
  obtain ⟨lv1, elv1⟩ : ∃ l : aj_V, l = [(0, .ref 82), (1, .int p1)] := ⟨_, rfl⟩
  rw [← elv1]
  have hlv1_0 : aj_lv lv1 0 = some (.ref 82) := by rw [elv1]; rfl
  have hlv1_1 : aj_lv lv1 1 = some (.int p1) := by rw [elv1]; rfl
  refine fx_i0 aj_d57 rfl (Nat.le_succ _) (fun _ => rfl) hlv1_1 ?_
  refine fx_b0 (tgt := 22) aj_d57 rfl (Nat.le_succ _) rfl (fun q2 => ?_) (fun q2 => ?_)
  · skip
    refine fx_qi (c := (p1).toInt < 0) (fx_t_lt q2) ?_
    show fx_W _ _ _ 22 lv1 [] _ _
    refine fx_n (pc' := 23) (lv' := lv1) (st' := [.int (Int32.ofInt 0)]) aj_d57 rfl (Nat.le_succ _) (fun _ => rfl) ?_
    exact fx_ri aj_d57 rfl ⟨_, rfl, 0, rfl, rfl⟩
  · skip
    refine fx_qe (c := (p1).toInt < 0) (fx_f_lt q2) ?_
    show fx_W _ _ _ 4 lv1 [] _ _
    refine fx_i0 aj_d57 rfl (Nat.le_succ _) (fun _ => rfl) hlv1_1 ?_
    refine fx_i2 aj_d57 rfl (Nat.le_succ _) (fun _ => rfl) hlv1_0 ?_
    refine fx_gF aj_d57 rfl (Nat.le_succ _) rfl rfl fx_in_4_0 (t := 83) rfl (fun hA3 => ?_)
    refine fx_al aj_d57 rfl (Nat.le_succ _) ?_
    rw [(hA3 : X.2.2.2.1 83 = (0, 2500))]
    show fx_W _ _ _ 10 lv1 [.int (Int32.ofNat 2500), .int p1] _ _
    refine fx_b (tgt := 22) aj_d57 rfl (Nat.le_succ _) rfl (fun q4 => ?_) (fun q4 => ?_)
    · skip
      refine fx_qe (c := (p1).toInt < 2500) (fx_t_ge q4) ?_
      show fx_W _ _ _ 22 lv1 [] _ _
      refine fx_n (pc' := 23) (lv' := lv1) (st' := [.int (Int32.ofInt 0)]) aj_d57 rfl (Nat.le_succ _) (fun _ => rfl) ?_
      exact fx_ri aj_d57 rfl ⟨_, rfl, 0, rfl, rfl⟩
    · skip
      refine fx_qi (c := (p1).toInt < 2500) (fx_f_ge q4) ?_
      show fx_W _ _ _ 13 lv1 [] _ _
      refine fx_i2 aj_d57 rfl (Nat.le_succ _) (fun _ => rfl) hlv1_0 ?_
      refine fx_gF aj_d57 rfl (Nat.le_succ _) rfl rfl fx_in_4_0 (t := 83) rfl (fun hA5 => ?_)
      refine fx_i0 aj_d57 rfl (Nat.le_succ _) (fun _ => rfl) hlv1_1 ?_
      refine fx_ld aj_d57 (Or.inl rfl) rfl (Nat.le_succ _) (fun g60 g61 => ?_)
      show fx_W _ _ _ 19 lv1 [.int (X.1 83 (p1).toInt.toNat)] _ _
      refine fx_qa (c := 0 ≤ (p1).toInt ∧ (p1).toInt < ((2500 : Nat) : Int)) ⟨g60, fx_lnk g61 hA5⟩ ?_
      refine fx_n (pc' := 23) (lv' := lv1) (st' := [.int (X.1 83 (p1).toInt.toNat)]) aj_d57 rfl (Nat.le_succ _) (fun _ => rfl) ?_
      exact fx_ri aj_d57 rfl ⟨_, rfl, 0, rfl, rfl⟩
def gx_61 (p1 : Int32) (X : fx_X) (v : Int32) (X' : fx_X) : Prop :=
  (if (p1).toInt < 0 then (v = (Int32.ofInt 0) ∧ X' = X) else ((if (p1).toInt < 2500 then ((0 ≤ (p1).toInt ∧ (p1).toInt < ((2500 : Nat) : Int)) ∧ v = (X.1 84 (p1).toInt.toNat) ∧ X' = X) else (v = (Int32.ofInt 0) ∧ X' = X))))
theorem gx_61_ok {tb : aj_T} (p1 : Int32) {X : fx_X} : fx_K tb 61 [.ref 82, .int p1] X (fx_Q fx_qI (fun v X' => gx_61 p1 X v X')) := by
  refine fx_m aj_m61_at rfl (fun N => ?_)
  refine fx_mono (Q := fx_Q fx_qI (fun v X' => ∃ n : Nat, gx_61 p1 X v X')) (fun r X' ⟨v, e, _, z⟩ => ⟨v, e, z⟩) ?_
  unfold gx_61
  show fx_W _ _ _ 0 [(0, .ref 82), (1, .int p1)] [] _ _
  obtain ⟨lv1, elv1⟩ : ∃ l : aj_V, l = [(0, .ref 82), (1, .int p1)] := ⟨_, rfl⟩
  rw [← elv1]
  have hlv1_0 : aj_lv lv1 0 = some (.ref 82) := by rw [elv1]; rfl
  have hlv1_1 : aj_lv lv1 1 = some (.int p1) := by rw [elv1]; rfl
  refine fx_i0 aj_d61 rfl (Nat.le_succ _) (fun _ => rfl) hlv1_1 ?_
  refine fx_b0 (tgt := 22) aj_d61 rfl (Nat.le_succ _) rfl (fun q2 => ?_) (fun q2 => ?_)
  · skip
    refine fx_qi (c := (p1).toInt < 0) (fx_t_lt q2) ?_
    show fx_W _ _ _ 22 lv1 [] _ _
    refine fx_n (pc' := 23) (lv' := lv1) (st' := [.int (Int32.ofInt 0)]) aj_d61 rfl (Nat.le_succ _) (fun _ => rfl) ?_
    exact fx_ri aj_d61 rfl ⟨_, rfl, 0, rfl, rfl⟩
  · skip
    refine fx_qe (c := (p1).toInt < 0) (fx_f_lt q2) ?_
    show fx_W _ _ _ 4 lv1 [] _ _
    refine fx_i0 aj_d61 rfl (Nat.le_succ _) (fun _ => rfl) hlv1_1 ?_
    refine fx_i2 aj_d61 rfl (Nat.le_succ _) (fun _ => rfl) hlv1_0 ?_
    refine fx_gF aj_d61 rfl (Nat.le_succ _) rfl rfl fx_in_4_1 (t := 84) rfl (fun hA3 => ?_)
    refine fx_al aj_d61 rfl (Nat.le_succ _) ?_
    rw [(hA3 : X.2.2.2.1 84 = (0, 2500))]
    show fx_W _ _ _ 10 lv1 [.int (Int32.ofNat 2500), .int p1] _ _
    refine fx_b (tgt := 22) aj_d61 rfl (Nat.le_succ _) rfl (fun q4 => ?_) (fun q4 => ?_)
    · skip
      refine fx_qe (c := (p1).toInt < 2500) (fx_t_ge q4) ?_
      show fx_W _ _ _ 22 lv1 [] _ _
      refine fx_n (pc' := 23) (lv' := lv1) (st' := [.int (Int32.ofInt 0)]) aj_d61 rfl (Nat.le_succ _) (fun _ => rfl) ?_
      exact fx_ri aj_d61 rfl ⟨_, rfl, 0, rfl, rfl⟩
    · skip
      refine fx_qi (c := (p1).toInt < 2500) (fx_f_ge q4) ?_
      show fx_W _ _ _ 13 lv1 [] _ _
      refine fx_i2 aj_d61 rfl (Nat.le_succ _) (fun _ => rfl) hlv1_0 ?_
      refine fx_gF aj_d61 rfl (Nat.le_succ _) rfl rfl fx_in_4_1 (t := 84) rfl (fun hA5 => ?_)
      refine fx_i0 aj_d61 rfl (Nat.le_succ _) (fun _ => rfl) hlv1_1 ?_
      refine fx_ld aj_d61 (Or.inl rfl) rfl (Nat.le_succ _) (fun g60 g61 => ?_)
      show fx_W _ _ _ 19 lv1 [.int (X.1 84 (p1).toInt.toNat)] _ _
      refine fx_qa (c := 0 ≤ (p1).toInt ∧ (p1).toInt < ((2500 : Nat) : Int)) ⟨g60, fx_lnk g61 hA5⟩ ?_
      refine fx_n (pc' := 23) (lv' := lv1) (st' := [.int (X.1 84 (p1).toInt.toNat)]) aj_d61 rfl (Nat.le_succ _) (fun _ => rfl) ?_
      exact fx_ri aj_d61 rfl ⟨_, rfl, 0, rfl, rfl⟩
def gx_60 (p1 : Int32) (X : fx_X) (v : Int64) (X' : fx_X) : Prop :=
  ∃ (w5 : Int32) (X4 : fx_X), gx_61 p1 X w5 X4 ∧ ∃ (w7 : Int64) (X6 : fx_X), gx_37 w5 X4 w7 X6 ∧ v = w7 ∧ X' = X6
theorem gx_60_ok {tb : aj_T} (p1 : Int32) {X : fx_X} : fx_K tb 60 [.ref 91, .int p1] X (fx_Q fx_qL (fun v X' => gx_60 p1 X v X')) := by
  refine fx_m aj_m60_at rfl (fun N => ?_)
  refine fx_mono (Q := fx_Q fx_qL (fun v X' => ∃ n : Nat, gx_60 p1 X v X')) (fun r X' ⟨v, e, _, z⟩ => ⟨v, e, z⟩) ?_
  unfold gx_60
  show fx_W _ _ _ 0 [(0, .ref 91), (1, .int p1)] [] _ _
  obtain ⟨lv1, elv1⟩ : ∃ l : aj_V, l = [(0, .ref 91), (1, .int p1)] := ⟨_, rfl⟩
  rw [← elv1]
  have hlv1_0 : aj_lv lv1 0 = some (.ref 91) := by rw [elv1]; rfl
  have hlv1_1 : aj_lv lv1 1 = some (.int p1) := by rw [elv1]; rfl
  refine fx_i2 aj_d60 rfl (Nat.le_succ _) (fun _ => rfl) hlv1_0 ?_
  refine fx_gF aj_d60 rfl (Nat.le_succ _) rfl rfl fx_in_0_0 (t := 78) rfl (fun hA2 => ?_)
  refine fx_i2 aj_d60 rfl (Nat.le_succ _) (fun _ => rfl) hlv1_0 ?_
  refine fx_gF aj_d60 rfl (Nat.le_succ _) rfl rfl fx_in_0_1 (t := 82) rfl (fun hA3 => ?_)
  refine fx_i0 aj_d60 rfl (Nat.le_succ _) (fun _ => rfl) hlv1_1 ?_
  refine fx_cv aj_d60 rfl (Nat.le_succ _) rfl [_] rfl rfl (gx_61_ok p1) ?_
  rintro _ X4 ⟨w5, rfl, hR4⟩ hok4 hle4
  refine fx_qc hR4 ?_
  show fx_W _ _ _ 12 lv1 [.int w5, .ref 78] _ _
  refine fx_cv aj_d60 rfl (Nat.le_succ _) rfl [_] rfl rfl (gx_37_ok w5) ?_
  rintro _ X6 ⟨w7, rfl, hR6⟩ hok6 hle6
  refine fx_qc hR6 ?_
  show fx_W _ _ _ 15 lv1 [.long w7] _ _
  exact fx_rl aj_d60 rfl rfl ⟨_, rfl, 0, rfl, rfl⟩
def gxT_84_2 (p0 : Nat) (p1 : Int64) (P : Nat → List Int32 → List Int64 → List Nat → fx_X → Int32 → fx_X → Prop) (y3 : Int32) (X : fx_X) (v : Int32) (X' : fx_X) : Prop :=
  (if (y3).toInt < ((X.1 p0 11)).toInt then ((if (y3).toInt < 8 then ((0 ≤ (y3).toInt ∧ (y3).toInt < ((8 : Nat) : Int)) ∧ (if (X.2.1 (p0 + 1) (y3).toInt.toNat) = p1 then (v = y3 ∧ X' = X) else (∃ x9 : Int32, x9 = y3 + Int32.ofInt 1 ∧ P 2 [x9] [] [] X v X'))) else (v = (Int32.ofInt (-1)) ∧ X' = X))) else (v = (Int32.ofInt (-1)) ∧ X' = X))
def gxE_84 (p0 : Nat) (p1 : Int64) (P : Nat → List Int32 → List Int64 → List Nat → fx_X → Int32 → fx_X → Prop) (X : fx_X) (v : Int32) (X' : fx_X) : Prop :=
  P 2 [(Int32.ofInt 0)] [] [] X v X'
noncomputable def gxF_84 (p0 : Nat) (p1 : Int64) (n : Nat) : Nat → List Int32 → List Int64 → List Nat → fx_X → Int32 → fx_X → Prop := Nat.rec (motive := fun _ => Nat → List Int32 → List Int64 → List Nat → fx_X → Int32 → fx_X → Prop) (fun _ _ _ _ _ _ _ => False) (fun _ P l is ls rs X v X' => (l = 2 ∧ ∃ (y3 : Int32), is = [y3] ∧ ls = [] ∧ rs = [] ∧ gxT_84_2 p0 p1 P y3 X v X')) n
theorem gxI_84_2 {p0 : Nat} {p1 : Int64} {n : Nat} {y3 : Int32} {X : fx_X} {v : Int32} {X' : fx_X} (h : gxT_84_2 p0 p1 (gxF_84 p0 p1 n) y3 X v X') : gxF_84 p0 p1 (n + 1) 2 [y3] [] [] X v X' := ⟨rfl, y3, rfl, rfl, rfl, h⟩
theorem gxO_84_2 {p0 : Nat} {p1 : Int64} {n : Nat} {y3 : Int32} {X : fx_X} {v : Int32} {X' : fx_X} (h : gxF_84 p0 p1 (n + 1) 2 [y3] [] [] X v X') : gxT_84_2 p0 p1 (gxF_84 p0 p1 n) y3 X v X' := by
  rcases h with ⟨-, _, e1, e2, e3, h⟩
  · cases e1; cases e2; cases e3; exact h
def gx_84 (p0 : Nat) (p1 : Int64) (X : fx_X) (v : Int32) (X' : fx_X) : Prop := ∃ n : Nat, gxE_84 p0 p1 (gxF_84 p0 p1 n) X v X'
theorem gxL_84 {tb : aj_T} (p0 : Nat) (p1 : Int64) : ∀ N : Nat, (∀ (lv : aj_V) (y3 : Int32) (X : fx_X), aj_lv lv 0 = some (.ref p0) → aj_lv lv 1 = some (.long p1) → aj_lv lv 3 = some (.int y3) → fx_W tb aj_m84 N 2 lv [] X (fx_Q fx_qI (fun v X' => ∃ n : Nat, gxF_84 p0 p1 n 2 [y3] [] [] X v X'))) := by
  intro N
  induction N with
  | zero => exact (by intros; exact fx_z)
  | succ N ih =>
    skip
    · intro lv y3 X hlv_0 hlv_1 hlv_3
      refine fx_mono (Q := fx_Q fx_qI (fun v X' => ∃ n : Nat, gxT_84_2 p0 p1 (gxF_84 p0 p1 n) y3 X v X')) (fun r X' ⟨v, e, n, z⟩ => ⟨v, e, n + 1, gxI_84_2 z⟩) ?_
      unfold gxT_84_2
      refine fx_i0 aj_d84 rfl (Nat.le_refl _) (fun _ => rfl) hlv_3 ?_
      refine fx_i2 aj_d84 rfl (Nat.le_succ _) (fun _ => rfl) hlv_0 ?_
      refine fx_gI aj_d84 rfl (Nat.le_succ _) rfl rfl (Or.inl rfl) ?_
      refine fx_b (tgt := 38) aj_d84 rfl (Nat.le_succ _) rfl (fun q3 => ?_) (fun q3 => ?_)
      · skip
        refine fx_qe (c := (y3).toInt < ((X.1 p0 11)).toInt) (fx_t_ge q3) ?_
        show fx_W _ _ _ 38 lv [] _ _
        refine fx_n (pc' := 39) (lv' := lv) (st' := [.int (Int32.ofInt (-1))]) aj_d84 rfl (Nat.le_succ _) (fun _ => rfl) ?_
        exact fx_ri aj_d84 rfl ⟨_, rfl, 0, rfl, rfl⟩
      · skip
        refine fx_qi (c := (y3).toInt < ((X.1 p0 11)).toInt) (fx_f_ge q3) ?_
        show fx_W _ _ _ 10 lv [] _ _
        refine fx_i0 aj_d84 rfl (Nat.le_succ _) (fun _ => rfl) hlv_3 ?_
        refine fx_i2 aj_d84 rfl (Nat.le_succ _) (fun _ => rfl) hlv_0 ?_
        refine fx_gF aj_d84 rfl (Nat.le_succ _) rfl rfl fx_in_7_0 (t := (p0 + 1)) rfl (fun hA4 => ?_)
        refine fx_al aj_d84 rfl (Nat.le_succ _) ?_
        rw [(hA4 : X.2.2.2.1 (p0 + 1) = (1, 8))]
        show fx_W _ _ _ 16 lv [.int (Int32.ofNat 8), .int y3] _ _
        refine fx_b (tgt := 38) aj_d84 rfl (Nat.le_succ _) rfl (fun q5 => ?_) (fun q5 => ?_)
        · skip
          refine fx_qe (c := (y3).toInt < 8) (fx_t_ge q5) ?_
          show fx_W _ _ _ 38 lv [] _ _
          refine fx_n (pc' := 39) (lv' := lv) (st' := [.int (Int32.ofInt (-1))]) aj_d84 rfl (Nat.le_succ _) (fun _ => rfl) ?_
          exact fx_ri aj_d84 rfl ⟨_, rfl, 0, rfl, rfl⟩
        · skip
          refine fx_qi (c := (y3).toInt < 8) (fx_f_ge q5) ?_
          show fx_W _ _ _ 19 lv [] _ _
          refine fx_i2 aj_d84 rfl (Nat.le_succ _) (fun _ => rfl) hlv_0 ?_
          refine fx_gF aj_d84 rfl (Nat.le_succ _) rfl rfl fx_in_7_0 (t := (p0 + 1)) rfl (fun hA6 => ?_)
          refine fx_i0 aj_d84 rfl (Nat.le_succ _) (fun _ => rfl) hlv_3 ?_
          refine fx_ldL aj_d84 rfl (Nat.le_succ _) (fun g70 g71 => ?_)
          show fx_W _ _ _ 25 lv [.long (X.2.1 (p0 + 1) (y3).toInt.toNat)] _ _
          refine fx_qa (c := 0 ≤ (y3).toInt ∧ (y3).toInt < ((8 : Nat) : Int)) ⟨g70, fx_lnk g71 hA6⟩ ?_
          refine fx_i1 aj_d84 rfl (Nat.le_succ _) (fun _ => rfl) hlv_1 ?_
          refine fx_n (pc' := 27) (lv' := lv) (st' := [.int (lg_cmp (X.2.1 (p0 + 1) (y3).toInt.toNat) p1)]) aj_d84 rfl (Nat.le_succ _) (fun _ => rfl) ?_
          refine fx_b0 (tgt := 32) aj_d84 rfl (Nat.le_succ _) rfl (fun q8 => ?_) (fun q8 => ?_)
          · skip
            refine fx_qe (c := (X.2.1 (p0 + 1) (y3).toInt.toNat) = p1) (fun z => (fx_t_ne q8) (fx_lc.mpr z)) ?_
            show fx_W _ _ _ 32 lv [] _ _
            refine fx_incq aj_d84 rfl (Nat.le_succ _) hlv_3 (by decide) (fun x9 ex9 => ?_)
            obtain ⟨lv10, elv10⟩ : ∃ l, l = aj_set1 lv 3 (.int x9) := ⟨_, rfl⟩
            rw [← elv10]
            have hlv10_0 : aj_lv lv10 0 = some (.ref p0) := fx_e1 elv10 hlv_0 (by decide) (Or.inl (by decide))
            have hlv10_1 : aj_lv lv10 1 = some (.long p1) := fx_e1 elv10 hlv_1 (by decide) (Or.inl (by decide))
            have hlv10_3 : aj_lv lv10 3 = some (.int x9) := by rw [elv10]; exact ak_set1_eq _ _ _
            show fx_W _ _ _ 35 lv10 [] _ _
            refine fx_n (pc' := 2) (lv' := lv10) (st' := []) aj_d84 rfl (Nat.le_succ _) (fun _ => rfl) ?_
            exact (ih) lv10 (x9) X  hlv10_0 hlv10_1 hlv10_3
          · skip
            refine fx_qi (c := (X.2.1 (p0 + 1) (y3).toInt.toNat) = p1) (fx_lc.mp (fx_f_ne q8)) ?_
            show fx_W _ _ _ 30 lv [] _ _
            refine fx_i0 aj_d84 rfl (Nat.le_succ _) (fun _ => rfl) hlv_3 ?_
            exact fx_ri aj_d84 rfl ⟨_, rfl, 0, rfl, rfl⟩
theorem gx_84_ok {tb : aj_T} (p0 : Nat) (p1 : Int64) {X : fx_X} : fx_K tb 84 [.ref p0, .long p1] X (fx_Q fx_qI (fun v X' => gx_84 p0 p1 X v X')) := by
  refine fx_m aj_m84_at rfl (fun N => ?_)
  refine fx_mono (Q := fx_Q fx_qI (fun v X' => ∃ n : Nat, gxE_84 p0 p1 (gxF_84 p0 p1 n) X v X')) (fun r X' h => h) ?_
  unfold gxE_84
  show fx_W _ _ _ 0 [(0, .ref p0), (1, .long p1)] [] _ _
  obtain ⟨lv1, elv1⟩ : ∃ l : aj_V, l = [(0, .ref p0), (1, .long p1)] := ⟨_, rfl⟩
  rw [← elv1]
  have hlv1_0 : aj_lv lv1 0 = some (.ref p0) := by rw [elv1]; rfl
  have hlv1_1 : aj_lv lv1 1 = some (.long p1) := by rw [elv1]; rfl
  refine fx_n (pc' := 1) (lv' := lv1) (st' := [.int (Int32.ofInt 0)]) aj_d84 rfl (Nat.le_succ _) (fun _ => rfl) ?_
  refine fx_s0 (j := 3) aj_d84 rfl (Nat.le_succ _) (by decide) (fun _ => rfl) ?_
  obtain ⟨lv2, elv2⟩ : ∃ l, l = aj_set1 lv1 3 (.int (Int32.ofInt 0)) := ⟨_, rfl⟩
  rw [← elv2]
  have hlv2_0 : aj_lv lv2 0 = some (.ref p0) := fx_e1 elv2 hlv1_0 (by decide) (Or.inl (by decide))
  have hlv2_1 : aj_lv lv2 1 = some (.long p1) := fx_e1 elv2 hlv1_1 (by decide) (Or.inl (by decide))
  have hlv2_3 : aj_lv lv2 3 = some (.int (Int32.ofInt 0)) := by rw [elv2]; exact ak_set1_eq _ _ _
  show fx_W _ _ _ 2 lv2 [] _ _
  exact ((gxL_84 p0 p1 N)) lv2 ((Int32.ofInt 0)) X  hlv2_0 hlv2_1 hlv2_3
def gx_86 (p0 : Nat) (p1 : Int64) (X : fx_X) (v : Unit) (X' : fx_X) : Prop :=
  (if ((X.1 p0 11)).toInt < 8 then ((if ((X.1 p0 11)).toInt < 8 then ((0 ≤ ((X.1 p0 11)).toInt ∧ ((X.1 p0 11)).toInt < ((8 : Nat) : Int)) ∧ ∃ X8 : fx_X, X8 = (fx_wL X (p0 + 1) ((X.1 p0 11)).toInt.toNat p1) ∧ (0 ≤ ((X8.1 p0 11)).toInt ∧ ((X8.1 p0 11)).toInt < ((8 : Nat) : Int)) ∧ ∃ X11 : fx_X, X11 = (fx_wI X8 (p0 + 2) ((X8.1 p0 11)).toInt.toNat (Int32.ofInt 0)) ∧ X' = X11) else (X' = X))) else (X' = X))
theorem gx_86_ok {tb : aj_T} (p0 : Nat) (p1 : Int64) {X : fx_X} : fx_K tb 86 [.ref p0, .long p1] X (fx_Q fx_qN (fun v X' => gx_86 p0 p1 X v X')) := by
  refine fx_m aj_m86_at rfl (fun N => ?_)
  refine fx_mono (Q := fx_Q fx_qN (fun v X' => ∃ n : Nat, gx_86 p0 p1 X v X')) (fun r X' ⟨v, e, _, z⟩ => ⟨v, e, z⟩) ?_
  unfold gx_86
  show fx_W _ _ _ 0 [(0, .ref p0), (1, .long p1)] [] _ _
  obtain ⟨lv1, elv1⟩ : ∃ l : aj_V, l = [(0, .ref p0), (1, .long p1)] := ⟨_, rfl⟩
  rw [← elv1]
  have hlv1_0 : aj_lv lv1 0 = some (.ref p0) := by rw [elv1]; rfl
  have hlv1_1 : aj_lv lv1 1 = some (.long p1) := by rw [elv1]; rfl
  refine fx_i2 aj_d86 rfl (Nat.le_succ _) (fun _ => rfl) hlv1_0 ?_
  refine fx_gI aj_d86 rfl (Nat.le_succ _) rfl rfl (Or.inl rfl) ?_
  refine fx_i2 aj_d86 rfl (Nat.le_succ _) (fun _ => rfl) hlv1_0 ?_
  refine fx_gF aj_d86 rfl (Nat.le_succ _) rfl rfl fx_in_7_0 (t := (p0 + 1)) rfl (fun hA2 => ?_)
  refine fx_al aj_d86 rfl (Nat.le_succ _) ?_
  rw [(hA2 : X.2.2.2.1 (p0 + 1) = (1, 8))]
  show fx_W _ _ _ 9 lv1 [.int (Int32.ofNat 8), .int (X.1 p0 11)] _ _
  refine fx_b (tgt := 44) aj_d86 rfl (Nat.le_succ _) rfl (fun q3 => ?_) (fun q3 => ?_)
  · skip
    refine fx_qe (c := ((X.1 p0 11)).toInt < 8) (fx_t_ge q3) ?_
    show fx_W _ _ _ 44 lv1 [] _ _
    exact fx_rn aj_d86 rfl ⟨(), rfl, 0, rfl⟩
  · skip
    refine fx_qi (c := ((X.1 p0 11)).toInt < 8) (fx_f_ge q3) ?_
    show fx_W _ _ _ 12 lv1 [] _ _
    refine fx_i2 aj_d86 rfl (Nat.le_succ _) (fun _ => rfl) hlv1_0 ?_
    refine fx_gI aj_d86 rfl (Nat.le_succ _) rfl rfl (Or.inl rfl) ?_
    refine fx_i2 aj_d86 rfl (Nat.le_succ _) (fun _ => rfl) hlv1_0 ?_
    refine fx_gF aj_d86 rfl (Nat.le_succ _) rfl rfl fx_in_7_1 (t := (p0 + 2)) rfl (fun hA4 => ?_)
    refine fx_al aj_d86 rfl (Nat.le_succ _) ?_
    rw [(hA4 : X.2.2.2.1 (p0 + 2) = (0, 8))]
    show fx_W _ _ _ 21 lv1 [.int (Int32.ofNat 8), .int (X.1 p0 11)] _ _
    refine fx_b (tgt := 44) aj_d86 rfl (Nat.le_succ _) rfl (fun q5 => ?_) (fun q5 => ?_)
    · skip
      refine fx_qe (c := ((X.1 p0 11)).toInt < 8) (fx_t_ge q5) ?_
      show fx_W _ _ _ 44 lv1 [] _ _
      exact fx_rn aj_d86 rfl ⟨(), rfl, 0, rfl⟩
    · skip
      refine fx_qi (c := ((X.1 p0 11)).toInt < 8) (fx_f_ge q5) ?_
      show fx_W _ _ _ 24 lv1 [] _ _
      refine fx_i2 aj_d86 rfl (Nat.le_succ _) (fun _ => rfl) hlv1_0 ?_
      refine fx_gF aj_d86 rfl (Nat.le_succ _) rfl rfl fx_in_7_0 (t := (p0 + 1)) rfl (fun hA6 => ?_)
      refine fx_i2 aj_d86 rfl (Nat.le_succ _) (fun _ => rfl) hlv1_0 ?_
      refine fx_gI aj_d86 rfl (Nat.le_succ _) rfl rfl (Or.inl rfl) ?_
      refine fx_i1 aj_d86 rfl (Nat.le_succ _) (fun _ => rfl) hlv1_1 ?_
      refine fx_sL aj_d86 rfl (Nat.le_succ _) (fun g70 g71 => ?_)
      refine fx_qa (c := 0 ≤ ((X.1 p0 11)).toInt ∧ ((X.1 p0 11)).toInt < ((8 : Nat) : Int)) ⟨g70, fx_lnk g71 hA6⟩ ?_
      refine fx_qX (fun X8 eX8 => ?_)
      show fx_W _ _ _ 34 lv1 [] _ _
      refine fx_i2 aj_d86 rfl (Nat.le_succ _) (fun _ => rfl) hlv1_0 ?_
      refine fx_gF aj_d86 rfl (Nat.le_succ _) rfl rfl fx_in_7_1 (t := (p0 + 2)) rfl (fun hA9 => ?_)
      refine fx_i2 aj_d86 rfl (Nat.le_succ _) (fun _ => rfl) hlv1_0 ?_
      refine fx_gI aj_d86 rfl (Nat.le_succ _) rfl rfl (Or.inl rfl) ?_
      refine fx_n (pc' := 43) (lv' := lv1) (st' := [.int (Int32.ofInt 0), .int (X8.1 p0 11), .ref (p0 + 2)]) aj_d86 rfl (Nat.le_succ _) (fun _ => rfl) ?_
      refine fx_st aj_d86 (Or.inl ⟨rfl, rfl⟩) rfl (Nat.le_succ _) (fun g100 g101 => ?_)
      show fx_W _ _ _ _ _ _ (fx_wI X8 (p0 + 2) ((X8.1 p0 11)).toInt.toNat (Int32.ofInt 0)) _
      refine fx_qa (c := 0 ≤ ((X8.1 p0 11)).toInt ∧ ((X8.1 p0 11)).toInt < ((8 : Nat) : Int)) ⟨g100, fx_lnk g101 hA9⟩ ?_
      refine fx_qX (fun X11 eX11 => ?_)
      show fx_W _ _ _ 44 lv1 [] _ _
      exact fx_rn aj_d86 rfl ⟨(), rfl, 0, rfl⟩
def gx_64 (p1 : Int32) (p2 : Int32) (X : fx_X) (v : Unit) (X' : fx_X) : Prop :=
  ∃ (w6 : Int32) (X5 : fx_X), gx_61 p2 X w6 X5 ∧ ∃ (w8 : Int32) (X7 : fx_X), gx_43 w6 X5 w8 X7 ∧ ∃ (w10 : Unit) (X9 : fx_X), gx_44 p1 w8 X7 w10 X9 ∧ X' = X9
theorem gx_64_ok {tb : aj_T} (p1 : Int32) (p2 : Int32) {X : fx_X} : fx_K tb 64 [.ref 91, .int p1, .int p2] X (fx_Q fx_qN (fun v X' => gx_64 p1 p2 X v X')) := by
  refine fx_m aj_m64_at rfl (fun N => ?_)
  refine fx_mono (Q := fx_Q fx_qN (fun v X' => ∃ n : Nat, gx_64 p1 p2 X v X')) (fun r X' ⟨v, e, _, z⟩ => ⟨v, e, z⟩) ?_
  unfold gx_64
  show fx_W _ _ _ 0 [(0, .ref 91), (1, .int p1), (2, .int p2)] [] _ _
  obtain ⟨lv1, elv1⟩ : ∃ l : aj_V, l = [(0, .ref 91), (1, .int p1), (2, .int p2)] := ⟨_, rfl⟩
  rw [← elv1]
  have hlv1_0 : aj_lv lv1 0 = some (.ref 91) := by rw [elv1]; rfl
  have hlv1_1 : aj_lv lv1 1 = some (.int p1) := by rw [elv1]; rfl
  have hlv1_2 : aj_lv lv1 2 = some (.int p2) := by rw [elv1]; rfl
  refine fx_i2 aj_d64 rfl (Nat.le_succ _) (fun _ => rfl) hlv1_0 ?_
  refine fx_gF aj_d64 rfl (Nat.le_succ _) rfl rfl fx_in_0_1 (t := 82) rfl (fun hA2 => ?_)
  refine fx_i0 aj_d64 rfl (Nat.le_succ _) (fun _ => rfl) hlv1_1 ?_
  refine fx_i2 aj_d64 rfl (Nat.le_succ _) (fun _ => rfl) hlv1_0 ?_
  refine fx_gF aj_d64 rfl (Nat.le_succ _) rfl rfl fx_in_0_0 (t := 78) rfl (fun hA3 => ?_)
  refine fx_i2 aj_d64 rfl (Nat.le_succ _) (fun _ => rfl) hlv1_0 ?_
  refine fx_gF aj_d64 rfl (Nat.le_succ _) rfl rfl fx_in_0_1 (t := 82) rfl (fun hA4 => ?_)
  refine fx_i0 aj_d64 rfl (Nat.le_succ _) (fun _ => rfl) hlv1_2 ?_
  refine fx_cv aj_d64 rfl (Nat.le_succ _) rfl [_] rfl rfl (gx_61_ok p2) ?_
  rintro _ X5 ⟨w6, rfl, hR5⟩ hok5 hle5
  refine fx_qc hR5 ?_
  show fx_W _ _ _ 17 lv1 [.int w6, .ref 78, .int p1, .ref 82] _ _
  refine fx_cv aj_d64 rfl (Nat.le_succ _) rfl [_] rfl rfl (gx_43_ok w6) ?_
  rintro _ X7 ⟨w8, rfl, hR7⟩ hok7 hle7
  refine fx_qc hR7 ?_
  show fx_W _ _ _ 20 lv1 [.int w8, .int p1, .ref 82] _ _
  refine fx_cv aj_d64 rfl (Nat.le_succ _) rfl [_, _] rfl rfl (gx_44_ok p1 w8) ?_
  rintro _ X9 ⟨w10, rfl, hR9⟩ hok9 hle9
  refine fx_qc hR9 ?_
  show fx_W _ _ _ 23 lv1 [] _ _
  exact fx_rn aj_d64 rfl ⟨(), rfl, 0, rfl⟩
def gx_83 (p1 : Int32) (X : fx_X) (v : Int32) (X' : fx_X) : Prop :=
  (if (p1).toInt < 0 then (v = (Int32.ofInt 0) ∧ X' = X) else ((if ((p1 + (Int32.ofInt 1))).toInt < 1002 then ((if ((p1 + (Int32.ofInt 1))).toInt < 1002 then ((0 ≤ (p1).toInt ∧ (p1).toInt < ((1002 : Nat) : Int)) ∧ (if ((X.1 79 (p1).toInt.toNat)).toInt = 45 then ((0 ≤ ((p1 + (Int32.ofInt 1))).toInt ∧ ((p1 + (Int32.ofInt 1))).toInt < ((1002 : Nat) : Int)) ∧ v = ((((-(X.2.1 81 ((p1 + (Int32.ofInt 1))).toInt.toNat)))).toInt32) ∧ X' = X) else ((0 ≤ (p1).toInt ∧ (p1).toInt < ((1002 : Nat) : Int)) ∧ v = (((X.2.1 81 (p1).toInt.toNat)).toInt32) ∧ X' = X))) else (v = (Int32.ofInt 0) ∧ X' = X))) else (v = (Int32.ofInt 0) ∧ X' = X))))
theorem gx_83_ok {tb : aj_T} (p1 : Int32) {X : fx_X} : fx_K tb 83 [.ref 78, .int p1] X (fx_Q fx_qI (fun v X' => gx_83 p1 X v X')) := by
  refine fx_m aj_m83_at rfl (fun N => ?_)
  refine fx_mono (Q := fx_Q fx_qI (fun v X' => ∃ n : Nat, gx_83 p1 X v X')) (fun r X' ⟨v, e, _, z⟩ => ⟨v, e, z⟩) ?_
  unfold gx_83
  show fx_W _ _ _ 0 [(0, .ref 78), (1, .int p1)] [] _ _
  obtain ⟨lv1, elv1⟩ : ∃ l : aj_V, l = [(0, .ref 78), (1, .int p1)] := ⟨_, rfl⟩
  rw [← elv1]
  have hlv1_0 : aj_lv lv1 0 = some (.ref 78) := by rw [elv1]; rfl
  have hlv1_1 : aj_lv lv1 1 = some (.int p1) := by rw [elv1]; rfl
  refine fx_i0 aj_d83 rfl (Nat.le_succ _) (fun _ => rfl) hlv1_1 ?_
  refine fx_b0 (tgt := 26) aj_d83 rfl (Nat.le_succ _) rfl (fun q2 => ?_) (fun q2 => ?_)
  · skip
    refine fx_qi (c := (p1).toInt < 0) (fx_t_lt q2) ?_
    show fx_W _ _ _ 26 lv1 [] _ _
    refine fx_n (pc' := 27) (lv' := lv1) (st' := [.int (Int32.ofInt 0)]) aj_d83 rfl (Nat.le_succ _) (fun _ => rfl) ?_
    exact fx_ri aj_d83 rfl ⟨_, rfl, 0, rfl, rfl⟩
  · skip
    refine fx_qe (c := (p1).toInt < 0) (fx_f_lt q2) ?_
    show fx_W _ _ _ 4 lv1 [] _ _
    refine fx_i0 aj_d83 rfl (Nat.le_succ _) (fun _ => rfl) hlv1_1 ?_
    refine fx_n (pc' := 6) (lv' := lv1) (st' := [.int (Int32.ofInt 1), .int p1]) aj_d83 rfl (Nat.le_succ _) (fun _ => rfl) ?_
    refine fx_n (pc' := 7) (lv' := lv1) (st' := [.int (p1 + (Int32.ofInt 1))]) aj_d83 rfl (Nat.le_succ _) (fun _ => rfl) ?_
    refine fx_i2 aj_d83 rfl (Nat.le_succ _) (fun _ => rfl) hlv1_0 ?_
    refine fx_gF aj_d83 rfl (Nat.le_succ _) rfl rfl fx_in_8_0 (t := 79) rfl (fun hA3 => ?_)
    refine fx_al aj_d83 rfl (Nat.le_succ _) ?_
    rw [(hA3 : X.2.2.2.1 79 = (0, 1002))]
    show fx_W _ _ _ 12 lv1 [.int (Int32.ofNat 1002), .int (p1 + (Int32.ofInt 1))] _ _
    refine fx_b (tgt := 26) aj_d83 rfl (Nat.le_succ _) rfl (fun q4 => ?_) (fun q4 => ?_)
    · skip
      refine fx_qe (c := ((p1 + (Int32.ofInt 1))).toInt < 1002) (fx_t_ge q4) ?_
      show fx_W _ _ _ 26 lv1 [] _ _
      refine fx_n (pc' := 27) (lv' := lv1) (st' := [.int (Int32.ofInt 0)]) aj_d83 rfl (Nat.le_succ _) (fun _ => rfl) ?_
      exact fx_ri aj_d83 rfl ⟨_, rfl, 0, rfl, rfl⟩
    · skip
      refine fx_qi (c := ((p1 + (Int32.ofInt 1))).toInt < 1002) (fx_f_ge q4) ?_
      show fx_W _ _ _ 15 lv1 [] _ _
      refine fx_i0 aj_d83 rfl (Nat.le_succ _) (fun _ => rfl) hlv1_1 ?_
      refine fx_n (pc' := 17) (lv' := lv1) (st' := [.int (Int32.ofInt 1), .int p1]) aj_d83 rfl (Nat.le_succ _) (fun _ => rfl) ?_
      refine fx_n (pc' := 18) (lv' := lv1) (st' := [.int (p1 + (Int32.ofInt 1))]) aj_d83 rfl (Nat.le_succ _) (fun _ => rfl) ?_
      refine fx_i2 aj_d83 rfl (Nat.le_succ _) (fun _ => rfl) hlv1_0 ?_
      refine fx_gF aj_d83 rfl (Nat.le_succ _) rfl rfl fx_in_8_2 (t := 81) rfl (fun hA5 => ?_)
      refine fx_al aj_d83 rfl (Nat.le_succ _) ?_
      rw [(hA5 : X.2.2.2.1 81 = (1, 1002))]
      show fx_W _ _ _ 23 lv1 [.int (Int32.ofNat 1002), .int (p1 + (Int32.ofInt 1))] _ _
      refine fx_b (tgt := 28) aj_d83 rfl (Nat.le_succ _) rfl (fun q6 => ?_) (fun q6 => ?_)
      · skip
        refine fx_qi (c := ((p1 + (Int32.ofInt 1))).toInt < 1002) (fx_t_lt q6) ?_
        show fx_W _ _ _ 28 lv1 [] _ _
        refine fx_i2 aj_d83 rfl (Nat.le_succ _) (fun _ => rfl) hlv1_0 ?_
        refine fx_gF aj_d83 rfl (Nat.le_succ _) rfl rfl fx_in_8_0 (t := 79) rfl (fun hA7 => ?_)
        refine fx_i0 aj_d83 rfl (Nat.le_succ _) (fun _ => rfl) hlv1_1 ?_
        refine fx_ld aj_d83 (Or.inl rfl) rfl (Nat.le_succ _) (fun g80 g81 => ?_)
        show fx_W _ _ _ 34 lv1 [.int (X.1 79 (p1).toInt.toNat)] _ _
        refine fx_qa (c := 0 ≤ (p1).toInt ∧ (p1).toInt < ((1002 : Nat) : Int)) ⟨g80, fx_lnk g81 hA7⟩ ?_
        refine fx_n (pc' := 36) (lv' := lv1) (st' := [.int ((Int8.ofInt 45).toInt32), .int (X.1 79 (p1).toInt.toNat)]) aj_d83 rfl (Nat.le_succ _) (fun _ => rfl) ?_
        refine fx_b (tgt := 52) aj_d83 rfl (Nat.le_succ _) rfl (fun q9 => ?_) (fun q9 => ?_)
        · skip
          refine fx_qe (c := ((X.1 79 (p1).toInt.toNat)).toInt = 45) (fx_t_ne q9) ?_
          show fx_W _ _ _ 52 lv1 [] _ _
          refine fx_i2 aj_d83 rfl (Nat.le_succ _) (fun _ => rfl) hlv1_0 ?_
          refine fx_gF aj_d83 rfl (Nat.le_succ _) rfl rfl fx_in_8_2 (t := 81) rfl (fun hA10 => ?_)
          refine fx_i0 aj_d83 rfl (Nat.le_succ _) (fun _ => rfl) hlv1_1 ?_
          refine fx_ldL aj_d83 rfl (Nat.le_succ _) (fun g110 g111 => ?_)
          show fx_W _ _ _ 58 lv1 [.long (X.2.1 81 (p1).toInt.toNat)] _ _
          refine fx_qa (c := 0 ≤ (p1).toInt ∧ (p1).toInt < ((1002 : Nat) : Int)) ⟨g110, fx_lnk g111 hA10⟩ ?_
          refine fx_n (pc' := 59) (lv' := lv1) (st' := [.int (((X.2.1 81 (p1).toInt.toNat)).toInt32)]) aj_d83 rfl (Nat.le_succ _) (fun _ => rfl) ?_
          exact fx_ri aj_d83 rfl ⟨_, rfl, 0, rfl, rfl⟩
        · skip
          refine fx_qi (c := ((X.1 79 (p1).toInt.toNat)).toInt = 45) (fx_f_ne q9) ?_
          show fx_W _ _ _ 39 lv1 [] _ _
          refine fx_i2 aj_d83 rfl (Nat.le_succ _) (fun _ => rfl) hlv1_0 ?_
          refine fx_gF aj_d83 rfl (Nat.le_succ _) rfl rfl fx_in_8_2 (t := 81) rfl (fun hA12 => ?_)
          refine fx_i0 aj_d83 rfl (Nat.le_succ _) (fun _ => rfl) hlv1_1 ?_
          refine fx_n (pc' := 45) (lv' := lv1) (st' := [.int (Int32.ofInt 1), .int p1, .ref 81]) aj_d83 rfl (Nat.le_succ _) (fun _ => rfl) ?_
          refine fx_n (pc' := 46) (lv' := lv1) (st' := [.int (p1 + (Int32.ofInt 1)), .ref 81]) aj_d83 rfl (Nat.le_succ _) (fun _ => rfl) ?_
          refine fx_ldL aj_d83 rfl (Nat.le_succ _) (fun g130 g131 => ?_)
          show fx_W _ _ _ 47 lv1 [.long (X.2.1 81 ((p1 + (Int32.ofInt 1))).toInt.toNat)] _ _
          refine fx_qa (c := 0 ≤ ((p1 + (Int32.ofInt 1))).toInt ∧ ((p1 + (Int32.ofInt 1))).toInt < ((1002 : Nat) : Int)) ⟨g130, fx_lnk g131 hA12⟩ ?_
          refine fx_n (pc' := 48) (lv' := lv1) (st' := [.long ((-(X.2.1 81 ((p1 + (Int32.ofInt 1))).toInt.toNat)))]) aj_d83 rfl (Nat.le_succ _) (fun _ => rfl) ?_
          refine fx_n (pc' := 49) (lv' := lv1) (st' := [.int ((((-(X.2.1 81 ((p1 + (Int32.ofInt 1))).toInt.toNat)))).toInt32)]) aj_d83 rfl (Nat.le_succ _) (fun _ => rfl) ?_
          refine fx_n (pc' := 59) (lv' := lv1) (st' := [.int ((((-(X.2.1 81 ((p1 + (Int32.ofInt 1))).toInt.toNat)))).toInt32)]) aj_d83 rfl (Nat.le_succ _) (fun _ => rfl) ?_
          exact fx_ri aj_d83 rfl ⟨_, rfl, 0, rfl, rfl⟩
      · skip
        refine fx_qe (c := ((p1 + (Int32.ofInt 1))).toInt < 1002) (fx_f_lt q6) ?_
        show fx_W _ _ _ 26 lv1 [] _ _
        refine fx_n (pc' := 27) (lv' := lv1) (st' := [.int (Int32.ofInt 0)]) aj_d83 rfl (Nat.le_succ _) (fun _ => rfl) ?_
        exact fx_ri aj_d83 rfl ⟨_, rfl, 0, rfl, rfl⟩
def gx_82 (p1 : Int32) (X : fx_X) (v : Int32) (X' : fx_X) : Prop :=
  ∃ (w5 : Int32) (X4 : fx_X), gx_61 p1 X w5 X4 ∧ ∃ (w7 : Int32) (X6 : fx_X), gx_83 w5 X4 w7 X6 ∧ v = w7 ∧ X' = X6
theorem gx_82_ok {tb : aj_T} (p1 : Int32) {X : fx_X} : fx_K tb 82 [.ref 91, .int p1] X (fx_Q fx_qI (fun v X' => gx_82 p1 X v X')) := by
  refine fx_m aj_m82_at rfl (fun N => ?_)
  refine fx_mono (Q := fx_Q fx_qI (fun v X' => ∃ n : Nat, gx_82 p1 X v X')) (fun r X' ⟨v, e, _, z⟩ => ⟨v, e, z⟩) ?_
  unfold gx_82
  show fx_W _ _ _ 0 [(0, .ref 91), (1, .int p1)] [] _ _
  obtain ⟨lv1, elv1⟩ : ∃ l : aj_V, l = [(0, .ref 91), (1, .int p1)] := ⟨_, rfl⟩
  rw [← elv1]
  have hlv1_0 : aj_lv lv1 0 = some (.ref 91) := by rw [elv1]; rfl
  have hlv1_1 : aj_lv lv1 1 = some (.int p1) := by rw [elv1]; rfl
  refine fx_i2 aj_d82 rfl (Nat.le_succ _) (fun _ => rfl) hlv1_0 ?_
  refine fx_gF aj_d82 rfl (Nat.le_succ _) rfl rfl fx_in_0_0 (t := 78) rfl (fun hA2 => ?_)
  refine fx_i2 aj_d82 rfl (Nat.le_succ _) (fun _ => rfl) hlv1_0 ?_
  refine fx_gF aj_d82 rfl (Nat.le_succ _) rfl rfl fx_in_0_1 (t := 82) rfl (fun hA3 => ?_)
  refine fx_i0 aj_d82 rfl (Nat.le_succ _) (fun _ => rfl) hlv1_1 ?_
  refine fx_cv aj_d82 rfl (Nat.le_succ _) rfl [_] rfl rfl (gx_61_ok p1) ?_
  rintro _ X4 ⟨w5, rfl, hR4⟩ hok4 hle4
  refine fx_qc hR4 ?_
  show fx_W _ _ _ 12 lv1 [.int w5, .ref 78] _ _
  refine fx_cv aj_d82 rfl (Nat.le_succ _) rfl [_] rfl rfl (gx_83_ok w5) ?_
  rintro _ X6 ⟨w7, rfl, hR6⟩ hok6 hle6
  refine fx_qc hR6 ?_
  show fx_W _ _ _ 15 lv1 [.int w7] _ _
  exact fx_ri aj_d82 rfl ⟨_, rfl, 0, rfl, rfl⟩
def gxT_87_40 (p0 : Nat) (p1 : Int32) (P : Nat → List Int32 → List Int64 → List Nat → fx_X → Int32 → fx_X → Prop) (y2 : Int32) (y3 : Int32) (y4 : Int32) (X : fx_X) (v : Int32) (X' : fx_X) : Prop :=
  (if (y4).toInt < ((y3 + y2)).toInt then ((if (y4).toInt < 512 then ((0 ≤ (y4).toInt ∧ (y4).toInt < ((512 : Nat) : Int)) ∧ (if ((X.1 (p0 + 3) (y4).toInt.toNat)).toInt = (p1).toInt then (v = (Int32.ofInt 0) ∧ X' = X) else (∃ x33 : Int32, x33 = y4 + Int32.ofInt 1 ∧ P 40 [y2, y3, x33] [] [] X v X'))) else ((if ((y3 + y2)).toInt < 512 then ((0 ≤ ((y3 + y2)).toInt ∧ ((y3 + y2)).toInt < ((512 : Nat) : Int)) ∧ ∃ X26 : fx_X, X26 = (fx_wI X (p0 + 3) ((y3 + y2)).toInt.toNat p1) ∧ (0 ≤ ((X26.1 p0 11)).toInt ∧ ((X26.1 p0 11)).toInt < ((8 : Nat) : Int)) ∧ ∃ X29 : fx_X, X29 = (fx_wI X26 (p0 + 2) ((X26.1 p0 11)).toInt.toNat (y2 + (Int32.ofInt 1))) ∧ v = (Int32.ofInt 1) ∧ X' = X29) else (v = (Int32.ofInt 1) ∧ X' = X))))) else ((if ((y3 + y2)).toInt < 512 then ((0 ≤ ((y3 + y2)).toInt ∧ ((y3 + y2)).toInt < ((512 : Nat) : Int)) ∧ ∃ X16 : fx_X, X16 = (fx_wI X (p0 + 3) ((y3 + y2)).toInt.toNat p1) ∧ (0 ≤ ((X16.1 p0 11)).toInt ∧ ((X16.1 p0 11)).toInt < ((8 : Nat) : Int)) ∧ ∃ X19 : fx_X, X19 = (fx_wI X16 (p0 + 2) ((X16.1 p0 11)).toInt.toNat (y2 + (Int32.ofInt 1))) ∧ v = (Int32.ofInt 1) ∧ X' = X19) else (v = (Int32.ofInt 1) ∧ X' = X))))
def gxE_87 (p0 : Nat) (p1 : Int32) (P : Nat → List Int32 → List Int64 → List Nat → fx_X → Int32 → fx_X → Prop) (X : fx_X) (v : Int32) (X' : fx_X) : Prop :=
  ∃ (w3 : Int32) (X2 : fx_X), gx_4 p0 (X.1 p0 11) X w3 X2 ∧ ∃ x5 : Int32, x5 = ((X2.1 p0 11) * ((Int8.ofInt 64).toInt32)) ∧ (if ((X2.1 p0 11)).toInt < 8 then ((if (w3).toInt < 64 then (P 40 [w3, x5, x5] [] [] X2 v X') else (v = (Int32.ofInt 0) ∧ X' = X2))) else (v = (Int32.ofInt 0) ∧ X' = X2))
noncomputable def gxF_87 (p0 : Nat) (p1 : Int32) (n : Nat) : Nat → List Int32 → List Int64 → List Nat → fx_X → Int32 → fx_X → Prop := Nat.rec (motive := fun _ => Nat → List Int32 → List Int64 → List Nat → fx_X → Int32 → fx_X → Prop) (fun _ _ _ _ _ _ _ => False) (fun _ P l is ls rs X v X' => (l = 40 ∧ ∃ (y2 : Int32) (y3 : Int32) (y4 : Int32), is = [y2, y3, y4] ∧ ls = [] ∧ rs = [] ∧ gxT_87_40 p0 p1 P y2 y3 y4 X v X')) n
theorem gxI_87_40 {p0 : Nat} {p1 : Int32} {n : Nat} {y2 : Int32} {y3 : Int32} {y4 : Int32} {X : fx_X} {v : Int32} {X' : fx_X} (h : gxT_87_40 p0 p1 (gxF_87 p0 p1 n) y2 y3 y4 X v X') : gxF_87 p0 p1 (n + 1) 40 [y2, y3, y4] [] [] X v X' := ⟨rfl, y2, y3, y4, rfl, rfl, rfl, h⟩
theorem gxO_87_40 {p0 : Nat} {p1 : Int32} {n : Nat} {y2 : Int32} {y3 : Int32} {y4 : Int32} {X : fx_X} {v : Int32} {X' : fx_X} (h : gxF_87 p0 p1 (n + 1) 40 [y2, y3, y4] [] [] X v X') : gxT_87_40 p0 p1 (gxF_87 p0 p1 n) y2 y3 y4 X v X' := by
  rcases h with ⟨-, _, _, _, e1, e2, e3, h⟩
  · cases e1; cases e2; cases e3; exact h
def gx_87 (p0 : Nat) (p1 : Int32) (X : fx_X) (v : Int32) (X' : fx_X) : Prop := ∃ n : Nat, gxE_87 p0 p1 (gxF_87 p0 p1 n) X v X'
theorem gxL_87 {tb : aj_T} (p0 : Nat) (p1 : Int32) : ∀ N : Nat, (∀ (lv : aj_V) (y2 : Int32) (y3 : Int32) (y4 : Int32) (X : fx_X), aj_lv lv 0 = some (.ref p0) → aj_lv lv 1 = some (.int p1) → aj_lv lv 2 = some (.int y2) → aj_lv lv 3 = some (.int y3) → aj_lv lv 4 = some (.int y4) → fx_W tb aj_m87 N 40 lv [] X (fx_Q fx_qI (fun v X' => ∃ n : Nat, gxF_87 p0 p1 n 40 [y2, y3, y4] [] [] X v X'))) := by
  intro N
  induction N with
  | zero => exact (by intros; exact fx_z)
  | succ N ih =>
    skip
    · intro lv y2 y3 y4 X hlv_0 hlv_1 hlv_2 hlv_3 hlv_4
      refine fx_mono (Q := fx_Q fx_qI (fun v X' => ∃ n : Nat, gxT_87_40 p0 p1 (gxF_87 p0 p1 n) y2 y3 y4 X v X')) (fun r X' ⟨v, e, n, z⟩ => ⟨v, e, n + 1, gxI_87_40 z⟩) ?_
      unfold gxT_87_40
      refine fx_i0 aj_d87 rfl (Nat.le_refl _) (fun _ => rfl) hlv_4 ?_
      refine fx_i0 aj_d87 rfl (Nat.le_succ _) (fun _ => rfl) hlv_3 ?_
      refine fx_i0 aj_d87 rfl (Nat.le_succ _) (fun _ => rfl) hlv_2 ?_
      refine fx_n (pc' := 45) (lv' := lv) (st' := [.int (y3 + y2), .int y4]) aj_d87 rfl (Nat.le_succ _) (fun _ => rfl) ?_
      refine fx_b (tgt := 77) aj_d87 rfl (Nat.le_succ _) rfl (fun q11 => ?_) (fun q11 => ?_)
      · skip
        refine fx_qe (c := (y4).toInt < ((y3 + y2)).toInt) (fx_t_ge q11) ?_
        show fx_W _ _ _ 77 lv [] _ _
        refine fx_i0 aj_d87 rfl (Nat.le_succ _) (fun _ => rfl) hlv_3 ?_
        refine fx_i0 aj_d87 rfl (Nat.le_succ _) (fun _ => rfl) hlv_2 ?_
        refine fx_n (pc' := 80) (lv' := lv) (st' := [.int (y3 + y2)]) aj_d87 rfl (Nat.le_succ _) (fun _ => rfl) ?_
        refine fx_i2 aj_d87 rfl (Nat.le_succ _) (fun _ => rfl) hlv_0 ?_
        refine fx_gF aj_d87 rfl (Nat.le_succ _) rfl rfl fx_in_7_2 (t := (p0 + 3)) rfl (fun hA12 => ?_)
        refine fx_al aj_d87 rfl (Nat.le_succ _) ?_
        rw [(hA12 : X.2.2.2.1 (p0 + 3) = (0, 512))]
        show fx_W _ _ _ 85 lv [.int (Int32.ofNat 512), .int (y3 + y2)] _ _
        refine fx_b (tgt := 109) aj_d87 rfl (Nat.le_succ _) rfl (fun q13 => ?_) (fun q13 => ?_)
        · skip
          refine fx_qe (c := ((y3 + y2)).toInt < 512) (fx_t_ge q13) ?_
          show fx_W _ _ _ 109 lv [] _ _
          refine fx_n (pc' := 110) (lv' := lv) (st' := [.int (Int32.ofInt 1)]) aj_d87 rfl (Nat.le_succ _) (fun _ => rfl) ?_
          exact fx_ri aj_d87 rfl ⟨_, rfl, 0, rfl, rfl⟩
        · skip
          refine fx_qi (c := ((y3 + y2)).toInt < 512) (fx_f_ge q13) ?_
          show fx_W _ _ _ 88 lv [] _ _
          refine fx_i2 aj_d87 rfl (Nat.le_succ _) (fun _ => rfl) hlv_0 ?_
          refine fx_gF aj_d87 rfl (Nat.le_succ _) rfl rfl fx_in_7_2 (t := (p0 + 3)) rfl (fun hA14 => ?_)
          refine fx_i0 aj_d87 rfl (Nat.le_succ _) (fun _ => rfl) hlv_3 ?_
          refine fx_i0 aj_d87 rfl (Nat.le_succ _) (fun _ => rfl) hlv_2 ?_
          refine fx_n (pc' := 95) (lv' := lv) (st' := [.int (y3 + y2), .ref (p0 + 3)]) aj_d87 rfl (Nat.le_succ _) (fun _ => rfl) ?_
          refine fx_i0 aj_d87 rfl (Nat.le_succ _) (fun _ => rfl) hlv_1 ?_
          refine fx_st aj_d87 (Or.inl ⟨rfl, rfl⟩) rfl (Nat.le_succ _) (fun g150 g151 => ?_)
          show fx_W _ _ _ _ _ _ (fx_wI X (p0 + 3) ((y3 + y2)).toInt.toNat p1) _
          refine fx_qa (c := 0 ≤ ((y3 + y2)).toInt ∧ ((y3 + y2)).toInt < ((512 : Nat) : Int)) ⟨g150, fx_lnk g151 hA14⟩ ?_
          refine fx_qX (fun X16 eX16 => ?_)
          show fx_W _ _ _ 97 lv [] _ _
          refine fx_i2 aj_d87 rfl (Nat.le_succ _) (fun _ => rfl) hlv_0 ?_
          refine fx_gF aj_d87 rfl (Nat.le_succ _) rfl rfl fx_in_7_1 (t := (p0 + 2)) rfl (fun hA17 => ?_)
          refine fx_i2 aj_d87 rfl (Nat.le_succ _) (fun _ => rfl) hlv_0 ?_
          refine fx_gI aj_d87 rfl (Nat.le_succ _) rfl rfl (Or.inl rfl) ?_
          refine fx_i0 aj_d87 rfl (Nat.le_succ _) (fun _ => rfl) hlv_2 ?_
          refine fx_n (pc' := 107) (lv' := lv) (st' := [.int (Int32.ofInt 1), .int y2, .int (X16.1 p0 11), .ref (p0 + 2)]) aj_d87 rfl (Nat.le_succ _) (fun _ => rfl) ?_
          refine fx_n (pc' := 108) (lv' := lv) (st' := [.int (y2 + (Int32.ofInt 1)), .int (X16.1 p0 11), .ref (p0 + 2)]) aj_d87 rfl (Nat.le_succ _) (fun _ => rfl) ?_
          refine fx_st aj_d87 (Or.inl ⟨rfl, rfl⟩) rfl (Nat.le_succ _) (fun g180 g181 => ?_)
          show fx_W _ _ _ _ _ _ (fx_wI X16 (p0 + 2) ((X16.1 p0 11)).toInt.toNat (y2 + (Int32.ofInt 1))) _
          refine fx_qa (c := 0 ≤ ((X16.1 p0 11)).toInt ∧ ((X16.1 p0 11)).toInt < ((8 : Nat) : Int)) ⟨g180, fx_lnk g181 hA17⟩ ?_
          refine fx_qX (fun X19 eX19 => ?_)
          show fx_W _ _ _ 109 lv [] _ _
          refine fx_n (pc' := 110) (lv' := lv) (st' := [.int (Int32.ofInt 1)]) aj_d87 rfl (Nat.le_succ _) (fun _ => rfl) ?_
          exact fx_ri aj_d87 rfl ⟨_, rfl, 0, rfl, rfl⟩
      · skip
        refine fx_qi (c := (y4).toInt < ((y3 + y2)).toInt) (fx_f_ge q11) ?_
        show fx_W _ _ _ 48 lv [] _ _
        refine fx_i0 aj_d87 rfl (Nat.le_succ _) (fun _ => rfl) hlv_4 ?_
        refine fx_i2 aj_d87 rfl (Nat.le_succ _) (fun _ => rfl) hlv_0 ?_
        refine fx_gF aj_d87 rfl (Nat.le_succ _) rfl rfl fx_in_7_2 (t := (p0 + 3)) rfl (fun hA20 => ?_)
        refine fx_al aj_d87 rfl (Nat.le_succ _) ?_
        rw [(hA20 : X.2.2.2.1 (p0 + 3) = (0, 512))]
        show fx_W _ _ _ 55 lv [.int (Int32.ofNat 512), .int y4] _ _
        refine fx_b (tgt := 77) aj_d87 rfl (Nat.le_succ _) rfl (fun q21 => ?_) (fun q21 => ?_)
        · skip
          refine fx_qe (c := (y4).toInt < 512) (fx_t_ge q21) ?_
          show fx_W _ _ _ 77 lv [] _ _
          refine fx_i0 aj_d87 rfl (Nat.le_succ _) (fun _ => rfl) hlv_3 ?_
          refine fx_i0 aj_d87 rfl (Nat.le_succ _) (fun _ => rfl) hlv_2 ?_
          refine fx_n (pc' := 80) (lv' := lv) (st' := [.int (y3 + y2)]) aj_d87 rfl (Nat.le_succ _) (fun _ => rfl) ?_
          refine fx_i2 aj_d87 rfl (Nat.le_succ _) (fun _ => rfl) hlv_0 ?_
          refine fx_gF aj_d87 rfl (Nat.le_succ _) rfl rfl fx_in_7_2 (t := (p0 + 3)) rfl (fun hA22 => ?_)
          refine fx_al aj_d87 rfl (Nat.le_succ _) ?_
          rw [(hA22 : X.2.2.2.1 (p0 + 3) = (0, 512))]
          show fx_W _ _ _ 85 lv [.int (Int32.ofNat 512), .int (y3 + y2)] _ _
          refine fx_b (tgt := 109) aj_d87 rfl (Nat.le_succ _) rfl (fun q23 => ?_) (fun q23 => ?_)
          · skip
            refine fx_qe (c := ((y3 + y2)).toInt < 512) (fx_t_ge q23) ?_
            show fx_W _ _ _ 109 lv [] _ _
            refine fx_n (pc' := 110) (lv' := lv) (st' := [.int (Int32.ofInt 1)]) aj_d87 rfl (Nat.le_succ _) (fun _ => rfl) ?_
            exact fx_ri aj_d87 rfl ⟨_, rfl, 0, rfl, rfl⟩
          · skip
            refine fx_qi (c := ((y3 + y2)).toInt < 512) (fx_f_ge q23) ?_
            show fx_W _ _ _ 88 lv [] _ _
            refine fx_i2 aj_d87 rfl (Nat.le_succ _) (fun _ => rfl) hlv_0 ?_
            refine fx_gF aj_d87 rfl (Nat.le_succ _) rfl rfl fx_in_7_2 (t := (p0 + 3)) rfl (fun hA24 => ?_)
            refine fx_i0 aj_d87 rfl (Nat.le_succ _) (fun _ => rfl) hlv_3 ?_
            refine fx_i0 aj_d87 rfl (Nat.le_succ _) (fun _ => rfl) hlv_2 ?_
            refine fx_n (pc' := 95) (lv' := lv) (st' := [.int (y3 + y2), .ref (p0 + 3)]) aj_d87 rfl (Nat.le_succ _) (fun _ => rfl) ?_
            refine fx_i0 aj_d87 rfl (Nat.le_succ _) (fun _ => rfl) hlv_1 ?_
            refine fx_st aj_d87 (Or.inl ⟨rfl, rfl⟩) rfl (Nat.le_succ _) (fun g250 g251 => ?_)
            show fx_W _ _ _ _ _ _ (fx_wI X (p0 + 3) ((y3 + y2)).toInt.toNat p1) _
            refine fx_qa (c := 0 ≤ ((y3 + y2)).toInt ∧ ((y3 + y2)).toInt < ((512 : Nat) : Int)) ⟨g250, fx_lnk g251 hA24⟩ ?_
            refine fx_qX (fun X26 eX26 => ?_)
            show fx_W _ _ _ 97 lv [] _ _
            refine fx_i2 aj_d87 rfl (Nat.le_succ _) (fun _ => rfl) hlv_0 ?_
            refine fx_gF aj_d87 rfl (Nat.le_succ _) rfl rfl fx_in_7_1 (t := (p0 + 2)) rfl (fun hA27 => ?_)
            refine fx_i2 aj_d87 rfl (Nat.le_succ _) (fun _ => rfl) hlv_0 ?_
            refine fx_gI aj_d87 rfl (Nat.le_succ _) rfl rfl (Or.inl rfl) ?_
            refine fx_i0 aj_d87 rfl (Nat.le_succ _) (fun _ => rfl) hlv_2 ?_
            refine fx_n (pc' := 107) (lv' := lv) (st' := [.int (Int32.ofInt 1), .int y2, .int (X26.1 p0 11), .ref (p0 + 2)]) aj_d87 rfl (Nat.le_succ _) (fun _ => rfl) ?_
            refine fx_n (pc' := 108) (lv' := lv) (st' := [.int (y2 + (Int32.ofInt 1)), .int (X26.1 p0 11), .ref (p0 + 2)]) aj_d87 rfl (Nat.le_succ _) (fun _ => rfl) ?_
            refine fx_st aj_d87 (Or.inl ⟨rfl, rfl⟩) rfl (Nat.le_succ _) (fun g280 g281 => ?_)
            show fx_W _ _ _ _ _ _ (fx_wI X26 (p0 + 2) ((X26.1 p0 11)).toInt.toNat (y2 + (Int32.ofInt 1))) _
            refine fx_qa (c := 0 ≤ ((X26.1 p0 11)).toInt ∧ ((X26.1 p0 11)).toInt < ((8 : Nat) : Int)) ⟨g280, fx_lnk g281 hA27⟩ ?_
            refine fx_qX (fun X29 eX29 => ?_)
            show fx_W _ _ _ 109 lv [] _ _
            refine fx_n (pc' := 110) (lv' := lv) (st' := [.int (Int32.ofInt 1)]) aj_d87 rfl (Nat.le_succ _) (fun _ => rfl) ?_
            exact fx_ri aj_d87 rfl ⟨_, rfl, 0, rfl, rfl⟩
        · skip
          refine fx_qi (c := (y4).toInt < 512) (fx_f_ge q21) ?_
          show fx_W _ _ _ 58 lv [] _ _
          refine fx_i2 aj_d87 rfl (Nat.le_succ _) (fun _ => rfl) hlv_0 ?_
          refine fx_gF aj_d87 rfl (Nat.le_succ _) rfl rfl fx_in_7_2 (t := (p0 + 3)) rfl (fun hA30 => ?_)
          refine fx_i0 aj_d87 rfl (Nat.le_succ _) (fun _ => rfl) hlv_4 ?_
          refine fx_ld aj_d87 (Or.inl rfl) rfl (Nat.le_succ _) (fun g310 g311 => ?_)
          show fx_W _ _ _ 65 lv [.int (X.1 (p0 + 3) (y4).toInt.toNat)] _ _
          refine fx_qa (c := 0 ≤ (y4).toInt ∧ (y4).toInt < ((512 : Nat) : Int)) ⟨g310, fx_lnk g311 hA30⟩ ?_
          refine fx_i0 aj_d87 rfl (Nat.le_succ _) (fun _ => rfl) hlv_1 ?_
          refine fx_b (tgt := 71) aj_d87 rfl (Nat.le_succ _) rfl (fun q32 => ?_) (fun q32 => ?_)
          · skip
            refine fx_qe (c := ((X.1 (p0 + 3) (y4).toInt.toNat)).toInt = (p1).toInt) (fx_t_ne q32) ?_
            show fx_W _ _ _ 71 lv [] _ _
            refine fx_incq aj_d87 rfl (Nat.le_succ _) hlv_4 (by decide) (fun x33 ex33 => ?_)
            obtain ⟨lv34, elv34⟩ : ∃ l, l = aj_set1 lv 4 (.int x33) := ⟨_, rfl⟩
            rw [← elv34]
            have hlv34_0 : aj_lv lv34 0 = some (.ref p0) := fx_e1 elv34 hlv_0 (by decide) (Or.inl (by decide))
            have hlv34_1 : aj_lv lv34 1 = some (.int p1) := fx_e1 elv34 hlv_1 (by decide) (Or.inl (by decide))
            have hlv34_2 : aj_lv lv34 2 = some (.int y2) := fx_e1 elv34 hlv_2 (by decide) (Or.inl (by decide))
            have hlv34_3 : aj_lv lv34 3 = some (.int y3) := fx_e1 elv34 hlv_3 (by decide) (Or.inr rfl)
            have hlv34_4 : aj_lv lv34 4 = some (.int x33) := by rw [elv34]; exact ak_set1_eq _ _ _
            show fx_W _ _ _ 74 lv34 [] _ _
            refine fx_n (pc' := 40) (lv' := lv34) (st' := []) aj_d87 rfl (Nat.le_succ _) (fun _ => rfl) ?_
            exact (ih) lv34 (y2) (y3) (x33) X  hlv34_0 hlv34_1 hlv34_2 hlv34_3 hlv34_4
          · skip
            refine fx_qi (c := ((X.1 (p0 + 3) (y4).toInt.toNat)).toInt = (p1).toInt) (fx_f_ne q32) ?_
            show fx_W _ _ _ 69 lv [] _ _
            refine fx_n (pc' := 70) (lv' := lv) (st' := [.int (Int32.ofInt 0)]) aj_d87 rfl (Nat.le_succ _) (fun _ => rfl) ?_
            exact fx_ri aj_d87 rfl ⟨_, rfl, 0, rfl, rfl⟩
theorem gx_87_ok {tb : aj_T} (p0 : Nat) (p1 : Int32) {X : fx_X} : fx_K tb 87 [.ref p0, .int p1] X (fx_Q fx_qI (fun v X' => gx_87 p0 p1 X v X')) := by
  refine fx_m aj_m87_at rfl (fun N => ?_)
  refine fx_mono (Q := fx_Q fx_qI (fun v X' => ∃ n : Nat, gxE_87 p0 p1 (gxF_87 p0 p1 n) X v X')) (fun r X' h => h) ?_
  unfold gxE_87
  show fx_W _ _ _ 0 [(0, .ref p0), (1, .int p1)] [] _ _
  obtain ⟨lv1, elv1⟩ : ∃ l : aj_V, l = [(0, .ref p0), (1, .int p1)] := ⟨_, rfl⟩
  rw [← elv1]
  have hlv1_0 : aj_lv lv1 0 = some (.ref p0) := by rw [elv1]; rfl
  have hlv1_1 : aj_lv lv1 1 = some (.int p1) := by rw [elv1]; rfl
  refine fx_i2 aj_d87 rfl (Nat.le_succ _) (fun _ => rfl) hlv1_0 ?_
  refine fx_i2 aj_d87 rfl (Nat.le_succ _) (fun _ => rfl) hlv1_0 ?_
  refine fx_gI aj_d87 rfl (Nat.le_succ _) rfl rfl (Or.inl rfl) ?_
  refine fx_cv aj_d87 rfl (Nat.le_succ _) rfl [_] rfl rfl (gx_4_ok p0 (X.1 p0 11)) ?_
  rintro _ X2 ⟨w3, rfl, hR2⟩ hok2 hle2
  refine fx_qc hR2 ?_
  show fx_W _ _ _ 8 lv1 [.int w3] _ _
  refine fx_s0 (j := 2) aj_d87 rfl (Nat.le_succ _) (by decide) (fun _ => rfl) ?_
  obtain ⟨lv4, elv4⟩ : ∃ l, l = aj_set1 lv1 2 (.int w3) := ⟨_, rfl⟩
  rw [← elv4]
  have hlv4_0 : aj_lv lv4 0 = some (.ref p0) := fx_e1 elv4 hlv1_0 (by decide) (Or.inl (by decide))
  have hlv4_1 : aj_lv lv4 1 = some (.int p1) := fx_e1 elv4 hlv1_1 (by decide) (Or.inr rfl)
  have hlv4_2 : aj_lv lv4 2 = some (.int w3) := by rw [elv4]; exact ak_set1_eq _ _ _
  show fx_W _ _ _ 9 lv4 [] _ _
  refine fx_i2 aj_d87 rfl (Nat.le_succ _) (fun _ => rfl) hlv4_0 ?_
  refine fx_gI aj_d87 rfl (Nat.le_succ _) rfl rfl (Or.inl rfl) ?_
  refine fx_n (pc' := 15) (lv' := lv4) (st' := [.int ((Int8.ofInt 64).toInt32), .int (X2.1 p0 11)]) aj_d87 rfl (Nat.le_succ _) (fun _ => rfl) ?_
  refine fx_n (pc' := 16) (lv' := lv4) (st' := [.int ((X2.1 p0 11) * ((Int8.ofInt 64).toInt32))]) aj_d87 rfl (Nat.le_succ _) (fun _ => rfl) ?_
  refine fx_qxI (fun x5 ex5 => ?_)
  refine fx_s0 (j := 3) aj_d87 rfl (Nat.le_succ _) (by decide) (fun _ => rfl) ?_
  obtain ⟨lv6, elv6⟩ : ∃ l, l = aj_set1 lv4 3 (.int x5) := ⟨_, rfl⟩
  rw [← elv6]
  have hlv6_0 : aj_lv lv6 0 = some (.ref p0) := fx_e1 elv6 hlv4_0 (by decide) (Or.inl (by decide))
  have hlv6_1 : aj_lv lv6 1 = some (.int p1) := fx_e1 elv6 hlv4_1 (by decide) (Or.inl (by decide))
  have hlv6_2 : aj_lv lv6 2 = some (.int w3) := fx_e1 elv6 hlv4_2 (by decide) (Or.inr rfl)
  have hlv6_3 : aj_lv lv6 3 = some (.int x5) := by rw [elv6]; exact ak_set1_eq _ _ _
  show fx_W _ _ _ 17 lv6 [] _ _
  refine fx_i2 aj_d87 rfl (Nat.le_succ _) (fun _ => rfl) hlv6_0 ?_
  refine fx_gI aj_d87 rfl (Nat.le_succ _) rfl rfl (Or.inl rfl) ?_
  refine fx_i2 aj_d87 rfl (Nat.le_succ _) (fun _ => rfl) hlv6_0 ?_
  refine fx_gF aj_d87 rfl (Nat.le_succ _) rfl rfl fx_in_7_1 (t := (p0 + 2)) rfl (fun hA7 => ?_)
  refine fx_al aj_d87 rfl (Nat.le_succ _) ?_
  rw [(hA7 : X2.2.2.2.1 (p0 + 2) = (0, 8))]
  show fx_W _ _ _ 26 lv6 [.int (Int32.ofNat 8), .int (X2.1 p0 11)] _ _
  refine fx_b (tgt := 35) aj_d87 rfl (Nat.le_succ _) rfl (fun q8 => ?_) (fun q8 => ?_)
  · skip
    refine fx_qe (c := ((X2.1 p0 11)).toInt < 8) (fx_t_ge q8) ?_
    show fx_W _ _ _ 35 lv6 [] _ _
    refine fx_n (pc' := 36) (lv' := lv6) (st' := [.int (Int32.ofInt 0)]) aj_d87 rfl (Nat.le_succ _) (fun _ => rfl) ?_
    exact fx_ri aj_d87 rfl ⟨_, rfl, 0, rfl, rfl⟩
  · skip
    refine fx_qi (c := ((X2.1 p0 11)).toInt < 8) (fx_f_ge q8) ?_
    show fx_W _ _ _ 29 lv6 [] _ _
    refine fx_i0 aj_d87 rfl (Nat.le_succ _) (fun _ => rfl) hlv6_2 ?_
    refine fx_n (pc' := 32) (lv' := lv6) (st' := [.int ((Int8.ofInt 64).toInt32), .int w3]) aj_d87 rfl (Nat.le_succ _) (fun _ => rfl) ?_
    refine fx_b (tgt := 37) aj_d87 rfl (Nat.le_succ _) rfl (fun q9 => ?_) (fun q9 => ?_)
    · skip
      refine fx_qi (c := (w3).toInt < 64) (fx_t_lt q9) ?_
      show fx_W _ _ _ 37 lv6 [] _ _
      refine fx_i0 aj_d87 rfl (Nat.le_succ _) (fun _ => rfl) hlv6_3 ?_
      refine fx_s0 (j := 4) aj_d87 rfl (Nat.le_succ _) (by decide) (fun _ => rfl) ?_
      obtain ⟨lv10, elv10⟩ : ∃ l, l = aj_set1 lv6 4 (.int x5) := ⟨_, rfl⟩
      rw [← elv10]
      have hlv10_0 : aj_lv lv10 0 = some (.ref p0) := fx_e1 elv10 hlv6_0 (by decide) (Or.inl (by decide))
      have hlv10_1 : aj_lv lv10 1 = some (.int p1) := fx_e1 elv10 hlv6_1 (by decide) (Or.inl (by decide))
      have hlv10_2 : aj_lv lv10 2 = some (.int w3) := fx_e1 elv10 hlv6_2 (by decide) (Or.inl (by decide))
      have hlv10_3 : aj_lv lv10 3 = some (.int x5) := fx_e1 elv10 hlv6_3 (by decide) (Or.inr rfl)
      have hlv10_4 : aj_lv lv10 4 = some (.int x5) := by rw [elv10]; exact ak_set1_eq _ _ _
      show fx_W _ _ _ 40 lv10 [] _ _
      exact ((gxL_87 p0 p1 N)) lv10 (w3) (x5) (x5) X2  hlv10_0 hlv10_1 hlv10_2 hlv10_3 hlv10_4
    · skip
      refine fx_qe (c := (w3).toInt < 64) (fx_f_lt q9) ?_
      show fx_W _ _ _ 35 lv6 [] _ _
      refine fx_n (pc' := 36) (lv' := lv6) (st' := [.int (Int32.ofInt 0)]) aj_d87 rfl (Nat.le_succ _) (fun _ => rfl) ?_
      exact fx_ri aj_d87 rfl ⟨_, rfl, 0, rfl, rfl⟩
def gx_89 (p0 : Nat) (X : fx_X) (v : Int32) (X' : fx_X) : Prop :=
  ∃ x2 : Int32, x2 = ((X.1 p0 11) * ((Int8.ofInt 64).toInt32)) ∧ (if (x2).toInt < 512 then ((0 ≤ (x2).toInt ∧ (x2).toInt < ((512 : Nat) : Int)) ∧ v = (X.1 (p0 + 3) (x2).toInt.toNat) ∧ X' = X) else (v = (Int32.ofInt 0) ∧ X' = X))
theorem gx_89_ok {tb : aj_T} (p0 : Nat) {X : fx_X} : fx_K tb 89 [.ref p0] X (fx_Q fx_qI (fun v X' => gx_89 p0 X v X')) := by
  refine fx_m aj_m89_at rfl (fun N => ?_)
  refine fx_mono (Q := fx_Q fx_qI (fun v X' => ∃ n : Nat, gx_89 p0 X v X')) (fun r X' ⟨v, e, _, z⟩ => ⟨v, e, z⟩) ?_
  unfold gx_89
  show fx_W _ _ _ 0 [(0, .ref p0)] [] _ _
  obtain ⟨lv1, elv1⟩ : ∃ l : aj_V, l = [(0, .ref p0)] := ⟨_, rfl⟩
  rw [← elv1]
  have hlv1_0 : aj_lv lv1 0 = some (.ref p0) := by rw [elv1]; rfl
  refine fx_i2 aj_d89 rfl (Nat.le_succ _) (fun _ => rfl) hlv1_0 ?_
  refine fx_gI aj_d89 rfl (Nat.le_succ _) rfl rfl (Or.inl rfl) ?_
  refine fx_n (pc' := 6) (lv' := lv1) (st' := [.int ((Int8.ofInt 64).toInt32), .int (X.1 p0 11)]) aj_d89 rfl (Nat.le_succ _) (fun _ => rfl) ?_
  refine fx_n (pc' := 7) (lv' := lv1) (st' := [.int ((X.1 p0 11) * ((Int8.ofInt 64).toInt32))]) aj_d89 rfl (Nat.le_succ _) (fun _ => rfl) ?_
  refine fx_qxI (fun x2 ex2 => ?_)
  refine fx_s0 (j := 1) aj_d89 rfl (Nat.le_succ _) (by decide) (fun _ => rfl) ?_
  obtain ⟨lv3, elv3⟩ : ∃ l, l = aj_set1 lv1 1 (.int x2) := ⟨_, rfl⟩
  rw [← elv3]
  have hlv3_0 : aj_lv lv3 0 = some (.ref p0) := fx_e1 elv3 hlv1_0 (by decide) (Or.inr rfl)
  have hlv3_1 : aj_lv lv3 1 = some (.int x2) := by rw [elv3]; exact ak_set1_eq _ _ _
  show fx_W _ _ _ 8 lv3 [] _ _
  refine fx_i0 aj_d89 rfl (Nat.le_succ _) (fun _ => rfl) hlv3_1 ?_
  refine fx_i2 aj_d89 rfl (Nat.le_succ _) (fun _ => rfl) hlv3_0 ?_
  refine fx_gF aj_d89 rfl (Nat.le_succ _) rfl rfl fx_in_7_2 (t := (p0 + 3)) rfl (fun hA4 => ?_)
  refine fx_al aj_d89 rfl (Nat.le_succ _) ?_
  rw [(hA4 : X.2.2.2.1 (p0 + 3) = (0, 512))]
  show fx_W _ _ _ 14 lv3 [.int (Int32.ofNat 512), .int x2] _ _
  refine fx_b (tgt := 26) aj_d89 rfl (Nat.le_succ _) rfl (fun q5 => ?_) (fun q5 => ?_)
  · skip
    refine fx_qe (c := (x2).toInt < 512) (fx_t_ge q5) ?_
    show fx_W _ _ _ 26 lv3 [] _ _
    refine fx_n (pc' := 27) (lv' := lv3) (st' := [.int (Int32.ofInt 0)]) aj_d89 rfl (Nat.le_succ _) (fun _ => rfl) ?_
    exact fx_ri aj_d89 rfl ⟨_, rfl, 0, rfl, rfl⟩
  · skip
    refine fx_qi (c := (x2).toInt < 512) (fx_f_ge q5) ?_
    show fx_W _ _ _ 17 lv3 [] _ _
    refine fx_i2 aj_d89 rfl (Nat.le_succ _) (fun _ => rfl) hlv3_0 ?_
    refine fx_gF aj_d89 rfl (Nat.le_succ _) rfl rfl fx_in_7_2 (t := (p0 + 3)) rfl (fun hA6 => ?_)
    refine fx_i0 aj_d89 rfl (Nat.le_succ _) (fun _ => rfl) hlv3_1 ?_
    refine fx_ld aj_d89 (Or.inl rfl) rfl (Nat.le_succ _) (fun g70 g71 => ?_)
    show fx_W _ _ _ 23 lv3 [.int (X.1 (p0 + 3) (x2).toInt.toNat)] _ _
    refine fx_qa (c := 0 ≤ (x2).toInt ∧ (x2).toInt < ((512 : Nat) : Int)) ⟨g70, fx_lnk g71 hA6⟩ ?_
    refine fx_n (pc' := 27) (lv' := lv3) (st' := [.int (X.1 (p0 + 3) (x2).toInt.toNat)]) aj_d89 rfl (Nat.le_succ _) (fun _ => rfl) ?_
    exact fx_ri aj_d89 rfl ⟨_, rfl, 0, rfl, rfl⟩
def gxT_88_39 (p1 : Int32) (P : Nat → List Int32 → List Int64 → List Nat → fx_X → Unit → fx_X → Prop) (y2 : Int32) (y4 : Int32) (X : fx_X) (v : Unit) (X' : fx_X) : Prop :=
  (if (y2).toInt < (y4).toInt then (X' = X) else (∃ b20 : Nat, X.2.2.1 91 2 = some b20 ∧ ∃ (w22 : Int32) (X21 : fx_X), gx_87 b20 y4 X w22 X21 ∧ ∃ x23 : Int32, x23 = y4 + Int32.ofInt 1 ∧ P 39 [y2, x23] [] [] X21 v X'))
def gxE_88 (p1 : Int32) (P : Nat → List Int32 → List Int64 → List Nat → fx_X → Unit → fx_X → Prop) (X : fx_X) (v : Unit) (X' : fx_X) : Prop :=
  ∃ (w3 : Int32) (X2 : fx_X), gx_82 p1 X w3 X2 ∧ ∃ b6 : Nat, X2.2.2.1 91 2 = some b6 ∧ ∃ (w8 : Int32) (X7 : fx_X), gx_89 b6 X2 w8 X7 ∧ (if (w3).toInt < (w8).toInt then (∃ (w12 : Unit) (X11 : fx_X), gx_64 (Int32.ofInt 5) p1 X7 w12 X11 ∧ X' = X11) else ((if ((w8 + ((Int8.ofInt 63).toInt32))).toInt < (w3).toInt then (∃ (w17 : Unit) (X16 : fx_X), gx_64 (Int32.ofInt 5) p1 X7 w17 X16 ∧ X' = X16) else (∃ x14 : Int32, x14 = (w8 + (Int32.ofInt 1)) ∧ P 39 [w3, x14] [] [] X7 v X'))))
noncomputable def gxF_88 (p1 : Int32) (n : Nat) : Nat → List Int32 → List Int64 → List Nat → fx_X → Unit → fx_X → Prop := Nat.rec (motive := fun _ => Nat → List Int32 → List Int64 → List Nat → fx_X → Unit → fx_X → Prop) (fun _ _ _ _ _ _ _ => False) (fun _ P l is ls rs X v X' => (l = 39 ∧ ∃ (y2 : Int32) (y4 : Int32), is = [y2, y4] ∧ ls = [] ∧ rs = [] ∧ gxT_88_39 p1 P y2 y4 X v X')) n
theorem gxI_88_39 {p1 : Int32} {n : Nat} {y2 : Int32} {y4 : Int32} {X : fx_X} {v : Unit} {X' : fx_X} (h : gxT_88_39 p1 (gxF_88 p1 n) y2 y4 X v X') : gxF_88 p1 (n + 1) 39 [y2, y4] [] [] X v X' := ⟨rfl, y2, y4, rfl, rfl, rfl, h⟩
theorem gxO_88_39 {p1 : Int32} {n : Nat} {y2 : Int32} {y4 : Int32} {X : fx_X} {v : Unit} {X' : fx_X} (h : gxF_88 p1 (n + 1) 39 [y2, y4] [] [] X v X') : gxT_88_39 p1 (gxF_88 p1 n) y2 y4 X v X' := by
  rcases h with ⟨-, _, _, e1, e2, e3, h⟩
  · cases e1; cases e2; cases e3; exact h
def gx_88 (p1 : Int32) (X : fx_X) (v : Unit) (X' : fx_X) : Prop := ∃ n : Nat, gxE_88 p1 (gxF_88 p1 n) X v X'
theorem gxL_88 {tb : aj_T} (p1 : Int32) : ∀ N : Nat, (∀ (lv : aj_V) (y2 : Int32) (y4 : Int32) (X : fx_X), aj_lv lv 0 = some (.ref 91) → aj_lv lv 2 = some (.int y2) → aj_lv lv 4 = some (.int y4) → fx_W tb aj_m88 N 39 lv [] X (fx_Q fx_qN (fun v X' => ∃ n : Nat, gxF_88 p1 n 39 [y2, y4] [] [] X v X'))) := by
  intro N
  induction N with
  | zero => exact (by intros; exact fx_z)
  | succ N ih =>
    skip
    · intro lv y2 y4 X hlv_0 hlv_2 hlv_4
      refine fx_mono (Q := fx_Q fx_qN (fun v X' => ∃ n : Nat, gxT_88_39 p1 (gxF_88 p1 n) y2 y4 X v X')) (fun r X' ⟨v, e, n, z⟩ => ⟨v, e, n + 1, gxI_88_39 z⟩) ?_
      unfold gxT_88_39
      refine fx_i0 aj_d88 rfl (Nat.le_refl _) (fun _ => rfl) hlv_4 ?_
      refine fx_i0 aj_d88 rfl (Nat.le_succ _) (fun _ => rfl) hlv_2 ?_
      refine fx_b (tgt := 61) aj_d88 rfl (Nat.le_succ _) rfl (fun q18 => ?_) (fun q18 => ?_)
      · skip
        refine fx_qi (c := (y2).toInt < (y4).toInt) (fx_t_gt q18) ?_
        show fx_W _ _ _ 61 lv [] _ _
        exact fx_rn aj_d88 rfl ⟨(), rfl, 0, rfl⟩
      · skip
        refine fx_qe (c := (y2).toInt < (y4).toInt) (fx_f_gt q18) ?_
        show fx_W _ _ _ 45 lv [] _ _
        refine fx_i2 aj_d88 rfl (Nat.le_succ _) (fun _ => rfl) hlv_0 ?_
        refine fx_gR aj_d88 rfl (Nat.le_succ _) rfl rfl (Or.inl ⟨_, rfl⟩) (fun q19 _ => ?_) (fun b20 q19 => ?_)
        · skip
          show fx_W _ _ _ 49 lv [.null] _ _
          refine fx_i0 aj_d88 rfl (Nat.le_succ _) (fun _ => rfl) hlv_4 ?_
          exact fx_d aj_d88 rfl (fun _ => rfl)
        · skip
          refine fx_qs q19 ?_
          show fx_W _ _ _ 49 lv [.ref b20] _ _
          refine fx_i0 aj_d88 rfl (Nat.le_succ _) (fun _ => rfl) hlv_4 ?_
          refine fx_cv aj_d88 rfl (Nat.le_succ _) rfl [_] rfl rfl (gx_87_ok b20 y4) ?_
          rintro _ X21 ⟨w22, rfl, hR21⟩ hok21 hle21
          refine fx_qc hR21 ?_
          show fx_W _ _ _ 54 lv [.int w22] _ _
          refine fx_n (pc' := 55) (lv' := lv) (st' := []) aj_d88 rfl (Nat.le_succ _) (fun _ => rfl) ?_
          refine fx_incq aj_d88 rfl (Nat.le_succ _) hlv_4 (by decide) (fun x23 ex23 => ?_)
          obtain ⟨lv24, elv24⟩ : ∃ l, l = aj_set1 lv 4 (.int x23) := ⟨_, rfl⟩
          rw [← elv24]
          have hlv24_0 : aj_lv lv24 0 = some (.ref 91) := fx_e1 elv24 hlv_0 (by decide) (Or.inl (by decide))
          have hlv24_2 : aj_lv lv24 2 = some (.int y2) := fx_e1 elv24 hlv_2 (by decide) (Or.inl (by decide))
          have hlv24_4 : aj_lv lv24 4 = some (.int x23) := by rw [elv24]; exact ak_set1_eq _ _ _
          show fx_W _ _ _ 58 lv24 [] _ _
          refine fx_n (pc' := 39) (lv' := lv24) (st' := []) aj_d88 rfl (Nat.le_succ _) (fun _ => rfl) ?_
          exact (ih) lv24 (y2) (x23) X21  hlv24_0 hlv24_2 hlv24_4
theorem gx_88_ok {tb : aj_T} (p1 : Int32) {X : fx_X} : fx_K tb 88 [.ref 91, .int p1] X (fx_Q fx_qN (fun v X' => gx_88 p1 X v X')) := by
  refine fx_m aj_m88_at rfl (fun N => ?_)
  refine fx_mono (Q := fx_Q fx_qN (fun v X' => ∃ n : Nat, gxE_88 p1 (gxF_88 p1 n) X v X')) (fun r X' h => h) ?_
  unfold gxE_88
  show fx_W _ _ _ 0 [(0, .ref 91), (1, .int p1)] [] _ _
  obtain ⟨lv1, elv1⟩ : ∃ l : aj_V, l = [(0, .ref 91), (1, .int p1)] := ⟨_, rfl⟩
  rw [← elv1]
  have hlv1_0 : aj_lv lv1 0 = some (.ref 91) := by rw [elv1]; rfl
  have hlv1_1 : aj_lv lv1 1 = some (.int p1) := by rw [elv1]; rfl
  refine fx_i2 aj_d88 rfl (Nat.le_succ _) (fun _ => rfl) hlv1_0 ?_
  refine fx_i0 aj_d88 rfl (Nat.le_succ _) (fun _ => rfl) hlv1_1 ?_
  refine fx_cv aj_d88 rfl (Nat.le_succ _) rfl [_] rfl rfl (gx_82_ok p1) ?_
  rintro _ X2 ⟨w3, rfl, hR2⟩ hok2 hle2
  refine fx_qc hR2 ?_
  show fx_W _ _ _ 5 lv1 [.int w3] _ _
  refine fx_s0 (j := 2) aj_d88 rfl (Nat.le_succ _) (by decide) (fun _ => rfl) ?_
  obtain ⟨lv4, elv4⟩ : ∃ l, l = aj_set1 lv1 2 (.int w3) := ⟨_, rfl⟩
  rw [← elv4]
  have hlv4_0 : aj_lv lv4 0 = some (.ref 91) := fx_e1 elv4 hlv1_0 (by decide) (Or.inl (by decide))
  have hlv4_1 : aj_lv lv4 1 = some (.int p1) := fx_e1 elv4 hlv1_1 (by decide) (Or.inr rfl)
  have hlv4_2 : aj_lv lv4 2 = some (.int w3) := by rw [elv4]; exact ak_set1_eq _ _ _
  show fx_W _ _ _ 6 lv4 [] _ _
  refine fx_i2 aj_d88 rfl (Nat.le_succ _) (fun _ => rfl) hlv4_0 ?_
  refine fx_gR aj_d88 rfl (Nat.le_succ _) rfl rfl (Or.inl ⟨_, rfl⟩) (fun q5 _ => ?_) (fun b6 q5 => ?_)
  · skip
    show fx_W _ _ _ 10 lv4 [.null] _ _
    exact fx_d aj_d88 rfl (fun _ => rfl)
  · skip
    refine fx_qs q5 ?_
    show fx_W _ _ _ 10 lv4 [.ref b6] _ _
    refine fx_cv aj_d88 rfl (Nat.le_succ _) rfl [] rfl rfl (gx_89_ok b6) ?_
    rintro _ X7 ⟨w8, rfl, hR7⟩ hok7 hle7
    refine fx_qc hR7 ?_
    show fx_W _ _ _ 13 lv4 [.int w8] _ _
    refine fx_s0 (j := 3) aj_d88 rfl (Nat.le_succ _) (by decide) (fun _ => rfl) ?_
    obtain ⟨lv9, elv9⟩ : ∃ l, l = aj_set1 lv4 3 (.int w8) := ⟨_, rfl⟩
    rw [← elv9]
    have hlv9_0 : aj_lv lv9 0 = some (.ref 91) := fx_e1 elv9 hlv4_0 (by decide) (Or.inl (by decide))
    have hlv9_1 : aj_lv lv9 1 = some (.int p1) := fx_e1 elv9 hlv4_1 (by decide) (Or.inl (by decide))
    have hlv9_2 : aj_lv lv9 2 = some (.int w3) := fx_e1 elv9 hlv4_2 (by decide) (Or.inr rfl)
    have hlv9_3 : aj_lv lv9 3 = some (.int w8) := by rw [elv9]; exact ak_set1_eq _ _ _
    show fx_W _ _ _ 14 lv9 [] _ _
    refine fx_i0 aj_d88 rfl (Nat.le_succ _) (fun _ => rfl) hlv9_2 ?_
    refine fx_i0 aj_d88 rfl (Nat.le_succ _) (fun _ => rfl) hlv9_3 ?_
    refine fx_b (tgt := 27) aj_d88 rfl (Nat.le_succ _) rfl (fun q10 => ?_) (fun q10 => ?_)
    · skip
      refine fx_qi (c := (w3).toInt < (w8).toInt) (fx_t_lt q10) ?_
      show fx_W _ _ _ 27 lv9 [] _ _
      refine fx_i2 aj_d88 rfl (Nat.le_succ _) (fun _ => rfl) hlv9_0 ?_
      refine fx_n (pc' := 29) (lv' := lv9) (st' := [.int (Int32.ofInt 5), .ref 91]) aj_d88 rfl (Nat.le_succ _) (fun _ => rfl) ?_
      refine fx_i0 aj_d88 rfl (Nat.le_succ _) (fun _ => rfl) hlv9_1 ?_
      refine fx_cv aj_d88 rfl (Nat.le_succ _) rfl [_, _] rfl rfl (gx_64_ok (Int32.ofInt 5) p1) ?_
      rintro _ X11 ⟨w12, rfl, hR11⟩ hok11 hle11
      refine fx_qc hR11 ?_
      show fx_W _ _ _ 33 lv9 [] _ _
      exact fx_rn aj_d88 rfl ⟨(), rfl, 0, rfl⟩
    · skip
      refine fx_qe (c := (w3).toInt < (w8).toInt) (fx_f_lt q10) ?_
      show fx_W _ _ _ 19 lv9 [] _ _
      refine fx_i0 aj_d88 rfl (Nat.le_succ _) (fun _ => rfl) hlv9_2 ?_
      refine fx_i0 aj_d88 rfl (Nat.le_succ _) (fun _ => rfl) hlv9_3 ?_
      refine fx_n (pc' := 23) (lv' := lv9) (st' := [.int ((Int8.ofInt 63).toInt32), .int w8, .int w3]) aj_d88 rfl (Nat.le_succ _) (fun _ => rfl) ?_
      refine fx_n (pc' := 24) (lv' := lv9) (st' := [.int (w8 + ((Int8.ofInt 63).toInt32)), .int w3]) aj_d88 rfl (Nat.le_succ _) (fun _ => rfl) ?_
      refine fx_b (tgt := 34) aj_d88 rfl (Nat.le_succ _) rfl (fun q13 => ?_) (fun q13 => ?_)
      · skip
        refine fx_qe (c := ((w8 + ((Int8.ofInt 63).toInt32))).toInt < (w3).toInt) (fx_t_le q13) ?_
        show fx_W _ _ _ 34 lv9 [] _ _
        refine fx_i0 aj_d88 rfl (Nat.le_succ _) (fun _ => rfl) hlv9_3 ?_
        refine fx_n (pc' := 36) (lv' := lv9) (st' := [.int (Int32.ofInt 1), .int w8]) aj_d88 rfl (Nat.le_succ _) (fun _ => rfl) ?_
        refine fx_n (pc' := 37) (lv' := lv9) (st' := [.int (w8 + (Int32.ofInt 1))]) aj_d88 rfl (Nat.le_succ _) (fun _ => rfl) ?_
        refine fx_qxI (fun x14 ex14 => ?_)
        refine fx_s0 (j := 4) aj_d88 rfl (Nat.le_succ _) (by decide) (fun _ => rfl) ?_
        obtain ⟨lv15, elv15⟩ : ∃ l, l = aj_set1 lv9 4 (.int x14) := ⟨_, rfl⟩
        rw [← elv15]
        have hlv15_0 : aj_lv lv15 0 = some (.ref 91) := fx_e1 elv15 hlv9_0 (by decide) (Or.inl (by decide))
        have hlv15_2 : aj_lv lv15 2 = some (.int w3) := fx_e1 elv15 hlv9_2 (by decide) (Or.inl (by decide))
        have hlv15_4 : aj_lv lv15 4 = some (.int x14) := by rw [elv15]; exact ak_set1_eq _ _ _
        show fx_W _ _ _ 39 lv15 [] _ _
        exact ((gxL_88 p1 N)) lv15 (w3) (x14) X7  hlv15_0 hlv15_2 hlv15_4
      · skip
        refine fx_qi (c := ((w8 + ((Int8.ofInt 63).toInt32))).toInt < (w3).toInt) (fx_f_le q13) ?_
        show fx_W _ _ _ 27 lv9 [] _ _
        refine fx_i2 aj_d88 rfl (Nat.le_succ _) (fun _ => rfl) hlv9_0 ?_
        refine fx_n (pc' := 29) (lv' := lv9) (st' := [.int (Int32.ofInt 5), .ref 91]) aj_d88 rfl (Nat.le_succ _) (fun _ => rfl) ?_
        refine fx_i0 aj_d88 rfl (Nat.le_succ _) (fun _ => rfl) hlv9_1 ?_
        refine fx_cv aj_d88 rfl (Nat.le_succ _) rfl [_, _] rfl rfl (gx_64_ok (Int32.ofInt 5) p1) ?_
        rintro _ X16 ⟨w17, rfl, hR16⟩ hok16 hle16
        refine fx_qc hR16 ?_
        show fx_W _ _ _ 33 lv9 [] _ _
        exact fx_rn aj_d88 rfl ⟨(), rfl, 0, rfl⟩
def gx_90 (p0 : Nat) (X : fx_X) (v : Int32) (X' : fx_X) : Prop :=
  ∃ (w3 : Int32) (X2 : fx_X), gx_4 p0 (X.1 p0 11) X w3 X2 ∧ ∃ x4 : Int32, x4 = ((X.1 p0 13) * w3) ∧ (if 1024 < (x4).toInt then (v = (Int32.ofInt 0) ∧ X' = X2) else ((if ((X2.1 p0 11)).toInt < 8 then (∃ X8 : fx_X, X8 = (fx_wI X2 p0 13 x4) ∧ ∃ X9 : fx_X, X9 = (fx_wI X8 p0 11 ((X8.1 p0 11) + (Int32.ofInt 1))) ∧ v = (Int32.ofInt 1) ∧ X' = X9) else (v = (Int32.ofInt 0) ∧ X' = X2))))
theorem gx_90_ok {tb : aj_T} (p0 : Nat) {X : fx_X} : fx_K tb 90 [.ref p0] X (fx_Q fx_qI (fun v X' => gx_90 p0 X v X')) := by
  refine fx_m aj_m90_at rfl (fun N => ?_)
  refine fx_mono (Q := fx_Q fx_qI (fun v X' => ∃ n : Nat, gx_90 p0 X v X')) (fun r X' ⟨v, e, _, z⟩ => ⟨v, e, z⟩) ?_
  unfold gx_90
  show fx_W _ _ _ 0 [(0, .ref p0)] [] _ _
  obtain ⟨lv1, elv1⟩ : ∃ l : aj_V, l = [(0, .ref p0)] := ⟨_, rfl⟩
  rw [← elv1]
  have hlv1_0 : aj_lv lv1 0 = some (.ref p0) := by rw [elv1]; rfl
  refine fx_i2 aj_d90 rfl (Nat.le_succ _) (fun _ => rfl) hlv1_0 ?_
  refine fx_gI aj_d90 rfl (Nat.le_succ _) rfl rfl (Or.inl rfl) ?_
  refine fx_i2 aj_d90 rfl (Nat.le_succ _) (fun _ => rfl) hlv1_0 ?_
  refine fx_i2 aj_d90 rfl (Nat.le_succ _) (fun _ => rfl) hlv1_0 ?_
  refine fx_gI aj_d90 rfl (Nat.le_succ _) rfl rfl (Or.inl rfl) ?_
  refine fx_cv aj_d90 rfl (Nat.le_succ _) rfl [_] rfl rfl (gx_4_ok p0 (X.1 p0 11)) ?_
  rintro _ X2 ⟨w3, rfl, hR2⟩ hok2 hle2
  refine fx_qc hR2 ?_
  show fx_W _ _ _ 12 lv1 [.int w3, .int (X.1 p0 13)] _ _
  refine fx_n (pc' := 13) (lv' := lv1) (st' := [.int ((X.1 p0 13) * w3)]) aj_d90 rfl (Nat.le_succ _) (fun _ => rfl) ?_
  refine fx_qxI (fun x4 ex4 => ?_)
  refine fx_s0 (j := 1) aj_d90 rfl (Nat.le_succ _) (by decide) (fun _ => rfl) ?_
  obtain ⟨lv5, elv5⟩ : ∃ l, l = aj_set1 lv1 1 (.int x4) := ⟨_, rfl⟩
  rw [← elv5]
  have hlv5_0 : aj_lv lv5 0 = some (.ref p0) := fx_e1 elv5 hlv1_0 (by decide) (Or.inr rfl)
  have hlv5_1 : aj_lv lv5 1 = some (.int x4) := by rw [elv5]; exact ak_set1_eq _ _ _
  show fx_W _ _ _ 14 lv5 [] _ _
  refine fx_i0 aj_d90 rfl (Nat.le_succ _) (fun _ => rfl) hlv5_1 ?_
  refine fx_n (pc' := 18) (lv' := lv5) (st' := [.int ((Int16.ofInt 1024).toInt32), .int x4]) aj_d90 rfl (Nat.le_succ _) (fun _ => rfl) ?_
  refine fx_b (tgt := 30) aj_d90 rfl (Nat.le_succ _) rfl (fun q6 => ?_) (fun q6 => ?_)
  · skip
    refine fx_qi (c := 1024 < (x4).toInt) (fx_t_gt q6) ?_
    show fx_W _ _ _ 30 lv5 [] _ _
    refine fx_n (pc' := 31) (lv' := lv5) (st' := [.int (Int32.ofInt 0)]) aj_d90 rfl (Nat.le_succ _) (fun _ => rfl) ?_
    exact fx_ri aj_d90 rfl ⟨_, rfl, 0, rfl, rfl⟩
  · skip
    refine fx_qe (c := 1024 < (x4).toInt) (fx_f_gt q6) ?_
    show fx_W _ _ _ 21 lv5 [] _ _
    refine fx_i2 aj_d90 rfl (Nat.le_succ _) (fun _ => rfl) hlv5_0 ?_
    refine fx_gI aj_d90 rfl (Nat.le_succ _) rfl rfl (Or.inl rfl) ?_
    refine fx_n (pc' := 27) (lv' := lv5) (st' := [.int ((Int8.ofInt 8).toInt32), .int (X2.1 p0 11)]) aj_d90 rfl (Nat.le_succ _) (fun _ => rfl) ?_
    refine fx_b (tgt := 32) aj_d90 rfl (Nat.le_succ _) rfl (fun q7 => ?_) (fun q7 => ?_)
    · skip
      refine fx_qi (c := ((X2.1 p0 11)).toInt < 8) (fx_t_lt q7) ?_
      show fx_W _ _ _ 32 lv5 [] _ _
      refine fx_i2 aj_d90 rfl (Nat.le_succ _) (fun _ => rfl) hlv5_0 ?_
      refine fx_i0 aj_d90 rfl (Nat.le_succ _) (fun _ => rfl) hlv5_1 ?_
      refine fx_pI aj_d90 rfl (Nat.le_succ _) rfl rfl (Or.inl rfl) fx_no_7_13 (by decide) ?_
      refine fx_qX (fun X8 eX8 => ?_)
      show fx_W _ _ _ 37 lv5 [] _ _
      refine fx_i2 aj_d90 rfl (Nat.le_succ _) (fun _ => rfl) hlv5_0 ?_
      refine fx_n (pc' := 39) (lv' := lv5) (st' := [.ref p0, .ref p0]) aj_d90 rfl (Nat.le_succ _) (fun _ => rfl) ?_
      refine fx_gI aj_d90 rfl (Nat.le_succ _) rfl rfl (Or.inl rfl) ?_
      refine fx_n (pc' := 43) (lv' := lv5) (st' := [.int (Int32.ofInt 1), .int (X8.1 p0 11), .ref p0]) aj_d90 rfl (Nat.le_succ _) (fun _ => rfl) ?_
      refine fx_n (pc' := 44) (lv' := lv5) (st' := [.int ((X8.1 p0 11) + (Int32.ofInt 1)), .ref p0]) aj_d90 rfl (Nat.le_succ _) (fun _ => rfl) ?_
      refine fx_pI aj_d90 rfl (Nat.le_succ _) rfl rfl (Or.inl rfl) fx_no_7_11 (by decide) ?_
      refine fx_qX (fun X9 eX9 => ?_)
      show fx_W _ _ _ 47 lv5 [] _ _
      refine fx_n (pc' := 48) (lv' := lv5) (st' := [.int (Int32.ofInt 1)]) aj_d90 rfl (Nat.le_succ _) (fun _ => rfl) ?_
      exact fx_ri aj_d90 rfl ⟨_, rfl, 0, rfl, rfl⟩
    · skip
      refine fx_qe (c := ((X2.1 p0 11)).toInt < 8) (fx_f_lt q7) ?_
      show fx_W _ _ _ 30 lv5 [] _ _
      refine fx_n (pc' := 31) (lv' := lv5) (st' := [.int (Int32.ofInt 0)]) aj_d90 rfl (Nat.le_succ _) (fun _ => rfl) ?_
      exact fx_ri aj_d90 rfl ⟨_, rfl, 0, rfl, rfl⟩
def gxT_62_2 (p0 : Nat) (p1 : Int64) (P : Nat → List Int32 → List Int64 → List Nat → fx_X → Int32 → fx_X → Prop) (y3 : Int32) (X : fx_X) (v : Int32) (X' : fx_X) : Prop :=
  (if (y3).toInt < ((X.1 p0 12)).toInt then ((if (y3).toInt < 10 then ((0 ≤ (y3).toInt ∧ (y3).toInt < ((10 : Nat) : Int)) ∧ (if (X.2.1 (p0 + 9) (y3).toInt.toNat) = p1 then (v = y3 ∧ X' = X) else (∃ x9 : Int32, x9 = y3 + Int32.ofInt 1 ∧ P 2 [x9] [] [] X v X'))) else (v = (Int32.ofInt (-1)) ∧ X' = X))) else (v = (Int32.ofInt (-1)) ∧ X' = X))
def gxE_62 (p0 : Nat) (p1 : Int64) (P : Nat → List Int32 → List Int64 → List Nat → fx_X → Int32 → fx_X → Prop) (X : fx_X) (v : Int32) (X' : fx_X) : Prop :=
  P 2 [(Int32.ofInt 0)] [] [] X v X'
noncomputable def gxF_62 (p0 : Nat) (p1 : Int64) (n : Nat) : Nat → List Int32 → List Int64 → List Nat → fx_X → Int32 → fx_X → Prop := Nat.rec (motive := fun _ => Nat → List Int32 → List Int64 → List Nat → fx_X → Int32 → fx_X → Prop) (fun _ _ _ _ _ _ _ => False) (fun _ P l is ls rs X v X' => (l = 2 ∧ ∃ (y3 : Int32), is = [y3] ∧ ls = [] ∧ rs = [] ∧ gxT_62_2 p0 p1 P y3 X v X')) n
theorem gxI_62_2 {p0 : Nat} {p1 : Int64} {n : Nat} {y3 : Int32} {X : fx_X} {v : Int32} {X' : fx_X} (h : gxT_62_2 p0 p1 (gxF_62 p0 p1 n) y3 X v X') : gxF_62 p0 p1 (n + 1) 2 [y3] [] [] X v X' := ⟨rfl, y3, rfl, rfl, rfl, h⟩
theorem gxO_62_2 {p0 : Nat} {p1 : Int64} {n : Nat} {y3 : Int32} {X : fx_X} {v : Int32} {X' : fx_X} (h : gxF_62 p0 p1 (n + 1) 2 [y3] [] [] X v X') : gxT_62_2 p0 p1 (gxF_62 p0 p1 n) y3 X v X' := by
  rcases h with ⟨-, _, e1, e2, e3, h⟩
  · cases e1; cases e2; cases e3; exact h
def gx_62 (p0 : Nat) (p1 : Int64) (X : fx_X) (v : Int32) (X' : fx_X) : Prop := ∃ n : Nat, gxE_62 p0 p1 (gxF_62 p0 p1 n) X v X'
theorem gxL_62 {tb : aj_T} (p0 : Nat) (p1 : Int64) : ∀ N : Nat, (∀ (lv : aj_V) (y3 : Int32) (X : fx_X), aj_lv lv 0 = some (.ref p0) → aj_lv lv 1 = some (.long p1) → aj_lv lv 3 = some (.int y3) → fx_W tb aj_m62 N 2 lv [] X (fx_Q fx_qI (fun v X' => ∃ n : Nat, gxF_62 p0 p1 n 2 [y3] [] [] X v X'))) := by
  intro N
  induction N with
  | zero => exact (by intros; exact fx_z)
  | succ N ih =>
    skip
    · intro lv y3 X hlv_0 hlv_1 hlv_3
      refine fx_mono (Q := fx_Q fx_qI (fun v X' => ∃ n : Nat, gxT_62_2 p0 p1 (gxF_62 p0 p1 n) y3 X v X')) (fun r X' ⟨v, e, n, z⟩ => ⟨v, e, n + 1, gxI_62_2 z⟩) ?_
      unfold gxT_62_2
      refine fx_i0 aj_d62 rfl (Nat.le_refl _) (fun _ => rfl) hlv_3 ?_
      refine fx_i2 aj_d62 rfl (Nat.le_succ _) (fun _ => rfl) hlv_0 ?_
      refine fx_gI aj_d62 rfl (Nat.le_succ _) rfl rfl (Or.inl rfl) ?_
      refine fx_b (tgt := 38) aj_d62 rfl (Nat.le_succ _) rfl (fun q3 => ?_) (fun q3 => ?_)
      · skip
        refine fx_qe (c := (y3).toInt < ((X.1 p0 12)).toInt) (fx_t_ge q3) ?_
        show fx_W _ _ _ 38 lv [] _ _
        refine fx_n (pc' := 39) (lv' := lv) (st' := [.int (Int32.ofInt (-1))]) aj_d62 rfl (Nat.le_succ _) (fun _ => rfl) ?_
        exact fx_ri aj_d62 rfl ⟨_, rfl, 0, rfl, rfl⟩
      · skip
        refine fx_qi (c := (y3).toInt < ((X.1 p0 12)).toInt) (fx_f_ge q3) ?_
        show fx_W _ _ _ 10 lv [] _ _
        refine fx_i0 aj_d62 rfl (Nat.le_succ _) (fun _ => rfl) hlv_3 ?_
        refine fx_i2 aj_d62 rfl (Nat.le_succ _) (fun _ => rfl) hlv_0 ?_
        refine fx_gF aj_d62 rfl (Nat.le_succ _) rfl rfl fx_in_7_8 (t := (p0 + 9)) rfl (fun hA4 => ?_)
        refine fx_al aj_d62 rfl (Nat.le_succ _) ?_
        rw [(hA4 : X.2.2.2.1 (p0 + 9) = (1, 10))]
        show fx_W _ _ _ 16 lv [.int (Int32.ofNat 10), .int y3] _ _
        refine fx_b (tgt := 38) aj_d62 rfl (Nat.le_succ _) rfl (fun q5 => ?_) (fun q5 => ?_)
        · skip
          refine fx_qe (c := (y3).toInt < 10) (fx_t_ge q5) ?_
          show fx_W _ _ _ 38 lv [] _ _
          refine fx_n (pc' := 39) (lv' := lv) (st' := [.int (Int32.ofInt (-1))]) aj_d62 rfl (Nat.le_succ _) (fun _ => rfl) ?_
          exact fx_ri aj_d62 rfl ⟨_, rfl, 0, rfl, rfl⟩
        · skip
          refine fx_qi (c := (y3).toInt < 10) (fx_f_ge q5) ?_
          show fx_W _ _ _ 19 lv [] _ _
          refine fx_i2 aj_d62 rfl (Nat.le_succ _) (fun _ => rfl) hlv_0 ?_
          refine fx_gF aj_d62 rfl (Nat.le_succ _) rfl rfl fx_in_7_8 (t := (p0 + 9)) rfl (fun hA6 => ?_)
          refine fx_i0 aj_d62 rfl (Nat.le_succ _) (fun _ => rfl) hlv_3 ?_
          refine fx_ldL aj_d62 rfl (Nat.le_succ _) (fun g70 g71 => ?_)
          show fx_W _ _ _ 25 lv [.long (X.2.1 (p0 + 9) (y3).toInt.toNat)] _ _
          refine fx_qa (c := 0 ≤ (y3).toInt ∧ (y3).toInt < ((10 : Nat) : Int)) ⟨g70, fx_lnk g71 hA6⟩ ?_
          refine fx_i1 aj_d62 rfl (Nat.le_succ _) (fun _ => rfl) hlv_1 ?_
          refine fx_n (pc' := 27) (lv' := lv) (st' := [.int (lg_cmp (X.2.1 (p0 + 9) (y3).toInt.toNat) p1)]) aj_d62 rfl (Nat.le_succ _) (fun _ => rfl) ?_
          refine fx_b0 (tgt := 32) aj_d62 rfl (Nat.le_succ _) rfl (fun q8 => ?_) (fun q8 => ?_)
          · skip
            refine fx_qe (c := (X.2.1 (p0 + 9) (y3).toInt.toNat) = p1) (fun z => (fx_t_ne q8) (fx_lc.mpr z)) ?_
            show fx_W _ _ _ 32 lv [] _ _
            refine fx_incq aj_d62 rfl (Nat.le_succ _) hlv_3 (by decide) (fun x9 ex9 => ?_)
            obtain ⟨lv10, elv10⟩ : ∃ l, l = aj_set1 lv 3 (.int x9) := ⟨_, rfl⟩
            rw [← elv10]
            have hlv10_0 : aj_lv lv10 0 = some (.ref p0) := fx_e1 elv10 hlv_0 (by decide) (Or.inl (by decide))
            have hlv10_1 : aj_lv lv10 1 = some (.long p1) := fx_e1 elv10 hlv_1 (by decide) (Or.inl (by decide))
            have hlv10_3 : aj_lv lv10 3 = some (.int x9) := by rw [elv10]; exact ak_set1_eq _ _ _
            show fx_W _ _ _ 35 lv10 [] _ _
            refine fx_n (pc' := 2) (lv' := lv10) (st' := []) aj_d62 rfl (Nat.le_succ _) (fun _ => rfl) ?_
            exact (ih) lv10 (x9) X  hlv10_0 hlv10_1 hlv10_3
          · skip
            refine fx_qi (c := (X.2.1 (p0 + 9) (y3).toInt.toNat) = p1) (fx_lc.mp (fx_f_ne q8)) ?_
            show fx_W _ _ _ 30 lv [] _ _
            refine fx_i0 aj_d62 rfl (Nat.le_succ _) (fun _ => rfl) hlv_3 ?_
            exact fx_ri aj_d62 rfl ⟨_, rfl, 0, rfl, rfl⟩
theorem gx_62_ok {tb : aj_T} (p0 : Nat) (p1 : Int64) {X : fx_X} : fx_K tb 62 [.ref p0, .long p1] X (fx_Q fx_qI (fun v X' => gx_62 p0 p1 X v X')) := by
  refine fx_m aj_m62_at rfl (fun N => ?_)
  refine fx_mono (Q := fx_Q fx_qI (fun v X' => ∃ n : Nat, gxE_62 p0 p1 (gxF_62 p0 p1 n) X v X')) (fun r X' h => h) ?_
  unfold gxE_62
  show fx_W _ _ _ 0 [(0, .ref p0), (1, .long p1)] [] _ _
  obtain ⟨lv1, elv1⟩ : ∃ l : aj_V, l = [(0, .ref p0), (1, .long p1)] := ⟨_, rfl⟩
  rw [← elv1]
  have hlv1_0 : aj_lv lv1 0 = some (.ref p0) := by rw [elv1]; rfl
  have hlv1_1 : aj_lv lv1 1 = some (.long p1) := by rw [elv1]; rfl
  refine fx_n (pc' := 1) (lv' := lv1) (st' := [.int (Int32.ofInt 0)]) aj_d62 rfl (Nat.le_succ _) (fun _ => rfl) ?_
  refine fx_s0 (j := 3) aj_d62 rfl (Nat.le_succ _) (by decide) (fun _ => rfl) ?_
  obtain ⟨lv2, elv2⟩ : ∃ l, l = aj_set1 lv1 3 (.int (Int32.ofInt 0)) := ⟨_, rfl⟩
  rw [← elv2]
  have hlv2_0 : aj_lv lv2 0 = some (.ref p0) := fx_e1 elv2 hlv1_0 (by decide) (Or.inl (by decide))
  have hlv2_1 : aj_lv lv2 1 = some (.long p1) := fx_e1 elv2 hlv1_1 (by decide) (Or.inl (by decide))
  have hlv2_3 : aj_lv lv2 3 = some (.int (Int32.ofInt 0)) := by rw [elv2]; exact ak_set1_eq _ _ _
  show fx_W _ _ _ 2 lv2 [] _ _
  exact ((gxL_62 p0 p1 N)) lv2 ((Int32.ofInt 0)) X  hlv2_0 hlv2_1 hlv2_3
def gx_91 (p1 : Int32) (X : fx_X) (v : Int32) (X' : fx_X) : Prop :=
  ∃ b3 : Nat, X.2.2.1 91 2 = some b3 ∧ ∃ (w7 : Int64) (X6 : fx_X), gx_60 p1 X w7 X6 ∧ ∃ (w9 : Int32) (X8 : fx_X), gx_62 b3 w7 X6 w9 X8 ∧ (if (w9).toInt < 0 then (v = (Int32.ofInt 1) ∧ X' = X8) else (∃ (w12 : Unit) (X11 : fx_X), gx_64 (Int32.ofInt 3) p1 X8 w12 X11 ∧ v = (Int32.ofInt 0) ∧ X' = X11))
theorem gx_91_ok {tb : aj_T} (p1 : Int32) {X : fx_X} : fx_K tb 91 [.ref 91, .int p1] X (fx_Q fx_qI (fun v X' => gx_91 p1 X v X')) := by
  refine fx_m aj_m91_at rfl (fun N => ?_)
  refine fx_mono (Q := fx_Q fx_qI (fun v X' => ∃ n : Nat, gx_91 p1 X v X')) (fun r X' ⟨v, e, _, z⟩ => ⟨v, e, z⟩) ?_
  unfold gx_91
  show fx_W _ _ _ 0 [(0, .ref 91), (1, .int p1)] [] _ _
  obtain ⟨lv1, elv1⟩ : ∃ l : aj_V, l = [(0, .ref 91), (1, .int p1)] := ⟨_, rfl⟩
  rw [← elv1]
  have hlv1_0 : aj_lv lv1 0 = some (.ref 91) := by rw [elv1]; rfl
  have hlv1_1 : aj_lv lv1 1 = some (.int p1) := by rw [elv1]; rfl
  refine fx_i2 aj_d91 rfl (Nat.le_succ _) (fun _ => rfl) hlv1_0 ?_
  refine fx_gR aj_d91 rfl (Nat.le_succ _) rfl rfl (Or.inl ⟨_, rfl⟩) (fun q2 _ => ?_) (fun b3 q2 => ?_)
  · skip
    show fx_W _ _ _ 4 lv1 [.null] _ _
    refine fx_i2 aj_d91 rfl (Nat.le_succ _) (fun _ => rfl) hlv1_0 ?_
    refine fx_i0 aj_d91 rfl (Nat.le_succ _) (fun _ => rfl) hlv1_1 ?_
    refine fx_cv aj_d91 rfl (Nat.le_succ _) rfl [_] rfl rfl (gx_60_ok p1) ?_
    rintro _ X4 ⟨w5, rfl, hR4⟩ hok4 hle4
    show fx_W _ _ _ 9 lv1 [.long w5, .null] _ _
    exact fx_d aj_d91 rfl (fun _ => rfl)
  · skip
    refine fx_qs q2 ?_
    show fx_W _ _ _ 4 lv1 [.ref b3] _ _
    refine fx_i2 aj_d91 rfl (Nat.le_succ _) (fun _ => rfl) hlv1_0 ?_
    refine fx_i0 aj_d91 rfl (Nat.le_succ _) (fun _ => rfl) hlv1_1 ?_
    refine fx_cv aj_d91 rfl (Nat.le_succ _) rfl [_] rfl rfl (gx_60_ok p1) ?_
    rintro _ X6 ⟨w7, rfl, hR6⟩ hok6 hle6
    refine fx_qc hR6 ?_
    show fx_W _ _ _ 9 lv1 [.long w7, .ref b3] _ _
    refine fx_cv aj_d91 rfl (Nat.le_succ _) rfl [_] rfl rfl (gx_62_ok b3 w7) ?_
    rintro _ X8 ⟨w9, rfl, hR8⟩ hok8 hle8
    refine fx_qc hR8 ?_
    show fx_W _ _ _ 12 lv1 [.int w9] _ _
    refine fx_b0 (tgt := 23) aj_d91 rfl (Nat.le_succ _) rfl (fun q10 => ?_) (fun q10 => ?_)
    · skip
      refine fx_qi (c := (w9).toInt < 0) (fx_t_lt q10) ?_
      show fx_W _ _ _ 23 lv1 [] _ _
      refine fx_n (pc' := 24) (lv' := lv1) (st' := [.int (Int32.ofInt 1)]) aj_d91 rfl (Nat.le_succ _) (fun _ => rfl) ?_
      exact fx_ri aj_d91 rfl ⟨_, rfl, 0, rfl, rfl⟩
    · skip
      refine fx_qe (c := (w9).toInt < 0) (fx_f_lt q10) ?_
      show fx_W _ _ _ 15 lv1 [] _ _
      refine fx_i2 aj_d91 rfl (Nat.le_succ _) (fun _ => rfl) hlv1_0 ?_
      refine fx_n (pc' := 17) (lv' := lv1) (st' := [.int (Int32.ofInt 3), .ref 91]) aj_d91 rfl (Nat.le_succ _) (fun _ => rfl) ?_
      refine fx_i0 aj_d91 rfl (Nat.le_succ _) (fun _ => rfl) hlv1_1 ?_
      refine fx_cv aj_d91 rfl (Nat.le_succ _) rfl [_, _] rfl rfl (gx_64_ok (Int32.ofInt 3) p1) ?_
      rintro _ X11 ⟨w12, rfl, hR11⟩ hok11 hle11
      refine fx_qc hR11 ?_
      show fx_W _ _ _ 21 lv1 [] _ _
      refine fx_n (pc' := 22) (lv' := lv1) (st' := [.int (Int32.ofInt 0)]) aj_d91 rfl (Nat.le_succ _) (fun _ => rfl) ?_
      exact fx_ri aj_d91 rfl ⟨_, rfl, 0, rfl, rfl⟩
def gx_92 (p0 : Nat) (p1 : Int64) (p2 : Int32) (X : fx_X) (v : Int32) (X' : fx_X) : Prop :=
  ∃ x2 : Int32, x2 = (X.1 p0 12) ∧ (if (x2).toInt < 10 then ((if (x2).toInt < 10 then ((if (x2).toInt < 10 then ((0 ≤ (x2).toInt ∧ (x2).toInt < ((10 : Nat) : Int)) ∧ ∃ X12 : fx_X, X12 = (fx_wL X (p0 + 9) (x2).toInt.toNat p1) ∧ (0 ≤ (x2).toInt ∧ (x2).toInt < ((10 : Nat) : Int)) ∧ ∃ X15 : fx_X, X15 = (fx_wI X12 (p0 + 11) (x2).toInt.toNat (aj_nar 2 p2)) ∧ (0 ≤ (x2).toInt ∧ (x2).toInt < ((10 : Nat) : Int)) ∧ ((X15.2.2.1 (p0 + 8) (x2).toInt.toNat = none ∧ ∃ b22 : Nat, b22 = X15.2.2.2.2 ∧ ∃ X23 : fx_X, X23 = (fx_new X15) ∧ (0 ≤ (x2).toInt ∧ (x2).toInt < ((10 : Nat) : Int)) ∧ ∃ X25 : fx_X, X25 = (fx_wR X23 (p0 + 8) (x2).toInt.toNat (some b22)) ∧ (0 ≤ (x2).toInt ∧ (x2).toInt < ((10 : Nat) : Int)) ∧ ∃ X31 : fx_X, X31 = (fx_wI X25 b22 3 (Int32.ofInt 0)) ∧ (0 ≤ (x2).toInt ∧ (x2).toInt < ((10 : Nat) : Int)) ∧ ∃ b35 : Nat, X31.2.2.1 (p0 + 8) (x2).toInt.toNat = some b35 ∧ ∃ X36 : fx_X, X36 = (fx_wI X31 b35 4 (Int32.ofInt 0)) ∧ ∃ X37 : fx_X, X37 = (fx_wI X36 p0 12 ((X36.1 p0 12) + (Int32.ofInt 1))) ∧ v = x2 ∧ X' = X37) ∨ (∃ b19 : Nat, X15.2.2.1 (p0 + 8) (x2).toInt.toNat = some b19 ∧ (0 ≤ (x2).toInt ∧ (x2).toInt < ((10 : Nat) : Int)) ∧ ∃ X42 : fx_X, X42 = (fx_wI X15 b19 3 (Int32.ofInt 0)) ∧ (0 ≤ (x2).toInt ∧ (x2).toInt < ((10 : Nat) : Int)) ∧ ∃ b46 : Nat, X42.2.2.1 (p0 + 8) (x2).toInt.toNat = some b46 ∧ ∃ X47 : fx_X, X47 = (fx_wI X42 b46 4 (Int32.ofInt 0)) ∧ ∃ X48 : fx_X, X48 = (fx_wI X47 p0 12 ((X47.1 p0 12) + (Int32.ofInt 1))) ∧ v = x2 ∧ X' = X48))) else (v = (Int32.ofInt (-1)) ∧ X' = X))) else (v = (Int32.ofInt (-1)) ∧ X' = X))) else (v = (Int32.ofInt (-1)) ∧ X' = X))
theorem gx_92_ok {tb : aj_T} (p0 : Nat) (p1 : Int64) (p2 : Int32) {X : fx_X} : fx_K tb 92 [.ref p0, .long p1, .int p2] X (fx_Q fx_qI (fun v X' => gx_92 p0 p1 p2 X v X')) := by
  refine fx_m aj_m92_at rfl (fun N => ?_)
  refine fx_mono (Q := fx_Q fx_qI (fun v X' => ∃ n : Nat, gx_92 p0 p1 p2 X v X')) (fun r X' ⟨v, e, _, z⟩ => ⟨v, e, z⟩) ?_
  unfold gx_92
  show fx_W _ _ _ 0 [(0, .ref p0), (1, .long p1), (3, .int p2)] [] _ _
  obtain ⟨lv1, elv1⟩ : ∃ l : aj_V, l = [(0, .ref p0), (1, .long p1), (3, .int p2)] := ⟨_, rfl⟩
  rw [← elv1]
  have hlv1_0 : aj_lv lv1 0 = some (.ref p0) := by rw [elv1]; rfl
  have hlv1_1 : aj_lv lv1 1 = some (.long p1) := by rw [elv1]; rfl
  have hlv1_3 : aj_lv lv1 3 = some (.int p2) := by rw [elv1]; rfl
  refine fx_i2 aj_d92 rfl (Nat.le_succ _) (fun _ => rfl) hlv1_0 ?_
  refine fx_gI aj_d92 rfl (Nat.le_succ _) rfl rfl (Or.inl rfl) ?_
  refine fx_qxI (fun x2 ex2 => ?_)
  refine fx_s0 (j := 4) aj_d92 rfl (Nat.le_succ _) (by decide) (fun _ => rfl) ?_
  obtain ⟨lv3, elv3⟩ : ∃ l, l = aj_set1 lv1 4 (.int x2) := ⟨_, rfl⟩
  rw [← elv3]
  have hlv3_0 : aj_lv lv3 0 = some (.ref p0) := fx_e1 elv3 hlv1_0 (by decide) (Or.inl (by decide))
  have hlv3_1 : aj_lv lv3 1 = some (.long p1) := fx_e1 elv3 hlv1_1 (by decide) (Or.inl (by decide))
  have hlv3_3 : aj_lv lv3 3 = some (.int p2) := fx_e1 elv3 hlv1_3 (by decide) (Or.inr rfl)
  have hlv3_4 : aj_lv lv3 4 = some (.int x2) := by rw [elv3]; exact ak_set1_eq _ _ _
  show fx_W _ _ _ 6 lv3 [] _ _
  refine fx_i0 aj_d92 rfl (Nat.le_succ _) (fun _ => rfl) hlv3_4 ?_
  refine fx_i2 aj_d92 rfl (Nat.le_succ _) (fun _ => rfl) hlv3_0 ?_
  refine fx_gF aj_d92 rfl (Nat.le_succ _) rfl rfl fx_in_7_7 (t := (p0 + 8)) rfl (fun hA4 => ?_)
  refine fx_al aj_d92 rfl (Nat.le_succ _) ?_
  rw [(hA4 : X.2.2.2.1 (p0 + 8) = (5, 10))]
  show fx_W _ _ _ 13 lv3 [.int (Int32.ofNat 10), .int x2] _ _
  refine fx_b (tgt := 36) aj_d92 rfl (Nat.le_succ _) rfl (fun q5 => ?_) (fun q5 => ?_)
  · skip
    refine fx_qe (c := (x2).toInt < 10) (fx_t_ge q5) ?_
    show fx_W _ _ _ 36 lv3 [] _ _
    refine fx_n (pc' := 37) (lv' := lv3) (st' := [.int (Int32.ofInt (-1))]) aj_d92 rfl (Nat.le_succ _) (fun _ => rfl) ?_
    exact fx_ri aj_d92 rfl ⟨_, rfl, 0, rfl, rfl⟩
  · skip
    refine fx_qi (c := (x2).toInt < 10) (fx_f_ge q5) ?_
    show fx_W _ _ _ 16 lv3 [] _ _
    refine fx_i0 aj_d92 rfl (Nat.le_succ _) (fun _ => rfl) hlv3_4 ?_
    refine fx_i2 aj_d92 rfl (Nat.le_succ _) (fun _ => rfl) hlv3_0 ?_
    refine fx_gF aj_d92 rfl (Nat.le_succ _) rfl rfl fx_in_7_8 (t := (p0 + 9)) rfl (fun hA6 => ?_)
    refine fx_al aj_d92 rfl (Nat.le_succ _) ?_
    rw [(hA6 : X.2.2.2.1 (p0 + 9) = (1, 10))]
    show fx_W _ _ _ 23 lv3 [.int (Int32.ofNat 10), .int x2] _ _
    refine fx_b (tgt := 36) aj_d92 rfl (Nat.le_succ _) rfl (fun q7 => ?_) (fun q7 => ?_)
    · skip
      refine fx_qe (c := (x2).toInt < 10) (fx_t_ge q7) ?_
      show fx_W _ _ _ 36 lv3 [] _ _
      refine fx_n (pc' := 37) (lv' := lv3) (st' := [.int (Int32.ofInt (-1))]) aj_d92 rfl (Nat.le_succ _) (fun _ => rfl) ?_
      exact fx_ri aj_d92 rfl ⟨_, rfl, 0, rfl, rfl⟩
    · skip
      refine fx_qi (c := (x2).toInt < 10) (fx_f_ge q7) ?_
      show fx_W _ _ _ 26 lv3 [] _ _
      refine fx_i0 aj_d92 rfl (Nat.le_succ _) (fun _ => rfl) hlv3_4 ?_
      refine fx_i2 aj_d92 rfl (Nat.le_succ _) (fun _ => rfl) hlv3_0 ?_
      refine fx_gF aj_d92 rfl (Nat.le_succ _) rfl rfl fx_in_7_10 (t := (p0 + 11)) rfl (fun hA8 => ?_)
      refine fx_al aj_d92 rfl (Nat.le_succ _) ?_
      rw [(hA8 : X.2.2.2.1 (p0 + 11) = (2, 10))]
      show fx_W _ _ _ 33 lv3 [.int (Int32.ofNat 10), .int x2] _ _
      refine fx_b (tgt := 38) aj_d92 rfl (Nat.le_succ _) rfl (fun q9 => ?_) (fun q9 => ?_)
      · skip
        refine fx_qi (c := (x2).toInt < 10) (fx_t_lt q9) ?_
        show fx_W _ _ _ 38 lv3 [] _ _
        refine fx_i2 aj_d92 rfl (Nat.le_succ _) (fun _ => rfl) hlv3_0 ?_
        refine fx_gF aj_d92 rfl (Nat.le_succ _) rfl rfl fx_in_7_8 (t := (p0 + 9)) rfl (fun hA10 => ?_)
        refine fx_i0 aj_d92 rfl (Nat.le_succ _) (fun _ => rfl) hlv3_4 ?_
        refine fx_i1 aj_d92 rfl (Nat.le_succ _) (fun _ => rfl) hlv3_1 ?_
        refine fx_sL aj_d92 rfl (Nat.le_succ _) (fun g110 g111 => ?_)
        refine fx_qa (c := 0 ≤ (x2).toInt ∧ (x2).toInt < ((10 : Nat) : Int)) ⟨g110, fx_lnk g111 hA10⟩ ?_
        refine fx_qX (fun X12 eX12 => ?_)
        show fx_W _ _ _ 46 lv3 [] _ _
        refine fx_i2 aj_d92 rfl (Nat.le_succ _) (fun _ => rfl) hlv3_0 ?_
        refine fx_gF aj_d92 rfl (Nat.le_succ _) rfl rfl fx_in_7_10 (t := (p0 + 11)) rfl (fun hA13 => ?_)
        refine fx_i0 aj_d92 rfl (Nat.le_succ _) (fun _ => rfl) hlv3_4 ?_
        refine fx_i0 aj_d92 rfl (Nat.le_succ _) (fun _ => rfl) hlv3_3 ?_
        refine fx_sb (kd := 2) aj_d92 rfl (Nat.le_succ _) hA13 (fun g140 g141 => ?_)
        refine fx_qa (c := 0 ≤ (x2).toInt ∧ (x2).toInt < ((10 : Nat) : Int)) ⟨g140, fx_lnk g141 hA13⟩ ?_
        refine fx_qX (fun X15 eX15 => ?_)
        show fx_W _ _ _ 54 lv3 [] _ _
        refine fx_i2 aj_d92 rfl (Nat.le_succ _) (fun _ => rfl) hlv3_0 ?_
        refine fx_gF aj_d92 rfl (Nat.le_succ _) rfl rfl fx_in_7_7 (t := (p0 + 8)) rfl (fun hA16 => ?_)
        refine fx_i0 aj_d92 rfl (Nat.le_succ _) (fun _ => rfl) hlv3_4 ?_
        refine fx_ldR aj_d92 rfl (Nat.le_succ _) (fun g170 g171 q18 => ?_) (fun g170 g171 b19 q18 => ?_)
        · skip
          refine fx_qa (c := 0 ≤ (x2).toInt ∧ (x2).toInt < ((10 : Nat) : Int)) ⟨g170, fx_lnk g171 hA16⟩ ?_
          refine fx_o1 (fx_qa (c := X15.2.2.1 (p0 + 8) (x2).toInt.toNat = none) q18 ?_)
          show fx_W _ _ _ 61 lv3 [.null] _ _
          refine fx_n (pc' := 64) (lv' := lv3) (st' := []) aj_d92 rfl (Nat.le_succ _) (fun _ => rfl) ?_
          refine fx_i2 aj_d92 rfl (Nat.le_succ _) (fun _ => rfl) hlv3_0 ?_
          refine fx_gF aj_d92 rfl (Nat.le_succ _) rfl rfl fx_in_7_7 (t := (p0 + 8)) rfl (fun hA20 => ?_)
          refine fx_i0 aj_d92 rfl (Nat.le_succ _) (fun _ => rfl) hlv3_4 ?_
          refine fx_nw aj_d92 rfl rfl rfl rfl rfl (Nat.le_succ _) (fun hn21 => ?_)
          refine fx_qy (fun b22 eb22 => ?_)
          refine fx_qX (fun X23 eX23 => ?_)
          show fx_W _ _ _ 77 lv3 [.ref b22, .int x2, .ref (p0 + 8)] _ _
          refine fx_sR aj_d92 rfl (Nat.le_succ _) (fun g240 g241 => ?_)
          refine fx_qa (c := 0 ≤ (x2).toInt ∧ (x2).toInt < ((10 : Nat) : Int)) ⟨g240, fx_lnk g241 (((show fx_le X15 X23 from by rw [eX23]; exact hn21).2 _ (by rw [hA20]; decide)).trans hA20)⟩ ?_
          refine fx_qX (fun X25 eX25 => ?_)
          show fx_W _ _ _ 78 lv3 [] _ _
          have kn26 : X25.2.2.1 (p0 + 8) (x2).toInt.toNat = some b22 := by rw [eX25]; exact if_pos ⟨rfl, rfl⟩
          refine fx_i2 aj_d92 rfl (Nat.le_succ _) (fun _ => rfl) hlv3_0 ?_
          refine fx_gF aj_d92 rfl (Nat.le_succ _) rfl rfl fx_in_7_7 (t := (p0 + 8)) rfl (fun hA27 => ?_)
          refine fx_i0 aj_d92 rfl (Nat.le_succ _) (fun _ => rfl) hlv3_4 ?_
          refine fx_ldR aj_d92 rfl (Nat.le_succ _) (fun g280 g281 q29 => ?_) (fun g280 g281 b30 q29 => ?_)
          · exact absurd (q29.symm.trans kn26) (by simp)
          · skip
            obtain rfl : b22 = b30 := Option.some.inj (kn26.symm.trans q29)
            refine fx_qa (c := 0 ≤ (x2).toInt ∧ (x2).toInt < ((10 : Nat) : Int)) ⟨g280, fx_lnk g281 hA27⟩ ?_
            show fx_W _ _ _ 85 lv3 [.ref b22] _ _
            refine fx_n (pc' := 86) (lv' := lv3) (st' := [.int (Int32.ofInt 0), .ref b22]) aj_d92 rfl (Nat.le_succ _) (fun _ => rfl) ?_
            refine fx_pI aj_d92 rfl (Nat.le_succ _) rfl rfl (Or.inl rfl) fx_no_6_3 (by decide) ?_
            refine fx_qX (fun X31 eX31 => ?_)
            show fx_W _ _ _ 89 lv3 [] _ _
            refine fx_i2 aj_d92 rfl (Nat.le_succ _) (fun _ => rfl) hlv3_0 ?_
            refine fx_gF aj_d92 rfl (Nat.le_succ _) rfl rfl fx_in_7_7 (t := (p0 + 8)) rfl (fun hA32 => ?_)
            refine fx_i0 aj_d92 rfl (Nat.le_succ _) (fun _ => rfl) hlv3_4 ?_
            refine fx_ldR aj_d92 rfl (Nat.le_succ _) (fun g330 g331 q34 => ?_) (fun g330 g331 b35 q34 => ?_)
            · skip
              show fx_W _ _ _ 96 lv3 [.null] _ _
              refine fx_n (pc' := 97) (lv' := lv3) (st' := [.int (Int32.ofInt 0), .null]) aj_d92 rfl (Nat.le_succ _) (fun _ => rfl) ?_
              exact fx_d aj_d92 rfl (fun _ => rfl)
            · skip
              refine fx_qa (c := 0 ≤ (x2).toInt ∧ (x2).toInt < ((10 : Nat) : Int)) ⟨g330, fx_lnk g331 hA32⟩ ?_
              refine fx_qs q34 ?_
              show fx_W _ _ _ 96 lv3 [.ref b35] _ _
              refine fx_n (pc' := 97) (lv' := lv3) (st' := [.int (Int32.ofInt 0), .ref b35]) aj_d92 rfl (Nat.le_succ _) (fun _ => rfl) ?_
              refine fx_pI aj_d92 rfl (Nat.le_succ _) rfl rfl (Or.inl rfl) fx_no_6_4 (by decide) ?_
              refine fx_qX (fun X36 eX36 => ?_)
              show fx_W _ _ _ 100 lv3 [] _ _
              refine fx_i2 aj_d92 rfl (Nat.le_succ _) (fun _ => rfl) hlv3_0 ?_
              refine fx_n (pc' := 102) (lv' := lv3) (st' := [.ref p0, .ref p0]) aj_d92 rfl (Nat.le_succ _) (fun _ => rfl) ?_
              refine fx_gI aj_d92 rfl (Nat.le_succ _) rfl rfl (Or.inl rfl) ?_
              refine fx_n (pc' := 106) (lv' := lv3) (st' := [.int (Int32.ofInt 1), .int (X36.1 p0 12), .ref p0]) aj_d92 rfl (Nat.le_succ _) (fun _ => rfl) ?_
              refine fx_n (pc' := 107) (lv' := lv3) (st' := [.int ((X36.1 p0 12) + (Int32.ofInt 1)), .ref p0]) aj_d92 rfl (Nat.le_succ _) (fun _ => rfl) ?_
              refine fx_pI aj_d92 rfl (Nat.le_succ _) rfl rfl (Or.inl rfl) fx_no_7_12 (by decide) ?_
              refine fx_qX (fun X37 eX37 => ?_)
              show fx_W _ _ _ 110 lv3 [] _ _
              refine fx_i0 aj_d92 rfl (Nat.le_succ _) (fun _ => rfl) hlv3_4 ?_
              exact fx_ri aj_d92 rfl ⟨_, rfl, 0, rfl, rfl⟩
        · skip
          refine fx_qa (c := 0 ≤ (x2).toInt ∧ (x2).toInt < ((10 : Nat) : Int)) ⟨g170, fx_lnk g171 hA16⟩ ?_
          refine fx_o2 (fx_qs q18 ?_)
          show fx_W _ _ _ 61 lv3 [.ref b19] _ _
          refine fx_n (pc' := 78) (lv' := lv3) (st' := []) aj_d92 rfl (Nat.le_succ _) (fun _ => rfl) ?_
          refine fx_i2 aj_d92 rfl (Nat.le_succ _) (fun _ => rfl) hlv3_0 ?_
          refine fx_gF aj_d92 rfl (Nat.le_succ _) rfl rfl fx_in_7_7 (t := (p0 + 8)) rfl (fun hA38 => ?_)
          refine fx_i0 aj_d92 rfl (Nat.le_succ _) (fun _ => rfl) hlv3_4 ?_
          refine fx_ldR aj_d92 rfl (Nat.le_succ _) (fun g390 g391 q40 => ?_) (fun g390 g391 b41 q40 => ?_)
          · exact absurd (q40.symm.trans q18) (by simp)
          · skip
            obtain rfl : b19 = b41 := Option.some.inj (q18.symm.trans q40)
            refine fx_qa (c := 0 ≤ (x2).toInt ∧ (x2).toInt < ((10 : Nat) : Int)) ⟨g390, fx_lnk g391 hA38⟩ ?_
            show fx_W _ _ _ 85 lv3 [.ref b19] _ _
            refine fx_n (pc' := 86) (lv' := lv3) (st' := [.int (Int32.ofInt 0), .ref b19]) aj_d92 rfl (Nat.le_succ _) (fun _ => rfl) ?_
            refine fx_pI aj_d92 rfl (Nat.le_succ _) rfl rfl (Or.inl rfl) fx_no_6_3 (by decide) ?_
            refine fx_qX (fun X42 eX42 => ?_)
            show fx_W _ _ _ 89 lv3 [] _ _
            refine fx_i2 aj_d92 rfl (Nat.le_succ _) (fun _ => rfl) hlv3_0 ?_
            refine fx_gF aj_d92 rfl (Nat.le_succ _) rfl rfl fx_in_7_7 (t := (p0 + 8)) rfl (fun hA43 => ?_)
            refine fx_i0 aj_d92 rfl (Nat.le_succ _) (fun _ => rfl) hlv3_4 ?_
            refine fx_ldR aj_d92 rfl (Nat.le_succ _) (fun g440 g441 q45 => ?_) (fun g440 g441 b46 q45 => ?_)
            · skip
              show fx_W _ _ _ 96 lv3 [.null] _ _
              refine fx_n (pc' := 97) (lv' := lv3) (st' := [.int (Int32.ofInt 0), .null]) aj_d92 rfl (Nat.le_succ _) (fun _ => rfl) ?_
              exact fx_d aj_d92 rfl (fun _ => rfl)
            · skip
              refine fx_qa (c := 0 ≤ (x2).toInt ∧ (x2).toInt < ((10 : Nat) : Int)) ⟨g440, fx_lnk g441 hA43⟩ ?_
              refine fx_qs q45 ?_
              show fx_W _ _ _ 96 lv3 [.ref b46] _ _
              refine fx_n (pc' := 97) (lv' := lv3) (st' := [.int (Int32.ofInt 0), .ref b46]) aj_d92 rfl (Nat.le_succ _) (fun _ => rfl) ?_
              refine fx_pI aj_d92 rfl (Nat.le_succ _) rfl rfl (Or.inl rfl) fx_no_6_4 (by decide) ?_
              refine fx_qX (fun X47 eX47 => ?_)
              show fx_W _ _ _ 100 lv3 [] _ _
              refine fx_i2 aj_d92 rfl (Nat.le_succ _) (fun _ => rfl) hlv3_0 ?_
              refine fx_n (pc' := 102) (lv' := lv3) (st' := [.ref p0, .ref p0]) aj_d92 rfl (Nat.le_succ _) (fun _ => rfl) ?_
              refine fx_gI aj_d92 rfl (Nat.le_succ _) rfl rfl (Or.inl rfl) ?_
              refine fx_n (pc' := 106) (lv' := lv3) (st' := [.int (Int32.ofInt 1), .int (X47.1 p0 12), .ref p0]) aj_d92 rfl (Nat.le_succ _) (fun _ => rfl) ?_
              refine fx_n (pc' := 107) (lv' := lv3) (st' := [.int ((X47.1 p0 12) + (Int32.ofInt 1)), .ref p0]) aj_d92 rfl (Nat.le_succ _) (fun _ => rfl) ?_
              refine fx_pI aj_d92 rfl (Nat.le_succ _) rfl rfl (Or.inl rfl) fx_no_7_12 (by decide) ?_
              refine fx_qX (fun X48 eX48 => ?_)
              show fx_W _ _ _ 110 lv3 [] _ _
              refine fx_i0 aj_d92 rfl (Nat.le_succ _) (fun _ => rfl) hlv3_4 ?_
              exact fx_ri aj_d92 rfl ⟨_, rfl, 0, rfl, rfl⟩
      · skip
        refine fx_qe (c := (x2).toInt < 10) (fx_f_lt q9) ?_
        show fx_W _ _ _ 36 lv3 [] _ _
        refine fx_n (pc' := 37) (lv' := lv3) (st' := [.int (Int32.ofInt (-1))]) aj_d92 rfl (Nat.le_succ _) (fun _ => rfl) ?_
        exact fx_ri aj_d92 rfl ⟨_, rfl, 0, rfl, rfl⟩
def gx_63 (p0 : Nat) (p1 : Int32) (X : fx_X) (v : (Option Nat)) (X' : fx_X) : Prop :=
  (if (p1).toInt < 0 then (v = none ∧ X' = X) else ((if (p1).toInt < ((X.1 p0 12)).toInt then ((if (p1).toInt < 10 then ((0 ≤ (p1).toInt ∧ (p1).toInt < ((10 : Nat) : Int)) ∧ ((X.2.2.1 (p0 + 8) (p1).toInt.toNat = none ∧ v = none ∧ X' = X) ∨ (∃ b9 : Nat, X.2.2.1 (p0 + 8) (p1).toInt.toNat = some b9 ∧ v = some b9 ∧ X' = X))) else (v = none ∧ X' = X))) else (v = none ∧ X' = X))))
theorem gx_63_ok {tb : aj_T} (p0 : Nat) (p1 : Int32) {X : fx_X} : fx_K tb 63 [.ref p0, .int p1] X (fx_Q fx_qR (fun v X' => gx_63 p0 p1 X v X')) := by
  refine fx_m aj_m63_at rfl (fun N => ?_)
  refine fx_mono (Q := fx_Q fx_qR (fun v X' => ∃ n : Nat, gx_63 p0 p1 X v X')) (fun r X' ⟨v, e, _, z⟩ => ⟨v, e, z⟩) ?_
  unfold gx_63
  show fx_W _ _ _ 0 [(0, .ref p0), (1, .int p1)] [] _ _
  obtain ⟨lv1, elv1⟩ : ∃ l : aj_V, l = [(0, .ref p0), (1, .int p1)] := ⟨_, rfl⟩
  rw [← elv1]
  have hlv1_0 : aj_lv lv1 0 = some (.ref p0) := by rw [elv1]; rfl
  have hlv1_1 : aj_lv lv1 1 = some (.int p1) := by rw [elv1]; rfl
  refine fx_i0 aj_d63 rfl (Nat.le_succ _) (fun _ => rfl) hlv1_1 ?_
  refine fx_b0 (tgt := 30) aj_d63 rfl (Nat.le_succ _) rfl (fun q2 => ?_) (fun q2 => ?_)
  · skip
    refine fx_qi (c := (p1).toInt < 0) (fx_t_lt q2) ?_
    show fx_W _ _ _ 30 lv1 [] _ _
    refine fx_n (pc' := 31) (lv' := lv1) (st' := [.null]) aj_d63 rfl (Nat.le_succ _) (fun _ => rfl) ?_
    exact fx_ra0 aj_d63 rfl ⟨none, rfl, 0, rfl, rfl⟩
  · skip
    refine fx_qe (c := (p1).toInt < 0) (fx_f_lt q2) ?_
    show fx_W _ _ _ 4 lv1 [] _ _
    refine fx_i0 aj_d63 rfl (Nat.le_succ _) (fun _ => rfl) hlv1_1 ?_
    refine fx_i2 aj_d63 rfl (Nat.le_succ _) (fun _ => rfl) hlv1_0 ?_
    refine fx_gI aj_d63 rfl (Nat.le_succ _) rfl rfl (Or.inl rfl) ?_
    refine fx_b (tgt := 30) aj_d63 rfl (Nat.le_succ _) rfl (fun q3 => ?_) (fun q3 => ?_)
    · skip
      refine fx_qe (c := (p1).toInt < ((X.1 p0 12)).toInt) (fx_t_ge q3) ?_
      show fx_W _ _ _ 30 lv1 [] _ _
      refine fx_n (pc' := 31) (lv' := lv1) (st' := [.null]) aj_d63 rfl (Nat.le_succ _) (fun _ => rfl) ?_
      exact fx_ra0 aj_d63 rfl ⟨none, rfl, 0, rfl, rfl⟩
    · skip
      refine fx_qi (c := (p1).toInt < ((X.1 p0 12)).toInt) (fx_f_ge q3) ?_
      show fx_W _ _ _ 12 lv1 [] _ _
      refine fx_i0 aj_d63 rfl (Nat.le_succ _) (fun _ => rfl) hlv1_1 ?_
      refine fx_i2 aj_d63 rfl (Nat.le_succ _) (fun _ => rfl) hlv1_0 ?_
      refine fx_gF aj_d63 rfl (Nat.le_succ _) rfl rfl fx_in_7_7 (t := (p0 + 8)) rfl (fun hA4 => ?_)
      refine fx_al aj_d63 rfl (Nat.le_succ _) ?_
      rw [(hA4 : X.2.2.2.1 (p0 + 8) = (5, 10))]
      show fx_W _ _ _ 18 lv1 [.int (Int32.ofNat 10), .int p1] _ _
      refine fx_b (tgt := 30) aj_d63 rfl (Nat.le_succ _) rfl (fun q5 => ?_) (fun q5 => ?_)
      · skip
        refine fx_qe (c := (p1).toInt < 10) (fx_t_ge q5) ?_
        show fx_W _ _ _ 30 lv1 [] _ _
        refine fx_n (pc' := 31) (lv' := lv1) (st' := [.null]) aj_d63 rfl (Nat.le_succ _) (fun _ => rfl) ?_
        exact fx_ra0 aj_d63 rfl ⟨none, rfl, 0, rfl, rfl⟩
      · skip
        refine fx_qi (c := (p1).toInt < 10) (fx_f_ge q5) ?_
        show fx_W _ _ _ 21 lv1 [] _ _
        refine fx_i2 aj_d63 rfl (Nat.le_succ _) (fun _ => rfl) hlv1_0 ?_
        refine fx_gF aj_d63 rfl (Nat.le_succ _) rfl rfl fx_in_7_7 (t := (p0 + 8)) rfl (fun hA6 => ?_)
        refine fx_i0 aj_d63 rfl (Nat.le_succ _) (fun _ => rfl) hlv1_1 ?_
        refine fx_ldR aj_d63 rfl (Nat.le_succ _) (fun g70 g71 q8 => ?_) (fun g70 g71 b9 q8 => ?_)
        · skip
          refine fx_qa (c := 0 ≤ (p1).toInt ∧ (p1).toInt < ((10 : Nat) : Int)) ⟨g70, fx_lnk g71 hA6⟩ ?_
          refine fx_o1 (fx_qa (c := X.2.2.1 (p0 + 8) (p1).toInt.toNat = none) q8 ?_)
          show fx_W _ _ _ 27 lv1 [.null] _ _
          refine fx_n (pc' := 31) (lv' := lv1) (st' := [.null]) aj_d63 rfl (Nat.le_succ _) (fun _ => rfl) ?_
          exact fx_ra0 aj_d63 rfl ⟨none, rfl, 0, rfl, rfl⟩
        · skip
          refine fx_qa (c := 0 ≤ (p1).toInt ∧ (p1).toInt < ((10 : Nat) : Int)) ⟨g70, fx_lnk g71 hA6⟩ ?_
          refine fx_o2 (fx_qs q8 ?_)
          show fx_W _ _ _ 27 lv1 [.ref b9] _ _
          refine fx_n (pc' := 31) (lv' := lv1) (st' := [.ref b9]) aj_d63 rfl (Nat.le_succ _) (fun _ => rfl) ?_
          exact fx_ra aj_d63 rfl ⟨some _, rfl, 0, rfl, rfl⟩
def gx_66 (p0 : Nat) (p1 : Int32) (p2 : Int32) (X : fx_X) (v : Int64) (X' : fx_X) : Prop :=
  ∃ x2 : Int32, x2 = ((p1 * ((Int8.ofInt 6).toInt32)) + p2) ∧ (if (p1).toInt < 0 then (v = (Int64.ofNat 0) ∧ X' = X) else ((if (p1).toInt < 10 then ((if (p2).toInt < 0 then (v = (Int64.ofNat 0) ∧ X' = X) else ((if (p2).toInt < 6 then ((if (x2).toInt < 60 then ((0 ≤ (x2).toInt ∧ (x2).toInt < ((60 : Nat) : Int)) ∧ v = (X.2.1 (p0 + 10) (x2).toInt.toNat) ∧ X' = X) else (v = (Int64.ofNat 0) ∧ X' = X))) else (v = (Int64.ofNat 0) ∧ X' = X))))) else (v = (Int64.ofNat 0) ∧ X' = X))))
theorem gx_66_ok {tb : aj_T} (p0 : Nat) (p1 : Int32) (p2 : Int32) {X : fx_X} : fx_K tb 66 [.ref p0, .int p1, .int p2] X (fx_Q fx_qL (fun v X' => gx_66 p0 p1 p2 X v X')) := by
  refine fx_m aj_m66_at rfl (fun N => ?_)
  refine fx_mono (Q := fx_Q fx_qL (fun v X' => ∃ n : Nat, gx_66 p0 p1 p2 X v X')) (fun r X' ⟨v, e, _, z⟩ => ⟨v, e, z⟩) ?_
  unfold gx_66
  show fx_W _ _ _ 0 [(0, .ref p0), (1, .int p1), (2, .int p2)] [] _ _
  obtain ⟨lv1, elv1⟩ : ∃ l : aj_V, l = [(0, .ref p0), (1, .int p1), (2, .int p2)] := ⟨_, rfl⟩
  rw [← elv1]
  have hlv1_0 : aj_lv lv1 0 = some (.ref p0) := by rw [elv1]; rfl
  have hlv1_1 : aj_lv lv1 1 = some (.int p1) := by rw [elv1]; rfl
  have hlv1_2 : aj_lv lv1 2 = some (.int p2) := by rw [elv1]; rfl
  refine fx_i0 aj_d66 rfl (Nat.le_succ _) (fun _ => rfl) hlv1_1 ?_
  refine fx_n (pc' := 3) (lv' := lv1) (st' := [.int ((Int8.ofInt 6).toInt32), .int p1]) aj_d66 rfl (Nat.le_succ _) (fun _ => rfl) ?_
  refine fx_n (pc' := 4) (lv' := lv1) (st' := [.int (p1 * ((Int8.ofInt 6).toInt32))]) aj_d66 rfl (Nat.le_succ _) (fun _ => rfl) ?_
  refine fx_i0 aj_d66 rfl (Nat.le_succ _) (fun _ => rfl) hlv1_2 ?_
  refine fx_n (pc' := 6) (lv' := lv1) (st' := [.int ((p1 * ((Int8.ofInt 6).toInt32)) + p2)]) aj_d66 rfl (Nat.le_succ _) (fun _ => rfl) ?_
  refine fx_qxI (fun x2 ex2 => ?_)
  refine fx_s0 (j := 3) aj_d66 rfl (Nat.le_succ _) (by decide) (fun _ => rfl) ?_
  obtain ⟨lv3, elv3⟩ : ∃ l, l = aj_set1 lv1 3 (.int x2) := ⟨_, rfl⟩
  rw [← elv3]
  have hlv3_0 : aj_lv lv3 0 = some (.ref p0) := fx_e1 elv3 hlv1_0 (by decide) (Or.inl (by decide))
  have hlv3_1 : aj_lv lv3 1 = some (.int p1) := fx_e1 elv3 hlv1_1 (by decide) (Or.inl (by decide))
  have hlv3_2 : aj_lv lv3 2 = some (.int p2) := fx_e1 elv3 hlv1_2 (by decide) (Or.inr rfl)
  have hlv3_3 : aj_lv lv3 3 = some (.int x2) := by rw [elv3]; exact ak_set1_eq _ _ _
  show fx_W _ _ _ 7 lv3 [] _ _
  refine fx_i0 aj_d66 rfl (Nat.le_succ _) (fun _ => rfl) hlv3_1 ?_
  refine fx_b0 (tgt := 45) aj_d66 rfl (Nat.le_succ _) rfl (fun q4 => ?_) (fun q4 => ?_)
  · skip
    refine fx_qi (c := (p1).toInt < 0) (fx_t_lt q4) ?_
    show fx_W _ _ _ 45 lv3 [] _ _
    refine fx_n (pc' := 46) (lv' := lv3) (st' := [.long (Int64.ofNat 0)]) aj_d66 rfl (Nat.le_succ _) (fun _ => rfl) ?_
    exact fx_rl aj_d66 rfl rfl ⟨_, rfl, 0, rfl, rfl⟩
  · skip
    refine fx_qe (c := (p1).toInt < 0) (fx_f_lt q4) ?_
    show fx_W _ _ _ 11 lv3 [] _ _
    refine fx_i0 aj_d66 rfl (Nat.le_succ _) (fun _ => rfl) hlv3_1 ?_
    refine fx_n (pc' := 14) (lv' := lv3) (st' := [.int ((Int8.ofInt 10).toInt32), .int p1]) aj_d66 rfl (Nat.le_succ _) (fun _ => rfl) ?_
    refine fx_b (tgt := 45) aj_d66 rfl (Nat.le_succ _) rfl (fun q5 => ?_) (fun q5 => ?_)
    · skip
      refine fx_qe (c := (p1).toInt < 10) (fx_t_ge q5) ?_
      show fx_W _ _ _ 45 lv3 [] _ _
      refine fx_n (pc' := 46) (lv' := lv3) (st' := [.long (Int64.ofNat 0)]) aj_d66 rfl (Nat.le_succ _) (fun _ => rfl) ?_
      exact fx_rl aj_d66 rfl rfl ⟨_, rfl, 0, rfl, rfl⟩
    · skip
      refine fx_qi (c := (p1).toInt < 10) (fx_f_ge q5) ?_
      show fx_W _ _ _ 17 lv3 [] _ _
      refine fx_i0 aj_d66 rfl (Nat.le_succ _) (fun _ => rfl) hlv3_2 ?_
      refine fx_b0 (tgt := 45) aj_d66 rfl (Nat.le_succ _) rfl (fun q6 => ?_) (fun q6 => ?_)
      · skip
        refine fx_qi (c := (p2).toInt < 0) (fx_t_lt q6) ?_
        show fx_W _ _ _ 45 lv3 [] _ _
        refine fx_n (pc' := 46) (lv' := lv3) (st' := [.long (Int64.ofNat 0)]) aj_d66 rfl (Nat.le_succ _) (fun _ => rfl) ?_
        exact fx_rl aj_d66 rfl rfl ⟨_, rfl, 0, rfl, rfl⟩
      · skip
        refine fx_qe (c := (p2).toInt < 0) (fx_f_lt q6) ?_
        show fx_W _ _ _ 21 lv3 [] _ _
        refine fx_i0 aj_d66 rfl (Nat.le_succ _) (fun _ => rfl) hlv3_2 ?_
        refine fx_n (pc' := 24) (lv' := lv3) (st' := [.int ((Int8.ofInt 6).toInt32), .int p2]) aj_d66 rfl (Nat.le_succ _) (fun _ => rfl) ?_
        refine fx_b (tgt := 45) aj_d66 rfl (Nat.le_succ _) rfl (fun q7 => ?_) (fun q7 => ?_)
        · skip
          refine fx_qe (c := (p2).toInt < 6) (fx_t_ge q7) ?_
          show fx_W _ _ _ 45 lv3 [] _ _
          refine fx_n (pc' := 46) (lv' := lv3) (st' := [.long (Int64.ofNat 0)]) aj_d66 rfl (Nat.le_succ _) (fun _ => rfl) ?_
          exact fx_rl aj_d66 rfl rfl ⟨_, rfl, 0, rfl, rfl⟩
        · skip
          refine fx_qi (c := (p2).toInt < 6) (fx_f_ge q7) ?_
          show fx_W _ _ _ 27 lv3 [] _ _
          refine fx_i0 aj_d66 rfl (Nat.le_succ _) (fun _ => rfl) hlv3_3 ?_
          refine fx_i2 aj_d66 rfl (Nat.le_succ _) (fun _ => rfl) hlv3_0 ?_
          refine fx_gF aj_d66 rfl (Nat.le_succ _) rfl rfl fx_in_7_9 (t := (p0 + 10)) rfl (fun hA8 => ?_)
          refine fx_al aj_d66 rfl (Nat.le_succ _) ?_
          rw [(hA8 : X.2.2.2.1 (p0 + 10) = (1, 60))]
          show fx_W _ _ _ 33 lv3 [.int (Int32.ofNat 60), .int x2] _ _
          refine fx_b (tgt := 45) aj_d66 rfl (Nat.le_succ _) rfl (fun q9 => ?_) (fun q9 => ?_)
          · skip
            refine fx_qe (c := (x2).toInt < 60) (fx_t_ge q9) ?_
            show fx_W _ _ _ 45 lv3 [] _ _
            refine fx_n (pc' := 46) (lv' := lv3) (st' := [.long (Int64.ofNat 0)]) aj_d66 rfl (Nat.le_succ _) (fun _ => rfl) ?_
            exact fx_rl aj_d66 rfl rfl ⟨_, rfl, 0, rfl, rfl⟩
          · skip
            refine fx_qi (c := (x2).toInt < 60) (fx_f_ge q9) ?_
            show fx_W _ _ _ 36 lv3 [] _ _
            refine fx_i2 aj_d66 rfl (Nat.le_succ _) (fun _ => rfl) hlv3_0 ?_
            refine fx_gF aj_d66 rfl (Nat.le_succ _) rfl rfl fx_in_7_9 (t := (p0 + 10)) rfl (fun hA10 => ?_)
            refine fx_i0 aj_d66 rfl (Nat.le_succ _) (fun _ => rfl) hlv3_3 ?_
            refine fx_ldL aj_d66 rfl (Nat.le_succ _) (fun g110 g111 => ?_)
            show fx_W _ _ _ 42 lv3 [.long (X.2.1 (p0 + 10) (x2).toInt.toNat)] _ _
            refine fx_qa (c := 0 ≤ (x2).toInt ∧ (x2).toInt < ((60 : Nat) : Int)) ⟨g110, fx_lnk g111 hA10⟩ ?_
            refine fx_n (pc' := 46) (lv' := lv3) (st' := [.long (X.2.1 (p0 + 10) (x2).toInt.toNat)]) aj_d66 rfl (Nat.le_succ _) (fun _ => rfl) ?_
            exact fx_rl aj_d66 rfl rfl ⟨_, rfl, 0, rfl, rfl⟩
def gxT_93_34 (p0 : Nat) (p1 : Int64) (P : Nat → List Int32 → List Int64 → List Nat → fx_X → Int32 → fx_X → Prop) (y3 : Int32) (y4 : Nat) (y5 : Int32) (X : fx_X) (v : Int32) (X' : fx_X) : Prop :=
  (if (y5).toInt < ((X.1 y4 3)).toInt then (∃ (w20 : Int64) (X19 : fx_X), gx_66 p0 y3 y5 X w20 X19 ∧ (if w20 = p1 then (v = (Int32.ofInt 0) ∧ X' = X19) else (∃ x22 : Int32, x22 = y5 + Int32.ofInt 1 ∧ P 34 [y3, x22] [] [y4] X19 v X'))) else (∃ x11 : Int32, x11 = ((y3 * ((Int8.ofInt 6).toInt32)) + (X.1 y4 3)) ∧ (if (x11).toInt < 60 then ((0 ≤ (x11).toInt ∧ (x11).toInt < ((60 : Nat) : Int)) ∧ ∃ X17 : fx_X, X17 = (fx_wL X (p0 + 10) (x11).toInt.toNat p1) ∧ ∃ X18 : fx_X, X18 = (fx_wI X17 y4 3 ((X17.1 y4 3) + (Int32.ofInt 1))) ∧ v = (Int32.ofInt 1) ∧ X' = X18) else (v = (Int32.ofInt 1) ∧ X' = X))))
def gxE_93 (p0 : Nat) (p1 : Int64) (P : Nat → List Int32 → List Int64 → List Nat → fx_X → Int32 → fx_X → Prop) (X : fx_X) (v : Int32) (X' : fx_X) : Prop :=
  ∃ x2 : Int32, x2 = ((X.1 p0 12) - (Int32.ofInt 1)) ∧ ∃ (w5 : (Option Nat)) (X4 : fx_X), gx_63 p0 x2 X w5 X4 ∧ ((w5 = none ∧ v = (Int32.ofInt 0) ∧ X' = X4) ∨ (∃ w5b : Nat, w5 = some w5b ∧ (if ((X4.1 w5b 3)).toInt < 6 then (P 34 [x2, (Int32.ofInt 0)] [] [w5b] X4 v X') else (v = (Int32.ofInt 0) ∧ X' = X4))))
noncomputable def gxF_93 (p0 : Nat) (p1 : Int64) (n : Nat) : Nat → List Int32 → List Int64 → List Nat → fx_X → Int32 → fx_X → Prop := Nat.rec (motive := fun _ => Nat → List Int32 → List Int64 → List Nat → fx_X → Int32 → fx_X → Prop) (fun _ _ _ _ _ _ _ => False) (fun _ P l is ls rs X v X' => (l = 34 ∧ ∃ (y3 : Int32) (y4 : Nat) (y5 : Int32), is = [y3, y5] ∧ ls = [] ∧ rs = [y4] ∧ gxT_93_34 p0 p1 P y3 y4 y5 X v X')) n
theorem gxI_93_34 {p0 : Nat} {p1 : Int64} {n : Nat} {y3 : Int32} {y4 : Nat} {y5 : Int32} {X : fx_X} {v : Int32} {X' : fx_X} (h : gxT_93_34 p0 p1 (gxF_93 p0 p1 n) y3 y4 y5 X v X') : gxF_93 p0 p1 (n + 1) 34 [y3, y5] [] [y4] X v X' := ⟨rfl, y3, y4, y5, rfl, rfl, rfl, h⟩
theorem gxO_93_34 {p0 : Nat} {p1 : Int64} {n : Nat} {y3 : Int32} {y4 : Nat} {y5 : Int32} {X : fx_X} {v : Int32} {X' : fx_X} (h : gxF_93 p0 p1 (n + 1) 34 [y3, y5] [] [y4] X v X') : gxT_93_34 p0 p1 (gxF_93 p0 p1 n) y3 y4 y5 X v X' := by
  rcases h with ⟨-, _, _, _, e1, e2, e3, h⟩
  · cases e1; cases e2; cases e3; exact h
def gx_93 (p0 : Nat) (p1 : Int64) (X : fx_X) (v : Int32) (X' : fx_X) : Prop := ∃ n : Nat, gxE_93 p0 p1 (gxF_93 p0 p1 n) X v X'
theorem gxL_93 {tb : aj_T} (p0 : Nat) (p1 : Int64) : ∀ N : Nat, (∀ (lv : aj_V) (y3 : Int32) (y4 : Nat) (y5 : Int32) (X : fx_X), aj_lv lv 0 = some (.ref p0) → aj_lv lv 1 = some (.long p1) → aj_lv lv 3 = some (.int y3) → aj_lv lv 4 = some (.ref y4) → aj_lv lv 5 = some (.int y5) → fx_W tb aj_m93 N 34 lv [] X (fx_Q fx_qI (fun v X' => ∃ n : Nat, gxF_93 p0 p1 n 34 [y3, y5] [] [y4] X v X'))) := by
  intro N
  induction N with
  | zero => exact (by intros; exact fx_z)
  | succ N ih =>
    skip
    · intro lv y3 y4 y5 X hlv_0 hlv_1 hlv_3 hlv_4 hlv_5
      refine fx_mono (Q := fx_Q fx_qI (fun v X' => ∃ n : Nat, gxT_93_34 p0 p1 (gxF_93 p0 p1 n) y3 y4 y5 X v X')) (fun r X' ⟨v, e, n, z⟩ => ⟨v, e, n + 1, gxI_93_34 z⟩) ?_
      unfold gxT_93_34
      refine fx_i0 aj_d93 rfl (Nat.le_refl _) (fun _ => rfl) hlv_5 ?_
      refine fx_i2 aj_d93 rfl (Nat.le_succ _) (fun _ => rfl) hlv_4 ?_
      refine fx_gI aj_d93 rfl (Nat.le_succ _) rfl rfl (Or.inl rfl) ?_
      refine fx_b (tgt := 64) aj_d93 rfl (Nat.le_succ _) rfl (fun q10 => ?_) (fun q10 => ?_)
      · skip
        refine fx_qe (c := (y5).toInt < ((X.1 y4 3)).toInt) (fx_t_ge q10) ?_
        show fx_W _ _ _ 64 lv [] _ _
        refine fx_i0 aj_d93 rfl (Nat.le_succ _) (fun _ => rfl) hlv_3 ?_
        refine fx_n (pc' := 67) (lv' := lv) (st' := [.int ((Int8.ofInt 6).toInt32), .int y3]) aj_d93 rfl (Nat.le_succ _) (fun _ => rfl) ?_
        refine fx_n (pc' := 68) (lv' := lv) (st' := [.int (y3 * ((Int8.ofInt 6).toInt32))]) aj_d93 rfl (Nat.le_succ _) (fun _ => rfl) ?_
        refine fx_i2 aj_d93 rfl (Nat.le_succ _) (fun _ => rfl) hlv_4 ?_
        refine fx_gI aj_d93 rfl (Nat.le_succ _) rfl rfl (Or.inl rfl) ?_
        refine fx_n (pc' := 74) (lv' := lv) (st' := [.int ((y3 * ((Int8.ofInt 6).toInt32)) + (X.1 y4 3))]) aj_d93 rfl (Nat.le_succ _) (fun _ => rfl) ?_
        refine fx_qxI (fun x11 ex11 => ?_)
        refine fx_s0 (j := 5) aj_d93 rfl (Nat.le_succ _) (by decide) (fun _ => rfl) ?_
        obtain ⟨lv12, elv12⟩ : ∃ l, l = aj_set1 lv 5 (.int x11) := ⟨_, rfl⟩
        rw [← elv12]
        have hlv12_0 : aj_lv lv12 0 = some (.ref p0) := fx_e1 elv12 hlv_0 (by decide) (Or.inl (by decide))
        have hlv12_1 : aj_lv lv12 1 = some (.long p1) := fx_e1 elv12 hlv_1 (by decide) (Or.inl (by decide))
        have hlv12_4 : aj_lv lv12 4 = some (.ref y4) := fx_e1 elv12 hlv_4 (by decide) (Or.inr rfl)
        have hlv12_5 : aj_lv lv12 5 = some (.int x11) := by rw [elv12]; exact ak_set1_eq _ _ _
        show fx_W _ _ _ 76 lv12 [] _ _
        refine fx_i0 aj_d93 rfl (Nat.le_succ _) (fun _ => rfl) hlv12_5 ?_
        refine fx_i2 aj_d93 rfl (Nat.le_succ _) (fun _ => rfl) hlv12_0 ?_
        refine fx_gF aj_d93 rfl (Nat.le_succ _) rfl rfl fx_in_7_9 (t := (p0 + 10)) rfl (fun hA13 => ?_)
        refine fx_al aj_d93 rfl (Nat.le_succ _) ?_
        rw [(hA13 : X.2.2.2.1 (p0 + 10) = (1, 60))]
        show fx_W _ _ _ 83 lv12 [.int (Int32.ofNat 60), .int x11] _ _
        refine fx_b (tgt := 105) aj_d93 rfl (Nat.le_succ _) rfl (fun q14 => ?_) (fun q14 => ?_)
        · skip
          refine fx_qe (c := (x11).toInt < 60) (fx_t_ge q14) ?_
          show fx_W _ _ _ 105 lv12 [] _ _
          refine fx_n (pc' := 106) (lv' := lv12) (st' := [.int (Int32.ofInt 1)]) aj_d93 rfl (Nat.le_succ _) (fun _ => rfl) ?_
          exact fx_ri aj_d93 rfl ⟨_, rfl, 0, rfl, rfl⟩
        · skip
          refine fx_qi (c := (x11).toInt < 60) (fx_f_ge q14) ?_
          show fx_W _ _ _ 86 lv12 [] _ _
          refine fx_i2 aj_d93 rfl (Nat.le_succ _) (fun _ => rfl) hlv12_0 ?_
          refine fx_gF aj_d93 rfl (Nat.le_succ _) rfl rfl fx_in_7_9 (t := (p0 + 10)) rfl (fun hA15 => ?_)
          refine fx_i0 aj_d93 rfl (Nat.le_succ _) (fun _ => rfl) hlv12_5 ?_
          refine fx_i1 aj_d93 rfl (Nat.le_succ _) (fun _ => rfl) hlv12_1 ?_
          refine fx_sL aj_d93 rfl (Nat.le_succ _) (fun g160 g161 => ?_)
          refine fx_qa (c := 0 ≤ (x11).toInt ∧ (x11).toInt < ((60 : Nat) : Int)) ⟨g160, fx_lnk g161 hA15⟩ ?_
          refine fx_qX (fun X17 eX17 => ?_)
          show fx_W _ _ _ 94 lv12 [] _ _
          refine fx_i2 aj_d93 rfl (Nat.le_succ _) (fun _ => rfl) hlv12_4 ?_
          refine fx_n (pc' := 97) (lv' := lv12) (st' := [.ref y4, .ref y4]) aj_d93 rfl (Nat.le_succ _) (fun _ => rfl) ?_
          refine fx_gI aj_d93 rfl (Nat.le_succ _) rfl rfl (Or.inl rfl) ?_
          refine fx_n (pc' := 101) (lv' := lv12) (st' := [.int (Int32.ofInt 1), .int (X17.1 y4 3), .ref y4]) aj_d93 rfl (Nat.le_succ _) (fun _ => rfl) ?_
          refine fx_n (pc' := 102) (lv' := lv12) (st' := [.int ((X17.1 y4 3) + (Int32.ofInt 1)), .ref y4]) aj_d93 rfl (Nat.le_succ _) (fun _ => rfl) ?_
          refine fx_pI aj_d93 rfl (Nat.le_succ _) rfl rfl (Or.inl rfl) fx_no_6_3 (by decide) ?_
          refine fx_qX (fun X18 eX18 => ?_)
          show fx_W _ _ _ 105 lv12 [] _ _
          refine fx_n (pc' := 106) (lv' := lv12) (st' := [.int (Int32.ofInt 1)]) aj_d93 rfl (Nat.le_succ _) (fun _ => rfl) ?_
          exact fx_ri aj_d93 rfl ⟨_, rfl, 0, rfl, rfl⟩
      · skip
        refine fx_qi (c := (y5).toInt < ((X.1 y4 3)).toInt) (fx_f_ge q10) ?_
        show fx_W _ _ _ 44 lv [] _ _
        refine fx_i2 aj_d93 rfl (Nat.le_succ _) (fun _ => rfl) hlv_0 ?_
        refine fx_i0 aj_d93 rfl (Nat.le_succ _) (fun _ => rfl) hlv_3 ?_
        refine fx_i0 aj_d93 rfl (Nat.le_succ _) (fun _ => rfl) hlv_5 ?_
        refine fx_cv aj_d93 rfl (Nat.le_succ _) rfl [_, _] rfl rfl (gx_66_ok p0 y3 y5) ?_
        rintro _ X19 ⟨w20, rfl, hR19⟩ hok19 hle19
        refine fx_qc hR19 ?_
        show fx_W _ _ _ 51 lv [.long w20] _ _
        refine fx_i1 aj_d93 rfl (Nat.le_succ _) (fun _ => rfl) hlv_1 ?_
        refine fx_n (pc' := 53) (lv' := lv) (st' := [.int (lg_cmp w20 p1)]) aj_d93 rfl (Nat.le_succ _) (fun _ => rfl) ?_
        refine fx_b0 (tgt := 58) aj_d93 rfl (Nat.le_succ _) rfl (fun q21 => ?_) (fun q21 => ?_)
        · skip
          refine fx_qe (c := w20 = p1) (fun z => (fx_t_ne q21) (fx_lc.mpr z)) ?_
          show fx_W _ _ _ 58 lv [] _ _
          refine fx_incq aj_d93 rfl (Nat.le_succ _) hlv_5 (by decide) (fun x22 ex22 => ?_)
          obtain ⟨lv23, elv23⟩ : ∃ l, l = aj_set1 lv 5 (.int x22) := ⟨_, rfl⟩
          rw [← elv23]
          have hlv23_0 : aj_lv lv23 0 = some (.ref p0) := fx_e1 elv23 hlv_0 (by decide) (Or.inl (by decide))
          have hlv23_1 : aj_lv lv23 1 = some (.long p1) := fx_e1 elv23 hlv_1 (by decide) (Or.inl (by decide))
          have hlv23_3 : aj_lv lv23 3 = some (.int y3) := fx_e1 elv23 hlv_3 (by decide) (Or.inl (by decide))
          have hlv23_4 : aj_lv lv23 4 = some (.ref y4) := fx_e1 elv23 hlv_4 (by decide) (Or.inr rfl)
          have hlv23_5 : aj_lv lv23 5 = some (.int x22) := by rw [elv23]; exact ak_set1_eq _ _ _
          show fx_W _ _ _ 61 lv23 [] _ _
          refine fx_n (pc' := 34) (lv' := lv23) (st' := []) aj_d93 rfl (Nat.le_succ _) (fun _ => rfl) ?_
          exact (ih) lv23 (y3) (y4) (x22) X19  hlv23_0 hlv23_1 hlv23_3 hlv23_4 hlv23_5
        · skip
          refine fx_qi (c := w20 = p1) (fx_lc.mp (fx_f_ne q21)) ?_
          show fx_W _ _ _ 56 lv [] _ _
          refine fx_n (pc' := 57) (lv' := lv) (st' := [.int (Int32.ofInt 0)]) aj_d93 rfl (Nat.le_succ _) (fun _ => rfl) ?_
          exact fx_ri aj_d93 rfl ⟨_, rfl, 0, rfl, rfl⟩
theorem gx_93_ok {tb : aj_T} (p0 : Nat) (p1 : Int64) {X : fx_X} : fx_K tb 93 [.ref p0, .long p1] X (fx_Q fx_qI (fun v X' => gx_93 p0 p1 X v X')) := by
  refine fx_m aj_m93_at rfl (fun N => ?_)
  refine fx_mono (Q := fx_Q fx_qI (fun v X' => ∃ n : Nat, gxE_93 p0 p1 (gxF_93 p0 p1 n) X v X')) (fun r X' h => h) ?_
  unfold gxE_93
  show fx_W _ _ _ 0 [(0, .ref p0), (1, .long p1)] [] _ _
  obtain ⟨lv1, elv1⟩ : ∃ l : aj_V, l = [(0, .ref p0), (1, .long p1)] := ⟨_, rfl⟩
  rw [← elv1]
  have hlv1_0 : aj_lv lv1 0 = some (.ref p0) := by rw [elv1]; rfl
  have hlv1_1 : aj_lv lv1 1 = some (.long p1) := by rw [elv1]; rfl
  refine fx_i2 aj_d93 rfl (Nat.le_succ _) (fun _ => rfl) hlv1_0 ?_
  refine fx_gI aj_d93 rfl (Nat.le_succ _) rfl rfl (Or.inl rfl) ?_
  refine fx_n (pc' := 5) (lv' := lv1) (st' := [.int (Int32.ofInt 1), .int (X.1 p0 12)]) aj_d93 rfl (Nat.le_succ _) (fun _ => rfl) ?_
  refine fx_n (pc' := 6) (lv' := lv1) (st' := [.int ((X.1 p0 12) - (Int32.ofInt 1))]) aj_d93 rfl (Nat.le_succ _) (fun _ => rfl) ?_
  refine fx_qxI (fun x2 ex2 => ?_)
  refine fx_s0 (j := 3) aj_d93 rfl (Nat.le_succ _) (by decide) (fun _ => rfl) ?_
  obtain ⟨lv3, elv3⟩ : ∃ l, l = aj_set1 lv1 3 (.int x2) := ⟨_, rfl⟩
  rw [← elv3]
  have hlv3_0 : aj_lv lv3 0 = some (.ref p0) := fx_e1 elv3 hlv1_0 (by decide) (Or.inl (by decide))
  have hlv3_1 : aj_lv lv3 1 = some (.long p1) := fx_e1 elv3 hlv1_1 (by decide) (Or.inl (by decide))
  have hlv3_3 : aj_lv lv3 3 = some (.int x2) := by rw [elv3]; exact ak_set1_eq _ _ _
  show fx_W _ _ _ 7 lv3 [] _ _
  refine fx_i2 aj_d93 rfl (Nat.le_succ _) (fun _ => rfl) hlv3_0 ?_
  refine fx_i0 aj_d93 rfl (Nat.le_succ _) (fun _ => rfl) hlv3_3 ?_
  refine fx_cv aj_d93 rfl (Nat.le_succ _) rfl [_] rfl rfl (gx_63_ok p0 x2) ?_
  rintro _ X4 ⟨w5, rfl, hR4⟩ hok4 hle4
  refine fx_qc hR4 ?_
  rcases w5 with _ | w5b
  · skip
    refine fx_o1 (fx_qa rfl ?_)
    show fx_W _ _ _ 12 lv3 [.null] _ _
    refine fx_s3 (j := 4) aj_d93 rfl (Nat.le_succ _) (by decide) (fun _ => rfl) ?_
    obtain ⟨lv6, elv6⟩ : ∃ l, l = aj_set1 lv3 4 (.null) := ⟨_, rfl⟩
    rw [← elv6]
    have hlv6_0 : aj_lv lv6 0 = some (.ref p0) := fx_e1 elv6 hlv3_0 (by decide) (Or.inl (by decide))
    have hlv6_1 : aj_lv lv6 1 = some (.long p1) := fx_e1 elv6 hlv3_1 (by decide) (Or.inl (by decide))
    have hlv6_3 : aj_lv lv6 3 = some (.int x2) := fx_e1 elv6 hlv3_3 (by decide) (Or.inr rfl)
    have hlv6_4 : aj_lv lv6 4 = some (.null) := by rw [elv6]; exact ak_set1_eq _ _ _
    show fx_W _ _ _ 14 lv6 [] _ _
    refine fx_i3 aj_d93 rfl (Nat.le_succ _) (fun _ => rfl) hlv6_4 ?_
    refine fx_n (pc' := 29) (lv' := lv6) (st' := []) aj_d93 rfl (Nat.le_succ _) (fun _ => rfl) ?_
    refine fx_n (pc' := 30) (lv' := lv6) (st' := [.int (Int32.ofInt 0)]) aj_d93 rfl (Nat.le_succ _) (fun _ => rfl) ?_
    exact fx_ri aj_d93 rfl ⟨_, rfl, 0, rfl, rfl⟩
  · skip
    refine fx_o2 (fx_qs rfl ?_)
    show fx_W _ _ _ 12 lv3 [.ref w5b] _ _
    refine fx_s2 (j := 4) aj_d93 rfl (Nat.le_succ _) (by decide) (fun _ => rfl) ?_
    obtain ⟨lv7, elv7⟩ : ∃ l, l = aj_set1 lv3 4 (.ref w5b) := ⟨_, rfl⟩
    rw [← elv7]
    have hlv7_0 : aj_lv lv7 0 = some (.ref p0) := fx_e1 elv7 hlv3_0 (by decide) (Or.inl (by decide))
    have hlv7_1 : aj_lv lv7 1 = some (.long p1) := fx_e1 elv7 hlv3_1 (by decide) (Or.inl (by decide))
    have hlv7_3 : aj_lv lv7 3 = some (.int x2) := fx_e1 elv7 hlv3_3 (by decide) (Or.inr rfl)
    have hlv7_4 : aj_lv lv7 4 = some (.ref w5b) := by rw [elv7]; exact ak_set1_eq _ _ _
    show fx_W _ _ _ 14 lv7 [] _ _
    refine fx_i2 aj_d93 rfl (Nat.le_succ _) (fun _ => rfl) hlv7_4 ?_
    refine fx_n (pc' := 19) (lv' := lv7) (st' := []) aj_d93 rfl (Nat.le_succ _) (fun _ => rfl) ?_
    refine fx_i2 aj_d93 rfl (Nat.le_succ _) (fun _ => rfl) hlv7_4 ?_
    refine fx_gI aj_d93 rfl (Nat.le_succ _) rfl rfl (Or.inl rfl) ?_
    refine fx_n (pc' := 26) (lv' := lv7) (st' := [.int ((Int8.ofInt 6).toInt32), .int (X4.1 w5b 3)]) aj_d93 rfl (Nat.le_succ _) (fun _ => rfl) ?_
    refine fx_b (tgt := 31) aj_d93 rfl (Nat.le_succ _) rfl (fun q8 => ?_) (fun q8 => ?_)
    · skip
      refine fx_qi (c := ((X4.1 w5b 3)).toInt < 6) (fx_t_lt q8) ?_
      show fx_W _ _ _ 31 lv7 [] _ _
      refine fx_n (pc' := 32) (lv' := lv7) (st' := [.int (Int32.ofInt 0)]) aj_d93 rfl (Nat.le_succ _) (fun _ => rfl) ?_
      refine fx_s0 (j := 5) aj_d93 rfl (Nat.le_succ _) (by decide) (fun _ => rfl) ?_
      obtain ⟨lv9, elv9⟩ : ∃ l, l = aj_set1 lv7 5 (.int (Int32.ofInt 0)) := ⟨_, rfl⟩
      rw [← elv9]
      have hlv9_0 : aj_lv lv9 0 = some (.ref p0) := fx_e1 elv9 hlv7_0 (by decide) (Or.inl (by decide))
      have hlv9_1 : aj_lv lv9 1 = some (.long p1) := fx_e1 elv9 hlv7_1 (by decide) (Or.inl (by decide))
      have hlv9_3 : aj_lv lv9 3 = some (.int x2) := fx_e1 elv9 hlv7_3 (by decide) (Or.inl (by decide))
      have hlv9_4 : aj_lv lv9 4 = some (.ref w5b) := fx_e1 elv9 hlv7_4 (by decide) (Or.inr rfl)
      have hlv9_5 : aj_lv lv9 5 = some (.int (Int32.ofInt 0)) := by rw [elv9]; exact ak_set1_eq _ _ _
      show fx_W _ _ _ 34 lv9 [] _ _
      exact ((gxL_93 p0 p1 N)) lv9 (x2) (w5b) ((Int32.ofInt 0)) X4  hlv9_0 hlv9_1 hlv9_3 hlv9_4 hlv9_5
    · skip
      refine fx_qe (c := ((X4.1 w5b 3)).toInt < 6) (fx_f_lt q8) ?_
      show fx_W _ _ _ 29 lv7 [] _ _
      refine fx_n (pc' := 30) (lv' := lv7) (st' := [.int (Int32.ofInt 0)]) aj_d93 rfl (Nat.le_succ _) (fun _ => rfl) ?_
      exact fx_ri aj_d93 rfl ⟨_, rfl, 0, rfl, rfl⟩
def gx_95 (p0 : Nat) (p1 : Int32) (X : fx_X) (v : Int32) (X' : fx_X) : Prop :=
  (if (p1).toInt < 0 then (v = (Int32.ofInt 0) ∧ X' = X) else ((if (p1).toInt < ((X.1 p0 12)).toInt then ((if (p1).toInt < 10 then ((0 ≤ (p1).toInt ∧ (p1).toInt < ((10 : Nat) : Int)) ∧ (if ((X.1 (p0 + 11) (p1).toInt.toNat)).toInt = 0 then (v = (Int32.ofInt 0) ∧ X' = X) else (v = (Int32.ofInt 1) ∧ X' = X))) else (v = (Int32.ofInt 0) ∧ X' = X))) else (v = (Int32.ofInt 0) ∧ X' = X))))
theorem gx_95_ok {tb : aj_T} (p0 : Nat) (p1 : Int32) {X : fx_X} : fx_K tb 95 [.ref p0, .int p1] X (fx_Q fx_qI (fun v X' => gx_95 p0 p1 X v X')) := by
  refine fx_m aj_m95_at rfl (fun N => ?_)
  refine fx_mono (Q := fx_Q fx_qI (fun v X' => ∃ n : Nat, gx_95 p0 p1 X v X')) (fun r X' ⟨v, e, _, z⟩ => ⟨v, e, z⟩) ?_
  unfold gx_95
  show fx_W _ _ _ 0 [(0, .ref p0), (1, .int p1)] [] _ _
  obtain ⟨lv1, elv1⟩ : ∃ l : aj_V, l = [(0, .ref p0), (1, .int p1)] := ⟨_, rfl⟩
  rw [← elv1]
  have hlv1_0 : aj_lv lv1 0 = some (.ref p0) := by rw [elv1]; rfl
  have hlv1_1 : aj_lv lv1 1 = some (.int p1) := by rw [elv1]; rfl
  refine fx_i0 aj_d95 rfl (Nat.le_succ _) (fun _ => rfl) hlv1_1 ?_
  refine fx_b0 (tgt := 34) aj_d95 rfl (Nat.le_succ _) rfl (fun q2 => ?_) (fun q2 => ?_)
  · skip
    refine fx_qi (c := (p1).toInt < 0) (fx_t_lt q2) ?_
    show fx_W _ _ _ 34 lv1 [] _ _
    refine fx_n (pc' := 35) (lv' := lv1) (st' := [.int (Int32.ofInt 0)]) aj_d95 rfl (Nat.le_succ _) (fun _ => rfl) ?_
    exact fx_ri aj_d95 rfl ⟨_, rfl, 0, rfl, rfl⟩
  · skip
    refine fx_qe (c := (p1).toInt < 0) (fx_f_lt q2) ?_
    show fx_W _ _ _ 4 lv1 [] _ _
    refine fx_i0 aj_d95 rfl (Nat.le_succ _) (fun _ => rfl) hlv1_1 ?_
    refine fx_i2 aj_d95 rfl (Nat.le_succ _) (fun _ => rfl) hlv1_0 ?_
    refine fx_gI aj_d95 rfl (Nat.le_succ _) rfl rfl (Or.inl rfl) ?_
    refine fx_b (tgt := 34) aj_d95 rfl (Nat.le_succ _) rfl (fun q3 => ?_) (fun q3 => ?_)
    · skip
      refine fx_qe (c := (p1).toInt < ((X.1 p0 12)).toInt) (fx_t_ge q3) ?_
      show fx_W _ _ _ 34 lv1 [] _ _
      refine fx_n (pc' := 35) (lv' := lv1) (st' := [.int (Int32.ofInt 0)]) aj_d95 rfl (Nat.le_succ _) (fun _ => rfl) ?_
      exact fx_ri aj_d95 rfl ⟨_, rfl, 0, rfl, rfl⟩
    · skip
      refine fx_qi (c := (p1).toInt < ((X.1 p0 12)).toInt) (fx_f_ge q3) ?_
      show fx_W _ _ _ 12 lv1 [] _ _
      refine fx_i0 aj_d95 rfl (Nat.le_succ _) (fun _ => rfl) hlv1_1 ?_
      refine fx_i2 aj_d95 rfl (Nat.le_succ _) (fun _ => rfl) hlv1_0 ?_
      refine fx_gF aj_d95 rfl (Nat.le_succ _) rfl rfl fx_in_7_10 (t := (p0 + 11)) rfl (fun hA4 => ?_)
      refine fx_al aj_d95 rfl (Nat.le_succ _) ?_
      rw [(hA4 : X.2.2.2.1 (p0 + 11) = (2, 10))]
      show fx_W _ _ _ 18 lv1 [.int (Int32.ofNat 10), .int p1] _ _
      refine fx_b (tgt := 34) aj_d95 rfl (Nat.le_succ _) rfl (fun q5 => ?_) (fun q5 => ?_)
      · skip
        refine fx_qe (c := (p1).toInt < 10) (fx_t_ge q5) ?_
        show fx_W _ _ _ 34 lv1 [] _ _
        refine fx_n (pc' := 35) (lv' := lv1) (st' := [.int (Int32.ofInt 0)]) aj_d95 rfl (Nat.le_succ _) (fun _ => rfl) ?_
        exact fx_ri aj_d95 rfl ⟨_, rfl, 0, rfl, rfl⟩
      · skip
        refine fx_qi (c := (p1).toInt < 10) (fx_f_ge q5) ?_
        show fx_W _ _ _ 21 lv1 [] _ _
        refine fx_i2 aj_d95 rfl (Nat.le_succ _) (fun _ => rfl) hlv1_0 ?_
        refine fx_gF aj_d95 rfl (Nat.le_succ _) rfl rfl fx_in_7_10 (t := (p0 + 11)) rfl (fun hA6 => ?_)
        refine fx_i0 aj_d95 rfl (Nat.le_succ _) (fun _ => rfl) hlv1_1 ?_
        refine fx_ld aj_d95 (Or.inr (Or.inr rfl)) rfl (Nat.le_succ _) (fun g70 g71 => ?_)
        show fx_W _ _ _ 27 lv1 [.int (X.1 (p0 + 11) (p1).toInt.toNat)] _ _
        refine fx_qa (c := 0 ≤ (p1).toInt ∧ (p1).toInt < ((10 : Nat) : Int)) ⟨g70, fx_lnk g71 hA6⟩ ?_
        refine fx_b0 (tgt := 34) aj_d95 rfl (Nat.le_succ _) rfl (fun q8 => ?_) (fun q8 => ?_)
        · skip
          refine fx_qi (c := ((X.1 (p0 + 11) (p1).toInt.toNat)).toInt = 0) (fx_t_eq q8) ?_
          show fx_W _ _ _ 34 lv1 [] _ _
          refine fx_n (pc' := 35) (lv' := lv1) (st' := [.int (Int32.ofInt 0)]) aj_d95 rfl (Nat.le_succ _) (fun _ => rfl) ?_
          exact fx_ri aj_d95 rfl ⟨_, rfl, 0, rfl, rfl⟩
        · skip
          refine fx_qe (c := ((X.1 (p0 + 11) (p1).toInt.toNat)).toInt = 0) (fx_f_eq q8) ?_
          show fx_W _ _ _ 30 lv1 [] _ _
          refine fx_n (pc' := 31) (lv' := lv1) (st' := [.int (Int32.ofInt 1)]) aj_d95 rfl (Nat.le_succ _) (fun _ => rfl) ?_
          refine fx_n (pc' := 35) (lv' := lv1) (st' := [.int (Int32.ofInt 1)]) aj_d95 rfl (Nat.le_succ _) (fun _ => rfl) ?_
          exact fx_ri aj_d95 rfl ⟨_, rfl, 0, rfl, rfl⟩
def gx_94 (p1 : Int32) (X : fx_X) (v : Unit) (X' : fx_X) : Prop :=
  ∃ b3 : Nat, X.2.2.1 91 2 = some b3 ∧ ∃ (w7 : Int64) (X6 : fx_X), gx_60 p1 X w7 X6 ∧ ∃ (w9 : Int32) (X8 : fx_X), gx_62 b3 w7 X6 w9 X8 ∧ ∃ b12 : Nat, X8.2.2.1 91 2 = some b12 ∧ ∃ (w14 : (Option Nat)) (X13 : fx_X), gx_63 b12 w9 X8 w14 X13 ∧ ((w14 = none ∧ ∃ (w17 : Unit) (X16 : fx_X), gx_64 (Int32.ofInt 4) p1 X13 w17 X16 ∧ X' = X16) ∨ (∃ w14b : Nat, w14 = some w14b ∧ ∃ b20 : Nat, X13.2.2.1 91 2 = some b20 ∧ ∃ (w22 : Int32) (X21 : fx_X), gx_95 b20 w9 X13 w22 X21 ∧ (if (w22).toInt = 0 then (∃ (w31 : Int32) (X30 : fx_X), gx_40 p1 X21 w31 X30 ∧ (if ((X21.1 w14b 3)).toInt = (w31).toInt then (∃ (w35 : Unit) (X34 : fx_X), gx_41 p1 w9 X30 w35 X34 ∧ X' = X34) else (∃ (w37 : Unit) (X36 : fx_X), gx_64 (Int32.ofInt 5) p1 X30 w37 X36 ∧ ∃ (w40 : Unit) (X39 : fx_X), gx_41 p1 w9 X36 w40 X39 ∧ X' = X39))) else (∃ (w25 : Unit) (X24 : fx_X), gx_64 (Int32.ofInt 5) p1 X21 w25 X24 ∧ ∃ (w28 : Unit) (X27 : fx_X), gx_41 p1 w9 X24 w28 X27 ∧ X' = X27))))
theorem gx_94_ok {tb : aj_T} (p1 : Int32) {X : fx_X} : fx_K tb 94 [.ref 91, .int p1] X (fx_Q fx_qN (fun v X' => gx_94 p1 X v X')) := by
  refine fx_m aj_m94_at rfl (fun N => ?_)
  refine fx_mono (Q := fx_Q fx_qN (fun v X' => ∃ n : Nat, gx_94 p1 X v X')) (fun r X' ⟨v, e, _, z⟩ => ⟨v, e, z⟩) ?_
  unfold gx_94
  show fx_W _ _ _ 0 [(0, .ref 91), (1, .int p1)] [] _ _
  obtain ⟨lv1, elv1⟩ : ∃ l : aj_V, l = [(0, .ref 91), (1, .int p1)] := ⟨_, rfl⟩
  rw [← elv1]
  have hlv1_0 : aj_lv lv1 0 = some (.ref 91) := by rw [elv1]; rfl
  have hlv1_1 : aj_lv lv1 1 = some (.int p1) := by rw [elv1]; rfl
  refine fx_i2 aj_d94 rfl (Nat.le_succ _) (fun _ => rfl) hlv1_0 ?_
  refine fx_gR aj_d94 rfl (Nat.le_succ _) rfl rfl (Or.inl ⟨_, rfl⟩) (fun q2 _ => ?_) (fun b3 q2 => ?_)
  · skip
    show fx_W _ _ _ 4 lv1 [.null] _ _
    refine fx_i2 aj_d94 rfl (Nat.le_succ _) (fun _ => rfl) hlv1_0 ?_
    refine fx_i0 aj_d94 rfl (Nat.le_succ _) (fun _ => rfl) hlv1_1 ?_
    refine fx_cv aj_d94 rfl (Nat.le_succ _) rfl [_] rfl rfl (gx_60_ok p1) ?_
    rintro _ X4 ⟨w5, rfl, hR4⟩ hok4 hle4
    show fx_W _ _ _ 9 lv1 [.long w5, .null] _ _
    exact fx_d aj_d94 rfl (fun _ => rfl)
  · skip
    refine fx_qs q2 ?_
    show fx_W _ _ _ 4 lv1 [.ref b3] _ _
    refine fx_i2 aj_d94 rfl (Nat.le_succ _) (fun _ => rfl) hlv1_0 ?_
    refine fx_i0 aj_d94 rfl (Nat.le_succ _) (fun _ => rfl) hlv1_1 ?_
    refine fx_cv aj_d94 rfl (Nat.le_succ _) rfl [_] rfl rfl (gx_60_ok p1) ?_
    rintro _ X6 ⟨w7, rfl, hR6⟩ hok6 hle6
    refine fx_qc hR6 ?_
    show fx_W _ _ _ 9 lv1 [.long w7, .ref b3] _ _
    refine fx_cv aj_d94 rfl (Nat.le_succ _) rfl [_] rfl rfl (gx_62_ok b3 w7) ?_
    rintro _ X8 ⟨w9, rfl, hR8⟩ hok8 hle8
    refine fx_qc hR8 ?_
    show fx_W _ _ _ 12 lv1 [.int w9] _ _
    refine fx_s0 (j := 2) aj_d94 rfl (Nat.le_succ _) (by decide) (fun _ => rfl) ?_
    obtain ⟨lv10, elv10⟩ : ∃ l, l = aj_set1 lv1 2 (.int w9) := ⟨_, rfl⟩
    rw [← elv10]
    have hlv10_0 : aj_lv lv10 0 = some (.ref 91) := fx_e1 elv10 hlv1_0 (by decide) (Or.inl (by decide))
    have hlv10_1 : aj_lv lv10 1 = some (.int p1) := fx_e1 elv10 hlv1_1 (by decide) (Or.inr rfl)
    have hlv10_2 : aj_lv lv10 2 = some (.int w9) := by rw [elv10]; exact ak_set1_eq _ _ _
    show fx_W _ _ _ 13 lv10 [] _ _
    refine fx_i2 aj_d94 rfl (Nat.le_succ _) (fun _ => rfl) hlv10_0 ?_
    refine fx_gR aj_d94 rfl (Nat.le_succ _) rfl rfl (Or.inl ⟨_, rfl⟩) (fun q11 _ => ?_) (fun b12 q11 => ?_)
    · skip
      show fx_W _ _ _ 17 lv10 [.null] _ _
      refine fx_i0 aj_d94 rfl (Nat.le_succ _) (fun _ => rfl) hlv10_2 ?_
      exact fx_d aj_d94 rfl (fun _ => rfl)
    · skip
      refine fx_qs q11 ?_
      show fx_W _ _ _ 17 lv10 [.ref b12] _ _
      refine fx_i0 aj_d94 rfl (Nat.le_succ _) (fun _ => rfl) hlv10_2 ?_
      refine fx_cv aj_d94 rfl (Nat.le_succ _) rfl [_] rfl rfl (gx_63_ok b12 w9) ?_
      rintro _ X13 ⟨w14, rfl, hR13⟩ hok13 hle13
      refine fx_qc hR13 ?_
      rcases w14 with _ | w14b
      · skip
        refine fx_o1 (fx_qa rfl ?_)
        show fx_W _ _ _ 21 lv10 [.null] _ _
        refine fx_s3 (j := 3) aj_d94 rfl (Nat.le_succ _) (by decide) (fun _ => rfl) ?_
        obtain ⟨lv15, elv15⟩ : ∃ l, l = aj_set1 lv10 3 (.null) := ⟨_, rfl⟩
        rw [← elv15]
        have hlv15_0 : aj_lv lv15 0 = some (.ref 91) := fx_e1 elv15 hlv10_0 (by decide) (Or.inl (by decide))
        have hlv15_1 : aj_lv lv15 1 = some (.int p1) := fx_e1 elv15 hlv10_1 (by decide) (Or.inl (by decide))
        have hlv15_2 : aj_lv lv15 2 = some (.int w9) := fx_e1 elv15 hlv10_2 (by decide) (Or.inr rfl)
        have hlv15_3 : aj_lv lv15 3 = some (.null) := by rw [elv15]; exact ak_set1_eq _ _ _
        show fx_W _ _ _ 22 lv15 [] _ _
        refine fx_i3 aj_d94 rfl (Nat.le_succ _) (fun _ => rfl) hlv15_3 ?_
        refine fx_n (pc' := 26) (lv' := lv15) (st' := []) aj_d94 rfl (Nat.le_succ _) (fun _ => rfl) ?_
        refine fx_i2 aj_d94 rfl (Nat.le_succ _) (fun _ => rfl) hlv15_0 ?_
        refine fx_n (pc' := 28) (lv' := lv15) (st' := [.int (Int32.ofInt 4), .ref 91]) aj_d94 rfl (Nat.le_succ _) (fun _ => rfl) ?_
        refine fx_i0 aj_d94 rfl (Nat.le_succ _) (fun _ => rfl) hlv15_1 ?_
        refine fx_cv aj_d94 rfl (Nat.le_succ _) rfl [_, _] rfl rfl (gx_64_ok (Int32.ofInt 4) p1) ?_
        rintro _ X16 ⟨w17, rfl, hR16⟩ hok16 hle16
        refine fx_qc hR16 ?_
        show fx_W _ _ _ 32 lv15 [] _ _
        exact fx_rn aj_d94 rfl ⟨(), rfl, 0, rfl⟩
      · skip
        refine fx_o2 (fx_qs rfl ?_)
        show fx_W _ _ _ 21 lv10 [.ref w14b] _ _
        refine fx_s2 (j := 3) aj_d94 rfl (Nat.le_succ _) (by decide) (fun _ => rfl) ?_
        obtain ⟨lv18, elv18⟩ : ∃ l, l = aj_set1 lv10 3 (.ref w14b) := ⟨_, rfl⟩
        rw [← elv18]
        have hlv18_0 : aj_lv lv18 0 = some (.ref 91) := fx_e1 elv18 hlv10_0 (by decide) (Or.inl (by decide))
        have hlv18_1 : aj_lv lv18 1 = some (.int p1) := fx_e1 elv18 hlv10_1 (by decide) (Or.inl (by decide))
        have hlv18_2 : aj_lv lv18 2 = some (.int w9) := fx_e1 elv18 hlv10_2 (by decide) (Or.inr rfl)
        have hlv18_3 : aj_lv lv18 3 = some (.ref w14b) := by rw [elv18]; exact ak_set1_eq _ _ _
        show fx_W _ _ _ 22 lv18 [] _ _
        refine fx_i2 aj_d94 rfl (Nat.le_succ _) (fun _ => rfl) hlv18_3 ?_
        refine fx_n (pc' := 33) (lv' := lv18) (st' := []) aj_d94 rfl (Nat.le_succ _) (fun _ => rfl) ?_
        refine fx_i2 aj_d94 rfl (Nat.le_succ _) (fun _ => rfl) hlv18_0 ?_
        refine fx_gR aj_d94 rfl (Nat.le_succ _) rfl rfl (Or.inl ⟨_, rfl⟩) (fun q19 _ => ?_) (fun b20 q19 => ?_)
        · skip
          show fx_W _ _ _ 37 lv18 [.null] _ _
          refine fx_i0 aj_d94 rfl (Nat.le_succ _) (fun _ => rfl) hlv18_2 ?_
          exact fx_d aj_d94 rfl (fun _ => rfl)
        · skip
          refine fx_qs q19 ?_
          show fx_W _ _ _ 37 lv18 [.ref b20] _ _
          refine fx_i0 aj_d94 rfl (Nat.le_succ _) (fun _ => rfl) hlv18_2 ?_
          refine fx_cv aj_d94 rfl (Nat.le_succ _) rfl [_] rfl rfl (gx_95_ok b20 w9) ?_
          rintro _ X21 ⟨w22, rfl, hR21⟩ hok21 hle21
          refine fx_qc hR21 ?_
          show fx_W _ _ _ 41 lv18 [.int w22] _ _
          refine fx_b0 (tgt := 59) aj_d94 rfl (Nat.le_succ _) rfl (fun q23 => ?_) (fun q23 => ?_)
          · skip
            refine fx_qe (c := (w22).toInt = 0) (fx_t_ne q23) ?_
            show fx_W _ _ _ 59 lv18 [] _ _
            refine fx_i2 aj_d94 rfl (Nat.le_succ _) (fun _ => rfl) hlv18_0 ?_
            refine fx_n (pc' := 61) (lv' := lv18) (st' := [.int (Int32.ofInt 5), .ref 91]) aj_d94 rfl (Nat.le_succ _) (fun _ => rfl) ?_
            refine fx_i0 aj_d94 rfl (Nat.le_succ _) (fun _ => rfl) hlv18_1 ?_
            refine fx_cv aj_d94 rfl (Nat.le_succ _) rfl [_, _] rfl rfl (gx_64_ok (Int32.ofInt 5) p1) ?_
            rintro _ X24 ⟨w25, rfl, hR24⟩ hok24 hle24
            refine fx_qc hR24 ?_
            show fx_W _ _ _ 65 lv18 [] _ _
            refine fx_i2 aj_d94 rfl (Nat.le_succ _) (fun _ => rfl) hlv18_0 ?_
            refine fx_gF aj_d94 rfl (Nat.le_succ _) rfl rfl fx_in_0_1 (t := 82) rfl (fun hA26 => ?_)
            refine fx_i0 aj_d94 rfl (Nat.le_succ _) (fun _ => rfl) hlv18_1 ?_
            refine fx_i0 aj_d94 rfl (Nat.le_succ _) (fun _ => rfl) hlv18_2 ?_
            refine fx_cv aj_d94 rfl (Nat.le_succ _) rfl [_, _] rfl rfl (gx_41_ok p1 w9) ?_
            rintro _ X27 ⟨w28, rfl, hR27⟩ hok27 hle27
            refine fx_qc hR27 ?_
            show fx_W _ _ _ 74 lv18 [] _ _
            exact fx_rn aj_d94 rfl ⟨(), rfl, 0, rfl⟩
          · skip
            refine fx_qi (c := (w22).toInt = 0) (fx_f_ne q23) ?_
            show fx_W _ _ _ 44 lv18 [] _ _
            refine fx_i2 aj_d94 rfl (Nat.le_succ _) (fun _ => rfl) hlv18_3 ?_
            refine fx_gI aj_d94 rfl (Nat.le_succ _) rfl rfl (Or.inl rfl) ?_
            refine fx_i2 aj_d94 rfl (Nat.le_succ _) (fun _ => rfl) hlv18_0 ?_
            refine fx_gF aj_d94 rfl (Nat.le_succ _) rfl rfl fx_in_0_1 (t := 82) rfl (fun hA29 => ?_)
            refine fx_i0 aj_d94 rfl (Nat.le_succ _) (fun _ => rfl) hlv18_1 ?_
            refine fx_cv aj_d94 rfl (Nat.le_succ _) rfl [_] rfl rfl (gx_40_ok p1) ?_
            rintro _ X30 ⟨w31, rfl, hR30⟩ hok30 hle30
            refine fx_qc hR30 ?_
            show fx_W _ _ _ 56 lv18 [.int w31, .int (X21.1 w14b 3)] _ _
            refine fx_b (tgt := 65) aj_d94 rfl (Nat.le_succ _) rfl (fun q32 => ?_) (fun q32 => ?_)
            · skip
              refine fx_qi (c := ((X21.1 w14b 3)).toInt = (w31).toInt) (fx_t_eq q32) ?_
              show fx_W _ _ _ 65 lv18 [] _ _
              refine fx_i2 aj_d94 rfl (Nat.le_succ _) (fun _ => rfl) hlv18_0 ?_
              refine fx_gF aj_d94 rfl (Nat.le_succ _) rfl rfl fx_in_0_1 (t := 82) rfl (fun hA33 => ?_)
              refine fx_i0 aj_d94 rfl (Nat.le_succ _) (fun _ => rfl) hlv18_1 ?_
              refine fx_i0 aj_d94 rfl (Nat.le_succ _) (fun _ => rfl) hlv18_2 ?_
              refine fx_cv aj_d94 rfl (Nat.le_succ _) rfl [_, _] rfl rfl (gx_41_ok p1 w9) ?_
              rintro _ X34 ⟨w35, rfl, hR34⟩ hok34 hle34
              refine fx_qc hR34 ?_
              show fx_W _ _ _ 74 lv18 [] _ _
              exact fx_rn aj_d94 rfl ⟨(), rfl, 0, rfl⟩
            · skip
              refine fx_qe (c := ((X21.1 w14b 3)).toInt = (w31).toInt) (fx_f_eq q32) ?_
              show fx_W _ _ _ 59 lv18 [] _ _
              refine fx_i2 aj_d94 rfl (Nat.le_succ _) (fun _ => rfl) hlv18_0 ?_
              refine fx_n (pc' := 61) (lv' := lv18) (st' := [.int (Int32.ofInt 5), .ref 91]) aj_d94 rfl (Nat.le_succ _) (fun _ => rfl) ?_
              refine fx_i0 aj_d94 rfl (Nat.le_succ _) (fun _ => rfl) hlv18_1 ?_
              refine fx_cv aj_d94 rfl (Nat.le_succ _) rfl [_, _] rfl rfl (gx_64_ok (Int32.ofInt 5) p1) ?_
              rintro _ X36 ⟨w37, rfl, hR36⟩ hok36 hle36
              refine fx_qc hR36 ?_
              show fx_W _ _ _ 65 lv18 [] _ _
              refine fx_i2 aj_d94 rfl (Nat.le_succ _) (fun _ => rfl) hlv18_0 ?_
              refine fx_gF aj_d94 rfl (Nat.le_succ _) rfl rfl fx_in_0_1 (t := 82) rfl (fun hA38 => ?_)
              refine fx_i0 aj_d94 rfl (Nat.le_succ _) (fun _ => rfl) hlv18_1 ?_
              refine fx_i0 aj_d94 rfl (Nat.le_succ _) (fun _ => rfl) hlv18_2 ?_
              refine fx_cv aj_d94 rfl (Nat.le_succ _) rfl [_, _] rfl rfl (gx_41_ok p1 w9) ?_
              rintro _ X39 ⟨w40, rfl, hR39⟩ hok39 hle39
              refine fx_qc hR39 ?_
              show fx_W _ _ _ 74 lv18 [] _ _
              exact fx_rn aj_d94 rfl ⟨(), rfl, 0, rfl⟩
def gx_72 (p1 : Int32) (X : fx_X) (v : Int32) (X' : fx_X) : Prop :=
  (if (p1).toInt < 0 then (v = (Int32.ofInt 0) ∧ X' = X) else ((if (p1).toInt < 2500 then ((0 ≤ (p1).toInt ∧ (p1).toInt < ((2500 : Nat) : Int)) ∧ v = (X.1 85 (p1).toInt.toNat) ∧ X' = X) else (v = (Int32.ofInt 0) ∧ X' = X))))
theorem gx_72_ok {tb : aj_T} (p1 : Int32) {X : fx_X} : fx_K tb 72 [.ref 82, .int p1] X (fx_Q fx_qI (fun v X' => gx_72 p1 X v X')) := by
  refine fx_m aj_m72_at rfl (fun N => ?_)
  refine fx_mono (Q := fx_Q fx_qI (fun v X' => ∃ n : Nat, gx_72 p1 X v X')) (fun r X' ⟨v, e, _, z⟩ => ⟨v, e, z⟩) ?_
  unfold gx_72
  show fx_W _ _ _ 0 [(0, .ref 82), (1, .int p1)] [] _ _
  obtain ⟨lv1, elv1⟩ : ∃ l : aj_V, l = [(0, .ref 82), (1, .int p1)] := ⟨_, rfl⟩
  rw [← elv1]
  have hlv1_0 : aj_lv lv1 0 = some (.ref 82) := by rw [elv1]; rfl
  have hlv1_1 : aj_lv lv1 1 = some (.int p1) := by rw [elv1]; rfl
  refine fx_i0 aj_d72 rfl (Nat.le_succ _) (fun _ => rfl) hlv1_1 ?_
  refine fx_b0 (tgt := 22) aj_d72 rfl (Nat.le_succ _) rfl (fun q2 => ?_) (fun q2 => ?_)
  · skip
    refine fx_qi (c := (p1).toInt < 0) (fx_t_lt q2) ?_
    show fx_W _ _ _ 22 lv1 [] _ _
    refine fx_n (pc' := 23) (lv' := lv1) (st' := [.int (Int32.ofInt 0)]) aj_d72 rfl (Nat.le_succ _) (fun _ => rfl) ?_
    exact fx_ri aj_d72 rfl ⟨_, rfl, 0, rfl, rfl⟩
  · skip
    refine fx_qe (c := (p1).toInt < 0) (fx_f_lt q2) ?_
    show fx_W _ _ _ 4 lv1 [] _ _
    refine fx_i0 aj_d72 rfl (Nat.le_succ _) (fun _ => rfl) hlv1_1 ?_
    refine fx_i2 aj_d72 rfl (Nat.le_succ _) (fun _ => rfl) hlv1_0 ?_
    refine fx_gF aj_d72 rfl (Nat.le_succ _) rfl rfl fx_in_4_2 (t := 85) rfl (fun hA3 => ?_)
    refine fx_al aj_d72 rfl (Nat.le_succ _) ?_
    rw [(hA3 : X.2.2.2.1 85 = (0, 2500))]
    show fx_W _ _ _ 10 lv1 [.int (Int32.ofNat 2500), .int p1] _ _
    refine fx_b (tgt := 22) aj_d72 rfl (Nat.le_succ _) rfl (fun q4 => ?_) (fun q4 => ?_)
    · skip
      refine fx_qe (c := (p1).toInt < 2500) (fx_t_ge q4) ?_
      show fx_W _ _ _ 22 lv1 [] _ _
      refine fx_n (pc' := 23) (lv' := lv1) (st' := [.int (Int32.ofInt 0)]) aj_d72 rfl (Nat.le_succ _) (fun _ => rfl) ?_
      exact fx_ri aj_d72 rfl ⟨_, rfl, 0, rfl, rfl⟩
    · skip
      refine fx_qi (c := (p1).toInt < 2500) (fx_f_ge q4) ?_
      show fx_W _ _ _ 13 lv1 [] _ _
      refine fx_i2 aj_d72 rfl (Nat.le_succ _) (fun _ => rfl) hlv1_0 ?_
      refine fx_gF aj_d72 rfl (Nat.le_succ _) rfl rfl fx_in_4_2 (t := 85) rfl (fun hA5 => ?_)
      refine fx_i0 aj_d72 rfl (Nat.le_succ _) (fun _ => rfl) hlv1_1 ?_
      refine fx_ld aj_d72 (Or.inl rfl) rfl (Nat.le_succ _) (fun g60 g61 => ?_)
      show fx_W _ _ _ 19 lv1 [.int (X.1 85 (p1).toInt.toNat)] _ _
      refine fx_qa (c := 0 ≤ (p1).toInt ∧ (p1).toInt < ((2500 : Nat) : Int)) ⟨g60, fx_lnk g61 hA5⟩ ?_
      refine fx_n (pc' := 23) (lv' := lv1) (st' := [.int (X.1 85 (p1).toInt.toNat)]) aj_d72 rfl (Nat.le_succ _) (fun _ => rfl) ?_
      exact fx_ri aj_d72 rfl ⟨_, rfl, 0, rfl, rfl⟩
def gx_69 (p1 : Int32) (X : fx_X) (v : Int32) (X' : fx_X) : Prop :=
  (if (p1).toInt < 0 then (v = (Int32.ofInt 0) ∧ X' = X) else ((if (p1).toInt < 20 then ((0 ≤ (p1).toInt ∧ (p1).toInt < ((20 : Nat) : Int)) ∧ v = (X.1 93 (p1).toInt.toNat) ∧ X' = X) else (v = (Int32.ofInt 0) ∧ X' = X))))
theorem gx_69_ok {tb : aj_T} (p1 : Int32) {X : fx_X} : fx_K tb 69 [.ref 91, .int p1] X (fx_Q fx_qI (fun v X' => gx_69 p1 X v X')) := by
  refine fx_m aj_m69_at rfl (fun N => ?_)
  refine fx_mono (Q := fx_Q fx_qI (fun v X' => ∃ n : Nat, gx_69 p1 X v X')) (fun r X' ⟨v, e, _, z⟩ => ⟨v, e, z⟩) ?_
  unfold gx_69
  show fx_W _ _ _ 0 [(0, .ref 91), (1, .int p1)] [] _ _
  obtain ⟨lv1, elv1⟩ : ∃ l : aj_V, l = [(0, .ref 91), (1, .int p1)] := ⟨_, rfl⟩
  rw [← elv1]
  have hlv1_0 : aj_lv lv1 0 = some (.ref 91) := by rw [elv1]; rfl
  have hlv1_1 : aj_lv lv1 1 = some (.int p1) := by rw [elv1]; rfl
  refine fx_i0 aj_d69 rfl (Nat.le_succ _) (fun _ => rfl) hlv1_1 ?_
  refine fx_b0 (tgt := 22) aj_d69 rfl (Nat.le_succ _) rfl (fun q2 => ?_) (fun q2 => ?_)
  · skip
    refine fx_qi (c := (p1).toInt < 0) (fx_t_lt q2) ?_
    show fx_W _ _ _ 22 lv1 [] _ _
    refine fx_n (pc' := 23) (lv' := lv1) (st' := [.int (Int32.ofInt 0)]) aj_d69 rfl (Nat.le_succ _) (fun _ => rfl) ?_
    exact fx_ri aj_d69 rfl ⟨_, rfl, 0, rfl, rfl⟩
  · skip
    refine fx_qe (c := (p1).toInt < 0) (fx_f_lt q2) ?_
    show fx_W _ _ _ 4 lv1 [] _ _
    refine fx_i0 aj_d69 rfl (Nat.le_succ _) (fun _ => rfl) hlv1_1 ?_
    refine fx_i2 aj_d69 rfl (Nat.le_succ _) (fun _ => rfl) hlv1_0 ?_
    refine fx_gF aj_d69 rfl (Nat.le_succ _) rfl rfl fx_in_0_4 (t := 93) rfl (fun hA3 => ?_)
    refine fx_al aj_d69 rfl (Nat.le_succ _) ?_
    rw [(hA3 : X.2.2.2.1 93 = (0, 20))]
    show fx_W _ _ _ 10 lv1 [.int (Int32.ofNat 20), .int p1] _ _
    refine fx_b (tgt := 22) aj_d69 rfl (Nat.le_succ _) rfl (fun q4 => ?_) (fun q4 => ?_)
    · skip
      refine fx_qe (c := (p1).toInt < 20) (fx_t_ge q4) ?_
      show fx_W _ _ _ 22 lv1 [] _ _
      refine fx_n (pc' := 23) (lv' := lv1) (st' := [.int (Int32.ofInt 0)]) aj_d69 rfl (Nat.le_succ _) (fun _ => rfl) ?_
      exact fx_ri aj_d69 rfl ⟨_, rfl, 0, rfl, rfl⟩
    · skip
      refine fx_qi (c := (p1).toInt < 20) (fx_f_ge q4) ?_
      show fx_W _ _ _ 13 lv1 [] _ _
      refine fx_i2 aj_d69 rfl (Nat.le_succ _) (fun _ => rfl) hlv1_0 ?_
      refine fx_gF aj_d69 rfl (Nat.le_succ _) rfl rfl fx_in_0_4 (t := 93) rfl (fun hA5 => ?_)
      refine fx_i0 aj_d69 rfl (Nat.le_succ _) (fun _ => rfl) hlv1_1 ?_
      refine fx_ld aj_d69 (Or.inl rfl) rfl (Nat.le_succ _) (fun g60 g61 => ?_)
      show fx_W _ _ _ 19 lv1 [.int (X.1 93 (p1).toInt.toNat)] _ _
      refine fx_qa (c := 0 ≤ (p1).toInt ∧ (p1).toInt < ((20 : Nat) : Int)) ⟨g60, fx_lnk g61 hA5⟩ ?_
      refine fx_n (pc' := 23) (lv' := lv1) (st' := [.int (X.1 93 (p1).toInt.toNat)]) aj_d69 rfl (Nat.le_succ _) (fun _ => rfl) ?_
      exact fx_ri aj_d69 rfl ⟨_, rfl, 0, rfl, rfl⟩
def gx_70 (p1 : Int32) (p2 : Int32) (X : fx_X) (v : Int64) (X' : fx_X) : Prop :=
  ∃ x2 : Int32, x2 = ((p1 * ((Int8.ofInt 6).toInt32)) + p2) ∧ (if (p1).toInt < 0 then (v = (Int64.ofNat 0) ∧ X' = X) else ((if (p2).toInt < 0 then (v = (Int64.ofNat 0) ∧ X' = X) else ((if (p2).toInt < 6 then ((if (x2).toInt < 120 then ((0 ≤ (x2).toInt ∧ (x2).toInt < ((120 : Nat) : Int)) ∧ v = (X.2.1 92 (x2).toInt.toNat) ∧ X' = X) else (v = (Int64.ofNat 0) ∧ X' = X))) else (v = (Int64.ofNat 0) ∧ X' = X))))))
theorem gx_70_ok {tb : aj_T} (p1 : Int32) (p2 : Int32) {X : fx_X} : fx_K tb 70 [.ref 91, .int p1, .int p2] X (fx_Q fx_qL (fun v X' => gx_70 p1 p2 X v X')) := by
  refine fx_m aj_m70_at rfl (fun N => ?_)
  refine fx_mono (Q := fx_Q fx_qL (fun v X' => ∃ n : Nat, gx_70 p1 p2 X v X')) (fun r X' ⟨v, e, _, z⟩ => ⟨v, e, z⟩) ?_
  unfold gx_70
  show fx_W _ _ _ 0 [(0, .ref 91), (1, .int p1), (2, .int p2)] [] _ _
  obtain ⟨lv1, elv1⟩ : ∃ l : aj_V, l = [(0, .ref 91), (1, .int p1), (2, .int p2)] := ⟨_, rfl⟩
  rw [← elv1]
  have hlv1_0 : aj_lv lv1 0 = some (.ref 91) := by rw [elv1]; rfl
  have hlv1_1 : aj_lv lv1 1 = some (.int p1) := by rw [elv1]; rfl
  have hlv1_2 : aj_lv lv1 2 = some (.int p2) := by rw [elv1]; rfl
  refine fx_i0 aj_d70 rfl (Nat.le_succ _) (fun _ => rfl) hlv1_1 ?_
  refine fx_n (pc' := 3) (lv' := lv1) (st' := [.int ((Int8.ofInt 6).toInt32), .int p1]) aj_d70 rfl (Nat.le_succ _) (fun _ => rfl) ?_
  refine fx_n (pc' := 4) (lv' := lv1) (st' := [.int (p1 * ((Int8.ofInt 6).toInt32))]) aj_d70 rfl (Nat.le_succ _) (fun _ => rfl) ?_
  refine fx_i0 aj_d70 rfl (Nat.le_succ _) (fun _ => rfl) hlv1_2 ?_
  refine fx_n (pc' := 6) (lv' := lv1) (st' := [.int ((p1 * ((Int8.ofInt 6).toInt32)) + p2)]) aj_d70 rfl (Nat.le_succ _) (fun _ => rfl) ?_
  refine fx_qxI (fun x2 ex2 => ?_)
  refine fx_s0 (j := 3) aj_d70 rfl (Nat.le_succ _) (by decide) (fun _ => rfl) ?_
  obtain ⟨lv3, elv3⟩ : ∃ l, l = aj_set1 lv1 3 (.int x2) := ⟨_, rfl⟩
  rw [← elv3]
  have hlv3_0 : aj_lv lv3 0 = some (.ref 91) := fx_e1 elv3 hlv1_0 (by decide) (Or.inl (by decide))
  have hlv3_1 : aj_lv lv3 1 = some (.int p1) := fx_e1 elv3 hlv1_1 (by decide) (Or.inl (by decide))
  have hlv3_2 : aj_lv lv3 2 = some (.int p2) := fx_e1 elv3 hlv1_2 (by decide) (Or.inr rfl)
  have hlv3_3 : aj_lv lv3 3 = some (.int x2) := by rw [elv3]; exact ak_set1_eq _ _ _
  show fx_W _ _ _ 7 lv3 [] _ _
  refine fx_i0 aj_d70 rfl (Nat.le_succ _) (fun _ => rfl) hlv3_1 ?_
  refine fx_b0 (tgt := 39) aj_d70 rfl (Nat.le_succ _) rfl (fun q4 => ?_) (fun q4 => ?_)
  · skip
    refine fx_qi (c := (p1).toInt < 0) (fx_t_lt q4) ?_
    show fx_W _ _ _ 39 lv3 [] _ _
    refine fx_n (pc' := 40) (lv' := lv3) (st' := [.long (Int64.ofNat 0)]) aj_d70 rfl (Nat.le_succ _) (fun _ => rfl) ?_
    exact fx_rl aj_d70 rfl rfl ⟨_, rfl, 0, rfl, rfl⟩
  · skip
    refine fx_qe (c := (p1).toInt < 0) (fx_f_lt q4) ?_
    show fx_W _ _ _ 11 lv3 [] _ _
    refine fx_i0 aj_d70 rfl (Nat.le_succ _) (fun _ => rfl) hlv3_2 ?_
    refine fx_b0 (tgt := 39) aj_d70 rfl (Nat.le_succ _) rfl (fun q5 => ?_) (fun q5 => ?_)
    · skip
      refine fx_qi (c := (p2).toInt < 0) (fx_t_lt q5) ?_
      show fx_W _ _ _ 39 lv3 [] _ _
      refine fx_n (pc' := 40) (lv' := lv3) (st' := [.long (Int64.ofNat 0)]) aj_d70 rfl (Nat.le_succ _) (fun _ => rfl) ?_
      exact fx_rl aj_d70 rfl rfl ⟨_, rfl, 0, rfl, rfl⟩
    · skip
      refine fx_qe (c := (p2).toInt < 0) (fx_f_lt q5) ?_
      show fx_W _ _ _ 15 lv3 [] _ _
      refine fx_i0 aj_d70 rfl (Nat.le_succ _) (fun _ => rfl) hlv3_2 ?_
      refine fx_n (pc' := 18) (lv' := lv3) (st' := [.int ((Int8.ofInt 6).toInt32), .int p2]) aj_d70 rfl (Nat.le_succ _) (fun _ => rfl) ?_
      refine fx_b (tgt := 39) aj_d70 rfl (Nat.le_succ _) rfl (fun q6 => ?_) (fun q6 => ?_)
      · skip
        refine fx_qe (c := (p2).toInt < 6) (fx_t_ge q6) ?_
        show fx_W _ _ _ 39 lv3 [] _ _
        refine fx_n (pc' := 40) (lv' := lv3) (st' := [.long (Int64.ofNat 0)]) aj_d70 rfl (Nat.le_succ _) (fun _ => rfl) ?_
        exact fx_rl aj_d70 rfl rfl ⟨_, rfl, 0, rfl, rfl⟩
      · skip
        refine fx_qi (c := (p2).toInt < 6) (fx_f_ge q6) ?_
        show fx_W _ _ _ 21 lv3 [] _ _
        refine fx_i0 aj_d70 rfl (Nat.le_succ _) (fun _ => rfl) hlv3_3 ?_
        refine fx_i2 aj_d70 rfl (Nat.le_succ _) (fun _ => rfl) hlv3_0 ?_
        refine fx_gF aj_d70 rfl (Nat.le_succ _) rfl rfl fx_in_0_3 (t := 92) rfl (fun hA7 => ?_)
        refine fx_al aj_d70 rfl (Nat.le_succ _) ?_
        rw [(hA7 : X.2.2.2.1 92 = (1, 120))]
        show fx_W _ _ _ 27 lv3 [.int (Int32.ofNat 120), .int x2] _ _
        refine fx_b (tgt := 39) aj_d70 rfl (Nat.le_succ _) rfl (fun q8 => ?_) (fun q8 => ?_)
        · skip
          refine fx_qe (c := (x2).toInt < 120) (fx_t_ge q8) ?_
          show fx_W _ _ _ 39 lv3 [] _ _
          refine fx_n (pc' := 40) (lv' := lv3) (st' := [.long (Int64.ofNat 0)]) aj_d70 rfl (Nat.le_succ _) (fun _ => rfl) ?_
          exact fx_rl aj_d70 rfl rfl ⟨_, rfl, 0, rfl, rfl⟩
        · skip
          refine fx_qi (c := (x2).toInt < 120) (fx_f_ge q8) ?_
          show fx_W _ _ _ 30 lv3 [] _ _
          refine fx_i2 aj_d70 rfl (Nat.le_succ _) (fun _ => rfl) hlv3_0 ?_
          refine fx_gF aj_d70 rfl (Nat.le_succ _) rfl rfl fx_in_0_3 (t := 92) rfl (fun hA9 => ?_)
          refine fx_i0 aj_d70 rfl (Nat.le_succ _) (fun _ => rfl) hlv3_3 ?_
          refine fx_ldL aj_d70 rfl (Nat.le_succ _) (fun g100 g101 => ?_)
          show fx_W _ _ _ 36 lv3 [.long (X.2.1 92 (x2).toInt.toNat)] _ _
          refine fx_qa (c := 0 ≤ (x2).toInt ∧ (x2).toInt < ((120 : Nat) : Int)) ⟨g100, fx_lnk g101 hA9⟩ ?_
          refine fx_n (pc' := 40) (lv' := lv3) (st' := [.long (X.2.1 92 (x2).toInt.toNat)]) aj_d70 rfl (Nat.le_succ _) (fun _ => rfl) ?_
          exact fx_rl aj_d70 rfl rfl ⟨_, rfl, 0, rfl, rfl⟩
def gxT_96_45 (p1 : Int32) (P : Nat → List Int32 → List Int64 → List Nat → fx_X → Unit → fx_X → Prop) (y2 : Int32) (X : fx_X) (v : Unit) (X' : fx_X) : Prop :=
  ∃ (w24 : Int32) (X23 : fx_X), gx_69 (X.1 91 5) X w24 X23 ∧ (if (y2).toInt < (w24).toInt then (∃ b27 : Nat, X23.2.2.1 91 2 = some b27 ∧ ∃ (w31 : Int64) (X30 : fx_X), gx_70 (X23.1 91 5) y2 X23 w31 X30 ∧ ∃ (w33 : Int32) (X32 : fx_X), gx_93 b27 w31 X30 w33 X32 ∧ ∃ x34 : Int32, x34 = y2 + Int32.ofInt 1 ∧ P 45 [x34] [] [] X32 v X') else (X' = X23))
def gxE_96 (p1 : Int32) (P : Nat → List Int32 → List Int64 → List Nat → fx_X → Unit → fx_X → Prop) (X : fx_X) (v : Unit) (X' : fx_X) : Prop :=
  ∃ b4 : Nat, X.2.2.1 91 2 = some b4 ∧ ∃ (w14 : Int32) (X13 : fx_X), gx_72 p1 X w14 X13 ∧ ∃ (w16 : Int64) (X15 : fx_X), gx_37 (w14 + (Int32.ofInt 1)) X13 w16 X15 ∧ ∃ (w18 : Int32) (X17 : fx_X), gx_92 b4 w16 (Int32.ofInt 1) X15 w18 X17 ∧ ∃ (w20 : Unit) (X19 : fx_X), gx_41 p1 w18 X17 w20 X19 ∧ ∃ X21 : fx_X, X21 = (fx_wI X19 91 5 ((X19.1 91 5) - (Int32.ofInt 1))) ∧ P 45 [(Int32.ofInt 0)] [] [] X21 v X'
noncomputable def gxF_96 (p1 : Int32) (n : Nat) : Nat → List Int32 → List Int64 → List Nat → fx_X → Unit → fx_X → Prop := Nat.rec (motive := fun _ => Nat → List Int32 → List Int64 → List Nat → fx_X → Unit → fx_X → Prop) (fun _ _ _ _ _ _ _ => False) (fun _ P l is ls rs X v X' => (l = 45 ∧ ∃ (y2 : Int32), is = [y2] ∧ ls = [] ∧ rs = [] ∧ gxT_96_45 p1 P y2 X v X')) n
theorem gxI_96_45 {p1 : Int32} {n : Nat} {y2 : Int32} {X : fx_X} {v : Unit} {X' : fx_X} (h : gxT_96_45 p1 (gxF_96 p1 n) y2 X v X') : gxF_96 p1 (n + 1) 45 [y2] [] [] X v X' := ⟨rfl, y2, rfl, rfl, rfl, h⟩
theorem gxO_96_45 {p1 : Int32} {n : Nat} {y2 : Int32} {X : fx_X} {v : Unit} {X' : fx_X} (h : gxF_96 p1 (n + 1) 45 [y2] [] [] X v X') : gxT_96_45 p1 (gxF_96 p1 n) y2 X v X' := by
  rcases h with ⟨-, _, e1, e2, e3, h⟩
  · cases e1; cases e2; cases e3; exact h
def gx_96 (p1 : Int32) (X : fx_X) (v : Unit) (X' : fx_X) : Prop := ∃ n : Nat, gxE_96 p1 (gxF_96 p1 n) X v X'
theorem gxL_96 {tb : aj_T} (p1 : Int32) : ∀ N : Nat, (∀ (lv : aj_V) (y2 : Int32) (X : fx_X), aj_lv lv 0 = some (.ref 91) → aj_lv lv 2 = some (.int y2) → fx_W tb aj_m96 N 45 lv [] X (fx_Q fx_qN (fun v X' => ∃ n : Nat, gxF_96 p1 n 45 [y2] [] [] X v X'))) := by
  intro N
  induction N with
  | zero => exact (by intros; exact fx_z)
  | succ N ih =>
    skip
    · intro lv y2 X hlv_0 hlv_2
      refine fx_mono (Q := fx_Q fx_qN (fun v X' => ∃ n : Nat, gxT_96_45 p1 (gxF_96 p1 n) y2 X v X')) (fun r X' ⟨v, e, n, z⟩ => ⟨v, e, n + 1, gxI_96_45 z⟩) ?_
      unfold gxT_96_45
      refine fx_i0 aj_d96 rfl (Nat.le_refl _) (fun _ => rfl) hlv_2 ?_
      refine fx_i2 aj_d96 rfl (Nat.le_succ _) (fun _ => rfl) hlv_0 ?_
      refine fx_i2 aj_d96 rfl (Nat.le_succ _) (fun _ => rfl) hlv_0 ?_
      refine fx_gI aj_d96 rfl (Nat.le_succ _) rfl rfl (Or.inl rfl) ?_
      refine fx_cv aj_d96 rfl (Nat.le_succ _) rfl [_] rfl rfl (gx_69_ok (X.1 91 5)) ?_
      rintro _ X23 ⟨w24, rfl, hR23⟩ hok23 hle23
      refine fx_qc hR23 ?_
      show fx_W _ _ _ 54 lv [.int w24, .int y2] _ _
      refine fx_b (tgt := 80) aj_d96 rfl (Nat.le_succ _) rfl (fun q25 => ?_) (fun q25 => ?_)
      · skip
        refine fx_qe (c := (y2).toInt < (w24).toInt) (fx_t_ge q25) ?_
        show fx_W _ _ _ 80 lv [] _ _
        exact fx_rn aj_d96 rfl ⟨(), rfl, 0, rfl⟩
      · skip
        refine fx_qi (c := (y2).toInt < (w24).toInt) (fx_f_ge q25) ?_
        show fx_W _ _ _ 57 lv [] _ _
        refine fx_i2 aj_d96 rfl (Nat.le_succ _) (fun _ => rfl) hlv_0 ?_
        refine fx_gR aj_d96 rfl (Nat.le_succ _) rfl rfl (Or.inl ⟨_, rfl⟩) (fun q26 _ => ?_) (fun b27 q26 => ?_)
        · skip
          show fx_W _ _ _ 61 lv [.null] _ _
          refine fx_i2 aj_d96 rfl (Nat.le_succ _) (fun _ => rfl) hlv_0 ?_
          refine fx_i2 aj_d96 rfl (Nat.le_succ _) (fun _ => rfl) hlv_0 ?_
          refine fx_gI aj_d96 rfl (Nat.le_succ _) rfl rfl (Or.inl rfl) ?_
          refine fx_i0 aj_d96 rfl (Nat.le_succ _) (fun _ => rfl) hlv_2 ?_
          refine fx_cv aj_d96 rfl (Nat.le_succ _) rfl [_, _] rfl rfl (gx_70_ok (X23.1 91 5) y2) ?_
          rintro _ X28 ⟨w29, rfl, hR28⟩ hok28 hle28
          show fx_W _ _ _ 70 lv [.long w29, .null] _ _
          exact fx_d aj_d96 rfl (fun _ => rfl)
        · skip
          refine fx_qs q26 ?_
          show fx_W _ _ _ 61 lv [.ref b27] _ _
          refine fx_i2 aj_d96 rfl (Nat.le_succ _) (fun _ => rfl) hlv_0 ?_
          refine fx_i2 aj_d96 rfl (Nat.le_succ _) (fun _ => rfl) hlv_0 ?_
          refine fx_gI aj_d96 rfl (Nat.le_succ _) rfl rfl (Or.inl rfl) ?_
          refine fx_i0 aj_d96 rfl (Nat.le_succ _) (fun _ => rfl) hlv_2 ?_
          refine fx_cv aj_d96 rfl (Nat.le_succ _) rfl [_, _] rfl rfl (gx_70_ok (X23.1 91 5) y2) ?_
          rintro _ X30 ⟨w31, rfl, hR30⟩ hok30 hle30
          refine fx_qc hR30 ?_
          show fx_W _ _ _ 70 lv [.long w31, .ref b27] _ _
          refine fx_cv aj_d96 rfl (Nat.le_succ _) rfl [_] rfl rfl (gx_93_ok b27 w31) ?_
          rintro _ X32 ⟨w33, rfl, hR32⟩ hok32 hle32
          refine fx_qc hR32 ?_
          show fx_W _ _ _ 73 lv [.int w33] _ _
          refine fx_n (pc' := 74) (lv' := lv) (st' := []) aj_d96 rfl (Nat.le_succ _) (fun _ => rfl) ?_
          refine fx_incq aj_d96 rfl (Nat.le_succ _) hlv_2 (by decide) (fun x34 ex34 => ?_)
          obtain ⟨lv35, elv35⟩ : ∃ l, l = aj_set1 lv 2 (.int x34) := ⟨_, rfl⟩
          rw [← elv35]
          have hlv35_0 : aj_lv lv35 0 = some (.ref 91) := fx_e1 elv35 hlv_0 (by decide) (Or.inl (by decide))
          have hlv35_2 : aj_lv lv35 2 = some (.int x34) := by rw [elv35]; exact ak_set1_eq _ _ _
          show fx_W _ _ _ 77 lv35 [] _ _
          refine fx_n (pc' := 45) (lv' := lv35) (st' := []) aj_d96 rfl (Nat.le_succ _) (fun _ => rfl) ?_
          exact (ih) lv35 (x34) X32  hlv35_0 hlv35_2
theorem gx_96_ok {tb : aj_T} (p1 : Int32) {X : fx_X} : fx_K tb 96 [.ref 91, .int p1] X (fx_Q fx_qN (fun v X' => gx_96 p1 X v X')) := by
  refine fx_m aj_m96_at rfl (fun N => ?_)
  refine fx_mono (Q := fx_Q fx_qN (fun v X' => ∃ n : Nat, gxE_96 p1 (gxF_96 p1 n) X v X')) (fun r X' h => h) ?_
  unfold gxE_96
  show fx_W _ _ _ 0 [(0, .ref 91), (1, .int p1)] [] _ _
  obtain ⟨lv1, elv1⟩ : ∃ l : aj_V, l = [(0, .ref 91), (1, .int p1)] := ⟨_, rfl⟩
  rw [← elv1]
  have hlv1_0 : aj_lv lv1 0 = some (.ref 91) := by rw [elv1]; rfl
  have hlv1_1 : aj_lv lv1 1 = some (.int p1) := by rw [elv1]; rfl
  refine fx_i2 aj_d96 rfl (Nat.le_succ _) (fun _ => rfl) hlv1_0 ?_
  refine fx_gF aj_d96 rfl (Nat.le_succ _) rfl rfl fx_in_0_1 (t := 82) rfl (fun hA2 => ?_)
  refine fx_i0 aj_d96 rfl (Nat.le_succ _) (fun _ => rfl) hlv1_1 ?_
  refine fx_i2 aj_d96 rfl (Nat.le_succ _) (fun _ => rfl) hlv1_0 ?_
  refine fx_gR aj_d96 rfl (Nat.le_succ _) rfl rfl (Or.inl ⟨_, rfl⟩) (fun q3 _ => ?_) (fun b4 q3 => ?_)
  · skip
    show fx_W _ _ _ 9 lv1 [.null, .int p1, .ref 82] _ _
    refine fx_i2 aj_d96 rfl (Nat.le_succ _) (fun _ => rfl) hlv1_0 ?_
    refine fx_gF aj_d96 rfl (Nat.le_succ _) rfl rfl fx_in_0_0 (t := 78) rfl (fun hA5 => ?_)
    refine fx_i2 aj_d96 rfl (Nat.le_succ _) (fun _ => rfl) hlv1_0 ?_
    refine fx_gF aj_d96 rfl (Nat.le_succ _) rfl rfl fx_in_0_1 (t := 82) rfl (fun hA6 => ?_)
    refine fx_i0 aj_d96 rfl (Nat.le_succ _) (fun _ => rfl) hlv1_1 ?_
    refine fx_cv aj_d96 rfl (Nat.le_succ _) rfl [_] rfl rfl (gx_72_ok p1) ?_
    rintro _ X7 ⟨w8, rfl, hR7⟩ hok7 hle7
    show fx_W _ _ _ 21 lv1 [.int w8, .ref 78, .null, .int p1, .ref 82] _ _
    refine fx_n (pc' := 22) (lv' := lv1) (st' := [.int (Int32.ofInt 1), .int w8, .ref 78, .null, .int p1, .ref 82]) aj_d96 rfl (Nat.le_succ _) (fun _ => rfl) ?_
    refine fx_n (pc' := 23) (lv' := lv1) (st' := [.int (w8 + (Int32.ofInt 1)), .ref 78, .null, .int p1, .ref 82]) aj_d96 rfl (Nat.le_succ _) (fun _ => rfl) ?_
    refine fx_cv aj_d96 rfl (Nat.le_succ _) rfl [_] rfl rfl (gx_37_ok (w8 + (Int32.ofInt 1))) ?_
    rintro _ X9 ⟨w10, rfl, hR9⟩ hok9 hle9
    show fx_W _ _ _ 26 lv1 [.long w10, .null, .int p1, .ref 82] _ _
    refine fx_n (pc' := 27) (lv' := lv1) (st' := [.int (Int32.ofInt 1), .long w10, .null, .int p1, .ref 82]) aj_d96 rfl (Nat.le_succ _) (fun _ => rfl) ?_
    exact fx_d aj_d96 rfl (fun _ => rfl)
  · skip
    refine fx_qs q3 ?_
    show fx_W _ _ _ 9 lv1 [.ref b4, .int p1, .ref 82] _ _
    refine fx_i2 aj_d96 rfl (Nat.le_succ _) (fun _ => rfl) hlv1_0 ?_
    refine fx_gF aj_d96 rfl (Nat.le_succ _) rfl rfl fx_in_0_0 (t := 78) rfl (fun hA11 => ?_)
    refine fx_i2 aj_d96 rfl (Nat.le_succ _) (fun _ => rfl) hlv1_0 ?_
    refine fx_gF aj_d96 rfl (Nat.le_succ _) rfl rfl fx_in_0_1 (t := 82) rfl (fun hA12 => ?_)
    refine fx_i0 aj_d96 rfl (Nat.le_succ _) (fun _ => rfl) hlv1_1 ?_
    refine fx_cv aj_d96 rfl (Nat.le_succ _) rfl [_] rfl rfl (gx_72_ok p1) ?_
    rintro _ X13 ⟨w14, rfl, hR13⟩ hok13 hle13
    refine fx_qc hR13 ?_
    show fx_W _ _ _ 21 lv1 [.int w14, .ref 78, .ref b4, .int p1, .ref 82] _ _
    refine fx_n (pc' := 22) (lv' := lv1) (st' := [.int (Int32.ofInt 1), .int w14, .ref 78, .ref b4, .int p1, .ref 82]) aj_d96 rfl (Nat.le_succ _) (fun _ => rfl) ?_
    refine fx_n (pc' := 23) (lv' := lv1) (st' := [.int (w14 + (Int32.ofInt 1)), .ref 78, .ref b4, .int p1, .ref 82]) aj_d96 rfl (Nat.le_succ _) (fun _ => rfl) ?_
    refine fx_cv aj_d96 rfl (Nat.le_succ _) rfl [_] rfl rfl (gx_37_ok (w14 + (Int32.ofInt 1))) ?_
    rintro _ X15 ⟨w16, rfl, hR15⟩ hok15 hle15
    refine fx_qc hR15 ?_
    show fx_W _ _ _ 26 lv1 [.long w16, .ref b4, .int p1, .ref 82] _ _
    refine fx_n (pc' := 27) (lv' := lv1) (st' := [.int (Int32.ofInt 1), .long w16, .ref b4, .int p1, .ref 82]) aj_d96 rfl (Nat.le_succ _) (fun _ => rfl) ?_
    refine fx_cv aj_d96 rfl (Nat.le_succ _) rfl [_, _] rfl rfl (gx_92_ok b4 w16 (Int32.ofInt 1)) ?_
    rintro _ X17 ⟨w18, rfl, hR17⟩ hok17 hle17
    refine fx_qc hR17 ?_
    show fx_W _ _ _ 30 lv1 [.int w18, .int p1, .ref 82] _ _
    refine fx_cv aj_d96 rfl (Nat.le_succ _) rfl [_, _] rfl rfl (gx_41_ok p1 w18) ?_
    rintro _ X19 ⟨w20, rfl, hR19⟩ hok19 hle19
    refine fx_qc hR19 ?_
    show fx_W _ _ _ 33 lv1 [] _ _
    refine fx_i2 aj_d96 rfl (Nat.le_succ _) (fun _ => rfl) hlv1_0 ?_
    refine fx_n (pc' := 35) (lv' := lv1) (st' := [.ref 91, .ref 91]) aj_d96 rfl (Nat.le_succ _) (fun _ => rfl) ?_
    refine fx_gI aj_d96 rfl (Nat.le_succ _) rfl rfl (Or.inl rfl) ?_
    refine fx_n (pc' := 39) (lv' := lv1) (st' := [.int (Int32.ofInt 1), .int (X19.1 91 5), .ref 91]) aj_d96 rfl (Nat.le_succ _) (fun _ => rfl) ?_
    refine fx_n (pc' := 40) (lv' := lv1) (st' := [.int ((X19.1 91 5) - (Int32.ofInt 1)), .ref 91]) aj_d96 rfl (Nat.le_succ _) (fun _ => rfl) ?_
    refine fx_pI aj_d96 rfl (Nat.le_succ _) rfl rfl (Or.inl rfl) fx_no_0_5 (by decide) ?_
    refine fx_qX (fun X21 eX21 => ?_)
    show fx_W _ _ _ 43 lv1 [] _ _
    refine fx_n (pc' := 44) (lv' := lv1) (st' := [.int (Int32.ofInt 0)]) aj_d96 rfl (Nat.le_succ _) (fun _ => rfl) ?_
    refine fx_s0 (j := 2) aj_d96 rfl (Nat.le_succ _) (by decide) (fun _ => rfl) ?_
    obtain ⟨lv22, elv22⟩ : ∃ l, l = aj_set1 lv1 2 (.int (Int32.ofInt 0)) := ⟨_, rfl⟩
    rw [← elv22]
    have hlv22_0 : aj_lv lv22 0 = some (.ref 91) := fx_e1 elv22 hlv1_0 (by decide) (Or.inl (by decide))
    have hlv22_2 : aj_lv lv22 2 = some (.int (Int32.ofInt 0)) := by rw [elv22]; exact ak_set1_eq _ _ _
    show fx_W _ _ _ 45 lv22 [] _ _
    exact ((gxL_96 p1 N)) lv22 ((Int32.ofInt 0)) X21  hlv22_0 hlv22_2
def gx_85 (p1 : Int32) (p2 : Int32) (X : fx_X) (v : Unit) (X' : fx_X) : Prop :=
  (if (p1).toInt = 180 then (∃ b5 : Nat, X.2.2.1 91 2 = some b5 ∧ ∃ (w9 : Int64) (X8 : fx_X), gx_60 p2 X w9 X8 ∧ ∃ (w11 : Int32) (X10 : fx_X), gx_84 b5 w9 X8 w11 X10 ∧ (if (w11).toInt < 0 then (∃ b14 : Nat, X10.2.2.1 91 2 = some b14 ∧ ∃ (w18 : Int64) (X17 : fx_X), gx_60 p2 X10 w18 X17 ∧ ∃ (w20 : Unit) (X19 : fx_X), gx_86 b14 w18 X17 w20 X19 ∧ X' = X19) else (∃ (w22 : Unit) (X21 : fx_X), gx_64 (Int32.ofInt 3) p2 X10 w22 X21 ∧ X' = X21))) else ((if (p1).toInt = 181 then (∃ b25 : Nat, X.2.2.1 91 2 = some b25 ∧ ∃ (w29 : Int32) (X28 : fx_X), gx_82 p2 X w29 X28 ∧ ∃ (w31 : Int32) (X30 : fx_X), gx_87 b25 w29 X28 w31 X30 ∧ (if (w31).toInt = 0 then (∃ (w34 : Unit) (X33 : fx_X), gx_64 (Int32.ofInt 5) p2 X30 w34 X33 ∧ X' = X33) else (X' = X30))) else ((if (p1).toInt = 182 then (∃ (w37 : Unit) (X36 : fx_X), gx_88 p2 X w37 X36 ∧ X' = X36) else ((if (p1).toInt = 183 then (∃ b40 : Nat, X.2.2.1 91 2 = some b40 ∧ ∃ (w42 : Int32) (X41 : fx_X), gx_90 b40 X w42 X41 ∧ (if (w42).toInt = 0 then (∃ (w45 : Unit) (X44 : fx_X), gx_64 (Int32.ofInt 5) p2 X41 w45 X44 ∧ X' = X44) else (X' = X41))) else ((if (p1).toInt = 184 then (∃ (w48 : Int32) (X47 : fx_X), gx_91 p2 X w48 X47 ∧ (if (w48).toInt = 0 then (X' = X47) else (∃ b51 : Nat, X47.2.2.1 91 2 = some b51 ∧ ∃ (w55 : Int64) (X54 : fx_X), gx_60 p2 X47 w55 X54 ∧ ∃ (w57 : Int32) (X56 : fx_X), gx_92 b51 w55 (Int32.ofInt 0) X54 w57 X56 ∧ X' = X56))) else ((if (p1).toInt = 185 then (∃ b60 : Nat, X.2.2.1 91 2 = some b60 ∧ ∃ (w64 : Int64) (X63 : fx_X), gx_60 p2 X w64 X63 ∧ ∃ (w66 : Int32) (X65 : fx_X), gx_93 b60 w64 X63 w66 X65 ∧ (if (w66).toInt = 0 then (∃ (w69 : Unit) (X68 : fx_X), gx_64 (Int32.ofInt 3) p2 X65 w69 X68 ∧ X' = X68) else (X' = X65))) else ((if (p1).toInt = 186 then (∃ (w72 : Unit) (X71 : fx_X), gx_94 p2 X w72 X71 ∧ X' = X71) else ((if (p1).toInt = 191 then (∃ (w75 : Int32) (X74 : fx_X), gx_91 p2 X w75 X74 ∧ X' = X74) else ((if (p1).toInt = 192 then (∃ (w78 : Unit) (X77 : fx_X), gx_96 p2 X w78 X77 ∧ X' = X77) else (X' = X))))))))))))))))))
theorem gx_85_ok {tb : aj_T} (p1 : Int32) (p2 : Int32) {X : fx_X} : fx_K tb 85 [.ref 91, .int p1, .int p2] X (fx_Q fx_qN (fun v X' => gx_85 p1 p2 X v X')) := by
  refine fx_m aj_m85_at rfl (fun N => ?_)
  refine fx_mono (Q := fx_Q fx_qN (fun v X' => ∃ n : Nat, gx_85 p1 p2 X v X')) (fun r X' ⟨v, e, _, z⟩ => ⟨v, e, z⟩) ?_
  unfold gx_85
  show fx_W _ _ _ 0 [(0, .ref 91), (1, .int p1), (2, .int p2)] [] _ _
  obtain ⟨lv1, elv1⟩ : ∃ l : aj_V, l = [(0, .ref 91), (1, .int p1), (2, .int p2)] := ⟨_, rfl⟩
  rw [← elv1]
  have hlv1_0 : aj_lv lv1 0 = some (.ref 91) := by rw [elv1]; rfl
  have hlv1_1 : aj_lv lv1 1 = some (.int p1) := by rw [elv1]; rfl
  have hlv1_2 : aj_lv lv1 2 = some (.int p2) := by rw [elv1]; rfl
  refine fx_i0 aj_d85 rfl (Nat.le_succ _) (fun _ => rfl) hlv1_1 ?_
  by_cases q3 : (p1).toInt = 180
  · skip
    refine fx_qi (c := (p1).toInt = 180) q3 ?_
    refine fx_ts (tgt := 68) aj_d85 rfl (Nat.le_succ _) q3 (by decide) rfl rfl ?_
    show fx_W _ _ _ 68 lv1 [] _ _
    refine fx_i2 aj_d85 rfl (Nat.le_succ _) (fun _ => rfl) hlv1_0 ?_
    refine fx_gR aj_d85 rfl (Nat.le_succ _) rfl rfl (Or.inl ⟨_, rfl⟩) (fun q4 _ => ?_) (fun b5 q4 => ?_)
    · skip
      show fx_W _ _ _ 72 lv1 [.null] _ _
      refine fx_i2 aj_d85 rfl (Nat.le_succ _) (fun _ => rfl) hlv1_0 ?_
      refine fx_i0 aj_d85 rfl (Nat.le_succ _) (fun _ => rfl) hlv1_2 ?_
      refine fx_cv aj_d85 rfl (Nat.le_succ _) rfl [_] rfl rfl (gx_60_ok p2) ?_
      rintro _ X6 ⟨w7, rfl, hR6⟩ hok6 hle6
      show fx_W _ _ _ 77 lv1 [.long w7, .null] _ _
      exact fx_d aj_d85 rfl (fun _ => rfl)
    · skip
      refine fx_qs q4 ?_
      show fx_W _ _ _ 72 lv1 [.ref b5] _ _
      refine fx_i2 aj_d85 rfl (Nat.le_succ _) (fun _ => rfl) hlv1_0 ?_
      refine fx_i0 aj_d85 rfl (Nat.le_succ _) (fun _ => rfl) hlv1_2 ?_
      refine fx_cv aj_d85 rfl (Nat.le_succ _) rfl [_] rfl rfl (gx_60_ok p2) ?_
      rintro _ X8 ⟨w9, rfl, hR8⟩ hok8 hle8
      refine fx_qc hR8 ?_
      show fx_W _ _ _ 77 lv1 [.long w9, .ref b5] _ _
      refine fx_cv aj_d85 rfl (Nat.le_succ _) rfl [_] rfl rfl (gx_84_ok b5 w9) ?_
      rintro _ X10 ⟨w11, rfl, hR10⟩ hok10 hle10
      refine fx_qc hR10 ?_
      show fx_W _ _ _ 80 lv1 [.int w11] _ _
      refine fx_b0 (tgt := 92) aj_d85 rfl (Nat.le_succ _) rfl (fun q12 => ?_) (fun q12 => ?_)
      · skip
        refine fx_qi (c := (w11).toInt < 0) (fx_t_lt q12) ?_
        show fx_W _ _ _ 92 lv1 [] _ _
        refine fx_i2 aj_d85 rfl (Nat.le_succ _) (fun _ => rfl) hlv1_0 ?_
        refine fx_gR aj_d85 rfl (Nat.le_succ _) rfl rfl (Or.inl ⟨_, rfl⟩) (fun q13 _ => ?_) (fun b14 q13 => ?_)
        · skip
          show fx_W _ _ _ 96 lv1 [.null] _ _
          refine fx_i2 aj_d85 rfl (Nat.le_succ _) (fun _ => rfl) hlv1_0 ?_
          refine fx_i0 aj_d85 rfl (Nat.le_succ _) (fun _ => rfl) hlv1_2 ?_
          refine fx_cv aj_d85 rfl (Nat.le_succ _) rfl [_] rfl rfl (gx_60_ok p2) ?_
          rintro _ X15 ⟨w16, rfl, hR15⟩ hok15 hle15
          show fx_W _ _ _ 101 lv1 [.long w16, .null] _ _
          exact fx_d aj_d85 rfl (fun _ => rfl)
        · skip
          refine fx_qs q13 ?_
          show fx_W _ _ _ 96 lv1 [.ref b14] _ _
          refine fx_i2 aj_d85 rfl (Nat.le_succ _) (fun _ => rfl) hlv1_0 ?_
          refine fx_i0 aj_d85 rfl (Nat.le_succ _) (fun _ => rfl) hlv1_2 ?_
          refine fx_cv aj_d85 rfl (Nat.le_succ _) rfl [_] rfl rfl (gx_60_ok p2) ?_
          rintro _ X17 ⟨w18, rfl, hR17⟩ hok17 hle17
          refine fx_qc hR17 ?_
          show fx_W _ _ _ 101 lv1 [.long w18, .ref b14] _ _
          refine fx_cv aj_d85 rfl (Nat.le_succ _) rfl [_] rfl rfl (gx_86_ok b14 w18) ?_
          rintro _ X19 ⟨w20, rfl, hR19⟩ hok19 hle19
          refine fx_qc hR19 ?_
          show fx_W _ _ _ 104 lv1 [] _ _
          refine fx_n (pc' := 232) (lv' := lv1) (st' := []) aj_d85 rfl (Nat.le_succ _) (fun _ => rfl) ?_
          exact fx_rn aj_d85 rfl ⟨(), rfl, 0, rfl⟩
      · skip
        refine fx_qe (c := (w11).toInt < 0) (fx_f_lt q12) ?_
        show fx_W _ _ _ 83 lv1 [] _ _
        refine fx_i2 aj_d85 rfl (Nat.le_succ _) (fun _ => rfl) hlv1_0 ?_
        refine fx_n (pc' := 85) (lv' := lv1) (st' := [.int (Int32.ofInt 3), .ref 91]) aj_d85 rfl (Nat.le_succ _) (fun _ => rfl) ?_
        refine fx_i0 aj_d85 rfl (Nat.le_succ _) (fun _ => rfl) hlv1_2 ?_
        refine fx_cv aj_d85 rfl (Nat.le_succ _) rfl [_, _] rfl rfl (gx_64_ok (Int32.ofInt 3) p2) ?_
        rintro _ X21 ⟨w22, rfl, hR21⟩ hok21 hle21
        refine fx_qc hR21 ?_
        show fx_W _ _ _ 89 lv1 [] _ _
        refine fx_n (pc' := 232) (lv' := lv1) (st' := []) aj_d85 rfl (Nat.le_succ _) (fun _ => rfl) ?_
        exact fx_rn aj_d85 rfl ⟨(), rfl, 0, rfl⟩
  · skip
    refine fx_qe (c := (p1).toInt = 180) q3 ?_
    by_cases q23 : (p1).toInt = 181
    · skip
      refine fx_qi (c := (p1).toInt = 181) q23 ?_
      refine fx_ts (tgt := 107) aj_d85 rfl (Nat.le_succ _) q23 (by decide) rfl rfl ?_
      show fx_W _ _ _ 107 lv1 [] _ _
      refine fx_i2 aj_d85 rfl (Nat.le_succ _) (fun _ => rfl) hlv1_0 ?_
      refine fx_gR aj_d85 rfl (Nat.le_succ _) rfl rfl (Or.inl ⟨_, rfl⟩) (fun q24 _ => ?_) (fun b25 q24 => ?_)
      · skip
        show fx_W _ _ _ 111 lv1 [.null] _ _
        refine fx_i2 aj_d85 rfl (Nat.le_succ _) (fun _ => rfl) hlv1_0 ?_
        refine fx_i0 aj_d85 rfl (Nat.le_succ _) (fun _ => rfl) hlv1_2 ?_
        refine fx_cv aj_d85 rfl (Nat.le_succ _) rfl [_] rfl rfl (gx_82_ok p2) ?_
        rintro _ X26 ⟨w27, rfl, hR26⟩ hok26 hle26
        show fx_W _ _ _ 116 lv1 [.int w27, .null] _ _
        exact fx_d aj_d85 rfl (fun _ => rfl)
      · skip
        refine fx_qs q24 ?_
        show fx_W _ _ _ 111 lv1 [.ref b25] _ _
        refine fx_i2 aj_d85 rfl (Nat.le_succ _) (fun _ => rfl) hlv1_0 ?_
        refine fx_i0 aj_d85 rfl (Nat.le_succ _) (fun _ => rfl) hlv1_2 ?_
        refine fx_cv aj_d85 rfl (Nat.le_succ _) rfl [_] rfl rfl (gx_82_ok p2) ?_
        rintro _ X28 ⟨w29, rfl, hR28⟩ hok28 hle28
        refine fx_qc hR28 ?_
        show fx_W _ _ _ 116 lv1 [.int w29, .ref b25] _ _
        refine fx_cv aj_d85 rfl (Nat.le_succ _) rfl [_] rfl rfl (gx_87_ok b25 w29) ?_
        rintro _ X30 ⟨w31, rfl, hR30⟩ hok30 hle30
        refine fx_qc hR30 ?_
        show fx_W _ _ _ 119 lv1 [.int w31] _ _
        refine fx_b0 (tgt := 232) aj_d85 rfl (Nat.le_succ _) rfl (fun q32 => ?_) (fun q32 => ?_)
        · skip
          refine fx_qe (c := (w31).toInt = 0) (fx_t_ne q32) ?_
          show fx_W _ _ _ 232 lv1 [] _ _
          exact fx_rn aj_d85 rfl ⟨(), rfl, 0, rfl⟩
        · skip
          refine fx_qi (c := (w31).toInt = 0) (fx_f_ne q32) ?_
          show fx_W _ _ _ 122 lv1 [] _ _
          refine fx_i2 aj_d85 rfl (Nat.le_succ _) (fun _ => rfl) hlv1_0 ?_
          refine fx_n (pc' := 124) (lv' := lv1) (st' := [.int (Int32.ofInt 5), .ref 91]) aj_d85 rfl (Nat.le_succ _) (fun _ => rfl) ?_
          refine fx_i0 aj_d85 rfl (Nat.le_succ _) (fun _ => rfl) hlv1_2 ?_
          refine fx_cv aj_d85 rfl (Nat.le_succ _) rfl [_, _] rfl rfl (gx_64_ok (Int32.ofInt 5) p2) ?_
          rintro _ X33 ⟨w34, rfl, hR33⟩ hok33 hle33
          refine fx_qc hR33 ?_
          show fx_W _ _ _ 128 lv1 [] _ _
          refine fx_n (pc' := 232) (lv' := lv1) (st' := []) aj_d85 rfl (Nat.le_succ _) (fun _ => rfl) ?_
          exact fx_rn aj_d85 rfl ⟨(), rfl, 0, rfl⟩
    · skip
      refine fx_qe (c := (p1).toInt = 181) q23 ?_
      by_cases q35 : (p1).toInt = 182
      · skip
        refine fx_qi (c := (p1).toInt = 182) q35 ?_
        refine fx_ts (tgt := 131) aj_d85 rfl (Nat.le_succ _) q35 (by decide) rfl rfl ?_
        show fx_W _ _ _ 131 lv1 [] _ _
        refine fx_i2 aj_d85 rfl (Nat.le_succ _) (fun _ => rfl) hlv1_0 ?_
        refine fx_i0 aj_d85 rfl (Nat.le_succ _) (fun _ => rfl) hlv1_2 ?_
        refine fx_cv aj_d85 rfl (Nat.le_succ _) rfl [_] rfl rfl (gx_88_ok p2) ?_
        rintro _ X36 ⟨w37, rfl, hR36⟩ hok36 hle36
        refine fx_qc hR36 ?_
        show fx_W _ _ _ 136 lv1 [] _ _
        refine fx_n (pc' := 232) (lv' := lv1) (st' := []) aj_d85 rfl (Nat.le_succ _) (fun _ => rfl) ?_
        exact fx_rn aj_d85 rfl ⟨(), rfl, 0, rfl⟩
      · skip
        refine fx_qe (c := (p1).toInt = 182) q35 ?_
        by_cases q38 : (p1).toInt = 183
        · skip
          refine fx_qi (c := (p1).toInt = 183) q38 ?_
          refine fx_ts (tgt := 139) aj_d85 rfl (Nat.le_succ _) q38 (by decide) rfl rfl ?_
          show fx_W _ _ _ 139 lv1 [] _ _
          refine fx_i2 aj_d85 rfl (Nat.le_succ _) (fun _ => rfl) hlv1_0 ?_
          refine fx_gR aj_d85 rfl (Nat.le_succ _) rfl rfl (Or.inl ⟨_, rfl⟩) (fun q39 _ => ?_) (fun b40 q39 => ?_)
          · skip
            show fx_W _ _ _ 143 lv1 [.null] _ _
            exact fx_d aj_d85 rfl (fun _ => rfl)
          · skip
            refine fx_qs q39 ?_
            show fx_W _ _ _ 143 lv1 [.ref b40] _ _
            refine fx_cv aj_d85 rfl (Nat.le_succ _) rfl [] rfl rfl (gx_90_ok b40) ?_
            rintro _ X41 ⟨w42, rfl, hR41⟩ hok41 hle41
            refine fx_qc hR41 ?_
            show fx_W _ _ _ 146 lv1 [.int w42] _ _
            refine fx_b0 (tgt := 232) aj_d85 rfl (Nat.le_succ _) rfl (fun q43 => ?_) (fun q43 => ?_)
            · skip
              refine fx_qe (c := (w42).toInt = 0) (fx_t_ne q43) ?_
              show fx_W _ _ _ 232 lv1 [] _ _
              exact fx_rn aj_d85 rfl ⟨(), rfl, 0, rfl⟩
            · skip
              refine fx_qi (c := (w42).toInt = 0) (fx_f_ne q43) ?_
              show fx_W _ _ _ 149 lv1 [] _ _
              refine fx_i2 aj_d85 rfl (Nat.le_succ _) (fun _ => rfl) hlv1_0 ?_
              refine fx_n (pc' := 151) (lv' := lv1) (st' := [.int (Int32.ofInt 5), .ref 91]) aj_d85 rfl (Nat.le_succ _) (fun _ => rfl) ?_
              refine fx_i0 aj_d85 rfl (Nat.le_succ _) (fun _ => rfl) hlv1_2 ?_
              refine fx_cv aj_d85 rfl (Nat.le_succ _) rfl [_, _] rfl rfl (gx_64_ok (Int32.ofInt 5) p2) ?_
              rintro _ X44 ⟨w45, rfl, hR44⟩ hok44 hle44
              refine fx_qc hR44 ?_
              show fx_W _ _ _ 155 lv1 [] _ _
              refine fx_n (pc' := 232) (lv' := lv1) (st' := []) aj_d85 rfl (Nat.le_succ _) (fun _ => rfl) ?_
              exact fx_rn aj_d85 rfl ⟨(), rfl, 0, rfl⟩
        · skip
          refine fx_qe (c := (p1).toInt = 183) q38 ?_
          by_cases q46 : (p1).toInt = 184
          · skip
            refine fx_qi (c := (p1).toInt = 184) q46 ?_
            refine fx_ts (tgt := 158) aj_d85 rfl (Nat.le_succ _) q46 (by decide) rfl rfl ?_
            show fx_W _ _ _ 158 lv1 [] _ _
            refine fx_i2 aj_d85 rfl (Nat.le_succ _) (fun _ => rfl) hlv1_0 ?_
            refine fx_i0 aj_d85 rfl (Nat.le_succ _) (fun _ => rfl) hlv1_2 ?_
            refine fx_cv aj_d85 rfl (Nat.le_succ _) rfl [_] rfl rfl (gx_91_ok p2) ?_
            rintro _ X47 ⟨w48, rfl, hR47⟩ hok47 hle47
            refine fx_qc hR47 ?_
            show fx_W _ _ _ 163 lv1 [.int w48] _ _
            refine fx_b0 (tgt := 232) aj_d85 rfl (Nat.le_succ _) rfl (fun q49 => ?_) (fun q49 => ?_)
            · skip
              refine fx_qi (c := (w48).toInt = 0) (fx_t_eq q49) ?_
              show fx_W _ _ _ 232 lv1 [] _ _
              exact fx_rn aj_d85 rfl ⟨(), rfl, 0, rfl⟩
            · skip
              refine fx_qe (c := (w48).toInt = 0) (fx_f_eq q49) ?_
              show fx_W _ _ _ 166 lv1 [] _ _
              refine fx_i2 aj_d85 rfl (Nat.le_succ _) (fun _ => rfl) hlv1_0 ?_
              refine fx_gR aj_d85 rfl (Nat.le_succ _) rfl rfl (Or.inl ⟨_, rfl⟩) (fun q50 _ => ?_) (fun b51 q50 => ?_)
              · skip
                show fx_W _ _ _ 170 lv1 [.null] _ _
                refine fx_i2 aj_d85 rfl (Nat.le_succ _) (fun _ => rfl) hlv1_0 ?_
                refine fx_i0 aj_d85 rfl (Nat.le_succ _) (fun _ => rfl) hlv1_2 ?_
                refine fx_cv aj_d85 rfl (Nat.le_succ _) rfl [_] rfl rfl (gx_60_ok p2) ?_
                rintro _ X52 ⟨w53, rfl, hR52⟩ hok52 hle52
                show fx_W _ _ _ 175 lv1 [.long w53, .null] _ _
                refine fx_n (pc' := 176) (lv' := lv1) (st' := [.int (Int32.ofInt 0), .long w53, .null]) aj_d85 rfl (Nat.le_succ _) (fun _ => rfl) ?_
                exact fx_d aj_d85 rfl (fun _ => rfl)
              · skip
                refine fx_qs q50 ?_
                show fx_W _ _ _ 170 lv1 [.ref b51] _ _
                refine fx_i2 aj_d85 rfl (Nat.le_succ _) (fun _ => rfl) hlv1_0 ?_
                refine fx_i0 aj_d85 rfl (Nat.le_succ _) (fun _ => rfl) hlv1_2 ?_
                refine fx_cv aj_d85 rfl (Nat.le_succ _) rfl [_] rfl rfl (gx_60_ok p2) ?_
                rintro _ X54 ⟨w55, rfl, hR54⟩ hok54 hle54
                refine fx_qc hR54 ?_
                show fx_W _ _ _ 175 lv1 [.long w55, .ref b51] _ _
                refine fx_n (pc' := 176) (lv' := lv1) (st' := [.int (Int32.ofInt 0), .long w55, .ref b51]) aj_d85 rfl (Nat.le_succ _) (fun _ => rfl) ?_
                refine fx_cv aj_d85 rfl (Nat.le_succ _) rfl [_, _] rfl rfl (gx_92_ok b51 w55 (Int32.ofInt 0)) ?_
                rintro _ X56 ⟨w57, rfl, hR56⟩ hok56 hle56
                refine fx_qc hR56 ?_
                show fx_W _ _ _ 179 lv1 [.int w57] _ _
                refine fx_n (pc' := 180) (lv' := lv1) (st' := []) aj_d85 rfl (Nat.le_succ _) (fun _ => rfl) ?_
                refine fx_n (pc' := 232) (lv' := lv1) (st' := []) aj_d85 rfl (Nat.le_succ _) (fun _ => rfl) ?_
                exact fx_rn aj_d85 rfl ⟨(), rfl, 0, rfl⟩
          · skip
            refine fx_qe (c := (p1).toInt = 184) q46 ?_
            by_cases q58 : (p1).toInt = 185
            · skip
              refine fx_qi (c := (p1).toInt = 185) q58 ?_
              refine fx_ts (tgt := 183) aj_d85 rfl (Nat.le_succ _) q58 (by decide) rfl rfl ?_
              show fx_W _ _ _ 183 lv1 [] _ _
              refine fx_i2 aj_d85 rfl (Nat.le_succ _) (fun _ => rfl) hlv1_0 ?_
              refine fx_gR aj_d85 rfl (Nat.le_succ _) rfl rfl (Or.inl ⟨_, rfl⟩) (fun q59 _ => ?_) (fun b60 q59 => ?_)
              · skip
                show fx_W _ _ _ 187 lv1 [.null] _ _
                refine fx_i2 aj_d85 rfl (Nat.le_succ _) (fun _ => rfl) hlv1_0 ?_
                refine fx_i0 aj_d85 rfl (Nat.le_succ _) (fun _ => rfl) hlv1_2 ?_
                refine fx_cv aj_d85 rfl (Nat.le_succ _) rfl [_] rfl rfl (gx_60_ok p2) ?_
                rintro _ X61 ⟨w62, rfl, hR61⟩ hok61 hle61
                show fx_W _ _ _ 192 lv1 [.long w62, .null] _ _
                exact fx_d aj_d85 rfl (fun _ => rfl)
              · skip
                refine fx_qs q59 ?_
                show fx_W _ _ _ 187 lv1 [.ref b60] _ _
                refine fx_i2 aj_d85 rfl (Nat.le_succ _) (fun _ => rfl) hlv1_0 ?_
                refine fx_i0 aj_d85 rfl (Nat.le_succ _) (fun _ => rfl) hlv1_2 ?_
                refine fx_cv aj_d85 rfl (Nat.le_succ _) rfl [_] rfl rfl (gx_60_ok p2) ?_
                rintro _ X63 ⟨w64, rfl, hR63⟩ hok63 hle63
                refine fx_qc hR63 ?_
                show fx_W _ _ _ 192 lv1 [.long w64, .ref b60] _ _
                refine fx_cv aj_d85 rfl (Nat.le_succ _) rfl [_] rfl rfl (gx_93_ok b60 w64) ?_
                rintro _ X65 ⟨w66, rfl, hR65⟩ hok65 hle65
                refine fx_qc hR65 ?_
                show fx_W _ _ _ 195 lv1 [.int w66] _ _
                refine fx_b0 (tgt := 232) aj_d85 rfl (Nat.le_succ _) rfl (fun q67 => ?_) (fun q67 => ?_)
                · skip
                  refine fx_qe (c := (w66).toInt = 0) (fx_t_ne q67) ?_
                  show fx_W _ _ _ 232 lv1 [] _ _
                  exact fx_rn aj_d85 rfl ⟨(), rfl, 0, rfl⟩
                · skip
                  refine fx_qi (c := (w66).toInt = 0) (fx_f_ne q67) ?_
                  show fx_W _ _ _ 198 lv1 [] _ _
                  refine fx_i2 aj_d85 rfl (Nat.le_succ _) (fun _ => rfl) hlv1_0 ?_
                  refine fx_n (pc' := 200) (lv' := lv1) (st' := [.int (Int32.ofInt 3), .ref 91]) aj_d85 rfl (Nat.le_succ _) (fun _ => rfl) ?_
                  refine fx_i0 aj_d85 rfl (Nat.le_succ _) (fun _ => rfl) hlv1_2 ?_
                  refine fx_cv aj_d85 rfl (Nat.le_succ _) rfl [_, _] rfl rfl (gx_64_ok (Int32.ofInt 3) p2) ?_
                  rintro _ X68 ⟨w69, rfl, hR68⟩ hok68 hle68
                  refine fx_qc hR68 ?_
                  show fx_W _ _ _ 204 lv1 [] _ _
                  refine fx_n (pc' := 232) (lv' := lv1) (st' := []) aj_d85 rfl (Nat.le_succ _) (fun _ => rfl) ?_
                  exact fx_rn aj_d85 rfl ⟨(), rfl, 0, rfl⟩
            · skip
              refine fx_qe (c := (p1).toInt = 185) q58 ?_
              by_cases q70 : (p1).toInt = 186
              · skip
                refine fx_qi (c := (p1).toInt = 186) q70 ?_
                refine fx_ts (tgt := 207) aj_d85 rfl (Nat.le_succ _) q70 (by decide) rfl rfl ?_
                show fx_W _ _ _ 207 lv1 [] _ _
                refine fx_i2 aj_d85 rfl (Nat.le_succ _) (fun _ => rfl) hlv1_0 ?_
                refine fx_i0 aj_d85 rfl (Nat.le_succ _) (fun _ => rfl) hlv1_2 ?_
                refine fx_cv aj_d85 rfl (Nat.le_succ _) rfl [_] rfl rfl (gx_94_ok p2) ?_
                rintro _ X71 ⟨w72, rfl, hR71⟩ hok71 hle71
                refine fx_qc hR71 ?_
                show fx_W _ _ _ 212 lv1 [] _ _
                refine fx_n (pc' := 232) (lv' := lv1) (st' := []) aj_d85 rfl (Nat.le_succ _) (fun _ => rfl) ?_
                exact fx_rn aj_d85 rfl ⟨(), rfl, 0, rfl⟩
              · skip
                refine fx_qe (c := (p1).toInt = 186) q70 ?_
                by_cases q73 : (p1).toInt = 191
                · skip
                  refine fx_qi (c := (p1).toInt = 191) q73 ?_
                  refine fx_ts (tgt := 215) aj_d85 rfl (Nat.le_succ _) q73 (by decide) rfl rfl ?_
                  show fx_W _ _ _ 215 lv1 [] _ _
                  refine fx_i2 aj_d85 rfl (Nat.le_succ _) (fun _ => rfl) hlv1_0 ?_
                  refine fx_i0 aj_d85 rfl (Nat.le_succ _) (fun _ => rfl) hlv1_2 ?_
                  refine fx_cv aj_d85 rfl (Nat.le_succ _) rfl [_] rfl rfl (gx_91_ok p2) ?_
                  rintro _ X74 ⟨w75, rfl, hR74⟩ hok74 hle74
                  refine fx_qc hR74 ?_
                  show fx_W _ _ _ 220 lv1 [.int w75] _ _
                  refine fx_n (pc' := 221) (lv' := lv1) (st' := []) aj_d85 rfl (Nat.le_succ _) (fun _ => rfl) ?_
                  refine fx_n (pc' := 232) (lv' := lv1) (st' := []) aj_d85 rfl (Nat.le_succ _) (fun _ => rfl) ?_
                  exact fx_rn aj_d85 rfl ⟨(), rfl, 0, rfl⟩
                · skip
                  refine fx_qe (c := (p1).toInt = 191) q73 ?_
                  by_cases q76 : (p1).toInt = 192
                  · skip
                    refine fx_qi (c := (p1).toInt = 192) q76 ?_
                    refine fx_ts (tgt := 224) aj_d85 rfl (Nat.le_succ _) q76 (by decide) rfl rfl ?_
                    show fx_W _ _ _ 224 lv1 [] _ _
                    refine fx_i2 aj_d85 rfl (Nat.le_succ _) (fun _ => rfl) hlv1_0 ?_
                    refine fx_i0 aj_d85 rfl (Nat.le_succ _) (fun _ => rfl) hlv1_2 ?_
                    refine fx_cv aj_d85 rfl (Nat.le_succ _) rfl [_] rfl rfl (gx_96_ok p2) ?_
                    rintro _ X77 ⟨w78, rfl, hR77⟩ hok77 hle77
                    refine fx_qc hR77 ?_
                    show fx_W _ _ _ 229 lv1 [] _ _
                    refine fx_n (pc' := 232) (lv' := lv1) (st' := []) aj_d85 rfl (Nat.le_succ _) (fun _ => rfl) ?_
                    exact fx_rn aj_d85 rfl ⟨(), rfl, 0, rfl⟩
                  · skip
                    refine fx_qe (c := (p1).toInt = 192) q76 ?_
                    by_cases q79 : (p1).toInt = 187
                    · refine fx_ts (tgt := 232) aj_d85 rfl (Nat.le_succ _) q79 (by decide) rfl rfl ?_
                      show fx_W _ _ _ 232 lv1 [] _ _
                      exact fx_rn aj_d85 rfl ⟨(), rfl, 0, rfl⟩
                    · skip
                      by_cases q80 : (p1).toInt = 188
                      · refine fx_ts (tgt := 232) aj_d85 rfl (Nat.le_succ _) q80 (by decide) rfl rfl ?_
                        show fx_W _ _ _ 232 lv1 [] _ _
                        exact fx_rn aj_d85 rfl ⟨(), rfl, 0, rfl⟩
                      · skip
                        by_cases q81 : (p1).toInt = 189
                        · refine fx_ts (tgt := 232) aj_d85 rfl (Nat.le_succ _) q81 (by decide) rfl rfl ?_
                          show fx_W _ _ _ 232 lv1 [] _ _
                          exact fx_rn aj_d85 rfl ⟨(), rfl, 0, rfl⟩
                        · skip
                          by_cases q82 : (p1).toInt = 190
                          · refine fx_ts (tgt := 232) aj_d85 rfl (Nat.le_succ _) q82 (by decide) rfl rfl ?_
                            show fx_W _ _ _ 232 lv1 [] _ _
                            exact fx_rn aj_d85 rfl ⟨(), rfl, 0, rfl⟩
                          · skip
                            refine fx_td (tgt := 232) aj_d85 rfl (Nat.le_succ _) (by omega) rfl ?_
                            show fx_W _ _ _ 232 lv1 [] _ _
                            exact fx_rn aj_d85 rfl ⟨(), rfl, 0, rfl⟩
def gx_78 (p1 : Int32) (p2 : Int32) (X : fx_X) (v : Unit) (X' : fx_X) : Prop :=
  (if (p2).toInt < 0 then (∃ (w7 : Unit) (X6 : fx_X), gx_64 (Int32.ofInt 4) p1 X w7 X6 ∧ ∃ (w10 : Unit) (X9 : fx_X), gx_41 p1 p2 X6 w10 X9 ∧ X' = X9) else (∃ (w5 : Unit) (X4 : fx_X), gx_41 p1 p2 X w5 X4 ∧ X' = X4))
theorem gx_78_ok {tb : aj_T} (p1 : Int32) (p2 : Int32) {X : fx_X} : fx_K tb 78 [.ref 91, .int p1, .int p2] X (fx_Q fx_qN (fun v X' => gx_78 p1 p2 X v X')) := by
  refine fx_m aj_m78_at rfl (fun N => ?_)
  refine fx_mono (Q := fx_Q fx_qN (fun v X' => ∃ n : Nat, gx_78 p1 p2 X v X')) (fun r X' ⟨v, e, _, z⟩ => ⟨v, e, z⟩) ?_
  unfold gx_78
  show fx_W _ _ _ 0 [(0, .ref 91), (1, .int p1), (2, .int p2)] [] _ _
  obtain ⟨lv1, elv1⟩ : ∃ l : aj_V, l = [(0, .ref 91), (1, .int p1), (2, .int p2)] := ⟨_, rfl⟩
  rw [← elv1]
  have hlv1_0 : aj_lv lv1 0 = some (.ref 91) := by rw [elv1]; rfl
  have hlv1_1 : aj_lv lv1 1 = some (.int p1) := by rw [elv1]; rfl
  have hlv1_2 : aj_lv lv1 2 = some (.int p2) := by rw [elv1]; rfl
  refine fx_i0 aj_d78 rfl (Nat.le_succ _) (fun _ => rfl) hlv1_2 ?_
  refine fx_b0 (tgt := 10) aj_d78 rfl (Nat.le_succ _) rfl (fun q2 => ?_) (fun q2 => ?_)
  · skip
    refine fx_qe (c := (p2).toInt < 0) (fx_t_ge q2) ?_
    show fx_W _ _ _ 10 lv1 [] _ _
    refine fx_i2 aj_d78 rfl (Nat.le_succ _) (fun _ => rfl) hlv1_0 ?_
    refine fx_gF aj_d78 rfl (Nat.le_succ _) rfl rfl fx_in_0_1 (t := 82) rfl (fun hA3 => ?_)
    refine fx_i0 aj_d78 rfl (Nat.le_succ _) (fun _ => rfl) hlv1_1 ?_
    refine fx_i0 aj_d78 rfl (Nat.le_succ _) (fun _ => rfl) hlv1_2 ?_
    refine fx_cv aj_d78 rfl (Nat.le_succ _) rfl [_, _] rfl rfl (gx_41_ok p1 p2) ?_
    rintro _ X4 ⟨w5, rfl, hR4⟩ hok4 hle4
    refine fx_qc hR4 ?_
    show fx_W _ _ _ 19 lv1 [] _ _
    exact fx_rn aj_d78 rfl ⟨(), rfl, 0, rfl⟩
  · skip
    refine fx_qi (c := (p2).toInt < 0) (fx_f_ge q2) ?_
    show fx_W _ _ _ 4 lv1 [] _ _
    refine fx_i2 aj_d78 rfl (Nat.le_succ _) (fun _ => rfl) hlv1_0 ?_
    refine fx_n (pc' := 6) (lv' := lv1) (st' := [.int (Int32.ofInt 4), .ref 91]) aj_d78 rfl (Nat.le_succ _) (fun _ => rfl) ?_
    refine fx_i0 aj_d78 rfl (Nat.le_succ _) (fun _ => rfl) hlv1_1 ?_
    refine fx_cv aj_d78 rfl (Nat.le_succ _) rfl [_, _] rfl rfl (gx_64_ok (Int32.ofInt 4) p1) ?_
    rintro _ X6 ⟨w7, rfl, hR6⟩ hok6 hle6
    refine fx_qc hR6 ?_
    show fx_W _ _ _ 10 lv1 [] _ _
    refine fx_i2 aj_d78 rfl (Nat.le_succ _) (fun _ => rfl) hlv1_0 ?_
    refine fx_gF aj_d78 rfl (Nat.le_succ _) rfl rfl fx_in_0_1 (t := 82) rfl (fun hA8 => ?_)
    refine fx_i0 aj_d78 rfl (Nat.le_succ _) (fun _ => rfl) hlv1_1 ?_
    refine fx_i0 aj_d78 rfl (Nat.le_succ _) (fun _ => rfl) hlv1_2 ?_
    refine fx_cv aj_d78 rfl (Nat.le_succ _) rfl [_, _] rfl rfl (gx_41_ok p1 p2) ?_
    rintro _ X9 ⟨w10, rfl, hR9⟩ hok9 hle9
    refine fx_qc hR9 ?_
    show fx_W _ _ _ 19 lv1 [] _ _
    exact fx_rn aj_d78 rfl ⟨(), rfl, 0, rfl⟩
def gxT_74_3 (p1 : Int32) (p2 : Int64) (P : Nat → List Int32 → List Int64 → List Nat → fx_X → Int32 → fx_X → Prop) (y4 : Int32) (X : fx_X) (v : Int32) (X' : fx_X) : Prop :=
  ∃ (w4 : Int32) (X3 : fx_X), gx_69 p1 X w4 X3 ∧ (if (y4).toInt < (w4).toInt then (∃ (w7 : Int64) (X6 : fx_X), gx_70 p1 y4 X3 w7 X6 ∧ (if w7 = p2 then (v = y4 ∧ X' = X6) else (∃ x9 : Int32, x9 = y4 + Int32.ofInt 1 ∧ P 3 [x9] [] [] X6 v X'))) else (v = (Int32.ofInt (-1)) ∧ X' = X3))
def gxE_74 (p1 : Int32) (p2 : Int64) (P : Nat → List Int32 → List Int64 → List Nat → fx_X → Int32 → fx_X → Prop) (X : fx_X) (v : Int32) (X' : fx_X) : Prop :=
  P 3 [(Int32.ofInt 0)] [] [] X v X'
noncomputable def gxF_74 (p1 : Int32) (p2 : Int64) (n : Nat) : Nat → List Int32 → List Int64 → List Nat → fx_X → Int32 → fx_X → Prop := Nat.rec (motive := fun _ => Nat → List Int32 → List Int64 → List Nat → fx_X → Int32 → fx_X → Prop) (fun _ _ _ _ _ _ _ => False) (fun _ P l is ls rs X v X' => (l = 3 ∧ ∃ (y4 : Int32), is = [y4] ∧ ls = [] ∧ rs = [] ∧ gxT_74_3 p1 p2 P y4 X v X')) n
theorem gxI_74_3 {p1 : Int32} {p2 : Int64} {n : Nat} {y4 : Int32} {X : fx_X} {v : Int32} {X' : fx_X} (h : gxT_74_3 p1 p2 (gxF_74 p1 p2 n) y4 X v X') : gxF_74 p1 p2 (n + 1) 3 [y4] [] [] X v X' := ⟨rfl, y4, rfl, rfl, rfl, h⟩
theorem gxO_74_3 {p1 : Int32} {p2 : Int64} {n : Nat} {y4 : Int32} {X : fx_X} {v : Int32} {X' : fx_X} (h : gxF_74 p1 p2 (n + 1) 3 [y4] [] [] X v X') : gxT_74_3 p1 p2 (gxF_74 p1 p2 n) y4 X v X' := by
  rcases h with ⟨-, _, e1, e2, e3, h⟩
  · cases e1; cases e2; cases e3; exact h
def gx_74 (p1 : Int32) (p2 : Int64) (X : fx_X) (v : Int32) (X' : fx_X) : Prop := ∃ n : Nat, gxE_74 p1 p2 (gxF_74 p1 p2 n) X v X'
theorem gxL_74 {tb : aj_T} (p1 : Int32) (p2 : Int64) : ∀ N : Nat, (∀ (lv : aj_V) (y4 : Int32) (X : fx_X), aj_lv lv 0 = some (.ref 91) → aj_lv lv 1 = some (.int p1) → aj_lv lv 2 = some (.long p2) → aj_lv lv 4 = some (.int y4) → fx_W tb aj_m74 N 3 lv [] X (fx_Q fx_qI (fun v X' => ∃ n : Nat, gxF_74 p1 p2 n 3 [y4] [] [] X v X'))) := by
  intro N
  induction N with
  | zero => exact (by intros; exact fx_z)
  | succ N ih =>
    skip
    · intro lv y4 X hlv_0 hlv_1 hlv_2 hlv_4
      refine fx_mono (Q := fx_Q fx_qI (fun v X' => ∃ n : Nat, gxT_74_3 p1 p2 (gxF_74 p1 p2 n) y4 X v X')) (fun r X' ⟨v, e, n, z⟩ => ⟨v, e, n + 1, gxI_74_3 z⟩) ?_
      unfold gxT_74_3
      refine fx_i0 aj_d74 rfl (Nat.le_refl _) (fun _ => rfl) hlv_4 ?_
      refine fx_i2 aj_d74 rfl (Nat.le_succ _) (fun _ => rfl) hlv_0 ?_
      refine fx_i0 aj_d74 rfl (Nat.le_succ _) (fun _ => rfl) hlv_1 ?_
      refine fx_cv aj_d74 rfl (Nat.le_succ _) rfl [_] rfl rfl (gx_69_ok p1) ?_
      rintro _ X3 ⟨w4, rfl, hR3⟩ hok3 hle3
      refine fx_qc hR3 ?_
      show fx_W _ _ _ 10 lv [.int w4, .int y4] _ _
      refine fx_b (tgt := 34) aj_d74 rfl (Nat.le_succ _) rfl (fun q5 => ?_) (fun q5 => ?_)
      · skip
        refine fx_qe (c := (y4).toInt < (w4).toInt) (fx_t_ge q5) ?_
        show fx_W _ _ _ 34 lv [] _ _
        refine fx_n (pc' := 35) (lv' := lv) (st' := [.int (Int32.ofInt (-1))]) aj_d74 rfl (Nat.le_succ _) (fun _ => rfl) ?_
        exact fx_ri aj_d74 rfl ⟨_, rfl, 0, rfl, rfl⟩
      · skip
        refine fx_qi (c := (y4).toInt < (w4).toInt) (fx_f_ge q5) ?_
        show fx_W _ _ _ 13 lv [] _ _
        refine fx_i2 aj_d74 rfl (Nat.le_succ _) (fun _ => rfl) hlv_0 ?_
        refine fx_i0 aj_d74 rfl (Nat.le_succ _) (fun _ => rfl) hlv_1 ?_
        refine fx_i0 aj_d74 rfl (Nat.le_succ _) (fun _ => rfl) hlv_4 ?_
        refine fx_cv aj_d74 rfl (Nat.le_succ _) rfl [_, _] rfl rfl (gx_70_ok p1 y4) ?_
        rintro _ X6 ⟨w7, rfl, hR6⟩ hok6 hle6
        refine fx_qc hR6 ?_
        show fx_W _ _ _ 20 lv [.long w7] _ _
        refine fx_i1 aj_d74 rfl (Nat.le_succ _) (fun _ => rfl) hlv_2 ?_
        refine fx_n (pc' := 22) (lv' := lv) (st' := [.int (lg_cmp w7 p2)]) aj_d74 rfl (Nat.le_succ _) (fun _ => rfl) ?_
        refine fx_b0 (tgt := 28) aj_d74 rfl (Nat.le_succ _) rfl (fun q8 => ?_) (fun q8 => ?_)
        · skip
          refine fx_qe (c := w7 = p2) (fun z => (fx_t_ne q8) (fx_lc.mpr z)) ?_
          show fx_W _ _ _ 28 lv [] _ _
          refine fx_incq aj_d74 rfl (Nat.le_succ _) hlv_4 (by decide) (fun x9 ex9 => ?_)
          obtain ⟨lv10, elv10⟩ : ∃ l, l = aj_set1 lv 4 (.int x9) := ⟨_, rfl⟩
          rw [← elv10]
          have hlv10_0 : aj_lv lv10 0 = some (.ref 91) := fx_e1 elv10 hlv_0 (by decide) (Or.inl (by decide))
          have hlv10_1 : aj_lv lv10 1 = some (.int p1) := fx_e1 elv10 hlv_1 (by decide) (Or.inl (by decide))
          have hlv10_2 : aj_lv lv10 2 = some (.long p2) := fx_e1 elv10 hlv_2 (by decide) (Or.inl (by decide))
          have hlv10_4 : aj_lv lv10 4 = some (.int x9) := by rw [elv10]; exact ak_set1_eq _ _ _
          show fx_W _ _ _ 31 lv10 [] _ _
          refine fx_n (pc' := 3) (lv' := lv10) (st' := []) aj_d74 rfl (Nat.le_succ _) (fun _ => rfl) ?_
          exact (ih) lv10 (x9) X6  hlv10_0 hlv10_1 hlv10_2 hlv10_4
        · skip
          refine fx_qi (c := w7 = p2) (fx_lc.mp (fx_f_ne q8)) ?_
          show fx_W _ _ _ 25 lv [] _ _
          refine fx_i0 aj_d74 rfl (Nat.le_succ _) (fun _ => rfl) hlv_4 ?_
          exact fx_ri aj_d74 rfl ⟨_, rfl, 0, rfl, rfl⟩
theorem gx_74_ok {tb : aj_T} (p1 : Int32) (p2 : Int64) {X : fx_X} : fx_K tb 74 [.ref 91, .int p1, .long p2] X (fx_Q fx_qI (fun v X' => gx_74 p1 p2 X v X')) := by
  refine fx_m aj_m74_at rfl (fun N => ?_)
  refine fx_mono (Q := fx_Q fx_qI (fun v X' => ∃ n : Nat, gxE_74 p1 p2 (gxF_74 p1 p2 n) X v X')) (fun r X' h => h) ?_
  unfold gxE_74
  show fx_W _ _ _ 0 [(0, .ref 91), (1, .int p1), (2, .long p2)] [] _ _
  obtain ⟨lv1, elv1⟩ : ∃ l : aj_V, l = [(0, .ref 91), (1, .int p1), (2, .long p2)] := ⟨_, rfl⟩
  rw [← elv1]
  have hlv1_0 : aj_lv lv1 0 = some (.ref 91) := by rw [elv1]; rfl
  have hlv1_1 : aj_lv lv1 1 = some (.int p1) := by rw [elv1]; rfl
  have hlv1_2 : aj_lv lv1 2 = some (.long p2) := by rw [elv1]; rfl
  refine fx_n (pc' := 1) (lv' := lv1) (st' := [.int (Int32.ofInt 0)]) aj_d74 rfl (Nat.le_succ _) (fun _ => rfl) ?_
  refine fx_s0 (j := 4) aj_d74 rfl (Nat.le_succ _) (by decide) (fun _ => rfl) ?_
  obtain ⟨lv2, elv2⟩ : ∃ l, l = aj_set1 lv1 4 (.int (Int32.ofInt 0)) := ⟨_, rfl⟩
  rw [← elv2]
  have hlv2_0 : aj_lv lv2 0 = some (.ref 91) := fx_e1 elv2 hlv1_0 (by decide) (Or.inl (by decide))
  have hlv2_1 : aj_lv lv2 1 = some (.int p1) := fx_e1 elv2 hlv1_1 (by decide) (Or.inl (by decide))
  have hlv2_2 : aj_lv lv2 2 = some (.long p2) := fx_e1 elv2 hlv1_2 (by decide) (Or.inl (by decide))
  have hlv2_4 : aj_lv lv2 4 = some (.int (Int32.ofInt 0)) := by rw [elv2]; exact ak_set1_eq _ _ _
  show fx_W _ _ _ 3 lv2 [] _ _
  exact ((gxL_74 p1 p2 N)) lv2 ((Int32.ofInt 0)) X  hlv2_0 hlv2_1 hlv2_2 hlv2_4
def gx_81 (p1 : Int32) (p2 : Int32) (X : fx_X) (v : Unit) (X' : fx_X) : Prop :=
  (if (p1).toInt = 200 then (∃ (w6 : Int32) (X5 : fx_X), gx_82 p2 X w6 X5 ∧ ∃ (w8 : Unit) (X7 : fx_X), gx_41 p2 w6 X5 w8 X7 ∧ X' = X7) else ((if (p1).toInt = 201 then (∃ b11 : Nat, X.2.2.1 91 2 = some b11 ∧ ∃ (w15 : Int64) (X14 : fx_X), gx_60 p2 X w15 X14 ∧ ∃ (w17 : Int32) (X16 : fx_X), gx_84 b11 w15 X14 w17 X16 ∧ ∃ (w19 : Unit) (X18 : fx_X), gx_78 p2 w17 X16 w19 X18 ∧ X' = X18) else ((if (p1).toInt = 202 then (∃ (w22 : Int64) (X21 : fx_X), gx_60 p2 X w22 X21 ∧ ∃ (w24 : Int32) (X23 : fx_X), gx_74 ((X.1 91 5) - (Int32.ofInt 1)) w22 X21 w24 X23 ∧ ∃ (w26 : Unit) (X25 : fx_X), gx_78 p2 w24 X23 w26 X25 ∧ X' = X25) else ((if (p1).toInt = 203 then (∃ (w32 : Int32) (X31 : fx_X), gx_61 p2 X w32 X31 ∧ ∃ (w34 : Int32) (X33 : fx_X), gx_46 w32 X31 w34 X33 ∧ ∃ (w36 : Unit) (X35 : fx_X), gx_41 p2 w34 X33 w36 X35 ∧ X' = X35) else (X' = X))))))))
theorem gx_81_ok {tb : aj_T} (p1 : Int32) (p2 : Int32) {X : fx_X} : fx_K tb 81 [.ref 91, .int p1, .int p2] X (fx_Q fx_qN (fun v X' => gx_81 p1 p2 X v X')) := by
  refine fx_m aj_m81_at rfl (fun N => ?_)
  refine fx_mono (Q := fx_Q fx_qN (fun v X' => ∃ n : Nat, gx_81 p1 p2 X v X')) (fun r X' ⟨v, e, _, z⟩ => ⟨v, e, z⟩) ?_
  unfold gx_81
  show fx_W _ _ _ 0 [(0, .ref 91), (1, .int p1), (2, .int p2)] [] _ _
  obtain ⟨lv1, elv1⟩ : ∃ l : aj_V, l = [(0, .ref 91), (1, .int p1), (2, .int p2)] := ⟨_, rfl⟩
  rw [← elv1]
  have hlv1_0 : aj_lv lv1 0 = some (.ref 91) := by rw [elv1]; rfl
  have hlv1_1 : aj_lv lv1 1 = some (.int p1) := by rw [elv1]; rfl
  have hlv1_2 : aj_lv lv1 2 = some (.int p2) := by rw [elv1]; rfl
  refine fx_i0 aj_d81 rfl (Nat.le_succ _) (fun _ => rfl) hlv1_1 ?_
  by_cases q3 : (p1).toInt = 200
  · skip
    refine fx_qi (c := (p1).toInt = 200) q3 ?_
    refine fx_ts (tgt := 32) aj_d81 rfl (Nat.le_succ _) q3 (by decide) rfl rfl ?_
    show fx_W _ _ _ 32 lv1 [] _ _
    refine fx_i2 aj_d81 rfl (Nat.le_succ _) (fun _ => rfl) hlv1_0 ?_
    refine fx_gF aj_d81 rfl (Nat.le_succ _) rfl rfl fx_in_0_1 (t := 82) rfl (fun hA4 => ?_)
    refine fx_i0 aj_d81 rfl (Nat.le_succ _) (fun _ => rfl) hlv1_2 ?_
    refine fx_i2 aj_d81 rfl (Nat.le_succ _) (fun _ => rfl) hlv1_0 ?_
    refine fx_i0 aj_d81 rfl (Nat.le_succ _) (fun _ => rfl) hlv1_2 ?_
    refine fx_cv aj_d81 rfl (Nat.le_succ _) rfl [_] rfl rfl (gx_82_ok p2) ?_
    rintro _ X5 ⟨w6, rfl, hR5⟩ hok5 hle5
    refine fx_qc hR5 ?_
    show fx_W _ _ _ 42 lv1 [.int w6, .int p2, .ref 82] _ _
    refine fx_cv aj_d81 rfl (Nat.le_succ _) rfl [_, _] rfl rfl (gx_41_ok p2 w6) ?_
    rintro _ X7 ⟨w8, rfl, hR7⟩ hok7 hle7
    refine fx_qc hR7 ?_
    show fx_W _ _ _ 45 lv1 [] _ _
    refine fx_n (pc' := 117) (lv' := lv1) (st' := []) aj_d81 rfl (Nat.le_succ _) (fun _ => rfl) ?_
    exact fx_rn aj_d81 rfl ⟨(), rfl, 0, rfl⟩
  · skip
    refine fx_qe (c := (p1).toInt = 200) q3 ?_
    by_cases q9 : (p1).toInt = 201
    · skip
      refine fx_qi (c := (p1).toInt = 201) q9 ?_
      refine fx_ts (tgt := 48) aj_d81 rfl (Nat.le_succ _) q9 (by decide) rfl rfl ?_
      show fx_W _ _ _ 48 lv1 [] _ _
      refine fx_i2 aj_d81 rfl (Nat.le_succ _) (fun _ => rfl) hlv1_0 ?_
      refine fx_i0 aj_d81 rfl (Nat.le_succ _) (fun _ => rfl) hlv1_2 ?_
      refine fx_i2 aj_d81 rfl (Nat.le_succ _) (fun _ => rfl) hlv1_0 ?_
      refine fx_gR aj_d81 rfl (Nat.le_succ _) rfl rfl (Or.inl ⟨_, rfl⟩) (fun q10 _ => ?_) (fun b11 q10 => ?_)
      · skip
        show fx_W _ _ _ 54 lv1 [.null, .int p2, .ref 91] _ _
        refine fx_i2 aj_d81 rfl (Nat.le_succ _) (fun _ => rfl) hlv1_0 ?_
        refine fx_i0 aj_d81 rfl (Nat.le_succ _) (fun _ => rfl) hlv1_2 ?_
        refine fx_cv aj_d81 rfl (Nat.le_succ _) rfl [_] rfl rfl (gx_60_ok p2) ?_
        rintro _ X12 ⟨w13, rfl, hR12⟩ hok12 hle12
        show fx_W _ _ _ 59 lv1 [.long w13, .null, .int p2, .ref 91] _ _
        exact fx_d aj_d81 rfl (fun _ => rfl)
      · skip
        refine fx_qs q10 ?_
        show fx_W _ _ _ 54 lv1 [.ref b11, .int p2, .ref 91] _ _
        refine fx_i2 aj_d81 rfl (Nat.le_succ _) (fun _ => rfl) hlv1_0 ?_
        refine fx_i0 aj_d81 rfl (Nat.le_succ _) (fun _ => rfl) hlv1_2 ?_
        refine fx_cv aj_d81 rfl (Nat.le_succ _) rfl [_] rfl rfl (gx_60_ok p2) ?_
        rintro _ X14 ⟨w15, rfl, hR14⟩ hok14 hle14
        refine fx_qc hR14 ?_
        show fx_W _ _ _ 59 lv1 [.long w15, .ref b11, .int p2, .ref 91] _ _
        refine fx_cv aj_d81 rfl (Nat.le_succ _) rfl [_] rfl rfl (gx_84_ok b11 w15) ?_
        rintro _ X16 ⟨w17, rfl, hR16⟩ hok16 hle16
        refine fx_qc hR16 ?_
        show fx_W _ _ _ 62 lv1 [.int w17, .int p2, .ref 91] _ _
        refine fx_cv aj_d81 rfl (Nat.le_succ _) rfl [_, _] rfl rfl (gx_78_ok p2 w17) ?_
        rintro _ X18 ⟨w19, rfl, hR18⟩ hok18 hle18
        refine fx_qc hR18 ?_
        show fx_W _ _ _ 65 lv1 [] _ _
        refine fx_n (pc' := 117) (lv' := lv1) (st' := []) aj_d81 rfl (Nat.le_succ _) (fun _ => rfl) ?_
        exact fx_rn aj_d81 rfl ⟨(), rfl, 0, rfl⟩
    · skip
      refine fx_qe (c := (p1).toInt = 201) q9 ?_
      by_cases q20 : (p1).toInt = 202
      · skip
        refine fx_qi (c := (p1).toInt = 202) q20 ?_
        refine fx_ts (tgt := 68) aj_d81 rfl (Nat.le_succ _) q20 (by decide) rfl rfl ?_
        show fx_W _ _ _ 68 lv1 [] _ _
        refine fx_i2 aj_d81 rfl (Nat.le_succ _) (fun _ => rfl) hlv1_0 ?_
        refine fx_i0 aj_d81 rfl (Nat.le_succ _) (fun _ => rfl) hlv1_2 ?_
        refine fx_i2 aj_d81 rfl (Nat.le_succ _) (fun _ => rfl) hlv1_0 ?_
        refine fx_i2 aj_d81 rfl (Nat.le_succ _) (fun _ => rfl) hlv1_0 ?_
        refine fx_gI aj_d81 rfl (Nat.le_succ _) rfl rfl (Or.inl rfl) ?_
        refine fx_n (pc' := 76) (lv' := lv1) (st' := [.int (Int32.ofInt 1), .int (X.1 91 5), .ref 91, .int p2, .ref 91]) aj_d81 rfl (Nat.le_succ _) (fun _ => rfl) ?_
        refine fx_n (pc' := 77) (lv' := lv1) (st' := [.int ((X.1 91 5) - (Int32.ofInt 1)), .ref 91, .int p2, .ref 91]) aj_d81 rfl (Nat.le_succ _) (fun _ => rfl) ?_
        refine fx_i2 aj_d81 rfl (Nat.le_succ _) (fun _ => rfl) hlv1_0 ?_
        refine fx_i0 aj_d81 rfl (Nat.le_succ _) (fun _ => rfl) hlv1_2 ?_
        refine fx_cv aj_d81 rfl (Nat.le_succ _) rfl [_] rfl rfl (gx_60_ok p2) ?_
        rintro _ X21 ⟨w22, rfl, hR21⟩ hok21 hle21
        refine fx_qc hR21 ?_
        show fx_W _ _ _ 82 lv1 [.long w22, .int ((X.1 91 5) - (Int32.ofInt 1)), .ref 91, .int p2, .ref 91] _ _
        refine fx_cv aj_d81 rfl (Nat.le_succ _) rfl [_, _] rfl rfl (gx_74_ok ((X.1 91 5) - (Int32.ofInt 1)) w22) ?_
        rintro _ X23 ⟨w24, rfl, hR23⟩ hok23 hle23
        refine fx_qc hR23 ?_
        show fx_W _ _ _ 85 lv1 [.int w24, .int p2, .ref 91] _ _
        refine fx_cv aj_d81 rfl (Nat.le_succ _) rfl [_, _] rfl rfl (gx_78_ok p2 w24) ?_
        rintro _ X25 ⟨w26, rfl, hR25⟩ hok25 hle25
        refine fx_qc hR25 ?_
        show fx_W _ _ _ 88 lv1 [] _ _
        refine fx_n (pc' := 117) (lv' := lv1) (st' := []) aj_d81 rfl (Nat.le_succ _) (fun _ => rfl) ?_
        exact fx_rn aj_d81 rfl ⟨(), rfl, 0, rfl⟩
      · skip
        refine fx_qe (c := (p1).toInt = 202) q20 ?_
        by_cases q27 : (p1).toInt = 203
        · skip
          refine fx_qi (c := (p1).toInt = 203) q27 ?_
          refine fx_ts (tgt := 91) aj_d81 rfl (Nat.le_succ _) q27 (by decide) rfl rfl ?_
          show fx_W _ _ _ 91 lv1 [] _ _
          refine fx_i2 aj_d81 rfl (Nat.le_succ _) (fun _ => rfl) hlv1_0 ?_
          refine fx_gF aj_d81 rfl (Nat.le_succ _) rfl rfl fx_in_0_1 (t := 82) rfl (fun hA28 => ?_)
          refine fx_i0 aj_d81 rfl (Nat.le_succ _) (fun _ => rfl) hlv1_2 ?_
          refine fx_i2 aj_d81 rfl (Nat.le_succ _) (fun _ => rfl) hlv1_0 ?_
          refine fx_gF aj_d81 rfl (Nat.le_succ _) rfl rfl fx_in_0_0 (t := 78) rfl (fun hA29 => ?_)
          refine fx_i2 aj_d81 rfl (Nat.le_succ _) (fun _ => rfl) hlv1_0 ?_
          refine fx_gF aj_d81 rfl (Nat.le_succ _) rfl rfl fx_in_0_1 (t := 82) rfl (fun hA30 => ?_)
          refine fx_i0 aj_d81 rfl (Nat.le_succ _) (fun _ => rfl) hlv1_2 ?_
          refine fx_cv aj_d81 rfl (Nat.le_succ _) rfl [_] rfl rfl (gx_61_ok p2) ?_
          rintro _ X31 ⟨w32, rfl, hR31⟩ hok31 hle31
          refine fx_qc hR31 ?_
          show fx_W _ _ _ 108 lv1 [.int w32, .ref 78, .int p2, .ref 82] _ _
          refine fx_cv aj_d81 rfl (Nat.le_succ _) rfl [_] rfl rfl (gx_46_ok w32) ?_
          rintro _ X33 ⟨w34, rfl, hR33⟩ hok33 hle33
          refine fx_qc hR33 ?_
          show fx_W _ _ _ 111 lv1 [.int w34, .int p2, .ref 82] _ _
          refine fx_cv aj_d81 rfl (Nat.le_succ _) rfl [_, _] rfl rfl (gx_41_ok p2 w34) ?_
          rintro _ X35 ⟨w36, rfl, hR35⟩ hok35 hle35
          refine fx_qc hR35 ?_
          show fx_W _ _ _ 114 lv1 [] _ _
          refine fx_n (pc' := 117) (lv' := lv1) (st' := []) aj_d81 rfl (Nat.le_succ _) (fun _ => rfl) ?_
          exact fx_rn aj_d81 rfl ⟨(), rfl, 0, rfl⟩
        · skip
          refine fx_qe (c := (p1).toInt = 203) q27 ?_
          refine fx_td (tgt := 117) aj_d81 rfl (Nat.le_succ _) (by omega) rfl ?_
          show fx_W _ _ _ 117 lv1 [] _ _
          exact fx_rn aj_d81 rfl ⟨(), rfl, 0, rfl⟩
def gx_65 (p1 : Int32) (p2 : Int32) (X : fx_X) (v : Unit) (X' : fx_X) : Prop :=
  (if (p1).toInt < 0 then (X' = X) else ((if (p1).toInt < 20 then ((0 ≤ (p1).toInt ∧ (p1).toInt < ((20 : Nat) : Int)) ∧ ∃ X7 : fx_X, X7 = (fx_wI X 93 (p1).toInt.toNat p2) ∧ X' = X7) else (X' = X))))
theorem gx_65_ok {tb : aj_T} (p1 : Int32) (p2 : Int32) {X : fx_X} : fx_K tb 65 [.ref 91, .int p1, .int p2] X (fx_Q fx_qN (fun v X' => gx_65 p1 p2 X v X')) := by
  refine fx_m aj_m65_at rfl (fun N => ?_)
  refine fx_mono (Q := fx_Q fx_qN (fun v X' => ∃ n : Nat, gx_65 p1 p2 X v X')) (fun r X' ⟨v, e, _, z⟩ => ⟨v, e, z⟩) ?_
  unfold gx_65
  show fx_W _ _ _ 0 [(0, .ref 91), (1, .int p1), (2, .int p2)] [] _ _
  obtain ⟨lv1, elv1⟩ : ∃ l : aj_V, l = [(0, .ref 91), (1, .int p1), (2, .int p2)] := ⟨_, rfl⟩
  rw [← elv1]
  have hlv1_0 : aj_lv lv1 0 = some (.ref 91) := by rw [elv1]; rfl
  have hlv1_1 : aj_lv lv1 1 = some (.int p1) := by rw [elv1]; rfl
  have hlv1_2 : aj_lv lv1 2 = some (.int p2) := by rw [elv1]; rfl
  refine fx_i0 aj_d65 rfl (Nat.le_succ _) (fun _ => rfl) hlv1_1 ?_
  refine fx_b0 (tgt := 20) aj_d65 rfl (Nat.le_succ _) rfl (fun q2 => ?_) (fun q2 => ?_)
  · skip
    refine fx_qi (c := (p1).toInt < 0) (fx_t_lt q2) ?_
    show fx_W _ _ _ 20 lv1 [] _ _
    exact fx_rn aj_d65 rfl ⟨(), rfl, 0, rfl⟩
  · skip
    refine fx_qe (c := (p1).toInt < 0) (fx_f_lt q2) ?_
    show fx_W _ _ _ 4 lv1 [] _ _
    refine fx_i0 aj_d65 rfl (Nat.le_succ _) (fun _ => rfl) hlv1_1 ?_
    refine fx_i2 aj_d65 rfl (Nat.le_succ _) (fun _ => rfl) hlv1_0 ?_
    refine fx_gF aj_d65 rfl (Nat.le_succ _) rfl rfl fx_in_0_4 (t := 93) rfl (fun hA3 => ?_)
    refine fx_al aj_d65 rfl (Nat.le_succ _) ?_
    rw [(hA3 : X.2.2.2.1 93 = (0, 20))]
    show fx_W _ _ _ 10 lv1 [.int (Int32.ofNat 20), .int p1] _ _
    refine fx_b (tgt := 20) aj_d65 rfl (Nat.le_succ _) rfl (fun q4 => ?_) (fun q4 => ?_)
    · skip
      refine fx_qe (c := (p1).toInt < 20) (fx_t_ge q4) ?_
      show fx_W _ _ _ 20 lv1 [] _ _
      exact fx_rn aj_d65 rfl ⟨(), rfl, 0, rfl⟩
    · skip
      refine fx_qi (c := (p1).toInt < 20) (fx_f_ge q4) ?_
      show fx_W _ _ _ 13 lv1 [] _ _
      refine fx_i2 aj_d65 rfl (Nat.le_succ _) (fun _ => rfl) hlv1_0 ?_
      refine fx_gF aj_d65 rfl (Nat.le_succ _) rfl rfl fx_in_0_4 (t := 93) rfl (fun hA5 => ?_)
      refine fx_i0 aj_d65 rfl (Nat.le_succ _) (fun _ => rfl) hlv1_1 ?_
      refine fx_i0 aj_d65 rfl (Nat.le_succ _) (fun _ => rfl) hlv1_2 ?_
      refine fx_st aj_d65 (Or.inl ⟨rfl, rfl⟩) rfl (Nat.le_succ _) (fun g60 g61 => ?_)
      show fx_W _ _ _ _ _ _ (fx_wI X 93 (p1).toInt.toNat p2) _
      refine fx_qa (c := 0 ≤ (p1).toInt ∧ (p1).toInt < ((20 : Nat) : Int)) ⟨g60, fx_lnk g61 hA5⟩ ?_
      refine fx_qX (fun X7 eX7 => ?_)
      show fx_W _ _ _ 20 lv1 [] _ _
      exact fx_rn aj_d65 rfl ⟨(), rfl, 0, rfl⟩
def gx_67 (p1 : Int32) (p2 : Int64) (X : fx_X) (v : Unit) (X' : fx_X) : Prop :=
  (if (p1).toInt < 0 then (X' = X) else ((if (p1).toInt < 20 then ((0 ≤ (p1).toInt ∧ (p1).toInt < ((20 : Nat) : Int)) ∧ (if ((X.1 93 (p1).toInt.toNat)).toInt < 6 then ((0 ≤ (p1).toInt ∧ (p1).toInt < ((20 : Nat) : Int)) ∧ ∃ x10 : Int32, x10 = ((p1 * ((Int8.ofInt 6).toInt32)) + (X.1 93 (p1).toInt.toNat)) ∧ (if (x10).toInt < 120 then ((0 ≤ (x10).toInt ∧ (x10).toInt < ((120 : Nat) : Int)) ∧ ∃ X16 : fx_X, X16 = (fx_wL X 92 (x10).toInt.toNat p2) ∧ (0 ≤ (p1).toInt ∧ (p1).toInt < ((20 : Nat) : Int)) ∧ (0 ≤ (p1).toInt ∧ (p1).toInt < ((20 : Nat) : Int)) ∧ ∃ X20 : fx_X, X20 = (fx_wI X16 93 (p1).toInt.toNat ((X16.1 93 (p1).toInt.toNat) + (Int32.ofInt 1))) ∧ X' = X20) else (X' = X))) else (X' = X))) else (X' = X))))
theorem gx_67_ok {tb : aj_T} (p1 : Int32) (p2 : Int64) {X : fx_X} : fx_K tb 67 [.ref 91, .int p1, .long p2] X (fx_Q fx_qN (fun v X' => gx_67 p1 p2 X v X')) := by
  refine fx_m aj_m67_at rfl (fun N => ?_)
  refine fx_mono (Q := fx_Q fx_qN (fun v X' => ∃ n : Nat, gx_67 p1 p2 X v X')) (fun r X' ⟨v, e, _, z⟩ => ⟨v, e, z⟩) ?_
  unfold gx_67
  show fx_W _ _ _ 0 [(0, .ref 91), (1, .int p1), (2, .long p2)] [] _ _
  obtain ⟨lv1, elv1⟩ : ∃ l : aj_V, l = [(0, .ref 91), (1, .int p1), (2, .long p2)] := ⟨_, rfl⟩
  rw [← elv1]
  have hlv1_0 : aj_lv lv1 0 = some (.ref 91) := by rw [elv1]; rfl
  have hlv1_1 : aj_lv lv1 1 = some (.int p1) := by rw [elv1]; rfl
  have hlv1_2 : aj_lv lv1 2 = some (.long p2) := by rw [elv1]; rfl
  refine fx_i0 aj_d67 rfl (Nat.le_succ _) (fun _ => rfl) hlv1_1 ?_
  refine fx_b0 (tgt := 24) aj_d67 rfl (Nat.le_succ _) rfl (fun q2 => ?_) (fun q2 => ?_)
  · skip
    refine fx_qi (c := (p1).toInt < 0) (fx_t_lt q2) ?_
    show fx_W _ _ _ 24 lv1 [] _ _
    exact fx_rn aj_d67 rfl ⟨(), rfl, 0, rfl⟩
  · skip
    refine fx_qe (c := (p1).toInt < 0) (fx_f_lt q2) ?_
    show fx_W _ _ _ 4 lv1 [] _ _
    refine fx_i0 aj_d67 rfl (Nat.le_succ _) (fun _ => rfl) hlv1_1 ?_
    refine fx_i2 aj_d67 rfl (Nat.le_succ _) (fun _ => rfl) hlv1_0 ?_
    refine fx_gF aj_d67 rfl (Nat.le_succ _) rfl rfl fx_in_0_4 (t := 93) rfl (fun hA3 => ?_)
    refine fx_al aj_d67 rfl (Nat.le_succ _) ?_
    rw [(hA3 : X.2.2.2.1 93 = (0, 20))]
    show fx_W _ _ _ 10 lv1 [.int (Int32.ofNat 20), .int p1] _ _
    refine fx_b (tgt := 24) aj_d67 rfl (Nat.le_succ _) rfl (fun q4 => ?_) (fun q4 => ?_)
    · skip
      refine fx_qe (c := (p1).toInt < 20) (fx_t_ge q4) ?_
      show fx_W _ _ _ 24 lv1 [] _ _
      exact fx_rn aj_d67 rfl ⟨(), rfl, 0, rfl⟩
    · skip
      refine fx_qi (c := (p1).toInt < 20) (fx_f_ge q4) ?_
      show fx_W _ _ _ 13 lv1 [] _ _
      refine fx_i2 aj_d67 rfl (Nat.le_succ _) (fun _ => rfl) hlv1_0 ?_
      refine fx_gF aj_d67 rfl (Nat.le_succ _) rfl rfl fx_in_0_4 (t := 93) rfl (fun hA5 => ?_)
      refine fx_i0 aj_d67 rfl (Nat.le_succ _) (fun _ => rfl) hlv1_1 ?_
      refine fx_ld aj_d67 (Or.inl rfl) rfl (Nat.le_succ _) (fun g60 g61 => ?_)
      show fx_W _ _ _ 19 lv1 [.int (X.1 93 (p1).toInt.toNat)] _ _
      refine fx_qa (c := 0 ≤ (p1).toInt ∧ (p1).toInt < ((20 : Nat) : Int)) ⟨g60, fx_lnk g61 hA5⟩ ?_
      refine fx_n (pc' := 21) (lv' := lv1) (st' := [.int ((Int8.ofInt 6).toInt32), .int (X.1 93 (p1).toInt.toNat)]) aj_d67 rfl (Nat.le_succ _) (fun _ => rfl) ?_
      refine fx_b (tgt := 25) aj_d67 rfl (Nat.le_succ _) rfl (fun q7 => ?_) (fun q7 => ?_)
      · skip
        refine fx_qi (c := ((X.1 93 (p1).toInt.toNat)).toInt < 6) (fx_t_lt q7) ?_
        show fx_W _ _ _ 25 lv1 [] _ _
        refine fx_i0 aj_d67 rfl (Nat.le_succ _) (fun _ => rfl) hlv1_1 ?_
        refine fx_n (pc' := 28) (lv' := lv1) (st' := [.int ((Int8.ofInt 6).toInt32), .int p1]) aj_d67 rfl (Nat.le_succ _) (fun _ => rfl) ?_
        refine fx_n (pc' := 29) (lv' := lv1) (st' := [.int (p1 * ((Int8.ofInt 6).toInt32))]) aj_d67 rfl (Nat.le_succ _) (fun _ => rfl) ?_
        refine fx_i2 aj_d67 rfl (Nat.le_succ _) (fun _ => rfl) hlv1_0 ?_
        refine fx_gF aj_d67 rfl (Nat.le_succ _) rfl rfl fx_in_0_4 (t := 93) rfl (fun hA8 => ?_)
        refine fx_i0 aj_d67 rfl (Nat.le_succ _) (fun _ => rfl) hlv1_1 ?_
        refine fx_ld aj_d67 (Or.inl rfl) rfl (Nat.le_succ _) (fun g90 g91 => ?_)
        show fx_W _ _ _ 35 lv1 [.int (X.1 93 (p1).toInt.toNat), .int (p1 * ((Int8.ofInt 6).toInt32))] _ _
        refine fx_qa (c := 0 ≤ (p1).toInt ∧ (p1).toInt < ((20 : Nat) : Int)) ⟨g90, fx_lnk g91 hA8⟩ ?_
        refine fx_n (pc' := 36) (lv' := lv1) (st' := [.int ((p1 * ((Int8.ofInt 6).toInt32)) + (X.1 93 (p1).toInt.toNat))]) aj_d67 rfl (Nat.le_succ _) (fun _ => rfl) ?_
        refine fx_qxI (fun x10 ex10 => ?_)
        refine fx_s0 (j := 4) aj_d67 rfl (Nat.le_succ _) (by decide) (fun _ => rfl) ?_
        obtain ⟨lv11, elv11⟩ : ∃ l, l = aj_set1 lv1 4 (.int x10) := ⟨_, rfl⟩
        rw [← elv11]
        have hlv11_0 : aj_lv lv11 0 = some (.ref 91) := fx_e1 elv11 hlv1_0 (by decide) (Or.inl (by decide))
        have hlv11_1 : aj_lv lv11 1 = some (.int p1) := fx_e1 elv11 hlv1_1 (by decide) (Or.inl (by decide))
        have hlv11_2 : aj_lv lv11 2 = some (.long p2) := fx_e1 elv11 hlv1_2 (by decide) (Or.inl (by decide))
        have hlv11_4 : aj_lv lv11 4 = some (.int x10) := by rw [elv11]; exact ak_set1_eq _ _ _
        show fx_W _ _ _ 38 lv11 [] _ _
        refine fx_i0 aj_d67 rfl (Nat.le_succ _) (fun _ => rfl) hlv11_4 ?_
        refine fx_i2 aj_d67 rfl (Nat.le_succ _) (fun _ => rfl) hlv11_0 ?_
        refine fx_gF aj_d67 rfl (Nat.le_succ _) rfl rfl fx_in_0_3 (t := 92) rfl (fun hA12 => ?_)
        refine fx_al aj_d67 rfl (Nat.le_succ _) ?_
        rw [(hA12 : X.2.2.2.1 92 = (1, 120))]
        show fx_W _ _ _ 45 lv11 [.int (Int32.ofNat 120), .int x10] _ _
        refine fx_b (tgt := 66) aj_d67 rfl (Nat.le_succ _) rfl (fun q13 => ?_) (fun q13 => ?_)
        · skip
          refine fx_qe (c := (x10).toInt < 120) (fx_t_ge q13) ?_
          show fx_W _ _ _ 66 lv11 [] _ _
          exact fx_rn aj_d67 rfl ⟨(), rfl, 0, rfl⟩
        · skip
          refine fx_qi (c := (x10).toInt < 120) (fx_f_ge q13) ?_
          show fx_W _ _ _ 48 lv11 [] _ _
          refine fx_i2 aj_d67 rfl (Nat.le_succ _) (fun _ => rfl) hlv11_0 ?_
          refine fx_gF aj_d67 rfl (Nat.le_succ _) rfl rfl fx_in_0_3 (t := 92) rfl (fun hA14 => ?_)
          refine fx_i0 aj_d67 rfl (Nat.le_succ _) (fun _ => rfl) hlv11_4 ?_
          refine fx_i1 aj_d67 rfl (Nat.le_succ _) (fun _ => rfl) hlv11_2 ?_
          refine fx_sL aj_d67 rfl (Nat.le_succ _) (fun g150 g151 => ?_)
          refine fx_qa (c := 0 ≤ (x10).toInt ∧ (x10).toInt < ((120 : Nat) : Int)) ⟨g150, fx_lnk g151 hA14⟩ ?_
          refine fx_qX (fun X16 eX16 => ?_)
          show fx_W _ _ _ 56 lv11 [] _ _
          refine fx_i2 aj_d67 rfl (Nat.le_succ _) (fun _ => rfl) hlv11_0 ?_
          refine fx_gF aj_d67 rfl (Nat.le_succ _) rfl rfl fx_in_0_4 (t := 93) rfl (fun hA17 => ?_)
          refine fx_i0 aj_d67 rfl (Nat.le_succ _) (fun _ => rfl) hlv11_1 ?_
          refine fx_n (pc' := 62) (lv' := lv11) (st' := [.int p1, .ref 93, .int p1, .ref 93]) aj_d67 rfl (Nat.le_succ _) (fun _ => rfl) ?_
          refine fx_ld aj_d67 (Or.inl rfl) rfl (Nat.le_succ _) (fun g180 g181 => ?_)
          show fx_W _ _ _ 63 lv11 [.int (X16.1 93 (p1).toInt.toNat), .int p1, .ref 93] _ _
          refine fx_qa (c := 0 ≤ (p1).toInt ∧ (p1).toInt < ((20 : Nat) : Int)) ⟨g180, fx_lnk g181 hA17⟩ ?_
          refine fx_n (pc' := 64) (lv' := lv11) (st' := [.int (Int32.ofInt 1), .int (X16.1 93 (p1).toInt.toNat), .int p1, .ref 93]) aj_d67 rfl (Nat.le_succ _) (fun _ => rfl) ?_
          refine fx_n (pc' := 65) (lv' := lv11) (st' := [.int ((X16.1 93 (p1).toInt.toNat) + (Int32.ofInt 1)), .int p1, .ref 93]) aj_d67 rfl (Nat.le_succ _) (fun _ => rfl) ?_
          refine fx_st aj_d67 (Or.inl ⟨rfl, rfl⟩) rfl (Nat.le_succ _) (fun g190 g191 => ?_)
          show fx_W _ _ _ _ _ _ (fx_wI X16 93 (p1).toInt.toNat ((X16.1 93 (p1).toInt.toNat) + (Int32.ofInt 1))) _
          refine fx_qa (c := 0 ≤ (p1).toInt ∧ (p1).toInt < ((20 : Nat) : Int)) ⟨g190, fx_lnk g191 hA17⟩ ?_
          refine fx_qX (fun X20 eX20 => ?_)
          show fx_W _ _ _ 66 lv11 [] _ _
          exact fx_rn aj_d67 rfl ⟨(), rfl, 0, rfl⟩
      · skip
        refine fx_qe (c := ((X.1 93 (p1).toInt.toNat)).toInt < 6) (fx_f_lt q7) ?_
        show fx_W _ _ _ 24 lv1 [] _ _
        exact fx_rn aj_d67 rfl ⟨(), rfl, 0, rfl⟩
def gxT_59_54 (p1 : Int32) (P : Nat → List Int32 → List Int64 → List Nat → fx_X → Unit → fx_X → Prop) (y2 : Int32) (y3 : Nat) (y4 : Int32) (X : fx_X) (v : Unit) (X' : fx_X) : Prop :=
  (if (y4).toInt < ((X.1 y3 3)).toInt then (∃ b28 : Nat, X.2.2.1 91 2 = some b28 ∧ ∃ (w30 : Int64) (X29 : fx_X), gx_66 b28 y2 y4 X w30 X29 ∧ ∃ (w32 : Unit) (X31 : fx_X), gx_67 (X.1 91 5) w30 X29 w32 X31 ∧ ∃ x33 : Int32, x33 = y4 + Int32.ofInt 1 ∧ P 54 [y2, x33] [] [y3] X31 v X') else (∃ X26 : fx_X, X26 = (fx_wI X 91 5 ((X.1 91 5) + (Int32.ofInt 1))) ∧ X' = X26))
def gxE_59 (p1 : Int32) (P : Nat → List Int32 → List Int64 → List Nat → fx_X → Unit → fx_X → Prop) (X : fx_X) (v : Unit) (X' : fx_X) : Prop :=
  ∃ b3 : Nat, X.2.2.1 91 2 = some b3 ∧ ∃ (w7 : Int64) (X6 : fx_X), gx_60 p1 X w7 X6 ∧ ∃ (w9 : Int32) (X8 : fx_X), gx_62 b3 w7 X6 w9 X8 ∧ ∃ b12 : Nat, X8.2.2.1 91 2 = some b12 ∧ ∃ (w14 : (Option Nat)) (X13 : fx_X), gx_63 b12 w9 X8 w14 X13 ∧ ((w14 = none ∧ ∃ (w17 : Unit) (X16 : fx_X), gx_64 (Int32.ofInt 4) p1 X13 w17 X16 ∧ X' = X16) ∨ (∃ w14b : Nat, w14 = some w14b ∧ ∃ (w21 : Unit) (X20 : fx_X), gx_41 p1 w9 X13 w21 X20 ∧ ∃ (w23 : Unit) (X22 : fx_X), gx_65 (X20.1 91 5) (Int32.ofInt 0) X20 w23 X22 ∧ P 54 [w9, (Int32.ofInt 0)] [] [w14b] X22 v X'))
noncomputable def gxF_59 (p1 : Int32) (n : Nat) : Nat → List Int32 → List Int64 → List Nat → fx_X → Unit → fx_X → Prop := Nat.rec (motive := fun _ => Nat → List Int32 → List Int64 → List Nat → fx_X → Unit → fx_X → Prop) (fun _ _ _ _ _ _ _ => False) (fun _ P l is ls rs X v X' => (l = 54 ∧ ∃ (y2 : Int32) (y3 : Nat) (y4 : Int32), is = [y2, y4] ∧ ls = [] ∧ rs = [y3] ∧ gxT_59_54 p1 P y2 y3 y4 X v X')) n
theorem gxI_59_54 {p1 : Int32} {n : Nat} {y2 : Int32} {y3 : Nat} {y4 : Int32} {X : fx_X} {v : Unit} {X' : fx_X} (h : gxT_59_54 p1 (gxF_59 p1 n) y2 y3 y4 X v X') : gxF_59 p1 (n + 1) 54 [y2, y4] [] [y3] X v X' := ⟨rfl, y2, y3, y4, rfl, rfl, rfl, h⟩
theorem gxO_59_54 {p1 : Int32} {n : Nat} {y2 : Int32} {y3 : Nat} {y4 : Int32} {X : fx_X} {v : Unit} {X' : fx_X} (h : gxF_59 p1 (n + 1) 54 [y2, y4] [] [y3] X v X') : gxT_59_54 p1 (gxF_59 p1 n) y2 y3 y4 X v X' := by
  rcases h with ⟨-, _, _, _, e1, e2, e3, h⟩
  · cases e1; cases e2; cases e3; exact h
def gx_59 (p1 : Int32) (X : fx_X) (v : Unit) (X' : fx_X) : Prop := ∃ n : Nat, gxE_59 p1 (gxF_59 p1 n) X v X'
theorem gxL_59 {tb : aj_T} (p1 : Int32) : ∀ N : Nat, (∀ (lv : aj_V) (y2 : Int32) (y3 : Nat) (y4 : Int32) (X : fx_X), aj_lv lv 0 = some (.ref 91) → aj_lv lv 2 = some (.int y2) → aj_lv lv 3 = some (.ref y3) → aj_lv lv 4 = some (.int y4) → fx_W tb aj_m59 N 54 lv [] X (fx_Q fx_qN (fun v X' => ∃ n : Nat, gxF_59 p1 n 54 [y2, y4] [] [y3] X v X'))) := by
  intro N
  induction N with
  | zero => exact (by intros; exact fx_z)
  | succ N ih =>
    skip
    · intro lv y2 y3 y4 X hlv_0 hlv_2 hlv_3 hlv_4
      refine fx_mono (Q := fx_Q fx_qN (fun v X' => ∃ n : Nat, gxT_59_54 p1 (gxF_59 p1 n) y2 y3 y4 X v X')) (fun r X' ⟨v, e, n, z⟩ => ⟨v, e, n + 1, gxI_59_54 z⟩) ?_
      unfold gxT_59_54
      refine fx_i0 aj_d59 rfl (Nat.le_refl _) (fun _ => rfl) hlv_4 ?_
      refine fx_i2 aj_d59 rfl (Nat.le_succ _) (fun _ => rfl) hlv_3 ?_
      refine fx_gI aj_d59 rfl (Nat.le_succ _) rfl rfl (Or.inl rfl) ?_
      refine fx_b (tgt := 87) aj_d59 rfl (Nat.le_succ _) rfl (fun q25 => ?_) (fun q25 => ?_)
      · skip
        refine fx_qe (c := (y4).toInt < ((X.1 y3 3)).toInt) (fx_t_ge q25) ?_
        show fx_W _ _ _ 87 lv [] _ _
        refine fx_i2 aj_d59 rfl (Nat.le_succ _) (fun _ => rfl) hlv_0 ?_
        refine fx_n (pc' := 89) (lv' := lv) (st' := [.ref 91, .ref 91]) aj_d59 rfl (Nat.le_succ _) (fun _ => rfl) ?_
        refine fx_gI aj_d59 rfl (Nat.le_succ _) rfl rfl (Or.inl rfl) ?_
        refine fx_n (pc' := 93) (lv' := lv) (st' := [.int (Int32.ofInt 1), .int (X.1 91 5), .ref 91]) aj_d59 rfl (Nat.le_succ _) (fun _ => rfl) ?_
        refine fx_n (pc' := 94) (lv' := lv) (st' := [.int ((X.1 91 5) + (Int32.ofInt 1)), .ref 91]) aj_d59 rfl (Nat.le_succ _) (fun _ => rfl) ?_
        refine fx_pI aj_d59 rfl (Nat.le_succ _) rfl rfl (Or.inl rfl) fx_no_0_5 (by decide) ?_
        refine fx_qX (fun X26 eX26 => ?_)
        show fx_W _ _ _ 97 lv [] _ _
        exact fx_rn aj_d59 rfl ⟨(), rfl, 0, rfl⟩
      · skip
        refine fx_qi (c := (y4).toInt < ((X.1 y3 3)).toInt) (fx_f_ge q25) ?_
        show fx_W _ _ _ 63 lv [] _ _
        refine fx_i2 aj_d59 rfl (Nat.le_succ _) (fun _ => rfl) hlv_0 ?_
        refine fx_i2 aj_d59 rfl (Nat.le_succ _) (fun _ => rfl) hlv_0 ?_
        refine fx_gI aj_d59 rfl (Nat.le_succ _) rfl rfl (Or.inl rfl) ?_
        refine fx_i2 aj_d59 rfl (Nat.le_succ _) (fun _ => rfl) hlv_0 ?_
        refine fx_gR aj_d59 rfl (Nat.le_succ _) rfl rfl (Or.inl ⟨_, rfl⟩) (fun q27 _ => ?_) (fun b28 q27 => ?_)
        · skip
          show fx_W _ _ _ 72 lv [.null, .int (X.1 91 5), .ref 91] _ _
          refine fx_i0 aj_d59 rfl (Nat.le_succ _) (fun _ => rfl) hlv_2 ?_
          refine fx_i0 aj_d59 rfl (Nat.le_succ _) (fun _ => rfl) hlv_4 ?_
          exact fx_d aj_d59 rfl (fun _ => rfl)
        · skip
          refine fx_qs q27 ?_
          show fx_W _ _ _ 72 lv [.ref b28, .int (X.1 91 5), .ref 91] _ _
          refine fx_i0 aj_d59 rfl (Nat.le_succ _) (fun _ => rfl) hlv_2 ?_
          refine fx_i0 aj_d59 rfl (Nat.le_succ _) (fun _ => rfl) hlv_4 ?_
          refine fx_cv aj_d59 rfl (Nat.le_succ _) rfl [_, _] rfl rfl (gx_66_ok b28 y2 y4) ?_
          rintro _ X29 ⟨w30, rfl, hR29⟩ hok29 hle29
          refine fx_qc hR29 ?_
          show fx_W _ _ _ 78 lv [.long w30, .int (X.1 91 5), .ref 91] _ _
          refine fx_cv aj_d59 rfl (Nat.le_succ _) rfl [_, _] rfl rfl (gx_67_ok (X.1 91 5) w30) ?_
          rintro _ X31 ⟨w32, rfl, hR31⟩ hok31 hle31
          refine fx_qc hR31 ?_
          show fx_W _ _ _ 81 lv [] _ _
          refine fx_incq aj_d59 rfl (Nat.le_succ _) hlv_4 (by decide) (fun x33 ex33 => ?_)
          obtain ⟨lv34, elv34⟩ : ∃ l, l = aj_set1 lv 4 (.int x33) := ⟨_, rfl⟩
          rw [← elv34]
          have hlv34_0 : aj_lv lv34 0 = some (.ref 91) := fx_e1 elv34 hlv_0 (by decide) (Or.inl (by decide))
          have hlv34_2 : aj_lv lv34 2 = some (.int y2) := fx_e1 elv34 hlv_2 (by decide) (Or.inl (by decide))
          have hlv34_3 : aj_lv lv34 3 = some (.ref y3) := fx_e1 elv34 hlv_3 (by decide) (Or.inr rfl)
          have hlv34_4 : aj_lv lv34 4 = some (.int x33) := by rw [elv34]; exact ak_set1_eq _ _ _
          show fx_W _ _ _ 84 lv34 [] _ _
          refine fx_n (pc' := 54) (lv' := lv34) (st' := []) aj_d59 rfl (Nat.le_succ _) (fun _ => rfl) ?_
          exact (ih) lv34 (y2) (y3) (x33) X31  hlv34_0 hlv34_2 hlv34_3 hlv34_4
theorem gx_59_ok {tb : aj_T} (p1 : Int32) {X : fx_X} : fx_K tb 59 [.ref 91, .int p1] X (fx_Q fx_qN (fun v X' => gx_59 p1 X v X')) := by
  refine fx_m aj_m59_at rfl (fun N => ?_)
  refine fx_mono (Q := fx_Q fx_qN (fun v X' => ∃ n : Nat, gxE_59 p1 (gxF_59 p1 n) X v X')) (fun r X' h => h) ?_
  unfold gxE_59
  show fx_W _ _ _ 0 [(0, .ref 91), (1, .int p1)] [] _ _
  obtain ⟨lv1, elv1⟩ : ∃ l : aj_V, l = [(0, .ref 91), (1, .int p1)] := ⟨_, rfl⟩
  rw [← elv1]
  have hlv1_0 : aj_lv lv1 0 = some (.ref 91) := by rw [elv1]; rfl
  have hlv1_1 : aj_lv lv1 1 = some (.int p1) := by rw [elv1]; rfl
  refine fx_i2 aj_d59 rfl (Nat.le_succ _) (fun _ => rfl) hlv1_0 ?_
  refine fx_gR aj_d59 rfl (Nat.le_succ _) rfl rfl (Or.inl ⟨_, rfl⟩) (fun q2 _ => ?_) (fun b3 q2 => ?_)
  · skip
    show fx_W _ _ _ 4 lv1 [.null] _ _
    refine fx_i2 aj_d59 rfl (Nat.le_succ _) (fun _ => rfl) hlv1_0 ?_
    refine fx_i0 aj_d59 rfl (Nat.le_succ _) (fun _ => rfl) hlv1_1 ?_
    refine fx_cv aj_d59 rfl (Nat.le_succ _) rfl [_] rfl rfl (gx_60_ok p1) ?_
    rintro _ X4 ⟨w5, rfl, hR4⟩ hok4 hle4
    show fx_W _ _ _ 9 lv1 [.long w5, .null] _ _
    exact fx_d aj_d59 rfl (fun _ => rfl)
  · skip
    refine fx_qs q2 ?_
    show fx_W _ _ _ 4 lv1 [.ref b3] _ _
    refine fx_i2 aj_d59 rfl (Nat.le_succ _) (fun _ => rfl) hlv1_0 ?_
    refine fx_i0 aj_d59 rfl (Nat.le_succ _) (fun _ => rfl) hlv1_1 ?_
    refine fx_cv aj_d59 rfl (Nat.le_succ _) rfl [_] rfl rfl (gx_60_ok p1) ?_
    rintro _ X6 ⟨w7, rfl, hR6⟩ hok6 hle6
    refine fx_qc hR6 ?_
    show fx_W _ _ _ 9 lv1 [.long w7, .ref b3] _ _
    refine fx_cv aj_d59 rfl (Nat.le_succ _) rfl [_] rfl rfl (gx_62_ok b3 w7) ?_
    rintro _ X8 ⟨w9, rfl, hR8⟩ hok8 hle8
    refine fx_qc hR8 ?_
    show fx_W _ _ _ 12 lv1 [.int w9] _ _
    refine fx_s0 (j := 2) aj_d59 rfl (Nat.le_succ _) (by decide) (fun _ => rfl) ?_
    obtain ⟨lv10, elv10⟩ : ∃ l, l = aj_set1 lv1 2 (.int w9) := ⟨_, rfl⟩
    rw [← elv10]
    have hlv10_0 : aj_lv lv10 0 = some (.ref 91) := fx_e1 elv10 hlv1_0 (by decide) (Or.inl (by decide))
    have hlv10_1 : aj_lv lv10 1 = some (.int p1) := fx_e1 elv10 hlv1_1 (by decide) (Or.inr rfl)
    have hlv10_2 : aj_lv lv10 2 = some (.int w9) := by rw [elv10]; exact ak_set1_eq _ _ _
    show fx_W _ _ _ 13 lv10 [] _ _
    refine fx_i2 aj_d59 rfl (Nat.le_succ _) (fun _ => rfl) hlv10_0 ?_
    refine fx_gR aj_d59 rfl (Nat.le_succ _) rfl rfl (Or.inl ⟨_, rfl⟩) (fun q11 _ => ?_) (fun b12 q11 => ?_)
    · skip
      show fx_W _ _ _ 17 lv10 [.null] _ _
      refine fx_i0 aj_d59 rfl (Nat.le_succ _) (fun _ => rfl) hlv10_2 ?_
      exact fx_d aj_d59 rfl (fun _ => rfl)
    · skip
      refine fx_qs q11 ?_
      show fx_W _ _ _ 17 lv10 [.ref b12] _ _
      refine fx_i0 aj_d59 rfl (Nat.le_succ _) (fun _ => rfl) hlv10_2 ?_
      refine fx_cv aj_d59 rfl (Nat.le_succ _) rfl [_] rfl rfl (gx_63_ok b12 w9) ?_
      rintro _ X13 ⟨w14, rfl, hR13⟩ hok13 hle13
      refine fx_qc hR13 ?_
      rcases w14 with _ | w14b
      · skip
        refine fx_o1 (fx_qa rfl ?_)
        show fx_W _ _ _ 21 lv10 [.null] _ _
        refine fx_s3 (j := 3) aj_d59 rfl (Nat.le_succ _) (by decide) (fun _ => rfl) ?_
        obtain ⟨lv15, elv15⟩ : ∃ l, l = aj_set1 lv10 3 (.null) := ⟨_, rfl⟩
        rw [← elv15]
        have hlv15_0 : aj_lv lv15 0 = some (.ref 91) := fx_e1 elv15 hlv10_0 (by decide) (Or.inl (by decide))
        have hlv15_1 : aj_lv lv15 1 = some (.int p1) := fx_e1 elv15 hlv10_1 (by decide) (Or.inl (by decide))
        have hlv15_2 : aj_lv lv15 2 = some (.int w9) := fx_e1 elv15 hlv10_2 (by decide) (Or.inr rfl)
        have hlv15_3 : aj_lv lv15 3 = some (.null) := by rw [elv15]; exact ak_set1_eq _ _ _
        show fx_W _ _ _ 22 lv15 [] _ _
        refine fx_i3 aj_d59 rfl (Nat.le_succ _) (fun _ => rfl) hlv15_3 ?_
        refine fx_n (pc' := 26) (lv' := lv15) (st' := []) aj_d59 rfl (Nat.le_succ _) (fun _ => rfl) ?_
        refine fx_i2 aj_d59 rfl (Nat.le_succ _) (fun _ => rfl) hlv15_0 ?_
        refine fx_n (pc' := 28) (lv' := lv15) (st' := [.int (Int32.ofInt 4), .ref 91]) aj_d59 rfl (Nat.le_succ _) (fun _ => rfl) ?_
        refine fx_i0 aj_d59 rfl (Nat.le_succ _) (fun _ => rfl) hlv15_1 ?_
        refine fx_cv aj_d59 rfl (Nat.le_succ _) rfl [_, _] rfl rfl (gx_64_ok (Int32.ofInt 4) p1) ?_
        rintro _ X16 ⟨w17, rfl, hR16⟩ hok16 hle16
        refine fx_qc hR16 ?_
        show fx_W _ _ _ 32 lv15 [] _ _
        exact fx_rn aj_d59 rfl ⟨(), rfl, 0, rfl⟩
      · skip
        refine fx_o2 (fx_qs rfl ?_)
        show fx_W _ _ _ 21 lv10 [.ref w14b] _ _
        refine fx_s2 (j := 3) aj_d59 rfl (Nat.le_succ _) (by decide) (fun _ => rfl) ?_
        obtain ⟨lv18, elv18⟩ : ∃ l, l = aj_set1 lv10 3 (.ref w14b) := ⟨_, rfl⟩
        rw [← elv18]
        have hlv18_0 : aj_lv lv18 0 = some (.ref 91) := fx_e1 elv18 hlv10_0 (by decide) (Or.inl (by decide))
        have hlv18_1 : aj_lv lv18 1 = some (.int p1) := fx_e1 elv18 hlv10_1 (by decide) (Or.inl (by decide))
        have hlv18_2 : aj_lv lv18 2 = some (.int w9) := fx_e1 elv18 hlv10_2 (by decide) (Or.inr rfl)
        have hlv18_3 : aj_lv lv18 3 = some (.ref w14b) := by rw [elv18]; exact ak_set1_eq _ _ _
        show fx_W _ _ _ 22 lv18 [] _ _
        refine fx_i2 aj_d59 rfl (Nat.le_succ _) (fun _ => rfl) hlv18_3 ?_
        refine fx_n (pc' := 33) (lv' := lv18) (st' := []) aj_d59 rfl (Nat.le_succ _) (fun _ => rfl) ?_
        refine fx_i2 aj_d59 rfl (Nat.le_succ _) (fun _ => rfl) hlv18_0 ?_
        refine fx_gF aj_d59 rfl (Nat.le_succ _) rfl rfl fx_in_0_1 (t := 82) rfl (fun hA19 => ?_)
        refine fx_i0 aj_d59 rfl (Nat.le_succ _) (fun _ => rfl) hlv18_1 ?_
        refine fx_i0 aj_d59 rfl (Nat.le_succ _) (fun _ => rfl) hlv18_2 ?_
        refine fx_cv aj_d59 rfl (Nat.le_succ _) rfl [_, _] rfl rfl (gx_41_ok p1 w9) ?_
        rintro _ X20 ⟨w21, rfl, hR20⟩ hok20 hle20
        refine fx_qc hR20 ?_
        show fx_W _ _ _ 42 lv18 [] _ _
        refine fx_i2 aj_d59 rfl (Nat.le_succ _) (fun _ => rfl) hlv18_0 ?_
        refine fx_i2 aj_d59 rfl (Nat.le_succ _) (fun _ => rfl) hlv18_0 ?_
        refine fx_gI aj_d59 rfl (Nat.le_succ _) rfl rfl (Or.inl rfl) ?_
        refine fx_n (pc' := 48) (lv' := lv18) (st' := [.int (Int32.ofInt 0), .int (X20.1 91 5), .ref 91]) aj_d59 rfl (Nat.le_succ _) (fun _ => rfl) ?_
        refine fx_cv aj_d59 rfl (Nat.le_succ _) rfl [_, _] rfl rfl (gx_65_ok (X20.1 91 5) (Int32.ofInt 0)) ?_
        rintro _ X22 ⟨w23, rfl, hR22⟩ hok22 hle22
        refine fx_qc hR22 ?_
        show fx_W _ _ _ 51 lv18 [] _ _
        refine fx_n (pc' := 52) (lv' := lv18) (st' := [.int (Int32.ofInt 0)]) aj_d59 rfl (Nat.le_succ _) (fun _ => rfl) ?_
        refine fx_s0 (j := 4) aj_d59 rfl (Nat.le_succ _) (by decide) (fun _ => rfl) ?_
        obtain ⟨lv24, elv24⟩ : ∃ l, l = aj_set1 lv18 4 (.int (Int32.ofInt 0)) := ⟨_, rfl⟩
        rw [← elv24]
        have hlv24_0 : aj_lv lv24 0 = some (.ref 91) := fx_e1 elv24 hlv18_0 (by decide) (Or.inl (by decide))
        have hlv24_2 : aj_lv lv24 2 = some (.int w9) := fx_e1 elv24 hlv18_2 (by decide) (Or.inl (by decide))
        have hlv24_3 : aj_lv lv24 3 = some (.ref w14b) := fx_e1 elv24 hlv18_3 (by decide) (Or.inr rfl)
        have hlv24_4 : aj_lv lv24 4 = some (.int (Int32.ofInt 0)) := by rw [elv24]; exact ak_set1_eq _ _ _
        show fx_W _ _ _ 54 lv24 [] _ _
        exact ((gxL_59 p1 N)) lv24 (w9) (w14b) ((Int32.ofInt 0)) X22  hlv24_0 hlv24_2 hlv24_3 hlv24_4
def gxT_68_17 (p1 : Int32) (p2 : Int32) (P : Nat → List Int32 → List Int64 → List Nat → fx_X → Int32 → fx_X → Prop) (y3 : Int32) (X : fx_X) (v : Int32) (X' : fx_X) : Prop :=
  ∃ (w9 : Int32) (X8 : fx_X), gx_69 p1 X w9 X8 ∧ (if (y3).toInt < (w9).toInt then (∃ (w12 : Int64) (X11 : fx_X), gx_70 p1 y3 X8 w12 X11 ∧ ∃ (w14 : Int64) (X13 : fx_X), gx_70 p2 y3 X11 w14 X13 ∧ (if w12 = w14 then (∃ x16 : Int32, x16 = y3 + Int32.ofInt 1 ∧ P 17 [x16] [] [] X13 v X') else (v = (Int32.ofInt 0) ∧ X' = X13))) else (v = (Int32.ofInt 1) ∧ X' = X8))
def gxE_68 (p1 : Int32) (p2 : Int32) (P : Nat → List Int32 → List Int64 → List Nat → fx_X → Int32 → fx_X → Prop) (X : fx_X) (v : Int32) (X' : fx_X) : Prop :=
  ∃ (w3 : Int32) (X2 : fx_X), gx_69 p1 X w3 X2 ∧ ∃ (w5 : Int32) (X4 : fx_X), gx_69 p2 X2 w5 X4 ∧ (if (w3).toInt = (w5).toInt then (P 17 [(Int32.ofInt 0)] [] [] X4 v X') else (v = (Int32.ofInt 0) ∧ X' = X4))
noncomputable def gxF_68 (p1 : Int32) (p2 : Int32) (n : Nat) : Nat → List Int32 → List Int64 → List Nat → fx_X → Int32 → fx_X → Prop := Nat.rec (motive := fun _ => Nat → List Int32 → List Int64 → List Nat → fx_X → Int32 → fx_X → Prop) (fun _ _ _ _ _ _ _ => False) (fun _ P l is ls rs X v X' => (l = 17 ∧ ∃ (y3 : Int32), is = [y3] ∧ ls = [] ∧ rs = [] ∧ gxT_68_17 p1 p2 P y3 X v X')) n
theorem gxI_68_17 {p1 : Int32} {p2 : Int32} {n : Nat} {y3 : Int32} {X : fx_X} {v : Int32} {X' : fx_X} (h : gxT_68_17 p1 p2 (gxF_68 p1 p2 n) y3 X v X') : gxF_68 p1 p2 (n + 1) 17 [y3] [] [] X v X' := ⟨rfl, y3, rfl, rfl, rfl, h⟩
theorem gxO_68_17 {p1 : Int32} {p2 : Int32} {n : Nat} {y3 : Int32} {X : fx_X} {v : Int32} {X' : fx_X} (h : gxF_68 p1 p2 (n + 1) 17 [y3] [] [] X v X') : gxT_68_17 p1 p2 (gxF_68 p1 p2 n) y3 X v X' := by
  rcases h with ⟨-, _, e1, e2, e3, h⟩
  · cases e1; cases e2; cases e3; exact h
def gx_68 (p1 : Int32) (p2 : Int32) (X : fx_X) (v : Int32) (X' : fx_X) : Prop := ∃ n : Nat, gxE_68 p1 p2 (gxF_68 p1 p2 n) X v X'
theorem gxL_68 {tb : aj_T} (p1 : Int32) (p2 : Int32) : ∀ N : Nat, (∀ (lv : aj_V) (y3 : Int32) (X : fx_X), aj_lv lv 0 = some (.ref 91) → aj_lv lv 1 = some (.int p1) → aj_lv lv 2 = some (.int p2) → aj_lv lv 3 = some (.int y3) → fx_W tb aj_m68 N 17 lv [] X (fx_Q fx_qI (fun v X' => ∃ n : Nat, gxF_68 p1 p2 n 17 [y3] [] [] X v X'))) := by
  intro N
  induction N with
  | zero => exact (by intros; exact fx_z)
  | succ N ih =>
    skip
    · intro lv y3 X hlv_0 hlv_1 hlv_2 hlv_3
      refine fx_mono (Q := fx_Q fx_qI (fun v X' => ∃ n : Nat, gxT_68_17 p1 p2 (gxF_68 p1 p2 n) y3 X v X')) (fun r X' ⟨v, e, n, z⟩ => ⟨v, e, n + 1, gxI_68_17 z⟩) ?_
      unfold gxT_68_17
      refine fx_i0 aj_d68 rfl (Nat.le_refl _) (fun _ => rfl) hlv_3 ?_
      refine fx_i2 aj_d68 rfl (Nat.le_succ _) (fun _ => rfl) hlv_0 ?_
      refine fx_i0 aj_d68 rfl (Nat.le_succ _) (fun _ => rfl) hlv_1 ?_
      refine fx_cv aj_d68 rfl (Nat.le_succ _) rfl [_] rfl rfl (gx_69_ok p1) ?_
      rintro _ X8 ⟨w9, rfl, hR8⟩ hok8 hle8
      refine fx_qc hR8 ?_
      show fx_W _ _ _ 23 lv [.int w9, .int y3] _ _
      refine fx_b (tgt := 50) aj_d68 rfl (Nat.le_succ _) rfl (fun q10 => ?_) (fun q10 => ?_)
      · skip
        refine fx_qe (c := (y3).toInt < (w9).toInt) (fx_t_ge q10) ?_
        show fx_W _ _ _ 50 lv [] _ _
        refine fx_n (pc' := 51) (lv' := lv) (st' := [.int (Int32.ofInt 1)]) aj_d68 rfl (Nat.le_succ _) (fun _ => rfl) ?_
        exact fx_ri aj_d68 rfl ⟨_, rfl, 0, rfl, rfl⟩
      · skip
        refine fx_qi (c := (y3).toInt < (w9).toInt) (fx_f_ge q10) ?_
        show fx_W _ _ _ 26 lv [] _ _
        refine fx_i2 aj_d68 rfl (Nat.le_succ _) (fun _ => rfl) hlv_0 ?_
        refine fx_i0 aj_d68 rfl (Nat.le_succ _) (fun _ => rfl) hlv_1 ?_
        refine fx_i0 aj_d68 rfl (Nat.le_succ _) (fun _ => rfl) hlv_3 ?_
        refine fx_cv aj_d68 rfl (Nat.le_succ _) rfl [_, _] rfl rfl (gx_70_ok p1 y3) ?_
        rintro _ X11 ⟨w12, rfl, hR11⟩ hok11 hle11
        refine fx_qc hR11 ?_
        show fx_W _ _ _ 32 lv [.long w12] _ _
        refine fx_i2 aj_d68 rfl (Nat.le_succ _) (fun _ => rfl) hlv_0 ?_
        refine fx_i0 aj_d68 rfl (Nat.le_succ _) (fun _ => rfl) hlv_2 ?_
        refine fx_i0 aj_d68 rfl (Nat.le_succ _) (fun _ => rfl) hlv_3 ?_
        refine fx_cv aj_d68 rfl (Nat.le_succ _) rfl [_, _] rfl rfl (gx_70_ok p2 y3) ?_
        rintro _ X13 ⟨w14, rfl, hR13⟩ hok13 hle13
        refine fx_qc hR13 ?_
        show fx_W _ _ _ 38 lv [.long w14, .long w12] _ _
        refine fx_n (pc' := 39) (lv' := lv) (st' := [.int (lg_cmp w12 w14)]) aj_d68 rfl (Nat.le_succ _) (fun _ => rfl) ?_
        refine fx_b0 (tgt := 44) aj_d68 rfl (Nat.le_succ _) rfl (fun q15 => ?_) (fun q15 => ?_)
        · skip
          refine fx_qi (c := w12 = w14) (fx_lc.mp (fx_t_eq q15)) ?_
          show fx_W _ _ _ 44 lv [] _ _
          refine fx_incq aj_d68 rfl (Nat.le_succ _) hlv_3 (by decide) (fun x16 ex16 => ?_)
          obtain ⟨lv17, elv17⟩ : ∃ l, l = aj_set1 lv 3 (.int x16) := ⟨_, rfl⟩
          rw [← elv17]
          have hlv17_0 : aj_lv lv17 0 = some (.ref 91) := fx_e1 elv17 hlv_0 (by decide) (Or.inl (by decide))
          have hlv17_1 : aj_lv lv17 1 = some (.int p1) := fx_e1 elv17 hlv_1 (by decide) (Or.inl (by decide))
          have hlv17_2 : aj_lv lv17 2 = some (.int p2) := fx_e1 elv17 hlv_2 (by decide) (Or.inr rfl)
          have hlv17_3 : aj_lv lv17 3 = some (.int x16) := by rw [elv17]; exact ak_set1_eq _ _ _
          show fx_W _ _ _ 47 lv17 [] _ _
          refine fx_n (pc' := 17) (lv' := lv17) (st' := []) aj_d68 rfl (Nat.le_succ _) (fun _ => rfl) ?_
          exact (ih) lv17 (x16) X13  hlv17_0 hlv17_1 hlv17_2 hlv17_3
        · skip
          refine fx_qe (c := w12 = w14) (fun z => (fx_f_eq q15) (fx_lc.mpr z)) ?_
          show fx_W _ _ _ 42 lv [] _ _
          refine fx_n (pc' := 43) (lv' := lv) (st' := [.int (Int32.ofInt 0)]) aj_d68 rfl (Nat.le_succ _) (fun _ => rfl) ?_
          exact fx_ri aj_d68 rfl ⟨_, rfl, 0, rfl, rfl⟩
theorem gx_68_ok {tb : aj_T} (p1 : Int32) (p2 : Int32) {X : fx_X} : fx_K tb 68 [.ref 91, .int p1, .int p2] X (fx_Q fx_qI (fun v X' => gx_68 p1 p2 X v X')) := by
  refine fx_m aj_m68_at rfl (fun N => ?_)
  refine fx_mono (Q := fx_Q fx_qI (fun v X' => ∃ n : Nat, gxE_68 p1 p2 (gxF_68 p1 p2 n) X v X')) (fun r X' h => h) ?_
  unfold gxE_68
  show fx_W _ _ _ 0 [(0, .ref 91), (1, .int p1), (2, .int p2)] [] _ _
  obtain ⟨lv1, elv1⟩ : ∃ l : aj_V, l = [(0, .ref 91), (1, .int p1), (2, .int p2)] := ⟨_, rfl⟩
  rw [← elv1]
  have hlv1_0 : aj_lv lv1 0 = some (.ref 91) := by rw [elv1]; rfl
  have hlv1_1 : aj_lv lv1 1 = some (.int p1) := by rw [elv1]; rfl
  have hlv1_2 : aj_lv lv1 2 = some (.int p2) := by rw [elv1]; rfl
  refine fx_i2 aj_d68 rfl (Nat.le_succ _) (fun _ => rfl) hlv1_0 ?_
  refine fx_i0 aj_d68 rfl (Nat.le_succ _) (fun _ => rfl) hlv1_1 ?_
  refine fx_cv aj_d68 rfl (Nat.le_succ _) rfl [_] rfl rfl (gx_69_ok p1) ?_
  rintro _ X2 ⟨w3, rfl, hR2⟩ hok2 hle2
  refine fx_qc hR2 ?_
  show fx_W _ _ _ 5 lv1 [.int w3] _ _
  refine fx_i2 aj_d68 rfl (Nat.le_succ _) (fun _ => rfl) hlv1_0 ?_
  refine fx_i0 aj_d68 rfl (Nat.le_succ _) (fun _ => rfl) hlv1_2 ?_
  refine fx_cv aj_d68 rfl (Nat.le_succ _) rfl [_] rfl rfl (gx_69_ok p2) ?_
  rintro _ X4 ⟨w5, rfl, hR4⟩ hok4 hle4
  refine fx_qc hR4 ?_
  show fx_W _ _ _ 10 lv1 [.int w5, .int w3] _ _
  refine fx_b (tgt := 15) aj_d68 rfl (Nat.le_succ _) rfl (fun q6 => ?_) (fun q6 => ?_)
  · skip
    refine fx_qi (c := (w3).toInt = (w5).toInt) (fx_t_eq q6) ?_
    show fx_W _ _ _ 15 lv1 [] _ _
    refine fx_n (pc' := 16) (lv' := lv1) (st' := [.int (Int32.ofInt 0)]) aj_d68 rfl (Nat.le_succ _) (fun _ => rfl) ?_
    refine fx_s0 (j := 3) aj_d68 rfl (Nat.le_succ _) (by decide) (fun _ => rfl) ?_
    obtain ⟨lv7, elv7⟩ : ∃ l, l = aj_set1 lv1 3 (.int (Int32.ofInt 0)) := ⟨_, rfl⟩
    rw [← elv7]
    have hlv7_0 : aj_lv lv7 0 = some (.ref 91) := fx_e1 elv7 hlv1_0 (by decide) (Or.inl (by decide))
    have hlv7_1 : aj_lv lv7 1 = some (.int p1) := fx_e1 elv7 hlv1_1 (by decide) (Or.inl (by decide))
    have hlv7_2 : aj_lv lv7 2 = some (.int p2) := fx_e1 elv7 hlv1_2 (by decide) (Or.inr rfl)
    have hlv7_3 : aj_lv lv7 3 = some (.int (Int32.ofInt 0)) := by rw [elv7]; exact ak_set1_eq _ _ _
    show fx_W _ _ _ 17 lv7 [] _ _
    exact ((gxL_68 p1 p2 N)) lv7 ((Int32.ofInt 0)) X4  hlv7_0 hlv7_1 hlv7_2 hlv7_3
  · skip
    refine fx_qe (c := (w3).toInt = (w5).toInt) (fx_f_eq q6) ?_
    show fx_W _ _ _ 13 lv1 [] _ _
    refine fx_n (pc' := 14) (lv' := lv1) (st' := [.int (Int32.ofInt 0)]) aj_d68 rfl (Nat.le_succ _) (fun _ => rfl) ?_
    exact fx_ri aj_d68 rfl ⟨_, rfl, 0, rfl, rfl⟩
def gx_71 (p1 : Int32) (p2 : Int32) (X : fx_X) (v : Unit) (X' : fx_X) : Prop :=
  ∃ (w6 : Int32) (X5 : fx_X), gx_72 p2 X w6 X5 ∧ ∃ (w8 : Int32) (X7 : fx_X), gx_43 w6 X5 w8 X7 ∧ ∃ (w10 : Unit) (X9 : fx_X), gx_44 p1 w8 X7 w10 X9 ∧ X' = X9
theorem gx_71_ok {tb : aj_T} (p1 : Int32) (p2 : Int32) {X : fx_X} : fx_K tb 71 [.ref 91, .int p1, .int p2] X (fx_Q fx_qN (fun v X' => gx_71 p1 p2 X v X')) := by
  refine fx_m aj_m71_at rfl (fun N => ?_)
  refine fx_mono (Q := fx_Q fx_qN (fun v X' => ∃ n : Nat, gx_71 p1 p2 X v X')) (fun r X' ⟨v, e, _, z⟩ => ⟨v, e, z⟩) ?_
  unfold gx_71
  show fx_W _ _ _ 0 [(0, .ref 91), (1, .int p1), (2, .int p2)] [] _ _
  obtain ⟨lv1, elv1⟩ : ∃ l : aj_V, l = [(0, .ref 91), (1, .int p1), (2, .int p2)] := ⟨_, rfl⟩
  rw [← elv1]
  have hlv1_0 : aj_lv lv1 0 = some (.ref 91) := by rw [elv1]; rfl
  have hlv1_1 : aj_lv lv1 1 = some (.int p1) := by rw [elv1]; rfl
  have hlv1_2 : aj_lv lv1 2 = some (.int p2) := by rw [elv1]; rfl
  refine fx_i2 aj_d71 rfl (Nat.le_succ _) (fun _ => rfl) hlv1_0 ?_
  refine fx_gF aj_d71 rfl (Nat.le_succ _) rfl rfl fx_in_0_1 (t := 82) rfl (fun hA2 => ?_)
  refine fx_i0 aj_d71 rfl (Nat.le_succ _) (fun _ => rfl) hlv1_1 ?_
  refine fx_i2 aj_d71 rfl (Nat.le_succ _) (fun _ => rfl) hlv1_0 ?_
  refine fx_gF aj_d71 rfl (Nat.le_succ _) rfl rfl fx_in_0_0 (t := 78) rfl (fun hA3 => ?_)
  refine fx_i2 aj_d71 rfl (Nat.le_succ _) (fun _ => rfl) hlv1_0 ?_
  refine fx_gF aj_d71 rfl (Nat.le_succ _) rfl rfl fx_in_0_1 (t := 82) rfl (fun hA4 => ?_)
  refine fx_i0 aj_d71 rfl (Nat.le_succ _) (fun _ => rfl) hlv1_2 ?_
  refine fx_cv aj_d71 rfl (Nat.le_succ _) rfl [_] rfl rfl (gx_72_ok p2) ?_
  rintro _ X5 ⟨w6, rfl, hR5⟩ hok5 hle5
  refine fx_qc hR5 ?_
  show fx_W _ _ _ 17 lv1 [.int w6, .ref 78, .int p1, .ref 82] _ _
  refine fx_cv aj_d71 rfl (Nat.le_succ _) rfl [_] rfl rfl (gx_43_ok w6) ?_
  rintro _ X7 ⟨w8, rfl, hR7⟩ hok7 hle7
  refine fx_qc hR7 ?_
  show fx_W _ _ _ 20 lv1 [.int w8, .int p1, .ref 82] _ _
  refine fx_cv aj_d71 rfl (Nat.le_succ _) rfl [_, _] rfl rfl (gx_44_ok p1 w8) ?_
  rintro _ X9 ⟨w10, rfl, hR9⟩ hok9 hle9
  refine fx_qc hR9 ?_
  show fx_W _ _ _ 23 lv1 [] _ _
  exact fx_rn aj_d71 rfl ⟨(), rfl, 0, rfl⟩
def gxT_73_25 (p1 : Int32) (P : Nat → List Int32 → List Int64 → List Nat → fx_X → Unit → fx_X → Prop) (y2 : Int32) (y3 : Int32) (y4 : Int32) (y5 : Int32) (y6 : Int32) (X : fx_X) (v : Unit) (X' : fx_X) : Prop :=
  ∃ (w12 : Int32) (X11 : fx_X), gx_69 y3 X w12 X11 ∧ (if (y6).toInt < (w12).toInt then (∃ (w19 : Int64) (X18 : fx_X), gx_70 y3 y6 X11 w19 X18 ∧ ∃ (w21 : Int32) (X20 : fx_X), gx_74 y2 w19 X18 w21 X20 ∧ (if (w21).toInt < 0 then (∃ x35 : Int32, x35 = (y5 ||| (((Int8.ofInt 7).toInt32) <<< (((Int32.ofInt 3) * y6) &&& 31))) ∧ (if (w21).toInt < 0 then (∃ x42 : Int32, x42 = (y4 + (Int32.ofInt 1)) ∧ ∃ x44 : Int32, x44 = y6 + Int32.ofInt 1 ∧ P 25 [y2, y3, x42, x35, x44] [] [] X20 v X') else (∃ x38 : Int32, x38 = (y4 + (Int32.ofInt 0)) ∧ ∃ x40 : Int32, x40 = y6 + Int32.ofInt 1 ∧ P 25 [y2, y3, x38, x35, x40] [] [] X20 v X'))) else (∃ x24 : Int32, x24 = (y5 ||| (w21 <<< (((Int32.ofInt 3) * y6) &&& 31))) ∧ (if (w21).toInt < 0 then (∃ x31 : Int32, x31 = (y4 + (Int32.ofInt 1)) ∧ ∃ x33 : Int32, x33 = y6 + Int32.ofInt 1 ∧ P 25 [y2, y3, x31, x24, x33] [] [] X20 v X') else (∃ x27 : Int32, x27 = (y4 + (Int32.ofInt 0)) ∧ ∃ x29 : Int32, x29 = y6 + Int32.ofInt 1 ∧ P 25 [y2, y3, x27, x24, x29] [] [] X20 v X'))))) else ((if 6 < (y4).toInt then (∃ (w17 : Unit) (X16 : fx_X), gx_71 (Int32.ofInt 5) p1 X11 w17 X16 ∧ X' = X16) else (P 109 [y2, y3, y5, (Int32.ofInt 0)] [] [] X11 v X'))))
def gxT_73_109 (p1 : Int32) (P : Nat → List Int32 → List Int64 → List Nat → fx_X → Unit → fx_X → Prop) (y2 : Int32) (y3 : Int32) (y5 : Int32) (y6 : Int32) (X : fx_X) (v : Unit) (X' : fx_X) : Prop :=
  ∃ (w47 : Int32) (X46 : fx_X), gx_69 y3 X w47 X46 ∧ (if (y6).toInt < (w47).toInt then ((if (((y5 >>> (((Int32.ofInt 3) * y6) &&& 31)) &&& ((Int8.ofInt 7).toInt32))).toInt = 7 then (∃ (w56 : Int64) (X55 : fx_X), gx_70 y3 y6 X46 w56 X55 ∧ ∃ (w58 : Unit) (X57 : fx_X), gx_67 y2 w56 X55 w58 X57 ∧ ∃ x59 : Int32, x59 = y6 + Int32.ofInt 1 ∧ P 109 [y2, y3, y5, x59] [] [] X57 v X') else (∃ x53 : Int32, x53 = y6 + Int32.ofInt 1 ∧ P 109 [y2, y3, y5, x53] [] [] X46 v X'))) else (∃ (w51 : Unit) (X50 : fx_X), gx_41 p1 y5 X46 w51 X50 ∧ X' = X50))
def gxE_73 (p1 : Int32) (P : Nat → List Int32 → List Int64 → List Nat → fx_X → Unit → fx_X → Prop) (X : fx_X) (v : Unit) (X' : fx_X) : Prop :=
  ∃ x2 : Int32, x2 = ((X.1 91 5) - (Int32.ofInt 1)) ∧ ∃ x4 : Int32, x4 = (X.1 91 5) ∧ ∃ (w7 : Int32) (X6 : fx_X), gx_69 x2 X w7 X6 ∧ P 25 [x2, x4, w7, (Int32.ofInt 0), (Int32.ofInt 0)] [] [] X6 v X'
noncomputable def gxF_73 (p1 : Int32) (n : Nat) : Nat → List Int32 → List Int64 → List Nat → fx_X → Unit → fx_X → Prop := Nat.rec (motive := fun _ => Nat → List Int32 → List Int64 → List Nat → fx_X → Unit → fx_X → Prop) (fun _ _ _ _ _ _ _ => False) (fun _ P l is ls rs X v X' => (l = 25 ∧ ∃ (y2 : Int32) (y3 : Int32) (y4 : Int32) (y5 : Int32) (y6 : Int32), is = [y2, y3, y4, y5, y6] ∧ ls = [] ∧ rs = [] ∧ gxT_73_25 p1 P y2 y3 y4 y5 y6 X v X') ∨ (l = 109 ∧ ∃ (y2 : Int32) (y3 : Int32) (y5 : Int32) (y6 : Int32), is = [y2, y3, y5, y6] ∧ ls = [] ∧ rs = [] ∧ gxT_73_109 p1 P y2 y3 y5 y6 X v X')) n
theorem gxI_73_25 {p1 : Int32} {n : Nat} {y2 : Int32} {y3 : Int32} {y4 : Int32} {y5 : Int32} {y6 : Int32} {X : fx_X} {v : Unit} {X' : fx_X} (h : gxT_73_25 p1 (gxF_73 p1 n) y2 y3 y4 y5 y6 X v X') : gxF_73 p1 (n + 1) 25 [y2, y3, y4, y5, y6] [] [] X v X' := Or.inl ⟨rfl, y2, y3, y4, y5, y6, rfl, rfl, rfl, h⟩
theorem gxO_73_25 {p1 : Int32} {n : Nat} {y2 : Int32} {y3 : Int32} {y4 : Int32} {y5 : Int32} {y6 : Int32} {X : fx_X} {v : Unit} {X' : fx_X} (h : gxF_73 p1 (n + 1) 25 [y2, y3, y4, y5, y6] [] [] X v X') : gxT_73_25 p1 (gxF_73 p1 n) y2 y3 y4 y5 y6 X v X' := by
  rcases h with ⟨-, _, _, _, _, _, e1, e2, e3, h⟩ | ⟨e, -⟩
  · cases e1; cases e2; cases e3; exact h
  · exact absurd e (by decide)
theorem gxI_73_109 {p1 : Int32} {n : Nat} {y2 : Int32} {y3 : Int32} {y5 : Int32} {y6 : Int32} {X : fx_X} {v : Unit} {X' : fx_X} (h : gxT_73_109 p1 (gxF_73 p1 n) y2 y3 y5 y6 X v X') : gxF_73 p1 (n + 1) 109 [y2, y3, y5, y6] [] [] X v X' := Or.inr (⟨rfl, y2, y3, y5, y6, rfl, rfl, rfl, h⟩)
theorem gxO_73_109 {p1 : Int32} {n : Nat} {y2 : Int32} {y3 : Int32} {y5 : Int32} {y6 : Int32} {X : fx_X} {v : Unit} {X' : fx_X} (h : gxF_73 p1 (n + 1) 109 [y2, y3, y5, y6] [] [] X v X') : gxT_73_109 p1 (gxF_73 p1 n) y2 y3 y5 y6 X v X' := by
  rcases h with ⟨e, -⟩ | ⟨-, _, _, _, _, e1, e2, e3, h⟩
  · exact absurd e (by decide)
  · cases e1; cases e2; cases e3; exact h
def gx_73 (p1 : Int32) (X : fx_X) (v : Unit) (X' : fx_X) : Prop := ∃ n : Nat, gxE_73 p1 (gxF_73 p1 n) X v X'
theorem gxL_73 {tb : aj_T} (p1 : Int32) : ∀ N : Nat, (∀ (lv : aj_V) (y2 : Int32) (y3 : Int32) (y4 : Int32) (y5 : Int32) (y6 : Int32) (X : fx_X), aj_lv lv 0 = some (.ref 91) → aj_lv lv 1 = some (.int p1) → aj_lv lv 2 = some (.int y2) → aj_lv lv 3 = some (.int y3) → aj_lv lv 4 = some (.int y4) → aj_lv lv 5 = some (.int y5) → aj_lv lv 6 = some (.int y6) → fx_W tb aj_m73 N 25 lv [] X (fx_Q fx_qN (fun v X' => ∃ n : Nat, gxF_73 p1 n 25 [y2, y3, y4, y5, y6] [] [] X v X'))) ∧ (∀ (lv : aj_V) (y2 : Int32) (y3 : Int32) (y5 : Int32) (y6 : Int32) (X : fx_X), aj_lv lv 0 = some (.ref 91) → aj_lv lv 1 = some (.int p1) → aj_lv lv 2 = some (.int y2) → aj_lv lv 3 = some (.int y3) → aj_lv lv 5 = some (.int y5) → aj_lv lv 6 = some (.int y6) → fx_W tb aj_m73 N 109 lv [] X (fx_Q fx_qN (fun v X' => ∃ n : Nat, gxF_73 p1 n 109 [y2, y3, y5, y6] [] [] X v X'))) := by
  intro N
  induction N with
  | zero => exact ⟨(by intros; exact fx_z), (by intros; exact fx_z)⟩
  | succ N ih =>
    refine ⟨?_, ?_⟩
    · intro lv y2 y3 y4 y5 y6 X hlv_0 hlv_1 hlv_2 hlv_3 hlv_4 hlv_5 hlv_6
      refine fx_mono (Q := fx_Q fx_qN (fun v X' => ∃ n : Nat, gxT_73_25 p1 (gxF_73 p1 n) y2 y3 y4 y5 y6 X v X')) (fun r X' ⟨v, e, n, z⟩ => ⟨v, e, n + 1, gxI_73_25 z⟩) ?_
      unfold gxT_73_25
      refine fx_i0 aj_d73 rfl (Nat.le_refl _) (fun _ => rfl) hlv_6 ?_
      refine fx_i2 aj_d73 rfl (Nat.le_succ _) (fun _ => rfl) hlv_0 ?_
      refine fx_i0 aj_d73 rfl (Nat.le_succ _) (fun _ => rfl) hlv_3 ?_
      refine fx_cv aj_d73 rfl (Nat.le_succ _) rfl [_] rfl rfl (gx_69_ok y3) ?_
      rintro _ X11 ⟨w12, rfl, hR11⟩ hok11 hle11
      refine fx_qc hR11 ?_
      show fx_W _ _ _ 32 lv [.int w12, .int y6] _ _
      refine fx_b (tgt := 92) aj_d73 rfl (Nat.le_succ _) rfl (fun q13 => ?_) (fun q13 => ?_)
      · skip
        refine fx_qe (c := (y6).toInt < (w12).toInt) (fx_t_ge q13) ?_
        show fx_W _ _ _ 92 lv [] _ _
        refine fx_i0 aj_d73 rfl (Nat.le_succ _) (fun _ => rfl) hlv_4 ?_
        refine fx_n (pc' := 96) (lv' := lv) (st' := [.int ((Int8.ofInt 6).toInt32), .int y4]) aj_d73 rfl (Nat.le_succ _) (fun _ => rfl) ?_
        refine fx_b (tgt := 106) aj_d73 rfl (Nat.le_succ _) rfl (fun q14 => ?_) (fun q14 => ?_)
        · skip
          refine fx_qe (c := 6 < (y4).toInt) (fx_t_le q14) ?_
          show fx_W _ _ _ 106 lv [] _ _
          refine fx_n (pc' := 107) (lv' := lv) (st' := [.int (Int32.ofInt 0)]) aj_d73 rfl (Nat.le_succ _) (fun _ => rfl) ?_
          refine fx_s0 (j := 6) aj_d73 rfl (Nat.le_succ _) (by decide) (fun _ => rfl) ?_
          obtain ⟨lv15, elv15⟩ : ∃ l, l = aj_set1 lv 6 (.int (Int32.ofInt 0)) := ⟨_, rfl⟩
          rw [← elv15]
          have hlv15_0 : aj_lv lv15 0 = some (.ref 91) := fx_e1 elv15 hlv_0 (by decide) (Or.inl (by decide))
          have hlv15_1 : aj_lv lv15 1 = some (.int p1) := fx_e1 elv15 hlv_1 (by decide) (Or.inl (by decide))
          have hlv15_2 : aj_lv lv15 2 = some (.int y2) := fx_e1 elv15 hlv_2 (by decide) (Or.inl (by decide))
          have hlv15_3 : aj_lv lv15 3 = some (.int y3) := fx_e1 elv15 hlv_3 (by decide) (Or.inl (by decide))
          have hlv15_5 : aj_lv lv15 5 = some (.int y5) := fx_e1 elv15 hlv_5 (by decide) (Or.inr rfl)
          have hlv15_6 : aj_lv lv15 6 = some (.int (Int32.ofInt 0)) := by rw [elv15]; exact ak_set1_eq _ _ _
          show fx_W _ _ _ 109 lv15 [] _ _
          exact (ih.2) lv15 (y2) (y3) (y5) ((Int32.ofInt 0)) X11  hlv15_0 hlv15_1 hlv15_2 hlv15_3 hlv15_5 hlv15_6
        · skip
          refine fx_qi (c := 6 < (y4).toInt) (fx_f_le q14) ?_
          show fx_W _ _ _ 99 lv [] _ _
          refine fx_i2 aj_d73 rfl (Nat.le_succ _) (fun _ => rfl) hlv_0 ?_
          refine fx_n (pc' := 101) (lv' := lv) (st' := [.int (Int32.ofInt 5), .ref 91]) aj_d73 rfl (Nat.le_succ _) (fun _ => rfl) ?_
          refine fx_i0 aj_d73 rfl (Nat.le_succ _) (fun _ => rfl) hlv_1 ?_
          refine fx_cv aj_d73 rfl (Nat.le_succ _) rfl [_, _] rfl rfl (gx_71_ok (Int32.ofInt 5) p1) ?_
          rintro _ X16 ⟨w17, rfl, hR16⟩ hok16 hle16
          refine fx_qc hR16 ?_
          show fx_W _ _ _ 105 lv [] _ _
          exact fx_rn aj_d73 rfl ⟨(), rfl, 0, rfl⟩
      · skip
        refine fx_qi (c := (y6).toInt < (w12).toInt) (fx_f_ge q13) ?_
        show fx_W _ _ _ 35 lv [] _ _
        refine fx_i2 aj_d73 rfl (Nat.le_succ _) (fun _ => rfl) hlv_0 ?_
        refine fx_i0 aj_d73 rfl (Nat.le_succ _) (fun _ => rfl) hlv_2 ?_
        refine fx_i2 aj_d73 rfl (Nat.le_succ _) (fun _ => rfl) hlv_0 ?_
        refine fx_i0 aj_d73 rfl (Nat.le_succ _) (fun _ => rfl) hlv_3 ?_
        refine fx_i0 aj_d73 rfl (Nat.le_succ _) (fun _ => rfl) hlv_6 ?_
        refine fx_cv aj_d73 rfl (Nat.le_succ _) rfl [_, _] rfl rfl (gx_70_ok y3 y6) ?_
        rintro _ X18 ⟨w19, rfl, hR18⟩ hok18 hle18
        refine fx_qc hR18 ?_
        show fx_W _ _ _ 44 lv [.long w19, .int y2, .ref 91] _ _
        refine fx_cv aj_d73 rfl (Nat.le_succ _) rfl [_, _] rfl rfl (gx_74_ok y2 w19) ?_
        rintro _ X20 ⟨w21, rfl, hR20⟩ hok20 hle20
        refine fx_qc hR20 ?_
        show fx_W _ _ _ 47 lv [.int w21] _ _
        refine fx_s0 (j := 7) aj_d73 rfl (Nat.le_succ _) (by decide) (fun _ => rfl) ?_
        obtain ⟨lv22, elv22⟩ : ∃ l, l = aj_set1 lv 7 (.int w21) := ⟨_, rfl⟩
        rw [← elv22]
        have hlv22_0 : aj_lv lv22 0 = some (.ref 91) := fx_e1 elv22 hlv_0 (by decide) (Or.inl (by decide))
        have hlv22_1 : aj_lv lv22 1 = some (.int p1) := fx_e1 elv22 hlv_1 (by decide) (Or.inl (by decide))
        have hlv22_2 : aj_lv lv22 2 = some (.int y2) := fx_e1 elv22 hlv_2 (by decide) (Or.inl (by decide))
        have hlv22_3 : aj_lv lv22 3 = some (.int y3) := fx_e1 elv22 hlv_3 (by decide) (Or.inl (by decide))
        have hlv22_4 : aj_lv lv22 4 = some (.int y4) := fx_e1 elv22 hlv_4 (by decide) (Or.inl (by decide))
        have hlv22_5 : aj_lv lv22 5 = some (.int y5) := fx_e1 elv22 hlv_5 (by decide) (Or.inl (by decide))
        have hlv22_6 : aj_lv lv22 6 = some (.int y6) := fx_e1 elv22 hlv_6 (by decide) (Or.inr rfl)
        have hlv22_7 : aj_lv lv22 7 = some (.int w21) := by rw [elv22]; exact ak_set1_eq _ _ _
        show fx_W _ _ _ 49 lv22 [] _ _
        refine fx_i0 aj_d73 rfl (Nat.le_succ _) (fun _ => rfl) hlv22_5 ?_
        refine fx_i0 aj_d73 rfl (Nat.le_succ _) (fun _ => rfl) hlv22_7 ?_
        refine fx_b0 (tgt := 61) aj_d73 rfl (Nat.le_succ _) rfl (fun q23 => ?_) (fun q23 => ?_)
        · skip
          refine fx_qe (c := (w21).toInt < 0) (fx_t_ge q23) ?_
          show fx_W _ _ _ 61 lv22 [.int y5] _ _
          refine fx_i0 aj_d73 rfl (Nat.le_succ _) (fun _ => rfl) hlv22_7 ?_
          refine fx_n (pc' := 64) (lv' := lv22) (st' := [.int (Int32.ofInt 3), .int w21, .int y5]) aj_d73 rfl (Nat.le_succ _) (fun _ => rfl) ?_
          refine fx_i0 aj_d73 rfl (Nat.le_succ _) (fun _ => rfl) hlv22_6 ?_
          refine fx_n (pc' := 67) (lv' := lv22) (st' := [.int ((Int32.ofInt 3) * y6), .int w21, .int y5]) aj_d73 rfl (Nat.le_succ _) (fun _ => rfl) ?_
          refine fx_n (pc' := 68) (lv' := lv22) (st' := [.int (w21 <<< (((Int32.ofInt 3) * y6) &&& 31)), .int y5]) aj_d73 rfl (Nat.le_succ _) (fun _ => rfl) ?_
          refine fx_n (pc' := 69) (lv' := lv22) (st' := [.int (y5 ||| (w21 <<< (((Int32.ofInt 3) * y6) &&& 31)))]) aj_d73 rfl (Nat.le_succ _) (fun _ => rfl) ?_
          refine fx_qxI (fun x24 ex24 => ?_)
          refine fx_s0 (j := 5) aj_d73 rfl (Nat.le_succ _) (by decide) (fun _ => rfl) ?_
          obtain ⟨lv25, elv25⟩ : ∃ l, l = aj_set1 lv22 5 (.int x24) := ⟨_, rfl⟩
          rw [← elv25]
          have hlv25_0 : aj_lv lv25 0 = some (.ref 91) := fx_e1 elv25 hlv22_0 (by decide) (Or.inl (by decide))
          have hlv25_1 : aj_lv lv25 1 = some (.int p1) := fx_e1 elv25 hlv22_1 (by decide) (Or.inl (by decide))
          have hlv25_2 : aj_lv lv25 2 = some (.int y2) := fx_e1 elv25 hlv22_2 (by decide) (Or.inl (by decide))
          have hlv25_3 : aj_lv lv25 3 = some (.int y3) := fx_e1 elv25 hlv22_3 (by decide) (Or.inl (by decide))
          have hlv25_4 : aj_lv lv25 4 = some (.int y4) := fx_e1 elv25 hlv22_4 (by decide) (Or.inr rfl)
          have hlv25_6 : aj_lv lv25 6 = some (.int y6) := fx_e1 elv25 hlv22_6 (by decide) (Or.inl (by decide))
          have hlv25_7 : aj_lv lv25 7 = some (.int w21) := fx_e1 elv25 hlv22_7 (by decide) (Or.inl (by decide))
          have hlv25_5 : aj_lv lv25 5 = some (.int x24) := by rw [elv25]; exact ak_set1_eq _ _ _
          show fx_W _ _ _ 71 lv25 [] _ _
          refine fx_i0 aj_d73 rfl (Nat.le_succ _) (fun _ => rfl) hlv25_4 ?_
          refine fx_i0 aj_d73 rfl (Nat.le_succ _) (fun _ => rfl) hlv25_7 ?_
          refine fx_b0 (tgt := 82) aj_d73 rfl (Nat.le_succ _) rfl (fun q26 => ?_) (fun q26 => ?_)
          · skip
            refine fx_qe (c := (w21).toInt < 0) (fx_t_ge q26) ?_
            show fx_W _ _ _ 82 lv25 [.int y4] _ _
            refine fx_n (pc' := 83) (lv' := lv25) (st' := [.int (Int32.ofInt 0), .int y4]) aj_d73 rfl (Nat.le_succ _) (fun _ => rfl) ?_
            refine fx_n (pc' := 84) (lv' := lv25) (st' := [.int (y4 + (Int32.ofInt 0))]) aj_d73 rfl (Nat.le_succ _) (fun _ => rfl) ?_
            refine fx_qxI (fun x27 ex27 => ?_)
            refine fx_s0 (j := 4) aj_d73 rfl (Nat.le_succ _) (by decide) (fun _ => rfl) ?_
            obtain ⟨lv28, elv28⟩ : ∃ l, l = aj_set1 lv25 4 (.int x27) := ⟨_, rfl⟩
            rw [← elv28]
            have hlv28_0 : aj_lv lv28 0 = some (.ref 91) := fx_e1 elv28 hlv25_0 (by decide) (Or.inl (by decide))
            have hlv28_1 : aj_lv lv28 1 = some (.int p1) := fx_e1 elv28 hlv25_1 (by decide) (Or.inl (by decide))
            have hlv28_2 : aj_lv lv28 2 = some (.int y2) := fx_e1 elv28 hlv25_2 (by decide) (Or.inl (by decide))
            have hlv28_3 : aj_lv lv28 3 = some (.int y3) := fx_e1 elv28 hlv25_3 (by decide) (Or.inr rfl)
            have hlv28_6 : aj_lv lv28 6 = some (.int y6) := fx_e1 elv28 hlv25_6 (by decide) (Or.inl (by decide))
            have hlv28_5 : aj_lv lv28 5 = some (.int x24) := fx_e1 elv28 hlv25_5 (by decide) (Or.inl (by decide))
            have hlv28_4 : aj_lv lv28 4 = some (.int x27) := by rw [elv28]; exact ak_set1_eq _ _ _
            show fx_W _ _ _ 86 lv28 [] _ _
            refine fx_incq aj_d73 rfl (Nat.le_succ _) hlv28_6 (by decide) (fun x29 ex29 => ?_)
            obtain ⟨lv30, elv30⟩ : ∃ l, l = aj_set1 lv28 6 (.int x29) := ⟨_, rfl⟩
            rw [← elv30]
            have hlv30_0 : aj_lv lv30 0 = some (.ref 91) := fx_e1 elv30 hlv28_0 (by decide) (Or.inl (by decide))
            have hlv30_1 : aj_lv lv30 1 = some (.int p1) := fx_e1 elv30 hlv28_1 (by decide) (Or.inl (by decide))
            have hlv30_2 : aj_lv lv30 2 = some (.int y2) := fx_e1 elv30 hlv28_2 (by decide) (Or.inl (by decide))
            have hlv30_3 : aj_lv lv30 3 = some (.int y3) := fx_e1 elv30 hlv28_3 (by decide) (Or.inl (by decide))
            have hlv30_5 : aj_lv lv30 5 = some (.int x24) := fx_e1 elv30 hlv28_5 (by decide) (Or.inr rfl)
            have hlv30_4 : aj_lv lv30 4 = some (.int x27) := fx_e1 elv30 hlv28_4 (by decide) (Or.inl (by decide))
            have hlv30_6 : aj_lv lv30 6 = some (.int x29) := by rw [elv30]; exact ak_set1_eq _ _ _
            show fx_W _ _ _ 89 lv30 [] _ _
            refine fx_n (pc' := 25) (lv' := lv30) (st' := []) aj_d73 rfl (Nat.le_succ _) (fun _ => rfl) ?_
            exact (ih.1) lv30 (y2) (y3) (x27) (x24) (x29) X20  hlv30_0 hlv30_1 hlv30_2 hlv30_3 hlv30_4 hlv30_5 hlv30_6
          · skip
            refine fx_qi (c := (w21).toInt < 0) (fx_f_ge q26) ?_
            show fx_W _ _ _ 78 lv25 [.int y4] _ _
            refine fx_n (pc' := 79) (lv' := lv25) (st' := [.int (Int32.ofInt 1), .int y4]) aj_d73 rfl (Nat.le_succ _) (fun _ => rfl) ?_
            refine fx_n (pc' := 83) (lv' := lv25) (st' := [.int (Int32.ofInt 1), .int y4]) aj_d73 rfl (Nat.le_succ _) (fun _ => rfl) ?_
            refine fx_n (pc' := 84) (lv' := lv25) (st' := [.int (y4 + (Int32.ofInt 1))]) aj_d73 rfl (Nat.le_succ _) (fun _ => rfl) ?_
            refine fx_qxI (fun x31 ex31 => ?_)
            refine fx_s0 (j := 4) aj_d73 rfl (Nat.le_succ _) (by decide) (fun _ => rfl) ?_
            obtain ⟨lv32, elv32⟩ : ∃ l, l = aj_set1 lv25 4 (.int x31) := ⟨_, rfl⟩
            rw [← elv32]
            have hlv32_0 : aj_lv lv32 0 = some (.ref 91) := fx_e1 elv32 hlv25_0 (by decide) (Or.inl (by decide))
            have hlv32_1 : aj_lv lv32 1 = some (.int p1) := fx_e1 elv32 hlv25_1 (by decide) (Or.inl (by decide))
            have hlv32_2 : aj_lv lv32 2 = some (.int y2) := fx_e1 elv32 hlv25_2 (by decide) (Or.inl (by decide))
            have hlv32_3 : aj_lv lv32 3 = some (.int y3) := fx_e1 elv32 hlv25_3 (by decide) (Or.inr rfl)
            have hlv32_6 : aj_lv lv32 6 = some (.int y6) := fx_e1 elv32 hlv25_6 (by decide) (Or.inl (by decide))
            have hlv32_5 : aj_lv lv32 5 = some (.int x24) := fx_e1 elv32 hlv25_5 (by decide) (Or.inl (by decide))
            have hlv32_4 : aj_lv lv32 4 = some (.int x31) := by rw [elv32]; exact ak_set1_eq _ _ _
            show fx_W _ _ _ 86 lv32 [] _ _
            refine fx_incq aj_d73 rfl (Nat.le_succ _) hlv32_6 (by decide) (fun x33 ex33 => ?_)
            obtain ⟨lv34, elv34⟩ : ∃ l, l = aj_set1 lv32 6 (.int x33) := ⟨_, rfl⟩
            rw [← elv34]
            have hlv34_0 : aj_lv lv34 0 = some (.ref 91) := fx_e1 elv34 hlv32_0 (by decide) (Or.inl (by decide))
            have hlv34_1 : aj_lv lv34 1 = some (.int p1) := fx_e1 elv34 hlv32_1 (by decide) (Or.inl (by decide))
            have hlv34_2 : aj_lv lv34 2 = some (.int y2) := fx_e1 elv34 hlv32_2 (by decide) (Or.inl (by decide))
            have hlv34_3 : aj_lv lv34 3 = some (.int y3) := fx_e1 elv34 hlv32_3 (by decide) (Or.inl (by decide))
            have hlv34_5 : aj_lv lv34 5 = some (.int x24) := fx_e1 elv34 hlv32_5 (by decide) (Or.inr rfl)
            have hlv34_4 : aj_lv lv34 4 = some (.int x31) := fx_e1 elv34 hlv32_4 (by decide) (Or.inl (by decide))
            have hlv34_6 : aj_lv lv34 6 = some (.int x33) := by rw [elv34]; exact ak_set1_eq _ _ _
            show fx_W _ _ _ 89 lv34 [] _ _
            refine fx_n (pc' := 25) (lv' := lv34) (st' := []) aj_d73 rfl (Nat.le_succ _) (fun _ => rfl) ?_
            exact (ih.1) lv34 (y2) (y3) (x31) (x24) (x33) X20  hlv34_0 hlv34_1 hlv34_2 hlv34_3 hlv34_4 hlv34_5 hlv34_6
        · skip
          refine fx_qi (c := (w21).toInt < 0) (fx_f_ge q23) ?_
          show fx_W _ _ _ 56 lv22 [.int y5] _ _
          refine fx_n (pc' := 58) (lv' := lv22) (st' := [.int ((Int8.ofInt 7).toInt32), .int y5]) aj_d73 rfl (Nat.le_succ _) (fun _ => rfl) ?_
          refine fx_n (pc' := 63) (lv' := lv22) (st' := [.int ((Int8.ofInt 7).toInt32), .int y5]) aj_d73 rfl (Nat.le_succ _) (fun _ => rfl) ?_
          refine fx_n (pc' := 64) (lv' := lv22) (st' := [.int (Int32.ofInt 3), .int ((Int8.ofInt 7).toInt32), .int y5]) aj_d73 rfl (Nat.le_succ _) (fun _ => rfl) ?_
          refine fx_i0 aj_d73 rfl (Nat.le_succ _) (fun _ => rfl) hlv22_6 ?_
          refine fx_n (pc' := 67) (lv' := lv22) (st' := [.int ((Int32.ofInt 3) * y6), .int ((Int8.ofInt 7).toInt32), .int y5]) aj_d73 rfl (Nat.le_succ _) (fun _ => rfl) ?_
          refine fx_n (pc' := 68) (lv' := lv22) (st' := [.int (((Int8.ofInt 7).toInt32) <<< (((Int32.ofInt 3) * y6) &&& 31)), .int y5]) aj_d73 rfl (Nat.le_succ _) (fun _ => rfl) ?_
          refine fx_n (pc' := 69) (lv' := lv22) (st' := [.int (y5 ||| (((Int8.ofInt 7).toInt32) <<< (((Int32.ofInt 3) * y6) &&& 31)))]) aj_d73 rfl (Nat.le_succ _) (fun _ => rfl) ?_
          refine fx_qxI (fun x35 ex35 => ?_)
          refine fx_s0 (j := 5) aj_d73 rfl (Nat.le_succ _) (by decide) (fun _ => rfl) ?_
          obtain ⟨lv36, elv36⟩ : ∃ l, l = aj_set1 lv22 5 (.int x35) := ⟨_, rfl⟩
          rw [← elv36]
          have hlv36_0 : aj_lv lv36 0 = some (.ref 91) := fx_e1 elv36 hlv22_0 (by decide) (Or.inl (by decide))
          have hlv36_1 : aj_lv lv36 1 = some (.int p1) := fx_e1 elv36 hlv22_1 (by decide) (Or.inl (by decide))
          have hlv36_2 : aj_lv lv36 2 = some (.int y2) := fx_e1 elv36 hlv22_2 (by decide) (Or.inl (by decide))
          have hlv36_3 : aj_lv lv36 3 = some (.int y3) := fx_e1 elv36 hlv22_3 (by decide) (Or.inl (by decide))
          have hlv36_4 : aj_lv lv36 4 = some (.int y4) := fx_e1 elv36 hlv22_4 (by decide) (Or.inr rfl)
          have hlv36_6 : aj_lv lv36 6 = some (.int y6) := fx_e1 elv36 hlv22_6 (by decide) (Or.inl (by decide))
          have hlv36_7 : aj_lv lv36 7 = some (.int w21) := fx_e1 elv36 hlv22_7 (by decide) (Or.inl (by decide))
          have hlv36_5 : aj_lv lv36 5 = some (.int x35) := by rw [elv36]; exact ak_set1_eq _ _ _
          show fx_W _ _ _ 71 lv36 [] _ _
          refine fx_i0 aj_d73 rfl (Nat.le_succ _) (fun _ => rfl) hlv36_4 ?_
          refine fx_i0 aj_d73 rfl (Nat.le_succ _) (fun _ => rfl) hlv36_7 ?_
          refine fx_b0 (tgt := 82) aj_d73 rfl (Nat.le_succ _) rfl (fun q37 => ?_) (fun q37 => ?_)
          · skip
            refine fx_qe (c := (w21).toInt < 0) (fx_t_ge q37) ?_
            show fx_W _ _ _ 82 lv36 [.int y4] _ _
            refine fx_n (pc' := 83) (lv' := lv36) (st' := [.int (Int32.ofInt 0), .int y4]) aj_d73 rfl (Nat.le_succ _) (fun _ => rfl) ?_
            refine fx_n (pc' := 84) (lv' := lv36) (st' := [.int (y4 + (Int32.ofInt 0))]) aj_d73 rfl (Nat.le_succ _) (fun _ => rfl) ?_
            refine fx_qxI (fun x38 ex38 => ?_)
            refine fx_s0 (j := 4) aj_d73 rfl (Nat.le_succ _) (by decide) (fun _ => rfl) ?_
            obtain ⟨lv39, elv39⟩ : ∃ l, l = aj_set1 lv36 4 (.int x38) := ⟨_, rfl⟩
            rw [← elv39]
            have hlv39_0 : aj_lv lv39 0 = some (.ref 91) := fx_e1 elv39 hlv36_0 (by decide) (Or.inl (by decide))
            have hlv39_1 : aj_lv lv39 1 = some (.int p1) := fx_e1 elv39 hlv36_1 (by decide) (Or.inl (by decide))
            have hlv39_2 : aj_lv lv39 2 = some (.int y2) := fx_e1 elv39 hlv36_2 (by decide) (Or.inl (by decide))
            have hlv39_3 : aj_lv lv39 3 = some (.int y3) := fx_e1 elv39 hlv36_3 (by decide) (Or.inr rfl)
            have hlv39_6 : aj_lv lv39 6 = some (.int y6) := fx_e1 elv39 hlv36_6 (by decide) (Or.inl (by decide))
            have hlv39_5 : aj_lv lv39 5 = some (.int x35) := fx_e1 elv39 hlv36_5 (by decide) (Or.inl (by decide))
            have hlv39_4 : aj_lv lv39 4 = some (.int x38) := by rw [elv39]; exact ak_set1_eq _ _ _
            show fx_W _ _ _ 86 lv39 [] _ _
            refine fx_incq aj_d73 rfl (Nat.le_succ _) hlv39_6 (by decide) (fun x40 ex40 => ?_)
            obtain ⟨lv41, elv41⟩ : ∃ l, l = aj_set1 lv39 6 (.int x40) := ⟨_, rfl⟩
            rw [← elv41]
            have hlv41_0 : aj_lv lv41 0 = some (.ref 91) := fx_e1 elv41 hlv39_0 (by decide) (Or.inl (by decide))
            have hlv41_1 : aj_lv lv41 1 = some (.int p1) := fx_e1 elv41 hlv39_1 (by decide) (Or.inl (by decide))
            have hlv41_2 : aj_lv lv41 2 = some (.int y2) := fx_e1 elv41 hlv39_2 (by decide) (Or.inl (by decide))
            have hlv41_3 : aj_lv lv41 3 = some (.int y3) := fx_e1 elv41 hlv39_3 (by decide) (Or.inl (by decide))
            have hlv41_5 : aj_lv lv41 5 = some (.int x35) := fx_e1 elv41 hlv39_5 (by decide) (Or.inr rfl)
            have hlv41_4 : aj_lv lv41 4 = some (.int x38) := fx_e1 elv41 hlv39_4 (by decide) (Or.inl (by decide))
            have hlv41_6 : aj_lv lv41 6 = some (.int x40) := by rw [elv41]; exact ak_set1_eq _ _ _
            show fx_W _ _ _ 89 lv41 [] _ _
            refine fx_n (pc' := 25) (lv' := lv41) (st' := []) aj_d73 rfl (Nat.le_succ _) (fun _ => rfl) ?_
            exact (ih.1) lv41 (y2) (y3) (x38) (x35) (x40) X20  hlv41_0 hlv41_1 hlv41_2 hlv41_3 hlv41_4 hlv41_5 hlv41_6
          · skip
            refine fx_qi (c := (w21).toInt < 0) (fx_f_ge q37) ?_
            show fx_W _ _ _ 78 lv36 [.int y4] _ _
            refine fx_n (pc' := 79) (lv' := lv36) (st' := [.int (Int32.ofInt 1), .int y4]) aj_d73 rfl (Nat.le_succ _) (fun _ => rfl) ?_
            refine fx_n (pc' := 83) (lv' := lv36) (st' := [.int (Int32.ofInt 1), .int y4]) aj_d73 rfl (Nat.le_succ _) (fun _ => rfl) ?_
            refine fx_n (pc' := 84) (lv' := lv36) (st' := [.int (y4 + (Int32.ofInt 1))]) aj_d73 rfl (Nat.le_succ _) (fun _ => rfl) ?_
            refine fx_qxI (fun x42 ex42 => ?_)
            refine fx_s0 (j := 4) aj_d73 rfl (Nat.le_succ _) (by decide) (fun _ => rfl) ?_
            obtain ⟨lv43, elv43⟩ : ∃ l, l = aj_set1 lv36 4 (.int x42) := ⟨_, rfl⟩
            rw [← elv43]
            have hlv43_0 : aj_lv lv43 0 = some (.ref 91) := fx_e1 elv43 hlv36_0 (by decide) (Or.inl (by decide))
            have hlv43_1 : aj_lv lv43 1 = some (.int p1) := fx_e1 elv43 hlv36_1 (by decide) (Or.inl (by decide))
            have hlv43_2 : aj_lv lv43 2 = some (.int y2) := fx_e1 elv43 hlv36_2 (by decide) (Or.inl (by decide))
            have hlv43_3 : aj_lv lv43 3 = some (.int y3) := fx_e1 elv43 hlv36_3 (by decide) (Or.inr rfl)
            have hlv43_6 : aj_lv lv43 6 = some (.int y6) := fx_e1 elv43 hlv36_6 (by decide) (Or.inl (by decide))
            have hlv43_5 : aj_lv lv43 5 = some (.int x35) := fx_e1 elv43 hlv36_5 (by decide) (Or.inl (by decide))
            have hlv43_4 : aj_lv lv43 4 = some (.int x42) := by rw [elv43]; exact ak_set1_eq _ _ _
            show fx_W _ _ _ 86 lv43 [] _ _
            refine fx_incq aj_d73 rfl (Nat.le_succ _) hlv43_6 (by decide) (fun x44 ex44 => ?_)
            obtain ⟨lv45, elv45⟩ : ∃ l, l = aj_set1 lv43 6 (.int x44) := ⟨_, rfl⟩
            rw [← elv45]
            have hlv45_0 : aj_lv lv45 0 = some (.ref 91) := fx_e1 elv45 hlv43_0 (by decide) (Or.inl (by decide))
            have hlv45_1 : aj_lv lv45 1 = some (.int p1) := fx_e1 elv45 hlv43_1 (by decide) (Or.inl (by decide))
            have hlv45_2 : aj_lv lv45 2 = some (.int y2) := fx_e1 elv45 hlv43_2 (by decide) (Or.inl (by decide))
            have hlv45_3 : aj_lv lv45 3 = some (.int y3) := fx_e1 elv45 hlv43_3 (by decide) (Or.inl (by decide))
            have hlv45_5 : aj_lv lv45 5 = some (.int x35) := fx_e1 elv45 hlv43_5 (by decide) (Or.inr rfl)
            have hlv45_4 : aj_lv lv45 4 = some (.int x42) := fx_e1 elv45 hlv43_4 (by decide) (Or.inl (by decide))
            have hlv45_6 : aj_lv lv45 6 = some (.int x44) := by rw [elv45]; exact ak_set1_eq _ _ _
            show fx_W _ _ _ 89 lv45 [] _ _
            refine fx_n (pc' := 25) (lv' := lv45) (st' := []) aj_d73 rfl (Nat.le_succ _) (fun _ => rfl) ?_
            exact (ih.1) lv45 (y2) (y3) (x42) (x35) (x44) X20  hlv45_0 hlv45_1 hlv45_2 hlv45_3 hlv45_4 hlv45_5 hlv45_6
    · intro lv y2 y3 y5 y6 X hlv_0 hlv_1 hlv_2 hlv_3 hlv_5 hlv_6
      refine fx_mono (Q := fx_Q fx_qN (fun v X' => ∃ n : Nat, gxT_73_109 p1 (gxF_73 p1 n) y2 y3 y5 y6 X v X')) (fun r X' ⟨v, e, n, z⟩ => ⟨v, e, n + 1, gxI_73_109 z⟩) ?_
      unfold gxT_73_109
      refine fx_i0 aj_d73 rfl (Nat.le_refl _) (fun _ => rfl) hlv_6 ?_
      refine fx_i2 aj_d73 rfl (Nat.le_succ _) (fun _ => rfl) hlv_0 ?_
      refine fx_i0 aj_d73 rfl (Nat.le_succ _) (fun _ => rfl) hlv_3 ?_
      refine fx_cv aj_d73 rfl (Nat.le_succ _) rfl [_] rfl rfl (gx_69_ok y3) ?_
      rintro _ X46 ⟨w47, rfl, hR46⟩ hok46 hle46
      refine fx_qc hR46 ?_
      show fx_W _ _ _ 116 lv [.int w47, .int y6] _ _
      refine fx_b (tgt := 152) aj_d73 rfl (Nat.le_succ _) rfl (fun q48 => ?_) (fun q48 => ?_)
      · skip
        refine fx_qe (c := (y6).toInt < (w47).toInt) (fx_t_ge q48) ?_
        show fx_W _ _ _ 152 lv [] _ _
        refine fx_i2 aj_d73 rfl (Nat.le_succ _) (fun _ => rfl) hlv_0 ?_
        refine fx_gF aj_d73 rfl (Nat.le_succ _) rfl rfl fx_in_0_1 (t := 82) rfl (fun hA49 => ?_)
        refine fx_i0 aj_d73 rfl (Nat.le_succ _) (fun _ => rfl) hlv_1 ?_
        refine fx_i0 aj_d73 rfl (Nat.le_succ _) (fun _ => rfl) hlv_5 ?_
        refine fx_cv aj_d73 rfl (Nat.le_succ _) rfl [_, _] rfl rfl (gx_41_ok p1 y5) ?_
        rintro _ X50 ⟨w51, rfl, hR50⟩ hok50 hle50
        refine fx_qc hR50 ?_
        show fx_W _ _ _ 162 lv [] _ _
        exact fx_rn aj_d73 rfl ⟨(), rfl, 0, rfl⟩
      · skip
        refine fx_qi (c := (y6).toInt < (w47).toInt) (fx_f_ge q48) ?_
        show fx_W _ _ _ 119 lv [] _ _
        refine fx_i0 aj_d73 rfl (Nat.le_succ _) (fun _ => rfl) hlv_5 ?_
        refine fx_n (pc' := 122) (lv' := lv) (st' := [.int (Int32.ofInt 3), .int y5]) aj_d73 rfl (Nat.le_succ _) (fun _ => rfl) ?_
        refine fx_i0 aj_d73 rfl (Nat.le_succ _) (fun _ => rfl) hlv_6 ?_
        refine fx_n (pc' := 125) (lv' := lv) (st' := [.int ((Int32.ofInt 3) * y6), .int y5]) aj_d73 rfl (Nat.le_succ _) (fun _ => rfl) ?_
        refine fx_n (pc' := 126) (lv' := lv) (st' := [.int (y5 >>> (((Int32.ofInt 3) * y6) &&& 31))]) aj_d73 rfl (Nat.le_succ _) (fun _ => rfl) ?_
        refine fx_n (pc' := 128) (lv' := lv) (st' := [.int ((Int8.ofInt 7).toInt32), .int (y5 >>> (((Int32.ofInt 3) * y6) &&& 31))]) aj_d73 rfl (Nat.le_succ _) (fun _ => rfl) ?_
        refine fx_n (pc' := 129) (lv' := lv) (st' := [.int ((y5 >>> (((Int32.ofInt 3) * y6) &&& 31)) &&& ((Int8.ofInt 7).toInt32))]) aj_d73 rfl (Nat.le_succ _) (fun _ => rfl) ?_
        refine fx_n (pc' := 131) (lv' := lv) (st' := [.int ((Int8.ofInt 7).toInt32), .int ((y5 >>> (((Int32.ofInt 3) * y6) &&& 31)) &&& ((Int8.ofInt 7).toInt32))]) aj_d73 rfl (Nat.le_succ _) (fun _ => rfl) ?_
        refine fx_b (tgt := 146) aj_d73 rfl (Nat.le_succ _) rfl (fun q52 => ?_) (fun q52 => ?_)
        · skip
          refine fx_qe (c := (((y5 >>> (((Int32.ofInt 3) * y6) &&& 31)) &&& ((Int8.ofInt 7).toInt32))).toInt = 7) (fx_t_ne q52) ?_
          show fx_W _ _ _ 146 lv [] _ _
          refine fx_incq aj_d73 rfl (Nat.le_succ _) hlv_6 (by decide) (fun x53 ex53 => ?_)
          obtain ⟨lv54, elv54⟩ : ∃ l, l = aj_set1 lv 6 (.int x53) := ⟨_, rfl⟩
          rw [← elv54]
          have hlv54_0 : aj_lv lv54 0 = some (.ref 91) := fx_e1 elv54 hlv_0 (by decide) (Or.inl (by decide))
          have hlv54_1 : aj_lv lv54 1 = some (.int p1) := fx_e1 elv54 hlv_1 (by decide) (Or.inl (by decide))
          have hlv54_2 : aj_lv lv54 2 = some (.int y2) := fx_e1 elv54 hlv_2 (by decide) (Or.inl (by decide))
          have hlv54_3 : aj_lv lv54 3 = some (.int y3) := fx_e1 elv54 hlv_3 (by decide) (Or.inl (by decide))
          have hlv54_5 : aj_lv lv54 5 = some (.int y5) := fx_e1 elv54 hlv_5 (by decide) (Or.inr rfl)
          have hlv54_6 : aj_lv lv54 6 = some (.int x53) := by rw [elv54]; exact ak_set1_eq _ _ _
          show fx_W _ _ _ 149 lv54 [] _ _
          refine fx_n (pc' := 109) (lv' := lv54) (st' := []) aj_d73 rfl (Nat.le_succ _) (fun _ => rfl) ?_
          exact (ih.2) lv54 (y2) (y3) (y5) (x53) X46  hlv54_0 hlv54_1 hlv54_2 hlv54_3 hlv54_5 hlv54_6
        · skip
          refine fx_qi (c := (((y5 >>> (((Int32.ofInt 3) * y6) &&& 31)) &&& ((Int8.ofInt 7).toInt32))).toInt = 7) (fx_f_ne q52) ?_
          show fx_W _ _ _ 134 lv [] _ _
          refine fx_i2 aj_d73 rfl (Nat.le_succ _) (fun _ => rfl) hlv_0 ?_
          refine fx_i0 aj_d73 rfl (Nat.le_succ _) (fun _ => rfl) hlv_2 ?_
          refine fx_i2 aj_d73 rfl (Nat.le_succ _) (fun _ => rfl) hlv_0 ?_
          refine fx_i0 aj_d73 rfl (Nat.le_succ _) (fun _ => rfl) hlv_3 ?_
          refine fx_i0 aj_d73 rfl (Nat.le_succ _) (fun _ => rfl) hlv_6 ?_
          refine fx_cv aj_d73 rfl (Nat.le_succ _) rfl [_, _] rfl rfl (gx_70_ok y3 y6) ?_
          rintro _ X55 ⟨w56, rfl, hR55⟩ hok55 hle55
          refine fx_qc hR55 ?_
          show fx_W _ _ _ 143 lv [.long w56, .int y2, .ref 91] _ _
          refine fx_cv aj_d73 rfl (Nat.le_succ _) rfl [_, _] rfl rfl (gx_67_ok y2 w56) ?_
          rintro _ X57 ⟨w58, rfl, hR57⟩ hok57 hle57
          refine fx_qc hR57 ?_
          show fx_W _ _ _ 146 lv [] _ _
          refine fx_incq aj_d73 rfl (Nat.le_succ _) hlv_6 (by decide) (fun x59 ex59 => ?_)
          obtain ⟨lv60, elv60⟩ : ∃ l, l = aj_set1 lv 6 (.int x59) := ⟨_, rfl⟩
          rw [← elv60]
          have hlv60_0 : aj_lv lv60 0 = some (.ref 91) := fx_e1 elv60 hlv_0 (by decide) (Or.inl (by decide))
          have hlv60_1 : aj_lv lv60 1 = some (.int p1) := fx_e1 elv60 hlv_1 (by decide) (Or.inl (by decide))
          have hlv60_2 : aj_lv lv60 2 = some (.int y2) := fx_e1 elv60 hlv_2 (by decide) (Or.inl (by decide))
          have hlv60_3 : aj_lv lv60 3 = some (.int y3) := fx_e1 elv60 hlv_3 (by decide) (Or.inl (by decide))
          have hlv60_5 : aj_lv lv60 5 = some (.int y5) := fx_e1 elv60 hlv_5 (by decide) (Or.inr rfl)
          have hlv60_6 : aj_lv lv60 6 = some (.int x59) := by rw [elv60]; exact ak_set1_eq _ _ _
          show fx_W _ _ _ 149 lv60 [] _ _
          refine fx_n (pc' := 109) (lv' := lv60) (st' := []) aj_d73 rfl (Nat.le_succ _) (fun _ => rfl) ?_
          exact (ih.2) lv60 (y2) (y3) (y5) (x59) X57  hlv60_0 hlv60_1 hlv60_2 hlv60_3 hlv60_5 hlv60_6
theorem gx_73_ok {tb : aj_T} (p1 : Int32) {X : fx_X} : fx_K tb 73 [.ref 91, .int p1] X (fx_Q fx_qN (fun v X' => gx_73 p1 X v X')) := by
  refine fx_m aj_m73_at rfl (fun N => ?_)
  refine fx_mono (Q := fx_Q fx_qN (fun v X' => ∃ n : Nat, gxE_73 p1 (gxF_73 p1 n) X v X')) (fun r X' h => h) ?_
  unfold gxE_73
  show fx_W _ _ _ 0 [(0, .ref 91), (1, .int p1)] [] _ _
  obtain ⟨lv1, elv1⟩ : ∃ l : aj_V, l = [(0, .ref 91), (1, .int p1)] := ⟨_, rfl⟩
  rw [← elv1]
  have hlv1_0 : aj_lv lv1 0 = some (.ref 91) := by rw [elv1]; rfl
  have hlv1_1 : aj_lv lv1 1 = some (.int p1) := by rw [elv1]; rfl
  refine fx_i2 aj_d73 rfl (Nat.le_succ _) (fun _ => rfl) hlv1_0 ?_
  refine fx_gI aj_d73 rfl (Nat.le_succ _) rfl rfl (Or.inl rfl) ?_
  refine fx_n (pc' := 5) (lv' := lv1) (st' := [.int (Int32.ofInt 1), .int (X.1 91 5)]) aj_d73 rfl (Nat.le_succ _) (fun _ => rfl) ?_
  refine fx_n (pc' := 6) (lv' := lv1) (st' := [.int ((X.1 91 5) - (Int32.ofInt 1))]) aj_d73 rfl (Nat.le_succ _) (fun _ => rfl) ?_
  refine fx_qxI (fun x2 ex2 => ?_)
  refine fx_s0 (j := 2) aj_d73 rfl (Nat.le_succ _) (by decide) (fun _ => rfl) ?_
  obtain ⟨lv3, elv3⟩ : ∃ l, l = aj_set1 lv1 2 (.int x2) := ⟨_, rfl⟩
  rw [← elv3]
  have hlv3_0 : aj_lv lv3 0 = some (.ref 91) := fx_e1 elv3 hlv1_0 (by decide) (Or.inl (by decide))
  have hlv3_1 : aj_lv lv3 1 = some (.int p1) := fx_e1 elv3 hlv1_1 (by decide) (Or.inr rfl)
  have hlv3_2 : aj_lv lv3 2 = some (.int x2) := by rw [elv3]; exact ak_set1_eq _ _ _
  show fx_W _ _ _ 7 lv3 [] _ _
  refine fx_i2 aj_d73 rfl (Nat.le_succ _) (fun _ => rfl) hlv3_0 ?_
  refine fx_gI aj_d73 rfl (Nat.le_succ _) rfl rfl (Or.inl rfl) ?_
  refine fx_qxI (fun x4 ex4 => ?_)
  refine fx_s0 (j := 3) aj_d73 rfl (Nat.le_succ _) (by decide) (fun _ => rfl) ?_
  obtain ⟨lv5, elv5⟩ : ∃ l, l = aj_set1 lv3 3 (.int x4) := ⟨_, rfl⟩
  rw [← elv5]
  have hlv5_0 : aj_lv lv5 0 = some (.ref 91) := fx_e1 elv5 hlv3_0 (by decide) (Or.inl (by decide))
  have hlv5_1 : aj_lv lv5 1 = some (.int p1) := fx_e1 elv5 hlv3_1 (by decide) (Or.inl (by decide))
  have hlv5_2 : aj_lv lv5 2 = some (.int x2) := fx_e1 elv5 hlv3_2 (by decide) (Or.inr rfl)
  have hlv5_3 : aj_lv lv5 3 = some (.int x4) := by rw [elv5]; exact ak_set1_eq _ _ _
  show fx_W _ _ _ 12 lv5 [] _ _
  refine fx_i2 aj_d73 rfl (Nat.le_succ _) (fun _ => rfl) hlv5_0 ?_
  refine fx_i0 aj_d73 rfl (Nat.le_succ _) (fun _ => rfl) hlv5_2 ?_
  refine fx_cv aj_d73 rfl (Nat.le_succ _) rfl [_] rfl rfl (gx_69_ok x2) ?_
  rintro _ X6 ⟨w7, rfl, hR6⟩ hok6 hle6
  refine fx_qc hR6 ?_
  show fx_W _ _ _ 17 lv5 [.int w7] _ _
  refine fx_s0 (j := 4) aj_d73 rfl (Nat.le_succ _) (by decide) (fun _ => rfl) ?_
  obtain ⟨lv8, elv8⟩ : ∃ l, l = aj_set1 lv5 4 (.int w7) := ⟨_, rfl⟩
  rw [← elv8]
  have hlv8_0 : aj_lv lv8 0 = some (.ref 91) := fx_e1 elv8 hlv5_0 (by decide) (Or.inl (by decide))
  have hlv8_1 : aj_lv lv8 1 = some (.int p1) := fx_e1 elv8 hlv5_1 (by decide) (Or.inl (by decide))
  have hlv8_2 : aj_lv lv8 2 = some (.int x2) := fx_e1 elv8 hlv5_2 (by decide) (Or.inl (by decide))
  have hlv8_3 : aj_lv lv8 3 = some (.int x4) := fx_e1 elv8 hlv5_3 (by decide) (Or.inr rfl)
  have hlv8_4 : aj_lv lv8 4 = some (.int w7) := by rw [elv8]; exact ak_set1_eq _ _ _
  show fx_W _ _ _ 19 lv8 [] _ _
  refine fx_n (pc' := 20) (lv' := lv8) (st' := [.int (Int32.ofInt 0)]) aj_d73 rfl (Nat.le_succ _) (fun _ => rfl) ?_
  refine fx_s0 (j := 5) aj_d73 rfl (Nat.le_succ _) (by decide) (fun _ => rfl) ?_
  obtain ⟨lv9, elv9⟩ : ∃ l, l = aj_set1 lv8 5 (.int (Int32.ofInt 0)) := ⟨_, rfl⟩
  rw [← elv9]
  have hlv9_0 : aj_lv lv9 0 = some (.ref 91) := fx_e1 elv9 hlv8_0 (by decide) (Or.inl (by decide))
  have hlv9_1 : aj_lv lv9 1 = some (.int p1) := fx_e1 elv9 hlv8_1 (by decide) (Or.inl (by decide))
  have hlv9_2 : aj_lv lv9 2 = some (.int x2) := fx_e1 elv9 hlv8_2 (by decide) (Or.inl (by decide))
  have hlv9_3 : aj_lv lv9 3 = some (.int x4) := fx_e1 elv9 hlv8_3 (by decide) (Or.inl (by decide))
  have hlv9_4 : aj_lv lv9 4 = some (.int w7) := fx_e1 elv9 hlv8_4 (by decide) (Or.inr rfl)
  have hlv9_5 : aj_lv lv9 5 = some (.int (Int32.ofInt 0)) := by rw [elv9]; exact ak_set1_eq _ _ _
  show fx_W _ _ _ 22 lv9 [] _ _
  refine fx_n (pc' := 23) (lv' := lv9) (st' := [.int (Int32.ofInt 0)]) aj_d73 rfl (Nat.le_succ _) (fun _ => rfl) ?_
  refine fx_s0 (j := 6) aj_d73 rfl (Nat.le_succ _) (by decide) (fun _ => rfl) ?_
  obtain ⟨lv10, elv10⟩ : ∃ l, l = aj_set1 lv9 6 (.int (Int32.ofInt 0)) := ⟨_, rfl⟩
  rw [← elv10]
  have hlv10_0 : aj_lv lv10 0 = some (.ref 91) := fx_e1 elv10 hlv9_0 (by decide) (Or.inl (by decide))
  have hlv10_1 : aj_lv lv10 1 = some (.int p1) := fx_e1 elv10 hlv9_1 (by decide) (Or.inl (by decide))
  have hlv10_2 : aj_lv lv10 2 = some (.int x2) := fx_e1 elv10 hlv9_2 (by decide) (Or.inl (by decide))
  have hlv10_3 : aj_lv lv10 3 = some (.int x4) := fx_e1 elv10 hlv9_3 (by decide) (Or.inl (by decide))
  have hlv10_4 : aj_lv lv10 4 = some (.int w7) := fx_e1 elv10 hlv9_4 (by decide) (Or.inl (by decide))
  have hlv10_5 : aj_lv lv10 5 = some (.int (Int32.ofInt 0)) := fx_e1 elv10 hlv9_5 (by decide) (Or.inr rfl)
  have hlv10_6 : aj_lv lv10 6 = some (.int (Int32.ofInt 0)) := by rw [elv10]; exact ak_set1_eq _ _ _
  show fx_W _ _ _ 25 lv10 [] _ _
  exact ((gxL_73 p1 N).1) lv10 (x2) (x4) (w7) ((Int32.ofInt 0)) ((Int32.ofInt 0)) X6  hlv10_0 hlv10_1 hlv10_2 hlv10_3 hlv10_4 hlv10_5 hlv10_6
def gxT_76_2 (p1 : Int64) (P : Nat → List Int32 → List Int64 → List Nat → fx_X → Int32 → fx_X → Prop) (y3 : Int32) (X : fx_X) (v : Int32) (X' : fx_X) : Prop :=
  (if (y3).toInt < ((X.1 91 7)).toInt then ((if (y3).toInt < 6 then ((0 ≤ (y3).toInt ∧ (y3).toInt < ((6 : Nat) : Int)) ∧ (if (X.2.1 94 (y3).toInt.toNat) = p1 then (v = (Int32.ofInt 1) ∧ X' = X) else (∃ x9 : Int32, x9 = y3 + Int32.ofInt 1 ∧ P 2 [x9] [] [] X v X'))) else (v = (Int32.ofInt 0) ∧ X' = X))) else (v = (Int32.ofInt 0) ∧ X' = X))
def gxE_76 (p1 : Int64) (P : Nat → List Int32 → List Int64 → List Nat → fx_X → Int32 → fx_X → Prop) (X : fx_X) (v : Int32) (X' : fx_X) : Prop :=
  P 2 [(Int32.ofInt 0)] [] [] X v X'
noncomputable def gxF_76 (p1 : Int64) (n : Nat) : Nat → List Int32 → List Int64 → List Nat → fx_X → Int32 → fx_X → Prop := Nat.rec (motive := fun _ => Nat → List Int32 → List Int64 → List Nat → fx_X → Int32 → fx_X → Prop) (fun _ _ _ _ _ _ _ => False) (fun _ P l is ls rs X v X' => (l = 2 ∧ ∃ (y3 : Int32), is = [y3] ∧ ls = [] ∧ rs = [] ∧ gxT_76_2 p1 P y3 X v X')) n
theorem gxI_76_2 {p1 : Int64} {n : Nat} {y3 : Int32} {X : fx_X} {v : Int32} {X' : fx_X} (h : gxT_76_2 p1 (gxF_76 p1 n) y3 X v X') : gxF_76 p1 (n + 1) 2 [y3] [] [] X v X' := ⟨rfl, y3, rfl, rfl, rfl, h⟩
theorem gxO_76_2 {p1 : Int64} {n : Nat} {y3 : Int32} {X : fx_X} {v : Int32} {X' : fx_X} (h : gxF_76 p1 (n + 1) 2 [y3] [] [] X v X') : gxT_76_2 p1 (gxF_76 p1 n) y3 X v X' := by
  rcases h with ⟨-, _, e1, e2, e3, h⟩
  · cases e1; cases e2; cases e3; exact h
def gx_76 (p1 : Int64) (X : fx_X) (v : Int32) (X' : fx_X) : Prop := ∃ n : Nat, gxE_76 p1 (gxF_76 p1 n) X v X'
theorem gxL_76 {tb : aj_T} (p1 : Int64) : ∀ N : Nat, (∀ (lv : aj_V) (y3 : Int32) (X : fx_X), aj_lv lv 0 = some (.ref 91) → aj_lv lv 1 = some (.long p1) → aj_lv lv 3 = some (.int y3) → fx_W tb aj_m76 N 2 lv [] X (fx_Q fx_qI (fun v X' => ∃ n : Nat, gxF_76 p1 n 2 [y3] [] [] X v X'))) := by
  intro N
  induction N with
  | zero => exact (by intros; exact fx_z)
  | succ N ih =>
    skip
    · intro lv y3 X hlv_0 hlv_1 hlv_3
      refine fx_mono (Q := fx_Q fx_qI (fun v X' => ∃ n : Nat, gxT_76_2 p1 (gxF_76 p1 n) y3 X v X')) (fun r X' ⟨v, e, n, z⟩ => ⟨v, e, n + 1, gxI_76_2 z⟩) ?_
      unfold gxT_76_2
      refine fx_i0 aj_d76 rfl (Nat.le_refl _) (fun _ => rfl) hlv_3 ?_
      refine fx_i2 aj_d76 rfl (Nat.le_succ _) (fun _ => rfl) hlv_0 ?_
      refine fx_gI aj_d76 rfl (Nat.le_succ _) rfl rfl (Or.inl rfl) ?_
      refine fx_b (tgt := 38) aj_d76 rfl (Nat.le_succ _) rfl (fun q3 => ?_) (fun q3 => ?_)
      · skip
        refine fx_qe (c := (y3).toInt < ((X.1 91 7)).toInt) (fx_t_ge q3) ?_
        show fx_W _ _ _ 38 lv [] _ _
        refine fx_n (pc' := 39) (lv' := lv) (st' := [.int (Int32.ofInt 0)]) aj_d76 rfl (Nat.le_succ _) (fun _ => rfl) ?_
        exact fx_ri aj_d76 rfl ⟨_, rfl, 0, rfl, rfl⟩
      · skip
        refine fx_qi (c := (y3).toInt < ((X.1 91 7)).toInt) (fx_f_ge q3) ?_
        show fx_W _ _ _ 10 lv [] _ _
        refine fx_i0 aj_d76 rfl (Nat.le_succ _) (fun _ => rfl) hlv_3 ?_
        refine fx_i2 aj_d76 rfl (Nat.le_succ _) (fun _ => rfl) hlv_0 ?_
        refine fx_gF aj_d76 rfl (Nat.le_succ _) rfl rfl fx_in_0_6 (t := 94) rfl (fun hA4 => ?_)
        refine fx_al aj_d76 rfl (Nat.le_succ _) ?_
        rw [(hA4 : X.2.2.2.1 94 = (1, 6))]
        show fx_W _ _ _ 16 lv [.int (Int32.ofNat 6), .int y3] _ _
        refine fx_b (tgt := 38) aj_d76 rfl (Nat.le_succ _) rfl (fun q5 => ?_) (fun q5 => ?_)
        · skip
          refine fx_qe (c := (y3).toInt < 6) (fx_t_ge q5) ?_
          show fx_W _ _ _ 38 lv [] _ _
          refine fx_n (pc' := 39) (lv' := lv) (st' := [.int (Int32.ofInt 0)]) aj_d76 rfl (Nat.le_succ _) (fun _ => rfl) ?_
          exact fx_ri aj_d76 rfl ⟨_, rfl, 0, rfl, rfl⟩
        · skip
          refine fx_qi (c := (y3).toInt < 6) (fx_f_ge q5) ?_
          show fx_W _ _ _ 19 lv [] _ _
          refine fx_i2 aj_d76 rfl (Nat.le_succ _) (fun _ => rfl) hlv_0 ?_
          refine fx_gF aj_d76 rfl (Nat.le_succ _) rfl rfl fx_in_0_6 (t := 94) rfl (fun hA6 => ?_)
          refine fx_i0 aj_d76 rfl (Nat.le_succ _) (fun _ => rfl) hlv_3 ?_
          refine fx_ldL aj_d76 rfl (Nat.le_succ _) (fun g70 g71 => ?_)
          show fx_W _ _ _ 25 lv [.long (X.2.1 94 (y3).toInt.toNat)] _ _
          refine fx_qa (c := 0 ≤ (y3).toInt ∧ (y3).toInt < ((6 : Nat) : Int)) ⟨g70, fx_lnk g71 hA6⟩ ?_
          refine fx_i1 aj_d76 rfl (Nat.le_succ _) (fun _ => rfl) hlv_1 ?_
          refine fx_n (pc' := 27) (lv' := lv) (st' := [.int (lg_cmp (X.2.1 94 (y3).toInt.toNat) p1)]) aj_d76 rfl (Nat.le_succ _) (fun _ => rfl) ?_
          refine fx_b0 (tgt := 32) aj_d76 rfl (Nat.le_succ _) rfl (fun q8 => ?_) (fun q8 => ?_)
          · skip
            refine fx_qe (c := (X.2.1 94 (y3).toInt.toNat) = p1) (fun z => (fx_t_ne q8) (fx_lc.mpr z)) ?_
            show fx_W _ _ _ 32 lv [] _ _
            refine fx_incq aj_d76 rfl (Nat.le_succ _) hlv_3 (by decide) (fun x9 ex9 => ?_)
            obtain ⟨lv10, elv10⟩ : ∃ l, l = aj_set1 lv 3 (.int x9) := ⟨_, rfl⟩
            rw [← elv10]
            have hlv10_0 : aj_lv lv10 0 = some (.ref 91) := fx_e1 elv10 hlv_0 (by decide) (Or.inl (by decide))
            have hlv10_1 : aj_lv lv10 1 = some (.long p1) := fx_e1 elv10 hlv_1 (by decide) (Or.inl (by decide))
            have hlv10_3 : aj_lv lv10 3 = some (.int x9) := by rw [elv10]; exact ak_set1_eq _ _ _
            show fx_W _ _ _ 35 lv10 [] _ _
            refine fx_n (pc' := 2) (lv' := lv10) (st' := []) aj_d76 rfl (Nat.le_succ _) (fun _ => rfl) ?_
            exact (ih) lv10 (x9) X  hlv10_0 hlv10_1 hlv10_3
          · skip
            refine fx_qi (c := (X.2.1 94 (y3).toInt.toNat) = p1) (fx_lc.mp (fx_f_ne q8)) ?_
            show fx_W _ _ _ 30 lv [] _ _
            refine fx_n (pc' := 31) (lv' := lv) (st' := [.int (Int32.ofInt 1)]) aj_d76 rfl (Nat.le_succ _) (fun _ => rfl) ?_
            exact fx_ri aj_d76 rfl ⟨_, rfl, 0, rfl, rfl⟩
theorem gx_76_ok {tb : aj_T} (p1 : Int64) {X : fx_X} : fx_K tb 76 [.ref 91, .long p1] X (fx_Q fx_qI (fun v X' => gx_76 p1 X v X')) := by
  refine fx_m aj_m76_at rfl (fun N => ?_)
  refine fx_mono (Q := fx_Q fx_qI (fun v X' => ∃ n : Nat, gxE_76 p1 (gxF_76 p1 n) X v X')) (fun r X' h => h) ?_
  unfold gxE_76
  show fx_W _ _ _ 0 [(0, .ref 91), (1, .long p1)] [] _ _
  obtain ⟨lv1, elv1⟩ : ∃ l : aj_V, l = [(0, .ref 91), (1, .long p1)] := ⟨_, rfl⟩
  rw [← elv1]
  have hlv1_0 : aj_lv lv1 0 = some (.ref 91) := by rw [elv1]; rfl
  have hlv1_1 : aj_lv lv1 1 = some (.long p1) := by rw [elv1]; rfl
  refine fx_n (pc' := 1) (lv' := lv1) (st' := [.int (Int32.ofInt 0)]) aj_d76 rfl (Nat.le_succ _) (fun _ => rfl) ?_
  refine fx_s0 (j := 3) aj_d76 rfl (Nat.le_succ _) (by decide) (fun _ => rfl) ?_
  obtain ⟨lv2, elv2⟩ : ∃ l, l = aj_set1 lv1 3 (.int (Int32.ofInt 0)) := ⟨_, rfl⟩
  rw [← elv2]
  have hlv2_0 : aj_lv lv2 0 = some (.ref 91) := fx_e1 elv2 hlv1_0 (by decide) (Or.inl (by decide))
  have hlv2_1 : aj_lv lv2 1 = some (.long p1) := fx_e1 elv2 hlv1_1 (by decide) (Or.inl (by decide))
  have hlv2_3 : aj_lv lv2 3 = some (.int (Int32.ofInt 0)) := by rw [elv2]; exact ak_set1_eq _ _ _
  show fx_W _ _ _ 2 lv2 [] _ _
  exact ((gxL_76 p1 N)) lv2 ((Int32.ofInt 0)) X  hlv2_0 hlv2_1 hlv2_3
