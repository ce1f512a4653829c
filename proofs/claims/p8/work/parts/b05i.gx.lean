/-! METHODS LIFTED (printed by wip/p7/gx.py, parts.py) -/
def gx_239 (X : fx_X) (v : Int32) (X' : fx_X) : Prop :=
  (if ((X.1 117 26)).toInt = 3 then ((if ((X.1 117 29)).toInt = 61 then (∃ X6 : fx_X, X6 = (fx_wI X 117 40 (X.1 117 29)) ∧ ∃ (w8 : Int32) (X7 : fx_X), gx_214 X6 w8 X7 ∧ v = w8 ∧ X' = X7) else ((if ((X.1 117 29)).toInt = 257 then (∃ X10 : fx_X, X10 = (fx_wI X 117 40 (X.1 117 29)) ∧ ∃ (w12 : Int32) (X11 : fx_X), gx_214 X10 w12 X11 ∧ v = w12 ∧ X' = X11) else ((if ((X.1 117 29)).toInt = 60 then (∃ X14 : fx_X, X14 = (fx_wI X 117 40 (X.1 117 29)) ∧ ∃ (w16 : Int32) (X15 : fx_X), gx_214 X14 w16 X15 ∧ v = w16 ∧ X' = X15) else ((if ((X.1 117 29)).toInt = 258 then (∃ X18 : fx_X, X18 = (fx_wI X 117 40 (X.1 117 29)) ∧ ∃ (w20 : Int32) (X19 : fx_X), gx_214 X18 w20 X19 ∧ v = w20 ∧ X' = X19) else (∃ (w22 : Int32) (X21 : fx_X), gx_215 (Int32.ofInt 1) (X.1 117 27) X w22 X21 ∧ v = w22 ∧ X' = X21))))))))) else (∃ (w4 : Int32) (X3 : fx_X), gx_215 (Int32.ofInt 1) (X.1 117 27) X w4 X3 ∧ v = w4 ∧ X' = X3))
theorem gx_239_ok {tb : aj_T} {X : fx_X} : fx_K tb 239 [.ref 117] X (fx_Q fx_qI (fun v X' => gx_239 X v X')) := by
  refine fx_m aj_m239_at rfl (fun N => ?_)
  refine fx_mono (Q := fx_Q fx_qI (fun v X' => ∃ n : Nat, gx_239 X v X')) (fun r X' ⟨v, e, _, z⟩ => ⟨v, e, z⟩) ?_
  unfold gx_239
  show fx_W _ _ _ 0 [(0, .ref 117)] [] _ _
  obtain ⟨lv1, elv1⟩ : ∃ l : aj_V, l = [(0, .ref 117)] := ⟨_, rfl⟩
  rw [← elv1]
  have hlv1_0 : aj_lv lv1 0 = some (.ref 117) := by rw [elv1]; rfl
  refine fx_i2 aj_d239 rfl (Nat.le_succ _) (fun _ => rfl) hlv1_0 ?_
  refine fx_gI aj_d239 rfl (Nat.le_succ _) rfl rfl (Or.inl rfl) ?_
  refine fx_n (pc' := 5) (lv' := lv1) (st' := [.int (Int32.ofInt 3), .int (X.1 117 26)]) aj_d239 rfl (Nat.le_succ _) (fun _ => rfl) ?_
  refine fx_b (tgt := 46) aj_d239 rfl (Nat.le_succ _) rfl (fun q2 => ?_) (fun q2 => ?_)
  · skip
    refine fx_qe (c := ((X.1 117 26)).toInt = 3) (fx_t_ne q2) ?_
    show fx_W _ _ _ 46 lv1 [] _ _
    refine fx_i2 aj_d239 rfl (Nat.le_succ _) (fun _ => rfl) hlv1_0 ?_
    refine fx_n (pc' := 48) (lv' := lv1) (st' := [.int (Int32.ofInt 1), .ref 117]) aj_d239 rfl (Nat.le_succ _) (fun _ => rfl) ?_
    refine fx_i2 aj_d239 rfl (Nat.le_succ _) (fun _ => rfl) hlv1_0 ?_
    refine fx_gI aj_d239 rfl (Nat.le_succ _) rfl rfl (Or.inl rfl) ?_
    refine fx_cv aj_d239 rfl (Nat.le_succ _) rfl [_, _] rfl rfl (gx_215_ok (Int32.ofInt 1) (X.1 117 27)) ?_
    rintro _ X3 ⟨w4, rfl, hR3⟩ hok3 hle3
    refine fx_qc hR3 ?_
    show fx_W _ _ _ 55 lv1 [.int w4] _ _
    exact fx_ri aj_d239 rfl ⟨_, rfl, 0, rfl, rfl⟩
  · skip
    refine fx_qi (c := ((X.1 117 26)).toInt = 3) (fx_f_ne q2) ?_
    show fx_W _ _ _ 8 lv1 [] _ _
    refine fx_i2 aj_d239 rfl (Nat.le_succ _) (fun _ => rfl) hlv1_0 ?_
    refine fx_gI aj_d239 rfl (Nat.le_succ _) rfl rfl (Or.inl rfl) ?_
    refine fx_n (pc' := 14) (lv' := lv1) (st' := [.int ((Int8.ofInt 61).toInt32), .int (X.1 117 29)]) aj_d239 rfl (Nat.le_succ _) (fun _ => rfl) ?_
    refine fx_b (tgt := 56) aj_d239 rfl (Nat.le_succ _) rfl (fun q5 => ?_) (fun q5 => ?_)
    · skip
      refine fx_qi (c := ((X.1 117 29)).toInt = 61) (fx_t_eq q5) ?_
      show fx_W _ _ _ 56 lv1 [] _ _
      refine fx_i2 aj_d239 rfl (Nat.le_succ _) (fun _ => rfl) hlv1_0 ?_
      refine fx_i2 aj_d239 rfl (Nat.le_succ _) (fun _ => rfl) hlv1_0 ?_
      refine fx_gI aj_d239 rfl (Nat.le_succ _) rfl rfl (Or.inl rfl) ?_
      refine fx_pI aj_d239 rfl (Nat.le_succ _) rfl rfl (Or.inl rfl) fx_no_11_40 (by decide) ?_
      refine fx_qX (fun X6 eX6 => ?_)
      show fx_W _ _ _ 64 lv1 [] _ _
      refine fx_i2 aj_d239 rfl (Nat.le_succ _) (fun _ => rfl) hlv1_0 ?_
      refine fx_cv aj_d239 rfl (Nat.le_succ _) rfl [] rfl rfl (gx_214_ok) ?_
      rintro _ X7 ⟨w8, rfl, hR7⟩ hok7 hle7
      refine fx_qc hR7 ?_
      show fx_W _ _ _ 68 lv1 [.int w8] _ _
      exact fx_ri aj_d239 rfl ⟨_, rfl, 0, rfl, rfl⟩
    · skip
      refine fx_qe (c := ((X.1 117 29)).toInt = 61) (fx_f_eq q5) ?_
      show fx_W _ _ _ 17 lv1 [] _ _
      refine fx_i2 aj_d239 rfl (Nat.le_succ _) (fun _ => rfl) hlv1_0 ?_
      refine fx_gI aj_d239 rfl (Nat.le_succ _) rfl rfl (Or.inl rfl) ?_
      refine fx_n (pc' := 24) (lv' := lv1) (st' := [.int ((Int16.ofInt 257).toInt32), .int (X.1 117 29)]) aj_d239 rfl (Nat.le_succ _) (fun _ => rfl) ?_
      refine fx_b (tgt := 56) aj_d239 rfl (Nat.le_succ _) rfl (fun q9 => ?_) (fun q9 => ?_)
      · skip
        refine fx_qi (c := ((X.1 117 29)).toInt = 257) (fx_t_eq q9) ?_
        show fx_W _ _ _ 56 lv1 [] _ _
        refine fx_i2 aj_d239 rfl (Nat.le_succ _) (fun _ => rfl) hlv1_0 ?_
        refine fx_i2 aj_d239 rfl (Nat.le_succ _) (fun _ => rfl) hlv1_0 ?_
        refine fx_gI aj_d239 rfl (Nat.le_succ _) rfl rfl (Or.inl rfl) ?_
        refine fx_pI aj_d239 rfl (Nat.le_succ _) rfl rfl (Or.inl rfl) fx_no_11_40 (by decide) ?_
        refine fx_qX (fun X10 eX10 => ?_)
        show fx_W _ _ _ 64 lv1 [] _ _
        refine fx_i2 aj_d239 rfl (Nat.le_succ _) (fun _ => rfl) hlv1_0 ?_
        refine fx_cv aj_d239 rfl (Nat.le_succ _) rfl [] rfl rfl (gx_214_ok) ?_
        rintro _ X11 ⟨w12, rfl, hR11⟩ hok11 hle11
        refine fx_qc hR11 ?_
        show fx_W _ _ _ 68 lv1 [.int w12] _ _
        exact fx_ri aj_d239 rfl ⟨_, rfl, 0, rfl, rfl⟩
      · skip
        refine fx_qe (c := ((X.1 117 29)).toInt = 257) (fx_f_eq q9) ?_
        show fx_W _ _ _ 27 lv1 [] _ _
        refine fx_i2 aj_d239 rfl (Nat.le_succ _) (fun _ => rfl) hlv1_0 ?_
        refine fx_gI aj_d239 rfl (Nat.le_succ _) rfl rfl (Or.inl rfl) ?_
        refine fx_n (pc' := 33) (lv' := lv1) (st' := [.int ((Int8.ofInt 60).toInt32), .int (X.1 117 29)]) aj_d239 rfl (Nat.le_succ _) (fun _ => rfl) ?_
        refine fx_b (tgt := 56) aj_d239 rfl (Nat.le_succ _) rfl (fun q13 => ?_) (fun q13 => ?_)
        · skip
          refine fx_qi (c := ((X.1 117 29)).toInt = 60) (fx_t_eq q13) ?_
          show fx_W _ _ _ 56 lv1 [] _ _
          refine fx_i2 aj_d239 rfl (Nat.le_succ _) (fun _ => rfl) hlv1_0 ?_
          refine fx_i2 aj_d239 rfl (Nat.le_succ _) (fun _ => rfl) hlv1_0 ?_
          refine fx_gI aj_d239 rfl (Nat.le_succ _) rfl rfl (Or.inl rfl) ?_
          refine fx_pI aj_d239 rfl (Nat.le_succ _) rfl rfl (Or.inl rfl) fx_no_11_40 (by decide) ?_
          refine fx_qX (fun X14 eX14 => ?_)
          show fx_W _ _ _ 64 lv1 [] _ _
          refine fx_i2 aj_d239 rfl (Nat.le_succ _) (fun _ => rfl) hlv1_0 ?_
          refine fx_cv aj_d239 rfl (Nat.le_succ _) rfl [] rfl rfl (gx_214_ok) ?_
          rintro _ X15 ⟨w16, rfl, hR15⟩ hok15 hle15
          refine fx_qc hR15 ?_
          show fx_W _ _ _ 68 lv1 [.int w16] _ _
          exact fx_ri aj_d239 rfl ⟨_, rfl, 0, rfl, rfl⟩
        · skip
          refine fx_qe (c := ((X.1 117 29)).toInt = 60) (fx_f_eq q13) ?_
          show fx_W _ _ _ 36 lv1 [] _ _
          refine fx_i2 aj_d239 rfl (Nat.le_succ _) (fun _ => rfl) hlv1_0 ?_
          refine fx_gI aj_d239 rfl (Nat.le_succ _) rfl rfl (Or.inl rfl) ?_
          refine fx_n (pc' := 43) (lv' := lv1) (st' := [.int ((Int16.ofInt 258).toInt32), .int (X.1 117 29)]) aj_d239 rfl (Nat.le_succ _) (fun _ => rfl) ?_
          refine fx_b (tgt := 56) aj_d239 rfl (Nat.le_succ _) rfl (fun q17 => ?_) (fun q17 => ?_)
          · skip
            refine fx_qi (c := ((X.1 117 29)).toInt = 258) (fx_t_eq q17) ?_
            show fx_W _ _ _ 56 lv1 [] _ _
            refine fx_i2 aj_d239 rfl (Nat.le_succ _) (fun _ => rfl) hlv1_0 ?_
            refine fx_i2 aj_d239 rfl (Nat.le_succ _) (fun _ => rfl) hlv1_0 ?_
            refine fx_gI aj_d239 rfl (Nat.le_succ _) rfl rfl (Or.inl rfl) ?_
            refine fx_pI aj_d239 rfl (Nat.le_succ _) rfl rfl (Or.inl rfl) fx_no_11_40 (by decide) ?_
            refine fx_qX (fun X18 eX18 => ?_)
            show fx_W _ _ _ 64 lv1 [] _ _
            refine fx_i2 aj_d239 rfl (Nat.le_succ _) (fun _ => rfl) hlv1_0 ?_
            refine fx_cv aj_d239 rfl (Nat.le_succ _) rfl [] rfl rfl (gx_214_ok) ?_
            rintro _ X19 ⟨w20, rfl, hR19⟩ hok19 hle19
            refine fx_qc hR19 ?_
            show fx_W _ _ _ 68 lv1 [.int w20] _ _
            exact fx_ri aj_d239 rfl ⟨_, rfl, 0, rfl, rfl⟩
          · skip
            refine fx_qe (c := ((X.1 117 29)).toInt = 258) (fx_f_eq q17) ?_
            show fx_W _ _ _ 46 lv1 [] _ _
            refine fx_i2 aj_d239 rfl (Nat.le_succ _) (fun _ => rfl) hlv1_0 ?_
            refine fx_n (pc' := 48) (lv' := lv1) (st' := [.int (Int32.ofInt 1), .ref 117]) aj_d239 rfl (Nat.le_succ _) (fun _ => rfl) ?_
            refine fx_i2 aj_d239 rfl (Nat.le_succ _) (fun _ => rfl) hlv1_0 ?_
            refine fx_gI aj_d239 rfl (Nat.le_succ _) rfl rfl (Or.inl rfl) ?_
            refine fx_cv aj_d239 rfl (Nat.le_succ _) rfl [_, _] rfl rfl (gx_215_ok (Int32.ofInt 1) (X.1 117 27)) ?_
            rintro _ X21 ⟨w22, rfl, hR21⟩ hok21 hle21
            refine fx_qc hR21 ?_
            show fx_W _ _ _ 55 lv1 [.int w22] _ _
            exact fx_ri aj_d239 rfl ⟨_, rfl, 0, rfl, rfl⟩
def gx_257 (p1 : Int32) (p2 : Int32) (p3 : Int32) (p4 : Int32) (p5 : Int32) (X : fx_X) (v : Int32) (X' : fx_X) : Prop :=
  (if (p3).toInt = 2 then (∃ (w6 : Int32) (X5 : fx_X), gx_258 p1 p2 p4 p5 X w6 X5 ∧ v = w6 ∧ X' = X5) else (∃ (w4 : Int32) (X3 : fx_X), gx_240 (X.1 117 37) p3 p4 p5 X w4 X3 ∧ v = w4 ∧ X' = X3))
theorem gx_257_ok {tb : aj_T} (p1 : Int32) (p2 : Int32) (p3 : Int32) (p4 : Int32) (p5 : Int32) {X : fx_X} : fx_K tb 257 [.ref 117, .int p1, .int p2, .int p3, .int p4, .int p5] X (fx_Q fx_qI (fun v X' => gx_257 p1 p2 p3 p4 p5 X v X')) := by
  refine fx_m aj_m257_at rfl (fun N => ?_)
  refine fx_mono (Q := fx_Q fx_qI (fun v X' => ∃ n : Nat, gx_257 p1 p2 p3 p4 p5 X v X')) (fun r X' ⟨v, e, _, z⟩ => ⟨v, e, z⟩) ?_
  unfold gx_257
  show fx_W _ _ _ 0 [(0, .ref 117), (1, .int p1), (2, .int p2), (3, .int p3), (4, .int p4), (5, .int p5)] [] _ _
  obtain ⟨lv1, elv1⟩ : ∃ l : aj_V, l = [(0, .ref 117), (1, .int p1), (2, .int p2), (3, .int p3), (4, .int p4), (5, .int p5)] := ⟨_, rfl⟩
  rw [← elv1]
  have hlv1_0 : aj_lv lv1 0 = some (.ref 117) := by rw [elv1]; rfl
  have hlv1_1 : aj_lv lv1 1 = some (.int p1) := by rw [elv1]; rfl
  have hlv1_2 : aj_lv lv1 2 = some (.int p2) := by rw [elv1]; rfl
  have hlv1_3 : aj_lv lv1 3 = some (.int p3) := by rw [elv1]; rfl
  have hlv1_4 : aj_lv lv1 4 = some (.int p4) := by rw [elv1]; rfl
  have hlv1_5 : aj_lv lv1 5 = some (.int p5) := by rw [elv1]; rfl
  refine fx_i0 aj_d257 rfl (Nat.le_succ _) (fun _ => rfl) hlv1_3 ?_
  refine fx_n (pc' := 2) (lv' := lv1) (st' := [.int (Int32.ofInt 2), .int p3]) aj_d257 rfl (Nat.le_succ _) (fun _ => rfl) ?_
  refine fx_b (tgt := 18) aj_d257 rfl (Nat.le_succ _) rfl (fun q2 => ?_) (fun q2 => ?_)
  · skip
    refine fx_qe (c := (p3).toInt = 2) (fx_t_ne q2) ?_
    show fx_W _ _ _ 18 lv1 [] _ _
    refine fx_i2 aj_d257 rfl (Nat.le_succ _) (fun _ => rfl) hlv1_0 ?_
    refine fx_i2 aj_d257 rfl (Nat.le_succ _) (fun _ => rfl) hlv1_0 ?_
    refine fx_gI aj_d257 rfl (Nat.le_succ _) rfl rfl (Or.inl rfl) ?_
    refine fx_i0 aj_d257 rfl (Nat.le_succ _) (fun _ => rfl) hlv1_3 ?_
    refine fx_i0 aj_d257 rfl (Nat.le_succ _) (fun _ => rfl) hlv1_4 ?_
    refine fx_i0 aj_d257 rfl (Nat.le_succ _) (fun _ => rfl) hlv1_5 ?_
    refine fx_cv aj_d257 rfl (Nat.le_succ _) rfl [_, _, _, _] rfl rfl (gx_240_ok (X.1 117 37) p3 p4 p5) ?_
    rintro _ X3 ⟨w4, rfl, hR3⟩ hok3 hle3
    refine fx_qc hR3 ?_
    show fx_W _ _ _ 31 lv1 [.int w4] _ _
    exact fx_ri aj_d257 rfl ⟨_, rfl, 0, rfl, rfl⟩
  · skip
    refine fx_qi (c := (p3).toInt = 2) (fx_f_ne q2) ?_
    show fx_W _ _ _ 5 lv1 [] _ _
    refine fx_i2 aj_d257 rfl (Nat.le_succ _) (fun _ => rfl) hlv1_0 ?_
    refine fx_i0 aj_d257 rfl (Nat.le_succ _) (fun _ => rfl) hlv1_1 ?_
    refine fx_i0 aj_d257 rfl (Nat.le_succ _) (fun _ => rfl) hlv1_2 ?_
    refine fx_i0 aj_d257 rfl (Nat.le_succ _) (fun _ => rfl) hlv1_4 ?_
    refine fx_i0 aj_d257 rfl (Nat.le_succ _) (fun _ => rfl) hlv1_5 ?_
    refine fx_cv aj_d257 rfl (Nat.le_succ _) rfl [_, _, _, _] rfl rfl (gx_258_ok p1 p2 p4 p5) ?_
    rintro _ X5 ⟨w6, rfl, hR5⟩ hok5 hle5
    refine fx_qc hR5 ?_
    show fx_W _ _ _ 15 lv1 [.int w6] _ _
    refine fx_n (pc' := 31) (lv' := lv1) (st' := [.int w6]) aj_d257 rfl (Nat.le_succ _) (fun _ => rfl) ?_
    exact fx_ri aj_d257 rfl ⟨_, rfl, 0, rfl, rfl⟩
def gx_242 (p0 : Int32) (p1 : Int32) (p2 : Int32) (X : fx_X) (v : Int32) (X' : fx_X) : Prop :=
  (if (p0).toInt = 61 then ((if (p1).toInt = (p2).toInt then (v = (Int32.ofInt 1) ∧ X' = X) else (v = (Int32.ofInt 0) ∧ X' = X))) else ((if (p0).toInt = 257 then ((if (p1).toInt = (p2).toInt then (v = (Int32.ofInt 0) ∧ X' = X) else (v = (Int32.ofInt 1) ∧ X' = X))) else ((if (p0).toInt = 60 then ((if (p1).toInt < (p2).toInt then (v = (Int32.ofInt 1) ∧ X' = X) else (v = (Int32.ofInt 0) ∧ X' = X))) else ((if (p2).toInt < (p1).toInt then (v = (Int32.ofInt 0) ∧ X' = X) else (v = (Int32.ofInt 1) ∧ X' = X))))))))
theorem gx_242_ok {tb : aj_T} (p0 : Int32) (p1 : Int32) (p2 : Int32) {X : fx_X} : fx_K tb 242 [.int p0, .int p1, .int p2] X (fx_Q fx_qI (fun v X' => gx_242 p0 p1 p2 X v X')) := by
  refine fx_m aj_m242_at rfl (fun N => ?_)
  refine fx_mono (Q := fx_Q fx_qI (fun v X' => ∃ n : Nat, gx_242 p0 p1 p2 X v X')) (fun r X' ⟨v, e, _, z⟩ => ⟨v, e, z⟩) ?_
  unfold gx_242
  show fx_W _ _ _ 0 [(0, .int p0), (1, .int p1), (2, .int p2)] [] _ _
  obtain ⟨lv1, elv1⟩ : ∃ l : aj_V, l = [(0, .int p0), (1, .int p1), (2, .int p2)] := ⟨_, rfl⟩
  rw [← elv1]
  have hlv1_0 : aj_lv lv1 0 = some (.int p0) := by rw [elv1]; rfl
  have hlv1_1 : aj_lv lv1 1 = some (.int p1) := by rw [elv1]; rfl
  have hlv1_2 : aj_lv lv1 2 = some (.int p2) := by rw [elv1]; rfl
  refine fx_i0 aj_d242 rfl (Nat.le_succ _) (fun _ => rfl) hlv1_0 ?_
  refine fx_n (pc' := 3) (lv' := lv1) (st' := [.int ((Int8.ofInt 61).toInt32), .int p0]) aj_d242 rfl (Nat.le_succ _) (fun _ => rfl) ?_
  refine fx_b (tgt := 19) aj_d242 rfl (Nat.le_succ _) rfl (fun q2 => ?_) (fun q2 => ?_)
  · skip
    refine fx_qe (c := (p0).toInt = 61) (fx_t_ne q2) ?_
    show fx_W _ _ _ 19 lv1 [] _ _
    refine fx_i0 aj_d242 rfl (Nat.le_succ _) (fun _ => rfl) hlv1_0 ?_
    refine fx_n (pc' := 23) (lv' := lv1) (st' := [.int ((Int16.ofInt 257).toInt32), .int p0]) aj_d242 rfl (Nat.le_succ _) (fun _ => rfl) ?_
    refine fx_b (tgt := 39) aj_d242 rfl (Nat.le_succ _) rfl (fun q3 => ?_) (fun q3 => ?_)
    · skip
      refine fx_qe (c := (p0).toInt = 257) (fx_t_ne q3) ?_
      show fx_W _ _ _ 39 lv1 [] _ _
      refine fx_i0 aj_d242 rfl (Nat.le_succ _) (fun _ => rfl) hlv1_0 ?_
      refine fx_n (pc' := 42) (lv' := lv1) (st' := [.int ((Int8.ofInt 60).toInt32), .int p0]) aj_d242 rfl (Nat.le_succ _) (fun _ => rfl) ?_
      refine fx_b (tgt := 58) aj_d242 rfl (Nat.le_succ _) rfl (fun q4 => ?_) (fun q4 => ?_)
      · skip
        refine fx_qe (c := (p0).toInt = 60) (fx_t_ne q4) ?_
        show fx_W _ _ _ 58 lv1 [] _ _
        refine fx_i0 aj_d242 rfl (Nat.le_succ _) (fun _ => rfl) hlv1_1 ?_
        refine fx_i0 aj_d242 rfl (Nat.le_succ _) (fun _ => rfl) hlv1_2 ?_
        refine fx_b (tgt := 67) aj_d242 rfl (Nat.le_succ _) rfl (fun q5 => ?_) (fun q5 => ?_)
        · skip
          refine fx_qi (c := (p2).toInt < (p1).toInt) (fx_t_gt q5) ?_
          show fx_W _ _ _ 67 lv1 [] _ _
          refine fx_n (pc' := 68) (lv' := lv1) (st' := [.int (Int32.ofInt 0)]) aj_d242 rfl (Nat.le_succ _) (fun _ => rfl) ?_
          exact fx_ri aj_d242 rfl ⟨_, rfl, 0, rfl, rfl⟩
        · skip
          refine fx_qe (c := (p2).toInt < (p1).toInt) (fx_f_gt q5) ?_
          show fx_W _ _ _ 63 lv1 [] _ _
          refine fx_n (pc' := 64) (lv' := lv1) (st' := [.int (Int32.ofInt 1)]) aj_d242 rfl (Nat.le_succ _) (fun _ => rfl) ?_
          refine fx_n (pc' := 68) (lv' := lv1) (st' := [.int (Int32.ofInt 1)]) aj_d242 rfl (Nat.le_succ _) (fun _ => rfl) ?_
          exact fx_ri aj_d242 rfl ⟨_, rfl, 0, rfl, rfl⟩
      · skip
        refine fx_qi (c := (p0).toInt = 60) (fx_f_ne q4) ?_
        show fx_W _ _ _ 45 lv1 [] _ _
        refine fx_i0 aj_d242 rfl (Nat.le_succ _) (fun _ => rfl) hlv1_1 ?_
        refine fx_i0 aj_d242 rfl (Nat.le_succ _) (fun _ => rfl) hlv1_2 ?_
        refine fx_b (tgt := 54) aj_d242 rfl (Nat.le_succ _) rfl (fun q6 => ?_) (fun q6 => ?_)
        · skip
          refine fx_qe (c := (p1).toInt < (p2).toInt) (fx_t_ge q6) ?_
          show fx_W _ _ _ 54 lv1 [] _ _
          refine fx_n (pc' := 55) (lv' := lv1) (st' := [.int (Int32.ofInt 0)]) aj_d242 rfl (Nat.le_succ _) (fun _ => rfl) ?_
          refine fx_n (pc' := 68) (lv' := lv1) (st' := [.int (Int32.ofInt 0)]) aj_d242 rfl (Nat.le_succ _) (fun _ => rfl) ?_
          exact fx_ri aj_d242 rfl ⟨_, rfl, 0, rfl, rfl⟩
        · skip
          refine fx_qi (c := (p1).toInt < (p2).toInt) (fx_f_ge q6) ?_
          show fx_W _ _ _ 50 lv1 [] _ _
          refine fx_n (pc' := 51) (lv' := lv1) (st' := [.int (Int32.ofInt 1)]) aj_d242 rfl (Nat.le_succ _) (fun _ => rfl) ?_
          refine fx_n (pc' := 68) (lv' := lv1) (st' := [.int (Int32.ofInt 1)]) aj_d242 rfl (Nat.le_succ _) (fun _ => rfl) ?_
          exact fx_ri aj_d242 rfl ⟨_, rfl, 0, rfl, rfl⟩
    · skip
      refine fx_qi (c := (p0).toInt = 257) (fx_f_ne q3) ?_
      show fx_W _ _ _ 26 lv1 [] _ _
      refine fx_i0 aj_d242 rfl (Nat.le_succ _) (fun _ => rfl) hlv1_1 ?_
      refine fx_i0 aj_d242 rfl (Nat.le_succ _) (fun _ => rfl) hlv1_2 ?_
      refine fx_b (tgt := 35) aj_d242 rfl (Nat.le_succ _) rfl (fun q7 => ?_) (fun q7 => ?_)
      · skip
        refine fx_qi (c := (p1).toInt = (p2).toInt) (fx_t_eq q7) ?_
        show fx_W _ _ _ 35 lv1 [] _ _
        refine fx_n (pc' := 36) (lv' := lv1) (st' := [.int (Int32.ofInt 0)]) aj_d242 rfl (Nat.le_succ _) (fun _ => rfl) ?_
        refine fx_n (pc' := 68) (lv' := lv1) (st' := [.int (Int32.ofInt 0)]) aj_d242 rfl (Nat.le_succ _) (fun _ => rfl) ?_
        exact fx_ri aj_d242 rfl ⟨_, rfl, 0, rfl, rfl⟩
      · skip
        refine fx_qe (c := (p1).toInt = (p2).toInt) (fx_f_eq q7) ?_
        show fx_W _ _ _ 31 lv1 [] _ _
        refine fx_n (pc' := 32) (lv' := lv1) (st' := [.int (Int32.ofInt 1)]) aj_d242 rfl (Nat.le_succ _) (fun _ => rfl) ?_
        refine fx_n (pc' := 68) (lv' := lv1) (st' := [.int (Int32.ofInt 1)]) aj_d242 rfl (Nat.le_succ _) (fun _ => rfl) ?_
        exact fx_ri aj_d242 rfl ⟨_, rfl, 0, rfl, rfl⟩
  · skip
    refine fx_qi (c := (p0).toInt = 61) (fx_f_ne q2) ?_
    show fx_W _ _ _ 6 lv1 [] _ _
    refine fx_i0 aj_d242 rfl (Nat.le_succ _) (fun _ => rfl) hlv1_1 ?_
    refine fx_i0 aj_d242 rfl (Nat.le_succ _) (fun _ => rfl) hlv1_2 ?_
    refine fx_b (tgt := 15) aj_d242 rfl (Nat.le_succ _) rfl (fun q8 => ?_) (fun q8 => ?_)
    · skip
      refine fx_qe (c := (p1).toInt = (p2).toInt) (fx_t_ne q8) ?_
      show fx_W _ _ _ 15 lv1 [] _ _
      refine fx_n (pc' := 16) (lv' := lv1) (st' := [.int (Int32.ofInt 0)]) aj_d242 rfl (Nat.le_succ _) (fun _ => rfl) ?_
      refine fx_n (pc' := 68) (lv' := lv1) (st' := [.int (Int32.ofInt 0)]) aj_d242 rfl (Nat.le_succ _) (fun _ => rfl) ?_
      exact fx_ri aj_d242 rfl ⟨_, rfl, 0, rfl, rfl⟩
    · skip
      refine fx_qi (c := (p1).toInt = (p2).toInt) (fx_f_ne q8) ?_
      show fx_W _ _ _ 11 lv1 [] _ _
      refine fx_n (pc' := 12) (lv' := lv1) (st' := [.int (Int32.ofInt 1)]) aj_d242 rfl (Nat.le_succ _) (fun _ => rfl) ?_
      refine fx_n (pc' := 68) (lv' := lv1) (st' := [.int (Int32.ofInt 1)]) aj_d242 rfl (Nat.le_succ _) (fun _ => rfl) ?_
      exact fx_ri aj_d242 rfl ⟨_, rfl, 0, rfl, rfl⟩
def gxT_254_7 (p1 : Int32) (P : Nat → List Int32 → List Int64 → List Nat → fx_X → Int32 → fx_X → Prop) (y2 : Int32) (X : fx_X) (v : Int32) (X' : fx_X) : Prop :=
  (if (y2).toInt = 0 then ((if ((X.1 117 54)).toInt = 0 then (∃ (w7 : Int32) (X6 : fx_X), gx_219 ((Int8.ofInt 93).toInt32) X w7 X6 ∧ v = w7 ∧ X' = X6) else ((0 ≤ (p1).toInt ∧ (p1).toInt < ((50 : Nat) : Int)) ∧ ∃ X10 : fx_X, X10 = (fx_wI X 132 (p1).toInt.toNat (Int32.ofInt (-1))) ∧ ∃ (w12 : Int32) (X11 : fx_X), gx_219 ((Int8.ofInt 93).toInt32) X10 w12 X11 ∧ v = w12 ∧ X' = X11))) else (∃ (w14 : Int32) (X13 : fx_X), gx_214 X w14 X13 ∧ (if (w14).toInt = 0 then (v = (Int32.ofInt 0) ∧ X' = X13) else (∃ (w17 : Int32) (X16 : fx_X), gx_255 p1 X13 w17 X16 ∧ (if (w17).toInt = 0 then (v = (Int32.ofInt 0) ∧ X' = X16) else (∃ x19 : Int32, x19 = (X16.1 117 52) ∧ ∃ x21 : Int32, x21 = (X16.1 117 53) ∧ ∃ (w24 : Int32) (X23 : fx_X), gx_239 X16 w24 X23 ∧ (if (w24).toInt = 0 then (v = (Int32.ofInt 0) ∧ X' = X23) else (∃ x26 : Int32, x26 = (X23.1 117 40) ∧ ∃ (w29 : Int32) (X28 : fx_X), gx_255 p1 X23 w29 X28 ∧ (if (w29).toInt = 0 then (v = (Int32.ofInt 0) ∧ X' = X28) else (P 67 [x19, x21, x26, (Int32.ofInt 0)] [] [] X28 v X'))))))))))
def gxT_254_67 (p1 : Int32) (P : Nat → List Int32 → List Int64 → List Nat → fx_X → Int32 → fx_X → Prop) (y3 : Int32) (y4 : Int32) (y5 : Int32) (y6 : Int32) (X : fx_X) (v : Int32) (X' : fx_X) : Prop :=
  (if ((X.1 117 32)).toInt = 0 then (∃ (w34 : Int32) (X33 : fx_X), gx_220 ((Int8.ofInt 44).toInt32) X w34 X33 ∧ P 7 [w34] [] [] X33 v X') else ((0 ≤ (p1).toInt ∧ (p1).toInt < ((50 : Nat) : Int)) ∧ (if (y6).toInt < ((X.1 131 (p1).toInt.toNat)).toInt then (P 88 [y3, y4, y5, y6, (Int32.ofInt 0)] [] [] X v X') else (∃ (w40 : Int32) (X39 : fx_X), gx_220 ((Int8.ofInt 44).toInt32) X w40 X39 ∧ P 7 [w40] [] [] X39 v X'))))
def gxT_254_88 (p1 : Int32) (P : Nat → List Int32 → List Int64 → List Nat → fx_X → Int32 → fx_X → Prop) (y3 : Int32) (y4 : Int32) (y5 : Int32) (y6 : Int32) (y7 : Int32) (X : fx_X) (v : Int32) (X' : fx_X) : Prop :=
  (0 ≤ ((X.1 117 37)).toInt ∧ ((X.1 117 37)).toInt < ((2 : Nat) : Int)) ∧ (if (y7).toInt < ((X.1 122 ((X.1 117 37)).toInt.toNat)).toInt then (∃ (w49 : Int32) (X48 : fx_X), gx_257 p1 y6 y3 y4 y7 X w49 X48 ∧ ∃ (w51 : Int32) (X50 : fx_X), gx_257 p1 y6 (X48.1 117 52) (X48.1 117 53) y7 X48 w51 X50 ∧ ∃ (w53 : Int32) (X52 : fx_X), gx_242 y5 w49 w51 X50 w53 X52 ∧ (if (w53).toInt = 0 then (∃ (w59 : Int32) (X58 : fx_X), gx_225 p1 y6 X52 w59 X58 ∧ ∃ (w61 : Unit) (X60 : fx_X), gx_228 136 w59 y7 (Int32.ofInt 0) X58 w61 X60 ∧ ∃ x62 : Int32, x62 = y7 + Int32.ofInt 1 ∧ P 88 [y3, y4, y5, y6, x62] [] [] X60 v X') else (∃ x55 : Int32, x55 = y7 + Int32.ofInt 1 ∧ P 88 [y3, y4, y5, y6, x55] [] [] X52 v X'))) else (∃ x46 : Int32, x46 = y6 + Int32.ofInt 1 ∧ P 67 [y3, y4, y5, x46] [] [] X v X'))
def gxE_254 (p1 : Int32) (P : Nat → List Int32 → List Int64 → List Nat → fx_X → Int32 → fx_X → Prop) (X : fx_X) (v : Int32) (X' : fx_X) : Prop :=
  ∃ X2 : fx_X, X2 = (fx_wI X 117 54 (Int32.ofInt 0)) ∧ P 7 [(Int32.ofInt 1)] [] [] X2 v X'
noncomputable def gxF_254 (p1 : Int32) (n : Nat) : Nat → List Int32 → List Int64 → List Nat → fx_X → Int32 → fx_X → Prop := Nat.rec (motive := fun _ => Nat → List Int32 → List Int64 → List Nat → fx_X → Int32 → fx_X → Prop) (fun _ _ _ _ _ _ _ => False) (fun _ P l is ls rs X v X' => (l = 7 ∧ ∃ (y2 : Int32), is = [y2] ∧ ls = [] ∧ rs = [] ∧ gxT_254_7 p1 P y2 X v X') ∨ (l = 67 ∧ ∃ (y3 : Int32) (y4 : Int32) (y5 : Int32) (y6 : Int32), is = [y3, y4, y5, y6] ∧ ls = [] ∧ rs = [] ∧ gxT_254_67 p1 P y3 y4 y5 y6 X v X') ∨ (l = 88 ∧ ∃ (y3 : Int32) (y4 : Int32) (y5 : Int32) (y6 : Int32) (y7 : Int32), is = [y3, y4, y5, y6, y7] ∧ ls = [] ∧ rs = [] ∧ gxT_254_88 p1 P y3 y4 y5 y6 y7 X v X')) n
theorem gxI_254_7 {p1 : Int32} {n : Nat} {y2 : Int32} {X : fx_X} {v : Int32} {X' : fx_X} (h : gxT_254_7 p1 (gxF_254 p1 n) y2 X v X') : gxF_254 p1 (n + 1) 7 [y2] [] [] X v X' := Or.inl ⟨rfl, y2, rfl, rfl, rfl, h⟩
theorem gxO_254_7 {p1 : Int32} {n : Nat} {y2 : Int32} {X : fx_X} {v : Int32} {X' : fx_X} (h : gxF_254 p1 (n + 1) 7 [y2] [] [] X v X') : gxT_254_7 p1 (gxF_254 p1 n) y2 X v X' := by
  rcases h with ⟨-, _, e1, e2, e3, h⟩ | ⟨e, -⟩ | ⟨e, -⟩
  · cases e1; cases e2; cases e3; exact h
  · exact absurd e (by decide)
  · exact absurd e (by decide)
theorem gxI_254_67 {p1 : Int32} {n : Nat} {y3 : Int32} {y4 : Int32} {y5 : Int32} {y6 : Int32} {X : fx_X} {v : Int32} {X' : fx_X} (h : gxT_254_67 p1 (gxF_254 p1 n) y3 y4 y5 y6 X v X') : gxF_254 p1 (n + 1) 67 [y3, y4, y5, y6] [] [] X v X' := Or.inr (Or.inl ⟨rfl, y3, y4, y5, y6, rfl, rfl, rfl, h⟩)
theorem gxO_254_67 {p1 : Int32} {n : Nat} {y3 : Int32} {y4 : Int32} {y5 : Int32} {y6 : Int32} {X : fx_X} {v : Int32} {X' : fx_X} (h : gxF_254 p1 (n + 1) 67 [y3, y4, y5, y6] [] [] X v X') : gxT_254_67 p1 (gxF_254 p1 n) y3 y4 y5 y6 X v X' := by
  rcases h with ⟨e, -⟩ | ⟨-, _, _, _, _, e1, e2, e3, h⟩ | ⟨e, -⟩
  · exact absurd e (by decide)
  · cases e1; cases e2; cases e3; exact h
  · exact absurd e (by decide)
theorem gxI_254_88 {p1 : Int32} {n : Nat} {y3 : Int32} {y4 : Int32} {y5 : Int32} {y6 : Int32} {y7 : Int32} {X : fx_X} {v : Int32} {X' : fx_X} (h : gxT_254_88 p1 (gxF_254 p1 n) y3 y4 y5 y6 y7 X v X') : gxF_254 p1 (n + 1) 88 [y3, y4, y5, y6, y7] [] [] X v X' := Or.inr (Or.inr (⟨rfl, y3, y4, y5, y6, y7, rfl, rfl, rfl, h⟩))
theorem gxO_254_88 {p1 : Int32} {n : Nat} {y3 : Int32} {y4 : Int32} {y5 : Int32} {y6 : Int32} {y7 : Int32} {X : fx_X} {v : Int32} {X' : fx_X} (h : gxF_254 p1 (n + 1) 88 [y3, y4, y5, y6, y7] [] [] X v X') : gxT_254_88 p1 (gxF_254 p1 n) y3 y4 y5 y6 y7 X v X' := by
  rcases h with ⟨e, -⟩ | ⟨e, -⟩ | ⟨-, _, _, _, _, _, e1, e2, e3, h⟩
  · exact absurd e (by decide)
  · exact absurd e (by decide)
  · cases e1; cases e2; cases e3; exact h
def gx_254 (p1 : Int32) (X : fx_X) (v : Int32) (X' : fx_X) : Prop := ∃ n : Nat, gxE_254 p1 (gxF_254 p1 n) X v X'
theorem gxL_254 {tb : aj_T} (p1 : Int32) : ∀ N : Nat, (∀ (lv : aj_V) (y2 : Int32) (X : fx_X), aj_lv lv 0 = some (.ref 117) → aj_lv lv 1 = some (.int p1) → aj_lv lv 2 = some (.int y2) → fx_W tb aj_m254 N 7 lv [] X (fx_Q fx_qI (fun v X' => ∃ n : Nat, gxF_254 p1 n 7 [y2] [] [] X v X'))) ∧ (∀ (lv : aj_V) (y3 : Int32) (y4 : Int32) (y5 : Int32) (y6 : Int32) (X : fx_X), aj_lv lv 0 = some (.ref 117) → aj_lv lv 1 = some (.int p1) → aj_lv lv 3 = some (.int y3) → aj_lv lv 4 = some (.int y4) → aj_lv lv 5 = some (.int y5) → aj_lv lv 6 = some (.int y6) → fx_W tb aj_m254 N 67 lv [] X (fx_Q fx_qI (fun v X' => ∃ n : Nat, gxF_254 p1 n 67 [y3, y4, y5, y6] [] [] X v X'))) ∧ (∀ (lv : aj_V) (y3 : Int32) (y4 : Int32) (y5 : Int32) (y6 : Int32) (y7 : Int32) (X : fx_X), aj_lv lv 0 = some (.ref 117) → aj_lv lv 1 = some (.int p1) → aj_lv lv 3 = some (.int y3) → aj_lv lv 4 = some (.int y4) → aj_lv lv 5 = some (.int y5) → aj_lv lv 6 = some (.int y6) → aj_lv lv 7 = some (.int y7) → fx_W tb aj_m254 N 88 lv [] X (fx_Q fx_qI (fun v X' => ∃ n : Nat, gxF_254 p1 n 88 [y3, y4, y5, y6, y7] [] [] X v X'))) := by
  intro N
  induction N with
  | zero => exact ⟨(by intros; exact fx_z), (by intros; exact fx_z), (by intros; exact fx_z)⟩
  | succ N ih =>
    refine ⟨?_, ?_, ?_⟩
    · intro lv y2 X hlv_0 hlv_1 hlv_2
      refine fx_mono (Q := fx_Q fx_qI (fun v X' => ∃ n : Nat, gxT_254_7 p1 (gxF_254 p1 n) y2 X v X')) (fun r X' ⟨v, e, n, z⟩ => ⟨v, e, n + 1, gxI_254_7 z⟩) ?_
      unfold gxT_254_7
      refine fx_i0 aj_d254 rfl (Nat.le_refl _) (fun _ => rfl) hlv_2 ?_
      refine fx_b0 (tgt := 178) aj_d254 rfl (Nat.le_succ _) rfl (fun q4 => ?_) (fun q4 => ?_)
      · skip
        refine fx_qi (c := (y2).toInt = 0) (fx_t_eq q4) ?_
        show fx_W _ _ _ 178 lv [] _ _
        refine fx_i2 aj_d254 rfl (Nat.le_succ _) (fun _ => rfl) hlv_0 ?_
        refine fx_gI aj_d254 rfl (Nat.le_succ _) rfl rfl (Or.inr (Or.inl rfl)) ?_
        refine fx_b0 (tgt := 192) aj_d254 rfl (Nat.le_succ _) rfl (fun q5 => ?_) (fun q5 => ?_)
        · skip
          refine fx_qi (c := ((X.1 117 54)).toInt = 0) (fx_t_eq q5) ?_
          show fx_W _ _ _ 192 lv [] _ _
          refine fx_i2 aj_d254 rfl (Nat.le_succ _) (fun _ => rfl) hlv_0 ?_
          refine fx_n (pc' := 195) (lv' := lv) (st' := [.int ((Int8.ofInt 93).toInt32), .ref 117]) aj_d254 rfl (Nat.le_succ _) (fun _ => rfl) ?_
          refine fx_cv aj_d254 rfl (Nat.le_succ _) rfl [_] rfl rfl (gx_219_ok ((Int8.ofInt 93).toInt32)) ?_
          rintro _ X6 ⟨w7, rfl, hR6⟩ hok6 hle6
          refine fx_qc hR6 ?_
          show fx_W _ _ _ 198 lv [.int w7] _ _
          exact fx_ri aj_d254 rfl ⟨_, rfl, 0, rfl, rfl⟩
        · skip
          refine fx_qe (c := ((X.1 117 54)).toInt = 0) (fx_f_eq q5) ?_
          show fx_W _ _ _ 185 lv [] _ _
          refine fx_i2 aj_d254 rfl (Nat.le_succ _) (fun _ => rfl) hlv_0 ?_
          refine fx_gF aj_d254 rfl (Nat.le_succ _) rfl rfl fx_in_11_16 (t := 132) rfl (fun hA8 => ?_)
          refine fx_i0 aj_d254 rfl (Nat.le_succ _) (fun _ => rfl) hlv_1 ?_
          refine fx_n (pc' := 191) (lv' := lv) (st' := [.int (Int32.ofInt (-1)), .int p1, .ref 132]) aj_d254 rfl (Nat.le_succ _) (fun _ => rfl) ?_
          refine fx_st aj_d254 (Or.inl ⟨rfl, rfl⟩) rfl (Nat.le_succ _) (fun g90 g91 => ?_)
          show fx_W _ _ _ _ _ _ (fx_wI X 132 (p1).toInt.toNat (Int32.ofInt (-1))) _
          refine fx_qa (c := 0 ≤ (p1).toInt ∧ (p1).toInt < ((50 : Nat) : Int)) ⟨g90, fx_lnk g91 hA8⟩ ?_
          refine fx_qX (fun X10 eX10 => ?_)
          show fx_W _ _ _ 192 lv [] _ _
          refine fx_i2 aj_d254 rfl (Nat.le_succ _) (fun _ => rfl) hlv_0 ?_
          refine fx_n (pc' := 195) (lv' := lv) (st' := [.int ((Int8.ofInt 93).toInt32), .ref 117]) aj_d254 rfl (Nat.le_succ _) (fun _ => rfl) ?_
          refine fx_cv aj_d254 rfl (Nat.le_succ _) rfl [_] rfl rfl (gx_219_ok ((Int8.ofInt 93).toInt32)) ?_
          rintro _ X11 ⟨w12, rfl, hR11⟩ hok11 hle11
          refine fx_qc hR11 ?_
          show fx_W _ _ _ 198 lv [.int w12] _ _
          exact fx_ri aj_d254 rfl ⟨_, rfl, 0, rfl, rfl⟩
      · skip
        refine fx_qe (c := (y2).toInt = 0) (fx_f_eq q4) ?_
        show fx_W _ _ _ 11 lv [] _ _
        refine fx_i2 aj_d254 rfl (Nat.le_succ _) (fun _ => rfl) hlv_0 ?_
        refine fx_cv aj_d254 rfl (Nat.le_succ _) rfl [] rfl rfl (gx_214_ok) ?_
        rintro _ X13 ⟨w14, rfl, hR13⟩ hok13 hle13
        refine fx_qc hR13 ?_
        show fx_W _ _ _ 15 lv [.int w14] _ _
        refine fx_b0 (tgt := 26) aj_d254 rfl (Nat.le_succ _) rfl (fun q15 => ?_) (fun q15 => ?_)
        · skip
          refine fx_qi (c := (w14).toInt = 0) (fx_t_eq q15) ?_
          show fx_W _ _ _ 26 lv [] _ _
          refine fx_n (pc' := 27) (lv' := lv) (st' := [.int (Int32.ofInt 0)]) aj_d254 rfl (Nat.le_succ _) (fun _ => rfl) ?_
          exact fx_ri aj_d254 rfl ⟨_, rfl, 0, rfl, rfl⟩
        · skip
          refine fx_qe (c := (w14).toInt = 0) (fx_f_eq q15) ?_
          show fx_W _ _ _ 18 lv [] _ _
          refine fx_i2 aj_d254 rfl (Nat.le_succ _) (fun _ => rfl) hlv_0 ?_
          refine fx_i0 aj_d254 rfl (Nat.le_succ _) (fun _ => rfl) hlv_1 ?_
          refine fx_cv aj_d254 rfl (Nat.le_succ _) rfl [_] rfl rfl (gx_255_ok p1) ?_
          rintro _ X16 ⟨w17, rfl, hR16⟩ hok16 hle16
          refine fx_qc hR16 ?_
          show fx_W _ _ _ 23 lv [.int w17] _ _
          refine fx_b0 (tgt := 28) aj_d254 rfl (Nat.le_succ _) rfl (fun q18 => ?_) (fun q18 => ?_)
          · skip
            refine fx_qe (c := (w17).toInt = 0) (fx_t_ne q18) ?_
            show fx_W _ _ _ 28 lv [] _ _
            refine fx_i2 aj_d254 rfl (Nat.le_succ _) (fun _ => rfl) hlv_0 ?_
            refine fx_gI aj_d254 rfl (Nat.le_succ _) rfl rfl (Or.inl rfl) ?_
            refine fx_qxI (fun x19 ex19 => ?_)
            refine fx_s0 (j := 3) aj_d254 rfl (Nat.le_succ _) (by decide) (fun _ => rfl) ?_
            obtain ⟨lv20, elv20⟩ : ∃ l, l = aj_set1 lv 3 (.int x19) := ⟨_, rfl⟩
            rw [← elv20]
            have hlv20_0 : aj_lv lv20 0 = some (.ref 117) := fx_e1 elv20 hlv_0 (by decide) (Or.inl (by decide))
            have hlv20_1 : aj_lv lv20 1 = some (.int p1) := fx_e1 elv20 hlv_1 (by decide) (Or.inl (by decide))
            have hlv20_3 : aj_lv lv20 3 = some (.int x19) := by rw [elv20]; exact ak_set1_eq _ _ _
            show fx_W _ _ _ 33 lv20 [] _ _
            refine fx_i2 aj_d254 rfl (Nat.le_succ _) (fun _ => rfl) hlv20_0 ?_
            refine fx_gI aj_d254 rfl (Nat.le_succ _) rfl rfl (Or.inl rfl) ?_
            refine fx_qxI (fun x21 ex21 => ?_)
            refine fx_s0 (j := 4) aj_d254 rfl (Nat.le_succ _) (by decide) (fun _ => rfl) ?_
            obtain ⟨lv22, elv22⟩ : ∃ l, l = aj_set1 lv20 4 (.int x21) := ⟨_, rfl⟩
            rw [← elv22]
            have hlv22_0 : aj_lv lv22 0 = some (.ref 117) := fx_e1 elv22 hlv20_0 (by decide) (Or.inl (by decide))
            have hlv22_1 : aj_lv lv22 1 = some (.int p1) := fx_e1 elv22 hlv20_1 (by decide) (Or.inl (by decide))
            have hlv22_3 : aj_lv lv22 3 = some (.int x19) := fx_e1 elv22 hlv20_3 (by decide) (Or.inr rfl)
            have hlv22_4 : aj_lv lv22 4 = some (.int x21) := by rw [elv22]; exact ak_set1_eq _ _ _
            show fx_W _ _ _ 39 lv22 [] _ _
            refine fx_i2 aj_d254 rfl (Nat.le_succ _) (fun _ => rfl) hlv22_0 ?_
            refine fx_cv aj_d254 rfl (Nat.le_succ _) rfl [] rfl rfl (gx_239_ok) ?_
            rintro _ X23 ⟨w24, rfl, hR23⟩ hok23 hle23
            refine fx_qc hR23 ?_
            show fx_W _ _ _ 43 lv22 [.int w24] _ _
            refine fx_b0 (tgt := 48) aj_d254 rfl (Nat.le_succ _) rfl (fun q25 => ?_) (fun q25 => ?_)
            · skip
              refine fx_qe (c := (w24).toInt = 0) (fx_t_ne q25) ?_
              show fx_W _ _ _ 48 lv22 [] _ _
              refine fx_i2 aj_d254 rfl (Nat.le_succ _) (fun _ => rfl) hlv22_0 ?_
              refine fx_gI aj_d254 rfl (Nat.le_succ _) rfl rfl (Or.inl rfl) ?_
              refine fx_qxI (fun x26 ex26 => ?_)
              refine fx_s0 (j := 5) aj_d254 rfl (Nat.le_succ _) (by decide) (fun _ => rfl) ?_
              obtain ⟨lv27, elv27⟩ : ∃ l, l = aj_set1 lv22 5 (.int x26) := ⟨_, rfl⟩
              rw [← elv27]
              have hlv27_0 : aj_lv lv27 0 = some (.ref 117) := fx_e1 elv27 hlv22_0 (by decide) (Or.inl (by decide))
              have hlv27_1 : aj_lv lv27 1 = some (.int p1) := fx_e1 elv27 hlv22_1 (by decide) (Or.inl (by decide))
              have hlv27_3 : aj_lv lv27 3 = some (.int x19) := fx_e1 elv27 hlv22_3 (by decide) (Or.inl (by decide))
              have hlv27_4 : aj_lv lv27 4 = some (.int x21) := fx_e1 elv27 hlv22_4 (by decide) (Or.inr rfl)
              have hlv27_5 : aj_lv lv27 5 = some (.int x26) := by rw [elv27]; exact ak_set1_eq _ _ _
              show fx_W _ _ _ 54 lv27 [] _ _
              refine fx_i2 aj_d254 rfl (Nat.le_succ _) (fun _ => rfl) hlv27_0 ?_
              refine fx_i0 aj_d254 rfl (Nat.le_succ _) (fun _ => rfl) hlv27_1 ?_
              refine fx_cv aj_d254 rfl (Nat.le_succ _) rfl [_] rfl rfl (gx_255_ok p1) ?_
              rintro _ X28 ⟨w29, rfl, hR28⟩ hok28 hle28
              refine fx_qc hR28 ?_
              show fx_W _ _ _ 59 lv27 [.int w29] _ _
              refine fx_b0 (tgt := 64) aj_d254 rfl (Nat.le_succ _) rfl (fun q30 => ?_) (fun q30 => ?_)
              · skip
                refine fx_qe (c := (w29).toInt = 0) (fx_t_ne q30) ?_
                show fx_W _ _ _ 64 lv27 [] _ _
                refine fx_n (pc' := 65) (lv' := lv27) (st' := [.int (Int32.ofInt 0)]) aj_d254 rfl (Nat.le_succ _) (fun _ => rfl) ?_
                refine fx_s0 (j := 6) aj_d254 rfl (Nat.le_succ _) (by decide) (fun _ => rfl) ?_
                obtain ⟨lv31, elv31⟩ : ∃ l, l = aj_set1 lv27 6 (.int (Int32.ofInt 0)) := ⟨_, rfl⟩
                rw [← elv31]
                have hlv31_0 : aj_lv lv31 0 = some (.ref 117) := fx_e1 elv31 hlv27_0 (by decide) (Or.inl (by decide))
                have hlv31_1 : aj_lv lv31 1 = some (.int p1) := fx_e1 elv31 hlv27_1 (by decide) (Or.inl (by decide))
                have hlv31_3 : aj_lv lv31 3 = some (.int x19) := fx_e1 elv31 hlv27_3 (by decide) (Or.inl (by decide))
                have hlv31_4 : aj_lv lv31 4 = some (.int x21) := fx_e1 elv31 hlv27_4 (by decide) (Or.inl (by decide))
                have hlv31_5 : aj_lv lv31 5 = some (.int x26) := fx_e1 elv31 hlv27_5 (by decide) (Or.inr rfl)
                have hlv31_6 : aj_lv lv31 6 = some (.int (Int32.ofInt 0)) := by rw [elv31]; exact ak_set1_eq _ _ _
                show fx_W _ _ _ 67 lv31 [] _ _
                exact (ih.2.1) lv31 (x19) (x21) (x26) ((Int32.ofInt 0)) X28  hlv31_0 hlv31_1 hlv31_3 hlv31_4 hlv31_5 hlv31_6
              · skip
                refine fx_qi (c := (w29).toInt = 0) (fx_f_ne q30) ?_
                show fx_W _ _ _ 62 lv27 [] _ _
                refine fx_n (pc' := 63) (lv' := lv27) (st' := [.int (Int32.ofInt 0)]) aj_d254 rfl (Nat.le_succ _) (fun _ => rfl) ?_
                exact fx_ri aj_d254 rfl ⟨_, rfl, 0, rfl, rfl⟩
            · skip
              refine fx_qi (c := (w24).toInt = 0) (fx_f_ne q25) ?_
              show fx_W _ _ _ 46 lv22 [] _ _
              refine fx_n (pc' := 47) (lv' := lv22) (st' := [.int (Int32.ofInt 0)]) aj_d254 rfl (Nat.le_succ _) (fun _ => rfl) ?_
              exact fx_ri aj_d254 rfl ⟨_, rfl, 0, rfl, rfl⟩
          · skip
            refine fx_qi (c := (w17).toInt = 0) (fx_f_ne q18) ?_
            show fx_W _ _ _ 26 lv [] _ _
            refine fx_n (pc' := 27) (lv' := lv) (st' := [.int (Int32.ofInt 0)]) aj_d254 rfl (Nat.le_succ _) (fun _ => rfl) ?_
            exact fx_ri aj_d254 rfl ⟨_, rfl, 0, rfl, rfl⟩
    · intro lv y3 y4 y5 y6 X hlv_0 hlv_1 hlv_3 hlv_4 hlv_5 hlv_6
      refine fx_mono (Q := fx_Q fx_qI (fun v X' => ∃ n : Nat, gxT_254_67 p1 (gxF_254 p1 n) y3 y4 y5 y6 X v X')) (fun r X' ⟨v, e, n, z⟩ => ⟨v, e, n + 1, gxI_254_67 z⟩) ?_
      unfold gxT_254_67
      refine fx_i2 aj_d254 rfl (Nat.le_refl _) (fun _ => rfl) hlv_0 ?_
      refine fx_gI aj_d254 rfl (Nat.le_succ _) rfl rfl (Or.inr (Or.inl rfl)) ?_
      refine fx_b0 (tgt := 168) aj_d254 rfl (Nat.le_succ _) rfl (fun q32 => ?_) (fun q32 => ?_)
      · skip
        refine fx_qi (c := ((X.1 117 32)).toInt = 0) (fx_t_eq q32) ?_
        show fx_W _ _ _ 168 lv [] _ _
        refine fx_i2 aj_d254 rfl (Nat.le_succ _) (fun _ => rfl) hlv_0 ?_
        refine fx_n (pc' := 171) (lv' := lv) (st' := [.int ((Int8.ofInt 44).toInt32), .ref 117]) aj_d254 rfl (Nat.le_succ _) (fun _ => rfl) ?_
        refine fx_cv aj_d254 rfl (Nat.le_succ _) rfl [_] rfl rfl (gx_220_ok ((Int8.ofInt 44).toInt32)) ?_
        rintro _ X33 ⟨w34, rfl, hR33⟩ hok33 hle33
        refine fx_qc hR33 ?_
        show fx_W _ _ _ 174 lv [.int w34] _ _
        refine fx_s0 (j := 2) aj_d254 rfl (Nat.le_succ _) (by decide) (fun _ => rfl) ?_
        obtain ⟨lv35, elv35⟩ : ∃ l, l = aj_set1 lv 2 (.int w34) := ⟨_, rfl⟩
        rw [← elv35]
        have hlv35_0 : aj_lv lv35 0 = some (.ref 117) := fx_e1 elv35 hlv_0 (by decide) (Or.inl (by decide))
        have hlv35_1 : aj_lv lv35 1 = some (.int p1) := fx_e1 elv35 hlv_1 (by decide) (Or.inr rfl)
        have hlv35_2 : aj_lv lv35 2 = some (.int w34) := by rw [elv35]; exact ak_set1_eq _ _ _
        show fx_W _ _ _ 175 lv35 [] _ _
        refine fx_n (pc' := 7) (lv' := lv35) (st' := []) aj_d254 rfl (Nat.le_succ _) (fun _ => rfl) ?_
        exact (ih.1) lv35 (w34) X33  hlv35_0 hlv35_1 hlv35_2
      · skip
        refine fx_qe (c := ((X.1 117 32)).toInt = 0) (fx_f_eq q32) ?_
        show fx_W _ _ _ 74 lv [] _ _
        refine fx_i0 aj_d254 rfl (Nat.le_succ _) (fun _ => rfl) hlv_6 ?_
        refine fx_i2 aj_d254 rfl (Nat.le_succ _) (fun _ => rfl) hlv_0 ?_
        refine fx_gF aj_d254 rfl (Nat.le_succ _) rfl rfl fx_in_11_15 (t := 131) rfl (fun hA36 => ?_)
        refine fx_i0 aj_d254 rfl (Nat.le_succ _) (fun _ => rfl) hlv_1 ?_
        refine fx_ld aj_d254 (Or.inl rfl) rfl (Nat.le_succ _) (fun g370 g371 => ?_)
        show fx_W _ _ _ 82 lv [.int (X.1 131 (p1).toInt.toNat), .int y6] _ _
        refine fx_qa (c := 0 ≤ (p1).toInt ∧ (p1).toInt < ((50 : Nat) : Int)) ⟨g370, fx_lnk g371 hA36⟩ ?_
        refine fx_b (tgt := 168) aj_d254 rfl (Nat.le_succ _) rfl (fun q38 => ?_) (fun q38 => ?_)
        · skip
          refine fx_qe (c := (y6).toInt < ((X.1 131 (p1).toInt.toNat)).toInt) (fx_t_ge q38) ?_
          show fx_W _ _ _ 168 lv [] _ _
          refine fx_i2 aj_d254 rfl (Nat.le_succ _) (fun _ => rfl) hlv_0 ?_
          refine fx_n (pc' := 171) (lv' := lv) (st' := [.int ((Int8.ofInt 44).toInt32), .ref 117]) aj_d254 rfl (Nat.le_succ _) (fun _ => rfl) ?_
          refine fx_cv aj_d254 rfl (Nat.le_succ _) rfl [_] rfl rfl (gx_220_ok ((Int8.ofInt 44).toInt32)) ?_
          rintro _ X39 ⟨w40, rfl, hR39⟩ hok39 hle39
          refine fx_qc hR39 ?_
          show fx_W _ _ _ 174 lv [.int w40] _ _
          refine fx_s0 (j := 2) aj_d254 rfl (Nat.le_succ _) (by decide) (fun _ => rfl) ?_
          obtain ⟨lv41, elv41⟩ : ∃ l, l = aj_set1 lv 2 (.int w40) := ⟨_, rfl⟩
          rw [← elv41]
          have hlv41_0 : aj_lv lv41 0 = some (.ref 117) := fx_e1 elv41 hlv_0 (by decide) (Or.inl (by decide))
          have hlv41_1 : aj_lv lv41 1 = some (.int p1) := fx_e1 elv41 hlv_1 (by decide) (Or.inr rfl)
          have hlv41_2 : aj_lv lv41 2 = some (.int w40) := by rw [elv41]; exact ak_set1_eq _ _ _
          show fx_W _ _ _ 175 lv41 [] _ _
          refine fx_n (pc' := 7) (lv' := lv41) (st' := []) aj_d254 rfl (Nat.le_succ _) (fun _ => rfl) ?_
          exact (ih.1) lv41 (w40) X39  hlv41_0 hlv41_1 hlv41_2
        · skip
          refine fx_qi (c := (y6).toInt < ((X.1 131 (p1).toInt.toNat)).toInt) (fx_f_ge q38) ?_
          show fx_W _ _ _ 85 lv [] _ _
          refine fx_n (pc' := 86) (lv' := lv) (st' := [.int (Int32.ofInt 0)]) aj_d254 rfl (Nat.le_succ _) (fun _ => rfl) ?_
          refine fx_s0 (j := 7) aj_d254 rfl (Nat.le_succ _) (by decide) (fun _ => rfl) ?_
          obtain ⟨lv42, elv42⟩ : ∃ l, l = aj_set1 lv 7 (.int (Int32.ofInt 0)) := ⟨_, rfl⟩
          rw [← elv42]
          have hlv42_0 : aj_lv lv42 0 = some (.ref 117) := fx_e1 elv42 hlv_0 (by decide) (Or.inl (by decide))
          have hlv42_1 : aj_lv lv42 1 = some (.int p1) := fx_e1 elv42 hlv_1 (by decide) (Or.inl (by decide))
          have hlv42_3 : aj_lv lv42 3 = some (.int y3) := fx_e1 elv42 hlv_3 (by decide) (Or.inl (by decide))
          have hlv42_4 : aj_lv lv42 4 = some (.int y4) := fx_e1 elv42 hlv_4 (by decide) (Or.inl (by decide))
          have hlv42_5 : aj_lv lv42 5 = some (.int y5) := fx_e1 elv42 hlv_5 (by decide) (Or.inl (by decide))
          have hlv42_6 : aj_lv lv42 6 = some (.int y6) := fx_e1 elv42 hlv_6 (by decide) (Or.inr rfl)
          have hlv42_7 : aj_lv lv42 7 = some (.int (Int32.ofInt 0)) := by rw [elv42]; exact ak_set1_eq _ _ _
          show fx_W _ _ _ 88 lv42 [] _ _
          exact (ih.2.2) lv42 (y3) (y4) (y5) (y6) ((Int32.ofInt 0)) X  hlv42_0 hlv42_1 hlv42_3 hlv42_4 hlv42_5 hlv42_6 hlv42_7
    · intro lv y3 y4 y5 y6 y7 X hlv_0 hlv_1 hlv_3 hlv_4 hlv_5 hlv_6 hlv_7
      refine fx_mono (Q := fx_Q fx_qI (fun v X' => ∃ n : Nat, gxT_254_88 p1 (gxF_254 p1 n) y3 y4 y5 y6 y7 X v X')) (fun r X' ⟨v, e, n, z⟩ => ⟨v, e, n + 1, gxI_254_88 z⟩) ?_
      unfold gxT_254_88
      refine fx_i0 aj_d254 rfl (Nat.le_refl _) (fun _ => rfl) hlv_7 ?_
      refine fx_i2 aj_d254 rfl (Nat.le_succ _) (fun _ => rfl) hlv_0 ?_
      refine fx_gF aj_d254 rfl (Nat.le_succ _) rfl rfl fx_in_11_5 (t := 122) rfl (fun hA43 => ?_)
      refine fx_i2 aj_d254 rfl (Nat.le_succ _) (fun _ => rfl) hlv_0 ?_
      refine fx_gI aj_d254 rfl (Nat.le_succ _) rfl rfl (Or.inl rfl) ?_
      refine fx_ld aj_d254 (Or.inl rfl) rfl (Nat.le_succ _) (fun g440 g441 => ?_)
      show fx_W _ _ _ 99 lv [.int (X.1 122 ((X.1 117 37)).toInt.toNat), .int y7] _ _
      refine fx_qa (c := 0 ≤ ((X.1 117 37)).toInt ∧ ((X.1 117 37)).toInt < ((2 : Nat) : Int)) ⟨g440, fx_lnk g441 hA43⟩ ?_
      refine fx_b (tgt := 162) aj_d254 rfl (Nat.le_succ _) rfl (fun q45 => ?_) (fun q45 => ?_)
      · skip
        refine fx_qe (c := (y7).toInt < ((X.1 122 ((X.1 117 37)).toInt.toNat)).toInt) (fx_t_ge q45) ?_
        show fx_W _ _ _ 162 lv [] _ _
        refine fx_incq aj_d254 rfl (Nat.le_succ _) hlv_6 (by decide) (fun x46 ex46 => ?_)
        obtain ⟨lv47, elv47⟩ : ∃ l, l = aj_set1 lv 6 (.int x46) := ⟨_, rfl⟩
        rw [← elv47]
        have hlv47_0 : aj_lv lv47 0 = some (.ref 117) := fx_e1 elv47 hlv_0 (by decide) (Or.inl (by decide))
        have hlv47_1 : aj_lv lv47 1 = some (.int p1) := fx_e1 elv47 hlv_1 (by decide) (Or.inl (by decide))
        have hlv47_3 : aj_lv lv47 3 = some (.int y3) := fx_e1 elv47 hlv_3 (by decide) (Or.inl (by decide))
        have hlv47_4 : aj_lv lv47 4 = some (.int y4) := fx_e1 elv47 hlv_4 (by decide) (Or.inl (by decide))
        have hlv47_5 : aj_lv lv47 5 = some (.int y5) := fx_e1 elv47 hlv_5 (by decide) (Or.inr rfl)
        have hlv47_6 : aj_lv lv47 6 = some (.int x46) := by rw [elv47]; exact ak_set1_eq _ _ _
        show fx_W _ _ _ 165 lv47 [] _ _
        refine fx_n (pc' := 67) (lv' := lv47) (st' := []) aj_d254 rfl (Nat.le_succ _) (fun _ => rfl) ?_
        exact (ih.2.1) lv47 (y3) (y4) (y5) (x46) X  hlv47_0 hlv47_1 hlv47_3 hlv47_4 hlv47_5 hlv47_6
      · skip
        refine fx_qi (c := (y7).toInt < ((X.1 122 ((X.1 117 37)).toInt.toNat)).toInt) (fx_f_ge q45) ?_
        show fx_W _ _ _ 102 lv [] _ _
        refine fx_i0 aj_d254 rfl (Nat.le_succ _) (fun _ => rfl) hlv_5 ?_
        refine fx_i2 aj_d254 rfl (Nat.le_succ _) (fun _ => rfl) hlv_0 ?_
        refine fx_i0 aj_d254 rfl (Nat.le_succ _) (fun _ => rfl) hlv_1 ?_
        refine fx_i0 aj_d254 rfl (Nat.le_succ _) (fun _ => rfl) hlv_6 ?_
        refine fx_i0 aj_d254 rfl (Nat.le_succ _) (fun _ => rfl) hlv_3 ?_
        refine fx_i0 aj_d254 rfl (Nat.le_succ _) (fun _ => rfl) hlv_4 ?_
        refine fx_i0 aj_d254 rfl (Nat.le_succ _) (fun _ => rfl) hlv_7 ?_
        refine fx_cv aj_d254 rfl (Nat.le_succ _) rfl [_, _, _, _, _] rfl rfl (gx_257_ok p1 y6 y3 y4 y7) ?_
        rintro _ X48 ⟨w49, rfl, hR48⟩ hok48 hle48
        refine fx_qc hR48 ?_
        show fx_W _ _ _ 116 lv [.int w49, .int y5] _ _
        refine fx_i2 aj_d254 rfl (Nat.le_succ _) (fun _ => rfl) hlv_0 ?_
        refine fx_i0 aj_d254 rfl (Nat.le_succ _) (fun _ => rfl) hlv_1 ?_
        refine fx_i0 aj_d254 rfl (Nat.le_succ _) (fun _ => rfl) hlv_6 ?_
        refine fx_i2 aj_d254 rfl (Nat.le_succ _) (fun _ => rfl) hlv_0 ?_
        refine fx_gI aj_d254 rfl (Nat.le_succ _) rfl rfl (Or.inl rfl) ?_
        refine fx_i2 aj_d254 rfl (Nat.le_succ _) (fun _ => rfl) hlv_0 ?_
        refine fx_gI aj_d254 rfl (Nat.le_succ _) rfl rfl (Or.inl rfl) ?_
        refine fx_i0 aj_d254 rfl (Nat.le_succ _) (fun _ => rfl) hlv_7 ?_
        refine fx_cv aj_d254 rfl (Nat.le_succ _) rfl [_, _, _, _, _] rfl rfl (gx_257_ok p1 y6 (X48.1 117 52) (X48.1 117 53) y7) ?_
        rintro _ X50 ⟨w51, rfl, hR50⟩ hok50 hle50
        refine fx_qc hR50 ?_
        show fx_W _ _ _ 133 lv [.int w51, .int w49, .int y5] _ _
        refine fx_cs aj_d254 rfl (Nat.le_succ _) rfl rfl [_, _, _] rfl rfl (gx_242_ok y5 w49 w51) ?_
        rintro _ X52 ⟨w53, rfl, hR52⟩ hok52 hle52
        refine fx_qc hR52 ?_
        show fx_W _ _ _ 136 lv [.int w53] _ _
        refine fx_b0 (tgt := 156) aj_d254 rfl (Nat.le_succ _) rfl (fun q54 => ?_) (fun q54 => ?_)
        · skip
          refine fx_qe (c := (w53).toInt = 0) (fx_t_ne q54) ?_
          show fx_W _ _ _ 156 lv [] _ _
          refine fx_incq aj_d254 rfl (Nat.le_succ _) hlv_7 (by decide) (fun x55 ex55 => ?_)
          obtain ⟨lv56, elv56⟩ : ∃ l, l = aj_set1 lv 7 (.int x55) := ⟨_, rfl⟩
          rw [← elv56]
          have hlv56_0 : aj_lv lv56 0 = some (.ref 117) := fx_e1 elv56 hlv_0 (by decide) (Or.inl (by decide))
          have hlv56_1 : aj_lv lv56 1 = some (.int p1) := fx_e1 elv56 hlv_1 (by decide) (Or.inl (by decide))
          have hlv56_3 : aj_lv lv56 3 = some (.int y3) := fx_e1 elv56 hlv_3 (by decide) (Or.inl (by decide))
          have hlv56_4 : aj_lv lv56 4 = some (.int y4) := fx_e1 elv56 hlv_4 (by decide) (Or.inl (by decide))
          have hlv56_5 : aj_lv lv56 5 = some (.int y5) := fx_e1 elv56 hlv_5 (by decide) (Or.inl (by decide))
          have hlv56_6 : aj_lv lv56 6 = some (.int y6) := fx_e1 elv56 hlv_6 (by decide) (Or.inr rfl)
          have hlv56_7 : aj_lv lv56 7 = some (.int x55) := by rw [elv56]; exact ak_set1_eq _ _ _
          show fx_W _ _ _ 159 lv56 [] _ _
          refine fx_n (pc' := 88) (lv' := lv56) (st' := []) aj_d254 rfl (Nat.le_succ _) (fun _ => rfl) ?_
          exact (ih.2.2) lv56 (y3) (y4) (y5) (y6) (x55) X52  hlv56_0 hlv56_1 hlv56_3 hlv56_4 hlv56_5 hlv56_6 hlv56_7
        · skip
          refine fx_qi (c := (w53).toInt = 0) (fx_f_ne q54) ?_
          show fx_W _ _ _ 139 lv [] _ _
          refine fx_i2 aj_d254 rfl (Nat.le_succ _) (fun _ => rfl) hlv_0 ?_
          refine fx_gF aj_d254 rfl (Nat.le_succ _) rfl rfl fx_in_11_20 (t := 136) rfl (fun hA57 => ?_)
          refine fx_i2 aj_d254 rfl (Nat.le_succ _) (fun _ => rfl) hlv_0 ?_
          refine fx_i0 aj_d254 rfl (Nat.le_succ _) (fun _ => rfl) hlv_1 ?_
          refine fx_i0 aj_d254 rfl (Nat.le_succ _) (fun _ => rfl) hlv_6 ?_
          refine fx_cv aj_d254 rfl (Nat.le_succ _) rfl [_, _] rfl rfl (gx_225_ok p1 y6) ?_
          rintro _ X58 ⟨w59, rfl, hR58⟩ hok58 hle58
          refine fx_qc hR58 ?_
          show fx_W _ _ _ 150 lv [.int w59, .ref 136] _ _
          refine fx_i0 aj_d254 rfl (Nat.le_succ _) (fun _ => rfl) hlv_7 ?_
          refine fx_n (pc' := 153) (lv' := lv) (st' := [.int (Int32.ofInt 0), .int y7, .int w59, .ref 136]) aj_d254 rfl (Nat.le_succ _) (fun _ => rfl) ?_
          refine fx_cs aj_d254 rfl (Nat.le_succ _) rfl rfl [_, _, _, _] rfl rfl (gx_228_ok 136 w59 y7 (Int32.ofInt 0)) ?_
          rintro _ X60 ⟨w61, rfl, hR60⟩ hok60 hle60
          refine fx_qc hR60 ?_
          show fx_W _ _ _ 156 lv [] _ _
          refine fx_incq aj_d254 rfl (Nat.le_succ _) hlv_7 (by decide) (fun x62 ex62 => ?_)
          obtain ⟨lv63, elv63⟩ : ∃ l, l = aj_set1 lv 7 (.int x62) := ⟨_, rfl⟩
          rw [← elv63]
          have hlv63_0 : aj_lv lv63 0 = some (.ref 117) := fx_e1 elv63 hlv_0 (by decide) (Or.inl (by decide))
          have hlv63_1 : aj_lv lv63 1 = some (.int p1) := fx_e1 elv63 hlv_1 (by decide) (Or.inl (by decide))
          have hlv63_3 : aj_lv lv63 3 = some (.int y3) := fx_e1 elv63 hlv_3 (by decide) (Or.inl (by decide))
          have hlv63_4 : aj_lv lv63 4 = some (.int y4) := fx_e1 elv63 hlv_4 (by decide) (Or.inl (by decide))
          have hlv63_5 : aj_lv lv63 5 = some (.int y5) := fx_e1 elv63 hlv_5 (by decide) (Or.inl (by decide))
          have hlv63_6 : aj_lv lv63 6 = some (.int y6) := fx_e1 elv63 hlv_6 (by decide) (Or.inr rfl)
          have hlv63_7 : aj_lv lv63 7 = some (.int x62) := by rw [elv63]; exact ak_set1_eq _ _ _
          show fx_W _ _ _ 159 lv63 [] _ _
          refine fx_n (pc' := 88) (lv' := lv63) (st' := []) aj_d254 rfl (Nat.le_succ _) (fun _ => rfl) ?_
          exact (ih.2.2) lv63 (y3) (y4) (y5) (y6) (x62) X60  hlv63_0 hlv63_1 hlv63_3 hlv63_4 hlv63_5 hlv63_6 hlv63_7
theorem gx_254_ok {tb : aj_T} (p1 : Int32) {X : fx_X} : fx_K tb 254 [.ref 117, .int p1] X (fx_Q fx_qI (fun v X' => gx_254 p1 X v X')) := by
  refine fx_m aj_m254_at rfl (fun N => ?_)
  refine fx_mono (Q := fx_Q fx_qI (fun v X' => ∃ n : Nat, gxE_254 p1 (gxF_254 p1 n) X v X')) (fun r X' h => h) ?_
  unfold gxE_254
  show fx_W _ _ _ 0 [(0, .ref 117), (1, .int p1)] [] _ _
  obtain ⟨lv1, elv1⟩ : ∃ l : aj_V, l = [(0, .ref 117), (1, .int p1)] := ⟨_, rfl⟩
  rw [← elv1]
  have hlv1_0 : aj_lv lv1 0 = some (.ref 117) := by rw [elv1]; rfl
  have hlv1_1 : aj_lv lv1 1 = some (.int p1) := by rw [elv1]; rfl
  refine fx_i2 aj_d254 rfl (Nat.le_succ _) (fun _ => rfl) hlv1_0 ?_
  refine fx_n (pc' := 2) (lv' := lv1) (st' := [.int (Int32.ofInt 0), .ref 117]) aj_d254 rfl (Nat.le_succ _) (fun _ => rfl) ?_
  refine fx_pI aj_d254 rfl (Nat.le_succ _) rfl rfl (Or.inr (Or.inl rfl)) fx_no_11_54 (by decide) ?_
  refine fx_qX (fun X2 eX2 => ?_)
  show fx_W _ _ _ 5 lv1 [] _ _
  refine fx_n (pc' := 6) (lv' := lv1) (st' := [.int (Int32.ofInt 1)]) aj_d254 rfl (Nat.le_succ _) (fun _ => rfl) ?_
  refine fx_s0 (j := 2) aj_d254 rfl (Nat.le_succ _) (by decide) (fun _ => rfl) ?_
  obtain ⟨lv3, elv3⟩ : ∃ l, l = aj_set1 lv1 2 (.int (Int32.ofInt 1)) := ⟨_, rfl⟩
  rw [← elv3]
  have hlv3_0 : aj_lv lv3 0 = some (.ref 117) := fx_e1 elv3 hlv1_0 (by decide) (Or.inl (by decide))
  have hlv3_1 : aj_lv lv3 1 = some (.int p1) := fx_e1 elv3 hlv1_1 (by decide) (Or.inr rfl)
  have hlv3_2 : aj_lv lv3 2 = some (.int (Int32.ofInt 1)) := by rw [elv3]; exact ak_set1_eq _ _ _
  show fx_W _ _ _ 7 lv3 [] _ _
  exact ((gxL_254 p1 N).1) lv3 ((Int32.ofInt 1)) X2  hlv3_0 hlv3_1 hlv3_2
def gxT_253_2 (p1 : Int32) (P : Nat → List Int32 → List Int64 → List Nat → fx_X → Int32 → fx_X → Prop) (y2 : Int32) (X : fx_X) (v : Int32) (X' : fx_X) : Prop :=
  (if (y2).toInt = 0 then (v = y2 ∧ X' = X) else (∃ (w5 : Int32) (X4 : fx_X), gx_220 ((Int8.ofInt 91).toInt32) X w5 X4 ∧ (if (w5).toInt = 0 then (∃ (w29 : Int32) (X28 : fx_X), gx_220 ((Int8.ofInt 58).toInt32) X4 w29 X28 ∧ (if (w29).toInt = 0 then (∃ (w53 : Int32) (X52 : fx_X), gx_220 ((Int8.ofInt 123).toInt32) X28 w53 X52 ∧ (if (w53).toInt = 0 then (∃ (w77 : Int32) (X76 : fx_X), gx_220 ((Int8.ofInt 35).toInt32) X52 w77 X76 ∧ (if (w77).toInt = 0 then (v = y2 ∧ X' = X76) else (∃ (w80 : Int32) (X79 : fx_X), gx_220 ((Int8.ofInt 91).toInt32) X76 w80 X79 ∧ (if (w80).toInt = 0 then (∃ (w83 : Int32) (X82 : fx_X), gx_220 ((Int8.ofInt 58).toInt32) X79 w83 X82 ∧ (if (w83).toInt = 0 then (∃ (w86 : Int32) (X85 : fx_X), gx_220 ((Int8.ofInt 123).toInt32) X82 w86 X85 ∧ (if (w86).toInt = 0 then (∃ (w89 : Int32) (X88 : fx_X), gx_263 p1 X85 w89 X88 ∧ P 2 [w89] [] [] X88 v X') else (∃ (w92 : Int32) (X91 : fx_X), gx_262 p1 X85 w92 X91 ∧ P 2 [w92] [] [] X91 v X'))) else (∃ (w95 : Int32) (X94 : fx_X), gx_260 p1 X82 w95 X94 ∧ P 2 [w95] [] [] X94 v X'))) else (∃ (w98 : Int32) (X97 : fx_X), gx_254 p1 X79 w98 X97 ∧ P 2 [w98] [] [] X97 v X'))))) else (∃ (w56 : Int32) (X55 : fx_X), gx_220 ((Int8.ofInt 91).toInt32) X52 w56 X55 ∧ (if (w56).toInt = 0 then (∃ (w59 : Int32) (X58 : fx_X), gx_220 ((Int8.ofInt 58).toInt32) X55 w59 X58 ∧ (if (w59).toInt = 0 then (∃ (w62 : Int32) (X61 : fx_X), gx_220 ((Int8.ofInt 123).toInt32) X58 w62 X61 ∧ (if (w62).toInt = 0 then (∃ (w65 : Int32) (X64 : fx_X), gx_263 p1 X61 w65 X64 ∧ P 2 [w65] [] [] X64 v X') else (∃ (w68 : Int32) (X67 : fx_X), gx_262 p1 X61 w68 X67 ∧ P 2 [w68] [] [] X67 v X'))) else (∃ (w71 : Int32) (X70 : fx_X), gx_260 p1 X58 w71 X70 ∧ P 2 [w71] [] [] X70 v X'))) else (∃ (w74 : Int32) (X73 : fx_X), gx_254 p1 X55 w74 X73 ∧ P 2 [w74] [] [] X73 v X'))))) else (∃ (w32 : Int32) (X31 : fx_X), gx_220 ((Int8.ofInt 91).toInt32) X28 w32 X31 ∧ (if (w32).toInt = 0 then (∃ (w35 : Int32) (X34 : fx_X), gx_220 ((Int8.ofInt 58).toInt32) X31 w35 X34 ∧ (if (w35).toInt = 0 then (∃ (w38 : Int32) (X37 : fx_X), gx_220 ((Int8.ofInt 123).toInt32) X34 w38 X37 ∧ (if (w38).toInt = 0 then (∃ (w41 : Int32) (X40 : fx_X), gx_263 p1 X37 w41 X40 ∧ P 2 [w41] [] [] X40 v X') else (∃ (w44 : Int32) (X43 : fx_X), gx_262 p1 X37 w44 X43 ∧ P 2 [w44] [] [] X43 v X'))) else (∃ (w47 : Int32) (X46 : fx_X), gx_260 p1 X34 w47 X46 ∧ P 2 [w47] [] [] X46 v X'))) else (∃ (w50 : Int32) (X49 : fx_X), gx_254 p1 X31 w50 X49 ∧ P 2 [w50] [] [] X49 v X'))))) else (∃ (w8 : Int32) (X7 : fx_X), gx_220 ((Int8.ofInt 91).toInt32) X4 w8 X7 ∧ (if (w8).toInt = 0 then (∃ (w11 : Int32) (X10 : fx_X), gx_220 ((Int8.ofInt 58).toInt32) X7 w11 X10 ∧ (if (w11).toInt = 0 then (∃ (w14 : Int32) (X13 : fx_X), gx_220 ((Int8.ofInt 123).toInt32) X10 w14 X13 ∧ (if (w14).toInt = 0 then (∃ (w17 : Int32) (X16 : fx_X), gx_263 p1 X13 w17 X16 ∧ P 2 [w17] [] [] X16 v X') else (∃ (w20 : Int32) (X19 : fx_X), gx_262 p1 X13 w20 X19 ∧ P 2 [w20] [] [] X19 v X'))) else (∃ (w23 : Int32) (X22 : fx_X), gx_260 p1 X10 w23 X22 ∧ P 2 [w23] [] [] X22 v X'))) else (∃ (w26 : Int32) (X25 : fx_X), gx_254 p1 X7 w26 X25 ∧ P 2 [w26] [] [] X25 v X'))))))
def gxE_253 (p1 : Int32) (P : Nat → List Int32 → List Int64 → List Nat → fx_X → Int32 → fx_X → Prop) (X : fx_X) (v : Int32) (X' : fx_X) : Prop :=
  P 2 [(Int32.ofInt 1)] [] [] X v X'
noncomputable def gxF_253 (p1 : Int32) (n : Nat) : Nat → List Int32 → List Int64 → List Nat → fx_X → Int32 → fx_X → Prop := Nat.rec (motive := fun _ => Nat → List Int32 → List Int64 → List Nat → fx_X → Int32 → fx_X → Prop) (fun _ _ _ _ _ _ _ => False) (fun _ P l is ls rs X v X' => (l = 2 ∧ ∃ (y2 : Int32), is = [y2] ∧ ls = [] ∧ rs = [] ∧ gxT_253_2 p1 P y2 X v X')) n
theorem gxI_253_2 {p1 : Int32} {n : Nat} {y2 : Int32} {X : fx_X} {v : Int32} {X' : fx_X} (h : gxT_253_2 p1 (gxF_253 p1 n) y2 X v X') : gxF_253 p1 (n + 1) 2 [y2] [] [] X v X' := ⟨rfl, y2, rfl, rfl, rfl, h⟩
theorem gxO_253_2 {p1 : Int32} {n : Nat} {y2 : Int32} {X : fx_X} {v : Int32} {X' : fx_X} (h : gxF_253 p1 (n + 1) 2 [y2] [] [] X v X') : gxT_253_2 p1 (gxF_253 p1 n) y2 X v X' := by
  rcases h with ⟨-, _, e1, e2, e3, h⟩
  · cases e1; cases e2; cases e3; exact h
def gx_253 (p1 : Int32) (X : fx_X) (v : Int32) (X' : fx_X) : Prop := ∃ n : Nat, gxE_253 p1 (gxF_253 p1 n) X v X'
theorem gxL_253 {tb : aj_T} (p1 : Int32) : ∀ N : Nat, (∀ (lv : aj_V) (y2 : Int32) (X : fx_X), aj_lv lv 0 = some (.ref 117) → aj_lv lv 1 = some (.int p1) → aj_lv lv 2 = some (.int y2) → fx_W tb aj_m253 N 2 lv [] X (fx_Q fx_qI (fun v X' => ∃ n : Nat, gxF_253 p1 n 2 [y2] [] [] X v X'))) := by
  intro N
  induction N with
  | zero => exact (by intros; exact fx_z)
  | succ N ih =>
    skip
    · intro lv y2 X hlv_0 hlv_1 hlv_2
      refine fx_mono (Q := fx_Q fx_qI (fun v X' => ∃ n : Nat, gxT_253_2 p1 (gxF_253 p1 n) y2 X v X')) (fun r X' ⟨v, e, n, z⟩ => ⟨v, e, n + 1, gxI_253_2 z⟩) ?_
      unfold gxT_253_2
      refine fx_i0 aj_d253 rfl (Nat.le_refl _) (fun _ => rfl) hlv_2 ?_
      refine fx_b0 (tgt := 102) aj_d253 rfl (Nat.le_succ _) rfl (fun q3 => ?_) (fun q3 => ?_)
      · skip
        refine fx_qi (c := (y2).toInt = 0) (fx_t_eq q3) ?_
        show fx_W _ _ _ 102 lv [] _ _
        refine fx_i0 aj_d253 rfl (Nat.le_succ _) (fun _ => rfl) hlv_2 ?_
        exact fx_ri aj_d253 rfl ⟨_, rfl, 0, rfl, rfl⟩
      · skip
        refine fx_qe (c := (y2).toInt = 0) (fx_f_eq q3) ?_
        show fx_W _ _ _ 6 lv [] _ _
        refine fx_i2 aj_d253 rfl (Nat.le_succ _) (fun _ => rfl) hlv_0 ?_
        refine fx_n (pc' := 9) (lv' := lv) (st' := [.int ((Int8.ofInt 91).toInt32), .ref 117]) aj_d253 rfl (Nat.le_succ _) (fun _ => rfl) ?_
        refine fx_cv aj_d253 rfl (Nat.le_succ _) rfl [_] rfl rfl (gx_220_ok ((Int8.ofInt 91).toInt32)) ?_
        rintro _ X4 ⟨w5, rfl, hR4⟩ hok4 hle4
        refine fx_qc hR4 ?_
        show fx_W _ _ _ 12 lv [.int w5] _ _
        refine fx_b0 (tgt := 42) aj_d253 rfl (Nat.le_succ _) rfl (fun q6 => ?_) (fun q6 => ?_)
        · skip
          refine fx_qe (c := (w5).toInt = 0) (fx_t_ne q6) ?_
          show fx_W _ _ _ 42 lv [] _ _
          refine fx_i2 aj_d253 rfl (Nat.le_succ _) (fun _ => rfl) hlv_0 ?_
          refine fx_n (pc' := 45) (lv' := lv) (st' := [.int ((Int8.ofInt 91).toInt32), .ref 117]) aj_d253 rfl (Nat.le_succ _) (fun _ => rfl) ?_
          refine fx_cv aj_d253 rfl (Nat.le_succ _) rfl [_] rfl rfl (gx_220_ok ((Int8.ofInt 91).toInt32)) ?_
          rintro _ X7 ⟨w8, rfl, hR7⟩ hok7 hle7
          refine fx_qc hR7 ?_
          show fx_W _ _ _ 48 lv [.int w8] _ _
          refine fx_b0 (tgt := 59) aj_d253 rfl (Nat.le_succ _) rfl (fun q9 => ?_) (fun q9 => ?_)
          · skip
            refine fx_qi (c := (w8).toInt = 0) (fx_t_eq q9) ?_
            show fx_W _ _ _ 59 lv [] _ _
            refine fx_i2 aj_d253 rfl (Nat.le_succ _) (fun _ => rfl) hlv_0 ?_
            refine fx_n (pc' := 62) (lv' := lv) (st' := [.int ((Int8.ofInt 58).toInt32), .ref 117]) aj_d253 rfl (Nat.le_succ _) (fun _ => rfl) ?_
            refine fx_cv aj_d253 rfl (Nat.le_succ _) rfl [_] rfl rfl (gx_220_ok ((Int8.ofInt 58).toInt32)) ?_
            rintro _ X10 ⟨w11, rfl, hR10⟩ hok10 hle10
            refine fx_qc hR10 ?_
            show fx_W _ _ _ 65 lv [.int w11] _ _
            refine fx_b0 (tgt := 76) aj_d253 rfl (Nat.le_succ _) rfl (fun q12 => ?_) (fun q12 => ?_)
            · skip
              refine fx_qi (c := (w11).toInt = 0) (fx_t_eq q12) ?_
              show fx_W _ _ _ 76 lv [] _ _
              refine fx_i2 aj_d253 rfl (Nat.le_succ _) (fun _ => rfl) hlv_0 ?_
              refine fx_n (pc' := 79) (lv' := lv) (st' := [.int ((Int8.ofInt 123).toInt32), .ref 117]) aj_d253 rfl (Nat.le_succ _) (fun _ => rfl) ?_
              refine fx_cv aj_d253 rfl (Nat.le_succ _) rfl [_] rfl rfl (gx_220_ok ((Int8.ofInt 123).toInt32)) ?_
              rintro _ X13 ⟨w14, rfl, hR13⟩ hok13 hle13
              refine fx_qc hR13 ?_
              show fx_W _ _ _ 82 lv [.int w14] _ _
              refine fx_b0 (tgt := 93) aj_d253 rfl (Nat.le_succ _) rfl (fun q15 => ?_) (fun q15 => ?_)
              · skip
                refine fx_qi (c := (w14).toInt = 0) (fx_t_eq q15) ?_
                show fx_W _ _ _ 93 lv [] _ _
                refine fx_i2 aj_d253 rfl (Nat.le_succ _) (fun _ => rfl) hlv_0 ?_
                refine fx_i0 aj_d253 rfl (Nat.le_succ _) (fun _ => rfl) hlv_1 ?_
                refine fx_cv aj_d253 rfl (Nat.le_succ _) rfl [_] rfl rfl (gx_263_ok p1) ?_
                rintro _ X16 ⟨w17, rfl, hR16⟩ hok16 hle16
                refine fx_qc hR16 ?_
                show fx_W _ _ _ 98 lv [.int w17] _ _
                refine fx_s0 (j := 2) aj_d253 rfl (Nat.le_succ _) (by decide) (fun _ => rfl) ?_
                obtain ⟨lv18, elv18⟩ : ∃ l, l = aj_set1 lv 2 (.int w17) := ⟨_, rfl⟩
                rw [← elv18]
                have hlv18_0 : aj_lv lv18 0 = some (.ref 117) := fx_e1 elv18 hlv_0 (by decide) (Or.inl (by decide))
                have hlv18_1 : aj_lv lv18 1 = some (.int p1) := fx_e1 elv18 hlv_1 (by decide) (Or.inr rfl)
                have hlv18_2 : aj_lv lv18 2 = some (.int w17) := by rw [elv18]; exact ak_set1_eq _ _ _
                show fx_W _ _ _ 99 lv18 [] _ _
                refine fx_n (pc' := 2) (lv' := lv18) (st' := []) aj_d253 rfl (Nat.le_succ _) (fun _ => rfl) ?_
                exact (ih) lv18 (w17) X16  hlv18_0 hlv18_1 hlv18_2
              · skip
                refine fx_qe (c := (w14).toInt = 0) (fx_f_eq q15) ?_
                show fx_W _ _ _ 85 lv [] _ _
                refine fx_i2 aj_d253 rfl (Nat.le_succ _) (fun _ => rfl) hlv_0 ?_
                refine fx_i0 aj_d253 rfl (Nat.le_succ _) (fun _ => rfl) hlv_1 ?_
                refine fx_cv aj_d253 rfl (Nat.le_succ _) rfl [_] rfl rfl (gx_262_ok p1) ?_
                rintro _ X19 ⟨w20, rfl, hR19⟩ hok19 hle19
                refine fx_qc hR19 ?_
                show fx_W _ _ _ 90 lv [.int w20] _ _
                refine fx_n (pc' := 98) (lv' := lv) (st' := [.int w20]) aj_d253 rfl (Nat.le_succ _) (fun _ => rfl) ?_
                refine fx_s0 (j := 2) aj_d253 rfl (Nat.le_succ _) (by decide) (fun _ => rfl) ?_
                obtain ⟨lv21, elv21⟩ : ∃ l, l = aj_set1 lv 2 (.int w20) := ⟨_, rfl⟩
                rw [← elv21]
                have hlv21_0 : aj_lv lv21 0 = some (.ref 117) := fx_e1 elv21 hlv_0 (by decide) (Or.inl (by decide))
                have hlv21_1 : aj_lv lv21 1 = some (.int p1) := fx_e1 elv21 hlv_1 (by decide) (Or.inr rfl)
                have hlv21_2 : aj_lv lv21 2 = some (.int w20) := by rw [elv21]; exact ak_set1_eq _ _ _
                show fx_W _ _ _ 99 lv21 [] _ _
                refine fx_n (pc' := 2) (lv' := lv21) (st' := []) aj_d253 rfl (Nat.le_succ _) (fun _ => rfl) ?_
                exact (ih) lv21 (w20) X19  hlv21_0 hlv21_1 hlv21_2
            · skip
              refine fx_qe (c := (w11).toInt = 0) (fx_f_eq q12) ?_
              show fx_W _ _ _ 68 lv [] _ _
              refine fx_i2 aj_d253 rfl (Nat.le_succ _) (fun _ => rfl) hlv_0 ?_
              refine fx_i0 aj_d253 rfl (Nat.le_succ _) (fun _ => rfl) hlv_1 ?_
              refine fx_cv aj_d253 rfl (Nat.le_succ _) rfl [_] rfl rfl (gx_260_ok p1) ?_
              rintro _ X22 ⟨w23, rfl, hR22⟩ hok22 hle22
              refine fx_qc hR22 ?_
              show fx_W _ _ _ 73 lv [.int w23] _ _
              refine fx_n (pc' := 98) (lv' := lv) (st' := [.int w23]) aj_d253 rfl (Nat.le_succ _) (fun _ => rfl) ?_
              refine fx_s0 (j := 2) aj_d253 rfl (Nat.le_succ _) (by decide) (fun _ => rfl) ?_
              obtain ⟨lv24, elv24⟩ : ∃ l, l = aj_set1 lv 2 (.int w23) := ⟨_, rfl⟩
              rw [← elv24]
              have hlv24_0 : aj_lv lv24 0 = some (.ref 117) := fx_e1 elv24 hlv_0 (by decide) (Or.inl (by decide))
              have hlv24_1 : aj_lv lv24 1 = some (.int p1) := fx_e1 elv24 hlv_1 (by decide) (Or.inr rfl)
              have hlv24_2 : aj_lv lv24 2 = some (.int w23) := by rw [elv24]; exact ak_set1_eq _ _ _
              show fx_W _ _ _ 99 lv24 [] _ _
              refine fx_n (pc' := 2) (lv' := lv24) (st' := []) aj_d253 rfl (Nat.le_succ _) (fun _ => rfl) ?_
              exact (ih) lv24 (w23) X22  hlv24_0 hlv24_1 hlv24_2
          · skip
            refine fx_qe (c := (w8).toInt = 0) (fx_f_eq q9) ?_
            show fx_W _ _ _ 51 lv [] _ _
            refine fx_i2 aj_d253 rfl (Nat.le_succ _) (fun _ => rfl) hlv_0 ?_
            refine fx_i0 aj_d253 rfl (Nat.le_succ _) (fun _ => rfl) hlv_1 ?_
            refine fx_cv aj_d253 rfl (Nat.le_succ _) rfl [_] rfl rfl (gx_254_ok p1) ?_
            rintro _ X25 ⟨w26, rfl, hR25⟩ hok25 hle25
            refine fx_qc hR25 ?_
            show fx_W _ _ _ 56 lv [.int w26] _ _
            refine fx_n (pc' := 98) (lv' := lv) (st' := [.int w26]) aj_d253 rfl (Nat.le_succ _) (fun _ => rfl) ?_
            refine fx_s0 (j := 2) aj_d253 rfl (Nat.le_succ _) (by decide) (fun _ => rfl) ?_
            obtain ⟨lv27, elv27⟩ : ∃ l, l = aj_set1 lv 2 (.int w26) := ⟨_, rfl⟩
            rw [← elv27]
            have hlv27_0 : aj_lv lv27 0 = some (.ref 117) := fx_e1 elv27 hlv_0 (by decide) (Or.inl (by decide))
            have hlv27_1 : aj_lv lv27 1 = some (.int p1) := fx_e1 elv27 hlv_1 (by decide) (Or.inr rfl)
            have hlv27_2 : aj_lv lv27 2 = some (.int w26) := by rw [elv27]; exact ak_set1_eq _ _ _
            show fx_W _ _ _ 99 lv27 [] _ _
            refine fx_n (pc' := 2) (lv' := lv27) (st' := []) aj_d253 rfl (Nat.le_succ _) (fun _ => rfl) ?_
            exact (ih) lv27 (w26) X25  hlv27_0 hlv27_1 hlv27_2
        · skip
          refine fx_qi (c := (w5).toInt = 0) (fx_f_ne q6) ?_
          show fx_W _ _ _ 15 lv [] _ _
          refine fx_i2 aj_d253 rfl (Nat.le_succ _) (fun _ => rfl) hlv_0 ?_
          refine fx_n (pc' := 18) (lv' := lv) (st' := [.int ((Int8.ofInt 58).toInt32), .ref 117]) aj_d253 rfl (Nat.le_succ _) (fun _ => rfl) ?_
          refine fx_cv aj_d253 rfl (Nat.le_succ _) rfl [_] rfl rfl (gx_220_ok ((Int8.ofInt 58).toInt32)) ?_
          rintro _ X28 ⟨w29, rfl, hR28⟩ hok28 hle28
          refine fx_qc hR28 ?_
          show fx_W _ _ _ 21 lv [.int w29] _ _
          refine fx_b0 (tgt := 42) aj_d253 rfl (Nat.le_succ _) rfl (fun q30 => ?_) (fun q30 => ?_)
          · skip
            refine fx_qe (c := (w29).toInt = 0) (fx_t_ne q30) ?_
            show fx_W _ _ _ 42 lv [] _ _
            refine fx_i2 aj_d253 rfl (Nat.le_succ _) (fun _ => rfl) hlv_0 ?_
            refine fx_n (pc' := 45) (lv' := lv) (st' := [.int ((Int8.ofInt 91).toInt32), .ref 117]) aj_d253 rfl (Nat.le_succ _) (fun _ => rfl) ?_
            refine fx_cv aj_d253 rfl (Nat.le_succ _) rfl [_] rfl rfl (gx_220_ok ((Int8.ofInt 91).toInt32)) ?_
            rintro _ X31 ⟨w32, rfl, hR31⟩ hok31 hle31
            refine fx_qc hR31 ?_
            show fx_W _ _ _ 48 lv [.int w32] _ _
            refine fx_b0 (tgt := 59) aj_d253 rfl (Nat.le_succ _) rfl (fun q33 => ?_) (fun q33 => ?_)
            · skip
              refine fx_qi (c := (w32).toInt = 0) (fx_t_eq q33) ?_
              show fx_W _ _ _ 59 lv [] _ _
              refine fx_i2 aj_d253 rfl (Nat.le_succ _) (fun _ => rfl) hlv_0 ?_
              refine fx_n (pc' := 62) (lv' := lv) (st' := [.int ((Int8.ofInt 58).toInt32), .ref 117]) aj_d253 rfl (Nat.le_succ _) (fun _ => rfl) ?_
              refine fx_cv aj_d253 rfl (Nat.le_succ _) rfl [_] rfl rfl (gx_220_ok ((Int8.ofInt 58).toInt32)) ?_
              rintro _ X34 ⟨w35, rfl, hR34⟩ hok34 hle34
              refine fx_qc hR34 ?_
              show fx_W _ _ _ 65 lv [.int w35] _ _
              refine fx_b0 (tgt := 76) aj_d253 rfl (Nat.le_succ _) rfl (fun q36 => ?_) (fun q36 => ?_)
              · skip
                refine fx_qi (c := (w35).toInt = 0) (fx_t_eq q36) ?_
                show fx_W _ _ _ 76 lv [] _ _
                refine fx_i2 aj_d253 rfl (Nat.le_succ _) (fun _ => rfl) hlv_0 ?_
                refine fx_n (pc' := 79) (lv' := lv) (st' := [.int ((Int8.ofInt 123).toInt32), .ref 117]) aj_d253 rfl (Nat.le_succ _) (fun _ => rfl) ?_
                refine fx_cv aj_d253 rfl (Nat.le_succ _) rfl [_] rfl rfl (gx_220_ok ((Int8.ofInt 123).toInt32)) ?_
                rintro _ X37 ⟨w38, rfl, hR37⟩ hok37 hle37
                refine fx_qc hR37 ?_
                show fx_W _ _ _ 82 lv [.int w38] _ _
                refine fx_b0 (tgt := 93) aj_d253 rfl (Nat.le_succ _) rfl (fun q39 => ?_) (fun q39 => ?_)
                · skip
                  refine fx_qi (c := (w38).toInt = 0) (fx_t_eq q39) ?_
                  show fx_W _ _ _ 93 lv [] _ _
                  refine fx_i2 aj_d253 rfl (Nat.le_succ _) (fun _ => rfl) hlv_0 ?_
                  refine fx_i0 aj_d253 rfl (Nat.le_succ _) (fun _ => rfl) hlv_1 ?_
                  refine fx_cv aj_d253 rfl (Nat.le_succ _) rfl [_] rfl rfl (gx_263_ok p1) ?_
                  rintro _ X40 ⟨w41, rfl, hR40⟩ hok40 hle40
                  refine fx_qc hR40 ?_
                  show fx_W _ _ _ 98 lv [.int w41] _ _
                  refine fx_s0 (j := 2) aj_d253 rfl (Nat.le_succ _) (by decide) (fun _ => rfl) ?_
                  obtain ⟨lv42, elv42⟩ : ∃ l, l = aj_set1 lv 2 (.int w41) := ⟨_, rfl⟩
                  rw [← elv42]
                  have hlv42_0 : aj_lv lv42 0 = some (.ref 117) := fx_e1 elv42 hlv_0 (by decide) (Or.inl (by decide))
                  have hlv42_1 : aj_lv lv42 1 = some (.int p1) := fx_e1 elv42 hlv_1 (by decide) (Or.inr rfl)
                  have hlv42_2 : aj_lv lv42 2 = some (.int w41) := by rw [elv42]; exact ak_set1_eq _ _ _
                  show fx_W _ _ _ 99 lv42 [] _ _
                  refine fx_n (pc' := 2) (lv' := lv42) (st' := []) aj_d253 rfl (Nat.le_succ _) (fun _ => rfl) ?_
                  exact (ih) lv42 (w41) X40  hlv42_0 hlv42_1 hlv42_2
                · skip
                  refine fx_qe (c := (w38).toInt = 0) (fx_f_eq q39) ?_
                  show fx_W _ _ _ 85 lv [] _ _
                  refine fx_i2 aj_d253 rfl (Nat.le_succ _) (fun _ => rfl) hlv_0 ?_
                  refine fx_i0 aj_d253 rfl (Nat.le_succ _) (fun _ => rfl) hlv_1 ?_
                  refine fx_cv aj_d253 rfl (Nat.le_succ _) rfl [_] rfl rfl (gx_262_ok p1) ?_
                  rintro _ X43 ⟨w44, rfl, hR43⟩ hok43 hle43
                  refine fx_qc hR43 ?_
                  show fx_W _ _ _ 90 lv [.int w44] _ _
                  refine fx_n (pc' := 98) (lv' := lv) (st' := [.int w44]) aj_d253 rfl (Nat.le_succ _) (fun _ => rfl) ?_
                  refine fx_s0 (j := 2) aj_d253 rfl (Nat.le_succ _) (by decide) (fun _ => rfl) ?_
                  obtain ⟨lv45, elv45⟩ : ∃ l, l = aj_set1 lv 2 (.int w44) := ⟨_, rfl⟩
                  rw [← elv45]
                  have hlv45_0 : aj_lv lv45 0 = some (.ref 117) := fx_e1 elv45 hlv_0 (by decide) (Or.inl (by decide))
                  have hlv45_1 : aj_lv lv45 1 = some (.int p1) := fx_e1 elv45 hlv_1 (by decide) (Or.inr rfl)
                  have hlv45_2 : aj_lv lv45 2 = some (.int w44) := by rw [elv45]; exact ak_set1_eq _ _ _
                  show fx_W _ _ _ 99 lv45 [] _ _
                  refine fx_n (pc' := 2) (lv' := lv45) (st' := []) aj_d253 rfl (Nat.le_succ _) (fun _ => rfl) ?_
                  exact (ih) lv45 (w44) X43  hlv45_0 hlv45_1 hlv45_2
              · skip
                refine fx_qe (c := (w35).toInt = 0) (fx_f_eq q36) ?_
                show fx_W _ _ _ 68 lv [] _ _
                refine fx_i2 aj_d253 rfl (Nat.le_succ _) (fun _ => rfl) hlv_0 ?_
                refine fx_i0 aj_d253 rfl (Nat.le_succ _) (fun _ => rfl) hlv_1 ?_
                refine fx_cv aj_d253 rfl (Nat.le_succ _) rfl [_] rfl rfl (gx_260_ok p1) ?_
                rintro _ X46 ⟨w47, rfl, hR46⟩ hok46 hle46
                refine fx_qc hR46 ?_
                show fx_W _ _ _ 73 lv [.int w47] _ _
                refine fx_n (pc' := 98) (lv' := lv) (st' := [.int w47]) aj_d253 rfl (Nat.le_succ _) (fun _ => rfl) ?_
                refine fx_s0 (j := 2) aj_d253 rfl (Nat.le_succ _) (by decide) (fun _ => rfl) ?_
                obtain ⟨lv48, elv48⟩ : ∃ l, l = aj_set1 lv 2 (.int w47) := ⟨_, rfl⟩
                rw [← elv48]
                have hlv48_0 : aj_lv lv48 0 = some (.ref 117) := fx_e1 elv48 hlv_0 (by decide) (Or.inl (by decide))
                have hlv48_1 : aj_lv lv48 1 = some (.int p1) := fx_e1 elv48 hlv_1 (by decide) (Or.inr rfl)
                have hlv48_2 : aj_lv lv48 2 = some (.int w47) := by rw [elv48]; exact ak_set1_eq _ _ _
                show fx_W _ _ _ 99 lv48 [] _ _
                refine fx_n (pc' := 2) (lv' := lv48) (st' := []) aj_d253 rfl (Nat.le_succ _) (fun _ => rfl) ?_
                exact (ih) lv48 (w47) X46  hlv48_0 hlv48_1 hlv48_2
            · skip
              refine fx_qe (c := (w32).toInt = 0) (fx_f_eq q33) ?_
              show fx_W _ _ _ 51 lv [] _ _
              refine fx_i2 aj_d253 rfl (Nat.le_succ _) (fun _ => rfl) hlv_0 ?_
              refine fx_i0 aj_d253 rfl (Nat.le_succ _) (fun _ => rfl) hlv_1 ?_
              refine fx_cv aj_d253 rfl (Nat.le_succ _) rfl [_] rfl rfl (gx_254_ok p1) ?_
              rintro _ X49 ⟨w50, rfl, hR49⟩ hok49 hle49
              refine fx_qc hR49 ?_
              show fx_W _ _ _ 56 lv [.int w50] _ _
              refine fx_n (pc' := 98) (lv' := lv) (st' := [.int w50]) aj_d253 rfl (Nat.le_succ _) (fun _ => rfl) ?_
              refine fx_s0 (j := 2) aj_d253 rfl (Nat.le_succ _) (by decide) (fun _ => rfl) ?_
              obtain ⟨lv51, elv51⟩ : ∃ l, l = aj_set1 lv 2 (.int w50) := ⟨_, rfl⟩
              rw [← elv51]
              have hlv51_0 : aj_lv lv51 0 = some (.ref 117) := fx_e1 elv51 hlv_0 (by decide) (Or.inl (by decide))
              have hlv51_1 : aj_lv lv51 1 = some (.int p1) := fx_e1 elv51 hlv_1 (by decide) (Or.inr rfl)
              have hlv51_2 : aj_lv lv51 2 = some (.int w50) := by rw [elv51]; exact ak_set1_eq _ _ _
              show fx_W _ _ _ 99 lv51 [] _ _
              refine fx_n (pc' := 2) (lv' := lv51) (st' := []) aj_d253 rfl (Nat.le_succ _) (fun _ => rfl) ?_
              exact (ih) lv51 (w50) X49  hlv51_0 hlv51_1 hlv51_2
          · skip
            refine fx_qi (c := (w29).toInt = 0) (fx_f_ne q30) ?_
            show fx_W _ _ _ 24 lv [] _ _
            refine fx_i2 aj_d253 rfl (Nat.le_succ _) (fun _ => rfl) hlv_0 ?_
            refine fx_n (pc' := 27) (lv' := lv) (st' := [.int ((Int8.ofInt 123).toInt32), .ref 117]) aj_d253 rfl (Nat.le_succ _) (fun _ => rfl) ?_
            refine fx_cv aj_d253 rfl (Nat.le_succ _) rfl [_] rfl rfl (gx_220_ok ((Int8.ofInt 123).toInt32)) ?_
            rintro _ X52 ⟨w53, rfl, hR52⟩ hok52 hle52
            refine fx_qc hR52 ?_
            show fx_W _ _ _ 30 lv [.int w53] _ _
            refine fx_b0 (tgt := 42) aj_d253 rfl (Nat.le_succ _) rfl (fun q54 => ?_) (fun q54 => ?_)
            · skip
              refine fx_qe (c := (w53).toInt = 0) (fx_t_ne q54) ?_
              show fx_W _ _ _ 42 lv [] _ _
              refine fx_i2 aj_d253 rfl (Nat.le_succ _) (fun _ => rfl) hlv_0 ?_
              refine fx_n (pc' := 45) (lv' := lv) (st' := [.int ((Int8.ofInt 91).toInt32), .ref 117]) aj_d253 rfl (Nat.le_succ _) (fun _ => rfl) ?_
              refine fx_cv aj_d253 rfl (Nat.le_succ _) rfl [_] rfl rfl (gx_220_ok ((Int8.ofInt 91).toInt32)) ?_
              rintro _ X55 ⟨w56, rfl, hR55⟩ hok55 hle55
              refine fx_qc hR55 ?_
              show fx_W _ _ _ 48 lv [.int w56] _ _
              refine fx_b0 (tgt := 59) aj_d253 rfl (Nat.le_succ _) rfl (fun q57 => ?_) (fun q57 => ?_)
              · skip
                refine fx_qi (c := (w56).toInt = 0) (fx_t_eq q57) ?_
                show fx_W _ _ _ 59 lv [] _ _
                refine fx_i2 aj_d253 rfl (Nat.le_succ _) (fun _ => rfl) hlv_0 ?_
                refine fx_n (pc' := 62) (lv' := lv) (st' := [.int ((Int8.ofInt 58).toInt32), .ref 117]) aj_d253 rfl (Nat.le_succ _) (fun _ => rfl) ?_
                refine fx_cv aj_d253 rfl (Nat.le_succ _) rfl [_] rfl rfl (gx_220_ok ((Int8.ofInt 58).toInt32)) ?_
                rintro _ X58 ⟨w59, rfl, hR58⟩ hok58 hle58
                refine fx_qc hR58 ?_
                show fx_W _ _ _ 65 lv [.int w59] _ _
                refine fx_b0 (tgt := 76) aj_d253 rfl (Nat.le_succ _) rfl (fun q60 => ?_) (fun q60 => ?_)
                · skip
                  refine fx_qi (c := (w59).toInt = 0) (fx_t_eq q60) ?_
                  show fx_W _ _ _ 76 lv [] _ _
                  refine fx_i2 aj_d253 rfl (Nat.le_succ _) (fun _ => rfl) hlv_0 ?_
                  refine fx_n (pc' := 79) (lv' := lv) (st' := [.int ((Int8.ofInt 123).toInt32), .ref 117]) aj_d253 rfl (Nat.le_succ _) (fun _ => rfl) ?_
                  refine fx_cv aj_d253 rfl (Nat.le_succ _) rfl [_] rfl rfl (gx_220_ok ((Int8.ofInt 123).toInt32)) ?_
                  rintro _ X61 ⟨w62, rfl, hR61⟩ hok61 hle61
                  refine fx_qc hR61 ?_
                  show fx_W _ _ _ 82 lv [.int w62] _ _
                  refine fx_b0 (tgt := 93) aj_d253 rfl (Nat.le_succ _) rfl (fun q63 => ?_) (fun q63 => ?_)
                  · skip
                    refine fx_qi (c := (w62).toInt = 0) (fx_t_eq q63) ?_
                    show fx_W _ _ _ 93 lv [] _ _
                    refine fx_i2 aj_d253 rfl (Nat.le_succ _) (fun _ => rfl) hlv_0 ?_
                    refine fx_i0 aj_d253 rfl (Nat.le_succ _) (fun _ => rfl) hlv_1 ?_
                    refine fx_cv aj_d253 rfl (Nat.le_succ _) rfl [_] rfl rfl (gx_263_ok p1) ?_
                    rintro _ X64 ⟨w65, rfl, hR64⟩ hok64 hle64
                    refine fx_qc hR64 ?_
                    show fx_W _ _ _ 98 lv [.int w65] _ _
                    refine fx_s0 (j := 2) aj_d253 rfl (Nat.le_succ _) (by decide) (fun _ => rfl) ?_
                    obtain ⟨lv66, elv66⟩ : ∃ l, l = aj_set1 lv 2 (.int w65) := ⟨_, rfl⟩
                    rw [← elv66]
                    have hlv66_0 : aj_lv lv66 0 = some (.ref 117) := fx_e1 elv66 hlv_0 (by decide) (Or.inl (by decide))
                    have hlv66_1 : aj_lv lv66 1 = some (.int p1) := fx_e1 elv66 hlv_1 (by decide) (Or.inr rfl)
                    have hlv66_2 : aj_lv lv66 2 = some (.int w65) := by rw [elv66]; exact ak_set1_eq _ _ _
                    show fx_W _ _ _ 99 lv66 [] _ _
                    refine fx_n (pc' := 2) (lv' := lv66) (st' := []) aj_d253 rfl (Nat.le_succ _) (fun _ => rfl) ?_
                    exact (ih) lv66 (w65) X64  hlv66_0 hlv66_1 hlv66_2
                  · skip
                    refine fx_qe (c := (w62).toInt = 0) (fx_f_eq q63) ?_
                    show fx_W _ _ _ 85 lv [] _ _
                    refine fx_i2 aj_d253 rfl (Nat.le_succ _) (fun _ => rfl) hlv_0 ?_
                    refine fx_i0 aj_d253 rfl (Nat.le_succ _) (fun _ => rfl) hlv_1 ?_
                    refine fx_cv aj_d253 rfl (Nat.le_succ _) rfl [_] rfl rfl (gx_262_ok p1) ?_
                    rintro _ X67 ⟨w68, rfl, hR67⟩ hok67 hle67
                    refine fx_qc hR67 ?_
                    show fx_W _ _ _ 90 lv [.int w68] _ _
                    refine fx_n (pc' := 98) (lv' := lv) (st' := [.int w68]) aj_d253 rfl (Nat.le_succ _) (fun _ => rfl) ?_
                    refine fx_s0 (j := 2) aj_d253 rfl (Nat.le_succ _) (by decide) (fun _ => rfl) ?_
                    obtain ⟨lv69, elv69⟩ : ∃ l, l = aj_set1 lv 2 (.int w68) := ⟨_, rfl⟩
                    rw [← elv69]
                    have hlv69_0 : aj_lv lv69 0 = some (.ref 117) := fx_e1 elv69 hlv_0 (by decide) (Or.inl (by decide))
                    have hlv69_1 : aj_lv lv69 1 = some (.int p1) := fx_e1 elv69 hlv_1 (by decide) (Or.inr rfl)
                    have hlv69_2 : aj_lv lv69 2 = some (.int w68) := by rw [elv69]; exact ak_set1_eq _ _ _
                    show fx_W _ _ _ 99 lv69 [] _ _
                    refine fx_n (pc' := 2) (lv' := lv69) (st' := []) aj_d253 rfl (Nat.le_succ _) (fun _ => rfl) ?_
                    exact (ih) lv69 (w68) X67  hlv69_0 hlv69_1 hlv69_2
                · skip
                  refine fx_qe (c := (w59).toInt = 0) (fx_f_eq q60) ?_
                  show fx_W _ _ _ 68 lv [] _ _
                  refine fx_i2 aj_d253 rfl (Nat.le_succ _) (fun _ => rfl) hlv_0 ?_
                  refine fx_i0 aj_d253 rfl (Nat.le_succ _) (fun _ => rfl) hlv_1 ?_
                  refine fx_cv aj_d253 rfl (Nat.le_succ _) rfl [_] rfl rfl (gx_260_ok p1) ?_
                  rintro _ X70 ⟨w71, rfl, hR70⟩ hok70 hle70
                  refine fx_qc hR70 ?_
                  show fx_W _ _ _ 73 lv [.int w71] _ _
                  refine fx_n (pc' := 98) (lv' := lv) (st' := [.int w71]) aj_d253 rfl (Nat.le_succ _) (fun _ => rfl) ?_
                  refine fx_s0 (j := 2) aj_d253 rfl (Nat.le_succ _) (by decide) (fun _ => rfl) ?_
                  obtain ⟨lv72, elv72⟩ : ∃ l, l = aj_set1 lv 2 (.int w71) := ⟨_, rfl⟩
                  rw [← elv72]
                  have hlv72_0 : aj_lv lv72 0 = some (.ref 117) := fx_e1 elv72 hlv_0 (by decide) (Or.inl (by decide))
                  have hlv72_1 : aj_lv lv72 1 = some (.int p1) := fx_e1 elv72 hlv_1 (by decide) (Or.inr rfl)
                  have hlv72_2 : aj_lv lv72 2 = some (.int w71) := by rw [elv72]; exact ak_set1_eq _ _ _
                  show fx_W _ _ _ 99 lv72 [] _ _
                  refine fx_n (pc' := 2) (lv' := lv72) (st' := []) aj_d253 rfl (Nat.le_succ _) (fun _ => rfl) ?_
                  exact (ih) lv72 (w71) X70  hlv72_0 hlv72_1 hlv72_2
              · skip
                refine fx_qe (c := (w56).toInt = 0) (fx_f_eq q57) ?_
                show fx_W _ _ _ 51 lv [] _ _
                refine fx_i2 aj_d253 rfl (Nat.le_succ _) (fun _ => rfl) hlv_0 ?_
                refine fx_i0 aj_d253 rfl (Nat.le_succ _) (fun _ => rfl) hlv_1 ?_
                refine fx_cv aj_d253 rfl (Nat.le_succ _) rfl [_] rfl rfl (gx_254_ok p1) ?_
                rintro _ X73 ⟨w74, rfl, hR73⟩ hok73 hle73
                refine fx_qc hR73 ?_
                show fx_W _ _ _ 56 lv [.int w74] _ _
                refine fx_n (pc' := 98) (lv' := lv) (st' := [.int w74]) aj_d253 rfl (Nat.le_succ _) (fun _ => rfl) ?_
                refine fx_s0 (j := 2) aj_d253 rfl (Nat.le_succ _) (by decide) (fun _ => rfl) ?_
                obtain ⟨lv75, elv75⟩ : ∃ l, l = aj_set1 lv 2 (.int w74) := ⟨_, rfl⟩
                rw [← elv75]
                have hlv75_0 : aj_lv lv75 0 = some (.ref 117) := fx_e1 elv75 hlv_0 (by decide) (Or.inl (by decide))
                have hlv75_1 : aj_lv lv75 1 = some (.int p1) := fx_e1 elv75 hlv_1 (by decide) (Or.inr rfl)
                have hlv75_2 : aj_lv lv75 2 = some (.int w74) := by rw [elv75]; exact ak_set1_eq _ _ _
                show fx_W _ _ _ 99 lv75 [] _ _
                refine fx_n (pc' := 2) (lv' := lv75) (st' := []) aj_d253 rfl (Nat.le_succ _) (fun _ => rfl) ?_
                exact (ih) lv75 (w74) X73  hlv75_0 hlv75_1 hlv75_2
            · skip
              refine fx_qi (c := (w53).toInt = 0) (fx_f_ne q54) ?_
              show fx_W _ _ _ 33 lv [] _ _
              refine fx_i2 aj_d253 rfl (Nat.le_succ _) (fun _ => rfl) hlv_0 ?_
              refine fx_n (pc' := 36) (lv' := lv) (st' := [.int ((Int8.ofInt 35).toInt32), .ref 117]) aj_d253 rfl (Nat.le_succ _) (fun _ => rfl) ?_
              refine fx_cv aj_d253 rfl (Nat.le_succ _) rfl [_] rfl rfl (gx_220_ok ((Int8.ofInt 35).toInt32)) ?_
              rintro _ X76 ⟨w77, rfl, hR76⟩ hok76 hle76
              refine fx_qc hR76 ?_
              show fx_W _ _ _ 39 lv [.int w77] _ _
              refine fx_b0 (tgt := 102) aj_d253 rfl (Nat.le_succ _) rfl (fun q78 => ?_) (fun q78 => ?_)
              · skip
                refine fx_qi (c := (w77).toInt = 0) (fx_t_eq q78) ?_
                show fx_W _ _ _ 102 lv [] _ _
                refine fx_i0 aj_d253 rfl (Nat.le_succ _) (fun _ => rfl) hlv_2 ?_
                exact fx_ri aj_d253 rfl ⟨_, rfl, 0, rfl, rfl⟩
              · skip
                refine fx_qe (c := (w77).toInt = 0) (fx_f_eq q78) ?_
                show fx_W _ _ _ 42 lv [] _ _
                refine fx_i2 aj_d253 rfl (Nat.le_succ _) (fun _ => rfl) hlv_0 ?_
                refine fx_n (pc' := 45) (lv' := lv) (st' := [.int ((Int8.ofInt 91).toInt32), .ref 117]) aj_d253 rfl (Nat.le_succ _) (fun _ => rfl) ?_
                refine fx_cv aj_d253 rfl (Nat.le_succ _) rfl [_] rfl rfl (gx_220_ok ((Int8.ofInt 91).toInt32)) ?_
                rintro _ X79 ⟨w80, rfl, hR79⟩ hok79 hle79
                refine fx_qc hR79 ?_
                show fx_W _ _ _ 48 lv [.int w80] _ _
                refine fx_b0 (tgt := 59) aj_d253 rfl (Nat.le_succ _) rfl (fun q81 => ?_) (fun q81 => ?_)
                · skip
                  refine fx_qi (c := (w80).toInt = 0) (fx_t_eq q81) ?_
                  show fx_W _ _ _ 59 lv [] _ _
                  refine fx_i2 aj_d253 rfl (Nat.le_succ _) (fun _ => rfl) hlv_0 ?_
                  refine fx_n (pc' := 62) (lv' := lv) (st' := [.int ((Int8.ofInt 58).toInt32), .ref 117]) aj_d253 rfl (Nat.le_succ _) (fun _ => rfl) ?_
                  refine fx_cv aj_d253 rfl (Nat.le_succ _) rfl [_] rfl rfl (gx_220_ok ((Int8.ofInt 58).toInt32)) ?_
                  rintro _ X82 ⟨w83, rfl, hR82⟩ hok82 hle82
                  refine fx_qc hR82 ?_
                  show fx_W _ _ _ 65 lv [.int w83] _ _
                  refine fx_b0 (tgt := 76) aj_d253 rfl (Nat.le_succ _) rfl (fun q84 => ?_) (fun q84 => ?_)
                  · skip
                    refine fx_qi (c := (w83).toInt = 0) (fx_t_eq q84) ?_
                    show fx_W _ _ _ 76 lv [] _ _
                    refine fx_i2 aj_d253 rfl (Nat.le_succ _) (fun _ => rfl) hlv_0 ?_
                    refine fx_n (pc' := 79) (lv' := lv) (st' := [.int ((Int8.ofInt 123).toInt32), .ref 117]) aj_d253 rfl (Nat.le_succ _) (fun _ => rfl) ?_
                    refine fx_cv aj_d253 rfl (Nat.le_succ _) rfl [_] rfl rfl (gx_220_ok ((Int8.ofInt 123).toInt32)) ?_
                    rintro _ X85 ⟨w86, rfl, hR85⟩ hok85 hle85
                    refine fx_qc hR85 ?_
                    show fx_W _ _ _ 82 lv [.int w86] _ _
                    refine fx_b0 (tgt := 93) aj_d253 rfl (Nat.le_succ _) rfl (fun q87 => ?_) (fun q87 => ?_)
                    · skip
                      refine fx_qi (c := (w86).toInt = 0) (fx_t_eq q87) ?_
                      show fx_W _ _ _ 93 lv [] _ _
                      refine fx_i2 aj_d253 rfl (Nat.le_succ _) (fun _ => rfl) hlv_0 ?_
                      refine fx_i0 aj_d253 rfl (Nat.le_succ _) (fun _ => rfl) hlv_1 ?_
                      refine fx_cv aj_d253 rfl (Nat.le_succ _) rfl [_] rfl rfl (gx_263_ok p1) ?_
                      rintro _ X88 ⟨w89, rfl, hR88⟩ hok88 hle88
                      refine fx_qc hR88 ?_
                      show fx_W _ _ _ 98 lv [.int w89] _ _
                      refine fx_s0 (j := 2) aj_d253 rfl (Nat.le_succ _) (by decide) (fun _ => rfl) ?_
                      obtain ⟨lv90, elv90⟩ : ∃ l, l = aj_set1 lv 2 (.int w89) := ⟨_, rfl⟩
                      rw [← elv90]
                      have hlv90_0 : aj_lv lv90 0 = some (.ref 117) := fx_e1 elv90 hlv_0 (by decide) (Or.inl (by decide))
                      have hlv90_1 : aj_lv lv90 1 = some (.int p1) := fx_e1 elv90 hlv_1 (by decide) (Or.inr rfl)
                      have hlv90_2 : aj_lv lv90 2 = some (.int w89) := by rw [elv90]; exact ak_set1_eq _ _ _
                      show fx_W _ _ _ 99 lv90 [] _ _
                      refine fx_n (pc' := 2) (lv' := lv90) (st' := []) aj_d253 rfl (Nat.le_succ _) (fun _ => rfl) ?_
                      exact (ih) lv90 (w89) X88  hlv90_0 hlv90_1 hlv90_2
                    · skip
                      refine fx_qe (c := (w86).toInt = 0) (fx_f_eq q87) ?_
                      show fx_W _ _ _ 85 lv [] _ _
                      refine fx_i2 aj_d253 rfl (Nat.le_succ _) (fun _ => rfl) hlv_0 ?_
                      refine fx_i0 aj_d253 rfl (Nat.le_succ _) (fun _ => rfl) hlv_1 ?_
                      refine fx_cv aj_d253 rfl (Nat.le_succ _) rfl [_] rfl rfl (gx_262_ok p1) ?_
                      rintro _ X91 ⟨w92, rfl, hR91⟩ hok91 hle91
                      refine fx_qc hR91 ?_
                      show fx_W _ _ _ 90 lv [.int w92] _ _
                      refine fx_n (pc' := 98) (lv' := lv) (st' := [.int w92]) aj_d253 rfl (Nat.le_succ _) (fun _ => rfl) ?_
                      refine fx_s0 (j := 2) aj_d253 rfl (Nat.le_succ _) (by decide) (fun _ => rfl) ?_
                      obtain ⟨lv93, elv93⟩ : ∃ l, l = aj_set1 lv 2 (.int w92) := ⟨_, rfl⟩
                      rw [← elv93]
                      have hlv93_0 : aj_lv lv93 0 = some (.ref 117) := fx_e1 elv93 hlv_0 (by decide) (Or.inl (by decide))
                      have hlv93_1 : aj_lv lv93 1 = some (.int p1) := fx_e1 elv93 hlv_1 (by decide) (Or.inr rfl)
                      have hlv93_2 : aj_lv lv93 2 = some (.int w92) := by rw [elv93]; exact ak_set1_eq _ _ _
                      show fx_W _ _ _ 99 lv93 [] _ _
                      refine fx_n (pc' := 2) (lv' := lv93) (st' := []) aj_d253 rfl (Nat.le_succ _) (fun _ => rfl) ?_
                      exact (ih) lv93 (w92) X91  hlv93_0 hlv93_1 hlv93_2
                  · skip
                    refine fx_qe (c := (w83).toInt = 0) (fx_f_eq q84) ?_
                    show fx_W _ _ _ 68 lv [] _ _
                    refine fx_i2 aj_d253 rfl (Nat.le_succ _) (fun _ => rfl) hlv_0 ?_
                    refine fx_i0 aj_d253 rfl (Nat.le_succ _) (fun _ => rfl) hlv_1 ?_
                    refine fx_cv aj_d253 rfl (Nat.le_succ _) rfl [_] rfl rfl (gx_260_ok p1) ?_
                    rintro _ X94 ⟨w95, rfl, hR94⟩ hok94 hle94
                    refine fx_qc hR94 ?_
                    show fx_W _ _ _ 73 lv [.int w95] _ _
                    refine fx_n (pc' := 98) (lv' := lv) (st' := [.int w95]) aj_d253 rfl (Nat.le_succ _) (fun _ => rfl) ?_
                    refine fx_s0 (j := 2) aj_d253 rfl (Nat.le_succ _) (by decide) (fun _ => rfl) ?_
                    obtain ⟨lv96, elv96⟩ : ∃ l, l = aj_set1 lv 2 (.int w95) := ⟨_, rfl⟩
                    rw [← elv96]
                    have hlv96_0 : aj_lv lv96 0 = some (.ref 117) := fx_e1 elv96 hlv_0 (by decide) (Or.inl (by decide))
                    have hlv96_1 : aj_lv lv96 1 = some (.int p1) := fx_e1 elv96 hlv_1 (by decide) (Or.inr rfl)
                    have hlv96_2 : aj_lv lv96 2 = some (.int w95) := by rw [elv96]; exact ak_set1_eq _ _ _
                    show fx_W _ _ _ 99 lv96 [] _ _
                    refine fx_n (pc' := 2) (lv' := lv96) (st' := []) aj_d253 rfl (Nat.le_succ _) (fun _ => rfl) ?_
                    exact (ih) lv96 (w95) X94  hlv96_0 hlv96_1 hlv96_2
                · skip
                  refine fx_qe (c := (w80).toInt = 0) (fx_f_eq q81) ?_
                  show fx_W _ _ _ 51 lv [] _ _
                  refine fx_i2 aj_d253 rfl (Nat.le_succ _) (fun _ => rfl) hlv_0 ?_
                  refine fx_i0 aj_d253 rfl (Nat.le_succ _) (fun _ => rfl) hlv_1 ?_
                  refine fx_cv aj_d253 rfl (Nat.le_succ _) rfl [_] rfl rfl (gx_254_ok p1) ?_
                  rintro _ X97 ⟨w98, rfl, hR97⟩ hok97 hle97
                  refine fx_qc hR97 ?_
                  show fx_W _ _ _ 56 lv [.int w98] _ _
                  refine fx_n (pc' := 98) (lv' := lv) (st' := [.int w98]) aj_d253 rfl (Nat.le_succ _) (fun _ => rfl) ?_
                  refine fx_s0 (j := 2) aj_d253 rfl (Nat.le_succ _) (by decide) (fun _ => rfl) ?_
                  obtain ⟨lv99, elv99⟩ : ∃ l, l = aj_set1 lv 2 (.int w98) := ⟨_, rfl⟩
                  rw [← elv99]
                  have hlv99_0 : aj_lv lv99 0 = some (.ref 117) := fx_e1 elv99 hlv_0 (by decide) (Or.inl (by decide))
                  have hlv99_1 : aj_lv lv99 1 = some (.int p1) := fx_e1 elv99 hlv_1 (by decide) (Or.inr rfl)
                  have hlv99_2 : aj_lv lv99 2 = some (.int w98) := by rw [elv99]; exact ak_set1_eq _ _ _
                  show fx_W _ _ _ 99 lv99 [] _ _
                  refine fx_n (pc' := 2) (lv' := lv99) (st' := []) aj_d253 rfl (Nat.le_succ _) (fun _ => rfl) ?_
                  exact (ih) lv99 (w98) X97  hlv99_0 hlv99_1 hlv99_2
theorem gx_253_ok {tb : aj_T} (p1 : Int32) {X : fx_X} : fx_K tb 253 [.ref 117, .int p1] X (fx_Q fx_qI (fun v X' => gx_253 p1 X v X')) := by
  refine fx_m aj_m253_at rfl (fun N => ?_)
  refine fx_mono (Q := fx_Q fx_qI (fun v X' => ∃ n : Nat, gxE_253 p1 (gxF_253 p1 n) X v X')) (fun r X' h => h) ?_
  unfold gxE_253
  show fx_W _ _ _ 0 [(0, .ref 117), (1, .int p1)] [] _ _
  obtain ⟨lv1, elv1⟩ : ∃ l : aj_V, l = [(0, .ref 117), (1, .int p1)] := ⟨_, rfl⟩
  rw [← elv1]
  have hlv1_0 : aj_lv lv1 0 = some (.ref 117) := by rw [elv1]; rfl
  have hlv1_1 : aj_lv lv1 1 = some (.int p1) := by rw [elv1]; rfl
  refine fx_n (pc' := 1) (lv' := lv1) (st' := [.int (Int32.ofInt 1)]) aj_d253 rfl (Nat.le_succ _) (fun _ => rfl) ?_
  refine fx_s0 (j := 2) aj_d253 rfl (Nat.le_succ _) (by decide) (fun _ => rfl) ?_
  obtain ⟨lv2, elv2⟩ : ∃ l, l = aj_set1 lv1 2 (.int (Int32.ofInt 1)) := ⟨_, rfl⟩
  rw [← elv2]
  have hlv2_0 : aj_lv lv2 0 = some (.ref 117) := fx_e1 elv2 hlv1_0 (by decide) (Or.inl (by decide))
  have hlv2_1 : aj_lv lv2 1 = some (.int p1) := fx_e1 elv2 hlv1_1 (by decide) (Or.inr rfl)
  have hlv2_2 : aj_lv lv2 2 = some (.int (Int32.ofInt 1)) := by rw [elv2]; exact ak_set1_eq _ _ _
  show fx_W _ _ _ 2 lv2 [] _ _
  exact ((gxL_253 p1 N)) lv2 ((Int32.ofInt 1)) X  hlv2_0 hlv2_1 hlv2_2
def gx_273 (p1 : Int32) (X : fx_X) (v : Int32) (X' : fx_X) : Prop :=
  (if 0 < ((X.1 117 50)).toInt then ((0 ≤ (((X.1 117 50) - (Int32.ofInt 1))).toInt ∧ (((X.1 117 50) - (Int32.ofInt 1))).toInt < ((64 : Nat) : Int)) ∧ (if ((X.1 140 (((X.1 117 50) - (Int32.ofInt 1))).toInt.toNat)).toInt = (p1).toInt then (v = (Int32.ofInt 1) ∧ X' = X) else (v = (Int32.ofInt 0) ∧ X' = X))) else (v = (Int32.ofInt 0) ∧ X' = X))
theorem gx_273_ok {tb : aj_T} (p1 : Int32) {X : fx_X} : fx_K tb 273 [.ref 117, .int p1] X (fx_Q fx_qI (fun v X' => gx_273 p1 X v X')) := by
  refine fx_m aj_m273_at rfl (fun N => ?_)
  refine fx_mono (Q := fx_Q fx_qI (fun v X' => ∃ n : Nat, gx_273 p1 X v X')) (fun r X' ⟨v, e, _, z⟩ => ⟨v, e, z⟩) ?_
  unfold gx_273
  show fx_W _ _ _ 0 [(0, .ref 117), (1, .int p1)] [] _ _
  obtain ⟨lv1, elv1⟩ : ∃ l : aj_V, l = [(0, .ref 117), (1, .int p1)] := ⟨_, rfl⟩
  rw [← elv1]
  have hlv1_0 : aj_lv lv1 0 = some (.ref 117) := by rw [elv1]; rfl
  have hlv1_1 : aj_lv lv1 1 = some (.int p1) := by rw [elv1]; rfl
  refine fx_i2 aj_d273 rfl (Nat.le_succ _) (fun _ => rfl) hlv1_0 ?_
  refine fx_gI aj_d273 rfl (Nat.le_succ _) rfl rfl (Or.inl rfl) ?_
  refine fx_b0 (tgt := 26) aj_d273 rfl (Nat.le_succ _) rfl (fun q2 => ?_) (fun q2 => ?_)
  · skip
    refine fx_qe (c := 0 < ((X.1 117 50)).toInt) (fx_t_le q2) ?_
    show fx_W _ _ _ 26 lv1 [] _ _
    refine fx_n (pc' := 27) (lv' := lv1) (st' := [.int (Int32.ofInt 0)]) aj_d273 rfl (Nat.le_succ _) (fun _ => rfl) ?_
    exact fx_ri aj_d273 rfl ⟨_, rfl, 0, rfl, rfl⟩
  · skip
    refine fx_qi (c := 0 < ((X.1 117 50)).toInt) (fx_f_le q2) ?_
    show fx_W _ _ _ 7 lv1 [] _ _
    refine fx_i2 aj_d273 rfl (Nat.le_succ _) (fun _ => rfl) hlv1_0 ?_
    refine fx_gF aj_d273 rfl (Nat.le_succ _) rfl rfl fx_in_11_48 (t := 140) rfl (fun hA3 => ?_)
    refine fx_i2 aj_d273 rfl (Nat.le_succ _) (fun _ => rfl) hlv1_0 ?_
    refine fx_gI aj_d273 rfl (Nat.le_succ _) rfl rfl (Or.inl rfl) ?_
    refine fx_n (pc' := 16) (lv' := lv1) (st' := [.int (Int32.ofInt 1), .int (X.1 117 50), .ref 140]) aj_d273 rfl (Nat.le_succ _) (fun _ => rfl) ?_
    refine fx_n (pc' := 17) (lv' := lv1) (st' := [.int ((X.1 117 50) - (Int32.ofInt 1)), .ref 140]) aj_d273 rfl (Nat.le_succ _) (fun _ => rfl) ?_
    refine fx_ld aj_d273 (Or.inl rfl) rfl (Nat.le_succ _) (fun g40 g41 => ?_)
    show fx_W _ _ _ 18 lv1 [.int (X.1 140 (((X.1 117 50) - (Int32.ofInt 1))).toInt.toNat)] _ _
    refine fx_qa (c := 0 ≤ (((X.1 117 50) - (Int32.ofInt 1))).toInt ∧ (((X.1 117 50) - (Int32.ofInt 1))).toInt < ((64 : Nat) : Int)) ⟨g40, fx_lnk g41 hA3⟩ ?_
    refine fx_i0 aj_d273 rfl (Nat.le_succ _) (fun _ => rfl) hlv1_1 ?_
    refine fx_b (tgt := 26) aj_d273 rfl (Nat.le_succ _) rfl (fun q5 => ?_) (fun q5 => ?_)
    · skip
      refine fx_qe (c := ((X.1 140 (((X.1 117 50) - (Int32.ofInt 1))).toInt.toNat)).toInt = (p1).toInt) (fx_t_ne q5) ?_
      show fx_W _ _ _ 26 lv1 [] _ _
      refine fx_n (pc' := 27) (lv' := lv1) (st' := [.int (Int32.ofInt 0)]) aj_d273 rfl (Nat.le_succ _) (fun _ => rfl) ?_
      exact fx_ri aj_d273 rfl ⟨_, rfl, 0, rfl, rfl⟩
    · skip
      refine fx_qi (c := ((X.1 140 (((X.1 117 50) - (Int32.ofInt 1))).toInt.toNat)).toInt = (p1).toInt) (fx_f_ne q5) ?_
      show fx_W _ _ _ 22 lv1 [] _ _
      refine fx_n (pc' := 23) (lv' := lv1) (st' := [.int (Int32.ofInt 1)]) aj_d273 rfl (Nat.le_succ _) (fun _ => rfl) ?_
      refine fx_n (pc' := 27) (lv' := lv1) (st' := [.int (Int32.ofInt 1)]) aj_d273 rfl (Nat.le_succ _) (fun _ => rfl) ?_
      exact fx_ri aj_d273 rfl ⟨_, rfl, 0, rfl, rfl⟩
def gxT_249_18 (P : Nat → List Int32 → List Int64 → List Nat → fx_X → Int32 → fx_X → Prop) (y1 : Int32) (X : fx_X) (v : Int32) (X' : fx_X) : Prop :=
  (if (y1).toInt = 0 then ((if 0 < ((X.1 117 46)).toInt then (∃ (w9 : Int32) (X8 : fx_X), gx_215 (Int32.ofInt 1) (X.1 117 27) X w9 X8 ∧ v = w9 ∧ X' = X8) else (P 348 [] [] [] X v X'))) else (P 22 [] [] [] X v X'))
def gxT_249_22 (P : Nat → List Int32 → List Int64 → List Nat → fx_X → Int32 → fx_X → Prop) (X : fx_X) (v : Int32) (X' : fx_X) : Prop :=
  ∃ (w15 : Int32) (X14 : fx_X), gx_220 ((Int8.ofInt 40).toInt32) X w15 X14 ∧ (if (w15).toInt = 0 then (∃ (w18 : Int32) (X17 : fx_X), gx_250 (X14.1 117 51) X14 w18 X17 ∧ (if (w18).toInt = 0 then (v = (Int32.ofInt 0) ∧ X' = X17) else (∃ X20 : fx_X, X20 = (fx_wI X17 117 51 ((X17.1 117 51) + (Int32.ofInt 1))) ∧ ∃ (w22 : Int32) (X21 : fx_X), gx_253 ((X20.1 117 51) - (Int32.ofInt 1)) X20 w22 X21 ∧ (if (w22).toInt = 0 then (v = (Int32.ofInt 0) ∧ X' = X21) else (P 128 [] [] [] X21 v X'))))) else ((if ((X14.1 117 46)).toInt = 8 then (∃ (w34 : Int32) (X33 : fx_X), gx_215 (Int32.ofInt 2) (X14.1 117 27) X14 w34 X33 ∧ v = w34 ∧ X' = X33) else (∃ X25 : fx_X, X25 = (fx_wI X14 117 46 ((X14.1 117 46) + (Int32.ofInt 1))) ∧ (0 ≤ ((X25.1 117 50)).toInt ∧ ((X25.1 117 50)).toInt < ((64 : Nat) : Int)) ∧ ∃ X28 : fx_X, X28 = (fx_wI X25 140 ((X25.1 117 50)).toInt.toNat ((Int8.ofInt 40).toInt32)) ∧ ∃ X29 : fx_X, X29 = (fx_wI X28 117 50 ((X28.1 117 50) + (Int32.ofInt 1))) ∧ ∃ (w31 : Int32) (X30 : fx_X), gx_214 X29 w31 X30 ∧ (if (w31).toInt = 0 then (v = (Int32.ofInt 0) ∧ X' = X30) else (P 22 [] [] [] X30 v X'))))))
def gxT_249_128 (P : Nat → List Int32 → List Int64 → List Nat → fx_X → Int32 → fx_X → Prop) (X : fx_X) (v : Int32) (X' : fx_X) : Prop :=
  (if 0 < ((X.1 117 46)).toInt then (∃ (w54 : Int32) (X53 : fx_X), gx_220 ((Int8.ofInt 41).toInt32) X w54 X53 ∧ (if (w54).toInt = 0 then (∃ (w57 : Int32) (X56 : fx_X), gx_220 ((Int8.ofInt 43).toInt32) X53 w57 X56 ∧ (if (w57).toInt = 0 then (∃ (w62 : Int32) (X61 : fx_X), gx_220 ((Int8.ofInt 45).toInt32) X56 w62 X61 ∧ (if (w62).toInt = 0 then (∃ (w67 : Int32) (X66 : fx_X), gx_220 ((Int8.ofInt 42).toInt32) X61 w67 X66 ∧ (if (w67).toInt = 0 then (P 18 [(Int32.ofInt 0)] [] [] X66 v X') else (P 241 [(Int32.ofInt 1)] [] [] X66 v X'))) else (P 241 [(Int32.ofInt 1)] [] [] X61 v X'))) else (P 241 [(Int32.ofInt 1)] [] [] X56 v X'))) else (P 144 [] [] [] X53 v X'))) else (∃ (w37 : Int32) (X36 : fx_X), gx_220 ((Int8.ofInt 43).toInt32) X w37 X36 ∧ (if (w37).toInt = 0 then (∃ (w42 : Int32) (X41 : fx_X), gx_220 ((Int8.ofInt 45).toInt32) X36 w42 X41 ∧ (if (w42).toInt = 0 then (∃ (w47 : Int32) (X46 : fx_X), gx_220 ((Int8.ofInt 42).toInt32) X41 w47 X46 ∧ (if (w47).toInt = 0 then (P 18 [(Int32.ofInt 0)] [] [] X46 v X') else (P 241 [(Int32.ofInt 1)] [] [] X46 v X'))) else (P 241 [(Int32.ofInt 1)] [] [] X41 v X'))) else (P 241 [(Int32.ofInt 1)] [] [] X36 v X'))))
def gxT_249_144 (P : Nat → List Int32 → List Int64 → List Nat → fx_X → Int32 → fx_X → Prop) (X : fx_X) (v : Int32) (X' : fx_X) : Prop :=
  ∃ (w115 : Int32) (X114 : fx_X), gx_273 ((Int8.ofInt 40).toInt32) X w115 X114 ∧ (if (w115).toInt = 0 then (∃ (w126 : Int32) (X125 : fx_X), gx_274 X114 w126 X125 ∧ (if (w126).toInt = 0 then (v = (Int32.ofInt 0) ∧ X' = X125) else (P 144 [] [] [] X125 v X'))) else (∃ X117 : fx_X, X117 = (fx_wI X114 117 50 ((X114.1 117 50) - (Int32.ofInt 1))) ∧ ∃ X118 : fx_X, X118 = (fx_wI X117 117 46 ((X117.1 117 46) - (Int32.ofInt 1))) ∧ ∃ (w120 : Int32) (X119 : fx_X), gx_214 X118 w120 X119 ∧ (if (w120).toInt = 0 then (v = (Int32.ofInt 0) ∧ X' = X119) else (∃ (w123 : Int32) (X122 : fx_X), gx_253 ((X119.1 117 51) - (Int32.ofInt 1)) X119 w123 X122 ∧ (if (w123).toInt = 0 then (v = (Int32.ofInt 0) ∧ X' = X122) else (P 128 [] [] [] X122 v X'))))))
def gxT_249_241 (P : Nat → List Int32 → List Int64 → List Nat → fx_X → Int32 → fx_X → Prop) (y1 : Int32) (X : fx_X) (v : Int32) (X' : fx_X) : Prop :=
  ∃ (w74 : Int32) (X73 : fx_X), gx_273 ((Int8.ofInt 42).toInt32) X w74 X73 ∧ (if (w74).toInt = 0 then (∃ (w80 : Int32) (X79 : fx_X), gx_220 ((Int8.ofInt 42).toInt32) X73 w80 X79 ∧ (if (w80).toInt = 0 then (∃ (w93 : Int32) (X92 : fx_X), gx_273 ((Int8.ofInt 43).toInt32) X79 w93 X92 ∧ (if (w93).toInt = 0 then (∃ (w99 : Int32) (X98 : fx_X), gx_273 ((Int8.ofInt 45).toInt32) X92 w99 X98 ∧ (if (w99).toInt = 0 then ((0 ≤ ((X98.1 117 50)).toInt ∧ ((X98.1 117 50)).toInt < ((64 : Nat) : Int)) ∧ ∃ X103 : fx_X, X103 = (fx_wI X98 140 ((X98.1 117 50)).toInt.toNat (X98.1 117 29)) ∧ (0 ≤ ((X103.1 117 50)).toInt ∧ ((X103.1 117 50)).toInt < ((64 : Nat) : Int)) ∧ ∃ X106 : fx_X, X106 = (fx_wI X103 141 ((X103.1 117 50)).toInt.toNat (X103.1 117 27)) ∧ ∃ X107 : fx_X, X107 = (fx_wI X106 117 50 ((X106.1 117 50) + (Int32.ofInt 1))) ∧ ∃ (w109 : Int32) (X108 : fx_X), gx_264 X107 w109 X108 ∧ (if (w109).toInt = 0 then (v = (Int32.ofInt 0) ∧ X' = X108) else (P 18 [y1] [] [] X108 v X'))) else (∃ (w112 : Int32) (X111 : fx_X), gx_274 X98 w112 X111 ∧ (if (w112).toInt = 0 then (v = (Int32.ofInt 0) ∧ X' = X111) else (P 241 [y1] [] [] X111 v X'))))) else (∃ (w96 : Int32) (X95 : fx_X), gx_274 X92 w96 X95 ∧ (if (w96).toInt = 0 then (v = (Int32.ofInt 0) ∧ X' = X95) else (P 241 [y1] [] [] X95 v X'))))) else ((0 ≤ ((X79.1 117 50)).toInt ∧ ((X79.1 117 50)).toInt < ((64 : Nat) : Int)) ∧ ∃ X84 : fx_X, X84 = (fx_wI X79 140 ((X79.1 117 50)).toInt.toNat (X79.1 117 29)) ∧ (0 ≤ ((X84.1 117 50)).toInt ∧ ((X84.1 117 50)).toInt < ((64 : Nat) : Int)) ∧ ∃ X87 : fx_X, X87 = (fx_wI X84 141 ((X84.1 117 50)).toInt.toNat (X84.1 117 27)) ∧ ∃ X88 : fx_X, X88 = (fx_wI X87 117 50 ((X87.1 117 50) + (Int32.ofInt 1))) ∧ ∃ (w90 : Int32) (X89 : fx_X), gx_264 X88 w90 X89 ∧ (if (w90).toInt = 0 then (v = (Int32.ofInt 0) ∧ X' = X89) else (P 18 [y1] [] [] X89 v X'))))) else (∃ (w77 : Int32) (X76 : fx_X), gx_274 X73 w77 X76 ∧ (if (w77).toInt = 0 then (v = (Int32.ofInt 0) ∧ X' = X76) else (P 241 [y1] [] [] X76 v X'))))
def gxT_249_348 (P : Nat → List Int32 → List Int64 → List Nat → fx_X → Int32 → fx_X → Prop) (X : fx_X) (v : Int32) (X' : fx_X) : Prop :=
  (if 0 < ((X.1 117 50)).toInt then (∃ (w12 : Int32) (X11 : fx_X), gx_274 X w12 X11 ∧ (if (w12).toInt = 0 then (v = (Int32.ofInt 0) ∧ X' = X11) else (P 348 [] [] [] X11 v X'))) else (v = (Int32.ofInt 1) ∧ X' = X))
def gxE_249 (P : Nat → List Int32 → List Int64 → List Nat → fx_X → Int32 → fx_X → Prop) (X : fx_X) (v : Int32) (X' : fx_X) : Prop :=
  ∃ X2 : fx_X, X2 = (fx_wI X 117 50 (Int32.ofInt 0)) ∧ ∃ X3 : fx_X, X3 = (fx_wI X2 117 51 ((Int8.ofInt 20).toInt32)) ∧ ∃ X4 : fx_X, X4 = (fx_wI X3 117 46 (Int32.ofInt 0)) ∧ P 18 [(Int32.ofInt 1)] [] [] X4 v X'
noncomputable def gxF_249 (n : Nat) : Nat → List Int32 → List Int64 → List Nat → fx_X → Int32 → fx_X → Prop := Nat.rec (motive := fun _ => Nat → List Int32 → List Int64 → List Nat → fx_X → Int32 → fx_X → Prop) (fun _ _ _ _ _ _ _ => False) (fun _ P l is ls rs X v X' => (l = 18 ∧ ∃ (y1 : Int32), is = [y1] ∧ ls = [] ∧ rs = [] ∧ gxT_249_18 P y1 X v X') ∨ (l = 22 ∧ is = [] ∧ ls = [] ∧ rs = [] ∧ gxT_249_22 P X v X') ∨ (l = 128 ∧ is = [] ∧ ls = [] ∧ rs = [] ∧ gxT_249_128 P X v X') ∨ (l = 144 ∧ is = [] ∧ ls = [] ∧ rs = [] ∧ gxT_249_144 P X v X') ∨ (l = 241 ∧ ∃ (y1 : Int32), is = [y1] ∧ ls = [] ∧ rs = [] ∧ gxT_249_241 P y1 X v X') ∨ (l = 348 ∧ is = [] ∧ ls = [] ∧ rs = [] ∧ gxT_249_348 P X v X')) n
theorem gxI_249_18 {n : Nat} {y1 : Int32} {X : fx_X} {v : Int32} {X' : fx_X} (h : gxT_249_18 (gxF_249 n) y1 X v X') : gxF_249 (n + 1) 18 [y1] [] [] X v X' := Or.inl ⟨rfl, y1, rfl, rfl, rfl, h⟩
theorem gxO_249_18 {n : Nat} {y1 : Int32} {X : fx_X} {v : Int32} {X' : fx_X} (h : gxF_249 (n + 1) 18 [y1] [] [] X v X') : gxT_249_18 (gxF_249 n) y1 X v X' := by
  rcases h with ⟨-, _, e1, e2, e3, h⟩ | ⟨e, -⟩ | ⟨e, -⟩ | ⟨e, -⟩ | ⟨e, -⟩ | ⟨e, -⟩
  · cases e1; cases e2; cases e3; exact h
  · exact absurd e (by decide)
  · exact absurd e (by decide)
  · exact absurd e (by decide)
  · exact absurd e (by decide)
  · exact absurd e (by decide)
theorem gxI_249_22 {n : Nat} {X : fx_X} {v : Int32} {X' : fx_X} (h : gxT_249_22 (gxF_249 n) X v X') : gxF_249 (n + 1) 22 [] [] [] X v X' := Or.inr (Or.inl ⟨rfl, rfl, rfl, rfl, h⟩)
theorem gxO_249_22 {n : Nat} {X : fx_X} {v : Int32} {X' : fx_X} (h : gxF_249 (n + 1) 22 [] [] [] X v X') : gxT_249_22 (gxF_249 n) X v X' := by
  rcases h with ⟨e, -⟩ | ⟨-, e1, e2, e3, h⟩ | ⟨e, -⟩ | ⟨e, -⟩ | ⟨e, -⟩ | ⟨e, -⟩
  · exact absurd e (by decide)
  · cases e1; cases e2; cases e3; exact h
  · exact absurd e (by decide)
  · exact absurd e (by decide)
  · exact absurd e (by decide)
  · exact absurd e (by decide)
theorem gxI_249_128 {n : Nat} {X : fx_X} {v : Int32} {X' : fx_X} (h : gxT_249_128 (gxF_249 n) X v X') : gxF_249 (n + 1) 128 [] [] [] X v X' := Or.inr (Or.inr (Or.inl ⟨rfl, rfl, rfl, rfl, h⟩))
theorem gxO_249_128 {n : Nat} {X : fx_X} {v : Int32} {X' : fx_X} (h : gxF_249 (n + 1) 128 [] [] [] X v X') : gxT_249_128 (gxF_249 n) X v X' := by
  rcases h with ⟨e, -⟩ | ⟨e, -⟩ | ⟨-, e1, e2, e3, h⟩ | ⟨e, -⟩ | ⟨e, -⟩ | ⟨e, -⟩
  · exact absurd e (by decide)
  · exact absurd e (by decide)
  · cases e1; cases e2; cases e3; exact h
  · exact absurd e (by decide)
  · exact absurd e (by decide)
  · exact absurd e (by decide)
theorem gxI_249_144 {n : Nat} {X : fx_X} {v : Int32} {X' : fx_X} (h : gxT_249_144 (gxF_249 n) X v X') : gxF_249 (n + 1) 144 [] [] [] X v X' := Or.inr (Or.inr (Or.inr (Or.inl ⟨rfl, rfl, rfl, rfl, h⟩)))
theorem gxO_249_144 {n : Nat} {X : fx_X} {v : Int32} {X' : fx_X} (h : gxF_249 (n + 1) 144 [] [] [] X v X') : gxT_249_144 (gxF_249 n) X v X' := by
  rcases h with ⟨e, -⟩ | ⟨e, -⟩ | ⟨e, -⟩ | ⟨-, e1, e2, e3, h⟩ | ⟨e, -⟩ | ⟨e, -⟩
  · exact absurd e (by decide)
  · exact absurd e (by decide)
  · exact absurd e (by decide)
  · cases e1; cases e2; cases e3; exact h
  · exact absurd e (by decide)
  · exact absurd e (by decide)
theorem gxI_249_241 {n : Nat} {y1 : Int32} {X : fx_X} {v : Int32} {X' : fx_X} (h : gxT_249_241 (gxF_249 n) y1 X v X') : gxF_249 (n + 1) 241 [y1] [] [] X v X' := Or.inr (Or.inr (Or.inr (Or.inr (Or.inl ⟨rfl, y1, rfl, rfl, rfl, h⟩))))
theorem gxO_249_241 {n : Nat} {y1 : Int32} {X : fx_X} {v : Int32} {X' : fx_X} (h : gxF_249 (n + 1) 241 [y1] [] [] X v X') : gxT_249_241 (gxF_249 n) y1 X v X' := by
  rcases h with ⟨e, -⟩ | ⟨e, -⟩ | ⟨e, -⟩ | ⟨e, -⟩ | ⟨-, _, e1, e2, e3, h⟩ | ⟨e, -⟩
  · exact absurd e (by decide)
  · exact absurd e (by decide)
  · exact absurd e (by decide)
  · exact absurd e (by decide)
  · cases e1; cases e2; cases e3; exact h
  · exact absurd e (by decide)
theorem gxI_249_348 {n : Nat} {X : fx_X} {v : Int32} {X' : fx_X} (h : gxT_249_348 (gxF_249 n) X v X') : gxF_249 (n + 1) 348 [] [] [] X v X' := Or.inr (Or.inr (Or.inr (Or.inr (Or.inr (⟨rfl, rfl, rfl, rfl, h⟩)))))
theorem gxO_249_348 {n : Nat} {X : fx_X} {v : Int32} {X' : fx_X} (h : gxF_249 (n + 1) 348 [] [] [] X v X') : gxT_249_348 (gxF_249 n) X v X' := by
  rcases h with ⟨e, -⟩ | ⟨e, -⟩ | ⟨e, -⟩ | ⟨e, -⟩ | ⟨e, -⟩ | ⟨-, e1, e2, e3, h⟩
  · exact absurd e (by decide)
  · exact absurd e (by decide)
  · exact absurd e (by decide)
  · exact absurd e (by decide)
  · exact absurd e (by decide)
  · cases e1; cases e2; cases e3; exact h
def gx_249 (X : fx_X) (v : Int32) (X' : fx_X) : Prop := ∃ n : Nat, gxE_249 (gxF_249 n) X v X'
theorem gxL_249 {tb : aj_T} : ∀ N : Nat, (∀ (lv : aj_V) (y1 : Int32) (X : fx_X), aj_lv lv 0 = some (.ref 117) → aj_lv lv 1 = some (.int y1) → fx_W tb aj_m249 N 18 lv [] X (fx_Q fx_qI (fun v X' => ∃ n : Nat, gxF_249 n 18 [y1] [] [] X v X'))) ∧ (∀ (lv : aj_V) (X : fx_X), aj_lv lv 0 = some (.ref 117) → fx_W tb aj_m249 N 22 lv [] X (fx_Q fx_qI (fun v X' => ∃ n : Nat, gxF_249 n 22 [] [] [] X v X'))) ∧ (∀ (lv : aj_V) (X : fx_X), aj_lv lv 0 = some (.ref 117) → fx_W tb aj_m249 N 128 lv [] X (fx_Q fx_qI (fun v X' => ∃ n : Nat, gxF_249 n 128 [] [] [] X v X'))) ∧ (∀ (lv : aj_V) (X : fx_X), aj_lv lv 0 = some (.ref 117) → fx_W tb aj_m249 N 144 lv [] X (fx_Q fx_qI (fun v X' => ∃ n : Nat, gxF_249 n 144 [] [] [] X v X'))) ∧ (∀ (lv : aj_V) (y1 : Int32) (X : fx_X), aj_lv lv 0 = some (.ref 117) → aj_lv lv 1 = some (.int y1) → fx_W tb aj_m249 N 241 lv [] X (fx_Q fx_qI (fun v X' => ∃ n : Nat, gxF_249 n 241 [y1] [] [] X v X'))) ∧ (∀ (lv : aj_V) (X : fx_X), aj_lv lv 0 = some (.ref 117) → fx_W tb aj_m249 N 348 lv [] X (fx_Q fx_qI (fun v X' => ∃ n : Nat, gxF_249 n 348 [] [] [] X v X'))) := by
  intro N
  induction N with
  | zero => exact ⟨(by intros; exact fx_z), (by intros; exact fx_z), (by intros; exact fx_z), (by intros; exact fx_z), (by intros; exact fx_z), (by intros; exact fx_z)⟩
  | succ N ih =>
    refine ⟨?_, ?_, ?_, ?_, ?_, ?_⟩
    · intro lv y1 X hlv_0 hlv_1
      refine fx_mono (Q := fx_Q fx_qI (fun v X' => ∃ n : Nat, gxT_249_18 (gxF_249 n) y1 X v X')) (fun r X' ⟨v, e, n, z⟩ => ⟨v, e, n + 1, gxI_249_18 z⟩) ?_
      unfold gxT_249_18
      refine fx_i0 aj_d249 rfl (Nat.le_refl _) (fun _ => rfl) hlv_1 ?_
      refine fx_b0 (tgt := 331) aj_d249 rfl (Nat.le_succ _) rfl (fun q6 => ?_) (fun q6 => ?_)
      · skip
        refine fx_qi (c := (y1).toInt = 0) (fx_t_eq q6) ?_
        show fx_W _ _ _ 331 lv [] _ _
        refine fx_i2 aj_d249 rfl (Nat.le_succ _) (fun _ => rfl) hlv_0 ?_
        refine fx_gI aj_d249 rfl (Nat.le_succ _) rfl rfl (Or.inl rfl) ?_
        refine fx_b0 (tgt := 348) aj_d249 rfl (Nat.le_succ _) rfl (fun q7 => ?_) (fun q7 => ?_)
        · skip
          refine fx_qe (c := 0 < ((X.1 117 46)).toInt) (fx_t_le q7) ?_
          show fx_W _ _ _ 348 lv [] _ _
          exact (ih.2.2.2.2.2) lv X  hlv_0
        · skip
          refine fx_qi (c := 0 < ((X.1 117 46)).toInt) (fx_f_le q7) ?_
          show fx_W _ _ _ 338 lv [] _ _
          refine fx_i2 aj_d249 rfl (Nat.le_succ _) (fun _ => rfl) hlv_0 ?_
          refine fx_n (pc' := 340) (lv' := lv) (st' := [.int (Int32.ofInt 1), .ref 117]) aj_d249 rfl (Nat.le_succ _) (fun _ => rfl) ?_
          refine fx_i2 aj_d249 rfl (Nat.le_succ _) (fun _ => rfl) hlv_0 ?_
          refine fx_gI aj_d249 rfl (Nat.le_succ _) rfl rfl (Or.inl rfl) ?_
          refine fx_cv aj_d249 rfl (Nat.le_succ _) rfl [_, _] rfl rfl (gx_215_ok (Int32.ofInt 1) (X.1 117 27)) ?_
          rintro _ X8 ⟨w9, rfl, hR8⟩ hok8 hle8
          refine fx_qc hR8 ?_
          show fx_W _ _ _ 347 lv [.int w9] _ _
          exact fx_ri aj_d249 rfl ⟨_, rfl, 0, rfl, rfl⟩
      · skip
        refine fx_qe (c := (y1).toInt = 0) (fx_f_eq q6) ?_
        show fx_W _ _ _ 22 lv [] _ _
        exact (ih.2.1) lv X  hlv_0
    · intro lv X hlv_0
      refine fx_mono (Q := fx_Q fx_qI (fun v X' => ∃ n : Nat, gxT_249_22 (gxF_249 n) X v X')) (fun r X' ⟨v, e, n, z⟩ => ⟨v, e, n + 1, gxI_249_22 z⟩) ?_
      unfold gxT_249_22
      refine fx_i2 aj_d249 rfl (Nat.le_refl _) (fun _ => rfl) hlv_0 ?_
      refine fx_n (pc' := 25) (lv' := lv) (st' := [.int ((Int8.ofInt 40).toInt32), .ref 117]) aj_d249 rfl (Nat.le_succ _) (fun _ => rfl) ?_
      refine fx_cv aj_d249 rfl (Nat.le_succ _) rfl [_] rfl rfl (gx_220_ok ((Int8.ofInt 40).toInt32)) ?_
      rintro _ X14 ⟨w15, rfl, hR14⟩ hok14 hle14
      refine fx_qc hR14 ?_
      show fx_W _ _ _ 28 lv [.int w15] _ _
      refine fx_b0 (tgt := 90) aj_d249 rfl (Nat.le_succ _) rfl (fun q16 => ?_) (fun q16 => ?_)
      · skip
        refine fx_qi (c := (w15).toInt = 0) (fx_t_eq q16) ?_
        show fx_W _ _ _ 90 lv [] _ _
        refine fx_i2 aj_d249 rfl (Nat.le_succ _) (fun _ => rfl) hlv_0 ?_
        refine fx_i2 aj_d249 rfl (Nat.le_succ _) (fun _ => rfl) hlv_0 ?_
        refine fx_gI aj_d249 rfl (Nat.le_succ _) rfl rfl (Or.inl rfl) ?_
        refine fx_cv aj_d249 rfl (Nat.le_succ _) rfl [_] rfl rfl (gx_250_ok (X14.1 117 51)) ?_
        rintro _ X17 ⟨w18, rfl, hR17⟩ hok17 hle17
        refine fx_qc hR17 ?_
        show fx_W _ _ _ 98 lv [.int w18] _ _
        refine fx_b0 (tgt := 103) aj_d249 rfl (Nat.le_succ _) rfl (fun q19 => ?_) (fun q19 => ?_)
        · skip
          refine fx_qe (c := (w18).toInt = 0) (fx_t_ne q19) ?_
          show fx_W _ _ _ 103 lv [] _ _
          refine fx_i2 aj_d249 rfl (Nat.le_succ _) (fun _ => rfl) hlv_0 ?_
          refine fx_n (pc' := 105) (lv' := lv) (st' := [.ref 117, .ref 117]) aj_d249 rfl (Nat.le_succ _) (fun _ => rfl) ?_
          refine fx_gI aj_d249 rfl (Nat.le_succ _) rfl rfl (Or.inl rfl) ?_
          refine fx_n (pc' := 109) (lv' := lv) (st' := [.int (Int32.ofInt 1), .int (X17.1 117 51), .ref 117]) aj_d249 rfl (Nat.le_succ _) (fun _ => rfl) ?_
          refine fx_n (pc' := 110) (lv' := lv) (st' := [.int ((X17.1 117 51) + (Int32.ofInt 1)), .ref 117]) aj_d249 rfl (Nat.le_succ _) (fun _ => rfl) ?_
          refine fx_pI aj_d249 rfl (Nat.le_succ _) rfl rfl (Or.inl rfl) fx_no_11_51 (by decide) ?_
          refine fx_qX (fun X20 eX20 => ?_)
          show fx_W _ _ _ 113 lv [] _ _
          refine fx_i2 aj_d249 rfl (Nat.le_succ _) (fun _ => rfl) hlv_0 ?_
          refine fx_i2 aj_d249 rfl (Nat.le_succ _) (fun _ => rfl) hlv_0 ?_
          refine fx_gI aj_d249 rfl (Nat.le_succ _) rfl rfl (Or.inl rfl) ?_
          refine fx_n (pc' := 119) (lv' := lv) (st' := [.int (Int32.ofInt 1), .int (X20.1 117 51), .ref 117]) aj_d249 rfl (Nat.le_succ _) (fun _ => rfl) ?_
          refine fx_n (pc' := 120) (lv' := lv) (st' := [.int ((X20.1 117 51) - (Int32.ofInt 1)), .ref 117]) aj_d249 rfl (Nat.le_succ _) (fun _ => rfl) ?_
          refine fx_cv aj_d249 rfl (Nat.le_succ _) rfl [_] rfl rfl (gx_253_ok ((X20.1 117 51) - (Int32.ofInt 1))) ?_
          rintro _ X21 ⟨w22, rfl, hR21⟩ hok21 hle21
          refine fx_qc hR21 ?_
          show fx_W _ _ _ 123 lv [.int w22] _ _
          refine fx_b0 (tgt := 128) aj_d249 rfl (Nat.le_succ _) rfl (fun q23 => ?_) (fun q23 => ?_)
          · skip
            refine fx_qe (c := (w22).toInt = 0) (fx_t_ne q23) ?_
            show fx_W _ _ _ 128 lv [] _ _
            exact (ih.2.2.1) lv X21  hlv_0
          · skip
            refine fx_qi (c := (w22).toInt = 0) (fx_f_ne q23) ?_
            show fx_W _ _ _ 126 lv [] _ _
            refine fx_n (pc' := 127) (lv' := lv) (st' := [.int (Int32.ofInt 0)]) aj_d249 rfl (Nat.le_succ _) (fun _ => rfl) ?_
            exact fx_ri aj_d249 rfl ⟨_, rfl, 0, rfl, rfl⟩
        · skip
          refine fx_qi (c := (w18).toInt = 0) (fx_f_ne q19) ?_
          show fx_W _ _ _ 101 lv [] _ _
          refine fx_n (pc' := 102) (lv' := lv) (st' := [.int (Int32.ofInt 0)]) aj_d249 rfl (Nat.le_succ _) (fun _ => rfl) ?_
          exact fx_ri aj_d249 rfl ⟨_, rfl, 0, rfl, rfl⟩
      · skip
        refine fx_qe (c := (w15).toInt = 0) (fx_f_eq q16) ?_
        show fx_W _ _ _ 31 lv [] _ _
        refine fx_i2 aj_d249 rfl (Nat.le_succ _) (fun _ => rfl) hlv_0 ?_
        refine fx_gI aj_d249 rfl (Nat.le_succ _) rfl rfl (Or.inl rfl) ?_
        refine fx_n (pc' := 37) (lv' := lv) (st' := [.int ((Int8.ofInt 8).toInt32), .int (X14.1 117 46)]) aj_d249 rfl (Nat.le_succ _) (fun _ => rfl) ?_
        refine fx_b (tgt := 50) aj_d249 rfl (Nat.le_succ _) rfl (fun q24 => ?_) (fun q24 => ?_)
        · skip
          refine fx_qe (c := ((X14.1 117 46)).toInt = 8) (fx_t_ne q24) ?_
          show fx_W _ _ _ 50 lv [] _ _
          refine fx_i2 aj_d249 rfl (Nat.le_succ _) (fun _ => rfl) hlv_0 ?_
          refine fx_n (pc' := 52) (lv' := lv) (st' := [.ref 117, .ref 117]) aj_d249 rfl (Nat.le_succ _) (fun _ => rfl) ?_
          refine fx_gI aj_d249 rfl (Nat.le_succ _) rfl rfl (Or.inl rfl) ?_
          refine fx_n (pc' := 56) (lv' := lv) (st' := [.int (Int32.ofInt 1), .int (X14.1 117 46), .ref 117]) aj_d249 rfl (Nat.le_succ _) (fun _ => rfl) ?_
          refine fx_n (pc' := 57) (lv' := lv) (st' := [.int ((X14.1 117 46) + (Int32.ofInt 1)), .ref 117]) aj_d249 rfl (Nat.le_succ _) (fun _ => rfl) ?_
          refine fx_pI aj_d249 rfl (Nat.le_succ _) rfl rfl (Or.inl rfl) fx_no_11_46 (by decide) ?_
          refine fx_qX (fun X25 eX25 => ?_)
          show fx_W _ _ _ 60 lv [] _ _
          refine fx_i2 aj_d249 rfl (Nat.le_succ _) (fun _ => rfl) hlv_0 ?_
          refine fx_gF aj_d249 rfl (Nat.le_succ _) rfl rfl fx_in_11_48 (t := 140) rfl (fun hA26 => ?_)
          refine fx_i2 aj_d249 rfl (Nat.le_succ _) (fun _ => rfl) hlv_0 ?_
          refine fx_gI aj_d249 rfl (Nat.le_succ _) rfl rfl (Or.inl rfl) ?_
          refine fx_n (pc' := 70) (lv' := lv) (st' := [.int ((Int8.ofInt 40).toInt32), .int (X25.1 117 50), .ref 140]) aj_d249 rfl (Nat.le_succ _) (fun _ => rfl) ?_
          refine fx_st aj_d249 (Or.inl ⟨rfl, rfl⟩) rfl (Nat.le_succ _) (fun g270 g271 => ?_)
          show fx_W _ _ _ _ _ _ (fx_wI X25 140 ((X25.1 117 50)).toInt.toNat ((Int8.ofInt 40).toInt32)) _
          refine fx_qa (c := 0 ≤ ((X25.1 117 50)).toInt ∧ ((X25.1 117 50)).toInt < ((64 : Nat) : Int)) ⟨g270, fx_lnk g271 hA26⟩ ?_
          refine fx_qX (fun X28 eX28 => ?_)
          show fx_W _ _ _ 71 lv [] _ _
          refine fx_i2 aj_d249 rfl (Nat.le_succ _) (fun _ => rfl) hlv_0 ?_
          refine fx_n (pc' := 73) (lv' := lv) (st' := [.ref 117, .ref 117]) aj_d249 rfl (Nat.le_succ _) (fun _ => rfl) ?_
          refine fx_gI aj_d249 rfl (Nat.le_succ _) rfl rfl (Or.inl rfl) ?_
          refine fx_n (pc' := 77) (lv' := lv) (st' := [.int (Int32.ofInt 1), .int (X28.1 117 50), .ref 117]) aj_d249 rfl (Nat.le_succ _) (fun _ => rfl) ?_
          refine fx_n (pc' := 78) (lv' := lv) (st' := [.int ((X28.1 117 50) + (Int32.ofInt 1)), .ref 117]) aj_d249 rfl (Nat.le_succ _) (fun _ => rfl) ?_
          refine fx_pI aj_d249 rfl (Nat.le_succ _) rfl rfl (Or.inl rfl) fx_no_11_50 (by decide) ?_
          refine fx_qX (fun X29 eX29 => ?_)
          show fx_W _ _ _ 81 lv [] _ _
          refine fx_i2 aj_d249 rfl (Nat.le_succ _) (fun _ => rfl) hlv_0 ?_
          refine fx_cv aj_d249 rfl (Nat.le_succ _) rfl [] rfl rfl (gx_214_ok) ?_
          rintro _ X30 ⟨w31, rfl, hR30⟩ hok30 hle30
          refine fx_qc hR30 ?_
          show fx_W _ _ _ 85 lv [.int w31] _ _
          refine fx_b0 (tgt := 22) aj_d249 rfl (Nat.le_succ _) rfl (fun q32 => ?_) (fun q32 => ?_)
          · skip
            refine fx_qe (c := (w31).toInt = 0) (fx_t_ne q32) ?_
            show fx_W _ _ _ 22 lv [] _ _
            exact (ih.2.1) lv X30  hlv_0
          · skip
            refine fx_qi (c := (w31).toInt = 0) (fx_f_ne q32) ?_
            show fx_W _ _ _ 88 lv [] _ _
            refine fx_n (pc' := 89) (lv' := lv) (st' := [.int (Int32.ofInt 0)]) aj_d249 rfl (Nat.le_succ _) (fun _ => rfl) ?_
            exact fx_ri aj_d249 rfl ⟨_, rfl, 0, rfl, rfl⟩
        · skip
          refine fx_qi (c := ((X14.1 117 46)).toInt = 8) (fx_f_ne q24) ?_
          show fx_W _ _ _ 40 lv [] _ _
          refine fx_i2 aj_d249 rfl (Nat.le_succ _) (fun _ => rfl) hlv_0 ?_
          refine fx_n (pc' := 42) (lv' := lv) (st' := [.int (Int32.ofInt 2), .ref 117]) aj_d249 rfl (Nat.le_succ _) (fun _ => rfl) ?_
          refine fx_i2 aj_d249 rfl (Nat.le_succ _) (fun _ => rfl) hlv_0 ?_
          refine fx_gI aj_d249 rfl (Nat.le_succ _) rfl rfl (Or.inl rfl) ?_
          refine fx_cv aj_d249 rfl (Nat.le_succ _) rfl [_, _] rfl rfl (gx_215_ok (Int32.ofInt 2) (X14.1 117 27)) ?_
          rintro _ X33 ⟨w34, rfl, hR33⟩ hok33 hle33
          refine fx_qc hR33 ?_
          show fx_W _ _ _ 49 lv [.int w34] _ _
          exact fx_ri aj_d249 rfl ⟨_, rfl, 0, rfl, rfl⟩
    · intro lv X hlv_0
      refine fx_mono (Q := fx_Q fx_qI (fun v X' => ∃ n : Nat, gxT_249_128 (gxF_249 n) X v X')) (fun r X' ⟨v, e, n, z⟩ => ⟨v, e, n + 1, gxI_249_128 z⟩) ?_
      unfold gxT_249_128
      refine fx_i2 aj_d249 rfl (Nat.le_refl _) (fun _ => rfl) hlv_0 ?_
      refine fx_gI aj_d249 rfl (Nat.le_succ _) rfl rfl (Or.inl rfl) ?_
      refine fx_b0 (tgt := 204) aj_d249 rfl (Nat.le_succ _) rfl (fun q35 => ?_) (fun q35 => ?_)
      · skip
        refine fx_qe (c := 0 < ((X.1 117 46)).toInt) (fx_t_le q35) ?_
        show fx_W _ _ _ 204 lv [] _ _
        refine fx_i2 aj_d249 rfl (Nat.le_succ _) (fun _ => rfl) hlv_0 ?_
        refine fx_n (pc' := 207) (lv' := lv) (st' := [.int ((Int8.ofInt 43).toInt32), .ref 117]) aj_d249 rfl (Nat.le_succ _) (fun _ => rfl) ?_
        refine fx_cv aj_d249 rfl (Nat.le_succ _) rfl [_] rfl rfl (gx_220_ok ((Int8.ofInt 43).toInt32)) ?_
        rintro _ X36 ⟨w37, rfl, hR36⟩ hok36 hle36
        refine fx_qc hR36 ?_
        show fx_W _ _ _ 210 lv [.int w37] _ _
        refine fx_b0 (tgt := 231) aj_d249 rfl (Nat.le_succ _) rfl (fun q38 => ?_) (fun q38 => ?_)
        · skip
          refine fx_qe (c := (w37).toInt = 0) (fx_t_ne q38) ?_
          show fx_W _ _ _ 231 lv [] _ _
          refine fx_n (pc' := 232) (lv' := lv) (st' := [.int (Int32.ofInt 1)]) aj_d249 rfl (Nat.le_succ _) (fun _ => rfl) ?_
          refine fx_n (pc' := 236) (lv' := lv) (st' := [.int (Int32.ofInt 1)]) aj_d249 rfl (Nat.le_succ _) (fun _ => rfl) ?_
          refine fx_s0 (j := 1) aj_d249 rfl (Nat.le_succ _) (by decide) (fun _ => rfl) ?_
          obtain ⟨lv39, elv39⟩ : ∃ l, l = aj_set1 lv 1 (.int (Int32.ofInt 1)) := ⟨_, rfl⟩
          rw [← elv39]
          have hlv39_0 : aj_lv lv39 0 = some (.ref 117) := fx_e1 elv39 hlv_0 (by decide) (Or.inr rfl)
          have hlv39_1 : aj_lv lv39 1 = some (.int (Int32.ofInt 1)) := by rw [elv39]; exact ak_set1_eq _ _ _
          show fx_W _ _ _ 237 lv39 [] _ _
          refine fx_i0 aj_d249 rfl (Nat.le_succ _) (fun _ => rfl) hlv39_1 ?_
          refine fx_b0 (tgt := 18) aj_d249 rfl (Nat.le_succ _) rfl (fun q40 => ?_) (fun q40 => ?_)
          · exact absurd q40 (by decide)
          · skip
            show fx_W _ _ _ 241 lv39 [] _ _
            exact (ih.2.2.2.2.1) lv39 ((Int32.ofInt 1)) X36  hlv39_0 hlv39_1
        · skip
          refine fx_qi (c := (w37).toInt = 0) (fx_f_ne q38) ?_
          show fx_W _ _ _ 213 lv [] _ _
          refine fx_i2 aj_d249 rfl (Nat.le_succ _) (fun _ => rfl) hlv_0 ?_
          refine fx_n (pc' := 216) (lv' := lv) (st' := [.int ((Int8.ofInt 45).toInt32), .ref 117]) aj_d249 rfl (Nat.le_succ _) (fun _ => rfl) ?_
          refine fx_cv aj_d249 rfl (Nat.le_succ _) rfl [_] rfl rfl (gx_220_ok ((Int8.ofInt 45).toInt32)) ?_
          rintro _ X41 ⟨w42, rfl, hR41⟩ hok41 hle41
          refine fx_qc hR41 ?_
          show fx_W _ _ _ 219 lv [.int w42] _ _
          refine fx_b0 (tgt := 231) aj_d249 rfl (Nat.le_succ _) rfl (fun q43 => ?_) (fun q43 => ?_)
          · skip
            refine fx_qe (c := (w42).toInt = 0) (fx_t_ne q43) ?_
            show fx_W _ _ _ 231 lv [] _ _
            refine fx_n (pc' := 232) (lv' := lv) (st' := [.int (Int32.ofInt 1)]) aj_d249 rfl (Nat.le_succ _) (fun _ => rfl) ?_
            refine fx_n (pc' := 236) (lv' := lv) (st' := [.int (Int32.ofInt 1)]) aj_d249 rfl (Nat.le_succ _) (fun _ => rfl) ?_
            refine fx_s0 (j := 1) aj_d249 rfl (Nat.le_succ _) (by decide) (fun _ => rfl) ?_
            obtain ⟨lv44, elv44⟩ : ∃ l, l = aj_set1 lv 1 (.int (Int32.ofInt 1)) := ⟨_, rfl⟩
            rw [← elv44]
            have hlv44_0 : aj_lv lv44 0 = some (.ref 117) := fx_e1 elv44 hlv_0 (by decide) (Or.inr rfl)
            have hlv44_1 : aj_lv lv44 1 = some (.int (Int32.ofInt 1)) := by rw [elv44]; exact ak_set1_eq _ _ _
            show fx_W _ _ _ 237 lv44 [] _ _
            refine fx_i0 aj_d249 rfl (Nat.le_succ _) (fun _ => rfl) hlv44_1 ?_
            refine fx_b0 (tgt := 18) aj_d249 rfl (Nat.le_succ _) rfl (fun q45 => ?_) (fun q45 => ?_)
            · exact absurd q45 (by decide)
            · skip
              show fx_W _ _ _ 241 lv44 [] _ _
              exact (ih.2.2.2.2.1) lv44 ((Int32.ofInt 1)) X41  hlv44_0 hlv44_1
          · skip
            refine fx_qi (c := (w42).toInt = 0) (fx_f_ne q43) ?_
            show fx_W _ _ _ 222 lv [] _ _
            refine fx_i2 aj_d249 rfl (Nat.le_succ _) (fun _ => rfl) hlv_0 ?_
            refine fx_n (pc' := 225) (lv' := lv) (st' := [.int ((Int8.ofInt 42).toInt32), .ref 117]) aj_d249 rfl (Nat.le_succ _) (fun _ => rfl) ?_
            refine fx_cv aj_d249 rfl (Nat.le_succ _) rfl [_] rfl rfl (gx_220_ok ((Int8.ofInt 42).toInt32)) ?_
            rintro _ X46 ⟨w47, rfl, hR46⟩ hok46 hle46
            refine fx_qc hR46 ?_
            show fx_W _ _ _ 228 lv [.int w47] _ _
            refine fx_b0 (tgt := 235) aj_d249 rfl (Nat.le_succ _) rfl (fun q48 => ?_) (fun q48 => ?_)
            · skip
              refine fx_qi (c := (w47).toInt = 0) (fx_t_eq q48) ?_
              show fx_W _ _ _ 235 lv [] _ _
              refine fx_n (pc' := 236) (lv' := lv) (st' := [.int (Int32.ofInt 0)]) aj_d249 rfl (Nat.le_succ _) (fun _ => rfl) ?_
              refine fx_s0 (j := 1) aj_d249 rfl (Nat.le_succ _) (by decide) (fun _ => rfl) ?_
              obtain ⟨lv49, elv49⟩ : ∃ l, l = aj_set1 lv 1 (.int (Int32.ofInt 0)) := ⟨_, rfl⟩
              rw [← elv49]
              have hlv49_0 : aj_lv lv49 0 = some (.ref 117) := fx_e1 elv49 hlv_0 (by decide) (Or.inr rfl)
              have hlv49_1 : aj_lv lv49 1 = some (.int (Int32.ofInt 0)) := by rw [elv49]; exact ak_set1_eq _ _ _
              show fx_W _ _ _ 237 lv49 [] _ _
              refine fx_i0 aj_d249 rfl (Nat.le_succ _) (fun _ => rfl) hlv49_1 ?_
              refine fx_b0 (tgt := 18) aj_d249 rfl (Nat.le_succ _) rfl (fun q50 => ?_) (fun q50 => ?_)
              · skip
                show fx_W _ _ _ 18 lv49 [] _ _
                exact (ih.1) lv49 ((Int32.ofInt 0)) X46  hlv49_0 hlv49_1
              · exact absurd q50 (by decide)
            · skip
              refine fx_qe (c := (w47).toInt = 0) (fx_f_eq q48) ?_
              show fx_W _ _ _ 231 lv [] _ _
              refine fx_n (pc' := 232) (lv' := lv) (st' := [.int (Int32.ofInt 1)]) aj_d249 rfl (Nat.le_succ _) (fun _ => rfl) ?_
              refine fx_n (pc' := 236) (lv' := lv) (st' := [.int (Int32.ofInt 1)]) aj_d249 rfl (Nat.le_succ _) (fun _ => rfl) ?_
              refine fx_s0 (j := 1) aj_d249 rfl (Nat.le_succ _) (by decide) (fun _ => rfl) ?_
              obtain ⟨lv51, elv51⟩ : ∃ l, l = aj_set1 lv 1 (.int (Int32.ofInt 1)) := ⟨_, rfl⟩
              rw [← elv51]
              have hlv51_0 : aj_lv lv51 0 = some (.ref 117) := fx_e1 elv51 hlv_0 (by decide) (Or.inr rfl)
              have hlv51_1 : aj_lv lv51 1 = some (.int (Int32.ofInt 1)) := by rw [elv51]; exact ak_set1_eq _ _ _
              show fx_W _ _ _ 237 lv51 [] _ _
              refine fx_i0 aj_d249 rfl (Nat.le_succ _) (fun _ => rfl) hlv51_1 ?_
              refine fx_b0 (tgt := 18) aj_d249 rfl (Nat.le_succ _) rfl (fun q52 => ?_) (fun q52 => ?_)
              · exact absurd q52 (by decide)
              · skip
                show fx_W _ _ _ 241 lv51 [] _ _
                exact (ih.2.2.2.2.1) lv51 ((Int32.ofInt 1)) X46  hlv51_0 hlv51_1
      · skip
        refine fx_qi (c := 0 < ((X.1 117 46)).toInt) (fx_f_le q35) ?_
        show fx_W _ _ _ 135 lv [] _ _
        refine fx_i2 aj_d249 rfl (Nat.le_succ _) (fun _ => rfl) hlv_0 ?_
        refine fx_n (pc' := 138) (lv' := lv) (st' := [.int ((Int8.ofInt 41).toInt32), .ref 117]) aj_d249 rfl (Nat.le_succ _) (fun _ => rfl) ?_
        refine fx_cv aj_d249 rfl (Nat.le_succ _) rfl [_] rfl rfl (gx_220_ok ((Int8.ofInt 41).toInt32)) ?_
        rintro _ X53 ⟨w54, rfl, hR53⟩ hok53 hle53
        refine fx_qc hR53 ?_
        show fx_W _ _ _ 141 lv [.int w54] _ _
        refine fx_b0 (tgt := 204) aj_d249 rfl (Nat.le_succ _) rfl (fun q55 => ?_) (fun q55 => ?_)
        · skip
          refine fx_qi (c := (w54).toInt = 0) (fx_t_eq q55) ?_
          show fx_W _ _ _ 204 lv [] _ _
          refine fx_i2 aj_d249 rfl (Nat.le_succ _) (fun _ => rfl) hlv_0 ?_
          refine fx_n (pc' := 207) (lv' := lv) (st' := [.int ((Int8.ofInt 43).toInt32), .ref 117]) aj_d249 rfl (Nat.le_succ _) (fun _ => rfl) ?_
          refine fx_cv aj_d249 rfl (Nat.le_succ _) rfl [_] rfl rfl (gx_220_ok ((Int8.ofInt 43).toInt32)) ?_
          rintro _ X56 ⟨w57, rfl, hR56⟩ hok56 hle56
          refine fx_qc hR56 ?_
          show fx_W _ _ _ 210 lv [.int w57] _ _
          refine fx_b0 (tgt := 231) aj_d249 rfl (Nat.le_succ _) rfl (fun q58 => ?_) (fun q58 => ?_)
          · skip
            refine fx_qe (c := (w57).toInt = 0) (fx_t_ne q58) ?_
            show fx_W _ _ _ 231 lv [] _ _
            refine fx_n (pc' := 232) (lv' := lv) (st' := [.int (Int32.ofInt 1)]) aj_d249 rfl (Nat.le_succ _) (fun _ => rfl) ?_
            refine fx_n (pc' := 236) (lv' := lv) (st' := [.int (Int32.ofInt 1)]) aj_d249 rfl (Nat.le_succ _) (fun _ => rfl) ?_
            refine fx_s0 (j := 1) aj_d249 rfl (Nat.le_succ _) (by decide) (fun _ => rfl) ?_
            obtain ⟨lv59, elv59⟩ : ∃ l, l = aj_set1 lv 1 (.int (Int32.ofInt 1)) := ⟨_, rfl⟩
            rw [← elv59]
            have hlv59_0 : aj_lv lv59 0 = some (.ref 117) := fx_e1 elv59 hlv_0 (by decide) (Or.inr rfl)
            have hlv59_1 : aj_lv lv59 1 = some (.int (Int32.ofInt 1)) := by rw [elv59]; exact ak_set1_eq _ _ _
            show fx_W _ _ _ 237 lv59 [] _ _
            refine fx_i0 aj_d249 rfl (Nat.le_succ _) (fun _ => rfl) hlv59_1 ?_
            refine fx_b0 (tgt := 18) aj_d249 rfl (Nat.le_succ _) rfl (fun q60 => ?_) (fun q60 => ?_)
            · exact absurd q60 (by decide)
            · skip
              show fx_W _ _ _ 241 lv59 [] _ _
              exact (ih.2.2.2.2.1) lv59 ((Int32.ofInt 1)) X56  hlv59_0 hlv59_1
          · skip
            refine fx_qi (c := (w57).toInt = 0) (fx_f_ne q58) ?_
            show fx_W _ _ _ 213 lv [] _ _
            refine fx_i2 aj_d249 rfl (Nat.le_succ _) (fun _ => rfl) hlv_0 ?_
            refine fx_n (pc' := 216) (lv' := lv) (st' := [.int ((Int8.ofInt 45).toInt32), .ref 117]) aj_d249 rfl (Nat.le_succ _) (fun _ => rfl) ?_
            refine fx_cv aj_d249 rfl (Nat.le_succ _) rfl [_] rfl rfl (gx_220_ok ((Int8.ofInt 45).toInt32)) ?_
            rintro _ X61 ⟨w62, rfl, hR61⟩ hok61 hle61
            refine fx_qc hR61 ?_
            show fx_W _ _ _ 219 lv [.int w62] _ _
            refine fx_b0 (tgt := 231) aj_d249 rfl (Nat.le_succ _) rfl (fun q63 => ?_) (fun q63 => ?_)
            · skip
              refine fx_qe (c := (w62).toInt = 0) (fx_t_ne q63) ?_
              show fx_W _ _ _ 231 lv [] _ _
              refine fx_n (pc' := 232) (lv' := lv) (st' := [.int (Int32.ofInt 1)]) aj_d249 rfl (Nat.le_succ _) (fun _ => rfl) ?_
              refine fx_n (pc' := 236) (lv' := lv) (st' := [.int (Int32.ofInt 1)]) aj_d249 rfl (Nat.le_succ _) (fun _ => rfl) ?_
              refine fx_s0 (j := 1) aj_d249 rfl (Nat.le_succ _) (by decide) (fun _ => rfl) ?_
              obtain ⟨lv64, elv64⟩ : ∃ l, l = aj_set1 lv 1 (.int (Int32.ofInt 1)) := ⟨_, rfl⟩
              rw [← elv64]
              have hlv64_0 : aj_lv lv64 0 = some (.ref 117) := fx_e1 elv64 hlv_0 (by decide) (Or.inr rfl)
              have hlv64_1 : aj_lv lv64 1 = some (.int (Int32.ofInt 1)) := by rw [elv64]; exact ak_set1_eq _ _ _
              show fx_W _ _ _ 237 lv64 [] _ _
              refine fx_i0 aj_d249 rfl (Nat.le_succ _) (fun _ => rfl) hlv64_1 ?_
              refine fx_b0 (tgt := 18) aj_d249 rfl (Nat.le_succ _) rfl (fun q65 => ?_) (fun q65 => ?_)
              · exact absurd q65 (by decide)
              · skip
                show fx_W _ _ _ 241 lv64 [] _ _
                exact (ih.2.2.2.2.1) lv64 ((Int32.ofInt 1)) X61  hlv64_0 hlv64_1
            · skip
              refine fx_qi (c := (w62).toInt = 0) (fx_f_ne q63) ?_
              show fx_W _ _ _ 222 lv [] _ _
              refine fx_i2 aj_d249 rfl (Nat.le_succ _) (fun _ => rfl) hlv_0 ?_
              refine fx_n (pc' := 225) (lv' := lv) (st' := [.int ((Int8.ofInt 42).toInt32), .ref 117]) aj_d249 rfl (Nat.le_succ _) (fun _ => rfl) ?_
              refine fx_cv aj_d249 rfl (Nat.le_succ _) rfl [_] rfl rfl (gx_220_ok ((Int8.ofInt 42).toInt32)) ?_
              rintro _ X66 ⟨w67, rfl, hR66⟩ hok66 hle66
              refine fx_qc hR66 ?_
              show fx_W _ _ _ 228 lv [.int w67] _ _
              refine fx_b0 (tgt := 235) aj_d249 rfl (Nat.le_succ _) rfl (fun q68 => ?_) (fun q68 => ?_)
              · skip
                refine fx_qi (c := (w67).toInt = 0) (fx_t_eq q68) ?_
                show fx_W _ _ _ 235 lv [] _ _
                refine fx_n (pc' := 236) (lv' := lv) (st' := [.int (Int32.ofInt 0)]) aj_d249 rfl (Nat.le_succ _) (fun _ => rfl) ?_
                refine fx_s0 (j := 1) aj_d249 rfl (Nat.le_succ _) (by decide) (fun _ => rfl) ?_
                obtain ⟨lv69, elv69⟩ : ∃ l, l = aj_set1 lv 1 (.int (Int32.ofInt 0)) := ⟨_, rfl⟩
                rw [← elv69]
                have hlv69_0 : aj_lv lv69 0 = some (.ref 117) := fx_e1 elv69 hlv_0 (by decide) (Or.inr rfl)
                have hlv69_1 : aj_lv lv69 1 = some (.int (Int32.ofInt 0)) := by rw [elv69]; exact ak_set1_eq _ _ _
                show fx_W _ _ _ 237 lv69 [] _ _
                refine fx_i0 aj_d249 rfl (Nat.le_succ _) (fun _ => rfl) hlv69_1 ?_
                refine fx_b0 (tgt := 18) aj_d249 rfl (Nat.le_succ _) rfl (fun q70 => ?_) (fun q70 => ?_)
                · skip
                  show fx_W _ _ _ 18 lv69 [] _ _
                  exact (ih.1) lv69 ((Int32.ofInt 0)) X66  hlv69_0 hlv69_1
                · exact absurd q70 (by decide)
              · skip
                refine fx_qe (c := (w67).toInt = 0) (fx_f_eq q68) ?_
                show fx_W _ _ _ 231 lv [] _ _
                refine fx_n (pc' := 232) (lv' := lv) (st' := [.int (Int32.ofInt 1)]) aj_d249 rfl (Nat.le_succ _) (fun _ => rfl) ?_
                refine fx_n (pc' := 236) (lv' := lv) (st' := [.int (Int32.ofInt 1)]) aj_d249 rfl (Nat.le_succ _) (fun _ => rfl) ?_
                refine fx_s0 (j := 1) aj_d249 rfl (Nat.le_succ _) (by decide) (fun _ => rfl) ?_
                obtain ⟨lv71, elv71⟩ : ∃ l, l = aj_set1 lv 1 (.int (Int32.ofInt 1)) := ⟨_, rfl⟩
                rw [← elv71]
                have hlv71_0 : aj_lv lv71 0 = some (.ref 117) := fx_e1 elv71 hlv_0 (by decide) (Or.inr rfl)
                have hlv71_1 : aj_lv lv71 1 = some (.int (Int32.ofInt 1)) := by rw [elv71]; exact ak_set1_eq _ _ _
                show fx_W _ _ _ 237 lv71 [] _ _
                refine fx_i0 aj_d249 rfl (Nat.le_succ _) (fun _ => rfl) hlv71_1 ?_
                refine fx_b0 (tgt := 18) aj_d249 rfl (Nat.le_succ _) rfl (fun q72 => ?_) (fun q72 => ?_)
                · exact absurd q72 (by decide)
                · skip
                  show fx_W _ _ _ 241 lv71 [] _ _
                  exact (ih.2.2.2.2.1) lv71 ((Int32.ofInt 1)) X66  hlv71_0 hlv71_1
        · skip
          refine fx_qe (c := (w54).toInt = 0) (fx_f_eq q55) ?_
          show fx_W _ _ _ 144 lv [] _ _
          exact (ih.2.2.2.1) lv X53  hlv_0
    · intro lv X hlv_0
      refine fx_mono (Q := fx_Q fx_qI (fun v X' => ∃ n : Nat, gxT_249_144 (gxF_249 n) X v X')) (fun r X' ⟨v, e, n, z⟩ => ⟨v, e, n + 1, gxI_249_144 z⟩) ?_
      unfold gxT_249_144
      refine fx_i2 aj_d249 rfl (Nat.le_refl _) (fun _ => rfl) hlv_0 ?_
      refine fx_n (pc' := 147) (lv' := lv) (st' := [.int ((Int8.ofInt 40).toInt32), .ref 117]) aj_d249 rfl (Nat.le_succ _) (fun _ => rfl) ?_
      refine fx_cv aj_d249 rfl (Nat.le_succ _) rfl [_] rfl rfl (gx_273_ok ((Int8.ofInt 40).toInt32)) ?_
      rintro _ X114 ⟨w115, rfl, hR114⟩ hok114 hle114
      refine fx_qc hR114 ?_
      show fx_W _ _ _ 150 lv [.int w115] _ _
      refine fx_b0 (tgt := 162) aj_d249 rfl (Nat.le_succ _) rfl (fun q116 => ?_) (fun q116 => ?_)
      · skip
        refine fx_qe (c := (w115).toInt = 0) (fx_t_ne q116) ?_
        show fx_W _ _ _ 162 lv [] _ _
        refine fx_i2 aj_d249 rfl (Nat.le_succ _) (fun _ => rfl) hlv_0 ?_
        refine fx_n (pc' := 164) (lv' := lv) (st' := [.ref 117, .ref 117]) aj_d249 rfl (Nat.le_succ _) (fun _ => rfl) ?_
        refine fx_gI aj_d249 rfl (Nat.le_succ _) rfl rfl (Or.inl rfl) ?_
        refine fx_n (pc' := 168) (lv' := lv) (st' := [.int (Int32.ofInt 1), .int (X114.1 117 50), .ref 117]) aj_d249 rfl (Nat.le_succ _) (fun _ => rfl) ?_
        refine fx_n (pc' := 169) (lv' := lv) (st' := [.int ((X114.1 117 50) - (Int32.ofInt 1)), .ref 117]) aj_d249 rfl (Nat.le_succ _) (fun _ => rfl) ?_
        refine fx_pI aj_d249 rfl (Nat.le_succ _) rfl rfl (Or.inl rfl) fx_no_11_50 (by decide) ?_
        refine fx_qX (fun X117 eX117 => ?_)
        show fx_W _ _ _ 172 lv [] _ _
        refine fx_i2 aj_d249 rfl (Nat.le_succ _) (fun _ => rfl) hlv_0 ?_
        refine fx_n (pc' := 174) (lv' := lv) (st' := [.ref 117, .ref 117]) aj_d249 rfl (Nat.le_succ _) (fun _ => rfl) ?_
        refine fx_gI aj_d249 rfl (Nat.le_succ _) rfl rfl (Or.inl rfl) ?_
        refine fx_n (pc' := 178) (lv' := lv) (st' := [.int (Int32.ofInt 1), .int (X117.1 117 46), .ref 117]) aj_d249 rfl (Nat.le_succ _) (fun _ => rfl) ?_
        refine fx_n (pc' := 179) (lv' := lv) (st' := [.int ((X117.1 117 46) - (Int32.ofInt 1)), .ref 117]) aj_d249 rfl (Nat.le_succ _) (fun _ => rfl) ?_
        refine fx_pI aj_d249 rfl (Nat.le_succ _) rfl rfl (Or.inl rfl) fx_no_11_46 (by decide) ?_
        refine fx_qX (fun X118 eX118 => ?_)
        show fx_W _ _ _ 182 lv [] _ _
        refine fx_i2 aj_d249 rfl (Nat.le_succ _) (fun _ => rfl) hlv_0 ?_
        refine fx_cv aj_d249 rfl (Nat.le_succ _) rfl [] rfl rfl (gx_214_ok) ?_
        rintro _ X119 ⟨w120, rfl, hR119⟩ hok119 hle119
        refine fx_qc hR119 ?_
        show fx_W _ _ _ 186 lv [.int w120] _ _
        refine fx_b0 (tgt := 202) aj_d249 rfl (Nat.le_succ _) rfl (fun q121 => ?_) (fun q121 => ?_)
        · skip
          refine fx_qi (c := (w120).toInt = 0) (fx_t_eq q121) ?_
          show fx_W _ _ _ 202 lv [] _ _
          refine fx_n (pc' := 203) (lv' := lv) (st' := [.int (Int32.ofInt 0)]) aj_d249 rfl (Nat.le_succ _) (fun _ => rfl) ?_
          exact fx_ri aj_d249 rfl ⟨_, rfl, 0, rfl, rfl⟩
        · skip
          refine fx_qe (c := (w120).toInt = 0) (fx_f_eq q121) ?_
          show fx_W _ _ _ 189 lv [] _ _
          refine fx_i2 aj_d249 rfl (Nat.le_succ _) (fun _ => rfl) hlv_0 ?_
          refine fx_i2 aj_d249 rfl (Nat.le_succ _) (fun _ => rfl) hlv_0 ?_
          refine fx_gI aj_d249 rfl (Nat.le_succ _) rfl rfl (Or.inl rfl) ?_
          refine fx_n (pc' := 195) (lv' := lv) (st' := [.int (Int32.ofInt 1), .int (X119.1 117 51), .ref 117]) aj_d249 rfl (Nat.le_succ _) (fun _ => rfl) ?_
          refine fx_n (pc' := 196) (lv' := lv) (st' := [.int ((X119.1 117 51) - (Int32.ofInt 1)), .ref 117]) aj_d249 rfl (Nat.le_succ _) (fun _ => rfl) ?_
          refine fx_cv aj_d249 rfl (Nat.le_succ _) rfl [_] rfl rfl (gx_253_ok ((X119.1 117 51) - (Int32.ofInt 1))) ?_
          rintro _ X122 ⟨w123, rfl, hR122⟩ hok122 hle122
          refine fx_qc hR122 ?_
          show fx_W _ _ _ 199 lv [.int w123] _ _
          refine fx_b0 (tgt := 128) aj_d249 rfl (Nat.le_succ _) rfl (fun q124 => ?_) (fun q124 => ?_)
          · skip
            refine fx_qe (c := (w123).toInt = 0) (fx_t_ne q124) ?_
            show fx_W _ _ _ 128 lv [] _ _
            exact (ih.2.2.1) lv X122  hlv_0
          · skip
            refine fx_qi (c := (w123).toInt = 0) (fx_f_ne q124) ?_
            show fx_W _ _ _ 202 lv [] _ _
            refine fx_n (pc' := 203) (lv' := lv) (st' := [.int (Int32.ofInt 0)]) aj_d249 rfl (Nat.le_succ _) (fun _ => rfl) ?_
            exact fx_ri aj_d249 rfl ⟨_, rfl, 0, rfl, rfl⟩
      · skip
        refine fx_qi (c := (w115).toInt = 0) (fx_f_ne q116) ?_
        show fx_W _ _ _ 153 lv [] _ _
        refine fx_i2 aj_d249 rfl (Nat.le_succ _) (fun _ => rfl) hlv_0 ?_
        refine fx_cv aj_d249 rfl (Nat.le_succ _) rfl [] rfl rfl (gx_274_ok) ?_
        rintro _ X125 ⟨w126, rfl, hR125⟩ hok125 hle125
        refine fx_qc hR125 ?_
        show fx_W _ _ _ 157 lv [.int w126] _ _
        refine fx_b0 (tgt := 144) aj_d249 rfl (Nat.le_succ _) rfl (fun q127 => ?_) (fun q127 => ?_)
        · skip
          refine fx_qe (c := (w126).toInt = 0) (fx_t_ne q127) ?_
          show fx_W _ _ _ 144 lv [] _ _
          exact (ih.2.2.2.1) lv X125  hlv_0
        · skip
          refine fx_qi (c := (w126).toInt = 0) (fx_f_ne q127) ?_
          show fx_W _ _ _ 160 lv [] _ _
          refine fx_n (pc' := 161) (lv' := lv) (st' := [.int (Int32.ofInt 0)]) aj_d249 rfl (Nat.le_succ _) (fun _ => rfl) ?_
          exact fx_ri aj_d249 rfl ⟨_, rfl, 0, rfl, rfl⟩
    · intro lv y1 X hlv_0 hlv_1
      refine fx_mono (Q := fx_Q fx_qI (fun v X' => ∃ n : Nat, gxT_249_241 (gxF_249 n) y1 X v X')) (fun r X' ⟨v, e, n, z⟩ => ⟨v, e, n + 1, gxI_249_241 z⟩) ?_
      unfold gxT_249_241
      refine fx_i2 aj_d249 rfl (Nat.le_refl _) (fun _ => rfl) hlv_0 ?_
      refine fx_n (pc' := 244) (lv' := lv) (st' := [.int ((Int8.ofInt 42).toInt32), .ref 117]) aj_d249 rfl (Nat.le_succ _) (fun _ => rfl) ?_
      refine fx_cv aj_d249 rfl (Nat.le_succ _) rfl [_] rfl rfl (gx_273_ok ((Int8.ofInt 42).toInt32)) ?_
      rintro _ X73 ⟨w74, rfl, hR73⟩ hok73 hle73
      refine fx_qc hR73 ?_
      show fx_W _ _ _ 247 lv [.int w74] _ _
      refine fx_b0 (tgt := 277) aj_d249 rfl (Nat.le_succ _) rfl (fun q75 => ?_) (fun q75 => ?_)
      · skip
        refine fx_qe (c := (w74).toInt = 0) (fx_t_ne q75) ?_
        show fx_W _ _ _ 277 lv [] _ _
        refine fx_i2 aj_d249 rfl (Nat.le_succ _) (fun _ => rfl) hlv_0 ?_
        refine fx_cv aj_d249 rfl (Nat.le_succ _) rfl [] rfl rfl (gx_274_ok) ?_
        rintro _ X76 ⟨w77, rfl, hR76⟩ hok76 hle76
        refine fx_qc hR76 ?_
        show fx_W _ _ _ 281 lv [.int w77] _ _
        refine fx_b0 (tgt := 241) aj_d249 rfl (Nat.le_succ _) rfl (fun q78 => ?_) (fun q78 => ?_)
        · skip
          refine fx_qe (c := (w77).toInt = 0) (fx_t_ne q78) ?_
          show fx_W _ _ _ 241 lv [] _ _
          exact (ih.2.2.2.2.1) lv (y1) X76  hlv_0 hlv_1
        · skip
          refine fx_qi (c := (w77).toInt = 0) (fx_f_ne q78) ?_
          show fx_W _ _ _ 284 lv [] _ _
          refine fx_n (pc' := 285) (lv' := lv) (st' := [.int (Int32.ofInt 0)]) aj_d249 rfl (Nat.le_succ _) (fun _ => rfl) ?_
          exact fx_ri aj_d249 rfl ⟨_, rfl, 0, rfl, rfl⟩
      · skip
        refine fx_qi (c := (w74).toInt = 0) (fx_f_ne q75) ?_
        show fx_W _ _ _ 250 lv [] _ _
        refine fx_i2 aj_d249 rfl (Nat.le_succ _) (fun _ => rfl) hlv_0 ?_
        refine fx_n (pc' := 253) (lv' := lv) (st' := [.int ((Int8.ofInt 42).toInt32), .ref 117]) aj_d249 rfl (Nat.le_succ _) (fun _ => rfl) ?_
        refine fx_cv aj_d249 rfl (Nat.le_succ _) rfl [_] rfl rfl (gx_220_ok ((Int8.ofInt 42).toInt32)) ?_
        rintro _ X79 ⟨w80, rfl, hR79⟩ hok79 hle79
        refine fx_qc hR79 ?_
        show fx_W _ _ _ 256 lv [.int w80] _ _
        refine fx_b0 (tgt := 286) aj_d249 rfl (Nat.le_succ _) rfl (fun q81 => ?_) (fun q81 => ?_)
        · skip
          refine fx_qe (c := (w80).toInt = 0) (fx_t_ne q81) ?_
          show fx_W _ _ _ 286 lv [] _ _
          refine fx_i2 aj_d249 rfl (Nat.le_succ _) (fun _ => rfl) hlv_0 ?_
          refine fx_gF aj_d249 rfl (Nat.le_succ _) rfl rfl fx_in_11_48 (t := 140) rfl (fun hA82 => ?_)
          refine fx_i2 aj_d249 rfl (Nat.le_succ _) (fun _ => rfl) hlv_0 ?_
          refine fx_gI aj_d249 rfl (Nat.le_succ _) rfl rfl (Or.inl rfl) ?_
          refine fx_i2 aj_d249 rfl (Nat.le_succ _) (fun _ => rfl) hlv_0 ?_
          refine fx_gI aj_d249 rfl (Nat.le_succ _) rfl rfl (Or.inl rfl) ?_
          refine fx_st aj_d249 (Or.inl ⟨rfl, rfl⟩) rfl (Nat.le_succ _) (fun g830 g831 => ?_)
          show fx_W _ _ _ _ _ _ (fx_wI X79 140 ((X79.1 117 50)).toInt.toNat (X79.1 117 29)) _
          refine fx_qa (c := 0 ≤ ((X79.1 117 50)).toInt ∧ ((X79.1 117 50)).toInt < ((64 : Nat) : Int)) ⟨g830, fx_lnk g831 hA82⟩ ?_
          refine fx_qX (fun X84 eX84 => ?_)
          show fx_W _ _ _ 299 lv [] _ _
          refine fx_i2 aj_d249 rfl (Nat.le_succ _) (fun _ => rfl) hlv_0 ?_
          refine fx_gF aj_d249 rfl (Nat.le_succ _) rfl rfl fx_in_11_49 (t := 141) rfl (fun hA85 => ?_)
          refine fx_i2 aj_d249 rfl (Nat.le_succ _) (fun _ => rfl) hlv_0 ?_
          refine fx_gI aj_d249 rfl (Nat.le_succ _) rfl rfl (Or.inl rfl) ?_
          refine fx_i2 aj_d249 rfl (Nat.le_succ _) (fun _ => rfl) hlv_0 ?_
          refine fx_gI aj_d249 rfl (Nat.le_succ _) rfl rfl (Or.inl rfl) ?_
          refine fx_st aj_d249 (Or.inl ⟨rfl, rfl⟩) rfl (Nat.le_succ _) (fun g860 g861 => ?_)
          show fx_W _ _ _ _ _ _ (fx_wI X84 141 ((X84.1 117 50)).toInt.toNat (X84.1 117 27)) _
          refine fx_qa (c := 0 ≤ ((X84.1 117 50)).toInt ∧ ((X84.1 117 50)).toInt < ((64 : Nat) : Int)) ⟨g860, fx_lnk g861 hA85⟩ ?_
          refine fx_qX (fun X87 eX87 => ?_)
          show fx_W _ _ _ 312 lv [] _ _
          refine fx_i2 aj_d249 rfl (Nat.le_succ _) (fun _ => rfl) hlv_0 ?_
          refine fx_n (pc' := 314) (lv' := lv) (st' := [.ref 117, .ref 117]) aj_d249 rfl (Nat.le_succ _) (fun _ => rfl) ?_
          refine fx_gI aj_d249 rfl (Nat.le_succ _) rfl rfl (Or.inl rfl) ?_
          refine fx_n (pc' := 318) (lv' := lv) (st' := [.int (Int32.ofInt 1), .int (X87.1 117 50), .ref 117]) aj_d249 rfl (Nat.le_succ _) (fun _ => rfl) ?_
          refine fx_n (pc' := 319) (lv' := lv) (st' := [.int ((X87.1 117 50) + (Int32.ofInt 1)), .ref 117]) aj_d249 rfl (Nat.le_succ _) (fun _ => rfl) ?_
          refine fx_pI aj_d249 rfl (Nat.le_succ _) rfl rfl (Or.inl rfl) fx_no_11_50 (by decide) ?_
          refine fx_qX (fun X88 eX88 => ?_)
          show fx_W _ _ _ 322 lv [] _ _
          refine fx_i2 aj_d249 rfl (Nat.le_succ _) (fun _ => rfl) hlv_0 ?_
          refine fx_cv aj_d249 rfl (Nat.le_succ _) rfl [] rfl rfl (gx_264_ok) ?_
          rintro _ X89 ⟨w90, rfl, hR89⟩ hok89 hle89
          refine fx_qc hR89 ?_
          show fx_W _ _ _ 326 lv [.int w90] _ _
          refine fx_b0 (tgt := 18) aj_d249 rfl (Nat.le_succ _) rfl (fun q91 => ?_) (fun q91 => ?_)
          · skip
            refine fx_qe (c := (w90).toInt = 0) (fx_t_ne q91) ?_
            show fx_W _ _ _ 18 lv [] _ _
            exact (ih.1) lv (y1) X89  hlv_0 hlv_1
          · skip
            refine fx_qi (c := (w90).toInt = 0) (fx_f_ne q91) ?_
            show fx_W _ _ _ 329 lv [] _ _
            refine fx_n (pc' := 330) (lv' := lv) (st' := [.int (Int32.ofInt 0)]) aj_d249 rfl (Nat.le_succ _) (fun _ => rfl) ?_
            exact fx_ri aj_d249 rfl ⟨_, rfl, 0, rfl, rfl⟩
        · skip
          refine fx_qi (c := (w80).toInt = 0) (fx_f_ne q81) ?_
          show fx_W _ _ _ 259 lv [] _ _
          refine fx_i2 aj_d249 rfl (Nat.le_succ _) (fun _ => rfl) hlv_0 ?_
          refine fx_n (pc' := 262) (lv' := lv) (st' := [.int ((Int8.ofInt 43).toInt32), .ref 117]) aj_d249 rfl (Nat.le_succ _) (fun _ => rfl) ?_
          refine fx_cv aj_d249 rfl (Nat.le_succ _) rfl [_] rfl rfl (gx_273_ok ((Int8.ofInt 43).toInt32)) ?_
          rintro _ X92 ⟨w93, rfl, hR92⟩ hok92 hle92
          refine fx_qc hR92 ?_
          show fx_W _ _ _ 265 lv [.int w93] _ _
          refine fx_b0 (tgt := 277) aj_d249 rfl (Nat.le_succ _) rfl (fun q94 => ?_) (fun q94 => ?_)
          · skip
            refine fx_qe (c := (w93).toInt = 0) (fx_t_ne q94) ?_
            show fx_W _ _ _ 277 lv [] _ _
            refine fx_i2 aj_d249 rfl (Nat.le_succ _) (fun _ => rfl) hlv_0 ?_
            refine fx_cv aj_d249 rfl (Nat.le_succ _) rfl [] rfl rfl (gx_274_ok) ?_
            rintro _ X95 ⟨w96, rfl, hR95⟩ hok95 hle95
            refine fx_qc hR95 ?_
            show fx_W _ _ _ 281 lv [.int w96] _ _
            refine fx_b0 (tgt := 241) aj_d249 rfl (Nat.le_succ _) rfl (fun q97 => ?_) (fun q97 => ?_)
            · skip
              refine fx_qe (c := (w96).toInt = 0) (fx_t_ne q97) ?_
              show fx_W _ _ _ 241 lv [] _ _
              exact (ih.2.2.2.2.1) lv (y1) X95  hlv_0 hlv_1
            · skip
              refine fx_qi (c := (w96).toInt = 0) (fx_f_ne q97) ?_
              show fx_W _ _ _ 284 lv [] _ _
              refine fx_n (pc' := 285) (lv' := lv) (st' := [.int (Int32.ofInt 0)]) aj_d249 rfl (Nat.le_succ _) (fun _ => rfl) ?_
              exact fx_ri aj_d249 rfl ⟨_, rfl, 0, rfl, rfl⟩
          · skip
            refine fx_qi (c := (w93).toInt = 0) (fx_f_ne q94) ?_
            show fx_W _ _ _ 268 lv [] _ _
            refine fx_i2 aj_d249 rfl (Nat.le_succ _) (fun _ => rfl) hlv_0 ?_
            refine fx_n (pc' := 271) (lv' := lv) (st' := [.int ((Int8.ofInt 45).toInt32), .ref 117]) aj_d249 rfl (Nat.le_succ _) (fun _ => rfl) ?_
            refine fx_cv aj_d249 rfl (Nat.le_succ _) rfl [_] rfl rfl (gx_273_ok ((Int8.ofInt 45).toInt32)) ?_
            rintro _ X98 ⟨w99, rfl, hR98⟩ hok98 hle98
            refine fx_qc hR98 ?_
            show fx_W _ _ _ 274 lv [.int w99] _ _
            refine fx_b0 (tgt := 286) aj_d249 rfl (Nat.le_succ _) rfl (fun q100 => ?_) (fun q100 => ?_)
            · skip
              refine fx_qi (c := (w99).toInt = 0) (fx_t_eq q100) ?_
              show fx_W _ _ _ 286 lv [] _ _
              refine fx_i2 aj_d249 rfl (Nat.le_succ _) (fun _ => rfl) hlv_0 ?_
              refine fx_gF aj_d249 rfl (Nat.le_succ _) rfl rfl fx_in_11_48 (t := 140) rfl (fun hA101 => ?_)
              refine fx_i2 aj_d249 rfl (Nat.le_succ _) (fun _ => rfl) hlv_0 ?_
              refine fx_gI aj_d249 rfl (Nat.le_succ _) rfl rfl (Or.inl rfl) ?_
              refine fx_i2 aj_d249 rfl (Nat.le_succ _) (fun _ => rfl) hlv_0 ?_
              refine fx_gI aj_d249 rfl (Nat.le_succ _) rfl rfl (Or.inl rfl) ?_
              refine fx_st aj_d249 (Or.inl ⟨rfl, rfl⟩) rfl (Nat.le_succ _) (fun g1020 g1021 => ?_)
              show fx_W _ _ _ _ _ _ (fx_wI X98 140 ((X98.1 117 50)).toInt.toNat (X98.1 117 29)) _
              refine fx_qa (c := 0 ≤ ((X98.1 117 50)).toInt ∧ ((X98.1 117 50)).toInt < ((64 : Nat) : Int)) ⟨g1020, fx_lnk g1021 hA101⟩ ?_
              refine fx_qX (fun X103 eX103 => ?_)
              show fx_W _ _ _ 299 lv [] _ _
              refine fx_i2 aj_d249 rfl (Nat.le_succ _) (fun _ => rfl) hlv_0 ?_
              refine fx_gF aj_d249 rfl (Nat.le_succ _) rfl rfl fx_in_11_49 (t := 141) rfl (fun hA104 => ?_)
              refine fx_i2 aj_d249 rfl (Nat.le_succ _) (fun _ => rfl) hlv_0 ?_
              refine fx_gI aj_d249 rfl (Nat.le_succ _) rfl rfl (Or.inl rfl) ?_
              refine fx_i2 aj_d249 rfl (Nat.le_succ _) (fun _ => rfl) hlv_0 ?_
              refine fx_gI aj_d249 rfl (Nat.le_succ _) rfl rfl (Or.inl rfl) ?_
              refine fx_st aj_d249 (Or.inl ⟨rfl, rfl⟩) rfl (Nat.le_succ _) (fun g1050 g1051 => ?_)
              show fx_W _ _ _ _ _ _ (fx_wI X103 141 ((X103.1 117 50)).toInt.toNat (X103.1 117 27)) _
              refine fx_qa (c := 0 ≤ ((X103.1 117 50)).toInt ∧ ((X103.1 117 50)).toInt < ((64 : Nat) : Int)) ⟨g1050, fx_lnk g1051 hA104⟩ ?_
              refine fx_qX (fun X106 eX106 => ?_)
              show fx_W _ _ _ 312 lv [] _ _
              refine fx_i2 aj_d249 rfl (Nat.le_succ _) (fun _ => rfl) hlv_0 ?_
              refine fx_n (pc' := 314) (lv' := lv) (st' := [.ref 117, .ref 117]) aj_d249 rfl (Nat.le_succ _) (fun _ => rfl) ?_
              refine fx_gI aj_d249 rfl (Nat.le_succ _) rfl rfl (Or.inl rfl) ?_
              refine fx_n (pc' := 318) (lv' := lv) (st' := [.int (Int32.ofInt 1), .int (X106.1 117 50), .ref 117]) aj_d249 rfl (Nat.le_succ _) (fun _ => rfl) ?_
              refine fx_n (pc' := 319) (lv' := lv) (st' := [.int ((X106.1 117 50) + (Int32.ofInt 1)), .ref 117]) aj_d249 rfl (Nat.le_succ _) (fun _ => rfl) ?_
              refine fx_pI aj_d249 rfl (Nat.le_succ _) rfl rfl (Or.inl rfl) fx_no_11_50 (by decide) ?_
              refine fx_qX (fun X107 eX107 => ?_)
              show fx_W _ _ _ 322 lv [] _ _
              refine fx_i2 aj_d249 rfl (Nat.le_succ _) (fun _ => rfl) hlv_0 ?_
              refine fx_cv aj_d249 rfl (Nat.le_succ _) rfl [] rfl rfl (gx_264_ok) ?_
              rintro _ X108 ⟨w109, rfl, hR108⟩ hok108 hle108
              refine fx_qc hR108 ?_
              show fx_W _ _ _ 326 lv [.int w109] _ _
              refine fx_b0 (tgt := 18) aj_d249 rfl (Nat.le_succ _) rfl (fun q110 => ?_) (fun q110 => ?_)
              · skip
                refine fx_qe (c := (w109).toInt = 0) (fx_t_ne q110) ?_
                show fx_W _ _ _ 18 lv [] _ _
                exact (ih.1) lv (y1) X108  hlv_0 hlv_1
              · skip
                refine fx_qi (c := (w109).toInt = 0) (fx_f_ne q110) ?_
                show fx_W _ _ _ 329 lv [] _ _
                refine fx_n (pc' := 330) (lv' := lv) (st' := [.int (Int32.ofInt 0)]) aj_d249 rfl (Nat.le_succ _) (fun _ => rfl) ?_
                exact fx_ri aj_d249 rfl ⟨_, rfl, 0, rfl, rfl⟩
            · skip
              refine fx_qe (c := (w99).toInt = 0) (fx_f_eq q100) ?_
              show fx_W _ _ _ 277 lv [] _ _
              refine fx_i2 aj_d249 rfl (Nat.le_succ _) (fun _ => rfl) hlv_0 ?_
              refine fx_cv aj_d249 rfl (Nat.le_succ _) rfl [] rfl rfl (gx_274_ok) ?_
              rintro _ X111 ⟨w112, rfl, hR111⟩ hok111 hle111
              refine fx_qc hR111 ?_
              show fx_W _ _ _ 281 lv [.int w112] _ _
              refine fx_b0 (tgt := 241) aj_d249 rfl (Nat.le_succ _) rfl (fun q113 => ?_) (fun q113 => ?_)
              · skip
                refine fx_qe (c := (w112).toInt = 0) (fx_t_ne q113) ?_
                show fx_W _ _ _ 241 lv [] _ _
                exact (ih.2.2.2.2.1) lv (y1) X111  hlv_0 hlv_1
              · skip
                refine fx_qi (c := (w112).toInt = 0) (fx_f_ne q113) ?_
                show fx_W _ _ _ 284 lv [] _ _
                refine fx_n (pc' := 285) (lv' := lv) (st' := [.int (Int32.ofInt 0)]) aj_d249 rfl (Nat.le_succ _) (fun _ => rfl) ?_
                exact fx_ri aj_d249 rfl ⟨_, rfl, 0, rfl, rfl⟩
    · intro lv X hlv_0
      refine fx_mono (Q := fx_Q fx_qI (fun v X' => ∃ n : Nat, gxT_249_348 (gxF_249 n) X v X')) (fun r X' ⟨v, e, n, z⟩ => ⟨v, e, n + 1, gxI_249_348 z⟩) ?_
      unfold gxT_249_348
      refine fx_i2 aj_d249 rfl (Nat.le_refl _) (fun _ => rfl) hlv_0 ?_
      refine fx_gI aj_d249 rfl (Nat.le_succ _) rfl rfl (Or.inl rfl) ?_
      refine fx_b0 (tgt := 364) aj_d249 rfl (Nat.le_succ _) rfl (fun q10 => ?_) (fun q10 => ?_)
      · skip
        refine fx_qe (c := 0 < ((X.1 117 50)).toInt) (fx_t_le q10) ?_
        show fx_W _ _ _ 364 lv [] _ _
        refine fx_n (pc' := 365) (lv' := lv) (st' := [.int (Int32.ofInt 1)]) aj_d249 rfl (Nat.le_succ _) (fun _ => rfl) ?_
        exact fx_ri aj_d249 rfl ⟨_, rfl, 0, rfl, rfl⟩
      · skip
        refine fx_qi (c := 0 < ((X.1 117 50)).toInt) (fx_f_le q10) ?_
        show fx_W _ _ _ 355 lv [] _ _
        refine fx_i2 aj_d249 rfl (Nat.le_succ _) (fun _ => rfl) hlv_0 ?_
        refine fx_cv aj_d249 rfl (Nat.le_succ _) rfl [] rfl rfl (gx_274_ok) ?_
        rintro _ X11 ⟨w12, rfl, hR11⟩ hok11 hle11
        refine fx_qc hR11 ?_
        show fx_W _ _ _ 359 lv [.int w12] _ _
        refine fx_b0 (tgt := 348) aj_d249 rfl (Nat.le_succ _) rfl (fun q13 => ?_) (fun q13 => ?_)
        · skip
          refine fx_qe (c := (w12).toInt = 0) (fx_t_ne q13) ?_
          show fx_W _ _ _ 348 lv [] _ _
          exact (ih.2.2.2.2.2) lv X11  hlv_0
        · skip
          refine fx_qi (c := (w12).toInt = 0) (fx_f_ne q13) ?_
          show fx_W _ _ _ 362 lv [] _ _
          refine fx_n (pc' := 363) (lv' := lv) (st' := [.int (Int32.ofInt 0)]) aj_d249 rfl (Nat.le_succ _) (fun _ => rfl) ?_
          exact fx_ri aj_d249 rfl ⟨_, rfl, 0, rfl, rfl⟩
theorem gx_249_ok {tb : aj_T} {X : fx_X} : fx_K tb 249 [.ref 117] X (fx_Q fx_qI (fun v X' => gx_249 X v X')) := by
  refine fx_m aj_m249_at rfl (fun N => ?_)
  refine fx_mono (Q := fx_Q fx_qI (fun v X' => ∃ n : Nat, gxE_249 (gxF_249 n) X v X')) (fun r X' h => h) ?_
  unfold gxE_249
  show fx_W _ _ _ 0 [(0, .ref 117)] [] _ _
  obtain ⟨lv1, elv1⟩ : ∃ l : aj_V, l = [(0, .ref 117)] := ⟨_, rfl⟩
  rw [← elv1]
  have hlv1_0 : aj_lv lv1 0 = some (.ref 117) := by rw [elv1]; rfl
  refine fx_i2 aj_d249 rfl (Nat.le_succ _) (fun _ => rfl) hlv1_0 ?_
  refine fx_n (pc' := 2) (lv' := lv1) (st' := [.int (Int32.ofInt 0), .ref 117]) aj_d249 rfl (Nat.le_succ _) (fun _ => rfl) ?_
  refine fx_pI aj_d249 rfl (Nat.le_succ _) rfl rfl (Or.inl rfl) fx_no_11_50 (by decide) ?_
  refine fx_qX (fun X2 eX2 => ?_)
  show fx_W _ _ _ 5 lv1 [] _ _
  refine fx_i2 aj_d249 rfl (Nat.le_succ _) (fun _ => rfl) hlv1_0 ?_
  refine fx_n (pc' := 8) (lv' := lv1) (st' := [.int ((Int8.ofInt 20).toInt32), .ref 117]) aj_d249 rfl (Nat.le_succ _) (fun _ => rfl) ?_
  refine fx_pI aj_d249 rfl (Nat.le_succ _) rfl rfl (Or.inl rfl) fx_no_11_51 (by decide) ?_
  refine fx_qX (fun X3 eX3 => ?_)
  show fx_W _ _ _ 11 lv1 [] _ _
  refine fx_i2 aj_d249 rfl (Nat.le_succ _) (fun _ => rfl) hlv1_0 ?_
  refine fx_n (pc' := 13) (lv' := lv1) (st' := [.int (Int32.ofInt 0), .ref 117]) aj_d249 rfl (Nat.le_succ _) (fun _ => rfl) ?_
  refine fx_pI aj_d249 rfl (Nat.le_succ _) rfl rfl (Or.inl rfl) fx_no_11_46 (by decide) ?_
  refine fx_qX (fun X4 eX4 => ?_)
  show fx_W _ _ _ 16 lv1 [] _ _
  refine fx_n (pc' := 17) (lv' := lv1) (st' := [.int (Int32.ofInt 1)]) aj_d249 rfl (Nat.le_succ _) (fun _ => rfl) ?_
  refine fx_s0 (j := 1) aj_d249 rfl (Nat.le_succ _) (by decide) (fun _ => rfl) ?_
  obtain ⟨lv5, elv5⟩ : ∃ l, l = aj_set1 lv1 1 (.int (Int32.ofInt 1)) := ⟨_, rfl⟩
  rw [← elv5]
  have hlv5_0 : aj_lv lv5 0 = some (.ref 117) := fx_e1 elv5 hlv1_0 (by decide) (Or.inr rfl)
  have hlv5_1 : aj_lv lv5 1 = some (.int (Int32.ofInt 1)) := by rw [elv5]; exact ak_set1_eq _ _ _
  show fx_W _ _ _ 18 lv5 [] _ _
  exact ((gxL_249 N).1) lv5 ((Int32.ofInt 1)) X4  hlv5_0 hlv5_1
def gx_248 (X : fx_X) (v : Int32) (X' : fx_X) : Prop :=
  ∃ (w3 : Int32) (X2 : fx_X), gx_230 (Int32.ofInt 1) X w3 X2 ∧ (if (w3).toInt = 0 then (v = (Int32.ofInt 0) ∧ X' = X2) else (∃ x5 : Int64, x5 = (X2.2.1 117 33) ∧ ∃ (w8 : Int32) (X7 : fx_X), gx_219 ((Int8.ofInt 61).toInt32) X2 w8 X7 ∧ (if (w8).toInt = 0 then (v = (Int32.ofInt 0) ∧ X' = X7) else (∃ (w11 : Int32) (X10 : fx_X), gx_249 X7 w11 X10 ∧ (if (w11).toInt = 0 then (v = (Int32.ofInt 0) ∧ X' = X10) else (∃ (w14 : Int32) (X13 : fx_X), gx_219 ((Int8.ofInt 59).toInt32) X10 w14 X13 ∧ (if (w14).toInt = 0 then (v = (Int32.ofInt 0) ∧ X' = X13) else ((0 ≤ ((X13.1 117 37)).toInt ∧ ((X13.1 117 37)).toInt < ((2 : Nat) : Int)) ∧ ∃ x18 : Int32, x18 = (((X13.1 117 37) * ((Int8.ofInt 10).toInt32)) + (X13.1 124 ((X13.1 117 37)).toInt.toNat)) ∧ ∃ (w21 : Unit) (X20 : fx_X), gx_251 ((Int8.ofInt 20).toInt32) x18 X13 w21 X20 ∧ (0 ≤ ((X20.1 117 37)).toInt ∧ ((X20.1 117 37)).toInt < ((2 : Nat) : Int)) ∧ (0 ≤ ((X20.1 117 37)).toInt ∧ ((X20.1 117 37)).toInt < ((2 : Nat) : Int)) ∧ ∃ X25 : fx_X, X25 = (fx_wI X20 124 ((X20.1 117 37)).toInt.toNat ((X20.1 124 ((X20.1 117 37)).toInt.toNat) + (Int32.ofInt 1))) ∧ v = (Int32.ofInt 1) ∧ X' = X25))))))))
theorem gx_248_ok {tb : aj_T} {X : fx_X} : fx_K tb 248 [.ref 117] X (fx_Q fx_qI (fun v X' => gx_248 X v X')) := by
  refine fx_m aj_m248_at rfl (fun N => ?_)
  refine fx_mono (Q := fx_Q fx_qI (fun v X' => ∃ n : Nat, gx_248 X v X')) (fun r X' ⟨v, e, _, z⟩ => ⟨v, e, z⟩) ?_
  unfold gx_248
  show fx_W _ _ _ 0 [(0, .ref 117)] [] _ _
  obtain ⟨lv1, elv1⟩ : ∃ l : aj_V, l = [(0, .ref 117)] := ⟨_, rfl⟩
  rw [← elv1]
  have hlv1_0 : aj_lv lv1 0 = some (.ref 117) := by rw [elv1]; rfl
  refine fx_i2 aj_d248 rfl (Nat.le_succ _) (fun _ => rfl) hlv1_0 ?_
  refine fx_n (pc' := 2) (lv' := lv1) (st' := [.int (Int32.ofInt 1), .ref 117]) aj_d248 rfl (Nat.le_succ _) (fun _ => rfl) ?_
  refine fx_cv aj_d248 rfl (Nat.le_succ _) rfl [_] rfl rfl (gx_230_ok (Int32.ofInt 1)) ?_
  rintro _ X2 ⟨w3, rfl, hR2⟩ hok2 hle2
  refine fx_qc hR2 ?_
  show fx_W _ _ _ 5 lv1 [.int w3] _ _
  refine fx_b0 (tgt := 10) aj_d248 rfl (Nat.le_succ _) rfl (fun q4 => ?_) (fun q4 => ?_)
  · skip
    refine fx_qe (c := (w3).toInt = 0) (fx_t_ne q4) ?_
    show fx_W _ _ _ 10 lv1 [] _ _
    refine fx_i2 aj_d248 rfl (Nat.le_succ _) (fun _ => rfl) hlv1_0 ?_
    refine fx_gL aj_d248 rfl (Nat.le_succ _) rfl rfl rfl ?_
    refine fx_qxL (fun x5 ex5 => ?_)
    refine fx_s1 (j := 1) aj_d248 rfl (Nat.le_succ _) (by decide) (fun _ => rfl) ?_
    obtain ⟨lv6, elv6⟩ : ∃ l, l = aj_set2 lv1 1 (.long x5) := ⟨_, rfl⟩
    rw [← elv6]
    have hlv6_0 : aj_lv lv6 0 = some (.ref 117) := fx_e2 elv6 hlv1_0 (by decide) (by decide) (Or.inr rfl)
    have hlv6_1 : aj_lv lv6 1 = some (.long x5) := by rw [elv6]; exact ak_set2_eq _ _ _
    show fx_W _ _ _ 15 lv6 [] _ _
    refine fx_i2 aj_d248 rfl (Nat.le_succ _) (fun _ => rfl) hlv6_0 ?_
    refine fx_n (pc' := 18) (lv' := lv6) (st' := [.int ((Int8.ofInt 61).toInt32), .ref 117]) aj_d248 rfl (Nat.le_succ _) (fun _ => rfl) ?_
    refine fx_cv aj_d248 rfl (Nat.le_succ _) rfl [_] rfl rfl (gx_219_ok ((Int8.ofInt 61).toInt32)) ?_
    rintro _ X7 ⟨w8, rfl, hR7⟩ hok7 hle7
    refine fx_qc hR7 ?_
    show fx_W _ _ _ 21 lv6 [.int w8] _ _
    refine fx_b0 (tgt := 40) aj_d248 rfl (Nat.le_succ _) rfl (fun q9 => ?_) (fun q9 => ?_)
    · skip
      refine fx_qi (c := (w8).toInt = 0) (fx_t_eq q9) ?_
      show fx_W _ _ _ 40 lv6 [] _ _
      refine fx_n (pc' := 41) (lv' := lv6) (st' := [.int (Int32.ofInt 0)]) aj_d248 rfl (Nat.le_succ _) (fun _ => rfl) ?_
      exact fx_ri aj_d248 rfl ⟨_, rfl, 0, rfl, rfl⟩
    · skip
      refine fx_qe (c := (w8).toInt = 0) (fx_f_eq q9) ?_
      show fx_W _ _ _ 24 lv6 [] _ _
      refine fx_i2 aj_d248 rfl (Nat.le_succ _) (fun _ => rfl) hlv6_0 ?_
      refine fx_cv aj_d248 rfl (Nat.le_succ _) rfl [] rfl rfl (gx_249_ok) ?_
      rintro _ X10 ⟨w11, rfl, hR10⟩ hok10 hle10
      refine fx_qc hR10 ?_
      show fx_W _ _ _ 28 lv6 [.int w11] _ _
      refine fx_b0 (tgt := 40) aj_d248 rfl (Nat.le_succ _) rfl (fun q12 => ?_) (fun q12 => ?_)
      · skip
        refine fx_qi (c := (w11).toInt = 0) (fx_t_eq q12) ?_
        show fx_W _ _ _ 40 lv6 [] _ _
        refine fx_n (pc' := 41) (lv' := lv6) (st' := [.int (Int32.ofInt 0)]) aj_d248 rfl (Nat.le_succ _) (fun _ => rfl) ?_
        exact fx_ri aj_d248 rfl ⟨_, rfl, 0, rfl, rfl⟩
      · skip
        refine fx_qe (c := (w11).toInt = 0) (fx_f_eq q12) ?_
        show fx_W _ _ _ 31 lv6 [] _ _
        refine fx_i2 aj_d248 rfl (Nat.le_succ _) (fun _ => rfl) hlv6_0 ?_
        refine fx_n (pc' := 34) (lv' := lv6) (st' := [.int ((Int8.ofInt 59).toInt32), .ref 117]) aj_d248 rfl (Nat.le_succ _) (fun _ => rfl) ?_
        refine fx_cv aj_d248 rfl (Nat.le_succ _) rfl [_] rfl rfl (gx_219_ok ((Int8.ofInt 59).toInt32)) ?_
        rintro _ X13 ⟨w14, rfl, hR13⟩ hok13 hle13
        refine fx_qc hR13 ?_
        show fx_W _ _ _ 37 lv6 [.int w14] _ _
        refine fx_b0 (tgt := 42) aj_d248 rfl (Nat.le_succ _) rfl (fun q15 => ?_) (fun q15 => ?_)
        · skip
          refine fx_qe (c := (w14).toInt = 0) (fx_t_ne q15) ?_
          show fx_W _ _ _ 42 lv6 [] _ _
          refine fx_i2 aj_d248 rfl (Nat.le_succ _) (fun _ => rfl) hlv6_0 ?_
          refine fx_gI aj_d248 rfl (Nat.le_succ _) rfl rfl (Or.inl rfl) ?_
          refine fx_n (pc' := 48) (lv' := lv6) (st' := [.int ((Int8.ofInt 10).toInt32), .int (X13.1 117 37)]) aj_d248 rfl (Nat.le_succ _) (fun _ => rfl) ?_
          refine fx_n (pc' := 49) (lv' := lv6) (st' := [.int ((X13.1 117 37) * ((Int8.ofInt 10).toInt32))]) aj_d248 rfl (Nat.le_succ _) (fun _ => rfl) ?_
          refine fx_i2 aj_d248 rfl (Nat.le_succ _) (fun _ => rfl) hlv6_0 ?_
          refine fx_gF aj_d248 rfl (Nat.le_succ _) rfl rfl fx_in_11_7 (t := 124) rfl (fun hA16 => ?_)
          refine fx_i2 aj_d248 rfl (Nat.le_succ _) (fun _ => rfl) hlv6_0 ?_
          refine fx_gI aj_d248 rfl (Nat.le_succ _) rfl rfl (Or.inl rfl) ?_
          refine fx_ld aj_d248 (Or.inl rfl) rfl (Nat.le_succ _) (fun g170 g171 => ?_)
          show fx_W _ _ _ 58 lv6 [.int (X13.1 124 ((X13.1 117 37)).toInt.toNat), .int ((X13.1 117 37) * ((Int8.ofInt 10).toInt32))] _ _
          refine fx_qa (c := 0 ≤ ((X13.1 117 37)).toInt ∧ ((X13.1 117 37)).toInt < ((2 : Nat) : Int)) ⟨g170, fx_lnk g171 hA16⟩ ?_
          refine fx_n (pc' := 59) (lv' := lv6) (st' := [.int (((X13.1 117 37) * ((Int8.ofInt 10).toInt32)) + (X13.1 124 ((X13.1 117 37)).toInt.toNat))]) aj_d248 rfl (Nat.le_succ _) (fun _ => rfl) ?_
          refine fx_qxI (fun x18 ex18 => ?_)
          refine fx_s0 (j := 3) aj_d248 rfl (Nat.le_succ _) (by decide) (fun _ => rfl) ?_
          obtain ⟨lv19, elv19⟩ : ∃ l, l = aj_set1 lv6 3 (.int x18) := ⟨_, rfl⟩
          rw [← elv19]
          have hlv19_0 : aj_lv lv19 0 = some (.ref 117) := fx_e1 elv19 hlv6_0 (by decide) (Or.inl (by decide))
          have hlv19_3 : aj_lv lv19 3 = some (.int x18) := by rw [elv19]; exact ak_set1_eq _ _ _
          show fx_W _ _ _ 60 lv19 [] _ _
          refine fx_i2 aj_d248 rfl (Nat.le_succ _) (fun _ => rfl) hlv19_0 ?_
          refine fx_n (pc' := 63) (lv' := lv19) (st' := [.int ((Int8.ofInt 20).toInt32), .ref 117]) aj_d248 rfl (Nat.le_succ _) (fun _ => rfl) ?_
          refine fx_i0 aj_d248 rfl (Nat.le_succ _) (fun _ => rfl) hlv19_3 ?_
          refine fx_cv aj_d248 rfl (Nat.le_succ _) rfl [_, _] rfl rfl (gx_251_ok ((Int8.ofInt 20).toInt32) x18) ?_
          rintro _ X20 ⟨w21, rfl, hR20⟩ hok20 hle20
          refine fx_qc hR20 ?_
          show fx_W _ _ _ 67 lv19 [] _ _
          refine fx_i2 aj_d248 rfl (Nat.le_succ _) (fun _ => rfl) hlv19_0 ?_
          refine fx_gF aj_d248 rfl (Nat.le_succ _) rfl rfl fx_in_11_7 (t := 124) rfl (fun hA22 => ?_)
          refine fx_i2 aj_d248 rfl (Nat.le_succ _) (fun _ => rfl) hlv19_0 ?_
          refine fx_gI aj_d248 rfl (Nat.le_succ _) rfl rfl (Or.inl rfl) ?_
          refine fx_n (pc' := 76) (lv' := lv19) (st' := [.int (X20.1 117 37), .ref 124, .int (X20.1 117 37), .ref 124]) aj_d248 rfl (Nat.le_succ _) (fun _ => rfl) ?_
          refine fx_ld aj_d248 (Or.inl rfl) rfl (Nat.le_succ _) (fun g230 g231 => ?_)
          show fx_W _ _ _ 77 lv19 [.int (X20.1 124 ((X20.1 117 37)).toInt.toNat), .int (X20.1 117 37), .ref 124] _ _
          refine fx_qa (c := 0 ≤ ((X20.1 117 37)).toInt ∧ ((X20.1 117 37)).toInt < ((2 : Nat) : Int)) ⟨g230, fx_lnk g231 hA22⟩ ?_
          refine fx_n (pc' := 78) (lv' := lv19) (st' := [.int (Int32.ofInt 1), .int (X20.1 124 ((X20.1 117 37)).toInt.toNat), .int (X20.1 117 37), .ref 124]) aj_d248 rfl (Nat.le_succ _) (fun _ => rfl) ?_
          refine fx_n (pc' := 79) (lv' := lv19) (st' := [.int ((X20.1 124 ((X20.1 117 37)).toInt.toNat) + (Int32.ofInt 1)), .int (X20.1 117 37), .ref 124]) aj_d248 rfl (Nat.le_succ _) (fun _ => rfl) ?_
          refine fx_st aj_d248 (Or.inl ⟨rfl, rfl⟩) rfl (Nat.le_succ _) (fun g240 g241 => ?_)
          show fx_W _ _ _ _ _ _ (fx_wI X20 124 ((X20.1 117 37)).toInt.toNat ((X20.1 124 ((X20.1 117 37)).toInt.toNat) + (Int32.ofInt 1))) _
          refine fx_qa (c := 0 ≤ ((X20.1 117 37)).toInt ∧ ((X20.1 117 37)).toInt < ((2 : Nat) : Int)) ⟨g240, fx_lnk g241 hA22⟩ ?_
          refine fx_qX (fun X25 eX25 => ?_)
          show fx_W _ _ _ 80 lv19 [] _ _
          refine fx_n (pc' := 81) (lv' := lv19) (st' := [.int (Int32.ofInt 1)]) aj_d248 rfl (Nat.le_succ _) (fun _ => rfl) ?_
          exact fx_ri aj_d248 rfl ⟨_, rfl, 0, rfl, rfl⟩
        · skip
          refine fx_qi (c := (w14).toInt = 0) (fx_f_ne q15) ?_
          show fx_W _ _ _ 40 lv6 [] _ _
          refine fx_n (pc' := 41) (lv' := lv6) (st' := [.int (Int32.ofInt 0)]) aj_d248 rfl (Nat.le_succ _) (fun _ => rfl) ?_
          exact fx_ri aj_d248 rfl ⟨_, rfl, 0, rfl, rfl⟩
  · skip
    refine fx_qi (c := (w3).toInt = 0) (fx_f_ne q4) ?_
    show fx_W _ _ _ 8 lv1 [] _ _
    refine fx_n (pc' := 9) (lv' := lv1) (st' := [.int (Int32.ofInt 0)]) aj_d248 rfl (Nat.le_succ _) (fun _ => rfl) ?_
    exact fx_ri aj_d248 rfl ⟨_, rfl, 0, rfl, rfl⟩
def gxT_245_2 (p1 : Int32) (P : Nat → List Int32 → List Int64 → List Nat → fx_X → Unit → fx_X → Prop) (y2 : Int32) (X : fx_X) (v : Unit) (X' : fx_X) : Prop :=
  (if ((X.1 117 32)).toInt = 0 then (X' = X) else ((0 ≤ ((X.1 117 37)).toInt ∧ ((X.1 117 37)).toInt < ((2 : Nat) : Int)) ∧ (if (y2).toInt < ((X.1 122 ((X.1 117 37)).toInt.toNat)).toInt then (∃ (w10 : Int32) (X9 : fx_X), gx_227 137 (p1 * ((Int8.ofInt 32).toInt32)) y2 X w10 X9 ∧ (if (w10).toInt = 0 then (∃ (w17 : Unit) (X16 : fx_X), gx_228 137 (p1 * ((Int8.ofInt 32).toInt32)) y2 (Int32.ofInt 1) X9 w17 X16 ∧ ∃ x18 : Int32, x18 = y2 + Int32.ofInt 1 ∧ P 2 [x18] [] [] X16 v X') else (∃ (w13 : Unit) (X12 : fx_X), gx_228 137 (p1 * ((Int8.ofInt 32).toInt32)) y2 (Int32.ofInt 0) X9 w13 X12 ∧ ∃ x14 : Int32, x14 = y2 + Int32.ofInt 1 ∧ P 2 [x14] [] [] X12 v X'))) else (X' = X))))
def gxE_245 (p1 : Int32) (P : Nat → List Int32 → List Int64 → List Nat → fx_X → Unit → fx_X → Prop) (X : fx_X) (v : Unit) (X' : fx_X) : Prop :=
  P 2 [(Int32.ofInt 0)] [] [] X v X'
noncomputable def gxF_245 (p1 : Int32) (n : Nat) : Nat → List Int32 → List Int64 → List Nat → fx_X → Unit → fx_X → Prop := Nat.rec (motive := fun _ => Nat → List Int32 → List Int64 → List Nat → fx_X → Unit → fx_X → Prop) (fun _ _ _ _ _ _ _ => False) (fun _ P l is ls rs X v X' => (l = 2 ∧ ∃ (y2 : Int32), is = [y2] ∧ ls = [] ∧ rs = [] ∧ gxT_245_2 p1 P y2 X v X')) n
theorem gxI_245_2 {p1 : Int32} {n : Nat} {y2 : Int32} {X : fx_X} {v : Unit} {X' : fx_X} (h : gxT_245_2 p1 (gxF_245 p1 n) y2 X v X') : gxF_245 p1 (n + 1) 2 [y2] [] [] X v X' := ⟨rfl, y2, rfl, rfl, rfl, h⟩
theorem gxO_245_2 {p1 : Int32} {n : Nat} {y2 : Int32} {X : fx_X} {v : Unit} {X' : fx_X} (h : gxF_245 p1 (n + 1) 2 [y2] [] [] X v X') : gxT_245_2 p1 (gxF_245 p1 n) y2 X v X' := by
  rcases h with ⟨-, _, e1, e2, e3, h⟩
  · cases e1; cases e2; cases e3; exact h
def gx_245 (p1 : Int32) (X : fx_X) (v : Unit) (X' : fx_X) : Prop := ∃ n : Nat, gxE_245 p1 (gxF_245 p1 n) X v X'
theorem gxL_245 {tb : aj_T} (p1 : Int32) : ∀ N : Nat, (∀ (lv : aj_V) (y2 : Int32) (X : fx_X), aj_lv lv 0 = some (.ref 117) → aj_lv lv 1 = some (.int p1) → aj_lv lv 2 = some (.int y2) → fx_W tb aj_m245 N 2 lv [] X (fx_Q fx_qN (fun v X' => ∃ n : Nat, gxF_245 p1 n 2 [y2] [] [] X v X'))) := by
  intro N
  induction N with
  | zero => exact (by intros; exact fx_z)
  | succ N ih =>
    skip
    · intro lv y2 X hlv_0 hlv_1 hlv_2
      refine fx_mono (Q := fx_Q fx_qN (fun v X' => ∃ n : Nat, gxT_245_2 p1 (gxF_245 p1 n) y2 X v X')) (fun r X' ⟨v, e, n, z⟩ => ⟨v, e, n + 1, gxI_245_2 z⟩) ?_
      unfold gxT_245_2
      refine fx_i2 aj_d245 rfl (Nat.le_refl _) (fun _ => rfl) hlv_0 ?_
      refine fx_gI aj_d245 rfl (Nat.le_succ _) rfl rfl (Or.inr (Or.inl rfl)) ?_
      refine fx_b0 (tgt := 60) aj_d245 rfl (Nat.le_succ _) rfl (fun q3 => ?_) (fun q3 => ?_)
      · skip
        refine fx_qi (c := ((X.1 117 32)).toInt = 0) (fx_t_eq q3) ?_
        show fx_W _ _ _ 60 lv [] _ _
        exact fx_rn aj_d245 rfl ⟨(), rfl, 0, rfl⟩
      · skip
        refine fx_qe (c := ((X.1 117 32)).toInt = 0) (fx_f_eq q3) ?_
        show fx_W _ _ _ 9 lv [] _ _
        refine fx_i0 aj_d245 rfl (Nat.le_succ _) (fun _ => rfl) hlv_2 ?_
        refine fx_i2 aj_d245 rfl (Nat.le_succ _) (fun _ => rfl) hlv_0 ?_
        refine fx_gF aj_d245 rfl (Nat.le_succ _) rfl rfl fx_in_11_5 (t := 122) rfl (fun hA4 => ?_)
        refine fx_i2 aj_d245 rfl (Nat.le_succ _) (fun _ => rfl) hlv_0 ?_
        refine fx_gI aj_d245 rfl (Nat.le_succ _) rfl rfl (Or.inl rfl) ?_
        refine fx_ld aj_d245 (Or.inl rfl) rfl (Nat.le_succ _) (fun g50 g51 => ?_)
        show fx_W _ _ _ 19 lv [.int (X.1 122 ((X.1 117 37)).toInt.toNat), .int y2] _ _
        refine fx_qa (c := 0 ≤ ((X.1 117 37)).toInt ∧ ((X.1 117 37)).toInt < ((2 : Nat) : Int)) ⟨g50, fx_lnk g51 hA4⟩ ?_
        refine fx_b (tgt := 60) aj_d245 rfl (Nat.le_succ _) rfl (fun q6 => ?_) (fun q6 => ?_)
        · skip
          refine fx_qe (c := (y2).toInt < ((X.1 122 ((X.1 117 37)).toInt.toNat)).toInt) (fx_t_ge q6) ?_
          show fx_W _ _ _ 60 lv [] _ _
          exact fx_rn aj_d245 rfl ⟨(), rfl, 0, rfl⟩
        · skip
          refine fx_qi (c := (y2).toInt < ((X.1 122 ((X.1 117 37)).toInt.toNat)).toInt) (fx_f_ge q6) ?_
          show fx_W _ _ _ 22 lv [] _ _
          refine fx_i2 aj_d245 rfl (Nat.le_succ _) (fun _ => rfl) hlv_0 ?_
          refine fx_gF aj_d245 rfl (Nat.le_succ _) rfl rfl fx_in_11_21 (t := 137) rfl (fun hA7 => ?_)
          refine fx_i0 aj_d245 rfl (Nat.le_succ _) (fun _ => rfl) hlv_1 ?_
          refine fx_n (pc' := 29) (lv' := lv) (st' := [.int ((Int8.ofInt 32).toInt32), .int p1, .ref 137]) aj_d245 rfl (Nat.le_succ _) (fun _ => rfl) ?_
          refine fx_n (pc' := 30) (lv' := lv) (st' := [.int (p1 * ((Int8.ofInt 32).toInt32)), .ref 137]) aj_d245 rfl (Nat.le_succ _) (fun _ => rfl) ?_
          refine fx_i0 aj_d245 rfl (Nat.le_succ _) (fun _ => rfl) hlv_2 ?_
          refine fx_i2 aj_d245 rfl (Nat.le_succ _) (fun _ => rfl) hlv_0 ?_
          refine fx_gF aj_d245 rfl (Nat.le_succ _) rfl rfl fx_in_11_21 (t := 137) rfl (fun hA8 => ?_)
          refine fx_i0 aj_d245 rfl (Nat.le_succ _) (fun _ => rfl) hlv_1 ?_
          refine fx_n (pc' := 38) (lv' := lv) (st' := [.int ((Int8.ofInt 32).toInt32), .int p1, .ref 137, .int y2, .int (p1 * ((Int8.ofInt 32).toInt32)), .ref 137]) aj_d245 rfl (Nat.le_succ _) (fun _ => rfl) ?_
          refine fx_n (pc' := 39) (lv' := lv) (st' := [.int (p1 * ((Int8.ofInt 32).toInt32)), .ref 137, .int y2, .int (p1 * ((Int8.ofInt 32).toInt32)), .ref 137]) aj_d245 rfl (Nat.le_succ _) (fun _ => rfl) ?_
          refine fx_i0 aj_d245 rfl (Nat.le_succ _) (fun _ => rfl) hlv_2 ?_
          refine fx_cs aj_d245 rfl (Nat.le_succ _) rfl rfl [_, _, _] rfl rfl (gx_227_ok 137 (p1 * ((Int8.ofInt 32).toInt32)) y2) ?_
          rintro _ X9 ⟨w10, rfl, hR9⟩ hok9 hle9
          refine fx_qc hR9 ?_
          show fx_W _ _ _ 43 lv [.int w10, .int y2, .int (p1 * ((Int8.ofInt 32).toInt32)), .ref 137] _ _
          refine fx_b0 (tgt := 50) aj_d245 rfl (Nat.le_succ _) rfl (fun q11 => ?_) (fun q11 => ?_)
          · skip
            refine fx_qe (c := (w10).toInt = 0) (fx_t_ne q11) ?_
            show fx_W _ _ _ 50 lv [.int y2, .int (p1 * ((Int8.ofInt 32).toInt32)), .ref 137] _ _
            refine fx_n (pc' := 51) (lv' := lv) (st' := [.int (Int32.ofInt 0), .int y2, .int (p1 * ((Int8.ofInt 32).toInt32)), .ref 137]) aj_d245 rfl (Nat.le_succ _) (fun _ => rfl) ?_
            refine fx_cs aj_d245 rfl (Nat.le_succ _) rfl rfl [_, _, _, _] rfl rfl (gx_228_ok 137 (p1 * ((Int8.ofInt 32).toInt32)) y2 (Int32.ofInt 0)) ?_
            rintro _ X12 ⟨w13, rfl, hR12⟩ hok12 hle12
            refine fx_qc hR12 ?_
            show fx_W _ _ _ 54 lv [] _ _
            refine fx_incq aj_d245 rfl (Nat.le_succ _) hlv_2 (by decide) (fun x14 ex14 => ?_)
            obtain ⟨lv15, elv15⟩ : ∃ l, l = aj_set1 lv 2 (.int x14) := ⟨_, rfl⟩
            rw [← elv15]
            have hlv15_0 : aj_lv lv15 0 = some (.ref 117) := fx_e1 elv15 hlv_0 (by decide) (Or.inl (by decide))
            have hlv15_1 : aj_lv lv15 1 = some (.int p1) := fx_e1 elv15 hlv_1 (by decide) (Or.inr rfl)
            have hlv15_2 : aj_lv lv15 2 = some (.int x14) := by rw [elv15]; exact ak_set1_eq _ _ _
            show fx_W _ _ _ 57 lv15 [] _ _
            refine fx_n (pc' := 2) (lv' := lv15) (st' := []) aj_d245 rfl (Nat.le_succ _) (fun _ => rfl) ?_
            exact (ih) lv15 (x14) X12  hlv15_0 hlv15_1 hlv15_2
          · skip
            refine fx_qi (c := (w10).toInt = 0) (fx_f_ne q11) ?_
            show fx_W _ _ _ 46 lv [.int y2, .int (p1 * ((Int8.ofInt 32).toInt32)), .ref 137] _ _
            refine fx_n (pc' := 47) (lv' := lv) (st' := [.int (Int32.ofInt 1), .int y2, .int (p1 * ((Int8.ofInt 32).toInt32)), .ref 137]) aj_d245 rfl (Nat.le_succ _) (fun _ => rfl) ?_
            refine fx_n (pc' := 51) (lv' := lv) (st' := [.int (Int32.ofInt 1), .int y2, .int (p1 * ((Int8.ofInt 32).toInt32)), .ref 137]) aj_d245 rfl (Nat.le_succ _) (fun _ => rfl) ?_
            refine fx_cs aj_d245 rfl (Nat.le_succ _) rfl rfl [_, _, _, _] rfl rfl (gx_228_ok 137 (p1 * ((Int8.ofInt 32).toInt32)) y2 (Int32.ofInt 1)) ?_
            rintro _ X16 ⟨w17, rfl, hR16⟩ hok16 hle16
            refine fx_qc hR16 ?_
            show fx_W _ _ _ 54 lv [] _ _
            refine fx_incq aj_d245 rfl (Nat.le_succ _) hlv_2 (by decide) (fun x18 ex18 => ?_)
            obtain ⟨lv19, elv19⟩ : ∃ l, l = aj_set1 lv 2 (.int x18) := ⟨_, rfl⟩
            rw [← elv19]
            have hlv19_0 : aj_lv lv19 0 = some (.ref 117) := fx_e1 elv19 hlv_0 (by decide) (Or.inl (by decide))
            have hlv19_1 : aj_lv lv19 1 = some (.int p1) := fx_e1 elv19 hlv_1 (by decide) (Or.inr rfl)
            have hlv19_2 : aj_lv lv19 2 = some (.int x18) := by rw [elv19]; exact ak_set1_eq _ _ _
            show fx_W _ _ _ 57 lv19 [] _ _
            refine fx_n (pc' := 2) (lv' := lv19) (st' := []) aj_d245 rfl (Nat.le_succ _) (fun _ => rfl) ?_
            exact (ih) lv19 (x18) X16  hlv19_0 hlv19_1 hlv19_2
theorem gx_245_ok {tb : aj_T} (p1 : Int32) {X : fx_X} : fx_K tb 245 [.ref 117, .int p1] X (fx_Q fx_qN (fun v X' => gx_245 p1 X v X')) := by
  refine fx_m aj_m245_at rfl (fun N => ?_)
  refine fx_mono (Q := fx_Q fx_qN (fun v X' => ∃ n : Nat, gxE_245 p1 (gxF_245 p1 n) X v X')) (fun r X' h => h) ?_
  unfold gxE_245
  show fx_W _ _ _ 0 [(0, .ref 117), (1, .int p1)] [] _ _
  obtain ⟨lv1, elv1⟩ : ∃ l : aj_V, l = [(0, .ref 117), (1, .int p1)] := ⟨_, rfl⟩
  rw [← elv1]
  have hlv1_0 : aj_lv lv1 0 = some (.ref 117) := by rw [elv1]; rfl
  have hlv1_1 : aj_lv lv1 1 = some (.int p1) := by rw [elv1]; rfl
  refine fx_n (pc' := 1) (lv' := lv1) (st' := [.int (Int32.ofInt 0)]) aj_d245 rfl (Nat.le_succ _) (fun _ => rfl) ?_
  refine fx_s0 (j := 2) aj_d245 rfl (Nat.le_succ _) (by decide) (fun _ => rfl) ?_
  obtain ⟨lv2, elv2⟩ : ∃ l, l = aj_set1 lv1 2 (.int (Int32.ofInt 0)) := ⟨_, rfl⟩
  rw [← elv2]
  have hlv2_0 : aj_lv lv2 0 = some (.ref 117) := fx_e1 elv2 hlv1_0 (by decide) (Or.inl (by decide))
  have hlv2_1 : aj_lv lv2 1 = some (.int p1) := fx_e1 elv2 hlv1_1 (by decide) (Or.inr rfl)
  have hlv2_2 : aj_lv lv2 2 = some (.int (Int32.ofInt 0)) := by rw [elv2]; exact ak_set1_eq _ _ _
  show fx_W _ _ _ 2 lv2 [] _ _
  exact ((gxL_245 p1 N)) lv2 ((Int32.ofInt 0)) X  hlv2_0 hlv2_1 hlv2_2
def gxT_244_78 (P : Nat → List Int32 → List Int64 → List Nat → fx_X → Unit → fx_X → Prop) (y1 : Int32) (y2 : Int32) (y3 : Int32) (y4 : Int32) (X : fx_X) (v : Unit) (X' : fx_X) : Prop :=
  (if ((X.1 117 32)).toInt = 0 then (X' = X) else ((0 ≤ ((X.1 117 37)).toInt ∧ ((X.1 117 37)).toInt < ((2 : Nat) : Int)) ∧ (if (y4).toInt < ((X.1 122 ((X.1 117 37)).toInt.toNat)).toInt then (∃ (w23 : Int32) (X22 : fx_X), gx_227 137 y2 y4 X w23 X22 ∧ ∃ (w27 : Int32) (X26 : fx_X), gx_227 137 y3 y4 X22 w27 X26 ∧ (if (y1).toInt = 124 then ((if (w23).toInt = 0 then ((if (w27).toInt = 0 then (∃ (w52 : Unit) (X51 : fx_X), gx_228 137 y2 y4 (Int32.ofInt 0) X26 w52 X51 ∧ ∃ x53 : Int32, x53 = y4 + Int32.ofInt 1 ∧ P 78 [y1, y2, y3, x53] [] [] X51 v X') else (∃ (w56 : Unit) (X55 : fx_X), gx_228 137 y2 y4 (Int32.ofInt 1) X26 w56 X55 ∧ ∃ x57 : Int32, x57 = y4 + Int32.ofInt 1 ∧ P 78 [y1, y2, y3, x57] [] [] X55 v X'))) else (∃ (w47 : Unit) (X46 : fx_X), gx_228 137 y2 y4 (Int32.ofInt 1) X26 w47 X46 ∧ ∃ x48 : Int32, x48 = y4 + Int32.ofInt 1 ∧ P 78 [y1, y2, y3, x48] [] [] X46 v X'))) else ((if (w23).toInt = 0 then (∃ (w33 : Unit) (X32 : fx_X), gx_228 137 y2 y4 (Int32.ofInt 0) X26 w33 X32 ∧ ∃ x34 : Int32, x34 = y4 + Int32.ofInt 1 ∧ P 78 [y1, y2, y3, x34] [] [] X32 v X') else ((if (w27).toInt = 0 then (∃ (w38 : Unit) (X37 : fx_X), gx_228 137 y2 y4 (Int32.ofInt 0) X26 w38 X37 ∧ ∃ x39 : Int32, x39 = y4 + Int32.ofInt 1 ∧ P 78 [y1, y2, y3, x39] [] [] X37 v X') else (∃ (w42 : Unit) (X41 : fx_X), gx_228 137 y2 y4 (Int32.ofInt 1) X26 w42 X41 ∧ ∃ x43 : Int32, x43 = y4 + Int32.ofInt 1 ∧ P 78 [y1, y2, y3, x43] [] [] X41 v X'))))))) else (X' = X))))
def gxE_244 (P : Nat → List Int32 → List Int64 → List Nat → fx_X → Unit → fx_X → Prop) (X : fx_X) (v : Unit) (X' : fx_X) : Prop :=
  ∃ X2 : fx_X, X2 = (fx_wI X 117 43 ((X.1 117 43) - (Int32.ofInt 1))) ∧ (0 ≤ ((X2.1 117 43)).toInt ∧ ((X2.1 117 43)).toInt < ((40 : Nat) : Int)) ∧ ∃ x5 : Int32, x5 = (X2.1 139 ((X2.1 117 43)).toInt.toNat) ∧ (if (x5).toInt = 33 then (∃ X14 : fx_X, X14 = (fx_wI X2 117 41 ((X2.1 117 41) - (Int32.ofInt 1))) ∧ ∃ (w16 : Unit) (X15 : fx_X), gx_245 ((X14.1 117 44) - (Int32.ofInt 1)) X14 w16 X15 ∧ X' = X15) else (∃ X8 : fx_X, X8 = (fx_wI X2 117 44 ((X2.1 117 44) - (Int32.ofInt 1))) ∧ ∃ x9 : Int32, x9 = (((X8.1 117 44) - (Int32.ofInt 1)) * ((Int8.ofInt 32).toInt32)) ∧ ∃ x11 : Int32, x11 = ((X8.1 117 44) * ((Int8.ofInt 32).toInt32)) ∧ P 78 [x5, x9, x11, (Int32.ofInt 0)] [] [] X8 v X'))
noncomputable def gxF_244 (n : Nat) : Nat → List Int32 → List Int64 → List Nat → fx_X → Unit → fx_X → Prop := Nat.rec (motive := fun _ => Nat → List Int32 → List Int64 → List Nat → fx_X → Unit → fx_X → Prop) (fun _ _ _ _ _ _ _ => False) (fun _ P l is ls rs X v X' => (l = 78 ∧ ∃ (y1 : Int32) (y2 : Int32) (y3 : Int32) (y4 : Int32), is = [y1, y2, y3, y4] ∧ ls = [] ∧ rs = [] ∧ gxT_244_78 P y1 y2 y3 y4 X v X')) n
theorem gxI_244_78 {n : Nat} {y1 : Int32} {y2 : Int32} {y3 : Int32} {y4 : Int32} {X : fx_X} {v : Unit} {X' : fx_X} (h : gxT_244_78 (gxF_244 n) y1 y2 y3 y4 X v X') : gxF_244 (n + 1) 78 [y1, y2, y3, y4] [] [] X v X' := ⟨rfl, y1, y2, y3, y4, rfl, rfl, rfl, h⟩
theorem gxO_244_78 {n : Nat} {y1 : Int32} {y2 : Int32} {y3 : Int32} {y4 : Int32} {X : fx_X} {v : Unit} {X' : fx_X} (h : gxF_244 (n + 1) 78 [y1, y2, y3, y4] [] [] X v X') : gxT_244_78 (gxF_244 n) y1 y2 y3 y4 X v X' := by
  rcases h with ⟨-, _, _, _, _, e1, e2, e3, h⟩
  · cases e1; cases e2; cases e3; exact h
def gx_244 (X : fx_X) (v : Unit) (X' : fx_X) : Prop := ∃ n : Nat, gxE_244 (gxF_244 n) X v X'
theorem gxL_244 {tb : aj_T} : ∀ N : Nat, (∀ (lv : aj_V) (y1 : Int32) (y2 : Int32) (y3 : Int32) (y4 : Int32) (X : fx_X), aj_lv lv 0 = some (.ref 117) → aj_lv lv 1 = some (.int y1) → aj_lv lv 2 = some (.int y2) → aj_lv lv 3 = some (.int y3) → aj_lv lv 4 = some (.int y4) → fx_W tb aj_m244 N 78 lv [] X (fx_Q fx_qN (fun v X' => ∃ n : Nat, gxF_244 n 78 [y1, y2, y3, y4] [] [] X v X'))) := by
  intro N
  induction N with
  | zero => exact (by intros; exact fx_z)
  | succ N ih =>
    skip
    · intro lv y1 y2 y3 y4 X hlv_0 hlv_1 hlv_2 hlv_3 hlv_4
      refine fx_mono (Q := fx_Q fx_qN (fun v X' => ∃ n : Nat, gxT_244_78 (gxF_244 n) y1 y2 y3 y4 X v X')) (fun r X' ⟨v, e, n, z⟩ => ⟨v, e, n + 1, gxI_244_78 z⟩) ?_
      unfold gxT_244_78
      refine fx_i2 aj_d244 rfl (Nat.le_refl _) (fun _ => rfl) hlv_0 ?_
      refine fx_gI aj_d244 rfl (Nat.le_succ _) rfl rfl (Or.inr (Or.inl rfl)) ?_
      refine fx_b0 (tgt := 178) aj_d244 rfl (Nat.le_succ _) rfl (fun q17 => ?_) (fun q17 => ?_)
      · skip
        refine fx_qi (c := ((X.1 117 32)).toInt = 0) (fx_t_eq q17) ?_
        show fx_W _ _ _ 178 lv [] _ _
        exact fx_rn aj_d244 rfl ⟨(), rfl, 0, rfl⟩
      · skip
        refine fx_qe (c := ((X.1 117 32)).toInt = 0) (fx_f_eq q17) ?_
        show fx_W _ _ _ 85 lv [] _ _
        refine fx_i0 aj_d244 rfl (Nat.le_succ _) (fun _ => rfl) hlv_4 ?_
        refine fx_i2 aj_d244 rfl (Nat.le_succ _) (fun _ => rfl) hlv_0 ?_
        refine fx_gF aj_d244 rfl (Nat.le_succ _) rfl rfl fx_in_11_5 (t := 122) rfl (fun hA18 => ?_)
        refine fx_i2 aj_d244 rfl (Nat.le_succ _) (fun _ => rfl) hlv_0 ?_
        refine fx_gI aj_d244 rfl (Nat.le_succ _) rfl rfl (Or.inl rfl) ?_
        refine fx_ld aj_d244 (Or.inl rfl) rfl (Nat.le_succ _) (fun g190 g191 => ?_)
        show fx_W _ _ _ 96 lv [.int (X.1 122 ((X.1 117 37)).toInt.toNat), .int y4] _ _
        refine fx_qa (c := 0 ≤ ((X.1 117 37)).toInt ∧ ((X.1 117 37)).toInt < ((2 : Nat) : Int)) ⟨g190, fx_lnk g191 hA18⟩ ?_
        refine fx_b (tgt := 178) aj_d244 rfl (Nat.le_succ _) rfl (fun q20 => ?_) (fun q20 => ?_)
        · skip
          refine fx_qe (c := (y4).toInt < ((X.1 122 ((X.1 117 37)).toInt.toNat)).toInt) (fx_t_ge q20) ?_
          show fx_W _ _ _ 178 lv [] _ _
          exact fx_rn aj_d244 rfl ⟨(), rfl, 0, rfl⟩
        · skip
          refine fx_qi (c := (y4).toInt < ((X.1 122 ((X.1 117 37)).toInt.toNat)).toInt) (fx_f_ge q20) ?_
          show fx_W _ _ _ 99 lv [] _ _
          refine fx_i2 aj_d244 rfl (Nat.le_succ _) (fun _ => rfl) hlv_0 ?_
          refine fx_gF aj_d244 rfl (Nat.le_succ _) rfl rfl fx_in_11_21 (t := 137) rfl (fun hA21 => ?_)
          refine fx_i0 aj_d244 rfl (Nat.le_succ _) (fun _ => rfl) hlv_2 ?_
          refine fx_i0 aj_d244 rfl (Nat.le_succ _) (fun _ => rfl) hlv_4 ?_
          refine fx_cs aj_d244 rfl (Nat.le_succ _) rfl rfl [_, _, _] rfl rfl (gx_227_ok 137 y2 y4) ?_
          rintro _ X22 ⟨w23, rfl, hR22⟩ hok22 hle22
          refine fx_qc hR22 ?_
          show fx_W _ _ _ 109 lv [.int w23] _ _
          refine fx_s0 (j := 5) aj_d244 rfl (Nat.le_succ _) (by decide) (fun _ => rfl) ?_
          obtain ⟨lv24, elv24⟩ : ∃ l, l = aj_set1 lv 5 (.int w23) := ⟨_, rfl⟩
          rw [← elv24]
          have hlv24_0 : aj_lv lv24 0 = some (.ref 117) := fx_e1 elv24 hlv_0 (by decide) (Or.inl (by decide))
          have hlv24_1 : aj_lv lv24 1 = some (.int y1) := fx_e1 elv24 hlv_1 (by decide) (Or.inl (by decide))
          have hlv24_2 : aj_lv lv24 2 = some (.int y2) := fx_e1 elv24 hlv_2 (by decide) (Or.inl (by decide))
          have hlv24_3 : aj_lv lv24 3 = some (.int y3) := fx_e1 elv24 hlv_3 (by decide) (Or.inl (by decide))
          have hlv24_4 : aj_lv lv24 4 = some (.int y4) := fx_e1 elv24 hlv_4 (by decide) (Or.inr rfl)
          have hlv24_5 : aj_lv lv24 5 = some (.int w23) := by rw [elv24]; exact ak_set1_eq _ _ _
          show fx_W _ _ _ 111 lv24 [] _ _
          refine fx_i2 aj_d244 rfl (Nat.le_succ _) (fun _ => rfl) hlv24_0 ?_
          refine fx_gF aj_d244 rfl (Nat.le_succ _) rfl rfl fx_in_11_21 (t := 137) rfl (fun hA25 => ?_)
          refine fx_i0 aj_d244 rfl (Nat.le_succ _) (fun _ => rfl) hlv24_3 ?_
          refine fx_i0 aj_d244 rfl (Nat.le_succ _) (fun _ => rfl) hlv24_4 ?_
          refine fx_cs aj_d244 rfl (Nat.le_succ _) rfl rfl [_, _, _] rfl rfl (gx_227_ok 137 y3 y4) ?_
          rintro _ X26 ⟨w27, rfl, hR26⟩ hok26 hle26
          refine fx_qc hR26 ?_
          show fx_W _ _ _ 121 lv24 [.int w27] _ _
          refine fx_s0 (j := 6) aj_d244 rfl (Nat.le_succ _) (by decide) (fun _ => rfl) ?_
          obtain ⟨lv28, elv28⟩ : ∃ l, l = aj_set1 lv24 6 (.int w27) := ⟨_, rfl⟩
          rw [← elv28]
          have hlv28_0 : aj_lv lv28 0 = some (.ref 117) := fx_e1 elv28 hlv24_0 (by decide) (Or.inl (by decide))
          have hlv28_1 : aj_lv lv28 1 = some (.int y1) := fx_e1 elv28 hlv24_1 (by decide) (Or.inl (by decide))
          have hlv28_2 : aj_lv lv28 2 = some (.int y2) := fx_e1 elv28 hlv24_2 (by decide) (Or.inl (by decide))
          have hlv28_3 : aj_lv lv28 3 = some (.int y3) := fx_e1 elv28 hlv24_3 (by decide) (Or.inl (by decide))
          have hlv28_4 : aj_lv lv28 4 = some (.int y4) := fx_e1 elv28 hlv24_4 (by decide) (Or.inl (by decide))
          have hlv28_5 : aj_lv lv28 5 = some (.int w23) := fx_e1 elv28 hlv24_5 (by decide) (Or.inr rfl)
          have hlv28_6 : aj_lv lv28 6 = some (.int w27) := by rw [elv28]; exact ak_set1_eq _ _ _
          show fx_W _ _ _ 123 lv28 [] _ _
          refine fx_i2 aj_d244 rfl (Nat.le_succ _) (fun _ => rfl) hlv28_0 ?_
          refine fx_gF aj_d244 rfl (Nat.le_succ _) rfl rfl fx_in_11_21 (t := 137) rfl (fun hA29 => ?_)
          refine fx_i0 aj_d244 rfl (Nat.le_succ _) (fun _ => rfl) hlv28_2 ?_
          refine fx_i0 aj_d244 rfl (Nat.le_succ _) (fun _ => rfl) hlv28_4 ?_
          refine fx_i0 aj_d244 rfl (Nat.le_succ _) (fun _ => rfl) hlv28_1 ?_
          refine fx_n (pc' := 133) (lv' := lv28) (st' := [.int ((Int8.ofInt 124).toInt32), .int y1, .int y4, .int y2, .ref 137]) aj_d244 rfl (Nat.le_succ _) (fun _ => rfl) ?_
          refine fx_b (tgt := 154) aj_d244 rfl (Nat.le_succ _) rfl (fun q30 => ?_) (fun q30 => ?_)
          · skip
            refine fx_qe (c := (y1).toInt = 124) (fx_t_ne q30) ?_
            show fx_W _ _ _ 154 lv28 [.int y4, .int y2, .ref 137] _ _
            refine fx_i0 aj_d244 rfl (Nat.le_succ _) (fun _ => rfl) hlv28_5 ?_
            refine fx_b0 (tgt := 168) aj_d244 rfl (Nat.le_succ _) rfl (fun q31 => ?_) (fun q31 => ?_)
            · skip
              refine fx_qi (c := (w23).toInt = 0) (fx_t_eq q31) ?_
              show fx_W _ _ _ 168 lv28 [.int y4, .int y2, .ref 137] _ _
              refine fx_n (pc' := 169) (lv' := lv28) (st' := [.int (Int32.ofInt 0), .int y4, .int y2, .ref 137]) aj_d244 rfl (Nat.le_succ _) (fun _ => rfl) ?_
              refine fx_cs aj_d244 rfl (Nat.le_succ _) rfl rfl [_, _, _, _] rfl rfl (gx_228_ok 137 y2 y4 (Int32.ofInt 0)) ?_
              rintro _ X32 ⟨w33, rfl, hR32⟩ hok32 hle32
              refine fx_qc hR32 ?_
              show fx_W _ _ _ 172 lv28 [] _ _
              refine fx_incq aj_d244 rfl (Nat.le_succ _) hlv28_4 (by decide) (fun x34 ex34 => ?_)
              obtain ⟨lv35, elv35⟩ : ∃ l, l = aj_set1 lv28 4 (.int x34) := ⟨_, rfl⟩
              rw [← elv35]
              have hlv35_0 : aj_lv lv35 0 = some (.ref 117) := fx_e1 elv35 hlv28_0 (by decide) (Or.inl (by decide))
              have hlv35_1 : aj_lv lv35 1 = some (.int y1) := fx_e1 elv35 hlv28_1 (by decide) (Or.inl (by decide))
              have hlv35_2 : aj_lv lv35 2 = some (.int y2) := fx_e1 elv35 hlv28_2 (by decide) (Or.inl (by decide))
              have hlv35_3 : aj_lv lv35 3 = some (.int y3) := fx_e1 elv35 hlv28_3 (by decide) (Or.inr rfl)
              have hlv35_4 : aj_lv lv35 4 = some (.int x34) := by rw [elv35]; exact ak_set1_eq _ _ _
              show fx_W _ _ _ 175 lv35 [] _ _
              refine fx_n (pc' := 78) (lv' := lv35) (st' := []) aj_d244 rfl (Nat.le_succ _) (fun _ => rfl) ?_
              exact (ih) lv35 (y1) (y2) (y3) (x34) X32  hlv35_0 hlv35_1 hlv35_2 hlv35_3 hlv35_4
            · skip
              refine fx_qe (c := (w23).toInt = 0) (fx_f_eq q31) ?_
              show fx_W _ _ _ 159 lv28 [.int y4, .int y2, .ref 137] _ _
              refine fx_i0 aj_d244 rfl (Nat.le_succ _) (fun _ => rfl) hlv28_6 ?_
              refine fx_b0 (tgt := 168) aj_d244 rfl (Nat.le_succ _) rfl (fun q36 => ?_) (fun q36 => ?_)
              · skip
                refine fx_qi (c := (w27).toInt = 0) (fx_t_eq q36) ?_
                show fx_W _ _ _ 168 lv28 [.int y4, .int y2, .ref 137] _ _
                refine fx_n (pc' := 169) (lv' := lv28) (st' := [.int (Int32.ofInt 0), .int y4, .int y2, .ref 137]) aj_d244 rfl (Nat.le_succ _) (fun _ => rfl) ?_
                refine fx_cs aj_d244 rfl (Nat.le_succ _) rfl rfl [_, _, _, _] rfl rfl (gx_228_ok 137 y2 y4 (Int32.ofInt 0)) ?_
                rintro _ X37 ⟨w38, rfl, hR37⟩ hok37 hle37
                refine fx_qc hR37 ?_
                show fx_W _ _ _ 172 lv28 [] _ _
                refine fx_incq aj_d244 rfl (Nat.le_succ _) hlv28_4 (by decide) (fun x39 ex39 => ?_)
                obtain ⟨lv40, elv40⟩ : ∃ l, l = aj_set1 lv28 4 (.int x39) := ⟨_, rfl⟩
                rw [← elv40]
                have hlv40_0 : aj_lv lv40 0 = some (.ref 117) := fx_e1 elv40 hlv28_0 (by decide) (Or.inl (by decide))
                have hlv40_1 : aj_lv lv40 1 = some (.int y1) := fx_e1 elv40 hlv28_1 (by decide) (Or.inl (by decide))
                have hlv40_2 : aj_lv lv40 2 = some (.int y2) := fx_e1 elv40 hlv28_2 (by decide) (Or.inl (by decide))
                have hlv40_3 : aj_lv lv40 3 = some (.int y3) := fx_e1 elv40 hlv28_3 (by decide) (Or.inr rfl)
                have hlv40_4 : aj_lv lv40 4 = some (.int x39) := by rw [elv40]; exact ak_set1_eq _ _ _
                show fx_W _ _ _ 175 lv40 [] _ _
                refine fx_n (pc' := 78) (lv' := lv40) (st' := []) aj_d244 rfl (Nat.le_succ _) (fun _ => rfl) ?_
                exact (ih) lv40 (y1) (y2) (y3) (x39) X37  hlv40_0 hlv40_1 hlv40_2 hlv40_3 hlv40_4
              · skip
                refine fx_qe (c := (w27).toInt = 0) (fx_f_eq q36) ?_
                show fx_W _ _ _ 164 lv28 [.int y4, .int y2, .ref 137] _ _
                refine fx_n (pc' := 165) (lv' := lv28) (st' := [.int (Int32.ofInt 1), .int y4, .int y2, .ref 137]) aj_d244 rfl (Nat.le_succ _) (fun _ => rfl) ?_
                refine fx_n (pc' := 169) (lv' := lv28) (st' := [.int (Int32.ofInt 1), .int y4, .int y2, .ref 137]) aj_d244 rfl (Nat.le_succ _) (fun _ => rfl) ?_
                refine fx_cs aj_d244 rfl (Nat.le_succ _) rfl rfl [_, _, _, _] rfl rfl (gx_228_ok 137 y2 y4 (Int32.ofInt 1)) ?_
                rintro _ X41 ⟨w42, rfl, hR41⟩ hok41 hle41
                refine fx_qc hR41 ?_
                show fx_W _ _ _ 172 lv28 [] _ _
                refine fx_incq aj_d244 rfl (Nat.le_succ _) hlv28_4 (by decide) (fun x43 ex43 => ?_)
                obtain ⟨lv44, elv44⟩ : ∃ l, l = aj_set1 lv28 4 (.int x43) := ⟨_, rfl⟩
                rw [← elv44]
                have hlv44_0 : aj_lv lv44 0 = some (.ref 117) := fx_e1 elv44 hlv28_0 (by decide) (Or.inl (by decide))
                have hlv44_1 : aj_lv lv44 1 = some (.int y1) := fx_e1 elv44 hlv28_1 (by decide) (Or.inl (by decide))
                have hlv44_2 : aj_lv lv44 2 = some (.int y2) := fx_e1 elv44 hlv28_2 (by decide) (Or.inl (by decide))
                have hlv44_3 : aj_lv lv44 3 = some (.int y3) := fx_e1 elv44 hlv28_3 (by decide) (Or.inr rfl)
                have hlv44_4 : aj_lv lv44 4 = some (.int x43) := by rw [elv44]; exact ak_set1_eq _ _ _
                show fx_W _ _ _ 175 lv44 [] _ _
                refine fx_n (pc' := 78) (lv' := lv44) (st' := []) aj_d244 rfl (Nat.le_succ _) (fun _ => rfl) ?_
                exact (ih) lv44 (y1) (y2) (y3) (x43) X41  hlv44_0 hlv44_1 hlv44_2 hlv44_3 hlv44_4
          · skip
            refine fx_qi (c := (y1).toInt = 124) (fx_f_ne q30) ?_
            show fx_W _ _ _ 136 lv28 [.int y4, .int y2, .ref 137] _ _
            refine fx_i0 aj_d244 rfl (Nat.le_succ _) (fun _ => rfl) hlv28_5 ?_
            refine fx_b0 (tgt := 146) aj_d244 rfl (Nat.le_succ _) rfl (fun q45 => ?_) (fun q45 => ?_)
            · skip
              refine fx_qe (c := (w23).toInt = 0) (fx_t_ne q45) ?_
              show fx_W _ _ _ 146 lv28 [.int y4, .int y2, .ref 137] _ _
              refine fx_n (pc' := 147) (lv' := lv28) (st' := [.int (Int32.ofInt 1), .int y4, .int y2, .ref 137]) aj_d244 rfl (Nat.le_succ _) (fun _ => rfl) ?_
              refine fx_n (pc' := 169) (lv' := lv28) (st' := [.int (Int32.ofInt 1), .int y4, .int y2, .ref 137]) aj_d244 rfl (Nat.le_succ _) (fun _ => rfl) ?_
              refine fx_cs aj_d244 rfl (Nat.le_succ _) rfl rfl [_, _, _, _] rfl rfl (gx_228_ok 137 y2 y4 (Int32.ofInt 1)) ?_
              rintro _ X46 ⟨w47, rfl, hR46⟩ hok46 hle46
              refine fx_qc hR46 ?_
              show fx_W _ _ _ 172 lv28 [] _ _
              refine fx_incq aj_d244 rfl (Nat.le_succ _) hlv28_4 (by decide) (fun x48 ex48 => ?_)
              obtain ⟨lv49, elv49⟩ : ∃ l, l = aj_set1 lv28 4 (.int x48) := ⟨_, rfl⟩
              rw [← elv49]
              have hlv49_0 : aj_lv lv49 0 = some (.ref 117) := fx_e1 elv49 hlv28_0 (by decide) (Or.inl (by decide))
              have hlv49_1 : aj_lv lv49 1 = some (.int y1) := fx_e1 elv49 hlv28_1 (by decide) (Or.inl (by decide))
              have hlv49_2 : aj_lv lv49 2 = some (.int y2) := fx_e1 elv49 hlv28_2 (by decide) (Or.inl (by decide))
              have hlv49_3 : aj_lv lv49 3 = some (.int y3) := fx_e1 elv49 hlv28_3 (by decide) (Or.inr rfl)
              have hlv49_4 : aj_lv lv49 4 = some (.int x48) := by rw [elv49]; exact ak_set1_eq _ _ _
              show fx_W _ _ _ 175 lv49 [] _ _
              refine fx_n (pc' := 78) (lv' := lv49) (st' := []) aj_d244 rfl (Nat.le_succ _) (fun _ => rfl) ?_
              exact (ih) lv49 (y1) (y2) (y3) (x48) X46  hlv49_0 hlv49_1 hlv49_2 hlv49_3 hlv49_4
            · skip
              refine fx_qi (c := (w23).toInt = 0) (fx_f_ne q45) ?_
              show fx_W _ _ _ 141 lv28 [.int y4, .int y2, .ref 137] _ _
              refine fx_i0 aj_d244 rfl (Nat.le_succ _) (fun _ => rfl) hlv28_6 ?_
              refine fx_b0 (tgt := 150) aj_d244 rfl (Nat.le_succ _) rfl (fun q50 => ?_) (fun q50 => ?_)
              · skip
                refine fx_qi (c := (w27).toInt = 0) (fx_t_eq q50) ?_
                show fx_W _ _ _ 150 lv28 [.int y4, .int y2, .ref 137] _ _
                refine fx_n (pc' := 151) (lv' := lv28) (st' := [.int (Int32.ofInt 0), .int y4, .int y2, .ref 137]) aj_d244 rfl (Nat.le_succ _) (fun _ => rfl) ?_
                refine fx_n (pc' := 169) (lv' := lv28) (st' := [.int (Int32.ofInt 0), .int y4, .int y2, .ref 137]) aj_d244 rfl (Nat.le_succ _) (fun _ => rfl) ?_
                refine fx_cs aj_d244 rfl (Nat.le_succ _) rfl rfl [_, _, _, _] rfl rfl (gx_228_ok 137 y2 y4 (Int32.ofInt 0)) ?_
                rintro _ X51 ⟨w52, rfl, hR51⟩ hok51 hle51
                refine fx_qc hR51 ?_
                show fx_W _ _ _ 172 lv28 [] _ _
                refine fx_incq aj_d244 rfl (Nat.le_succ _) hlv28_4 (by decide) (fun x53 ex53 => ?_)
                obtain ⟨lv54, elv54⟩ : ∃ l, l = aj_set1 lv28 4 (.int x53) := ⟨_, rfl⟩
                rw [← elv54]
                have hlv54_0 : aj_lv lv54 0 = some (.ref 117) := fx_e1 elv54 hlv28_0 (by decide) (Or.inl (by decide))
                have hlv54_1 : aj_lv lv54 1 = some (.int y1) := fx_e1 elv54 hlv28_1 (by decide) (Or.inl (by decide))
                have hlv54_2 : aj_lv lv54 2 = some (.int y2) := fx_e1 elv54 hlv28_2 (by decide) (Or.inl (by decide))
                have hlv54_3 : aj_lv lv54 3 = some (.int y3) := fx_e1 elv54 hlv28_3 (by decide) (Or.inr rfl)
                have hlv54_4 : aj_lv lv54 4 = some (.int x53) := by rw [elv54]; exact ak_set1_eq _ _ _
                show fx_W _ _ _ 175 lv54 [] _ _
                refine fx_n (pc' := 78) (lv' := lv54) (st' := []) aj_d244 rfl (Nat.le_succ _) (fun _ => rfl) ?_
                exact (ih) lv54 (y1) (y2) (y3) (x53) X51  hlv54_0 hlv54_1 hlv54_2 hlv54_3 hlv54_4
              · skip
                refine fx_qe (c := (w27).toInt = 0) (fx_f_eq q50) ?_
                show fx_W _ _ _ 146 lv28 [.int y4, .int y2, .ref 137] _ _
                refine fx_n (pc' := 147) (lv' := lv28) (st' := [.int (Int32.ofInt 1), .int y4, .int y2, .ref 137]) aj_d244 rfl (Nat.le_succ _) (fun _ => rfl) ?_
                refine fx_n (pc' := 169) (lv' := lv28) (st' := [.int (Int32.ofInt 1), .int y4, .int y2, .ref 137]) aj_d244 rfl (Nat.le_succ _) (fun _ => rfl) ?_
                refine fx_cs aj_d244 rfl (Nat.le_succ _) rfl rfl [_, _, _, _] rfl rfl (gx_228_ok 137 y2 y4 (Int32.ofInt 1)) ?_
                rintro _ X55 ⟨w56, rfl, hR55⟩ hok55 hle55
                refine fx_qc hR55 ?_
                show fx_W _ _ _ 172 lv28 [] _ _
                refine fx_incq aj_d244 rfl (Nat.le_succ _) hlv28_4 (by decide) (fun x57 ex57 => ?_)
                obtain ⟨lv58, elv58⟩ : ∃ l, l = aj_set1 lv28 4 (.int x57) := ⟨_, rfl⟩
                rw [← elv58]
                have hlv58_0 : aj_lv lv58 0 = some (.ref 117) := fx_e1 elv58 hlv28_0 (by decide) (Or.inl (by decide))
                have hlv58_1 : aj_lv lv58 1 = some (.int y1) := fx_e1 elv58 hlv28_1 (by decide) (Or.inl (by decide))
                have hlv58_2 : aj_lv lv58 2 = some (.int y2) := fx_e1 elv58 hlv28_2 (by decide) (Or.inl (by decide))
                have hlv58_3 : aj_lv lv58 3 = some (.int y3) := fx_e1 elv58 hlv28_3 (by decide) (Or.inr rfl)
                have hlv58_4 : aj_lv lv58 4 = some (.int x57) := by rw [elv58]; exact ak_set1_eq _ _ _
                show fx_W _ _ _ 175 lv58 [] _ _
                refine fx_n (pc' := 78) (lv' := lv58) (st' := []) aj_d244 rfl (Nat.le_succ _) (fun _ => rfl) ?_
                exact (ih) lv58 (y1) (y2) (y3) (x57) X55  hlv58_0 hlv58_1 hlv58_2 hlv58_3 hlv58_4
theorem gx_244_ok {tb : aj_T} {X : fx_X} : fx_K tb 244 [.ref 117] X (fx_Q fx_qN (fun v X' => gx_244 X v X')) := by
  refine fx_m aj_m244_at rfl (fun N => ?_)
  refine fx_mono (Q := fx_Q fx_qN (fun v X' => ∃ n : Nat, gxE_244 (gxF_244 n) X v X')) (fun r X' h => h) ?_
  unfold gxE_244
  show fx_W _ _ _ 0 [(0, .ref 117)] [] _ _
  obtain ⟨lv1, elv1⟩ : ∃ l : aj_V, l = [(0, .ref 117)] := ⟨_, rfl⟩
  rw [← elv1]
  have hlv1_0 : aj_lv lv1 0 = some (.ref 117) := by rw [elv1]; rfl
  refine fx_i2 aj_d244 rfl (Nat.le_succ _) (fun _ => rfl) hlv1_0 ?_
  refine fx_n (pc' := 2) (lv' := lv1) (st' := [.ref 117, .ref 117]) aj_d244 rfl (Nat.le_succ _) (fun _ => rfl) ?_
  refine fx_gI aj_d244 rfl (Nat.le_succ _) rfl rfl (Or.inl rfl) ?_
  refine fx_n (pc' := 6) (lv' := lv1) (st' := [.int (Int32.ofInt 1), .int (X.1 117 43), .ref 117]) aj_d244 rfl (Nat.le_succ _) (fun _ => rfl) ?_
  refine fx_n (pc' := 7) (lv' := lv1) (st' := [.int ((X.1 117 43) - (Int32.ofInt 1)), .ref 117]) aj_d244 rfl (Nat.le_succ _) (fun _ => rfl) ?_
  refine fx_pI aj_d244 rfl (Nat.le_succ _) rfl rfl (Or.inl rfl) fx_no_11_43 (by decide) ?_
  refine fx_qX (fun X2 eX2 => ?_)
  show fx_W _ _ _ 10 lv1 [] _ _
  refine fx_i2 aj_d244 rfl (Nat.le_succ _) (fun _ => rfl) hlv1_0 ?_
  refine fx_gF aj_d244 rfl (Nat.le_succ _) rfl rfl fx_in_11_42 (t := 139) rfl (fun hA3 => ?_)
  refine fx_i2 aj_d244 rfl (Nat.le_succ _) (fun _ => rfl) hlv1_0 ?_
  refine fx_gI aj_d244 rfl (Nat.le_succ _) rfl rfl (Or.inl rfl) ?_
  refine fx_ld aj_d244 (Or.inl rfl) rfl (Nat.le_succ _) (fun g40 g41 => ?_)
  show fx_W _ _ _ 19 lv1 [.int (X2.1 139 ((X2.1 117 43)).toInt.toNat)] _ _
  refine fx_qa (c := 0 ≤ ((X2.1 117 43)).toInt ∧ ((X2.1 117 43)).toInt < ((40 : Nat) : Int)) ⟨g40, fx_lnk g41 hA3⟩ ?_
  refine fx_qxI (fun x5 ex5 => ?_)
  refine fx_s0 (j := 1) aj_d244 rfl (Nat.le_succ _) (by decide) (fun _ => rfl) ?_
  obtain ⟨lv6, elv6⟩ : ∃ l, l = aj_set1 lv1 1 (.int x5) := ⟨_, rfl⟩
  rw [← elv6]
  have hlv6_0 : aj_lv lv6 0 = some (.ref 117) := fx_e1 elv6 hlv1_0 (by decide) (Or.inr rfl)
  have hlv6_1 : aj_lv lv6 1 = some (.int x5) := by rw [elv6]; exact ak_set1_eq _ _ _
  show fx_W _ _ _ 20 lv6 [] _ _
  refine fx_i0 aj_d244 rfl (Nat.le_succ _) (fun _ => rfl) hlv6_1 ?_
  refine fx_n (pc' := 23) (lv' := lv6) (st' := [.int ((Int8.ofInt 33).toInt32), .int x5]) aj_d244 rfl (Nat.le_succ _) (fun _ => rfl) ?_
  refine fx_b (tgt := 47) aj_d244 rfl (Nat.le_succ _) rfl (fun q7 => ?_) (fun q7 => ?_)
  · skip
    refine fx_qe (c := (x5).toInt = 33) (fx_t_ne q7) ?_
    show fx_W _ _ _ 47 lv6 [] _ _
    refine fx_i2 aj_d244 rfl (Nat.le_succ _) (fun _ => rfl) hlv6_0 ?_
    refine fx_n (pc' := 49) (lv' := lv6) (st' := [.ref 117, .ref 117]) aj_d244 rfl (Nat.le_succ _) (fun _ => rfl) ?_
    refine fx_gI aj_d244 rfl (Nat.le_succ _) rfl rfl (Or.inl rfl) ?_
    refine fx_n (pc' := 53) (lv' := lv6) (st' := [.int (Int32.ofInt 1), .int (X2.1 117 44), .ref 117]) aj_d244 rfl (Nat.le_succ _) (fun _ => rfl) ?_
    refine fx_n (pc' := 54) (lv' := lv6) (st' := [.int ((X2.1 117 44) - (Int32.ofInt 1)), .ref 117]) aj_d244 rfl (Nat.le_succ _) (fun _ => rfl) ?_
    refine fx_pI aj_d244 rfl (Nat.le_succ _) rfl rfl (Or.inl rfl) fx_no_11_44 (by decide) ?_
    refine fx_qX (fun X8 eX8 => ?_)
    show fx_W _ _ _ 57 lv6 [] _ _
    refine fx_i2 aj_d244 rfl (Nat.le_succ _) (fun _ => rfl) hlv6_0 ?_
    refine fx_gI aj_d244 rfl (Nat.le_succ _) rfl rfl (Or.inl rfl) ?_
    refine fx_n (pc' := 62) (lv' := lv6) (st' := [.int (Int32.ofInt 1), .int (X8.1 117 44)]) aj_d244 rfl (Nat.le_succ _) (fun _ => rfl) ?_
    refine fx_n (pc' := 63) (lv' := lv6) (st' := [.int ((X8.1 117 44) - (Int32.ofInt 1))]) aj_d244 rfl (Nat.le_succ _) (fun _ => rfl) ?_
    refine fx_n (pc' := 65) (lv' := lv6) (st' := [.int ((Int8.ofInt 32).toInt32), .int ((X8.1 117 44) - (Int32.ofInt 1))]) aj_d244 rfl (Nat.le_succ _) (fun _ => rfl) ?_
    refine fx_n (pc' := 66) (lv' := lv6) (st' := [.int (((X8.1 117 44) - (Int32.ofInt 1)) * ((Int8.ofInt 32).toInt32))]) aj_d244 rfl (Nat.le_succ _) (fun _ => rfl) ?_
    refine fx_qxI (fun x9 ex9 => ?_)
    refine fx_s0 (j := 2) aj_d244 rfl (Nat.le_succ _) (by decide) (fun _ => rfl) ?_
    obtain ⟨lv10, elv10⟩ : ∃ l, l = aj_set1 lv6 2 (.int x9) := ⟨_, rfl⟩
    rw [← elv10]
    have hlv10_0 : aj_lv lv10 0 = some (.ref 117) := fx_e1 elv10 hlv6_0 (by decide) (Or.inl (by decide))
    have hlv10_1 : aj_lv lv10 1 = some (.int x5) := fx_e1 elv10 hlv6_1 (by decide) (Or.inr rfl)
    have hlv10_2 : aj_lv lv10 2 = some (.int x9) := by rw [elv10]; exact ak_set1_eq _ _ _
    show fx_W _ _ _ 67 lv10 [] _ _
    refine fx_i2 aj_d244 rfl (Nat.le_succ _) (fun _ => rfl) hlv10_0 ?_
    refine fx_gI aj_d244 rfl (Nat.le_succ _) rfl rfl (Or.inl rfl) ?_
    refine fx_n (pc' := 73) (lv' := lv10) (st' := [.int ((Int8.ofInt 32).toInt32), .int (X8.1 117 44)]) aj_d244 rfl (Nat.le_succ _) (fun _ => rfl) ?_
    refine fx_n (pc' := 74) (lv' := lv10) (st' := [.int ((X8.1 117 44) * ((Int8.ofInt 32).toInt32))]) aj_d244 rfl (Nat.le_succ _) (fun _ => rfl) ?_
    refine fx_qxI (fun x11 ex11 => ?_)
    refine fx_s0 (j := 3) aj_d244 rfl (Nat.le_succ _) (by decide) (fun _ => rfl) ?_
    obtain ⟨lv12, elv12⟩ : ∃ l, l = aj_set1 lv10 3 (.int x11) := ⟨_, rfl⟩
    rw [← elv12]
    have hlv12_0 : aj_lv lv12 0 = some (.ref 117) := fx_e1 elv12 hlv10_0 (by decide) (Or.inl (by decide))
    have hlv12_1 : aj_lv lv12 1 = some (.int x5) := fx_e1 elv12 hlv10_1 (by decide) (Or.inl (by decide))
    have hlv12_2 : aj_lv lv12 2 = some (.int x9) := fx_e1 elv12 hlv10_2 (by decide) (Or.inr rfl)
    have hlv12_3 : aj_lv lv12 3 = some (.int x11) := by rw [elv12]; exact ak_set1_eq _ _ _
    show fx_W _ _ _ 75 lv12 [] _ _
    refine fx_n (pc' := 76) (lv' := lv12) (st' := [.int (Int32.ofInt 0)]) aj_d244 rfl (Nat.le_succ _) (fun _ => rfl) ?_
    refine fx_s0 (j := 4) aj_d244 rfl (Nat.le_succ _) (by decide) (fun _ => rfl) ?_
    obtain ⟨lv13, elv13⟩ : ∃ l, l = aj_set1 lv12 4 (.int (Int32.ofInt 0)) := ⟨_, rfl⟩
    rw [← elv13]
    have hlv13_0 : aj_lv lv13 0 = some (.ref 117) := fx_e1 elv13 hlv12_0 (by decide) (Or.inl (by decide))
    have hlv13_1 : aj_lv lv13 1 = some (.int x5) := fx_e1 elv13 hlv12_1 (by decide) (Or.inl (by decide))
    have hlv13_2 : aj_lv lv13 2 = some (.int x9) := fx_e1 elv13 hlv12_2 (by decide) (Or.inl (by decide))
    have hlv13_3 : aj_lv lv13 3 = some (.int x11) := fx_e1 elv13 hlv12_3 (by decide) (Or.inr rfl)
    have hlv13_4 : aj_lv lv13 4 = some (.int (Int32.ofInt 0)) := by rw [elv13]; exact ak_set1_eq _ _ _
    show fx_W _ _ _ 78 lv13 [] _ _
    exact ((gxL_244 N)) lv13 (x5) (x9) (x11) ((Int32.ofInt 0)) X8  hlv13_0 hlv13_1 hlv13_2 hlv13_3 hlv13_4
  · skip
    refine fx_qi (c := (x5).toInt = 33) (fx_f_ne q7) ?_
    show fx_W _ _ _ 26 lv6 [] _ _
    refine fx_i2 aj_d244 rfl (Nat.le_succ _) (fun _ => rfl) hlv6_0 ?_
    refine fx_n (pc' := 28) (lv' := lv6) (st' := [.ref 117, .ref 117]) aj_d244 rfl (Nat.le_succ _) (fun _ => rfl) ?_
    refine fx_gI aj_d244 rfl (Nat.le_succ _) rfl rfl (Or.inl rfl) ?_
    refine fx_n (pc' := 32) (lv' := lv6) (st' := [.int (Int32.ofInt 1), .int (X2.1 117 41), .ref 117]) aj_d244 rfl (Nat.le_succ _) (fun _ => rfl) ?_
    refine fx_n (pc' := 33) (lv' := lv6) (st' := [.int ((X2.1 117 41) - (Int32.ofInt 1)), .ref 117]) aj_d244 rfl (Nat.le_succ _) (fun _ => rfl) ?_
    refine fx_pI aj_d244 rfl (Nat.le_succ _) rfl rfl (Or.inl rfl) fx_no_11_41 (by decide) ?_
    refine fx_qX (fun X14 eX14 => ?_)
    show fx_W _ _ _ 36 lv6 [] _ _
    refine fx_i2 aj_d244 rfl (Nat.le_succ _) (fun _ => rfl) hlv6_0 ?_
    refine fx_i2 aj_d244 rfl (Nat.le_succ _) (fun _ => rfl) hlv6_0 ?_
    refine fx_gI aj_d244 rfl (Nat.le_succ _) rfl rfl (Or.inl rfl) ?_
    refine fx_n (pc' := 42) (lv' := lv6) (st' := [.int (Int32.ofInt 1), .int (X14.1 117 44), .ref 117]) aj_d244 rfl (Nat.le_succ _) (fun _ => rfl) ?_
    refine fx_n (pc' := 43) (lv' := lv6) (st' := [.int ((X14.1 117 44) - (Int32.ofInt 1)), .ref 117]) aj_d244 rfl (Nat.le_succ _) (fun _ => rfl) ?_
    refine fx_cv aj_d244 rfl (Nat.le_succ _) rfl [_] rfl rfl (gx_245_ok ((X14.1 117 44) - (Int32.ofInt 1))) ?_
    rintro _ X15 ⟨w16, rfl, hR15⟩ hok15 hle15
    refine fx_qc hR15 ?_
    show fx_W _ _ _ 46 lv6 [] _ _
    exact fx_rn aj_d244 rfl ⟨(), rfl, 0, rfl⟩
def gxT_238_81 (P : Nat → List Int32 → List Int64 → List Nat → fx_X → Int32 → fx_X → Prop) (y1 : Int32) (y2 : Int32) (y3 : Int32) (y4 : Int32) (X : fx_X) (v : Int32) (X' : fx_X) : Prop :=
  (if ((X.1 117 32)).toInt = 0 then (∃ X60 : fx_X, X60 = (fx_wI X 117 44 ((X.1 117 44) + (Int32.ofInt 1))) ∧ v = (Int32.ofInt 1) ∧ X' = X60) else ((0 ≤ ((X.1 117 37)).toInt ∧ ((X.1 117 37)).toInt < ((2 : Nat) : Int)) ∧ (if (y4).toInt < ((X.1 122 ((X.1 117 37)).toInt.toNat)).toInt then (∃ (w67 : Int32) (X66 : fx_X), gx_240 (X.1 117 37) y1 y2 y4 X w67 X66 ∧ ∃ (w69 : Int32) (X68 : fx_X), gx_240 (X66.1 117 37) (X66.1 117 38) (X66.1 117 39) y4 X66 w69 X68 ∧ ∃ (w71 : Int32) (X70 : fx_X), gx_242 y3 w67 w69 X68 w71 X70 ∧ ∃ (w73 : Unit) (X72 : fx_X), gx_228 137 ((X.1 117 44) * ((Int8.ofInt 32).toInt32)) y4 w71 X70 w73 X72 ∧ ∃ x74 : Int32, x74 = y4 + Int32.ofInt 1 ∧ P 81 [y1, y2, y3, x74] [] [] X72 v X') else (∃ X64 : fx_X, X64 = (fx_wI X 117 44 ((X.1 117 44) + (Int32.ofInt 1))) ∧ v = (Int32.ofInt 1) ∧ X' = X64))))
def gxE_238 (P : Nat → List Int32 → List Int64 → List Nat → fx_X → Int32 → fx_X → Prop) (X : fx_X) (v : Int32) (X' : fx_X) : Prop :=
  (if ((X.1 117 26)).toInt = 2 then (∃ (w4 : Int32) (X3 : fx_X), gx_235 X w4 X3 ∧ (if (w4).toInt = 0 then (v = (Int32.ofInt 0) ∧ X' = X3) else (∃ x6 : Int32, x6 = (X3.1 117 38) ∧ ∃ x8 : Int32, x8 = (X3.1 117 39) ∧ ∃ (w11 : Int32) (X10 : fx_X), gx_239 X3 w11 X10 ∧ (if (w11).toInt = 0 then (v = (Int32.ofInt 0) ∧ X' = X10) else (∃ x13 : Int32, x13 = (X10.1 117 40) ∧ ∃ (w16 : Int32) (X15 : fx_X), gx_235 X10 w16 X15 ∧ (if (w16).toInt = 0 then (v = (Int32.ofInt 0) ∧ X' = X15) else (P 81 [x6, x8, x13, (Int32.ofInt 0)] [] [] X15 v X'))))))) else (∃ (w20 : Int32) (X19 : fx_X), gx_220 ((Int8.ofInt 45).toInt32) X w20 X19 ∧ (if (w20).toInt = 0 then (∃ (w39 : Int32) (X38 : fx_X), gx_220 ((Int8.ofInt 63).toInt32) X19 w39 X38 ∧ (if (w39).toInt = 0 then (∃ (w58 : Int32) (X57 : fx_X), gx_215 (Int32.ofInt 1) (X38.1 117 27) X38 w58 X57 ∧ v = w58 ∧ X' = X57) else (∃ (w42 : Int32) (X41 : fx_X), gx_235 X38 w42 X41 ∧ (if (w42).toInt = 0 then (v = (Int32.ofInt 0) ∧ X' = X41) else (∃ x44 : Int32, x44 = (X41.1 117 38) ∧ ∃ x46 : Int32, x46 = (X41.1 117 39) ∧ ∃ (w49 : Int32) (X48 : fx_X), gx_239 X41 w49 X48 ∧ (if (w49).toInt = 0 then (v = (Int32.ofInt 0) ∧ X' = X48) else (∃ x51 : Int32, x51 = (X48.1 117 40) ∧ ∃ (w54 : Int32) (X53 : fx_X), gx_235 X48 w54 X53 ∧ (if (w54).toInt = 0 then (v = (Int32.ofInt 0) ∧ X' = X53) else (P 81 [x44, x46, x51, (Int32.ofInt 0)] [] [] X53 v X'))))))))) else (∃ (w23 : Int32) (X22 : fx_X), gx_235 X19 w23 X22 ∧ (if (w23).toInt = 0 then (v = (Int32.ofInt 0) ∧ X' = X22) else (∃ x25 : Int32, x25 = (X22.1 117 38) ∧ ∃ x27 : Int32, x27 = (X22.1 117 39) ∧ ∃ (w30 : Int32) (X29 : fx_X), gx_239 X22 w30 X29 ∧ (if (w30).toInt = 0 then (v = (Int32.ofInt 0) ∧ X' = X29) else (∃ x32 : Int32, x32 = (X29.1 117 40) ∧ ∃ (w35 : Int32) (X34 : fx_X), gx_235 X29 w35 X34 ∧ (if (w35).toInt = 0 then (v = (Int32.ofInt 0) ∧ X' = X34) else (P 81 [x25, x27, x32, (Int32.ofInt 0)] [] [] X34 v X'))))))))))
noncomputable def gxF_238 (n : Nat) : Nat → List Int32 → List Int64 → List Nat → fx_X → Int32 → fx_X → Prop := Nat.rec (motive := fun _ => Nat → List Int32 → List Int64 → List Nat → fx_X → Int32 → fx_X → Prop) (fun _ _ _ _ _ _ _ => False) (fun _ P l is ls rs X v X' => (l = 81 ∧ ∃ (y1 : Int32) (y2 : Int32) (y3 : Int32) (y4 : Int32), is = [y1, y2, y3, y4] ∧ ls = [] ∧ rs = [] ∧ gxT_238_81 P y1 y2 y3 y4 X v X')) n
theorem gxI_238_81 {n : Nat} {y1 : Int32} {y2 : Int32} {y3 : Int32} {y4 : Int32} {X : fx_X} {v : Int32} {X' : fx_X} (h : gxT_238_81 (gxF_238 n) y1 y2 y3 y4 X v X') : gxF_238 (n + 1) 81 [y1, y2, y3, y4] [] [] X v X' := ⟨rfl, y1, y2, y3, y4, rfl, rfl, rfl, h⟩
theorem gxO_238_81 {n : Nat} {y1 : Int32} {y2 : Int32} {y3 : Int32} {y4 : Int32} {X : fx_X} {v : Int32} {X' : fx_X} (h : gxF_238 (n + 1) 81 [y1, y2, y3, y4] [] [] X v X') : gxT_238_81 (gxF_238 n) y1 y2 y3 y4 X v X' := by
  rcases h with ⟨-, _, _, _, _, e1, e2, e3, h⟩
  · cases e1; cases e2; cases e3; exact h
def gx_238 (X : fx_X) (v : Int32) (X' : fx_X) : Prop := ∃ n : Nat, gxE_238 (gxF_238 n) X v X'
theorem gxL_238 {tb : aj_T} : ∀ N : Nat, (∀ (lv : aj_V) (y1 : Int32) (y2 : Int32) (y3 : Int32) (y4 : Int32) (X : fx_X), aj_lv lv 0 = some (.ref 117) → aj_lv lv 1 = some (.int y1) → aj_lv lv 2 = some (.int y2) → aj_lv lv 3 = some (.int y3) → aj_lv lv 4 = some (.int y4) → fx_W tb aj_m238 N 81 lv [] X (fx_Q fx_qI (fun v X' => ∃ n : Nat, gxF_238 n 81 [y1, y2, y3, y4] [] [] X v X'))) := by
  intro N
  induction N with
  | zero => exact (by intros; exact fx_z)
  | succ N ih =>
    skip
    · intro lv y1 y2 y3 y4 X hlv_0 hlv_1 hlv_2 hlv_3 hlv_4
      refine fx_mono (Q := fx_Q fx_qI (fun v X' => ∃ n : Nat, gxT_238_81 (gxF_238 n) y1 y2 y3 y4 X v X')) (fun r X' ⟨v, e, n, z⟩ => ⟨v, e, n + 1, gxI_238_81 z⟩) ?_
      unfold gxT_238_81
      refine fx_i2 aj_d238 rfl (Nat.le_refl _) (fun _ => rfl) hlv_0 ?_
      refine fx_gI aj_d238 rfl (Nat.le_succ _) rfl rfl (Or.inr (Or.inl rfl)) ?_
      refine fx_b0 (tgt := 158) aj_d238 rfl (Nat.le_succ _) rfl (fun q59 => ?_) (fun q59 => ?_)
      · skip
        refine fx_qi (c := ((X.1 117 32)).toInt = 0) (fx_t_eq q59) ?_
        show fx_W _ _ _ 158 lv [] _ _
        refine fx_i2 aj_d238 rfl (Nat.le_succ _) (fun _ => rfl) hlv_0 ?_
        refine fx_n (pc' := 160) (lv' := lv) (st' := [.ref 117, .ref 117]) aj_d238 rfl (Nat.le_succ _) (fun _ => rfl) ?_
        refine fx_gI aj_d238 rfl (Nat.le_succ _) rfl rfl (Or.inl rfl) ?_
        refine fx_n (pc' := 164) (lv' := lv) (st' := [.int (Int32.ofInt 1), .int (X.1 117 44), .ref 117]) aj_d238 rfl (Nat.le_succ _) (fun _ => rfl) ?_
        refine fx_n (pc' := 165) (lv' := lv) (st' := [.int ((X.1 117 44) + (Int32.ofInt 1)), .ref 117]) aj_d238 rfl (Nat.le_succ _) (fun _ => rfl) ?_
        refine fx_pI aj_d238 rfl (Nat.le_succ _) rfl rfl (Or.inl rfl) fx_no_11_44 (by decide) ?_
        refine fx_qX (fun X60 eX60 => ?_)
        show fx_W _ _ _ 168 lv [] _ _
        refine fx_n (pc' := 169) (lv' := lv) (st' := [.int (Int32.ofInt 1)]) aj_d238 rfl (Nat.le_succ _) (fun _ => rfl) ?_
        exact fx_ri aj_d238 rfl ⟨_, rfl, 0, rfl, rfl⟩
      · skip
        refine fx_qe (c := ((X.1 117 32)).toInt = 0) (fx_f_eq q59) ?_
        show fx_W _ _ _ 88 lv [] _ _
        refine fx_i0 aj_d238 rfl (Nat.le_succ _) (fun _ => rfl) hlv_4 ?_
        refine fx_i2 aj_d238 rfl (Nat.le_succ _) (fun _ => rfl) hlv_0 ?_
        refine fx_gF aj_d238 rfl (Nat.le_succ _) rfl rfl fx_in_11_5 (t := 122) rfl (fun hA61 => ?_)
        refine fx_i2 aj_d238 rfl (Nat.le_succ _) (fun _ => rfl) hlv_0 ?_
        refine fx_gI aj_d238 rfl (Nat.le_succ _) rfl rfl (Or.inl rfl) ?_
        refine fx_ld aj_d238 (Or.inl rfl) rfl (Nat.le_succ _) (fun g620 g621 => ?_)
        show fx_W _ _ _ 99 lv [.int (X.1 122 ((X.1 117 37)).toInt.toNat), .int y4] _ _
        refine fx_qa (c := 0 ≤ ((X.1 117 37)).toInt ∧ ((X.1 117 37)).toInt < ((2 : Nat) : Int)) ⟨g620, fx_lnk g621 hA61⟩ ?_
        refine fx_b (tgt := 158) aj_d238 rfl (Nat.le_succ _) rfl (fun q63 => ?_) (fun q63 => ?_)
        · skip
          refine fx_qe (c := (y4).toInt < ((X.1 122 ((X.1 117 37)).toInt.toNat)).toInt) (fx_t_ge q63) ?_
          show fx_W _ _ _ 158 lv [] _ _
          refine fx_i2 aj_d238 rfl (Nat.le_succ _) (fun _ => rfl) hlv_0 ?_
          refine fx_n (pc' := 160) (lv' := lv) (st' := [.ref 117, .ref 117]) aj_d238 rfl (Nat.le_succ _) (fun _ => rfl) ?_
          refine fx_gI aj_d238 rfl (Nat.le_succ _) rfl rfl (Or.inl rfl) ?_
          refine fx_n (pc' := 164) (lv' := lv) (st' := [.int (Int32.ofInt 1), .int (X.1 117 44), .ref 117]) aj_d238 rfl (Nat.le_succ _) (fun _ => rfl) ?_
          refine fx_n (pc' := 165) (lv' := lv) (st' := [.int ((X.1 117 44) + (Int32.ofInt 1)), .ref 117]) aj_d238 rfl (Nat.le_succ _) (fun _ => rfl) ?_
          refine fx_pI aj_d238 rfl (Nat.le_succ _) rfl rfl (Or.inl rfl) fx_no_11_44 (by decide) ?_
          refine fx_qX (fun X64 eX64 => ?_)
          show fx_W _ _ _ 168 lv [] _ _
          refine fx_n (pc' := 169) (lv' := lv) (st' := [.int (Int32.ofInt 1)]) aj_d238 rfl (Nat.le_succ _) (fun _ => rfl) ?_
          exact fx_ri aj_d238 rfl ⟨_, rfl, 0, rfl, rfl⟩
        · skip
          refine fx_qi (c := (y4).toInt < ((X.1 122 ((X.1 117 37)).toInt.toNat)).toInt) (fx_f_ge q63) ?_
          show fx_W _ _ _ 102 lv [] _ _
          refine fx_i2 aj_d238 rfl (Nat.le_succ _) (fun _ => rfl) hlv_0 ?_
          refine fx_gF aj_d238 rfl (Nat.le_succ _) rfl rfl fx_in_11_21 (t := 137) rfl (fun hA65 => ?_)
          refine fx_i2 aj_d238 rfl (Nat.le_succ _) (fun _ => rfl) hlv_0 ?_
          refine fx_gI aj_d238 rfl (Nat.le_succ _) rfl rfl (Or.inl rfl) ?_
          refine fx_n (pc' := 112) (lv' := lv) (st' := [.int ((Int8.ofInt 32).toInt32), .int (X.1 117 44), .ref 137]) aj_d238 rfl (Nat.le_succ _) (fun _ => rfl) ?_
          refine fx_n (pc' := 113) (lv' := lv) (st' := [.int ((X.1 117 44) * ((Int8.ofInt 32).toInt32)), .ref 137]) aj_d238 rfl (Nat.le_succ _) (fun _ => rfl) ?_
          refine fx_i0 aj_d238 rfl (Nat.le_succ _) (fun _ => rfl) hlv_4 ?_
          refine fx_i0 aj_d238 rfl (Nat.le_succ _) (fun _ => rfl) hlv_3 ?_
          refine fx_i2 aj_d238 rfl (Nat.le_succ _) (fun _ => rfl) hlv_0 ?_
          refine fx_i2 aj_d238 rfl (Nat.le_succ _) (fun _ => rfl) hlv_0 ?_
          refine fx_gI aj_d238 rfl (Nat.le_succ _) rfl rfl (Or.inl rfl) ?_
          refine fx_i0 aj_d238 rfl (Nat.le_succ _) (fun _ => rfl) hlv_1 ?_
          refine fx_i0 aj_d238 rfl (Nat.le_succ _) (fun _ => rfl) hlv_2 ?_
          refine fx_i0 aj_d238 rfl (Nat.le_succ _) (fun _ => rfl) hlv_4 ?_
          refine fx_cv aj_d238 rfl (Nat.le_succ _) rfl [_, _, _, _] rfl rfl (gx_240_ok (X.1 117 37) y1 y2 y4) ?_
          rintro _ X66 ⟨w67, rfl, hR66⟩ hok66 hle66
          refine fx_qc hR66 ?_
          show fx_W _ _ _ 128 lv [.int w67, .int y3, .int y4, .int ((X.1 117 44) * ((Int8.ofInt 32).toInt32)), .ref 137] _ _
          refine fx_i2 aj_d238 rfl (Nat.le_succ _) (fun _ => rfl) hlv_0 ?_
          refine fx_i2 aj_d238 rfl (Nat.le_succ _) (fun _ => rfl) hlv_0 ?_
          refine fx_gI aj_d238 rfl (Nat.le_succ _) rfl rfl (Or.inl rfl) ?_
          refine fx_i2 aj_d238 rfl (Nat.le_succ _) (fun _ => rfl) hlv_0 ?_
          refine fx_gI aj_d238 rfl (Nat.le_succ _) rfl rfl (Or.inl rfl) ?_
          refine fx_i2 aj_d238 rfl (Nat.le_succ _) (fun _ => rfl) hlv_0 ?_
          refine fx_gI aj_d238 rfl (Nat.le_succ _) rfl rfl (Or.inl rfl) ?_
          refine fx_i0 aj_d238 rfl (Nat.le_succ _) (fun _ => rfl) hlv_4 ?_
          refine fx_cv aj_d238 rfl (Nat.le_succ _) rfl [_, _, _, _] rfl rfl (gx_240_ok (X66.1 117 37) (X66.1 117 38) (X66.1 117 39) y4) ?_
          rintro _ X68 ⟨w69, rfl, hR68⟩ hok68 hle68
          refine fx_qc hR68 ?_
          show fx_W _ _ _ 146 lv [.int w69, .int w67, .int y3, .int y4, .int ((X.1 117 44) * ((Int8.ofInt 32).toInt32)), .ref 137] _ _
          refine fx_cs aj_d238 rfl (Nat.le_succ _) rfl rfl [_, _, _] rfl rfl (gx_242_ok y3 w67 w69) ?_
          rintro _ X70 ⟨w71, rfl, hR70⟩ hok70 hle70
          refine fx_qc hR70 ?_
          show fx_W _ _ _ 149 lv [.int w71, .int y4, .int ((X.1 117 44) * ((Int8.ofInt 32).toInt32)), .ref 137] _ _
          refine fx_cs aj_d238 rfl (Nat.le_succ _) rfl rfl [_, _, _, _] rfl rfl (gx_228_ok 137 ((X.1 117 44) * ((Int8.ofInt 32).toInt32)) y4 w71) ?_
          rintro _ X72 ⟨w73, rfl, hR72⟩ hok72 hle72
          refine fx_qc hR72 ?_
          show fx_W _ _ _ 152 lv [] _ _
          refine fx_incq aj_d238 rfl (Nat.le_succ _) hlv_4 (by decide) (fun x74 ex74 => ?_)
          obtain ⟨lv75, elv75⟩ : ∃ l, l = aj_set1 lv 4 (.int x74) := ⟨_, rfl⟩
          rw [← elv75]
          have hlv75_0 : aj_lv lv75 0 = some (.ref 117) := fx_e1 elv75 hlv_0 (by decide) (Or.inl (by decide))
          have hlv75_1 : aj_lv lv75 1 = some (.int y1) := fx_e1 elv75 hlv_1 (by decide) (Or.inl (by decide))
          have hlv75_2 : aj_lv lv75 2 = some (.int y2) := fx_e1 elv75 hlv_2 (by decide) (Or.inl (by decide))
          have hlv75_3 : aj_lv lv75 3 = some (.int y3) := fx_e1 elv75 hlv_3 (by decide) (Or.inr rfl)
          have hlv75_4 : aj_lv lv75 4 = some (.int x74) := by rw [elv75]; exact ak_set1_eq _ _ _
          show fx_W _ _ _ 155 lv75 [] _ _
          refine fx_n (pc' := 81) (lv' := lv75) (st' := []) aj_d238 rfl (Nat.le_succ _) (fun _ => rfl) ?_
          exact (ih) lv75 (y1) (y2) (y3) (x74) X72  hlv75_0 hlv75_1 hlv75_2 hlv75_3 hlv75_4
theorem gx_238_ok {tb : aj_T} {X : fx_X} : fx_K tb 238 [.ref 117] X (fx_Q fx_qI (fun v X' => gx_238 X v X')) := by
  refine fx_m aj_m238_at rfl (fun N => ?_)
  refine fx_mono (Q := fx_Q fx_qI (fun v X' => ∃ n : Nat, gxE_238 (gxF_238 n) X v X')) (fun r X' h => h) ?_
  unfold gxE_238
  show fx_W _ _ _ 0 [(0, .ref 117)] [] _ _
  obtain ⟨lv1, elv1⟩ : ∃ l : aj_V, l = [(0, .ref 117)] := ⟨_, rfl⟩
  rw [← elv1]
  have hlv1_0 : aj_lv lv1 0 = some (.ref 117) := by rw [elv1]; rfl
  refine fx_i2 aj_d238 rfl (Nat.le_succ _) (fun _ => rfl) hlv1_0 ?_
  refine fx_gI aj_d238 rfl (Nat.le_succ _) rfl rfl (Or.inl rfl) ?_
  refine fx_n (pc' := 5) (lv' := lv1) (st' := [.int (Int32.ofInt 2), .int (X.1 117 26)]) aj_d238 rfl (Nat.le_succ _) (fun _ => rfl) ?_
  refine fx_b (tgt := 36) aj_d238 rfl (Nat.le_succ _) rfl (fun q2 => ?_) (fun q2 => ?_)
  · skip
    refine fx_qi (c := ((X.1 117 26)).toInt = 2) (fx_t_eq q2) ?_
    show fx_W _ _ _ 36 lv1 [] _ _
    refine fx_i2 aj_d238 rfl (Nat.le_succ _) (fun _ => rfl) hlv1_0 ?_
    refine fx_cv aj_d238 rfl (Nat.le_succ _) rfl [] rfl rfl (gx_235_ok) ?_
    rintro _ X3 ⟨w4, rfl, hR3⟩ hok3 hle3
    refine fx_qc hR3 ?_
    show fx_W _ _ _ 40 lv1 [.int w4] _ _
    refine fx_b0 (tgt := 45) aj_d238 rfl (Nat.le_succ _) rfl (fun q5 => ?_) (fun q5 => ?_)
    · skip
      refine fx_qe (c := (w4).toInt = 0) (fx_t_ne q5) ?_
      show fx_W _ _ _ 45 lv1 [] _ _
      refine fx_i2 aj_d238 rfl (Nat.le_succ _) (fun _ => rfl) hlv1_0 ?_
      refine fx_gI aj_d238 rfl (Nat.le_succ _) rfl rfl (Or.inl rfl) ?_
      refine fx_qxI (fun x6 ex6 => ?_)
      refine fx_s0 (j := 1) aj_d238 rfl (Nat.le_succ _) (by decide) (fun _ => rfl) ?_
      obtain ⟨lv7, elv7⟩ : ∃ l, l = aj_set1 lv1 1 (.int x6) := ⟨_, rfl⟩
      rw [← elv7]
      have hlv7_0 : aj_lv lv7 0 = some (.ref 117) := fx_e1 elv7 hlv1_0 (by decide) (Or.inr rfl)
      have hlv7_1 : aj_lv lv7 1 = some (.int x6) := by rw [elv7]; exact ak_set1_eq _ _ _
      show fx_W _ _ _ 50 lv7 [] _ _
      refine fx_i2 aj_d238 rfl (Nat.le_succ _) (fun _ => rfl) hlv7_0 ?_
      refine fx_gI aj_d238 rfl (Nat.le_succ _) rfl rfl (Or.inl rfl) ?_
      refine fx_qxI (fun x8 ex8 => ?_)
      refine fx_s0 (j := 2) aj_d238 rfl (Nat.le_succ _) (by decide) (fun _ => rfl) ?_
      obtain ⟨lv9, elv9⟩ : ∃ l, l = aj_set1 lv7 2 (.int x8) := ⟨_, rfl⟩
      rw [← elv9]
      have hlv9_0 : aj_lv lv9 0 = some (.ref 117) := fx_e1 elv9 hlv7_0 (by decide) (Or.inl (by decide))
      have hlv9_1 : aj_lv lv9 1 = some (.int x6) := fx_e1 elv9 hlv7_1 (by decide) (Or.inr rfl)
      have hlv9_2 : aj_lv lv9 2 = some (.int x8) := by rw [elv9]; exact ak_set1_eq _ _ _
      show fx_W _ _ _ 55 lv9 [] _ _
      refine fx_i2 aj_d238 rfl (Nat.le_succ _) (fun _ => rfl) hlv9_0 ?_
      refine fx_cv aj_d238 rfl (Nat.le_succ _) rfl [] rfl rfl (gx_239_ok) ?_
      rintro _ X10 ⟨w11, rfl, hR10⟩ hok10 hle10
      refine fx_qc hR10 ?_
      show fx_W _ _ _ 59 lv9 [.int w11] _ _
      refine fx_b0 (tgt := 64) aj_d238 rfl (Nat.le_succ _) rfl (fun q12 => ?_) (fun q12 => ?_)
      · skip
        refine fx_qe (c := (w11).toInt = 0) (fx_t_ne q12) ?_
        show fx_W _ _ _ 64 lv9 [] _ _
        refine fx_i2 aj_d238 rfl (Nat.le_succ _) (fun _ => rfl) hlv9_0 ?_
        refine fx_gI aj_d238 rfl (Nat.le_succ _) rfl rfl (Or.inl rfl) ?_
        refine fx_qxI (fun x13 ex13 => ?_)
        refine fx_s0 (j := 3) aj_d238 rfl (Nat.le_succ _) (by decide) (fun _ => rfl) ?_
        obtain ⟨lv14, elv14⟩ : ∃ l, l = aj_set1 lv9 3 (.int x13) := ⟨_, rfl⟩
        rw [← elv14]
        have hlv14_0 : aj_lv lv14 0 = some (.ref 117) := fx_e1 elv14 hlv9_0 (by decide) (Or.inl (by decide))
        have hlv14_1 : aj_lv lv14 1 = some (.int x6) := fx_e1 elv14 hlv9_1 (by decide) (Or.inl (by decide))
        have hlv14_2 : aj_lv lv14 2 = some (.int x8) := fx_e1 elv14 hlv9_2 (by decide) (Or.inr rfl)
        have hlv14_3 : aj_lv lv14 3 = some (.int x13) := by rw [elv14]; exact ak_set1_eq _ _ _
        show fx_W _ _ _ 69 lv14 [] _ _
        refine fx_i2 aj_d238 rfl (Nat.le_succ _) (fun _ => rfl) hlv14_0 ?_
        refine fx_cv aj_d238 rfl (Nat.le_succ _) rfl [] rfl rfl (gx_235_ok) ?_
        rintro _ X15 ⟨w16, rfl, hR15⟩ hok15 hle15
        refine fx_qc hR15 ?_
        show fx_W _ _ _ 73 lv14 [.int w16] _ _
        refine fx_b0 (tgt := 78) aj_d238 rfl (Nat.le_succ _) rfl (fun q17 => ?_) (fun q17 => ?_)
        · skip
          refine fx_qe (c := (w16).toInt = 0) (fx_t_ne q17) ?_
          show fx_W _ _ _ 78 lv14 [] _ _
          refine fx_n (pc' := 79) (lv' := lv14) (st' := [.int (Int32.ofInt 0)]) aj_d238 rfl (Nat.le_succ _) (fun _ => rfl) ?_
          refine fx_s0 (j := 4) aj_d238 rfl (Nat.le_succ _) (by decide) (fun _ => rfl) ?_
          obtain ⟨lv18, elv18⟩ : ∃ l, l = aj_set1 lv14 4 (.int (Int32.ofInt 0)) := ⟨_, rfl⟩
          rw [← elv18]
          have hlv18_0 : aj_lv lv18 0 = some (.ref 117) := fx_e1 elv18 hlv14_0 (by decide) (Or.inl (by decide))
          have hlv18_1 : aj_lv lv18 1 = some (.int x6) := fx_e1 elv18 hlv14_1 (by decide) (Or.inl (by decide))
          have hlv18_2 : aj_lv lv18 2 = some (.int x8) := fx_e1 elv18 hlv14_2 (by decide) (Or.inl (by decide))
          have hlv18_3 : aj_lv lv18 3 = some (.int x13) := fx_e1 elv18 hlv14_3 (by decide) (Or.inr rfl)
          have hlv18_4 : aj_lv lv18 4 = some (.int (Int32.ofInt 0)) := by rw [elv18]; exact ak_set1_eq _ _ _
          show fx_W _ _ _ 81 lv18 [] _ _
          exact ((gxL_238 N)) lv18 (x6) (x8) (x13) ((Int32.ofInt 0)) X15  hlv18_0 hlv18_1 hlv18_2 hlv18_3 hlv18_4
        · skip
          refine fx_qi (c := (w16).toInt = 0) (fx_f_ne q17) ?_
          show fx_W _ _ _ 76 lv14 [] _ _
          refine fx_n (pc' := 77) (lv' := lv14) (st' := [.int (Int32.ofInt 0)]) aj_d238 rfl (Nat.le_succ _) (fun _ => rfl) ?_
          exact fx_ri aj_d238 rfl ⟨_, rfl, 0, rfl, rfl⟩
      · skip
        refine fx_qi (c := (w11).toInt = 0) (fx_f_ne q12) ?_
        show fx_W _ _ _ 62 lv9 [] _ _
        refine fx_n (pc' := 63) (lv' := lv9) (st' := [.int (Int32.ofInt 0)]) aj_d238 rfl (Nat.le_succ _) (fun _ => rfl) ?_
        exact fx_ri aj_d238 rfl ⟨_, rfl, 0, rfl, rfl⟩
    · skip
      refine fx_qi (c := (w4).toInt = 0) (fx_f_ne q5) ?_
      show fx_W _ _ _ 43 lv1 [] _ _
      refine fx_n (pc' := 44) (lv' := lv1) (st' := [.int (Int32.ofInt 0)]) aj_d238 rfl (Nat.le_succ _) (fun _ => rfl) ?_
      exact fx_ri aj_d238 rfl ⟨_, rfl, 0, rfl, rfl⟩
  · skip
    refine fx_qe (c := ((X.1 117 26)).toInt = 2) (fx_f_eq q2) ?_
    show fx_W _ _ _ 8 lv1 [] _ _
    refine fx_i2 aj_d238 rfl (Nat.le_succ _) (fun _ => rfl) hlv1_0 ?_
    refine fx_n (pc' := 11) (lv' := lv1) (st' := [.int ((Int8.ofInt 45).toInt32), .ref 117]) aj_d238 rfl (Nat.le_succ _) (fun _ => rfl) ?_
    refine fx_cv aj_d238 rfl (Nat.le_succ _) rfl [_] rfl rfl (gx_220_ok ((Int8.ofInt 45).toInt32)) ?_
    rintro _ X19 ⟨w20, rfl, hR19⟩ hok19 hle19
    refine fx_qc hR19 ?_
    show fx_W _ _ _ 14 lv1 [.int w20] _ _
    refine fx_b0 (tgt := 36) aj_d238 rfl (Nat.le_succ _) rfl (fun q21 => ?_) (fun q21 => ?_)
    · skip
      refine fx_qe (c := (w20).toInt = 0) (fx_t_ne q21) ?_
      show fx_W _ _ _ 36 lv1 [] _ _
      refine fx_i2 aj_d238 rfl (Nat.le_succ _) (fun _ => rfl) hlv1_0 ?_
      refine fx_cv aj_d238 rfl (Nat.le_succ _) rfl [] rfl rfl (gx_235_ok) ?_
      rintro _ X22 ⟨w23, rfl, hR22⟩ hok22 hle22
      refine fx_qc hR22 ?_
      show fx_W _ _ _ 40 lv1 [.int w23] _ _
      refine fx_b0 (tgt := 45) aj_d238 rfl (Nat.le_succ _) rfl (fun q24 => ?_) (fun q24 => ?_)
      · skip
        refine fx_qe (c := (w23).toInt = 0) (fx_t_ne q24) ?_
        show fx_W _ _ _ 45 lv1 [] _ _
        refine fx_i2 aj_d238 rfl (Nat.le_succ _) (fun _ => rfl) hlv1_0 ?_
        refine fx_gI aj_d238 rfl (Nat.le_succ _) rfl rfl (Or.inl rfl) ?_
        refine fx_qxI (fun x25 ex25 => ?_)
        refine fx_s0 (j := 1) aj_d238 rfl (Nat.le_succ _) (by decide) (fun _ => rfl) ?_
        obtain ⟨lv26, elv26⟩ : ∃ l, l = aj_set1 lv1 1 (.int x25) := ⟨_, rfl⟩
        rw [← elv26]
        have hlv26_0 : aj_lv lv26 0 = some (.ref 117) := fx_e1 elv26 hlv1_0 (by decide) (Or.inr rfl)
        have hlv26_1 : aj_lv lv26 1 = some (.int x25) := by rw [elv26]; exact ak_set1_eq _ _ _
        show fx_W _ _ _ 50 lv26 [] _ _
        refine fx_i2 aj_d238 rfl (Nat.le_succ _) (fun _ => rfl) hlv26_0 ?_
        refine fx_gI aj_d238 rfl (Nat.le_succ _) rfl rfl (Or.inl rfl) ?_
        refine fx_qxI (fun x27 ex27 => ?_)
        refine fx_s0 (j := 2) aj_d238 rfl (Nat.le_succ _) (by decide) (fun _ => rfl) ?_
        obtain ⟨lv28, elv28⟩ : ∃ l, l = aj_set1 lv26 2 (.int x27) := ⟨_, rfl⟩
        rw [← elv28]
        have hlv28_0 : aj_lv lv28 0 = some (.ref 117) := fx_e1 elv28 hlv26_0 (by decide) (Or.inl (by decide))
        have hlv28_1 : aj_lv lv28 1 = some (.int x25) := fx_e1 elv28 hlv26_1 (by decide) (Or.inr rfl)
        have hlv28_2 : aj_lv lv28 2 = some (.int x27) := by rw [elv28]; exact ak_set1_eq _ _ _
        show fx_W _ _ _ 55 lv28 [] _ _
        refine fx_i2 aj_d238 rfl (Nat.le_succ _) (fun _ => rfl) hlv28_0 ?_
        refine fx_cv aj_d238 rfl (Nat.le_succ _) rfl [] rfl rfl (gx_239_ok) ?_
        rintro _ X29 ⟨w30, rfl, hR29⟩ hok29 hle29
        refine fx_qc hR29 ?_
        show fx_W _ _ _ 59 lv28 [.int w30] _ _
        refine fx_b0 (tgt := 64) aj_d238 rfl (Nat.le_succ _) rfl (fun q31 => ?_) (fun q31 => ?_)
        · skip
          refine fx_qe (c := (w30).toInt = 0) (fx_t_ne q31) ?_
          show fx_W _ _ _ 64 lv28 [] _ _
          refine fx_i2 aj_d238 rfl (Nat.le_succ _) (fun _ => rfl) hlv28_0 ?_
          refine fx_gI aj_d238 rfl (Nat.le_succ _) rfl rfl (Or.inl rfl) ?_
          refine fx_qxI (fun x32 ex32 => ?_)
          refine fx_s0 (j := 3) aj_d238 rfl (Nat.le_succ _) (by decide) (fun _ => rfl) ?_
          obtain ⟨lv33, elv33⟩ : ∃ l, l = aj_set1 lv28 3 (.int x32) := ⟨_, rfl⟩
          rw [← elv33]
          have hlv33_0 : aj_lv lv33 0 = some (.ref 117) := fx_e1 elv33 hlv28_0 (by decide) (Or.inl (by decide))
          have hlv33_1 : aj_lv lv33 1 = some (.int x25) := fx_e1 elv33 hlv28_1 (by decide) (Or.inl (by decide))
          have hlv33_2 : aj_lv lv33 2 = some (.int x27) := fx_e1 elv33 hlv28_2 (by decide) (Or.inr rfl)
          have hlv33_3 : aj_lv lv33 3 = some (.int x32) := by rw [elv33]; exact ak_set1_eq _ _ _
          show fx_W _ _ _ 69 lv33 [] _ _
          refine fx_i2 aj_d238 rfl (Nat.le_succ _) (fun _ => rfl) hlv33_0 ?_
          refine fx_cv aj_d238 rfl (Nat.le_succ _) rfl [] rfl rfl (gx_235_ok) ?_
          rintro _ X34 ⟨w35, rfl, hR34⟩ hok34 hle34
          refine fx_qc hR34 ?_
          show fx_W _ _ _ 73 lv33 [.int w35] _ _
          refine fx_b0 (tgt := 78) aj_d238 rfl (Nat.le_succ _) rfl (fun q36 => ?_) (fun q36 => ?_)
          · skip
            refine fx_qe (c := (w35).toInt = 0) (fx_t_ne q36) ?_
            show fx_W _ _ _ 78 lv33 [] _ _
            refine fx_n (pc' := 79) (lv' := lv33) (st' := [.int (Int32.ofInt 0)]) aj_d238 rfl (Nat.le_succ _) (fun _ => rfl) ?_
            refine fx_s0 (j := 4) aj_d238 rfl (Nat.le_succ _) (by decide) (fun _ => rfl) ?_
            obtain ⟨lv37, elv37⟩ : ∃ l, l = aj_set1 lv33 4 (.int (Int32.ofInt 0)) := ⟨_, rfl⟩
            rw [← elv37]
            have hlv37_0 : aj_lv lv37 0 = some (.ref 117) := fx_e1 elv37 hlv33_0 (by decide) (Or.inl (by decide))
            have hlv37_1 : aj_lv lv37 1 = some (.int x25) := fx_e1 elv37 hlv33_1 (by decide) (Or.inl (by decide))
            have hlv37_2 : aj_lv lv37 2 = some (.int x27) := fx_e1 elv37 hlv33_2 (by decide) (Or.inl (by decide))
            have hlv37_3 : aj_lv lv37 3 = some (.int x32) := fx_e1 elv37 hlv33_3 (by decide) (Or.inr rfl)
            have hlv37_4 : aj_lv lv37 4 = some (.int (Int32.ofInt 0)) := by rw [elv37]; exact ak_set1_eq _ _ _
            show fx_W _ _ _ 81 lv37 [] _ _
            exact ((gxL_238 N)) lv37 (x25) (x27) (x32) ((Int32.ofInt 0)) X34  hlv37_0 hlv37_1 hlv37_2 hlv37_3 hlv37_4
          · skip
            refine fx_qi (c := (w35).toInt = 0) (fx_f_ne q36) ?_
            show fx_W _ _ _ 76 lv33 [] _ _
            refine fx_n (pc' := 77) (lv' := lv33) (st' := [.int (Int32.ofInt 0)]) aj_d238 rfl (Nat.le_succ _) (fun _ => rfl) ?_
            exact fx_ri aj_d238 rfl ⟨_, rfl, 0, rfl, rfl⟩
        · skip
          refine fx_qi (c := (w30).toInt = 0) (fx_f_ne q31) ?_
          show fx_W _ _ _ 62 lv28 [] _ _
          refine fx_n (pc' := 63) (lv' := lv28) (st' := [.int (Int32.ofInt 0)]) aj_d238 rfl (Nat.le_succ _) (fun _ => rfl) ?_
          exact fx_ri aj_d238 rfl ⟨_, rfl, 0, rfl, rfl⟩
      · skip
        refine fx_qi (c := (w23).toInt = 0) (fx_f_ne q24) ?_
        show fx_W _ _ _ 43 lv1 [] _ _
        refine fx_n (pc' := 44) (lv' := lv1) (st' := [.int (Int32.ofInt 0)]) aj_d238 rfl (Nat.le_succ _) (fun _ => rfl) ?_
        exact fx_ri aj_d238 rfl ⟨_, rfl, 0, rfl, rfl⟩
    · skip
      refine fx_qi (c := (w20).toInt = 0) (fx_f_ne q21) ?_
      show fx_W _ _ _ 17 lv1 [] _ _
      refine fx_i2 aj_d238 rfl (Nat.le_succ _) (fun _ => rfl) hlv1_0 ?_
      refine fx_n (pc' := 20) (lv' := lv1) (st' := [.int ((Int8.ofInt 63).toInt32), .ref 117]) aj_d238 rfl (Nat.le_succ _) (fun _ => rfl) ?_
      refine fx_cv aj_d238 rfl (Nat.le_succ _) rfl [_] rfl rfl (gx_220_ok ((Int8.ofInt 63).toInt32)) ?_
      rintro _ X38 ⟨w39, rfl, hR38⟩ hok38 hle38
      refine fx_qc hR38 ?_
      show fx_W _ _ _ 23 lv1 [.int w39] _ _
      refine fx_b0 (tgt := 36) aj_d238 rfl (Nat.le_succ _) rfl (fun q40 => ?_) (fun q40 => ?_)
      · skip
        refine fx_qe (c := (w39).toInt = 0) (fx_t_ne q40) ?_
        show fx_W _ _ _ 36 lv1 [] _ _
        refine fx_i2 aj_d238 rfl (Nat.le_succ _) (fun _ => rfl) hlv1_0 ?_
        refine fx_cv aj_d238 rfl (Nat.le_succ _) rfl [] rfl rfl (gx_235_ok) ?_
        rintro _ X41 ⟨w42, rfl, hR41⟩ hok41 hle41
        refine fx_qc hR41 ?_
        show fx_W _ _ _ 40 lv1 [.int w42] _ _
        refine fx_b0 (tgt := 45) aj_d238 rfl (Nat.le_succ _) rfl (fun q43 => ?_) (fun q43 => ?_)
        · skip
          refine fx_qe (c := (w42).toInt = 0) (fx_t_ne q43) ?_
          show fx_W _ _ _ 45 lv1 [] _ _
          refine fx_i2 aj_d238 rfl (Nat.le_succ _) (fun _ => rfl) hlv1_0 ?_
          refine fx_gI aj_d238 rfl (Nat.le_succ _) rfl rfl (Or.inl rfl) ?_
          refine fx_qxI (fun x44 ex44 => ?_)
          refine fx_s0 (j := 1) aj_d238 rfl (Nat.le_succ _) (by decide) (fun _ => rfl) ?_
          obtain ⟨lv45, elv45⟩ : ∃ l, l = aj_set1 lv1 1 (.int x44) := ⟨_, rfl⟩
          rw [← elv45]
          have hlv45_0 : aj_lv lv45 0 = some (.ref 117) := fx_e1 elv45 hlv1_0 (by decide) (Or.inr rfl)
          have hlv45_1 : aj_lv lv45 1 = some (.int x44) := by rw [elv45]; exact ak_set1_eq _ _ _
          show fx_W _ _ _ 50 lv45 [] _ _
          refine fx_i2 aj_d238 rfl (Nat.le_succ _) (fun _ => rfl) hlv45_0 ?_
          refine fx_gI aj_d238 rfl (Nat.le_succ _) rfl rfl (Or.inl rfl) ?_
          refine fx_qxI (fun x46 ex46 => ?_)
          refine fx_s0 (j := 2) aj_d238 rfl (Nat.le_succ _) (by decide) (fun _ => rfl) ?_
          obtain ⟨lv47, elv47⟩ : ∃ l, l = aj_set1 lv45 2 (.int x46) := ⟨_, rfl⟩
          rw [← elv47]
          have hlv47_0 : aj_lv lv47 0 = some (.ref 117) := fx_e1 elv47 hlv45_0 (by decide) (Or.inl (by decide))
          have hlv47_1 : aj_lv lv47 1 = some (.int x44) := fx_e1 elv47 hlv45_1 (by decide) (Or.inr rfl)
          have hlv47_2 : aj_lv lv47 2 = some (.int x46) := by rw [elv47]; exact ak_set1_eq _ _ _
          show fx_W _ _ _ 55 lv47 [] _ _
          refine fx_i2 aj_d238 rfl (Nat.le_succ _) (fun _ => rfl) hlv47_0 ?_
          refine fx_cv aj_d238 rfl (Nat.le_succ _) rfl [] rfl rfl (gx_239_ok) ?_
          rintro _ X48 ⟨w49, rfl, hR48⟩ hok48 hle48
          refine fx_qc hR48 ?_
          show fx_W _ _ _ 59 lv47 [.int w49] _ _
          refine fx_b0 (tgt := 64) aj_d238 rfl (Nat.le_succ _) rfl (fun q50 => ?_) (fun q50 => ?_)
          · skip
            refine fx_qe (c := (w49).toInt = 0) (fx_t_ne q50) ?_
            show fx_W _ _ _ 64 lv47 [] _ _
            refine fx_i2 aj_d238 rfl (Nat.le_succ _) (fun _ => rfl) hlv47_0 ?_
            refine fx_gI aj_d238 rfl (Nat.le_succ _) rfl rfl (Or.inl rfl) ?_
            refine fx_qxI (fun x51 ex51 => ?_)
            refine fx_s0 (j := 3) aj_d238 rfl (Nat.le_succ _) (by decide) (fun _ => rfl) ?_
            obtain ⟨lv52, elv52⟩ : ∃ l, l = aj_set1 lv47 3 (.int x51) := ⟨_, rfl⟩
            rw [← elv52]
            have hlv52_0 : aj_lv lv52 0 = some (.ref 117) := fx_e1 elv52 hlv47_0 (by decide) (Or.inl (by decide))
            have hlv52_1 : aj_lv lv52 1 = some (.int x44) := fx_e1 elv52 hlv47_1 (by decide) (Or.inl (by decide))
            have hlv52_2 : aj_lv lv52 2 = some (.int x46) := fx_e1 elv52 hlv47_2 (by decide) (Or.inr rfl)
            have hlv52_3 : aj_lv lv52 3 = some (.int x51) := by rw [elv52]; exact ak_set1_eq _ _ _
            show fx_W _ _ _ 69 lv52 [] _ _
            refine fx_i2 aj_d238 rfl (Nat.le_succ _) (fun _ => rfl) hlv52_0 ?_
            refine fx_cv aj_d238 rfl (Nat.le_succ _) rfl [] rfl rfl (gx_235_ok) ?_
            rintro _ X53 ⟨w54, rfl, hR53⟩ hok53 hle53
            refine fx_qc hR53 ?_
            show fx_W _ _ _ 73 lv52 [.int w54] _ _
            refine fx_b0 (tgt := 78) aj_d238 rfl (Nat.le_succ _) rfl (fun q55 => ?_) (fun q55 => ?_)
            · skip
              refine fx_qe (c := (w54).toInt = 0) (fx_t_ne q55) ?_
              show fx_W _ _ _ 78 lv52 [] _ _
              refine fx_n (pc' := 79) (lv' := lv52) (st' := [.int (Int32.ofInt 0)]) aj_d238 rfl (Nat.le_succ _) (fun _ => rfl) ?_
              refine fx_s0 (j := 4) aj_d238 rfl (Nat.le_succ _) (by decide) (fun _ => rfl) ?_
              obtain ⟨lv56, elv56⟩ : ∃ l, l = aj_set1 lv52 4 (.int (Int32.ofInt 0)) := ⟨_, rfl⟩
              rw [← elv56]
              have hlv56_0 : aj_lv lv56 0 = some (.ref 117) := fx_e1 elv56 hlv52_0 (by decide) (Or.inl (by decide))
              have hlv56_1 : aj_lv lv56 1 = some (.int x44) := fx_e1 elv56 hlv52_1 (by decide) (Or.inl (by decide))
              have hlv56_2 : aj_lv lv56 2 = some (.int x46) := fx_e1 elv56 hlv52_2 (by decide) (Or.inl (by decide))
              have hlv56_3 : aj_lv lv56 3 = some (.int x51) := fx_e1 elv56 hlv52_3 (by decide) (Or.inr rfl)
              have hlv56_4 : aj_lv lv56 4 = some (.int (Int32.ofInt 0)) := by rw [elv56]; exact ak_set1_eq _ _ _
              show fx_W _ _ _ 81 lv56 [] _ _
              exact ((gxL_238 N)) lv56 (x44) (x46) (x51) ((Int32.ofInt 0)) X53  hlv56_0 hlv56_1 hlv56_2 hlv56_3 hlv56_4
            · skip
              refine fx_qi (c := (w54).toInt = 0) (fx_f_ne q55) ?_
              show fx_W _ _ _ 76 lv52 [] _ _
              refine fx_n (pc' := 77) (lv' := lv52) (st' := [.int (Int32.ofInt 0)]) aj_d238 rfl (Nat.le_succ _) (fun _ => rfl) ?_
              exact fx_ri aj_d238 rfl ⟨_, rfl, 0, rfl, rfl⟩
          · skip
            refine fx_qi (c := (w49).toInt = 0) (fx_f_ne q50) ?_
            show fx_W _ _ _ 62 lv47 [] _ _
            refine fx_n (pc' := 63) (lv' := lv47) (st' := [.int (Int32.ofInt 0)]) aj_d238 rfl (Nat.le_succ _) (fun _ => rfl) ?_
            exact fx_ri aj_d238 rfl ⟨_, rfl, 0, rfl, rfl⟩
        · skip
          refine fx_qi (c := (w42).toInt = 0) (fx_f_ne q43) ?_
          show fx_W _ _ _ 43 lv1 [] _ _
          refine fx_n (pc' := 44) (lv' := lv1) (st' := [.int (Int32.ofInt 0)]) aj_d238 rfl (Nat.le_succ _) (fun _ => rfl) ?_
          exact fx_ri aj_d238 rfl ⟨_, rfl, 0, rfl, rfl⟩
      · skip
        refine fx_qi (c := (w39).toInt = 0) (fx_f_ne q40) ?_
        show fx_W _ _ _ 26 lv1 [] _ _
        refine fx_i2 aj_d238 rfl (Nat.le_succ _) (fun _ => rfl) hlv1_0 ?_
        refine fx_n (pc' := 28) (lv' := lv1) (st' := [.int (Int32.ofInt 1), .ref 117]) aj_d238 rfl (Nat.le_succ _) (fun _ => rfl) ?_
        refine fx_i2 aj_d238 rfl (Nat.le_succ _) (fun _ => rfl) hlv1_0 ?_
        refine fx_gI aj_d238 rfl (Nat.le_succ _) rfl rfl (Or.inl rfl) ?_
        refine fx_cv aj_d238 rfl (Nat.le_succ _) rfl [_, _] rfl rfl (gx_215_ok (Int32.ofInt 1) (X38.1 117 27)) ?_
        rintro _ X57 ⟨w58, rfl, hR57⟩ hok57 hle57
        refine fx_qc hR57 ?_
        show fx_W _ _ _ 35 lv1 [.int w58] _ _
        exact fx_ri aj_d238 rfl ⟨_, rfl, 0, rfl, rfl⟩
def gx_243 (p1 : Int32) (X : fx_X) (v : Int32) (X' : fx_X) : Prop :=
  (if 0 < ((X.1 117 43)).toInt then ((0 ≤ (((X.1 117 43) - (Int32.ofInt 1))).toInt ∧ (((X.1 117 43) - (Int32.ofInt 1))).toInt < ((40 : Nat) : Int)) ∧ (if ((X.1 139 (((X.1 117 43) - (Int32.ofInt 1))).toInt.toNat)).toInt = (p1).toInt then (v = (Int32.ofInt 1) ∧ X' = X) else (v = (Int32.ofInt 0) ∧ X' = X))) else (v = (Int32.ofInt 0) ∧ X' = X))
theorem gx_243_ok {tb : aj_T} (p1 : Int32) {X : fx_X} : fx_K tb 243 [.ref 117, .int p1] X (fx_Q fx_qI (fun v X' => gx_243 p1 X v X')) := by
  refine fx_m aj_m243_at rfl (fun N => ?_)
  refine fx_mono (Q := fx_Q fx_qI (fun v X' => ∃ n : Nat, gx_243 p1 X v X')) (fun r X' ⟨v, e, _, z⟩ => ⟨v, e, z⟩) ?_
  unfold gx_243
  show fx_W _ _ _ 0 [(0, .ref 117), (1, .int p1)] [] _ _
  obtain ⟨lv1, elv1⟩ : ∃ l : aj_V, l = [(0, .ref 117), (1, .int p1)] := ⟨_, rfl⟩
  rw [← elv1]
  have hlv1_0 : aj_lv lv1 0 = some (.ref 117) := by rw [elv1]; rfl
  have hlv1_1 : aj_lv lv1 1 = some (.int p1) := by rw [elv1]; rfl
  refine fx_i2 aj_d243 rfl (Nat.le_succ _) (fun _ => rfl) hlv1_0 ?_
  refine fx_gI aj_d243 rfl (Nat.le_succ _) rfl rfl (Or.inl rfl) ?_
  refine fx_b0 (tgt := 26) aj_d243 rfl (Nat.le_succ _) rfl (fun q2 => ?_) (fun q2 => ?_)
  · skip
    refine fx_qe (c := 0 < ((X.1 117 43)).toInt) (fx_t_le q2) ?_
    show fx_W _ _ _ 26 lv1 [] _ _
    refine fx_n (pc' := 27) (lv' := lv1) (st' := [.int (Int32.ofInt 0)]) aj_d243 rfl (Nat.le_succ _) (fun _ => rfl) ?_
    exact fx_ri aj_d243 rfl ⟨_, rfl, 0, rfl, rfl⟩
  · skip
    refine fx_qi (c := 0 < ((X.1 117 43)).toInt) (fx_f_le q2) ?_
    show fx_W _ _ _ 7 lv1 [] _ _
    refine fx_i2 aj_d243 rfl (Nat.le_succ _) (fun _ => rfl) hlv1_0 ?_
    refine fx_gF aj_d243 rfl (Nat.le_succ _) rfl rfl fx_in_11_42 (t := 139) rfl (fun hA3 => ?_)
    refine fx_i2 aj_d243 rfl (Nat.le_succ _) (fun _ => rfl) hlv1_0 ?_
    refine fx_gI aj_d243 rfl (Nat.le_succ _) rfl rfl (Or.inl rfl) ?_
    refine fx_n (pc' := 16) (lv' := lv1) (st' := [.int (Int32.ofInt 1), .int (X.1 117 43), .ref 139]) aj_d243 rfl (Nat.le_succ _) (fun _ => rfl) ?_
    refine fx_n (pc' := 17) (lv' := lv1) (st' := [.int ((X.1 117 43) - (Int32.ofInt 1)), .ref 139]) aj_d243 rfl (Nat.le_succ _) (fun _ => rfl) ?_
    refine fx_ld aj_d243 (Or.inl rfl) rfl (Nat.le_succ _) (fun g40 g41 => ?_)
    show fx_W _ _ _ 18 lv1 [.int (X.1 139 (((X.1 117 43) - (Int32.ofInt 1))).toInt.toNat)] _ _
    refine fx_qa (c := 0 ≤ (((X.1 117 43) - (Int32.ofInt 1))).toInt ∧ (((X.1 117 43) - (Int32.ofInt 1))).toInt < ((40 : Nat) : Int)) ⟨g40, fx_lnk g41 hA3⟩ ?_
    refine fx_i0 aj_d243 rfl (Nat.le_succ _) (fun _ => rfl) hlv1_1 ?_
    refine fx_b (tgt := 26) aj_d243 rfl (Nat.le_succ _) rfl (fun q5 => ?_) (fun q5 => ?_)
    · skip
      refine fx_qe (c := ((X.1 139 (((X.1 117 43) - (Int32.ofInt 1))).toInt.toNat)).toInt = (p1).toInt) (fx_t_ne q5) ?_
      show fx_W _ _ _ 26 lv1 [] _ _
      refine fx_n (pc' := 27) (lv' := lv1) (st' := [.int (Int32.ofInt 0)]) aj_d243 rfl (Nat.le_succ _) (fun _ => rfl) ?_
      exact fx_ri aj_d243 rfl ⟨_, rfl, 0, rfl, rfl⟩
    · skip
      refine fx_qi (c := ((X.1 139 (((X.1 117 43) - (Int32.ofInt 1))).toInt.toNat)).toInt = (p1).toInt) (fx_f_ne q5) ?_
      show fx_W _ _ _ 22 lv1 [] _ _
      refine fx_n (pc' := 23) (lv' := lv1) (st' := [.int (Int32.ofInt 1)]) aj_d243 rfl (Nat.le_succ _) (fun _ => rfl) ?_
      refine fx_n (pc' := 27) (lv' := lv1) (st' := [.int (Int32.ofInt 1)]) aj_d243 rfl (Nat.le_succ _) (fun _ => rfl) ?_
      exact fx_ri aj_d243 rfl ⟨_, rfl, 0, rfl, rfl⟩
def gxT_237_19 (P : Nat → List Int32 → List Int64 → List Nat → fx_X → Int32 → fx_X → Prop) (y1 : Int32) (y2 : Int32) (X : fx_X) (v : Int32) (X' : fx_X) : Prop :=
  (if (y2).toInt = 0 then ((if 0 < (y1).toInt then (∃ (w10 : Int32) (X9 : fx_X), gx_215 (Int32.ofInt 1) (X.1 117 27) X w10 X9 ∧ v = w10 ∧ X' = X9) else (P 329 [] [] [] X v X'))) else (P 23 [y1] [] [] X v X'))
def gxT_237_23 (P : Nat → List Int32 → List Int64 → List Nat → fx_X → Int32 → fx_X → Prop) (y1 : Int32) (X : fx_X) (v : Int32) (X' : fx_X) : Prop :=
  ∃ (w15 : Int32) (X14 : fx_X), gx_220 ((Int8.ofInt 33).toInt32) X w15 X14 ∧ (if (w15).toInt = 0 then (∃ (w36 : Int32) (X35 : fx_X), gx_220 ((Int8.ofInt 40).toInt32) X14 w36 X35 ∧ (if (w36).toInt = 0 then (∃ (w39 : Int32) (X38 : fx_X), gx_238 X35 w39 X38 ∧ (if (w39).toInt = 0 then (v = (Int32.ofInt 0) ∧ X' = X38) else (P 128 [y1] [] [] X38 v X'))) else ((if ((X35.1 117 41)).toInt = 8 then (∃ (w58 : Int32) (X57 : fx_X), gx_215 (Int32.ofInt 2) (X35.1 117 27) X35 w58 X57 ∧ v = w58 ∧ X' = X57) else (∃ X42 : fx_X, X42 = (fx_wI X35 117 41 ((X35.1 117 41) + (Int32.ofInt 1))) ∧ (0 ≤ ((X42.1 117 43)).toInt ∧ ((X42.1 117 43)).toInt < ((40 : Nat) : Int)) ∧ ∃ X45 : fx_X, X45 = (fx_wI X42 139 ((X42.1 117 43)).toInt.toNat (X42.1 117 29)) ∧ ∃ X46 : fx_X, X46 = (fx_wI X45 117 43 ((X45.1 117 43) + (Int32.ofInt 1))) ∧ (if ((X46.1 117 29)).toInt = 40 then (∃ x52 : Int32, x52 = (y1 + (Int32.ofInt 1)) ∧ ∃ (w55 : Int32) (X54 : fx_X), gx_214 X46 w55 X54 ∧ (if (w55).toInt = 0 then (v = (Int32.ofInt 0) ∧ X' = X54) else (P 23 [x52] [] [] X54 v X'))) else (∃ (w50 : Int32) (X49 : fx_X), gx_214 X46 w50 X49 ∧ (if (w50).toInt = 0 then (v = (Int32.ofInt 0) ∧ X' = X49) else (P 23 [y1] [] [] X49 v X'))))))))) else ((if ((X14.1 117 41)).toInt = 8 then (∃ (w34 : Int32) (X33 : fx_X), gx_215 (Int32.ofInt 2) (X14.1 117 27) X14 w34 X33 ∧ v = w34 ∧ X' = X33) else (∃ X18 : fx_X, X18 = (fx_wI X14 117 41 ((X14.1 117 41) + (Int32.ofInt 1))) ∧ (0 ≤ ((X18.1 117 43)).toInt ∧ ((X18.1 117 43)).toInt < ((40 : Nat) : Int)) ∧ ∃ X21 : fx_X, X21 = (fx_wI X18 139 ((X18.1 117 43)).toInt.toNat (X18.1 117 29)) ∧ ∃ X22 : fx_X, X22 = (fx_wI X21 117 43 ((X21.1 117 43) + (Int32.ofInt 1))) ∧ (if ((X22.1 117 29)).toInt = 40 then (∃ x28 : Int32, x28 = (y1 + (Int32.ofInt 1)) ∧ ∃ (w31 : Int32) (X30 : fx_X), gx_214 X22 w31 X30 ∧ (if (w31).toInt = 0 then (v = (Int32.ofInt 0) ∧ X' = X30) else (P 23 [x28] [] [] X30 v X'))) else (∃ (w26 : Int32) (X25 : fx_X), gx_214 X22 w26 X25 ∧ (if (w26).toInt = 0 then (v = (Int32.ofInt 0) ∧ X' = X25) else (P 23 [y1] [] [] X25 v X'))))))))
def gxT_237_128 (P : Nat → List Int32 → List Int64 → List Nat → fx_X → Int32 → fx_X → Prop) (y1 : Int32) (X : fx_X) (v : Int32) (X' : fx_X) : Prop :=
  ∃ (w60 : Int32) (X59 : fx_X), gx_243 ((Int8.ofInt 33).toInt32) X w60 X59 ∧ (if (w60).toInt = 0 then (P 144 [y1] [] [] X59 v X') else (∃ (w63 : Unit) (X62 : fx_X), gx_244 X59 w63 X62 ∧ P 128 [y1] [] [] X62 v X'))
def gxT_237_144 (P : Nat → List Int32 → List Int64 → List Nat → fx_X → Int32 → fx_X → Prop) (y1 : Int32) (X : fx_X) (v : Int32) (X' : fx_X) : Prop :=
  (if 0 < (y1).toInt then (∃ (w78 : Int32) (X77 : fx_X), gx_220 ((Int8.ofInt 41).toInt32) X w78 X77 ∧ (if (w78).toInt = 0 then (∃ (w81 : Int32) (X80 : fx_X), gx_220 ((Int8.ofInt 38).toInt32) X77 w81 X80 ∧ (if (w81).toInt = 0 then (∃ (w86 : Int32) (X85 : fx_X), gx_220 ((Int8.ofInt 124).toInt32) X80 w86 X85 ∧ (if (w86).toInt = 0 then (P 19 [y1, (Int32.ofInt 0)] [] [] X85 v X') else (P 249 [y1, (Int32.ofInt 1)] [] [] X85 v X'))) else (P 249 [y1, (Int32.ofInt 1)] [] [] X80 v X'))) else (P 157 [y1] [] [] X77 v X'))) else (∃ (w66 : Int32) (X65 : fx_X), gx_220 ((Int8.ofInt 38).toInt32) X w66 X65 ∧ (if (w66).toInt = 0 then (∃ (w71 : Int32) (X70 : fx_X), gx_220 ((Int8.ofInt 124).toInt32) X65 w71 X70 ∧ (if (w71).toInt = 0 then (P 19 [y1, (Int32.ofInt 0)] [] [] X70 v X') else (P 249 [y1, (Int32.ofInt 1)] [] [] X70 v X'))) else (P 249 [y1, (Int32.ofInt 1)] [] [] X65 v X'))))
def gxT_237_157 (P : Nat → List Int32 → List Int64 → List Nat → fx_X → Int32 → fx_X → Prop) (y1 : Int32) (X : fx_X) (v : Int32) (X' : fx_X) : Prop :=
  ∃ (w120 : Int32) (X119 : fx_X), gx_243 ((Int8.ofInt 40).toInt32) X w120 X119 ∧ (if (w120).toInt = 0 then (∃ (w130 : Unit) (X129 : fx_X), gx_244 X119 w130 X129 ∧ P 157 [y1] [] [] X129 v X') else (∃ X122 : fx_X, X122 = (fx_wI X119 117 43 ((X119.1 117 43) - (Int32.ofInt 1))) ∧ ∃ x123 : Int32, x123 = y1 + Int32.ofInt (-1) ∧ ∃ X125 : fx_X, X125 = (fx_wI X122 117 41 ((X122.1 117 41) - (Int32.ofInt 1))) ∧ ∃ (w127 : Int32) (X126 : fx_X), gx_214 X125 w127 X126 ∧ (if (w127).toInt = 0 then (v = (Int32.ofInt 0) ∧ X' = X126) else (P 205 [x123] [] [] X126 v X'))))
def gxT_237_205 (P : Nat → List Int32 → List Int64 → List Nat → fx_X → Int32 → fx_X → Prop) (y1 : Int32) (X : fx_X) (v : Int32) (X' : fx_X) : Prop :=
  ∃ (w132 : Int32) (X131 : fx_X), gx_243 ((Int8.ofInt 33).toInt32) X w132 X131 ∧ (if (w132).toInt = 0 then (P 144 [y1] [] [] X131 v X') else (∃ (w135 : Unit) (X134 : fx_X), gx_244 X131 w135 X134 ∧ P 205 [y1] [] [] X134 v X'))
def gxT_237_249 (P : Nat → List Int32 → List Int64 → List Nat → fx_X → Int32 → fx_X → Prop) (y1 : Int32) (y2 : Int32) (X : fx_X) (v : Int32) (X' : fx_X) : Prop :=
  ∃ (w93 : Int32) (X92 : fx_X), gx_243 ((Int8.ofInt 38).toInt32) X w93 X92 ∧ (if (w93).toInt = 0 then (∃ (w98 : Int32) (X97 : fx_X), gx_220 ((Int8.ofInt 124).toInt32) X92 w98 X97 ∧ (if (w98).toInt = 0 then ((0 ≤ ((X97.1 117 43)).toInt ∧ ((X97.1 117 43)).toInt < ((40 : Nat) : Int)) ∧ ∃ X102 : fx_X, X102 = (fx_wI X97 139 ((X97.1 117 43)).toInt.toNat (X97.1 117 29)) ∧ ∃ X103 : fx_X, X103 = (fx_wI X102 117 43 ((X102.1 117 43) + (Int32.ofInt 1))) ∧ ∃ (w105 : Int32) (X104 : fx_X), gx_214 X103 w105 X104 ∧ (if (w105).toInt = 0 then (v = (Int32.ofInt 0) ∧ X' = X104) else (P 19 [y1, y2] [] [] X104 v X'))) else (∃ (w108 : Int32) (X107 : fx_X), gx_243 ((Int8.ofInt 124).toInt32) X97 w108 X107 ∧ (if (w108).toInt = 0 then ((0 ≤ ((X107.1 117 43)).toInt ∧ ((X107.1 117 43)).toInt < ((40 : Nat) : Int)) ∧ ∃ X112 : fx_X, X112 = (fx_wI X107 139 ((X107.1 117 43)).toInt.toNat (X107.1 117 29)) ∧ ∃ X113 : fx_X, X113 = (fx_wI X112 117 43 ((X112.1 117 43) + (Int32.ofInt 1))) ∧ ∃ (w115 : Int32) (X114 : fx_X), gx_214 X113 w115 X114 ∧ (if (w115).toInt = 0 then (v = (Int32.ofInt 0) ∧ X' = X114) else (P 19 [y1, y2] [] [] X114 v X'))) else (∃ (w118 : Unit) (X117 : fx_X), gx_244 X107 w118 X117 ∧ P 249 [y1, y2] [] [] X117 v X'))))) else (∃ (w96 : Unit) (X95 : fx_X), gx_244 X92 w96 X95 ∧ P 249 [y1, y2] [] [] X95 v X'))
def gxT_237_329 (P : Nat → List Int32 → List Int64 → List Nat → fx_X → Int32 → fx_X → Prop) (X : fx_X) (v : Int32) (X' : fx_X) : Prop :=
  (if 0 < ((X.1 117 43)).toInt then (∃ (w13 : Unit) (X12 : fx_X), gx_244 X w13 X12 ∧ P 329 [] [] [] X12 v X') else (v = (Int32.ofInt 1) ∧ X' = X))
def gxE_237 (P : Nat → List Int32 → List Int64 → List Nat → fx_X → Int32 → fx_X → Prop) (X : fx_X) (v : Int32) (X' : fx_X) : Prop :=
  ∃ X2 : fx_X, X2 = (fx_wI X 117 43 (Int32.ofInt 0)) ∧ ∃ X3 : fx_X, X3 = (fx_wI X2 117 44 (Int32.ofInt 0)) ∧ ∃ X4 : fx_X, X4 = (fx_wI X3 117 41 (Int32.ofInt 0)) ∧ P 19 [(Int32.ofInt 0), (Int32.ofInt 1)] [] [] X4 v X'
noncomputable def gxF_237 (n : Nat) : Nat → List Int32 → List Int64 → List Nat → fx_X → Int32 → fx_X → Prop := Nat.rec (motive := fun _ => Nat → List Int32 → List Int64 → List Nat → fx_X → Int32 → fx_X → Prop) (fun _ _ _ _ _ _ _ => False) (fun _ P l is ls rs X v X' => (l = 19 ∧ ∃ (y1 : Int32) (y2 : Int32), is = [y1, y2] ∧ ls = [] ∧ rs = [] ∧ gxT_237_19 P y1 y2 X v X') ∨ (l = 23 ∧ ∃ (y1 : Int32), is = [y1] ∧ ls = [] ∧ rs = [] ∧ gxT_237_23 P y1 X v X') ∨ (l = 128 ∧ ∃ (y1 : Int32), is = [y1] ∧ ls = [] ∧ rs = [] ∧ gxT_237_128 P y1 X v X') ∨ (l = 144 ∧ ∃ (y1 : Int32), is = [y1] ∧ ls = [] ∧ rs = [] ∧ gxT_237_144 P y1 X v X') ∨ (l = 157 ∧ ∃ (y1 : Int32), is = [y1] ∧ ls = [] ∧ rs = [] ∧ gxT_237_157 P y1 X v X') ∨ (l = 205 ∧ ∃ (y1 : Int32), is = [y1] ∧ ls = [] ∧ rs = [] ∧ gxT_237_205 P y1 X v X') ∨ (l = 249 ∧ ∃ (y1 : Int32) (y2 : Int32), is = [y1, y2] ∧ ls = [] ∧ rs = [] ∧ gxT_237_249 P y1 y2 X v X') ∨ (l = 329 ∧ is = [] ∧ ls = [] ∧ rs = [] ∧ gxT_237_329 P X v X')) n
theorem gxI_237_19 {n : Nat} {y1 : Int32} {y2 : Int32} {X : fx_X} {v : Int32} {X' : fx_X} (h : gxT_237_19 (gxF_237 n) y1 y2 X v X') : gxF_237 (n + 1) 19 [y1, y2] [] [] X v X' := Or.inl ⟨rfl, y1, y2, rfl, rfl, rfl, h⟩
theorem gxO_237_19 {n : Nat} {y1 : Int32} {y2 : Int32} {X : fx_X} {v : Int32} {X' : fx_X} (h : gxF_237 (n + 1) 19 [y1, y2] [] [] X v X') : gxT_237_19 (gxF_237 n) y1 y2 X v X' := by
  rcases h with ⟨-, _, _, e1, e2, e3, h⟩ | ⟨e, -⟩ | ⟨e, -⟩ | ⟨e, -⟩ | ⟨e, -⟩ | ⟨e, -⟩ | ⟨e, -⟩ | ⟨e, -⟩
  · cases e1; cases e2; cases e3; exact h
  · exact absurd e (by decide)
  · exact absurd e (by decide)
  · exact absurd e (by decide)
  · exact absurd e (by decide)
  · exact absurd e (by decide)
  · exact absurd e (by decide)
  · exact absurd e (by decide)
theorem gxI_237_23 {n : Nat} {y1 : Int32} {X : fx_X} {v : Int32} {X' : fx_X} (h : gxT_237_23 (gxF_237 n) y1 X v X') : gxF_237 (n + 1) 23 [y1] [] [] X v X' := Or.inr (Or.inl ⟨rfl, y1, rfl, rfl, rfl, h⟩)
theorem gxO_237_23 {n : Nat} {y1 : Int32} {X : fx_X} {v : Int32} {X' : fx_X} (h : gxF_237 (n + 1) 23 [y1] [] [] X v X') : gxT_237_23 (gxF_237 n) y1 X v X' := by
  rcases h with ⟨e, -⟩ | ⟨-, _, e1, e2, e3, h⟩ | ⟨e, -⟩ | ⟨e, -⟩ | ⟨e, -⟩ | ⟨e, -⟩ | ⟨e, -⟩ | ⟨e, -⟩
  · exact absurd e (by decide)
  · cases e1; cases e2; cases e3; exact h
  · exact absurd e (by decide)
  · exact absurd e (by decide)
  · exact absurd e (by decide)
  · exact absurd e (by decide)
  · exact absurd e (by decide)
  · exact absurd e (by decide)
theorem gxI_237_128 {n : Nat} {y1 : Int32} {X : fx_X} {v : Int32} {X' : fx_X} (h : gxT_237_128 (gxF_237 n) y1 X v X') : gxF_237 (n + 1) 128 [y1] [] [] X v X' := Or.inr (Or.inr (Or.inl ⟨rfl, y1, rfl, rfl, rfl, h⟩))
theorem gxO_237_128 {n : Nat} {y1 : Int32} {X : fx_X} {v : Int32} {X' : fx_X} (h : gxF_237 (n + 1) 128 [y1] [] [] X v X') : gxT_237_128 (gxF_237 n) y1 X v X' := by
  rcases h with ⟨e, -⟩ | ⟨e, -⟩ | ⟨-, _, e1, e2, e3, h⟩ | ⟨e, -⟩ | ⟨e, -⟩ | ⟨e, -⟩ | ⟨e, -⟩ | ⟨e, -⟩
  · exact absurd e (by decide)
  · exact absurd e (by decide)
  · cases e1; cases e2; cases e3; exact h
  · exact absurd e (by decide)
  · exact absurd e (by decide)
  · exact absurd e (by decide)
  · exact absurd e (by decide)
  · exact absurd e (by decide)
theorem gxI_237_144 {n : Nat} {y1 : Int32} {X : fx_X} {v : Int32} {X' : fx_X} (h : gxT_237_144 (gxF_237 n) y1 X v X') : gxF_237 (n + 1) 144 [y1] [] [] X v X' := Or.inr (Or.inr (Or.inr (Or.inl ⟨rfl, y1, rfl, rfl, rfl, h⟩)))
theorem gxO_237_144 {n : Nat} {y1 : Int32} {X : fx_X} {v : Int32} {X' : fx_X} (h : gxF_237 (n + 1) 144 [y1] [] [] X v X') : gxT_237_144 (gxF_237 n) y1 X v X' := by
  rcases h with ⟨e, -⟩ | ⟨e, -⟩ | ⟨e, -⟩ | ⟨-, _, e1, e2, e3, h⟩ | ⟨e, -⟩ | ⟨e, -⟩ | ⟨e, -⟩ | ⟨e, -⟩
  · exact absurd e (by decide)
  · exact absurd e (by decide)
  · exact absurd e (by decide)
  · cases e1; cases e2; cases e3; exact h
  · exact absurd e (by decide)
  · exact absurd e (by decide)
  · exact absurd e (by decide)
  · exact absurd e (by decide)
theorem gxI_237_157 {n : Nat} {y1 : Int32} {X : fx_X} {v : Int32} {X' : fx_X} (h : gxT_237_157 (gxF_237 n) y1 X v X') : gxF_237 (n + 1) 157 [y1] [] [] X v X' := Or.inr (Or.inr (Or.inr (Or.inr (Or.inl ⟨rfl, y1, rfl, rfl, rfl, h⟩))))
theorem gxO_237_157 {n : Nat} {y1 : Int32} {X : fx_X} {v : Int32} {X' : fx_X} (h : gxF_237 (n + 1) 157 [y1] [] [] X v X') : gxT_237_157 (gxF_237 n) y1 X v X' := by
  rcases h with ⟨e, -⟩ | ⟨e, -⟩ | ⟨e, -⟩ | ⟨e, -⟩ | ⟨-, _, e1, e2, e3, h⟩ | ⟨e, -⟩ | ⟨e, -⟩ | ⟨e, -⟩
  · exact absurd e (by decide)
  · exact absurd e (by decide)
  · exact absurd e (by decide)
  · exact absurd e (by decide)
  · cases e1; cases e2; cases e3; exact h
  · exact absurd e (by decide)
  · exact absurd e (by decide)
  · exact absurd e (by decide)
theorem gxI_237_205 {n : Nat} {y1 : Int32} {X : fx_X} {v : Int32} {X' : fx_X} (h : gxT_237_205 (gxF_237 n) y1 X v X') : gxF_237 (n + 1) 205 [y1] [] [] X v X' := Or.inr (Or.inr (Or.inr (Or.inr (Or.inr (Or.inl ⟨rfl, y1, rfl, rfl, rfl, h⟩)))))
theorem gxO_237_205 {n : Nat} {y1 : Int32} {X : fx_X} {v : Int32} {X' : fx_X} (h : gxF_237 (n + 1) 205 [y1] [] [] X v X') : gxT_237_205 (gxF_237 n) y1 X v X' := by
  rcases h with ⟨e, -⟩ | ⟨e, -⟩ | ⟨e, -⟩ | ⟨e, -⟩ | ⟨e, -⟩ | ⟨-, _, e1, e2, e3, h⟩ | ⟨e, -⟩ | ⟨e, -⟩
  · exact absurd e (by decide)
  · exact absurd e (by decide)
  · exact absurd e (by decide)
  · exact absurd e (by decide)
  · exact absurd e (by decide)
  · cases e1; cases e2; cases e3; exact h
  · exact absurd e (by decide)
  · exact absurd e (by decide)
theorem gxI_237_249 {n : Nat} {y1 : Int32} {y2 : Int32} {X : fx_X} {v : Int32} {X' : fx_X} (h : gxT_237_249 (gxF_237 n) y1 y2 X v X') : gxF_237 (n + 1) 249 [y1, y2] [] [] X v X' := Or.inr (Or.inr (Or.inr (Or.inr (Or.inr (Or.inr (Or.inl ⟨rfl, y1, y2, rfl, rfl, rfl, h⟩))))))
theorem gxO_237_249 {n : Nat} {y1 : Int32} {y2 : Int32} {X : fx_X} {v : Int32} {X' : fx_X} (h : gxF_237 (n + 1) 249 [y1, y2] [] [] X v X') : gxT_237_249 (gxF_237 n) y1 y2 X v X' := by
  rcases h with ⟨e, -⟩ | ⟨e, -⟩ | ⟨e, -⟩ | ⟨e, -⟩ | ⟨e, -⟩ | ⟨e, -⟩ | ⟨-, _, _, e1, e2, e3, h⟩ | ⟨e, -⟩
  · exact absurd e (by decide)
  · exact absurd e (by decide)
  · exact absurd e (by decide)
  · exact absurd e (by decide)
  · exact absurd e (by decide)
  · exact absurd e (by decide)
  · cases e1; cases e2; cases e3; exact h
  · exact absurd e (by decide)
theorem gxI_237_329 {n : Nat} {X : fx_X} {v : Int32} {X' : fx_X} (h : gxT_237_329 (gxF_237 n) X v X') : gxF_237 (n + 1) 329 [] [] [] X v X' := Or.inr (Or.inr (Or.inr (Or.inr (Or.inr (Or.inr (Or.inr (⟨rfl, rfl, rfl, rfl, h⟩)))))))
theorem gxO_237_329 {n : Nat} {X : fx_X} {v : Int32} {X' : fx_X} (h : gxF_237 (n + 1) 329 [] [] [] X v X') : gxT_237_329 (gxF_237 n) X v X' := by
  rcases h with ⟨e, -⟩ | ⟨e, -⟩ | ⟨e, -⟩ | ⟨e, -⟩ | ⟨e, -⟩ | ⟨e, -⟩ | ⟨e, -⟩ | ⟨-, e1, e2, e3, h⟩
  · exact absurd e (by decide)
  · exact absurd e (by decide)
  · exact absurd e (by decide)
  · exact absurd e (by decide)
  · exact absurd e (by decide)
  · exact absurd e (by decide)
  · exact absurd e (by decide)
  · cases e1; cases e2; cases e3; exact h
def gx_237 (X : fx_X) (v : Int32) (X' : fx_X) : Prop := ∃ n : Nat, gxE_237 (gxF_237 n) X v X'
theorem gxL_237 {tb : aj_T} : ∀ N : Nat, (∀ (lv : aj_V) (y1 : Int32) (y2 : Int32) (X : fx_X), aj_lv lv 0 = some (.ref 117) → aj_lv lv 1 = some (.int y1) → aj_lv lv 2 = some (.int y2) → fx_W tb aj_m237 N 19 lv [] X (fx_Q fx_qI (fun v X' => ∃ n : Nat, gxF_237 n 19 [y1, y2] [] [] X v X'))) ∧ (∀ (lv : aj_V) (y1 : Int32) (X : fx_X), aj_lv lv 0 = some (.ref 117) → aj_lv lv 1 = some (.int y1) → fx_W tb aj_m237 N 23 lv [] X (fx_Q fx_qI (fun v X' => ∃ n : Nat, gxF_237 n 23 [y1] [] [] X v X'))) ∧ (∀ (lv : aj_V) (y1 : Int32) (X : fx_X), aj_lv lv 0 = some (.ref 117) → aj_lv lv 1 = some (.int y1) → fx_W tb aj_m237 N 128 lv [] X (fx_Q fx_qI (fun v X' => ∃ n : Nat, gxF_237 n 128 [y1] [] [] X v X'))) ∧ (∀ (lv : aj_V) (y1 : Int32) (X : fx_X), aj_lv lv 0 = some (.ref 117) → aj_lv lv 1 = some (.int y1) → fx_W tb aj_m237 N 144 lv [] X (fx_Q fx_qI (fun v X' => ∃ n : Nat, gxF_237 n 144 [y1] [] [] X v X'))) ∧ (∀ (lv : aj_V) (y1 : Int32) (X : fx_X), aj_lv lv 0 = some (.ref 117) → aj_lv lv 1 = some (.int y1) → fx_W tb aj_m237 N 157 lv [] X (fx_Q fx_qI (fun v X' => ∃ n : Nat, gxF_237 n 157 [y1] [] [] X v X'))) ∧ (∀ (lv : aj_V) (y1 : Int32) (X : fx_X), aj_lv lv 0 = some (.ref 117) → aj_lv lv 1 = some (.int y1) → fx_W tb aj_m237 N 205 lv [] X (fx_Q fx_qI (fun v X' => ∃ n : Nat, gxF_237 n 205 [y1] [] [] X v X'))) ∧ (∀ (lv : aj_V) (y1 : Int32) (y2 : Int32) (X : fx_X), aj_lv lv 0 = some (.ref 117) → aj_lv lv 1 = some (.int y1) → aj_lv lv 2 = some (.int y2) → fx_W tb aj_m237 N 249 lv [] X (fx_Q fx_qI (fun v X' => ∃ n : Nat, gxF_237 n 249 [y1, y2] [] [] X v X'))) ∧ (∀ (lv : aj_V) (X : fx_X), aj_lv lv 0 = some (.ref 117) → fx_W tb aj_m237 N 329 lv [] X (fx_Q fx_qI (fun v X' => ∃ n : Nat, gxF_237 n 329 [] [] [] X v X'))) := by
  intro N
  induction N with
  | zero => exact ⟨(by intros; exact fx_z), (by intros; exact fx_z), (by intros; exact fx_z), (by intros; exact fx_z), (by intros; exact fx_z), (by intros; exact fx_z), (by intros; exact fx_z), (by intros; exact fx_z)⟩
  | succ N ih =>
    refine ⟨?_, ?_, ?_, ?_, ?_, ?_, ?_, ?_⟩
    · intro lv y1 y2 X hlv_0 hlv_1 hlv_2
      refine fx_mono (Q := fx_Q fx_qI (fun v X' => ∃ n : Nat, gxT_237_19 (gxF_237 n) y1 y2 X v X')) (fun r X' ⟨v, e, n, z⟩ => ⟨v, e, n + 1, gxI_237_19 z⟩) ?_
      unfold gxT_237_19
      refine fx_i0 aj_d237 rfl (Nat.le_refl _) (fun _ => rfl) hlv_2 ?_
      refine fx_b0 (tgt := 315) aj_d237 rfl (Nat.le_succ _) rfl (fun q7 => ?_) (fun q7 => ?_)
      · skip
        refine fx_qi (c := (y2).toInt = 0) (fx_t_eq q7) ?_
        show fx_W _ _ _ 315 lv [] _ _
        refine fx_i0 aj_d237 rfl (Nat.le_succ _) (fun _ => rfl) hlv_1 ?_
        refine fx_b0 (tgt := 329) aj_d237 rfl (Nat.le_succ _) rfl (fun q8 => ?_) (fun q8 => ?_)
        · skip
          refine fx_qe (c := 0 < (y1).toInt) (fx_t_le q8) ?_
          show fx_W _ _ _ 329 lv [] _ _
          exact (ih.2.2.2.2.2.2.2) lv X  hlv_0
        · skip
          refine fx_qi (c := 0 < (y1).toInt) (fx_f_le q8) ?_
          show fx_W _ _ _ 319 lv [] _ _
          refine fx_i2 aj_d237 rfl (Nat.le_succ _) (fun _ => rfl) hlv_0 ?_
          refine fx_n (pc' := 321) (lv' := lv) (st' := [.int (Int32.ofInt 1), .ref 117]) aj_d237 rfl (Nat.le_succ _) (fun _ => rfl) ?_
          refine fx_i2 aj_d237 rfl (Nat.le_succ _) (fun _ => rfl) hlv_0 ?_
          refine fx_gI aj_d237 rfl (Nat.le_succ _) rfl rfl (Or.inl rfl) ?_
          refine fx_cv aj_d237 rfl (Nat.le_succ _) rfl [_, _] rfl rfl (gx_215_ok (Int32.ofInt 1) (X.1 117 27)) ?_
          rintro _ X9 ⟨w10, rfl, hR9⟩ hok9 hle9
          refine fx_qc hR9 ?_
          show fx_W _ _ _ 328 lv [.int w10] _ _
          exact fx_ri aj_d237 rfl ⟨_, rfl, 0, rfl, rfl⟩
      · skip
        refine fx_qe (c := (y2).toInt = 0) (fx_f_eq q7) ?_
        show fx_W _ _ _ 23 lv [] _ _
        exact (ih.2.1) lv (y1) X  hlv_0 hlv_1
    · intro lv y1 X hlv_0 hlv_1
      refine fx_mono (Q := fx_Q fx_qI (fun v X' => ∃ n : Nat, gxT_237_23 (gxF_237 n) y1 X v X')) (fun r X' ⟨v, e, n, z⟩ => ⟨v, e, n + 1, gxI_237_23 z⟩) ?_
      unfold gxT_237_23
      refine fx_i2 aj_d237 rfl (Nat.le_refl _) (fun _ => rfl) hlv_0 ?_
      refine fx_n (pc' := 26) (lv' := lv) (st' := [.int ((Int8.ofInt 33).toInt32), .ref 117]) aj_d237 rfl (Nat.le_succ _) (fun _ => rfl) ?_
      refine fx_cv aj_d237 rfl (Nat.le_succ _) rfl [_] rfl rfl (gx_220_ok ((Int8.ofInt 33).toInt32)) ?_
      rintro _ X14 ⟨w15, rfl, hR14⟩ hok14 hle14
      refine fx_qc hR14 ?_
      show fx_W _ _ _ 29 lv [.int w15] _ _
      refine fx_b0 (tgt := 41) aj_d237 rfl (Nat.le_succ _) rfl (fun q16 => ?_) (fun q16 => ?_)
      · skip
        refine fx_qe (c := (w15).toInt = 0) (fx_t_ne q16) ?_
        show fx_W _ _ _ 41 lv [] _ _
        refine fx_i2 aj_d237 rfl (Nat.le_succ _) (fun _ => rfl) hlv_0 ?_
        refine fx_gI aj_d237 rfl (Nat.le_succ _) rfl rfl (Or.inl rfl) ?_
        refine fx_n (pc' := 47) (lv' := lv) (st' := [.int ((Int8.ofInt 8).toInt32), .int (X14.1 117 41)]) aj_d237 rfl (Nat.le_succ _) (fun _ => rfl) ?_
        refine fx_b (tgt := 60) aj_d237 rfl (Nat.le_succ _) rfl (fun q17 => ?_) (fun q17 => ?_)
        · skip
          refine fx_qe (c := ((X14.1 117 41)).toInt = 8) (fx_t_ne q17) ?_
          show fx_W _ _ _ 60 lv [] _ _
          refine fx_i2 aj_d237 rfl (Nat.le_succ _) (fun _ => rfl) hlv_0 ?_
          refine fx_n (pc' := 62) (lv' := lv) (st' := [.ref 117, .ref 117]) aj_d237 rfl (Nat.le_succ _) (fun _ => rfl) ?_
          refine fx_gI aj_d237 rfl (Nat.le_succ _) rfl rfl (Or.inl rfl) ?_
          refine fx_n (pc' := 66) (lv' := lv) (st' := [.int (Int32.ofInt 1), .int (X14.1 117 41), .ref 117]) aj_d237 rfl (Nat.le_succ _) (fun _ => rfl) ?_
          refine fx_n (pc' := 67) (lv' := lv) (st' := [.int ((X14.1 117 41) + (Int32.ofInt 1)), .ref 117]) aj_d237 rfl (Nat.le_succ _) (fun _ => rfl) ?_
          refine fx_pI aj_d237 rfl (Nat.le_succ _) rfl rfl (Or.inl rfl) fx_no_11_41 (by decide) ?_
          refine fx_qX (fun X18 eX18 => ?_)
          show fx_W _ _ _ 70 lv [] _ _
          refine fx_i2 aj_d237 rfl (Nat.le_succ _) (fun _ => rfl) hlv_0 ?_
          refine fx_gF aj_d237 rfl (Nat.le_succ _) rfl rfl fx_in_11_42 (t := 139) rfl (fun hA19 => ?_)
          refine fx_i2 aj_d237 rfl (Nat.le_succ _) (fun _ => rfl) hlv_0 ?_
          refine fx_gI aj_d237 rfl (Nat.le_succ _) rfl rfl (Or.inl rfl) ?_
          refine fx_i2 aj_d237 rfl (Nat.le_succ _) (fun _ => rfl) hlv_0 ?_
          refine fx_gI aj_d237 rfl (Nat.le_succ _) rfl rfl (Or.inl rfl) ?_
          refine fx_st aj_d237 (Or.inl ⟨rfl, rfl⟩) rfl (Nat.le_succ _) (fun g200 g201 => ?_)
          show fx_W _ _ _ _ _ _ (fx_wI X18 139 ((X18.1 117 43)).toInt.toNat (X18.1 117 29)) _
          refine fx_qa (c := 0 ≤ ((X18.1 117 43)).toInt ∧ ((X18.1 117 43)).toInt < ((40 : Nat) : Int)) ⟨g200, fx_lnk g201 hA19⟩ ?_
          refine fx_qX (fun X21 eX21 => ?_)
          show fx_W _ _ _ 83 lv [] _ _
          refine fx_i2 aj_d237 rfl (Nat.le_succ _) (fun _ => rfl) hlv_0 ?_
          refine fx_n (pc' := 85) (lv' := lv) (st' := [.ref 117, .ref 117]) aj_d237 rfl (Nat.le_succ _) (fun _ => rfl) ?_
          refine fx_gI aj_d237 rfl (Nat.le_succ _) rfl rfl (Or.inl rfl) ?_
          refine fx_n (pc' := 89) (lv' := lv) (st' := [.int (Int32.ofInt 1), .int (X21.1 117 43), .ref 117]) aj_d237 rfl (Nat.le_succ _) (fun _ => rfl) ?_
          refine fx_n (pc' := 90) (lv' := lv) (st' := [.int ((X21.1 117 43) + (Int32.ofInt 1)), .ref 117]) aj_d237 rfl (Nat.le_succ _) (fun _ => rfl) ?_
          refine fx_pI aj_d237 rfl (Nat.le_succ _) rfl rfl (Or.inl rfl) fx_no_11_43 (by decide) ?_
          refine fx_qX (fun X22 eX22 => ?_)
          show fx_W _ _ _ 93 lv [] _ _
          refine fx_i2 aj_d237 rfl (Nat.le_succ _) (fun _ => rfl) hlv_0 ?_
          refine fx_gI aj_d237 rfl (Nat.le_succ _) rfl rfl (Or.inl rfl) ?_
          refine fx_n (pc' := 99) (lv' := lv) (st' := [.int ((Int8.ofInt 40).toInt32), .int (X22.1 117 29)]) aj_d237 rfl (Nat.le_succ _) (fun _ => rfl) ?_
          refine fx_b (tgt := 108) aj_d237 rfl (Nat.le_succ _) rfl (fun q23 => ?_) (fun q23 => ?_)
          · skip
            refine fx_qe (c := ((X22.1 117 29)).toInt = 40) (fx_t_ne q23) ?_
            show fx_W _ _ _ 108 lv [] _ _
            refine fx_i0 aj_d237 rfl (Nat.le_succ _) (fun _ => rfl) hlv_1 ?_
            refine fx_s0 (j := 1) aj_d237 rfl (Nat.le_succ _) (by decide) (fun _ => rfl) ?_
            obtain ⟨lv24, elv24⟩ : ∃ l, l = aj_set1 lv 1 (.int y1) := ⟨_, rfl⟩
            rw [← elv24]
            have hlv24_0 : aj_lv lv24 0 = some (.ref 117) := fx_e1 elv24 hlv_0 (by decide) (Or.inr rfl)
            have hlv24_1 : aj_lv lv24 1 = some (.int y1) := by rw [elv24]; exact ak_set1_eq _ _ _
            show fx_W _ _ _ 110 lv24 [] _ _
            refine fx_i2 aj_d237 rfl (Nat.le_succ _) (fun _ => rfl) hlv24_0 ?_
            refine fx_cv aj_d237 rfl (Nat.le_succ _) rfl [] rfl rfl (gx_214_ok) ?_
            rintro _ X25 ⟨w26, rfl, hR25⟩ hok25 hle25
            refine fx_qc hR25 ?_
            show fx_W _ _ _ 114 lv24 [.int w26] _ _
            refine fx_b0 (tgt := 23) aj_d237 rfl (Nat.le_succ _) rfl (fun q27 => ?_) (fun q27 => ?_)
            · skip
              refine fx_qe (c := (w26).toInt = 0) (fx_t_ne q27) ?_
              show fx_W _ _ _ 23 lv24 [] _ _
              exact (ih.2.1) lv24 (y1) X25  hlv24_0 hlv24_1
            · skip
              refine fx_qi (c := (w26).toInt = 0) (fx_f_ne q27) ?_
              show fx_W _ _ _ 117 lv24 [] _ _
              refine fx_n (pc' := 118) (lv' := lv24) (st' := [.int (Int32.ofInt 0)]) aj_d237 rfl (Nat.le_succ _) (fun _ => rfl) ?_
              exact fx_ri aj_d237 rfl ⟨_, rfl, 0, rfl, rfl⟩
          · skip
            refine fx_qi (c := ((X22.1 117 29)).toInt = 40) (fx_f_ne q23) ?_
            show fx_W _ _ _ 102 lv [] _ _
            refine fx_i0 aj_d237 rfl (Nat.le_succ _) (fun _ => rfl) hlv_1 ?_
            refine fx_n (pc' := 104) (lv' := lv) (st' := [.int (Int32.ofInt 1), .int y1]) aj_d237 rfl (Nat.le_succ _) (fun _ => rfl) ?_
            refine fx_n (pc' := 105) (lv' := lv) (st' := [.int (y1 + (Int32.ofInt 1))]) aj_d237 rfl (Nat.le_succ _) (fun _ => rfl) ?_
            refine fx_n (pc' := 109) (lv' := lv) (st' := [.int (y1 + (Int32.ofInt 1))]) aj_d237 rfl (Nat.le_succ _) (fun _ => rfl) ?_
            refine fx_qxI (fun x28 ex28 => ?_)
            refine fx_s0 (j := 1) aj_d237 rfl (Nat.le_succ _) (by decide) (fun _ => rfl) ?_
            obtain ⟨lv29, elv29⟩ : ∃ l, l = aj_set1 lv 1 (.int x28) := ⟨_, rfl⟩
            rw [← elv29]
            have hlv29_0 : aj_lv lv29 0 = some (.ref 117) := fx_e1 elv29 hlv_0 (by decide) (Or.inr rfl)
            have hlv29_1 : aj_lv lv29 1 = some (.int x28) := by rw [elv29]; exact ak_set1_eq _ _ _
            show fx_W _ _ _ 110 lv29 [] _ _
            refine fx_i2 aj_d237 rfl (Nat.le_succ _) (fun _ => rfl) hlv29_0 ?_
            refine fx_cv aj_d237 rfl (Nat.le_succ _) rfl [] rfl rfl (gx_214_ok) ?_
            rintro _ X30 ⟨w31, rfl, hR30⟩ hok30 hle30
            refine fx_qc hR30 ?_
            show fx_W _ _ _ 114 lv29 [.int w31] _ _
            refine fx_b0 (tgt := 23) aj_d237 rfl (Nat.le_succ _) rfl (fun q32 => ?_) (fun q32 => ?_)
            · skip
              refine fx_qe (c := (w31).toInt = 0) (fx_t_ne q32) ?_
              show fx_W _ _ _ 23 lv29 [] _ _
              exact (ih.2.1) lv29 (x28) X30  hlv29_0 hlv29_1
            · skip
              refine fx_qi (c := (w31).toInt = 0) (fx_f_ne q32) ?_
              show fx_W _ _ _ 117 lv29 [] _ _
              refine fx_n (pc' := 118) (lv' := lv29) (st' := [.int (Int32.ofInt 0)]) aj_d237 rfl (Nat.le_succ _) (fun _ => rfl) ?_
              exact fx_ri aj_d237 rfl ⟨_, rfl, 0, rfl, rfl⟩
        · skip
          refine fx_qi (c := ((X14.1 117 41)).toInt = 8) (fx_f_ne q17) ?_
          show fx_W _ _ _ 50 lv [] _ _
          refine fx_i2 aj_d237 rfl (Nat.le_succ _) (fun _ => rfl) hlv_0 ?_
          refine fx_n (pc' := 52) (lv' := lv) (st' := [.int (Int32.ofInt 2), .ref 117]) aj_d237 rfl (Nat.le_succ _) (fun _ => rfl) ?_
          refine fx_i2 aj_d237 rfl (Nat.le_succ _) (fun _ => rfl) hlv_0 ?_
          refine fx_gI aj_d237 rfl (Nat.le_succ _) rfl rfl (Or.inl rfl) ?_
          refine fx_cv aj_d237 rfl (Nat.le_succ _) rfl [_, _] rfl rfl (gx_215_ok (Int32.ofInt 2) (X14.1 117 27)) ?_
          rintro _ X33 ⟨w34, rfl, hR33⟩ hok33 hle33
          refine fx_qc hR33 ?_
          show fx_W _ _ _ 59 lv [.int w34] _ _
          exact fx_ri aj_d237 rfl ⟨_, rfl, 0, rfl, rfl⟩
      · skip
        refine fx_qi (c := (w15).toInt = 0) (fx_f_ne q16) ?_
        show fx_W _ _ _ 32 lv [] _ _
        refine fx_i2 aj_d237 rfl (Nat.le_succ _) (fun _ => rfl) hlv_0 ?_
        refine fx_n (pc' := 35) (lv' := lv) (st' := [.int ((Int8.ofInt 40).toInt32), .ref 117]) aj_d237 rfl (Nat.le_succ _) (fun _ => rfl) ?_
        refine fx_cv aj_d237 rfl (Nat.le_succ _) rfl [_] rfl rfl (gx_220_ok ((Int8.ofInt 40).toInt32)) ?_
        rintro _ X35 ⟨w36, rfl, hR35⟩ hok35 hle35
        refine fx_qc hR35 ?_
        show fx_W _ _ _ 38 lv [.int w36] _ _
        refine fx_b0 (tgt := 119) aj_d237 rfl (Nat.le_succ _) rfl (fun q37 => ?_) (fun q37 => ?_)
        · skip
          refine fx_qi (c := (w36).toInt = 0) (fx_t_eq q37) ?_
          show fx_W _ _ _ 119 lv [] _ _
          refine fx_i2 aj_d237 rfl (Nat.le_succ _) (fun _ => rfl) hlv_0 ?_
          refine fx_cv aj_d237 rfl (Nat.le_succ _) rfl [] rfl rfl (gx_238_ok) ?_
          rintro _ X38 ⟨w39, rfl, hR38⟩ hok38 hle38
          refine fx_qc hR38 ?_
          show fx_W _ _ _ 123 lv [.int w39] _ _
          refine fx_b0 (tgt := 128) aj_d237 rfl (Nat.le_succ _) rfl (fun q40 => ?_) (fun q40 => ?_)
          · skip
            refine fx_qe (c := (w39).toInt = 0) (fx_t_ne q40) ?_
            show fx_W _ _ _ 128 lv [] _ _
            exact (ih.2.2.1) lv (y1) X38  hlv_0 hlv_1
          · skip
            refine fx_qi (c := (w39).toInt = 0) (fx_f_ne q40) ?_
            show fx_W _ _ _ 126 lv [] _ _
            refine fx_n (pc' := 127) (lv' := lv) (st' := [.int (Int32.ofInt 0)]) aj_d237 rfl (Nat.le_succ _) (fun _ => rfl) ?_
            exact fx_ri aj_d237 rfl ⟨_, rfl, 0, rfl, rfl⟩
        · skip
          refine fx_qe (c := (w36).toInt = 0) (fx_f_eq q37) ?_
          show fx_W _ _ _ 41 lv [] _ _
          refine fx_i2 aj_d237 rfl (Nat.le_succ _) (fun _ => rfl) hlv_0 ?_
          refine fx_gI aj_d237 rfl (Nat.le_succ _) rfl rfl (Or.inl rfl) ?_
          refine fx_n (pc' := 47) (lv' := lv) (st' := [.int ((Int8.ofInt 8).toInt32), .int (X35.1 117 41)]) aj_d237 rfl (Nat.le_succ _) (fun _ => rfl) ?_
          refine fx_b (tgt := 60) aj_d237 rfl (Nat.le_succ _) rfl (fun q41 => ?_) (fun q41 => ?_)
          · skip
            refine fx_qe (c := ((X35.1 117 41)).toInt = 8) (fx_t_ne q41) ?_
            show fx_W _ _ _ 60 lv [] _ _
            refine fx_i2 aj_d237 rfl (Nat.le_succ _) (fun _ => rfl) hlv_0 ?_
            refine fx_n (pc' := 62) (lv' := lv) (st' := [.ref 117, .ref 117]) aj_d237 rfl (Nat.le_succ _) (fun _ => rfl) ?_
            refine fx_gI aj_d237 rfl (Nat.le_succ _) rfl rfl (Or.inl rfl) ?_
            refine fx_n (pc' := 66) (lv' := lv) (st' := [.int (Int32.ofInt 1), .int (X35.1 117 41), .ref 117]) aj_d237 rfl (Nat.le_succ _) (fun _ => rfl) ?_
            refine fx_n (pc' := 67) (lv' := lv) (st' := [.int ((X35.1 117 41) + (Int32.ofInt 1)), .ref 117]) aj_d237 rfl (Nat.le_succ _) (fun _ => rfl) ?_
            refine fx_pI aj_d237 rfl (Nat.le_succ _) rfl rfl (Or.inl rfl) fx_no_11_41 (by decide) ?_
            refine fx_qX (fun X42 eX42 => ?_)
            show fx_W _ _ _ 70 lv [] _ _
            refine fx_i2 aj_d237 rfl (Nat.le_succ _) (fun _ => rfl) hlv_0 ?_
            refine fx_gF aj_d237 rfl (Nat.le_succ _) rfl rfl fx_in_11_42 (t := 139) rfl (fun hA43 => ?_)
            refine fx_i2 aj_d237 rfl (Nat.le_succ _) (fun _ => rfl) hlv_0 ?_
            refine fx_gI aj_d237 rfl (Nat.le_succ _) rfl rfl (Or.inl rfl) ?_
            refine fx_i2 aj_d237 rfl (Nat.le_succ _) (fun _ => rfl) hlv_0 ?_
            refine fx_gI aj_d237 rfl (Nat.le_succ _) rfl rfl (Or.inl rfl) ?_
            refine fx_st aj_d237 (Or.inl ⟨rfl, rfl⟩) rfl (Nat.le_succ _) (fun g440 g441 => ?_)
            show fx_W _ _ _ _ _ _ (fx_wI X42 139 ((X42.1 117 43)).toInt.toNat (X42.1 117 29)) _
            refine fx_qa (c := 0 ≤ ((X42.1 117 43)).toInt ∧ ((X42.1 117 43)).toInt < ((40 : Nat) : Int)) ⟨g440, fx_lnk g441 hA43⟩ ?_
            refine fx_qX (fun X45 eX45 => ?_)
            show fx_W _ _ _ 83 lv [] _ _
            refine fx_i2 aj_d237 rfl (Nat.le_succ _) (fun _ => rfl) hlv_0 ?_
            refine fx_n (pc' := 85) (lv' := lv) (st' := [.ref 117, .ref 117]) aj_d237 rfl (Nat.le_succ _) (fun _ => rfl) ?_
            refine fx_gI aj_d237 rfl (Nat.le_succ _) rfl rfl (Or.inl rfl) ?_
            refine fx_n (pc' := 89) (lv' := lv) (st' := [.int (Int32.ofInt 1), .int (X45.1 117 43), .ref 117]) aj_d237 rfl (Nat.le_succ _) (fun _ => rfl) ?_
            refine fx_n (pc' := 90) (lv' := lv) (st' := [.int ((X45.1 117 43) + (Int32.ofInt 1)), .ref 117]) aj_d237 rfl (Nat.le_succ _) (fun _ => rfl) ?_
            refine fx_pI aj_d237 rfl (Nat.le_succ _) rfl rfl (Or.inl rfl) fx_no_11_43 (by decide) ?_
            refine fx_qX (fun X46 eX46 => ?_)
            show fx_W _ _ _ 93 lv [] _ _
            refine fx_i2 aj_d237 rfl (Nat.le_succ _) (fun _ => rfl) hlv_0 ?_
            refine fx_gI aj_d237 rfl (Nat.le_succ _) rfl rfl (Or.inl rfl) ?_
            refine fx_n (pc' := 99) (lv' := lv) (st' := [.int ((Int8.ofInt 40).toInt32), .int (X46.1 117 29)]) aj_d237 rfl (Nat.le_succ _) (fun _ => rfl) ?_
            refine fx_b (tgt := 108) aj_d237 rfl (Nat.le_succ _) rfl (fun q47 => ?_) (fun q47 => ?_)
            · skip
              refine fx_qe (c := ((X46.1 117 29)).toInt = 40) (fx_t_ne q47) ?_
              show fx_W _ _ _ 108 lv [] _ _
              refine fx_i0 aj_d237 rfl (Nat.le_succ _) (fun _ => rfl) hlv_1 ?_
              refine fx_s0 (j := 1) aj_d237 rfl (Nat.le_succ _) (by decide) (fun _ => rfl) ?_
              obtain ⟨lv48, elv48⟩ : ∃ l, l = aj_set1 lv 1 (.int y1) := ⟨_, rfl⟩
              rw [← elv48]
              have hlv48_0 : aj_lv lv48 0 = some (.ref 117) := fx_e1 elv48 hlv_0 (by decide) (Or.inr rfl)
              have hlv48_1 : aj_lv lv48 1 = some (.int y1) := by rw [elv48]; exact ak_set1_eq _ _ _
              show fx_W _ _ _ 110 lv48 [] _ _
              refine fx_i2 aj_d237 rfl (Nat.le_succ _) (fun _ => rfl) hlv48_0 ?_
              refine fx_cv aj_d237 rfl (Nat.le_succ _) rfl [] rfl rfl (gx_214_ok) ?_
              rintro _ X49 ⟨w50, rfl, hR49⟩ hok49 hle49
              refine fx_qc hR49 ?_
              show fx_W _ _ _ 114 lv48 [.int w50] _ _
              refine fx_b0 (tgt := 23) aj_d237 rfl (Nat.le_succ _) rfl (fun q51 => ?_) (fun q51 => ?_)
              · skip
                refine fx_qe (c := (w50).toInt = 0) (fx_t_ne q51) ?_
                show fx_W _ _ _ 23 lv48 [] _ _
                exact (ih.2.1) lv48 (y1) X49  hlv48_0 hlv48_1
              · skip
                refine fx_qi (c := (w50).toInt = 0) (fx_f_ne q51) ?_
                show fx_W _ _ _ 117 lv48 [] _ _
                refine fx_n (pc' := 118) (lv' := lv48) (st' := [.int (Int32.ofInt 0)]) aj_d237 rfl (Nat.le_succ _) (fun _ => rfl) ?_
                exact fx_ri aj_d237 rfl ⟨_, rfl, 0, rfl, rfl⟩
            · skip
              refine fx_qi (c := ((X46.1 117 29)).toInt = 40) (fx_f_ne q47) ?_
              show fx_W _ _ _ 102 lv [] _ _
              refine fx_i0 aj_d237 rfl (Nat.le_succ _) (fun _ => rfl) hlv_1 ?_
              refine fx_n (pc' := 104) (lv' := lv) (st' := [.int (Int32.ofInt 1), .int y1]) aj_d237 rfl (Nat.le_succ _) (fun _ => rfl) ?_
              refine fx_n (pc' := 105) (lv' := lv) (st' := [.int (y1 + (Int32.ofInt 1))]) aj_d237 rfl (Nat.le_succ _) (fun _ => rfl) ?_
              refine fx_n (pc' := 109) (lv' := lv) (st' := [.int (y1 + (Int32.ofInt 1))]) aj_d237 rfl (Nat.le_succ _) (fun _ => rfl) ?_
              refine fx_qxI (fun x52 ex52 => ?_)
              refine fx_s0 (j := 1) aj_d237 rfl (Nat.le_succ _) (by decide) (fun _ => rfl) ?_
              obtain ⟨lv53, elv53⟩ : ∃ l, l = aj_set1 lv 1 (.int x52) := ⟨_, rfl⟩
              rw [← elv53]
              have hlv53_0 : aj_lv lv53 0 = some (.ref 117) := fx_e1 elv53 hlv_0 (by decide) (Or.inr rfl)
              have hlv53_1 : aj_lv lv53 1 = some (.int x52) := by rw [elv53]; exact ak_set1_eq _ _ _
              show fx_W _ _ _ 110 lv53 [] _ _
              refine fx_i2 aj_d237 rfl (Nat.le_succ _) (fun _ => rfl) hlv53_0 ?_
              refine fx_cv aj_d237 rfl (Nat.le_succ _) rfl [] rfl rfl (gx_214_ok) ?_
              rintro _ X54 ⟨w55, rfl, hR54⟩ hok54 hle54
              refine fx_qc hR54 ?_
              show fx_W _ _ _ 114 lv53 [.int w55] _ _
              refine fx_b0 (tgt := 23) aj_d237 rfl (Nat.le_succ _) rfl (fun q56 => ?_) (fun q56 => ?_)
              · skip
                refine fx_qe (c := (w55).toInt = 0) (fx_t_ne q56) ?_
                show fx_W _ _ _ 23 lv53 [] _ _
                exact (ih.2.1) lv53 (x52) X54  hlv53_0 hlv53_1
              · skip
                refine fx_qi (c := (w55).toInt = 0) (fx_f_ne q56) ?_
                show fx_W _ _ _ 117 lv53 [] _ _
                refine fx_n (pc' := 118) (lv' := lv53) (st' := [.int (Int32.ofInt 0)]) aj_d237 rfl (Nat.le_succ _) (fun _ => rfl) ?_
                exact fx_ri aj_d237 rfl ⟨_, rfl, 0, rfl, rfl⟩
          · skip
            refine fx_qi (c := ((X35.1 117 41)).toInt = 8) (fx_f_ne q41) ?_
            show fx_W _ _ _ 50 lv [] _ _
            refine fx_i2 aj_d237 rfl (Nat.le_succ _) (fun _ => rfl) hlv_0 ?_
            refine fx_n (pc' := 52) (lv' := lv) (st' := [.int (Int32.ofInt 2), .ref 117]) aj_d237 rfl (Nat.le_succ _) (fun _ => rfl) ?_
            refine fx_i2 aj_d237 rfl (Nat.le_succ _) (fun _ => rfl) hlv_0 ?_
            refine fx_gI aj_d237 rfl (Nat.le_succ _) rfl rfl (Or.inl rfl) ?_
            refine fx_cv aj_d237 rfl (Nat.le_succ _) rfl [_, _] rfl rfl (gx_215_ok (Int32.ofInt 2) (X35.1 117 27)) ?_
            rintro _ X57 ⟨w58, rfl, hR57⟩ hok57 hle57
            refine fx_qc hR57 ?_
            show fx_W _ _ _ 59 lv [.int w58] _ _
            exact fx_ri aj_d237 rfl ⟨_, rfl, 0, rfl, rfl⟩
    · intro lv y1 X hlv_0 hlv_1
      refine fx_mono (Q := fx_Q fx_qI (fun v X' => ∃ n : Nat, gxT_237_128 (gxF_237 n) y1 X v X')) (fun r X' ⟨v, e, n, z⟩ => ⟨v, e, n + 1, gxI_237_128 z⟩) ?_
      unfold gxT_237_128
      refine fx_i2 aj_d237 rfl (Nat.le_refl _) (fun _ => rfl) hlv_0 ?_
      refine fx_n (pc' := 131) (lv' := lv) (st' := [.int ((Int8.ofInt 33).toInt32), .ref 117]) aj_d237 rfl (Nat.le_succ _) (fun _ => rfl) ?_
      refine fx_cv aj_d237 rfl (Nat.le_succ _) rfl [_] rfl rfl (gx_243_ok ((Int8.ofInt 33).toInt32)) ?_
      rintro _ X59 ⟨w60, rfl, hR59⟩ hok59 hle59
      refine fx_qc hR59 ?_
      show fx_W _ _ _ 134 lv [.int w60] _ _
      refine fx_b0 (tgt := 144) aj_d237 rfl (Nat.le_succ _) rfl (fun q61 => ?_) (fun q61 => ?_)
      · skip
        refine fx_qi (c := (w60).toInt = 0) (fx_t_eq q61) ?_
        show fx_W _ _ _ 144 lv [] _ _
        exact (ih.2.2.2.1) lv (y1) X59  hlv_0 hlv_1
      · skip
        refine fx_qe (c := (w60).toInt = 0) (fx_f_eq q61) ?_
        show fx_W _ _ _ 137 lv [] _ _
        refine fx_i2 aj_d237 rfl (Nat.le_succ _) (fun _ => rfl) hlv_0 ?_
        refine fx_cv aj_d237 rfl (Nat.le_succ _) rfl [] rfl rfl (gx_244_ok) ?_
        rintro _ X62 ⟨w63, rfl, hR62⟩ hok62 hle62
        refine fx_qc hR62 ?_
        show fx_W _ _ _ 141 lv [] _ _
        refine fx_n (pc' := 128) (lv' := lv) (st' := []) aj_d237 rfl (Nat.le_succ _) (fun _ => rfl) ?_
        exact (ih.2.2.1) lv (y1) X62  hlv_0 hlv_1
    · intro lv y1 X hlv_0 hlv_1
      refine fx_mono (Q := fx_Q fx_qI (fun v X' => ∃ n : Nat, gxT_237_144 (gxF_237 n) y1 X v X')) (fun r X' ⟨v, e, n, z⟩ => ⟨v, e, n + 1, gxI_237_144 z⟩) ?_
      unfold gxT_237_144
      refine fx_i0 aj_d237 rfl (Nat.le_refl _) (fun _ => rfl) hlv_1 ?_
      refine fx_b0 (tgt := 221) aj_d237 rfl (Nat.le_succ _) rfl (fun q64 => ?_) (fun q64 => ?_)
      · skip
        refine fx_qe (c := 0 < (y1).toInt) (fx_t_le q64) ?_
        show fx_W _ _ _ 221 lv [] _ _
        refine fx_i2 aj_d237 rfl (Nat.le_succ _) (fun _ => rfl) hlv_0 ?_
        refine fx_n (pc' := 224) (lv' := lv) (st' := [.int ((Int8.ofInt 38).toInt32), .ref 117]) aj_d237 rfl (Nat.le_succ _) (fun _ => rfl) ?_
        refine fx_cv aj_d237 rfl (Nat.le_succ _) rfl [_] rfl rfl (gx_220_ok ((Int8.ofInt 38).toInt32)) ?_
        rintro _ X65 ⟨w66, rfl, hR65⟩ hok65 hle65
        refine fx_qc hR65 ?_
        show fx_W _ _ _ 227 lv [.int w66] _ _
        refine fx_b0 (tgt := 239) aj_d237 rfl (Nat.le_succ _) rfl (fun q67 => ?_) (fun q67 => ?_)
        · skip
          refine fx_qe (c := (w66).toInt = 0) (fx_t_ne q67) ?_
          show fx_W _ _ _ 239 lv [] _ _
          refine fx_n (pc' := 240) (lv' := lv) (st' := [.int (Int32.ofInt 1)]) aj_d237 rfl (Nat.le_succ _) (fun _ => rfl) ?_
          refine fx_n (pc' := 244) (lv' := lv) (st' := [.int (Int32.ofInt 1)]) aj_d237 rfl (Nat.le_succ _) (fun _ => rfl) ?_
          refine fx_s0 (j := 2) aj_d237 rfl (Nat.le_succ _) (by decide) (fun _ => rfl) ?_
          obtain ⟨lv68, elv68⟩ : ∃ l, l = aj_set1 lv 2 (.int (Int32.ofInt 1)) := ⟨_, rfl⟩
          rw [← elv68]
          have hlv68_0 : aj_lv lv68 0 = some (.ref 117) := fx_e1 elv68 hlv_0 (by decide) (Or.inl (by decide))
          have hlv68_1 : aj_lv lv68 1 = some (.int y1) := fx_e1 elv68 hlv_1 (by decide) (Or.inr rfl)
          have hlv68_2 : aj_lv lv68 2 = some (.int (Int32.ofInt 1)) := by rw [elv68]; exact ak_set1_eq _ _ _
          show fx_W _ _ _ 245 lv68 [] _ _
          refine fx_i0 aj_d237 rfl (Nat.le_succ _) (fun _ => rfl) hlv68_2 ?_
          refine fx_b0 (tgt := 19) aj_d237 rfl (Nat.le_succ _) rfl (fun q69 => ?_) (fun q69 => ?_)
          · exact absurd q69 (by decide)
          · skip
            show fx_W _ _ _ 249 lv68 [] _ _
            exact (ih.2.2.2.2.2.2.1) lv68 (y1) ((Int32.ofInt 1)) X65  hlv68_0 hlv68_1 hlv68_2
        · skip
          refine fx_qi (c := (w66).toInt = 0) (fx_f_ne q67) ?_
          show fx_W _ _ _ 230 lv [] _ _
          refine fx_i2 aj_d237 rfl (Nat.le_succ _) (fun _ => rfl) hlv_0 ?_
          refine fx_n (pc' := 233) (lv' := lv) (st' := [.int ((Int8.ofInt 124).toInt32), .ref 117]) aj_d237 rfl (Nat.le_succ _) (fun _ => rfl) ?_
          refine fx_cv aj_d237 rfl (Nat.le_succ _) rfl [_] rfl rfl (gx_220_ok ((Int8.ofInt 124).toInt32)) ?_
          rintro _ X70 ⟨w71, rfl, hR70⟩ hok70 hle70
          refine fx_qc hR70 ?_
          show fx_W _ _ _ 236 lv [.int w71] _ _
          refine fx_b0 (tgt := 243) aj_d237 rfl (Nat.le_succ _) rfl (fun q72 => ?_) (fun q72 => ?_)
          · skip
            refine fx_qi (c := (w71).toInt = 0) (fx_t_eq q72) ?_
            show fx_W _ _ _ 243 lv [] _ _
            refine fx_n (pc' := 244) (lv' := lv) (st' := [.int (Int32.ofInt 0)]) aj_d237 rfl (Nat.le_succ _) (fun _ => rfl) ?_
            refine fx_s0 (j := 2) aj_d237 rfl (Nat.le_succ _) (by decide) (fun _ => rfl) ?_
            obtain ⟨lv73, elv73⟩ : ∃ l, l = aj_set1 lv 2 (.int (Int32.ofInt 0)) := ⟨_, rfl⟩
            rw [← elv73]
            have hlv73_0 : aj_lv lv73 0 = some (.ref 117) := fx_e1 elv73 hlv_0 (by decide) (Or.inl (by decide))
            have hlv73_1 : aj_lv lv73 1 = some (.int y1) := fx_e1 elv73 hlv_1 (by decide) (Or.inr rfl)
            have hlv73_2 : aj_lv lv73 2 = some (.int (Int32.ofInt 0)) := by rw [elv73]; exact ak_set1_eq _ _ _
            show fx_W _ _ _ 245 lv73 [] _ _
            refine fx_i0 aj_d237 rfl (Nat.le_succ _) (fun _ => rfl) hlv73_2 ?_
            refine fx_b0 (tgt := 19) aj_d237 rfl (Nat.le_succ _) rfl (fun q74 => ?_) (fun q74 => ?_)
            · skip
              show fx_W _ _ _ 19 lv73 [] _ _
              exact (ih.1) lv73 (y1) ((Int32.ofInt 0)) X70  hlv73_0 hlv73_1 hlv73_2
            · exact absurd q74 (by decide)
          · skip
            refine fx_qe (c := (w71).toInt = 0) (fx_f_eq q72) ?_
            show fx_W _ _ _ 239 lv [] _ _
            refine fx_n (pc' := 240) (lv' := lv) (st' := [.int (Int32.ofInt 1)]) aj_d237 rfl (Nat.le_succ _) (fun _ => rfl) ?_
            refine fx_n (pc' := 244) (lv' := lv) (st' := [.int (Int32.ofInt 1)]) aj_d237 rfl (Nat.le_succ _) (fun _ => rfl) ?_
            refine fx_s0 (j := 2) aj_d237 rfl (Nat.le_succ _) (by decide) (fun _ => rfl) ?_
            obtain ⟨lv75, elv75⟩ : ∃ l, l = aj_set1 lv 2 (.int (Int32.ofInt 1)) := ⟨_, rfl⟩
            rw [← elv75]
            have hlv75_0 : aj_lv lv75 0 = some (.ref 117) := fx_e1 elv75 hlv_0 (by decide) (Or.inl (by decide))
            have hlv75_1 : aj_lv lv75 1 = some (.int y1) := fx_e1 elv75 hlv_1 (by decide) (Or.inr rfl)
            have hlv75_2 : aj_lv lv75 2 = some (.int (Int32.ofInt 1)) := by rw [elv75]; exact ak_set1_eq _ _ _
            show fx_W _ _ _ 245 lv75 [] _ _
            refine fx_i0 aj_d237 rfl (Nat.le_succ _) (fun _ => rfl) hlv75_2 ?_
            refine fx_b0 (tgt := 19) aj_d237 rfl (Nat.le_succ _) rfl (fun q76 => ?_) (fun q76 => ?_)
            · exact absurd q76 (by decide)
            · skip
              show fx_W _ _ _ 249 lv75 [] _ _
              exact (ih.2.2.2.2.2.2.1) lv75 (y1) ((Int32.ofInt 1)) X70  hlv75_0 hlv75_1 hlv75_2
      · skip
        refine fx_qi (c := 0 < (y1).toInt) (fx_f_le q64) ?_
        show fx_W _ _ _ 148 lv [] _ _
        refine fx_i2 aj_d237 rfl (Nat.le_succ _) (fun _ => rfl) hlv_0 ?_
        refine fx_n (pc' := 151) (lv' := lv) (st' := [.int ((Int8.ofInt 41).toInt32), .ref 117]) aj_d237 rfl (Nat.le_succ _) (fun _ => rfl) ?_
        refine fx_cv aj_d237 rfl (Nat.le_succ _) rfl [_] rfl rfl (gx_220_ok ((Int8.ofInt 41).toInt32)) ?_
        rintro _ X77 ⟨w78, rfl, hR77⟩ hok77 hle77
        refine fx_qc hR77 ?_
        show fx_W _ _ _ 154 lv [.int w78] _ _
        refine fx_b0 (tgt := 221) aj_d237 rfl (Nat.le_succ _) rfl (fun q79 => ?_) (fun q79 => ?_)
        · skip
          refine fx_qi (c := (w78).toInt = 0) (fx_t_eq q79) ?_
          show fx_W _ _ _ 221 lv [] _ _
          refine fx_i2 aj_d237 rfl (Nat.le_succ _) (fun _ => rfl) hlv_0 ?_
          refine fx_n (pc' := 224) (lv' := lv) (st' := [.int ((Int8.ofInt 38).toInt32), .ref 117]) aj_d237 rfl (Nat.le_succ _) (fun _ => rfl) ?_
          refine fx_cv aj_d237 rfl (Nat.le_succ _) rfl [_] rfl rfl (gx_220_ok ((Int8.ofInt 38).toInt32)) ?_
          rintro _ X80 ⟨w81, rfl, hR80⟩ hok80 hle80
          refine fx_qc hR80 ?_
          show fx_W _ _ _ 227 lv [.int w81] _ _
          refine fx_b0 (tgt := 239) aj_d237 rfl (Nat.le_succ _) rfl (fun q82 => ?_) (fun q82 => ?_)
          · skip
            refine fx_qe (c := (w81).toInt = 0) (fx_t_ne q82) ?_
            show fx_W _ _ _ 239 lv [] _ _
            refine fx_n (pc' := 240) (lv' := lv) (st' := [.int (Int32.ofInt 1)]) aj_d237 rfl (Nat.le_succ _) (fun _ => rfl) ?_
            refine fx_n (pc' := 244) (lv' := lv) (st' := [.int (Int32.ofInt 1)]) aj_d237 rfl (Nat.le_succ _) (fun _ => rfl) ?_
            refine fx_s0 (j := 2) aj_d237 rfl (Nat.le_succ _) (by decide) (fun _ => rfl) ?_
            obtain ⟨lv83, elv83⟩ : ∃ l, l = aj_set1 lv 2 (.int (Int32.ofInt 1)) := ⟨_, rfl⟩
            rw [← elv83]
            have hlv83_0 : aj_lv lv83 0 = some (.ref 117) := fx_e1 elv83 hlv_0 (by decide) (Or.inl (by decide))
            have hlv83_1 : aj_lv lv83 1 = some (.int y1) := fx_e1 elv83 hlv_1 (by decide) (Or.inr rfl)
            have hlv83_2 : aj_lv lv83 2 = some (.int (Int32.ofInt 1)) := by rw [elv83]; exact ak_set1_eq _ _ _
            show fx_W _ _ _ 245 lv83 [] _ _
            refine fx_i0 aj_d237 rfl (Nat.le_succ _) (fun _ => rfl) hlv83_2 ?_
            refine fx_b0 (tgt := 19) aj_d237 rfl (Nat.le_succ _) rfl (fun q84 => ?_) (fun q84 => ?_)
            · exact absurd q84 (by decide)
            · skip
              show fx_W _ _ _ 249 lv83 [] _ _
              exact (ih.2.2.2.2.2.2.1) lv83 (y1) ((Int32.ofInt 1)) X80  hlv83_0 hlv83_1 hlv83_2
          · skip
            refine fx_qi (c := (w81).toInt = 0) (fx_f_ne q82) ?_
            show fx_W _ _ _ 230 lv [] _ _
            refine fx_i2 aj_d237 rfl (Nat.le_succ _) (fun _ => rfl) hlv_0 ?_
            refine fx_n (pc' := 233) (lv' := lv) (st' := [.int ((Int8.ofInt 124).toInt32), .ref 117]) aj_d237 rfl (Nat.le_succ _) (fun _ => rfl) ?_
            refine fx_cv aj_d237 rfl (Nat.le_succ _) rfl [_] rfl rfl (gx_220_ok ((Int8.ofInt 124).toInt32)) ?_
            rintro _ X85 ⟨w86, rfl, hR85⟩ hok85 hle85
            refine fx_qc hR85 ?_
            show fx_W _ _ _ 236 lv [.int w86] _ _
            refine fx_b0 (tgt := 243) aj_d237 rfl (Nat.le_succ _) rfl (fun q87 => ?_) (fun q87 => ?_)
            · skip
              refine fx_qi (c := (w86).toInt = 0) (fx_t_eq q87) ?_
              show fx_W _ _ _ 243 lv [] _ _
              refine fx_n (pc' := 244) (lv' := lv) (st' := [.int (Int32.ofInt 0)]) aj_d237 rfl (Nat.le_succ _) (fun _ => rfl) ?_
              refine fx_s0 (j := 2) aj_d237 rfl (Nat.le_succ _) (by decide) (fun _ => rfl) ?_
              obtain ⟨lv88, elv88⟩ : ∃ l, l = aj_set1 lv 2 (.int (Int32.ofInt 0)) := ⟨_, rfl⟩
              rw [← elv88]
              have hlv88_0 : aj_lv lv88 0 = some (.ref 117) := fx_e1 elv88 hlv_0 (by decide) (Or.inl (by decide))
              have hlv88_1 : aj_lv lv88 1 = some (.int y1) := fx_e1 elv88 hlv_1 (by decide) (Or.inr rfl)
              have hlv88_2 : aj_lv lv88 2 = some (.int (Int32.ofInt 0)) := by rw [elv88]; exact ak_set1_eq _ _ _
              show fx_W _ _ _ 245 lv88 [] _ _
              refine fx_i0 aj_d237 rfl (Nat.le_succ _) (fun _ => rfl) hlv88_2 ?_
              refine fx_b0 (tgt := 19) aj_d237 rfl (Nat.le_succ _) rfl (fun q89 => ?_) (fun q89 => ?_)
              · skip
                show fx_W _ _ _ 19 lv88 [] _ _
                exact (ih.1) lv88 (y1) ((Int32.ofInt 0)) X85  hlv88_0 hlv88_1 hlv88_2
              · exact absurd q89 (by decide)
            · skip
              refine fx_qe (c := (w86).toInt = 0) (fx_f_eq q87) ?_
              show fx_W _ _ _ 239 lv [] _ _
              refine fx_n (pc' := 240) (lv' := lv) (st' := [.int (Int32.ofInt 1)]) aj_d237 rfl (Nat.le_succ _) (fun _ => rfl) ?_
              refine fx_n (pc' := 244) (lv' := lv) (st' := [.int (Int32.ofInt 1)]) aj_d237 rfl (Nat.le_succ _) (fun _ => rfl) ?_
              refine fx_s0 (j := 2) aj_d237 rfl (Nat.le_succ _) (by decide) (fun _ => rfl) ?_
              obtain ⟨lv90, elv90⟩ : ∃ l, l = aj_set1 lv 2 (.int (Int32.ofInt 1)) := ⟨_, rfl⟩
              rw [← elv90]
              have hlv90_0 : aj_lv lv90 0 = some (.ref 117) := fx_e1 elv90 hlv_0 (by decide) (Or.inl (by decide))
              have hlv90_1 : aj_lv lv90 1 = some (.int y1) := fx_e1 elv90 hlv_1 (by decide) (Or.inr rfl)
              have hlv90_2 : aj_lv lv90 2 = some (.int (Int32.ofInt 1)) := by rw [elv90]; exact ak_set1_eq _ _ _
              show fx_W _ _ _ 245 lv90 [] _ _
              refine fx_i0 aj_d237 rfl (Nat.le_succ _) (fun _ => rfl) hlv90_2 ?_
              refine fx_b0 (tgt := 19) aj_d237 rfl (Nat.le_succ _) rfl (fun q91 => ?_) (fun q91 => ?_)
              · exact absurd q91 (by decide)
              · skip
                show fx_W _ _ _ 249 lv90 [] _ _
                exact (ih.2.2.2.2.2.2.1) lv90 (y1) ((Int32.ofInt 1)) X85  hlv90_0 hlv90_1 hlv90_2
        · skip
          refine fx_qe (c := (w78).toInt = 0) (fx_f_eq q79) ?_
          show fx_W _ _ _ 157 lv [] _ _
          exact (ih.2.2.2.2.1) lv (y1) X77  hlv_0 hlv_1
    · intro lv y1 X hlv_0 hlv_1
      refine fx_mono (Q := fx_Q fx_qI (fun v X' => ∃ n : Nat, gxT_237_157 (gxF_237 n) y1 X v X')) (fun r X' ⟨v, e, n, z⟩ => ⟨v, e, n + 1, gxI_237_157 z⟩) ?_
      unfold gxT_237_157
      refine fx_i2 aj_d237 rfl (Nat.le_refl _) (fun _ => rfl) hlv_0 ?_
      refine fx_n (pc' := 160) (lv' := lv) (st' := [.int ((Int8.ofInt 40).toInt32), .ref 117]) aj_d237 rfl (Nat.le_succ _) (fun _ => rfl) ?_
      refine fx_cv aj_d237 rfl (Nat.le_succ _) rfl [_] rfl rfl (gx_243_ok ((Int8.ofInt 40).toInt32)) ?_
      rintro _ X119 ⟨w120, rfl, hR119⟩ hok119 hle119
      refine fx_qc hR119 ?_
      show fx_W _ _ _ 163 lv [.int w120] _ _
      refine fx_b0 (tgt := 173) aj_d237 rfl (Nat.le_succ _) rfl (fun q121 => ?_) (fun q121 => ?_)
      · skip
        refine fx_qe (c := (w120).toInt = 0) (fx_t_ne q121) ?_
        show fx_W _ _ _ 173 lv [] _ _
        refine fx_i2 aj_d237 rfl (Nat.le_succ _) (fun _ => rfl) hlv_0 ?_
        refine fx_n (pc' := 175) (lv' := lv) (st' := [.ref 117, .ref 117]) aj_d237 rfl (Nat.le_succ _) (fun _ => rfl) ?_
        refine fx_gI aj_d237 rfl (Nat.le_succ _) rfl rfl (Or.inl rfl) ?_
        refine fx_n (pc' := 179) (lv' := lv) (st' := [.int (Int32.ofInt 1), .int (X119.1 117 43), .ref 117]) aj_d237 rfl (Nat.le_succ _) (fun _ => rfl) ?_
        refine fx_n (pc' := 180) (lv' := lv) (st' := [.int ((X119.1 117 43) - (Int32.ofInt 1)), .ref 117]) aj_d237 rfl (Nat.le_succ _) (fun _ => rfl) ?_
        refine fx_pI aj_d237 rfl (Nat.le_succ _) rfl rfl (Or.inl rfl) fx_no_11_43 (by decide) ?_
        refine fx_qX (fun X122 eX122 => ?_)
        show fx_W _ _ _ 183 lv [] _ _
        refine fx_incq aj_d237 rfl (Nat.le_succ _) hlv_1 (by decide) (fun x123 ex123 => ?_)
        obtain ⟨lv124, elv124⟩ : ∃ l, l = aj_set1 lv 1 (.int x123) := ⟨_, rfl⟩
        rw [← elv124]
        have hlv124_0 : aj_lv lv124 0 = some (.ref 117) := fx_e1 elv124 hlv_0 (by decide) (Or.inr rfl)
        have hlv124_1 : aj_lv lv124 1 = some (.int x123) := by rw [elv124]; exact ak_set1_eq _ _ _
        show fx_W _ _ _ 186 lv124 [] _ _
        refine fx_i2 aj_d237 rfl (Nat.le_succ _) (fun _ => rfl) hlv124_0 ?_
        refine fx_n (pc' := 188) (lv' := lv124) (st' := [.ref 117, .ref 117]) aj_d237 rfl (Nat.le_succ _) (fun _ => rfl) ?_
        refine fx_gI aj_d237 rfl (Nat.le_succ _) rfl rfl (Or.inl rfl) ?_
        refine fx_n (pc' := 192) (lv' := lv124) (st' := [.int (Int32.ofInt 1), .int (X122.1 117 41), .ref 117]) aj_d237 rfl (Nat.le_succ _) (fun _ => rfl) ?_
        refine fx_n (pc' := 193) (lv' := lv124) (st' := [.int ((X122.1 117 41) - (Int32.ofInt 1)), .ref 117]) aj_d237 rfl (Nat.le_succ _) (fun _ => rfl) ?_
        refine fx_pI aj_d237 rfl (Nat.le_succ _) rfl rfl (Or.inl rfl) fx_no_11_41 (by decide) ?_
        refine fx_qX (fun X125 eX125 => ?_)
        show fx_W _ _ _ 196 lv124 [] _ _
        refine fx_i2 aj_d237 rfl (Nat.le_succ _) (fun _ => rfl) hlv124_0 ?_
        refine fx_cv aj_d237 rfl (Nat.le_succ _) rfl [] rfl rfl (gx_214_ok) ?_
        rintro _ X126 ⟨w127, rfl, hR126⟩ hok126 hle126
        refine fx_qc hR126 ?_
        show fx_W _ _ _ 200 lv124 [.int w127] _ _
        refine fx_b0 (tgt := 205) aj_d237 rfl (Nat.le_succ _) rfl (fun q128 => ?_) (fun q128 => ?_)
        · skip
          refine fx_qe (c := (w127).toInt = 0) (fx_t_ne q128) ?_
          show fx_W _ _ _ 205 lv124 [] _ _
          exact (ih.2.2.2.2.2.1) lv124 (x123) X126  hlv124_0 hlv124_1
        · skip
          refine fx_qi (c := (w127).toInt = 0) (fx_f_ne q128) ?_
          show fx_W _ _ _ 203 lv124 [] _ _
          refine fx_n (pc' := 204) (lv' := lv124) (st' := [.int (Int32.ofInt 0)]) aj_d237 rfl (Nat.le_succ _) (fun _ => rfl) ?_
          exact fx_ri aj_d237 rfl ⟨_, rfl, 0, rfl, rfl⟩
      · skip
        refine fx_qi (c := (w120).toInt = 0) (fx_f_ne q121) ?_
        show fx_W _ _ _ 166 lv [] _ _
        refine fx_i2 aj_d237 rfl (Nat.le_succ _) (fun _ => rfl) hlv_0 ?_
        refine fx_cv aj_d237 rfl (Nat.le_succ _) rfl [] rfl rfl (gx_244_ok) ?_
        rintro _ X129 ⟨w130, rfl, hR129⟩ hok129 hle129
        refine fx_qc hR129 ?_
        show fx_W _ _ _ 170 lv [] _ _
        refine fx_n (pc' := 157) (lv' := lv) (st' := []) aj_d237 rfl (Nat.le_succ _) (fun _ => rfl) ?_
        exact (ih.2.2.2.2.1) lv (y1) X129  hlv_0 hlv_1
    · intro lv y1 X hlv_0 hlv_1
      refine fx_mono (Q := fx_Q fx_qI (fun v X' => ∃ n : Nat, gxT_237_205 (gxF_237 n) y1 X v X')) (fun r X' ⟨v, e, n, z⟩ => ⟨v, e, n + 1, gxI_237_205 z⟩) ?_
      unfold gxT_237_205
      refine fx_i2 aj_d237 rfl (Nat.le_refl _) (fun _ => rfl) hlv_0 ?_
      refine fx_n (pc' := 208) (lv' := lv) (st' := [.int ((Int8.ofInt 33).toInt32), .ref 117]) aj_d237 rfl (Nat.le_succ _) (fun _ => rfl) ?_
      refine fx_cv aj_d237 rfl (Nat.le_succ _) rfl [_] rfl rfl (gx_243_ok ((Int8.ofInt 33).toInt32)) ?_
      rintro _ X131 ⟨w132, rfl, hR131⟩ hok131 hle131
      refine fx_qc hR131 ?_
      show fx_W _ _ _ 211 lv [.int w132] _ _
      refine fx_b0 (tgt := 144) aj_d237 rfl (Nat.le_succ _) rfl (fun q133 => ?_) (fun q133 => ?_)
      · skip
        refine fx_qi (c := (w132).toInt = 0) (fx_t_eq q133) ?_
        show fx_W _ _ _ 144 lv [] _ _
        exact (ih.2.2.2.1) lv (y1) X131  hlv_0 hlv_1
      · skip
        refine fx_qe (c := (w132).toInt = 0) (fx_f_eq q133) ?_
        show fx_W _ _ _ 214 lv [] _ _
        refine fx_i2 aj_d237 rfl (Nat.le_succ _) (fun _ => rfl) hlv_0 ?_
        refine fx_cv aj_d237 rfl (Nat.le_succ _) rfl [] rfl rfl (gx_244_ok) ?_
        rintro _ X134 ⟨w135, rfl, hR134⟩ hok134 hle134
        refine fx_qc hR134 ?_
        show fx_W _ _ _ 218 lv [] _ _
        refine fx_n (pc' := 205) (lv' := lv) (st' := []) aj_d237 rfl (Nat.le_succ _) (fun _ => rfl) ?_
        exact (ih.2.2.2.2.2.1) lv (y1) X134  hlv_0 hlv_1
    · intro lv y1 y2 X hlv_0 hlv_1 hlv_2
      refine fx_mono (Q := fx_Q fx_qI (fun v X' => ∃ n : Nat, gxT_237_249 (gxF_237 n) y1 y2 X v X')) (fun r X' ⟨v, e, n, z⟩ => ⟨v, e, n + 1, gxI_237_249 z⟩) ?_
      unfold gxT_237_249
      refine fx_i2 aj_d237 rfl (Nat.le_refl _) (fun _ => rfl) hlv_0 ?_
      refine fx_n (pc' := 252) (lv' := lv) (st' := [.int ((Int8.ofInt 38).toInt32), .ref 117]) aj_d237 rfl (Nat.le_succ _) (fun _ => rfl) ?_
      refine fx_cv aj_d237 rfl (Nat.le_succ _) rfl [_] rfl rfl (gx_243_ok ((Int8.ofInt 38).toInt32)) ?_
      rintro _ X92 ⟨w93, rfl, hR92⟩ hok92 hle92
      refine fx_qc hR92 ?_
      show fx_W _ _ _ 255 lv [.int w93] _ _
      refine fx_b0 (tgt := 276) aj_d237 rfl (Nat.le_succ _) rfl (fun q94 => ?_) (fun q94 => ?_)
      · skip
        refine fx_qe (c := (w93).toInt = 0) (fx_t_ne q94) ?_
        show fx_W _ _ _ 276 lv [] _ _
        refine fx_i2 aj_d237 rfl (Nat.le_succ _) (fun _ => rfl) hlv_0 ?_
        refine fx_cv aj_d237 rfl (Nat.le_succ _) rfl [] rfl rfl (gx_244_ok) ?_
        rintro _ X95 ⟨w96, rfl, hR95⟩ hok95 hle95
        refine fx_qc hR95 ?_
        show fx_W _ _ _ 280 lv [] _ _
        refine fx_n (pc' := 249) (lv' := lv) (st' := []) aj_d237 rfl (Nat.le_succ _) (fun _ => rfl) ?_
        exact (ih.2.2.2.2.2.2.1) lv (y1) (y2) X95  hlv_0 hlv_1 hlv_2
      · skip
        refine fx_qi (c := (w93).toInt = 0) (fx_f_ne q94) ?_
        show fx_W _ _ _ 258 lv [] _ _
        refine fx_i2 aj_d237 rfl (Nat.le_succ _) (fun _ => rfl) hlv_0 ?_
        refine fx_n (pc' := 261) (lv' := lv) (st' := [.int ((Int8.ofInt 124).toInt32), .ref 117]) aj_d237 rfl (Nat.le_succ _) (fun _ => rfl) ?_
        refine fx_cv aj_d237 rfl (Nat.le_succ _) rfl [_] rfl rfl (gx_220_ok ((Int8.ofInt 124).toInt32)) ?_
        rintro _ X97 ⟨w98, rfl, hR97⟩ hok97 hle97
        refine fx_qc hR97 ?_
        show fx_W _ _ _ 264 lv [.int w98] _ _
        refine fx_b0 (tgt := 283) aj_d237 rfl (Nat.le_succ _) rfl (fun q99 => ?_) (fun q99 => ?_)
        · skip
          refine fx_qi (c := (w98).toInt = 0) (fx_t_eq q99) ?_
          show fx_W _ _ _ 283 lv [] _ _
          refine fx_i2 aj_d237 rfl (Nat.le_succ _) (fun _ => rfl) hlv_0 ?_
          refine fx_gF aj_d237 rfl (Nat.le_succ _) rfl rfl fx_in_11_42 (t := 139) rfl (fun hA100 => ?_)
          refine fx_i2 aj_d237 rfl (Nat.le_succ _) (fun _ => rfl) hlv_0 ?_
          refine fx_gI aj_d237 rfl (Nat.le_succ _) rfl rfl (Or.inl rfl) ?_
          refine fx_i2 aj_d237 rfl (Nat.le_succ _) (fun _ => rfl) hlv_0 ?_
          refine fx_gI aj_d237 rfl (Nat.le_succ _) rfl rfl (Or.inl rfl) ?_
          refine fx_st aj_d237 (Or.inl ⟨rfl, rfl⟩) rfl (Nat.le_succ _) (fun g1010 g1011 => ?_)
          show fx_W _ _ _ _ _ _ (fx_wI X97 139 ((X97.1 117 43)).toInt.toNat (X97.1 117 29)) _
          refine fx_qa (c := 0 ≤ ((X97.1 117 43)).toInt ∧ ((X97.1 117 43)).toInt < ((40 : Nat) : Int)) ⟨g1010, fx_lnk g1011 hA100⟩ ?_
          refine fx_qX (fun X102 eX102 => ?_)
          show fx_W _ _ _ 296 lv [] _ _
          refine fx_i2 aj_d237 rfl (Nat.le_succ _) (fun _ => rfl) hlv_0 ?_
          refine fx_n (pc' := 298) (lv' := lv) (st' := [.ref 117, .ref 117]) aj_d237 rfl (Nat.le_succ _) (fun _ => rfl) ?_
          refine fx_gI aj_d237 rfl (Nat.le_succ _) rfl rfl (Or.inl rfl) ?_
          refine fx_n (pc' := 302) (lv' := lv) (st' := [.int (Int32.ofInt 1), .int (X102.1 117 43), .ref 117]) aj_d237 rfl (Nat.le_succ _) (fun _ => rfl) ?_
          refine fx_n (pc' := 303) (lv' := lv) (st' := [.int ((X102.1 117 43) + (Int32.ofInt 1)), .ref 117]) aj_d237 rfl (Nat.le_succ _) (fun _ => rfl) ?_
          refine fx_pI aj_d237 rfl (Nat.le_succ _) rfl rfl (Or.inl rfl) fx_no_11_43 (by decide) ?_
          refine fx_qX (fun X103 eX103 => ?_)
          show fx_W _ _ _ 306 lv [] _ _
          refine fx_i2 aj_d237 rfl (Nat.le_succ _) (fun _ => rfl) hlv_0 ?_
          refine fx_cv aj_d237 rfl (Nat.le_succ _) rfl [] rfl rfl (gx_214_ok) ?_
          rintro _ X104 ⟨w105, rfl, hR104⟩ hok104 hle104
          refine fx_qc hR104 ?_
          show fx_W _ _ _ 310 lv [.int w105] _ _
          refine fx_b0 (tgt := 19) aj_d237 rfl (Nat.le_succ _) rfl (fun q106 => ?_) (fun q106 => ?_)
          · skip
            refine fx_qe (c := (w105).toInt = 0) (fx_t_ne q106) ?_
            show fx_W _ _ _ 19 lv [] _ _
            exact (ih.1) lv (y1) (y2) X104  hlv_0 hlv_1 hlv_2
          · skip
            refine fx_qi (c := (w105).toInt = 0) (fx_f_ne q106) ?_
            show fx_W _ _ _ 313 lv [] _ _
            refine fx_n (pc' := 314) (lv' := lv) (st' := [.int (Int32.ofInt 0)]) aj_d237 rfl (Nat.le_succ _) (fun _ => rfl) ?_
            exact fx_ri aj_d237 rfl ⟨_, rfl, 0, rfl, rfl⟩
        · skip
          refine fx_qe (c := (w98).toInt = 0) (fx_f_eq q99) ?_
          show fx_W _ _ _ 267 lv [] _ _
          refine fx_i2 aj_d237 rfl (Nat.le_succ _) (fun _ => rfl) hlv_0 ?_
          refine fx_n (pc' := 270) (lv' := lv) (st' := [.int ((Int8.ofInt 124).toInt32), .ref 117]) aj_d237 rfl (Nat.le_succ _) (fun _ => rfl) ?_
          refine fx_cv aj_d237 rfl (Nat.le_succ _) rfl [_] rfl rfl (gx_243_ok ((Int8.ofInt 124).toInt32)) ?_
          rintro _ X107 ⟨w108, rfl, hR107⟩ hok107 hle107
          refine fx_qc hR107 ?_
          show fx_W _ _ _ 273 lv [.int w108] _ _
          refine fx_b0 (tgt := 283) aj_d237 rfl (Nat.le_succ _) rfl (fun q109 => ?_) (fun q109 => ?_)
          · skip
            refine fx_qi (c := (w108).toInt = 0) (fx_t_eq q109) ?_
            show fx_W _ _ _ 283 lv [] _ _
            refine fx_i2 aj_d237 rfl (Nat.le_succ _) (fun _ => rfl) hlv_0 ?_
            refine fx_gF aj_d237 rfl (Nat.le_succ _) rfl rfl fx_in_11_42 (t := 139) rfl (fun hA110 => ?_)
            refine fx_i2 aj_d237 rfl (Nat.le_succ _) (fun _ => rfl) hlv_0 ?_
            refine fx_gI aj_d237 rfl (Nat.le_succ _) rfl rfl (Or.inl rfl) ?_
            refine fx_i2 aj_d237 rfl (Nat.le_succ _) (fun _ => rfl) hlv_0 ?_
            refine fx_gI aj_d237 rfl (Nat.le_succ _) rfl rfl (Or.inl rfl) ?_
            refine fx_st aj_d237 (Or.inl ⟨rfl, rfl⟩) rfl (Nat.le_succ _) (fun g1110 g1111 => ?_)
            show fx_W _ _ _ _ _ _ (fx_wI X107 139 ((X107.1 117 43)).toInt.toNat (X107.1 117 29)) _
            refine fx_qa (c := 0 ≤ ((X107.1 117 43)).toInt ∧ ((X107.1 117 43)).toInt < ((40 : Nat) : Int)) ⟨g1110, fx_lnk g1111 hA110⟩ ?_
            refine fx_qX (fun X112 eX112 => ?_)
            show fx_W _ _ _ 296 lv [] _ _
            refine fx_i2 aj_d237 rfl (Nat.le_succ _) (fun _ => rfl) hlv_0 ?_
            refine fx_n (pc' := 298) (lv' := lv) (st' := [.ref 117, .ref 117]) aj_d237 rfl (Nat.le_succ _) (fun _ => rfl) ?_
            refine fx_gI aj_d237 rfl (Nat.le_succ _) rfl rfl (Or.inl rfl) ?_
            refine fx_n (pc' := 302) (lv' := lv) (st' := [.int (Int32.ofInt 1), .int (X112.1 117 43), .ref 117]) aj_d237 rfl (Nat.le_succ _) (fun _ => rfl) ?_
            refine fx_n (pc' := 303) (lv' := lv) (st' := [.int ((X112.1 117 43) + (Int32.ofInt 1)), .ref 117]) aj_d237 rfl (Nat.le_succ _) (fun _ => rfl) ?_
            refine fx_pI aj_d237 rfl (Nat.le_succ _) rfl rfl (Or.inl rfl) fx_no_11_43 (by decide) ?_
            refine fx_qX (fun X113 eX113 => ?_)
            show fx_W _ _ _ 306 lv [] _ _
            refine fx_i2 aj_d237 rfl (Nat.le_succ _) (fun _ => rfl) hlv_0 ?_
            refine fx_cv aj_d237 rfl (Nat.le_succ _) rfl [] rfl rfl (gx_214_ok) ?_
            rintro _ X114 ⟨w115, rfl, hR114⟩ hok114 hle114
            refine fx_qc hR114 ?_
            show fx_W _ _ _ 310 lv [.int w115] _ _
            refine fx_b0 (tgt := 19) aj_d237 rfl (Nat.le_succ _) rfl (fun q116 => ?_) (fun q116 => ?_)
            · skip
              refine fx_qe (c := (w115).toInt = 0) (fx_t_ne q116) ?_
              show fx_W _ _ _ 19 lv [] _ _
              exact (ih.1) lv (y1) (y2) X114  hlv_0 hlv_1 hlv_2
            · skip
              refine fx_qi (c := (w115).toInt = 0) (fx_f_ne q116) ?_
              show fx_W _ _ _ 313 lv [] _ _
              refine fx_n (pc' := 314) (lv' := lv) (st' := [.int (Int32.ofInt 0)]) aj_d237 rfl (Nat.le_succ _) (fun _ => rfl) ?_
              exact fx_ri aj_d237 rfl ⟨_, rfl, 0, rfl, rfl⟩
          · skip
            refine fx_qe (c := (w108).toInt = 0) (fx_f_eq q109) ?_
            show fx_W _ _ _ 276 lv [] _ _
            refine fx_i2 aj_d237 rfl (Nat.le_succ _) (fun _ => rfl) hlv_0 ?_
            refine fx_cv aj_d237 rfl (Nat.le_succ _) rfl [] rfl rfl (gx_244_ok) ?_
            rintro _ X117 ⟨w118, rfl, hR117⟩ hok117 hle117
            refine fx_qc hR117 ?_
            show fx_W _ _ _ 280 lv [] _ _
            refine fx_n (pc' := 249) (lv' := lv) (st' := []) aj_d237 rfl (Nat.le_succ _) (fun _ => rfl) ?_
            exact (ih.2.2.2.2.2.2.1) lv (y1) (y2) X117  hlv_0 hlv_1 hlv_2
    · intro lv X hlv_0
      refine fx_mono (Q := fx_Q fx_qI (fun v X' => ∃ n : Nat, gxT_237_329 (gxF_237 n) X v X')) (fun r X' ⟨v, e, n, z⟩ => ⟨v, e, n + 1, gxI_237_329 z⟩) ?_
      unfold gxT_237_329
      refine fx_i2 aj_d237 rfl (Nat.le_refl _) (fun _ => rfl) hlv_0 ?_
      refine fx_gI aj_d237 rfl (Nat.le_succ _) rfl rfl (Or.inl rfl) ?_
      refine fx_b0 (tgt := 343) aj_d237 rfl (Nat.le_succ _) rfl (fun q11 => ?_) (fun q11 => ?_)
      · skip
        refine fx_qe (c := 0 < ((X.1 117 43)).toInt) (fx_t_le q11) ?_
        show fx_W _ _ _ 343 lv [] _ _
        refine fx_n (pc' := 344) (lv' := lv) (st' := [.int (Int32.ofInt 1)]) aj_d237 rfl (Nat.le_succ _) (fun _ => rfl) ?_
        exact fx_ri aj_d237 rfl ⟨_, rfl, 0, rfl, rfl⟩
      · skip
        refine fx_qi (c := 0 < ((X.1 117 43)).toInt) (fx_f_le q11) ?_
        show fx_W _ _ _ 336 lv [] _ _
        refine fx_i2 aj_d237 rfl (Nat.le_succ _) (fun _ => rfl) hlv_0 ?_
        refine fx_cv aj_d237 rfl (Nat.le_succ _) rfl [] rfl rfl (gx_244_ok) ?_
        rintro _ X12 ⟨w13, rfl, hR12⟩ hok12 hle12
        refine fx_qc hR12 ?_
        show fx_W _ _ _ 340 lv [] _ _
        refine fx_n (pc' := 329) (lv' := lv) (st' := []) aj_d237 rfl (Nat.le_succ _) (fun _ => rfl) ?_
        exact (ih.2.2.2.2.2.2.2) lv X12  hlv_0
theorem gx_237_ok {tb : aj_T} {X : fx_X} : fx_K tb 237 [.ref 117] X (fx_Q fx_qI (fun v X' => gx_237 X v X')) := by
  refine fx_m aj_m237_at rfl (fun N => ?_)
  refine fx_mono (Q := fx_Q fx_qI (fun v X' => ∃ n : Nat, gxE_237 (gxF_237 n) X v X')) (fun r X' h => h) ?_
  unfold gxE_237
  show fx_W _ _ _ 0 [(0, .ref 117)] [] _ _
  obtain ⟨lv1, elv1⟩ : ∃ l : aj_V, l = [(0, .ref 117)] := ⟨_, rfl⟩
  rw [← elv1]
  have hlv1_0 : aj_lv lv1 0 = some (.ref 117) := by rw [elv1]; rfl
  refine fx_i2 aj_d237 rfl (Nat.le_succ _) (fun _ => rfl) hlv1_0 ?_
  refine fx_n (pc' := 2) (lv' := lv1) (st' := [.int (Int32.ofInt 0), .ref 117]) aj_d237 rfl (Nat.le_succ _) (fun _ => rfl) ?_
  refine fx_pI aj_d237 rfl (Nat.le_succ _) rfl rfl (Or.inl rfl) fx_no_11_43 (by decide) ?_
  refine fx_qX (fun X2 eX2 => ?_)
  show fx_W _ _ _ 5 lv1 [] _ _
  refine fx_i2 aj_d237 rfl (Nat.le_succ _) (fun _ => rfl) hlv1_0 ?_
  refine fx_n (pc' := 7) (lv' := lv1) (st' := [.int (Int32.ofInt 0), .ref 117]) aj_d237 rfl (Nat.le_succ _) (fun _ => rfl) ?_
  refine fx_pI aj_d237 rfl (Nat.le_succ _) rfl rfl (Or.inl rfl) fx_no_11_44 (by decide) ?_
  refine fx_qX (fun X3 eX3 => ?_)
  show fx_W _ _ _ 10 lv1 [] _ _
  refine fx_i2 aj_d237 rfl (Nat.le_succ _) (fun _ => rfl) hlv1_0 ?_
  refine fx_n (pc' := 12) (lv' := lv1) (st' := [.int (Int32.ofInt 0), .ref 117]) aj_d237 rfl (Nat.le_succ _) (fun _ => rfl) ?_
  refine fx_pI aj_d237 rfl (Nat.le_succ _) rfl rfl (Or.inl rfl) fx_no_11_41 (by decide) ?_
  refine fx_qX (fun X4 eX4 => ?_)
  show fx_W _ _ _ 15 lv1 [] _ _
  refine fx_n (pc' := 16) (lv' := lv1) (st' := [.int (Int32.ofInt 0)]) aj_d237 rfl (Nat.le_succ _) (fun _ => rfl) ?_
  refine fx_s0 (j := 1) aj_d237 rfl (Nat.le_succ _) (by decide) (fun _ => rfl) ?_
  obtain ⟨lv5, elv5⟩ : ∃ l, l = aj_set1 lv1 1 (.int (Int32.ofInt 0)) := ⟨_, rfl⟩
  rw [← elv5]
  have hlv5_0 : aj_lv lv5 0 = some (.ref 117) := fx_e1 elv5 hlv1_0 (by decide) (Or.inr rfl)
  have hlv5_1 : aj_lv lv5 1 = some (.int (Int32.ofInt 0)) := by rw [elv5]; exact ak_set1_eq _ _ _
  show fx_W _ _ _ 17 lv5 [] _ _
  refine fx_n (pc' := 18) (lv' := lv5) (st' := [.int (Int32.ofInt 1)]) aj_d237 rfl (Nat.le_succ _) (fun _ => rfl) ?_
  refine fx_s0 (j := 2) aj_d237 rfl (Nat.le_succ _) (by decide) (fun _ => rfl) ?_
  obtain ⟨lv6, elv6⟩ : ∃ l, l = aj_set1 lv5 2 (.int (Int32.ofInt 1)) := ⟨_, rfl⟩
  rw [← elv6]
  have hlv6_0 : aj_lv lv6 0 = some (.ref 117) := fx_e1 elv6 hlv5_0 (by decide) (Or.inl (by decide))
  have hlv6_1 : aj_lv lv6 1 = some (.int (Int32.ofInt 0)) := fx_e1 elv6 hlv5_1 (by decide) (Or.inr rfl)
  have hlv6_2 : aj_lv lv6 2 = some (.int (Int32.ofInt 1)) := by rw [elv6]; exact ak_set1_eq _ _ _
  show fx_W _ _ _ 19 lv6 [] _ _
  exact ((gxL_237 N).1) lv6 ((Int32.ofInt 0)) ((Int32.ofInt 1)) X4  hlv6_0 hlv6_1 hlv6_2
def gxT_247_2 (p1 : Int32) (p2 : Int32) (P : Nat → List Int32 → List Int64 → List Nat → fx_X → Int32 → fx_X → Prop) (y3 : Int32) (X : fx_X) (v : Int32) (X' : fx_X) : Prop :=
  (0 ≤ (p1).toInt ∧ (p1).toInt < ((2 : Nat) : Int)) ∧ (if (y3).toInt < ((X.1 127 (p1).toInt.toNat)).toInt then (∃ (w8 : Int32) (X7 : fx_X), gx_227 129 (((p1 * ((Int8.ofInt 20).toInt32)) + y3) * ((Int8.ofInt 32).toInt32)) p2 X w8 X7 ∧ (if (w8).toInt = 0 then (v = (Int32.ofInt 0) ∧ X' = X7) else (∃ x10 : Int32, x10 = y3 + Int32.ofInt 1 ∧ P 2 [x10] [] [] X7 v X'))) else (v = (Int32.ofInt 1) ∧ X' = X))
def gxE_247 (p1 : Int32) (p2 : Int32) (P : Nat → List Int32 → List Int64 → List Nat → fx_X → Int32 → fx_X → Prop) (X : fx_X) (v : Int32) (X' : fx_X) : Prop :=
  P 2 [(Int32.ofInt 0)] [] [] X v X'
noncomputable def gxF_247 (p1 : Int32) (p2 : Int32) (n : Nat) : Nat → List Int32 → List Int64 → List Nat → fx_X → Int32 → fx_X → Prop := Nat.rec (motive := fun _ => Nat → List Int32 → List Int64 → List Nat → fx_X → Int32 → fx_X → Prop) (fun _ _ _ _ _ _ _ => False) (fun _ P l is ls rs X v X' => (l = 2 ∧ ∃ (y3 : Int32), is = [y3] ∧ ls = [] ∧ rs = [] ∧ gxT_247_2 p1 p2 P y3 X v X')) n
theorem gxI_247_2 {p1 : Int32} {p2 : Int32} {n : Nat} {y3 : Int32} {X : fx_X} {v : Int32} {X' : fx_X} (h : gxT_247_2 p1 p2 (gxF_247 p1 p2 n) y3 X v X') : gxF_247 p1 p2 (n + 1) 2 [y3] [] [] X v X' := ⟨rfl, y3, rfl, rfl, rfl, h⟩
theorem gxO_247_2 {p1 : Int32} {p2 : Int32} {n : Nat} {y3 : Int32} {X : fx_X} {v : Int32} {X' : fx_X} (h : gxF_247 p1 p2 (n + 1) 2 [y3] [] [] X v X') : gxT_247_2 p1 p2 (gxF_247 p1 p2 n) y3 X v X' := by
  rcases h with ⟨-, _, e1, e2, e3, h⟩
  · cases e1; cases e2; cases e3; exact h
def gx_247 (p1 : Int32) (p2 : Int32) (X : fx_X) (v : Int32) (X' : fx_X) : Prop := ∃ n : Nat, gxE_247 p1 p2 (gxF_247 p1 p2 n) X v X'
theorem gxL_247 {tb : aj_T} (p1 : Int32) (p2 : Int32) : ∀ N : Nat, (∀ (lv : aj_V) (y3 : Int32) (X : fx_X), aj_lv lv 0 = some (.ref 117) → aj_lv lv 1 = some (.int p1) → aj_lv lv 2 = some (.int p2) → aj_lv lv 3 = some (.int y3) → fx_W tb aj_m247 N 2 lv [] X (fx_Q fx_qI (fun v X' => ∃ n : Nat, gxF_247 p1 p2 n 2 [y3] [] [] X v X'))) := by
  intro N
  induction N with
  | zero => exact (by intros; exact fx_z)
  | succ N ih =>
    skip
    · intro lv y3 X hlv_0 hlv_1 hlv_2 hlv_3
      refine fx_mono (Q := fx_Q fx_qI (fun v X' => ∃ n : Nat, gxT_247_2 p1 p2 (gxF_247 p1 p2 n) y3 X v X')) (fun r X' ⟨v, e, n, z⟩ => ⟨v, e, n + 1, gxI_247_2 z⟩) ?_
      unfold gxT_247_2
      refine fx_i0 aj_d247 rfl (Nat.le_refl _) (fun _ => rfl) hlv_3 ?_
      refine fx_i2 aj_d247 rfl (Nat.le_succ _) (fun _ => rfl) hlv_0 ?_
      refine fx_gF aj_d247 rfl (Nat.le_succ _) rfl rfl fx_in_11_10 (t := 127) rfl (fun hA3 => ?_)
      refine fx_i0 aj_d247 rfl (Nat.le_succ _) (fun _ => rfl) hlv_1 ?_
      refine fx_ld aj_d247 (Or.inl rfl) rfl (Nat.le_succ _) (fun g40 g41 => ?_)
      show fx_W _ _ _ 9 lv [.int (X.1 127 (p1).toInt.toNat), .int y3] _ _
      refine fx_qa (c := 0 ≤ (p1).toInt ∧ (p1).toInt < ((2 : Nat) : Int)) ⟨g40, fx_lnk g41 hA3⟩ ?_
      refine fx_b (tgt := 40) aj_d247 rfl (Nat.le_succ _) rfl (fun q5 => ?_) (fun q5 => ?_)
      · skip
        refine fx_qe (c := (y3).toInt < ((X.1 127 (p1).toInt.toNat)).toInt) (fx_t_ge q5) ?_
        show fx_W _ _ _ 40 lv [] _ _
        refine fx_n (pc' := 41) (lv' := lv) (st' := [.int (Int32.ofInt 1)]) aj_d247 rfl (Nat.le_succ _) (fun _ => rfl) ?_
        exact fx_ri aj_d247 rfl ⟨_, rfl, 0, rfl, rfl⟩
      · skip
        refine fx_qi (c := (y3).toInt < ((X.1 127 (p1).toInt.toNat)).toInt) (fx_f_ge q5) ?_
        show fx_W _ _ _ 12 lv [] _ _
        refine fx_i2 aj_d247 rfl (Nat.le_succ _) (fun _ => rfl) hlv_0 ?_
        refine fx_gF aj_d247 rfl (Nat.le_succ _) rfl rfl fx_in_11_12 (t := 129) rfl (fun hA6 => ?_)
        refine fx_i0 aj_d247 rfl (Nat.le_succ _) (fun _ => rfl) hlv_1 ?_
        refine fx_n (pc' := 19) (lv' := lv) (st' := [.int ((Int8.ofInt 20).toInt32), .int p1, .ref 129]) aj_d247 rfl (Nat.le_succ _) (fun _ => rfl) ?_
        refine fx_n (pc' := 20) (lv' := lv) (st' := [.int (p1 * ((Int8.ofInt 20).toInt32)), .ref 129]) aj_d247 rfl (Nat.le_succ _) (fun _ => rfl) ?_
        refine fx_i0 aj_d247 rfl (Nat.le_succ _) (fun _ => rfl) hlv_3 ?_
        refine fx_n (pc' := 22) (lv' := lv) (st' := [.int ((p1 * ((Int8.ofInt 20).toInt32)) + y3), .ref 129]) aj_d247 rfl (Nat.le_succ _) (fun _ => rfl) ?_
        refine fx_n (pc' := 24) (lv' := lv) (st' := [.int ((Int8.ofInt 32).toInt32), .int ((p1 * ((Int8.ofInt 20).toInt32)) + y3), .ref 129]) aj_d247 rfl (Nat.le_succ _) (fun _ => rfl) ?_
        refine fx_n (pc' := 25) (lv' := lv) (st' := [.int (((p1 * ((Int8.ofInt 20).toInt32)) + y3) * ((Int8.ofInt 32).toInt32)), .ref 129]) aj_d247 rfl (Nat.le_succ _) (fun _ => rfl) ?_
        refine fx_i0 aj_d247 rfl (Nat.le_succ _) (fun _ => rfl) hlv_2 ?_
        refine fx_cs aj_d247 rfl (Nat.le_succ _) rfl rfl [_, _, _] rfl rfl (gx_227_ok 129 (((p1 * ((Int8.ofInt 20).toInt32)) + y3) * ((Int8.ofInt 32).toInt32)) p2) ?_
        rintro _ X7 ⟨w8, rfl, hR7⟩ hok7 hle7
        refine fx_qc hR7 ?_
        show fx_W _ _ _ 29 lv [.int w8] _ _
        refine fx_b0 (tgt := 34) aj_d247 rfl (Nat.le_succ _) rfl (fun q9 => ?_) (fun q9 => ?_)
        · skip
          refine fx_qe (c := (w8).toInt = 0) (fx_t_ne q9) ?_
          show fx_W _ _ _ 34 lv [] _ _
          refine fx_incq aj_d247 rfl (Nat.le_succ _) hlv_3 (by decide) (fun x10 ex10 => ?_)
          obtain ⟨lv11, elv11⟩ : ∃ l, l = aj_set1 lv 3 (.int x10) := ⟨_, rfl⟩
          rw [← elv11]
          have hlv11_0 : aj_lv lv11 0 = some (.ref 117) := fx_e1 elv11 hlv_0 (by decide) (Or.inl (by decide))
          have hlv11_1 : aj_lv lv11 1 = some (.int p1) := fx_e1 elv11 hlv_1 (by decide) (Or.inl (by decide))
          have hlv11_2 : aj_lv lv11 2 = some (.int p2) := fx_e1 elv11 hlv_2 (by decide) (Or.inr rfl)
          have hlv11_3 : aj_lv lv11 3 = some (.int x10) := by rw [elv11]; exact ak_set1_eq _ _ _
          show fx_W _ _ _ 37 lv11 [] _ _
          refine fx_n (pc' := 2) (lv' := lv11) (st' := []) aj_d247 rfl (Nat.le_succ _) (fun _ => rfl) ?_
          exact (ih) lv11 (x10) X7  hlv11_0 hlv11_1 hlv11_2 hlv11_3
        · skip
          refine fx_qi (c := (w8).toInt = 0) (fx_f_ne q9) ?_
          show fx_W _ _ _ 32 lv [] _ _
          refine fx_n (pc' := 33) (lv' := lv) (st' := [.int (Int32.ofInt 0)]) aj_d247 rfl (Nat.le_succ _) (fun _ => rfl) ?_
          exact fx_ri aj_d247 rfl ⟨_, rfl, 0, rfl, rfl⟩
theorem gx_247_ok {tb : aj_T} (p1 : Int32) (p2 : Int32) {X : fx_X} : fx_K tb 247 [.ref 117, .int p1, .int p2] X (fx_Q fx_qI (fun v X' => gx_247 p1 p2 X v X')) := by
  refine fx_m aj_m247_at rfl (fun N => ?_)
  refine fx_mono (Q := fx_Q fx_qI (fun v X' => ∃ n : Nat, gxE_247 p1 p2 (gxF_247 p1 p2 n) X v X')) (fun r X' h => h) ?_
  unfold gxE_247
  show fx_W _ _ _ 0 [(0, .ref 117), (1, .int p1), (2, .int p2)] [] _ _
  obtain ⟨lv1, elv1⟩ : ∃ l : aj_V, l = [(0, .ref 117), (1, .int p1), (2, .int p2)] := ⟨_, rfl⟩
  rw [← elv1]
  have hlv1_0 : aj_lv lv1 0 = some (.ref 117) := by rw [elv1]; rfl
  have hlv1_1 : aj_lv lv1 1 = some (.int p1) := by rw [elv1]; rfl
  have hlv1_2 : aj_lv lv1 2 = some (.int p2) := by rw [elv1]; rfl
  refine fx_n (pc' := 1) (lv' := lv1) (st' := [.int (Int32.ofInt 0)]) aj_d247 rfl (Nat.le_succ _) (fun _ => rfl) ?_
  refine fx_s0 (j := 3) aj_d247 rfl (Nat.le_succ _) (by decide) (fun _ => rfl) ?_
  obtain ⟨lv2, elv2⟩ : ∃ l, l = aj_set1 lv1 3 (.int (Int32.ofInt 0)) := ⟨_, rfl⟩
  rw [← elv2]
  have hlv2_0 : aj_lv lv2 0 = some (.ref 117) := fx_e1 elv2 hlv1_0 (by decide) (Or.inl (by decide))
  have hlv2_1 : aj_lv lv2 1 = some (.int p1) := fx_e1 elv2 hlv1_1 (by decide) (Or.inl (by decide))
  have hlv2_2 : aj_lv lv2 2 = some (.int p2) := fx_e1 elv2 hlv1_2 (by decide) (Or.inr rfl)
  have hlv2_3 : aj_lv lv2 3 = some (.int (Int32.ofInt 0)) := by rw [elv2]; exact ak_set1_eq _ _ _
  show fx_W _ _ _ 2 lv2 [] _ _
  exact ((gxL_247 p1 p2 N)) lv2 ((Int32.ofInt 0)) X  hlv2_0 hlv2_1 hlv2_2 hlv2_3
def gxT_246_91 (P : Nat → List Int32 → List Int64 → List Nat → fx_X → Int32 → fx_X → Prop) (y1 : Int32) (y2 : Int32) (y3 : Int32) (y4 : Int32) (X : fx_X) (v : Int32) (X' : fx_X) : Prop :=
  (0 ≤ ((X.1 117 37)).toInt ∧ ((X.1 117 37)).toInt < ((2 : Nat) : Int)) ∧ (if (y4).toInt < ((X.1 122 ((X.1 117 37)).toInt.toNat)).toInt then (∃ (w35 : Int32) (X34 : fx_X), gx_227 137 (Int32.ofInt 0) y4 X w35 X34 ∧ ∃ (w37 : Unit) (X36 : fx_X), gx_228 129 y2 y4 w35 X34 w37 X36 ∧ ∃ x38 : Int32, x38 = y4 + Int32.ofInt 1 ∧ P 91 [y1, y2, y3, x38] [] [] X36 v X') else ((0 ≤ ((X.1 117 37)).toInt ∧ ((X.1 117 37)).toInt < ((2 : Nat) : Int)) ∧ (0 ≤ ((X.1 117 37)).toInt ∧ ((X.1 117 37)).toInt < ((2 : Nat) : Int)) ∧ ∃ X30 : fx_X, X30 = (fx_wI X 127 ((X.1 117 37)).toInt.toNat ((X.1 127 ((X.1 117 37)).toInt.toNat) + (Int32.ofInt 1))) ∧ P 147 [y1, y3, (Int32.ofInt 0)] [] [] X30 v X'))
def gxT_246_147 (P : Nat → List Int32 → List Int64 → List Nat → fx_X → Int32 → fx_X → Prop) (y1 : Int32) (y3 : Int32) (y4 : Int32) (X : fx_X) (v : Int32) (X' : fx_X) : Prop :=
  (0 ≤ ((X.1 117 37)).toInt ∧ ((X.1 117 37)).toInt < ((2 : Nat) : Int)) ∧ (if (y4).toInt < ((X.1 122 ((X.1 117 37)).toInt.toNat)).toInt then ((if (y3).toInt = 0 then (∃ (w52 : Int32) (X51 : fx_X), gx_247 (X.1 117 37) y4 X w52 X51 ∧ (if (w52).toInt = 0 then (∃ x55 : Int32, x55 = y4 + Int32.ofInt 1 ∧ P 147 [y1, (Int32.ofInt 0), x55] [] [] X51 v X') else (∃ x58 : Int32, x58 = y4 + Int32.ofInt 1 ∧ P 147 [y1, (Int32.ofInt 1), x58] [] [] X51 v X'))) else (∃ x49 : Int32, x49 = y4 + Int32.ofInt 1 ∧ P 147 [y1, (Int32.ofInt 1), x49] [] [] X v X'))) else ((if (y3).toInt = 0 then (∃ (w45 : Int32) (X44 : fx_X), gx_215 ((Int8.ofInt 7).toInt32) y1 X w45 X44 ∧ (if (w45).toInt = 0 then (v = (Int32.ofInt 0) ∧ X' = X44) else (v = (Int32.ofInt 1) ∧ X' = X44))) else (v = (Int32.ofInt 1) ∧ X' = X))))
def gxE_246 (P : Nat → List Int32 → List Int64 → List Nat → fx_X → Int32 → fx_X → Prop) (X : fx_X) (v : Int32) (X' : fx_X) : Prop :=
  ∃ x2 : Int32, x2 = (X.1 117 27) ∧ (if ((X.1 117 45)).toInt = 12 then (∃ (w23 : Int32) (X22 : fx_X), gx_215 (Int32.ofInt 2) x2 X w23 X22 ∧ v = w23 ∧ X' = X22) else (∃ X5 : fx_X, X5 = (fx_wI X 117 45 ((X.1 117 45) + (Int32.ofInt 1))) ∧ ∃ (w7 : Int32) (X6 : fx_X), gx_214 X5 w7 X6 ∧ (if (w7).toInt = 0 then (v = (Int32.ofInt 0) ∧ X' = X6) else (∃ (w10 : Int32) (X9 : fx_X), gx_237 X6 w10 X9 ∧ (if (w10).toInt = 0 then (v = (Int32.ofInt 0) ∧ X' = X9) else (∃ (w13 : Int32) (X12 : fx_X), gx_219 ((Int8.ofInt 59).toInt32) X9 w13 X12 ∧ (if (w13).toInt = 0 then (v = (Int32.ofInt 0) ∧ X' = X12) else ((if ((X12.1 117 32)).toInt = 0 then (v = (Int32.ofInt 1) ∧ X' = X12) else ((0 ≤ ((X12.1 117 37)).toInt ∧ ((X12.1 117 37)).toInt < ((2 : Nat) : Int)) ∧ ∃ x18 : Int32, x18 = ((((X12.1 117 37) * ((Int8.ofInt 20).toInt32)) + (X12.1 127 ((X12.1 117 37)).toInt.toNat)) * ((Int8.ofInt 32).toInt32)) ∧ P 91 [x2, x18, (Int32.ofInt 0), (Int32.ofInt 0)] [] [] X12 v X'))))))))))
noncomputable def gxF_246 (n : Nat) : Nat → List Int32 → List Int64 → List Nat → fx_X → Int32 → fx_X → Prop := Nat.rec (motive := fun _ => Nat → List Int32 → List Int64 → List Nat → fx_X → Int32 → fx_X → Prop) (fun _ _ _ _ _ _ _ => False) (fun _ P l is ls rs X v X' => (l = 91 ∧ ∃ (y1 : Int32) (y2 : Int32) (y3 : Int32) (y4 : Int32), is = [y1, y2, y3, y4] ∧ ls = [] ∧ rs = [] ∧ gxT_246_91 P y1 y2 y3 y4 X v X') ∨ (l = 147 ∧ ∃ (y1 : Int32) (y3 : Int32) (y4 : Int32), is = [y1, y3, y4] ∧ ls = [] ∧ rs = [] ∧ gxT_246_147 P y1 y3 y4 X v X')) n
theorem gxI_246_91 {n : Nat} {y1 : Int32} {y2 : Int32} {y3 : Int32} {y4 : Int32} {X : fx_X} {v : Int32} {X' : fx_X} (h : gxT_246_91 (gxF_246 n) y1 y2 y3 y4 X v X') : gxF_246 (n + 1) 91 [y1, y2, y3, y4] [] [] X v X' := Or.inl ⟨rfl, y1, y2, y3, y4, rfl, rfl, rfl, h⟩
theorem gxO_246_91 {n : Nat} {y1 : Int32} {y2 : Int32} {y3 : Int32} {y4 : Int32} {X : fx_X} {v : Int32} {X' : fx_X} (h : gxF_246 (n + 1) 91 [y1, y2, y3, y4] [] [] X v X') : gxT_246_91 (gxF_246 n) y1 y2 y3 y4 X v X' := by
  rcases h with ⟨-, _, _, _, _, e1, e2, e3, h⟩ | ⟨e, -⟩
  · cases e1; cases e2; cases e3; exact h
  · exact absurd e (by decide)
theorem gxI_246_147 {n : Nat} {y1 : Int32} {y3 : Int32} {y4 : Int32} {X : fx_X} {v : Int32} {X' : fx_X} (h : gxT_246_147 (gxF_246 n) y1 y3 y4 X v X') : gxF_246 (n + 1) 147 [y1, y3, y4] [] [] X v X' := Or.inr (⟨rfl, y1, y3, y4, rfl, rfl, rfl, h⟩)
theorem gxO_246_147 {n : Nat} {y1 : Int32} {y3 : Int32} {y4 : Int32} {X : fx_X} {v : Int32} {X' : fx_X} (h : gxF_246 (n + 1) 147 [y1, y3, y4] [] [] X v X') : gxT_246_147 (gxF_246 n) y1 y3 y4 X v X' := by
  rcases h with ⟨e, -⟩ | ⟨-, _, _, _, e1, e2, e3, h⟩
  · exact absurd e (by decide)
  · cases e1; cases e2; cases e3; exact h
def gx_246 (X : fx_X) (v : Int32) (X' : fx_X) : Prop := ∃ n : Nat, gxE_246 (gxF_246 n) X v X'
theorem gxL_246 {tb : aj_T} : ∀ N : Nat, (∀ (lv : aj_V) (y1 : Int32) (y2 : Int32) (y3 : Int32) (y4 : Int32) (X : fx_X), aj_lv lv 0 = some (.ref 117) → aj_lv lv 1 = some (.int y1) → aj_lv lv 2 = some (.int y2) → aj_lv lv 3 = some (.int y3) → aj_lv lv 4 = some (.int y4) → fx_W tb aj_m246 N 91 lv [] X (fx_Q fx_qI (fun v X' => ∃ n : Nat, gxF_246 n 91 [y1, y2, y3, y4] [] [] X v X'))) ∧ (∀ (lv : aj_V) (y1 : Int32) (y3 : Int32) (y4 : Int32) (X : fx_X), aj_lv lv 0 = some (.ref 117) → aj_lv lv 1 = some (.int y1) → aj_lv lv 3 = some (.int y3) → aj_lv lv 4 = some (.int y4) → fx_W tb aj_m246 N 147 lv [] X (fx_Q fx_qI (fun v X' => ∃ n : Nat, gxF_246 n 147 [y1, y3, y4] [] [] X v X'))) := by
  intro N
  induction N with
  | zero => exact ⟨(by intros; exact fx_z), (by intros; exact fx_z)⟩
  | succ N ih =>
    refine ⟨?_, ?_⟩
    · intro lv y1 y2 y3 y4 X hlv_0 hlv_1 hlv_2 hlv_3 hlv_4
      refine fx_mono (Q := fx_Q fx_qI (fun v X' => ∃ n : Nat, gxT_246_91 (gxF_246 n) y1 y2 y3 y4 X v X')) (fun r X' ⟨v, e, n, z⟩ => ⟨v, e, n + 1, gxI_246_91 z⟩) ?_
      unfold gxT_246_91
      refine fx_i0 aj_d246 rfl (Nat.le_refl _) (fun _ => rfl) hlv_4 ?_
      refine fx_i2 aj_d246 rfl (Nat.le_succ _) (fun _ => rfl) hlv_0 ?_
      refine fx_gF aj_d246 rfl (Nat.le_succ _) rfl rfl fx_in_11_5 (t := 122) rfl (fun hA24 => ?_)
      refine fx_i2 aj_d246 rfl (Nat.le_succ _) (fun _ => rfl) hlv_0 ?_
      refine fx_gI aj_d246 rfl (Nat.le_succ _) rfl rfl (Or.inl rfl) ?_
      refine fx_ld aj_d246 (Or.inl rfl) rfl (Nat.le_succ _) (fun g250 g251 => ?_)
      show fx_W _ _ _ 102 lv [.int (X.1 122 ((X.1 117 37)).toInt.toNat), .int y4] _ _
      refine fx_qa (c := 0 ≤ ((X.1 117 37)).toInt ∧ ((X.1 117 37)).toInt < ((2 : Nat) : Int)) ⟨g250, fx_lnk g251 hA24⟩ ?_
      refine fx_b (tgt := 131) aj_d246 rfl (Nat.le_succ _) rfl (fun q26 => ?_) (fun q26 => ?_)
      · skip
        refine fx_qe (c := (y4).toInt < ((X.1 122 ((X.1 117 37)).toInt.toNat)).toInt) (fx_t_ge q26) ?_
        show fx_W _ _ _ 131 lv [] _ _
        refine fx_i2 aj_d246 rfl (Nat.le_succ _) (fun _ => rfl) hlv_0 ?_
        refine fx_gF aj_d246 rfl (Nat.le_succ _) rfl rfl fx_in_11_10 (t := 127) rfl (fun hA27 => ?_)
        refine fx_i2 aj_d246 rfl (Nat.le_succ _) (fun _ => rfl) hlv_0 ?_
        refine fx_gI aj_d246 rfl (Nat.le_succ _) rfl rfl (Or.inl rfl) ?_
        refine fx_n (pc' := 140) (lv' := lv) (st' := [.int (X.1 117 37), .ref 127, .int (X.1 117 37), .ref 127]) aj_d246 rfl (Nat.le_succ _) (fun _ => rfl) ?_
        refine fx_ld aj_d246 (Or.inl rfl) rfl (Nat.le_succ _) (fun g280 g281 => ?_)
        show fx_W _ _ _ 141 lv [.int (X.1 127 ((X.1 117 37)).toInt.toNat), .int (X.1 117 37), .ref 127] _ _
        refine fx_qa (c := 0 ≤ ((X.1 117 37)).toInt ∧ ((X.1 117 37)).toInt < ((2 : Nat) : Int)) ⟨g280, fx_lnk g281 hA27⟩ ?_
        refine fx_n (pc' := 142) (lv' := lv) (st' := [.int (Int32.ofInt 1), .int (X.1 127 ((X.1 117 37)).toInt.toNat), .int (X.1 117 37), .ref 127]) aj_d246 rfl (Nat.le_succ _) (fun _ => rfl) ?_
        refine fx_n (pc' := 143) (lv' := lv) (st' := [.int ((X.1 127 ((X.1 117 37)).toInt.toNat) + (Int32.ofInt 1)), .int (X.1 117 37), .ref 127]) aj_d246 rfl (Nat.le_succ _) (fun _ => rfl) ?_
        refine fx_st aj_d246 (Or.inl ⟨rfl, rfl⟩) rfl (Nat.le_succ _) (fun g290 g291 => ?_)
        show fx_W _ _ _ _ _ _ (fx_wI X 127 ((X.1 117 37)).toInt.toNat ((X.1 127 ((X.1 117 37)).toInt.toNat) + (Int32.ofInt 1))) _
        refine fx_qa (c := 0 ≤ ((X.1 117 37)).toInt ∧ ((X.1 117 37)).toInt < ((2 : Nat) : Int)) ⟨g290, fx_lnk g291 hA27⟩ ?_
        refine fx_qX (fun X30 eX30 => ?_)
        show fx_W _ _ _ 144 lv [] _ _
        refine fx_n (pc' := 145) (lv' := lv) (st' := [.int (Int32.ofInt 0)]) aj_d246 rfl (Nat.le_succ _) (fun _ => rfl) ?_
        refine fx_s0 (j := 4) aj_d246 rfl (Nat.le_succ _) (by decide) (fun _ => rfl) ?_
        obtain ⟨lv31, elv31⟩ : ∃ l, l = aj_set1 lv 4 (.int (Int32.ofInt 0)) := ⟨_, rfl⟩
        rw [← elv31]
        have hlv31_0 : aj_lv lv31 0 = some (.ref 117) := fx_e1 elv31 hlv_0 (by decide) (Or.inl (by decide))
        have hlv31_1 : aj_lv lv31 1 = some (.int y1) := fx_e1 elv31 hlv_1 (by decide) (Or.inl (by decide))
        have hlv31_3 : aj_lv lv31 3 = some (.int y3) := fx_e1 elv31 hlv_3 (by decide) (Or.inr rfl)
        have hlv31_4 : aj_lv lv31 4 = some (.int (Int32.ofInt 0)) := by rw [elv31]; exact ak_set1_eq _ _ _
        show fx_W _ _ _ 147 lv31 [] _ _
        exact (ih.2) lv31 (y1) (y3) ((Int32.ofInt 0)) X30  hlv31_0 hlv31_1 hlv31_3 hlv31_4
      · skip
        refine fx_qi (c := (y4).toInt < ((X.1 122 ((X.1 117 37)).toInt.toNat)).toInt) (fx_f_ge q26) ?_
        show fx_W _ _ _ 105 lv [] _ _
        refine fx_i2 aj_d246 rfl (Nat.le_succ _) (fun _ => rfl) hlv_0 ?_
        refine fx_gF aj_d246 rfl (Nat.le_succ _) rfl rfl fx_in_11_12 (t := 129) rfl (fun hA32 => ?_)
        refine fx_i0 aj_d246 rfl (Nat.le_succ _) (fun _ => rfl) hlv_2 ?_
        refine fx_i0 aj_d246 rfl (Nat.le_succ _) (fun _ => rfl) hlv_4 ?_
        refine fx_i2 aj_d246 rfl (Nat.le_succ _) (fun _ => rfl) hlv_0 ?_
        refine fx_gF aj_d246 rfl (Nat.le_succ _) rfl rfl fx_in_11_21 (t := 137) rfl (fun hA33 => ?_)
        refine fx_n (pc' := 117) (lv' := lv) (st' := [.int (Int32.ofInt 0), .ref 137, .int y4, .int y2, .ref 129]) aj_d246 rfl (Nat.le_succ _) (fun _ => rfl) ?_
        refine fx_i0 aj_d246 rfl (Nat.le_succ _) (fun _ => rfl) hlv_4 ?_
        refine fx_cs aj_d246 rfl (Nat.le_succ _) rfl rfl [_, _, _] rfl rfl (gx_227_ok 137 (Int32.ofInt 0) y4) ?_
        rintro _ X34 ⟨w35, rfl, hR34⟩ hok34 hle34
        refine fx_qc hR34 ?_
        show fx_W _ _ _ 122 lv [.int w35, .int y4, .int y2, .ref 129] _ _
        refine fx_cs aj_d246 rfl (Nat.le_succ _) rfl rfl [_, _, _, _] rfl rfl (gx_228_ok 129 y2 y4 w35) ?_
        rintro _ X36 ⟨w37, rfl, hR36⟩ hok36 hle36
        refine fx_qc hR36 ?_
        show fx_W _ _ _ 125 lv [] _ _
        refine fx_incq aj_d246 rfl (Nat.le_succ _) hlv_4 (by decide) (fun x38 ex38 => ?_)
        obtain ⟨lv39, elv39⟩ : ∃ l, l = aj_set1 lv 4 (.int x38) := ⟨_, rfl⟩
        rw [← elv39]
        have hlv39_0 : aj_lv lv39 0 = some (.ref 117) := fx_e1 elv39 hlv_0 (by decide) (Or.inl (by decide))
        have hlv39_1 : aj_lv lv39 1 = some (.int y1) := fx_e1 elv39 hlv_1 (by decide) (Or.inl (by decide))
        have hlv39_2 : aj_lv lv39 2 = some (.int y2) := fx_e1 elv39 hlv_2 (by decide) (Or.inl (by decide))
        have hlv39_3 : aj_lv lv39 3 = some (.int y3) := fx_e1 elv39 hlv_3 (by decide) (Or.inr rfl)
        have hlv39_4 : aj_lv lv39 4 = some (.int x38) := by rw [elv39]; exact ak_set1_eq _ _ _
        show fx_W _ _ _ 128 lv39 [] _ _
        refine fx_n (pc' := 91) (lv' := lv39) (st' := []) aj_d246 rfl (Nat.le_succ _) (fun _ => rfl) ?_
        exact (ih.1) lv39 (y1) (y2) (y3) (x38) X36  hlv39_0 hlv39_1 hlv39_2 hlv39_3 hlv39_4
    · intro lv y1 y3 y4 X hlv_0 hlv_1 hlv_3 hlv_4
      refine fx_mono (Q := fx_Q fx_qI (fun v X' => ∃ n : Nat, gxT_246_147 (gxF_246 n) y1 y3 y4 X v X')) (fun r X' ⟨v, e, n, z⟩ => ⟨v, e, n + 1, gxI_246_147 z⟩) ?_
      unfold gxT_246_147
      refine fx_i0 aj_d246 rfl (Nat.le_refl _) (fun _ => rfl) hlv_4 ?_
      refine fx_i2 aj_d246 rfl (Nat.le_succ _) (fun _ => rfl) hlv_0 ?_
      refine fx_gF aj_d246 rfl (Nat.le_succ _) rfl rfl fx_in_11_5 (t := 122) rfl (fun hA40 => ?_)
      refine fx_i2 aj_d246 rfl (Nat.le_succ _) (fun _ => rfl) hlv_0 ?_
      refine fx_gI aj_d246 rfl (Nat.le_succ _) rfl rfl (Or.inl rfl) ?_
      refine fx_ld aj_d246 (Or.inl rfl) rfl (Nat.le_succ _) (fun g410 g411 => ?_)
      show fx_W _ _ _ 158 lv [.int (X.1 122 ((X.1 117 37)).toInt.toNat), .int y4] _ _
      refine fx_qa (c := 0 ≤ ((X.1 117 37)).toInt ∧ ((X.1 117 37)).toInt < ((2 : Nat) : Int)) ⟨g410, fx_lnk g411 hA40⟩ ?_
      refine fx_b (tgt := 190) aj_d246 rfl (Nat.le_succ _) rfl (fun q42 => ?_) (fun q42 => ?_)
      · skip
        refine fx_qe (c := (y4).toInt < ((X.1 122 ((X.1 117 37)).toInt.toNat)).toInt) (fx_t_ge q42) ?_
        show fx_W _ _ _ 190 lv [] _ _
        refine fx_i0 aj_d246 rfl (Nat.le_succ _) (fun _ => rfl) hlv_3 ?_
        refine fx_b0 (tgt := 204) aj_d246 rfl (Nat.le_succ _) rfl (fun q43 => ?_) (fun q43 => ?_)
        · skip
          refine fx_qe (c := (y3).toInt = 0) (fx_t_ne q43) ?_
          show fx_W _ _ _ 204 lv [] _ _
          refine fx_n (pc' := 205) (lv' := lv) (st' := [.int (Int32.ofInt 1)]) aj_d246 rfl (Nat.le_succ _) (fun _ => rfl) ?_
          refine fx_n (pc' := 209) (lv' := lv) (st' := [.int (Int32.ofInt 1)]) aj_d246 rfl (Nat.le_succ _) (fun _ => rfl) ?_
          exact fx_ri aj_d246 rfl ⟨_, rfl, 0, rfl, rfl⟩
        · skip
          refine fx_qi (c := (y3).toInt = 0) (fx_f_ne q43) ?_
          show fx_W _ _ _ 194 lv [] _ _
          refine fx_i2 aj_d246 rfl (Nat.le_succ _) (fun _ => rfl) hlv_0 ?_
          refine fx_n (pc' := 197) (lv' := lv) (st' := [.int ((Int8.ofInt 7).toInt32), .ref 117]) aj_d246 rfl (Nat.le_succ _) (fun _ => rfl) ?_
          refine fx_i0 aj_d246 rfl (Nat.le_succ _) (fun _ => rfl) hlv_1 ?_
          refine fx_cv aj_d246 rfl (Nat.le_succ _) rfl [_, _] rfl rfl (gx_215_ok ((Int8.ofInt 7).toInt32) y1) ?_
          rintro _ X44 ⟨w45, rfl, hR44⟩ hok44 hle44
          refine fx_qc hR44 ?_
          show fx_W _ _ _ 201 lv [.int w45] _ _
          refine fx_b0 (tgt := 208) aj_d246 rfl (Nat.le_succ _) rfl (fun q46 => ?_) (fun q46 => ?_)
          · skip
            refine fx_qi (c := (w45).toInt = 0) (fx_t_eq q46) ?_
            show fx_W _ _ _ 208 lv [] _ _
            refine fx_n (pc' := 209) (lv' := lv) (st' := [.int (Int32.ofInt 0)]) aj_d246 rfl (Nat.le_succ _) (fun _ => rfl) ?_
            exact fx_ri aj_d246 rfl ⟨_, rfl, 0, rfl, rfl⟩
          · skip
            refine fx_qe (c := (w45).toInt = 0) (fx_f_eq q46) ?_
            show fx_W _ _ _ 204 lv [] _ _
            refine fx_n (pc' := 205) (lv' := lv) (st' := [.int (Int32.ofInt 1)]) aj_d246 rfl (Nat.le_succ _) (fun _ => rfl) ?_
            refine fx_n (pc' := 209) (lv' := lv) (st' := [.int (Int32.ofInt 1)]) aj_d246 rfl (Nat.le_succ _) (fun _ => rfl) ?_
            exact fx_ri aj_d246 rfl ⟨_, rfl, 0, rfl, rfl⟩
      · skip
        refine fx_qi (c := (y4).toInt < ((X.1 122 ((X.1 117 37)).toInt.toNat)).toInt) (fx_f_ge q42) ?_
        show fx_W _ _ _ 161 lv [] _ _
        refine fx_i0 aj_d246 rfl (Nat.le_succ _) (fun _ => rfl) hlv_3 ?_
        refine fx_b0 (tgt := 178) aj_d246 rfl (Nat.le_succ _) rfl (fun q47 => ?_) (fun q47 => ?_)
        · skip
          refine fx_qe (c := (y3).toInt = 0) (fx_t_ne q47) ?_
          show fx_W _ _ _ 178 lv [] _ _
          refine fx_n (pc' := 179) (lv' := lv) (st' := [.int (Int32.ofInt 1)]) aj_d246 rfl (Nat.le_succ _) (fun _ => rfl) ?_
          refine fx_n (pc' := 183) (lv' := lv) (st' := [.int (Int32.ofInt 1)]) aj_d246 rfl (Nat.le_succ _) (fun _ => rfl) ?_
          refine fx_s0 (j := 3) aj_d246 rfl (Nat.le_succ _) (by decide) (fun _ => rfl) ?_
          obtain ⟨lv48, elv48⟩ : ∃ l, l = aj_set1 lv 3 (.int (Int32.ofInt 1)) := ⟨_, rfl⟩
          rw [← elv48]
          have hlv48_0 : aj_lv lv48 0 = some (.ref 117) := fx_e1 elv48 hlv_0 (by decide) (Or.inl (by decide))
          have hlv48_1 : aj_lv lv48 1 = some (.int y1) := fx_e1 elv48 hlv_1 (by decide) (Or.inl (by decide))
          have hlv48_4 : aj_lv lv48 4 = some (.int y4) := fx_e1 elv48 hlv_4 (by decide) (Or.inl (by decide))
          have hlv48_3 : aj_lv lv48 3 = some (.int (Int32.ofInt 1)) := by rw [elv48]; exact ak_set1_eq _ _ _
          show fx_W _ _ _ 184 lv48 [] _ _
          refine fx_incq aj_d246 rfl (Nat.le_succ _) hlv48_4 (by decide) (fun x49 ex49 => ?_)
          obtain ⟨lv50, elv50⟩ : ∃ l, l = aj_set1 lv48 4 (.int x49) := ⟨_, rfl⟩
          rw [← elv50]
          have hlv50_0 : aj_lv lv50 0 = some (.ref 117) := fx_e1 elv50 hlv48_0 (by decide) (Or.inl (by decide))
          have hlv50_1 : aj_lv lv50 1 = some (.int y1) := fx_e1 elv50 hlv48_1 (by decide) (Or.inl (by decide))
          have hlv50_3 : aj_lv lv50 3 = some (.int (Int32.ofInt 1)) := fx_e1 elv50 hlv48_3 (by decide) (Or.inr rfl)
          have hlv50_4 : aj_lv lv50 4 = some (.int x49) := by rw [elv50]; exact ak_set1_eq _ _ _
          show fx_W _ _ _ 187 lv50 [] _ _
          refine fx_n (pc' := 147) (lv' := lv50) (st' := []) aj_d246 rfl (Nat.le_succ _) (fun _ => rfl) ?_
          exact (ih.2) lv50 (y1) ((Int32.ofInt 1)) (x49) X  hlv50_0 hlv50_1 hlv50_3 hlv50_4
        · skip
          refine fx_qi (c := (y3).toInt = 0) (fx_f_ne q47) ?_
          show fx_W _ _ _ 165 lv [] _ _
          refine fx_i2 aj_d246 rfl (Nat.le_succ _) (fun _ => rfl) hlv_0 ?_
          refine fx_i2 aj_d246 rfl (Nat.le_succ _) (fun _ => rfl) hlv_0 ?_
          refine fx_gI aj_d246 rfl (Nat.le_succ _) rfl rfl (Or.inl rfl) ?_
          refine fx_i0 aj_d246 rfl (Nat.le_succ _) (fun _ => rfl) hlv_4 ?_
          refine fx_cv aj_d246 rfl (Nat.le_succ _) rfl [_, _] rfl rfl (gx_247_ok (X.1 117 37) y4) ?_
          rintro _ X51 ⟨w52, rfl, hR51⟩ hok51 hle51
          refine fx_qc hR51 ?_
          show fx_W _ _ _ 175 lv [.int w52] _ _
          refine fx_b0 (tgt := 182) aj_d246 rfl (Nat.le_succ _) rfl (fun q53 => ?_) (fun q53 => ?_)
          · skip
            refine fx_qi (c := (w52).toInt = 0) (fx_t_eq q53) ?_
            show fx_W _ _ _ 182 lv [] _ _
            refine fx_n (pc' := 183) (lv' := lv) (st' := [.int (Int32.ofInt 0)]) aj_d246 rfl (Nat.le_succ _) (fun _ => rfl) ?_
            refine fx_s0 (j := 3) aj_d246 rfl (Nat.le_succ _) (by decide) (fun _ => rfl) ?_
            obtain ⟨lv54, elv54⟩ : ∃ l, l = aj_set1 lv 3 (.int (Int32.ofInt 0)) := ⟨_, rfl⟩
            rw [← elv54]
            have hlv54_0 : aj_lv lv54 0 = some (.ref 117) := fx_e1 elv54 hlv_0 (by decide) (Or.inl (by decide))
            have hlv54_1 : aj_lv lv54 1 = some (.int y1) := fx_e1 elv54 hlv_1 (by decide) (Or.inl (by decide))
            have hlv54_4 : aj_lv lv54 4 = some (.int y4) := fx_e1 elv54 hlv_4 (by decide) (Or.inl (by decide))
            have hlv54_3 : aj_lv lv54 3 = some (.int (Int32.ofInt 0)) := by rw [elv54]; exact ak_set1_eq _ _ _
            show fx_W _ _ _ 184 lv54 [] _ _
            refine fx_incq aj_d246 rfl (Nat.le_succ _) hlv54_4 (by decide) (fun x55 ex55 => ?_)
            obtain ⟨lv56, elv56⟩ : ∃ l, l = aj_set1 lv54 4 (.int x55) := ⟨_, rfl⟩
            rw [← elv56]
            have hlv56_0 : aj_lv lv56 0 = some (.ref 117) := fx_e1 elv56 hlv54_0 (by decide) (Or.inl (by decide))
            have hlv56_1 : aj_lv lv56 1 = some (.int y1) := fx_e1 elv56 hlv54_1 (by decide) (Or.inl (by decide))
            have hlv56_3 : aj_lv lv56 3 = some (.int (Int32.ofInt 0)) := fx_e1 elv56 hlv54_3 (by decide) (Or.inr rfl)
            have hlv56_4 : aj_lv lv56 4 = some (.int x55) := by rw [elv56]; exact ak_set1_eq _ _ _
            show fx_W _ _ _ 187 lv56 [] _ _
            refine fx_n (pc' := 147) (lv' := lv56) (st' := []) aj_d246 rfl (Nat.le_succ _) (fun _ => rfl) ?_
            exact (ih.2) lv56 (y1) ((Int32.ofInt 0)) (x55) X51  hlv56_0 hlv56_1 hlv56_3 hlv56_4
          · skip
            refine fx_qe (c := (w52).toInt = 0) (fx_f_eq q53) ?_
            show fx_W _ _ _ 178 lv [] _ _
            refine fx_n (pc' := 179) (lv' := lv) (st' := [.int (Int32.ofInt 1)]) aj_d246 rfl (Nat.le_succ _) (fun _ => rfl) ?_
            refine fx_n (pc' := 183) (lv' := lv) (st' := [.int (Int32.ofInt 1)]) aj_d246 rfl (Nat.le_succ _) (fun _ => rfl) ?_
            refine fx_s0 (j := 3) aj_d246 rfl (Nat.le_succ _) (by decide) (fun _ => rfl) ?_
            obtain ⟨lv57, elv57⟩ : ∃ l, l = aj_set1 lv 3 (.int (Int32.ofInt 1)) := ⟨_, rfl⟩
            rw [← elv57]
            have hlv57_0 : aj_lv lv57 0 = some (.ref 117) := fx_e1 elv57 hlv_0 (by decide) (Or.inl (by decide))
            have hlv57_1 : aj_lv lv57 1 = some (.int y1) := fx_e1 elv57 hlv_1 (by decide) (Or.inl (by decide))
            have hlv57_4 : aj_lv lv57 4 = some (.int y4) := fx_e1 elv57 hlv_4 (by decide) (Or.inl (by decide))
            have hlv57_3 : aj_lv lv57 3 = some (.int (Int32.ofInt 1)) := by rw [elv57]; exact ak_set1_eq _ _ _
            show fx_W _ _ _ 184 lv57 [] _ _
            refine fx_incq aj_d246 rfl (Nat.le_succ _) hlv57_4 (by decide) (fun x58 ex58 => ?_)
            obtain ⟨lv59, elv59⟩ : ∃ l, l = aj_set1 lv57 4 (.int x58) := ⟨_, rfl⟩
            rw [← elv59]
            have hlv59_0 : aj_lv lv59 0 = some (.ref 117) := fx_e1 elv59 hlv57_0 (by decide) (Or.inl (by decide))
            have hlv59_1 : aj_lv lv59 1 = some (.int y1) := fx_e1 elv59 hlv57_1 (by decide) (Or.inl (by decide))
            have hlv59_3 : aj_lv lv59 3 = some (.int (Int32.ofInt 1)) := fx_e1 elv59 hlv57_3 (by decide) (Or.inr rfl)
            have hlv59_4 : aj_lv lv59 4 = some (.int x58) := by rw [elv59]; exact ak_set1_eq _ _ _
            show fx_W _ _ _ 187 lv59 [] _ _
            refine fx_n (pc' := 147) (lv' := lv59) (st' := []) aj_d246 rfl (Nat.le_succ _) (fun _ => rfl) ?_
            exact (ih.2) lv59 (y1) ((Int32.ofInt 1)) (x58) X51  hlv59_0 hlv59_1 hlv59_3 hlv59_4
theorem gx_246_ok {tb : aj_T} {X : fx_X} : fx_K tb 246 [.ref 117] X (fx_Q fx_qI (fun v X' => gx_246 X v X')) := by
  refine fx_m aj_m246_at rfl (fun N => ?_)
  refine fx_mono (Q := fx_Q fx_qI (fun v X' => ∃ n : Nat, gxE_246 (gxF_246 n) X v X')) (fun r X' h => h) ?_
  unfold gxE_246
  show fx_W _ _ _ 0 [(0, .ref 117)] [] _ _
  obtain ⟨lv1, elv1⟩ : ∃ l : aj_V, l = [(0, .ref 117)] := ⟨_, rfl⟩
  rw [← elv1]
  have hlv1_0 : aj_lv lv1 0 = some (.ref 117) := by rw [elv1]; rfl
  refine fx_i2 aj_d246 rfl (Nat.le_succ _) (fun _ => rfl) hlv1_0 ?_
  refine fx_gI aj_d246 rfl (Nat.le_succ _) rfl rfl (Or.inl rfl) ?_
  refine fx_qxI (fun x2 ex2 => ?_)
  refine fx_s0 (j := 1) aj_d246 rfl (Nat.le_succ _) (by decide) (fun _ => rfl) ?_
  obtain ⟨lv3, elv3⟩ : ∃ l, l = aj_set1 lv1 1 (.int x2) := ⟨_, rfl⟩
  rw [← elv3]
  have hlv3_0 : aj_lv lv3 0 = some (.ref 117) := fx_e1 elv3 hlv1_0 (by decide) (Or.inr rfl)
  have hlv3_1 : aj_lv lv3 1 = some (.int x2) := by rw [elv3]; exact ak_set1_eq _ _ _
  show fx_W _ _ _ 5 lv3 [] _ _
  refine fx_i2 aj_d246 rfl (Nat.le_succ _) (fun _ => rfl) hlv3_0 ?_
  refine fx_gI aj_d246 rfl (Nat.le_succ _) rfl rfl (Or.inl rfl) ?_
  refine fx_n (pc' := 11) (lv' := lv3) (st' := [.int ((Int8.ofInt 12).toInt32), .int (X.1 117 45)]) aj_d246 rfl (Nat.le_succ _) (fun _ => rfl) ?_
  refine fx_b (tgt := 21) aj_d246 rfl (Nat.le_succ _) rfl (fun q4 => ?_) (fun q4 => ?_)
  · skip
    refine fx_qe (c := ((X.1 117 45)).toInt = 12) (fx_t_ne q4) ?_
    show fx_W _ _ _ 21 lv3 [] _ _
    refine fx_i2 aj_d246 rfl (Nat.le_succ _) (fun _ => rfl) hlv3_0 ?_
    refine fx_n (pc' := 23) (lv' := lv3) (st' := [.ref 117, .ref 117]) aj_d246 rfl (Nat.le_succ _) (fun _ => rfl) ?_
    refine fx_gI aj_d246 rfl (Nat.le_succ _) rfl rfl (Or.inl rfl) ?_
    refine fx_n (pc' := 27) (lv' := lv3) (st' := [.int (Int32.ofInt 1), .int (X.1 117 45), .ref 117]) aj_d246 rfl (Nat.le_succ _) (fun _ => rfl) ?_
    refine fx_n (pc' := 28) (lv' := lv3) (st' := [.int ((X.1 117 45) + (Int32.ofInt 1)), .ref 117]) aj_d246 rfl (Nat.le_succ _) (fun _ => rfl) ?_
    refine fx_pI aj_d246 rfl (Nat.le_succ _) rfl rfl (Or.inl rfl) fx_no_11_45 (by decide) ?_
    refine fx_qX (fun X5 eX5 => ?_)
    show fx_W _ _ _ 31 lv3 [] _ _
    refine fx_i2 aj_d246 rfl (Nat.le_succ _) (fun _ => rfl) hlv3_0 ?_
    refine fx_cv aj_d246 rfl (Nat.le_succ _) rfl [] rfl rfl (gx_214_ok) ?_
    rintro _ X6 ⟨w7, rfl, hR6⟩ hok6 hle6
    refine fx_qc hR6 ?_
    show fx_W _ _ _ 35 lv3 [.int w7] _ _
    refine fx_b0 (tgt := 54) aj_d246 rfl (Nat.le_succ _) rfl (fun q8 => ?_) (fun q8 => ?_)
    · skip
      refine fx_qi (c := (w7).toInt = 0) (fx_t_eq q8) ?_
      show fx_W _ _ _ 54 lv3 [] _ _
      refine fx_n (pc' := 55) (lv' := lv3) (st' := [.int (Int32.ofInt 0)]) aj_d246 rfl (Nat.le_succ _) (fun _ => rfl) ?_
      exact fx_ri aj_d246 rfl ⟨_, rfl, 0, rfl, rfl⟩
    · skip
      refine fx_qe (c := (w7).toInt = 0) (fx_f_eq q8) ?_
      show fx_W _ _ _ 38 lv3 [] _ _
      refine fx_i2 aj_d246 rfl (Nat.le_succ _) (fun _ => rfl) hlv3_0 ?_
      refine fx_cv aj_d246 rfl (Nat.le_succ _) rfl [] rfl rfl (gx_237_ok) ?_
      rintro _ X9 ⟨w10, rfl, hR9⟩ hok9 hle9
      refine fx_qc hR9 ?_
      show fx_W _ _ _ 42 lv3 [.int w10] _ _
      refine fx_b0 (tgt := 54) aj_d246 rfl (Nat.le_succ _) rfl (fun q11 => ?_) (fun q11 => ?_)
      · skip
        refine fx_qi (c := (w10).toInt = 0) (fx_t_eq q11) ?_
        show fx_W _ _ _ 54 lv3 [] _ _
        refine fx_n (pc' := 55) (lv' := lv3) (st' := [.int (Int32.ofInt 0)]) aj_d246 rfl (Nat.le_succ _) (fun _ => rfl) ?_
        exact fx_ri aj_d246 rfl ⟨_, rfl, 0, rfl, rfl⟩
      · skip
        refine fx_qe (c := (w10).toInt = 0) (fx_f_eq q11) ?_
        show fx_W _ _ _ 45 lv3 [] _ _
        refine fx_i2 aj_d246 rfl (Nat.le_succ _) (fun _ => rfl) hlv3_0 ?_
        refine fx_n (pc' := 48) (lv' := lv3) (st' := [.int ((Int8.ofInt 59).toInt32), .ref 117]) aj_d246 rfl (Nat.le_succ _) (fun _ => rfl) ?_
        refine fx_cv aj_d246 rfl (Nat.le_succ _) rfl [_] rfl rfl (gx_219_ok ((Int8.ofInt 59).toInt32)) ?_
        rintro _ X12 ⟨w13, rfl, hR12⟩ hok12 hle12
        refine fx_qc hR12 ?_
        show fx_W _ _ _ 51 lv3 [.int w13] _ _
        refine fx_b0 (tgt := 56) aj_d246 rfl (Nat.le_succ _) rfl (fun q14 => ?_) (fun q14 => ?_)
        · skip
          refine fx_qe (c := (w13).toInt = 0) (fx_t_ne q14) ?_
          show fx_W _ _ _ 56 lv3 [] _ _
          refine fx_i2 aj_d246 rfl (Nat.le_succ _) (fun _ => rfl) hlv3_0 ?_
          refine fx_gI aj_d246 rfl (Nat.le_succ _) rfl rfl (Or.inr (Or.inl rfl)) ?_
          refine fx_b0 (tgt := 65) aj_d246 rfl (Nat.le_succ _) rfl (fun q15 => ?_) (fun q15 => ?_)
          · skip
            refine fx_qe (c := ((X12.1 117 32)).toInt = 0) (fx_t_ne q15) ?_
            show fx_W _ _ _ 65 lv3 [] _ _
            refine fx_i2 aj_d246 rfl (Nat.le_succ _) (fun _ => rfl) hlv3_0 ?_
            refine fx_gI aj_d246 rfl (Nat.le_succ _) rfl rfl (Or.inl rfl) ?_
            refine fx_n (pc' := 71) (lv' := lv3) (st' := [.int ((Int8.ofInt 20).toInt32), .int (X12.1 117 37)]) aj_d246 rfl (Nat.le_succ _) (fun _ => rfl) ?_
            refine fx_n (pc' := 72) (lv' := lv3) (st' := [.int ((X12.1 117 37) * ((Int8.ofInt 20).toInt32))]) aj_d246 rfl (Nat.le_succ _) (fun _ => rfl) ?_
            refine fx_i2 aj_d246 rfl (Nat.le_succ _) (fun _ => rfl) hlv3_0 ?_
            refine fx_gF aj_d246 rfl (Nat.le_succ _) rfl rfl fx_in_11_10 (t := 127) rfl (fun hA16 => ?_)
            refine fx_i2 aj_d246 rfl (Nat.le_succ _) (fun _ => rfl) hlv3_0 ?_
            refine fx_gI aj_d246 rfl (Nat.le_succ _) rfl rfl (Or.inl rfl) ?_
            refine fx_ld aj_d246 (Or.inl rfl) rfl (Nat.le_succ _) (fun g170 g171 => ?_)
            show fx_W _ _ _ 81 lv3 [.int (X12.1 127 ((X12.1 117 37)).toInt.toNat), .int ((X12.1 117 37) * ((Int8.ofInt 20).toInt32))] _ _
            refine fx_qa (c := 0 ≤ ((X12.1 117 37)).toInt ∧ ((X12.1 117 37)).toInt < ((2 : Nat) : Int)) ⟨g170, fx_lnk g171 hA16⟩ ?_
            refine fx_n (pc' := 82) (lv' := lv3) (st' := [.int (((X12.1 117 37) * ((Int8.ofInt 20).toInt32)) + (X12.1 127 ((X12.1 117 37)).toInt.toNat))]) aj_d246 rfl (Nat.le_succ _) (fun _ => rfl) ?_
            refine fx_n (pc' := 84) (lv' := lv3) (st' := [.int ((Int8.ofInt 32).toInt32), .int (((X12.1 117 37) * ((Int8.ofInt 20).toInt32)) + (X12.1 127 ((X12.1 117 37)).toInt.toNat))]) aj_d246 rfl (Nat.le_succ _) (fun _ => rfl) ?_
            refine fx_n (pc' := 85) (lv' := lv3) (st' := [.int ((((X12.1 117 37) * ((Int8.ofInt 20).toInt32)) + (X12.1 127 ((X12.1 117 37)).toInt.toNat)) * ((Int8.ofInt 32).toInt32))]) aj_d246 rfl (Nat.le_succ _) (fun _ => rfl) ?_
            refine fx_qxI (fun x18 ex18 => ?_)
            refine fx_s0 (j := 2) aj_d246 rfl (Nat.le_succ _) (by decide) (fun _ => rfl) ?_
            obtain ⟨lv19, elv19⟩ : ∃ l, l = aj_set1 lv3 2 (.int x18) := ⟨_, rfl⟩
            rw [← elv19]
            have hlv19_0 : aj_lv lv19 0 = some (.ref 117) := fx_e1 elv19 hlv3_0 (by decide) (Or.inl (by decide))
            have hlv19_1 : aj_lv lv19 1 = some (.int x2) := fx_e1 elv19 hlv3_1 (by decide) (Or.inr rfl)
            have hlv19_2 : aj_lv lv19 2 = some (.int x18) := by rw [elv19]; exact ak_set1_eq _ _ _
            show fx_W _ _ _ 86 lv19 [] _ _
            refine fx_n (pc' := 87) (lv' := lv19) (st' := [.int (Int32.ofInt 0)]) aj_d246 rfl (Nat.le_succ _) (fun _ => rfl) ?_
            refine fx_s0 (j := 3) aj_d246 rfl (Nat.le_succ _) (by decide) (fun _ => rfl) ?_
            obtain ⟨lv20, elv20⟩ : ∃ l, l = aj_set1 lv19 3 (.int (Int32.ofInt 0)) := ⟨_, rfl⟩
            rw [← elv20]
            have hlv20_0 : aj_lv lv20 0 = some (.ref 117) := fx_e1 elv20 hlv19_0 (by decide) (Or.inl (by decide))
            have hlv20_1 : aj_lv lv20 1 = some (.int x2) := fx_e1 elv20 hlv19_1 (by decide) (Or.inl (by decide))
            have hlv20_2 : aj_lv lv20 2 = some (.int x18) := fx_e1 elv20 hlv19_2 (by decide) (Or.inr rfl)
            have hlv20_3 : aj_lv lv20 3 = some (.int (Int32.ofInt 0)) := by rw [elv20]; exact ak_set1_eq _ _ _
            show fx_W _ _ _ 88 lv20 [] _ _
            refine fx_n (pc' := 89) (lv' := lv20) (st' := [.int (Int32.ofInt 0)]) aj_d246 rfl (Nat.le_succ _) (fun _ => rfl) ?_
            refine fx_s0 (j := 4) aj_d246 rfl (Nat.le_succ _) (by decide) (fun _ => rfl) ?_
            obtain ⟨lv21, elv21⟩ : ∃ l, l = aj_set1 lv20 4 (.int (Int32.ofInt 0)) := ⟨_, rfl⟩
            rw [← elv21]
            have hlv21_0 : aj_lv lv21 0 = some (.ref 117) := fx_e1 elv21 hlv20_0 (by decide) (Or.inl (by decide))
            have hlv21_1 : aj_lv lv21 1 = some (.int x2) := fx_e1 elv21 hlv20_1 (by decide) (Or.inl (by decide))
            have hlv21_2 : aj_lv lv21 2 = some (.int x18) := fx_e1 elv21 hlv20_2 (by decide) (Or.inl (by decide))
            have hlv21_3 : aj_lv lv21 3 = some (.int (Int32.ofInt 0)) := fx_e1 elv21 hlv20_3 (by decide) (Or.inr rfl)
            have hlv21_4 : aj_lv lv21 4 = some (.int (Int32.ofInt 0)) := by rw [elv21]; exact ak_set1_eq _ _ _
            show fx_W _ _ _ 91 lv21 [] _ _
            exact ((gxL_246 N).1) lv21 (x2) (x18) ((Int32.ofInt 0)) ((Int32.ofInt 0)) X12  hlv21_0 hlv21_1 hlv21_2 hlv21_3 hlv21_4
          · skip
            refine fx_qi (c := ((X12.1 117 32)).toInt = 0) (fx_f_ne q15) ?_
            show fx_W _ _ _ 63 lv3 [] _ _
            refine fx_n (pc' := 64) (lv' := lv3) (st' := [.int (Int32.ofInt 1)]) aj_d246 rfl (Nat.le_succ _) (fun _ => rfl) ?_
            exact fx_ri aj_d246 rfl ⟨_, rfl, 0, rfl, rfl⟩
        · skip
          refine fx_qi (c := (w13).toInt = 0) (fx_f_ne q14) ?_
          show fx_W _ _ _ 54 lv3 [] _ _
          refine fx_n (pc' := 55) (lv' := lv3) (st' := [.int (Int32.ofInt 0)]) aj_d246 rfl (Nat.le_succ _) (fun _ => rfl) ?_
          exact fx_ri aj_d246 rfl ⟨_, rfl, 0, rfl, rfl⟩
  · skip
    refine fx_qi (c := ((X.1 117 45)).toInt = 12) (fx_f_ne q4) ?_
    show fx_W _ _ _ 14 lv3 [] _ _
    refine fx_i2 aj_d246 rfl (Nat.le_succ _) (fun _ => rfl) hlv3_0 ?_
    refine fx_n (pc' := 16) (lv' := lv3) (st' := [.int (Int32.ofInt 2), .ref 117]) aj_d246 rfl (Nat.le_succ _) (fun _ => rfl) ?_
    refine fx_i0 aj_d246 rfl (Nat.le_succ _) (fun _ => rfl) hlv3_1 ?_
    refine fx_cv aj_d246 rfl (Nat.le_succ _) rfl [_, _] rfl rfl (gx_215_ok (Int32.ofInt 2) x2) ?_
    rintro _ X22 ⟨w23, rfl, hR22⟩ hok22 hle22
    refine fx_qc hR22 ?_
    show fx_W _ _ _ 20 lv3 [.int w23] _ _
    exact fx_ri aj_d246 rfl ⟨_, rfl, 0, rfl, rfl⟩
