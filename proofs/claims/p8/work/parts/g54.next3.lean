/-! NEXT (printed by wip/p2/walk/g54.py) -/
def aw_tt : aj_S → Prop := fun _ => True
/-- S' is S but for the token -/
def aw_fr4 (S S' : aj_S) : Prop := S'.2 = S.2 ∧ ∀ k, k ≠ 26 → k ≠ 27 → k ≠ 28 → k ≠ 29 → S'.1 k = S.1 k
def aw_tok (S : aj_S) (kd : Int) (b e : Nat) (m : Int) : Prop := (S.1 26).toInt = kd ∧ (S.1 27).toInt = b ∧ (S.1 28).toInt = e ∧ (S.1 29).toInt = m
section AWNEXT3
variable {tb : aj_T} {s : List Nat} {h : aj_H} {S : aj_S} {d : Nat} {Q : Option Value → aj_S → Prop} {n : Nat}
theorem aw_It_f {G : aj_S → Prop} (hV : aw_V tb s h G) {k : Nat} {v : Int32} (hI : aw_I s h aw_tt S) (hk : k ∈ aj_mi) {lo hi : Int} (hf : aw_fa[k]? = some (.inl (lo, hi))) (hv : lo ≤ v.toInt ∧ v.toInt ≤ hi) : aw_I s h aw_tt (aw_wf S k v) := ⟨aw_T_f hV.2.1 hV.2.2.1 hV.1.1 hI.1 hk hf hv, trivial⟩
theorem aw_Vt {G : aj_S → Prop} (hV : aw_V tb s h G) : aw_V tb s h aw_tt := ⟨hV.1, hV.2.1, hV.2.2.1, ⟨fun _ _ _ _ _ => trivial, fun _ _ _ _ => trivial, fun _ _ _ _ _ _ => trivial, fun _ _ _ _ _ _ => trivial⟩⟩
theorem aw_nI {x : Int32} {a : Nat} (hx : x.toInt = a) (ha : a < 2147483648) : x = nI a := by
  apply Int32.toInt_inj.mp
  rw [hx]
  have h1 := nI_clamp (n := a) ha
  have h2 := nI_pos (n := a) ha
  have h3 : (nI a).toInt.toNat = a := h1
  have h4 : ¬ (nI a).toInt < 0 := by
    intro q
    have : (nI a) < 0 := Int32.lt_iff_toInt_lt.mpr q
    simp [h2] at this
  omega
theorem aw_packedK (hV : aw_V tb s h aw_tt) (hd : 1 ≤ d) {x y : Int32} {a b : Nat} (hx : x.toInt = a) (hy : y.toInt = b) (hab : a ≤ b) (hb : b ≤ 4000) : aw_K tb h d 210 [.ref 117, .int x, .int y] S (fun r S' => ∃ v : Int64, r = some (.long v) ∧ S' = S ∧ v = aj_packV (S.2.2.1 21) (b - a) a (Int64.ofNat 0)) := by
  obtain ⟨d, rfl⟩ : ∃ e, d = e + 1 := ⟨d - 1, by omega⟩
  have e1 := aw_nI hx (by omega)
  have e2 := aw_nI hy (by omega)
  subst e1
  subst e2
  have k := aj_packed_ok (S := S) hV.1.1 hV.1.2 d (a := a) (n := b - a) (by omega)
  rw [show a + (b - a) = b by omega] at k
  refine aw_mono ?_ (aw_of k)
  rintro r S' ⟨rfl, rfl⟩
  exact ⟨_, rfl, rfl, rfl⟩
theorem aw_nextN (hV : aw_V tb s h aw_tt) (hI : aw_I s h aw_tt S) {c dd x1 y : Int32} {e : Nat} (hy : y.toInt = e) (he : e ≤ 4000) (hk : ∀ kd : Int32, kd.toInt = aw_sgk c.toInt → Q none (aw_wf (aw_wf S 26 kd) 28 y)) : aw_W tb h d aj_m206 310 [(4, .int dd), (3, .int c), (2, .int y), (1, .int x1), (0, .ref 117)] [] S Q := by
  refine aw_n aj_d206 rfl rfl ?_
  refine aw_n aj_d206 rfl rfl ?_
  refine aw_c (tgt := 430) aj_d206 rfl rfl (fun q1 => ?_) (fun q1 => ?_)
  · have q1 : c.toInt = (40 : Int) := aw_t_eq (a := c.toInt) (b := (40 : Int)) rfl rfl q1
    refine aw_n aj_d206 rfl rfl ?_
    refine aw_n aj_d206 rfl rfl ?_
    refine aw_n aj_d206 rfl rfl ?_
    show aw_W _ _ _ _ 437 [(5, .int (Int32.ofInt 1)), (4, .int dd), (3, .int c), (2, .int y), (1, .int x1), (0, .ref 117)] [] _ _
    refine aw_n aj_d206 rfl rfl ?_
    refine aw_n aj_d206 rfl rfl ?_
    refine aw_z (tgt := 447) aj_d206 rfl rfl (fun q2 => ?_) (fun q2 => ?_)
    · have q2 : (1 : Int) = (0 : Int) := aw_t_eq (a := (1 : Int)) (b := (0 : Int)) rfl rfl q2
      exfalso
      omega
    · have q2 : (1 : Int) ≠ (0 : Int) := aw_t_eq (a := (1 : Int)) (b := (0 : Int)) rfl rfl q2
      refine aw_n aj_d206 rfl rfl ?_
      refine aw_n aj_d206 rfl rfl ?_
      refine aw_p hV.1 aj_d206 rfl rfl (by decide) rfl ?_
      have hI3 := aw_It_f hV (k := 26) (v := (Int32.ofInt 3)) hI (by decide) rfl (aw_bp (a := (3 : Int)) rfl (by omega) (by omega))
      refine aw_n aj_d206 rfl rfl ?_
      refine aw_n aj_d206 rfl rfl ?_
      refine aw_p hV.1 aj_d206 rfl rfl (by decide) rfl ?_
      have hI4 := aw_It_f hV (k := 28) (v := y) hI3 (by decide) rfl (aw_bp (a := (e : Int)) hy (by omega) (by omega))
      refine aw_e aj_d206 rfl rfl ?_
      refine hk _ ?_
      unfold aw_sgk
      rw [if_pos (by omega)]
      rfl
  · have q1 : c.toInt ≠ (40 : Int) := aw_t_eq (a := c.toInt) (b := (40 : Int)) rfl rfl q1
    refine aw_n aj_d206 rfl rfl ?_
    refine aw_n aj_d206 rfl rfl ?_
    refine aw_c (tgt := 430) aj_d206 rfl rfl (fun q5 => ?_) (fun q5 => ?_)
    · have q5 : c.toInt = (41 : Int) := aw_t_eq (a := c.toInt) (b := (41 : Int)) rfl rfl q5
      refine aw_n aj_d206 rfl rfl ?_
      refine aw_n aj_d206 rfl rfl ?_
      refine aw_n aj_d206 rfl rfl ?_
      show aw_W _ _ _ _ 437 [(5, .int (Int32.ofInt 1)), (4, .int dd), (3, .int c), (2, .int y), (1, .int x1), (0, .ref 117)] [] _ _
      refine aw_n aj_d206 rfl rfl ?_
      refine aw_n aj_d206 rfl rfl ?_
      refine aw_z (tgt := 447) aj_d206 rfl rfl (fun q6 => ?_) (fun q6 => ?_)
      · have q6 : (1 : Int) = (0 : Int) := aw_t_eq (a := (1 : Int)) (b := (0 : Int)) rfl rfl q6
        exfalso
        omega
      · have q6 : (1 : Int) ≠ (0 : Int) := aw_t_eq (a := (1 : Int)) (b := (0 : Int)) rfl rfl q6
        refine aw_n aj_d206 rfl rfl ?_
        refine aw_n aj_d206 rfl rfl ?_
        refine aw_p hV.1 aj_d206 rfl rfl (by decide) rfl ?_
        have hI7 := aw_It_f hV (k := 26) (v := (Int32.ofInt 3)) hI (by decide) rfl (aw_bp (a := (3 : Int)) rfl (by omega) (by omega))
        refine aw_n aj_d206 rfl rfl ?_
        refine aw_n aj_d206 rfl rfl ?_
        refine aw_p hV.1 aj_d206 rfl rfl (by decide) rfl ?_
        have hI8 := aw_It_f hV (k := 28) (v := y) hI7 (by decide) rfl (aw_bp (a := (e : Int)) hy (by omega) (by omega))
        refine aw_e aj_d206 rfl rfl ?_
        refine hk _ ?_
        unfold aw_sgk
        rw [if_pos (by omega)]
        rfl
    · have q5 : c.toInt ≠ (41 : Int) := aw_t_eq (a := c.toInt) (b := (41 : Int)) rfl rfl q5
      refine aw_n aj_d206 rfl rfl ?_
      refine aw_n aj_d206 rfl rfl ?_
      refine aw_c (tgt := 430) aj_d206 rfl rfl (fun q9 => ?_) (fun q9 => ?_)
      · have q9 : c.toInt = (91 : Int) := aw_t_eq (a := c.toInt) (b := (91 : Int)) rfl rfl q9
        refine aw_n aj_d206 rfl rfl ?_
        refine aw_n aj_d206 rfl rfl ?_
        refine aw_n aj_d206 rfl rfl ?_
        show aw_W _ _ _ _ 437 [(5, .int (Int32.ofInt 1)), (4, .int dd), (3, .int c), (2, .int y), (1, .int x1), (0, .ref 117)] [] _ _
        refine aw_n aj_d206 rfl rfl ?_
        refine aw_n aj_d206 rfl rfl ?_
        refine aw_z (tgt := 447) aj_d206 rfl rfl (fun q10 => ?_) (fun q10 => ?_)
        · have q10 : (1 : Int) = (0 : Int) := aw_t_eq (a := (1 : Int)) (b := (0 : Int)) rfl rfl q10
          exfalso
          omega
        · have q10 : (1 : Int) ≠ (0 : Int) := aw_t_eq (a := (1 : Int)) (b := (0 : Int)) rfl rfl q10
          refine aw_n aj_d206 rfl rfl ?_
          refine aw_n aj_d206 rfl rfl ?_
          refine aw_p hV.1 aj_d206 rfl rfl (by decide) rfl ?_
          have hI11 := aw_It_f hV (k := 26) (v := (Int32.ofInt 3)) hI (by decide) rfl (aw_bp (a := (3 : Int)) rfl (by omega) (by omega))
          refine aw_n aj_d206 rfl rfl ?_
          refine aw_n aj_d206 rfl rfl ?_
          refine aw_p hV.1 aj_d206 rfl rfl (by decide) rfl ?_
          have hI12 := aw_It_f hV (k := 28) (v := y) hI11 (by decide) rfl (aw_bp (a := (e : Int)) hy (by omega) (by omega))
          refine aw_e aj_d206 rfl rfl ?_
          refine hk _ ?_
          unfold aw_sgk
          rw [if_pos (by omega)]
          rfl
      · have q9 : c.toInt ≠ (91 : Int) := aw_t_eq (a := c.toInt) (b := (91 : Int)) rfl rfl q9
        refine aw_n aj_d206 rfl rfl ?_
        refine aw_n aj_d206 rfl rfl ?_
        refine aw_c (tgt := 430) aj_d206 rfl rfl (fun q13 => ?_) (fun q13 => ?_)
        · have q13 : c.toInt = (93 : Int) := aw_t_eq (a := c.toInt) (b := (93 : Int)) rfl rfl q13
          refine aw_n aj_d206 rfl rfl ?_
          refine aw_n aj_d206 rfl rfl ?_
          refine aw_n aj_d206 rfl rfl ?_
          show aw_W _ _ _ _ 437 [(5, .int (Int32.ofInt 1)), (4, .int dd), (3, .int c), (2, .int y), (1, .int x1), (0, .ref 117)] [] _ _
          refine aw_n aj_d206 rfl rfl ?_
          refine aw_n aj_d206 rfl rfl ?_
          refine aw_z (tgt := 447) aj_d206 rfl rfl (fun q14 => ?_) (fun q14 => ?_)
          · have q14 : (1 : Int) = (0 : Int) := aw_t_eq (a := (1 : Int)) (b := (0 : Int)) rfl rfl q14
            exfalso
            omega
          · have q14 : (1 : Int) ≠ (0 : Int) := aw_t_eq (a := (1 : Int)) (b := (0 : Int)) rfl rfl q14
            refine aw_n aj_d206 rfl rfl ?_
            refine aw_n aj_d206 rfl rfl ?_
            refine aw_p hV.1 aj_d206 rfl rfl (by decide) rfl ?_
            have hI15 := aw_It_f hV (k := 26) (v := (Int32.ofInt 3)) hI (by decide) rfl (aw_bp (a := (3 : Int)) rfl (by omega) (by omega))
            refine aw_n aj_d206 rfl rfl ?_
            refine aw_n aj_d206 rfl rfl ?_
            refine aw_p hV.1 aj_d206 rfl rfl (by decide) rfl ?_
            have hI16 := aw_It_f hV (k := 28) (v := y) hI15 (by decide) rfl (aw_bp (a := (e : Int)) hy (by omega) (by omega))
            refine aw_e aj_d206 rfl rfl ?_
            refine hk _ ?_
            unfold aw_sgk
            rw [if_pos (by omega)]
            rfl
        · have q13 : c.toInt ≠ (93 : Int) := aw_t_eq (a := c.toInt) (b := (93 : Int)) rfl rfl q13
          refine aw_n aj_d206 rfl rfl ?_
          refine aw_n aj_d206 rfl rfl ?_
          refine aw_c (tgt := 430) aj_d206 rfl rfl (fun q17 => ?_) (fun q17 => ?_)
          · have q17 : c.toInt = (123 : Int) := aw_t_eq (a := c.toInt) (b := (123 : Int)) rfl rfl q17
            refine aw_n aj_d206 rfl rfl ?_
            refine aw_n aj_d206 rfl rfl ?_
            refine aw_n aj_d206 rfl rfl ?_
            show aw_W _ _ _ _ 437 [(5, .int (Int32.ofInt 1)), (4, .int dd), (3, .int c), (2, .int y), (1, .int x1), (0, .ref 117)] [] _ _
            refine aw_n aj_d206 rfl rfl ?_
            refine aw_n aj_d206 rfl rfl ?_
            refine aw_z (tgt := 447) aj_d206 rfl rfl (fun q18 => ?_) (fun q18 => ?_)
            · have q18 : (1 : Int) = (0 : Int) := aw_t_eq (a := (1 : Int)) (b := (0 : Int)) rfl rfl q18
              exfalso
              omega
            · have q18 : (1 : Int) ≠ (0 : Int) := aw_t_eq (a := (1 : Int)) (b := (0 : Int)) rfl rfl q18
              refine aw_n aj_d206 rfl rfl ?_
              refine aw_n aj_d206 rfl rfl ?_
              refine aw_p hV.1 aj_d206 rfl rfl (by decide) rfl ?_
              have hI19 := aw_It_f hV (k := 26) (v := (Int32.ofInt 3)) hI (by decide) rfl (aw_bp (a := (3 : Int)) rfl (by omega) (by omega))
              refine aw_n aj_d206 rfl rfl ?_
              refine aw_n aj_d206 rfl rfl ?_
              refine aw_p hV.1 aj_d206 rfl rfl (by decide) rfl ?_
              have hI20 := aw_It_f hV (k := 28) (v := y) hI19 (by decide) rfl (aw_bp (a := (e : Int)) hy (by omega) (by omega))
              refine aw_e aj_d206 rfl rfl ?_
              refine hk _ ?_
              unfold aw_sgk
              rw [if_pos (by omega)]
              rfl
          · have q17 : c.toInt ≠ (123 : Int) := aw_t_eq (a := c.toInt) (b := (123 : Int)) rfl rfl q17
            refine aw_n aj_d206 rfl rfl ?_
            refine aw_n aj_d206 rfl rfl ?_
            refine aw_c (tgt := 430) aj_d206 rfl rfl (fun q21 => ?_) (fun q21 => ?_)
            · have q21 : c.toInt = (125 : Int) := aw_t_eq (a := c.toInt) (b := (125 : Int)) rfl rfl q21
              refine aw_n aj_d206 rfl rfl ?_
              refine aw_n aj_d206 rfl rfl ?_
              refine aw_n aj_d206 rfl rfl ?_
              show aw_W _ _ _ _ 437 [(5, .int (Int32.ofInt 1)), (4, .int dd), (3, .int c), (2, .int y), (1, .int x1), (0, .ref 117)] [] _ _
              refine aw_n aj_d206 rfl rfl ?_
              refine aw_n aj_d206 rfl rfl ?_
              refine aw_z (tgt := 447) aj_d206 rfl rfl (fun q22 => ?_) (fun q22 => ?_)
              · have q22 : (1 : Int) = (0 : Int) := aw_t_eq (a := (1 : Int)) (b := (0 : Int)) rfl rfl q22
                exfalso
                omega
              · have q22 : (1 : Int) ≠ (0 : Int) := aw_t_eq (a := (1 : Int)) (b := (0 : Int)) rfl rfl q22
                refine aw_n aj_d206 rfl rfl ?_
                refine aw_n aj_d206 rfl rfl ?_
                refine aw_p hV.1 aj_d206 rfl rfl (by decide) rfl ?_
                have hI23 := aw_It_f hV (k := 26) (v := (Int32.ofInt 3)) hI (by decide) rfl (aw_bp (a := (3 : Int)) rfl (by omega) (by omega))
                refine aw_n aj_d206 rfl rfl ?_
                refine aw_n aj_d206 rfl rfl ?_
                refine aw_p hV.1 aj_d206 rfl rfl (by decide) rfl ?_
                have hI24 := aw_It_f hV (k := 28) (v := y) hI23 (by decide) rfl (aw_bp (a := (e : Int)) hy (by omega) (by omega))
                refine aw_e aj_d206 rfl rfl ?_
                refine hk _ ?_
                unfold aw_sgk
                rw [if_pos (by omega)]
                rfl
            · have q21 : c.toInt ≠ (125 : Int) := aw_t_eq (a := c.toInt) (b := (125 : Int)) rfl rfl q21
              refine aw_n aj_d206 rfl rfl ?_
              refine aw_n aj_d206 rfl rfl ?_
              refine aw_c (tgt := 430) aj_d206 rfl rfl (fun q25 => ?_) (fun q25 => ?_)
              · have q25 : c.toInt = (44 : Int) := aw_t_eq (a := c.toInt) (b := (44 : Int)) rfl rfl q25
                refine aw_n aj_d206 rfl rfl ?_
                refine aw_n aj_d206 rfl rfl ?_
                refine aw_n aj_d206 rfl rfl ?_
                show aw_W _ _ _ _ 437 [(5, .int (Int32.ofInt 1)), (4, .int dd), (3, .int c), (2, .int y), (1, .int x1), (0, .ref 117)] [] _ _
                refine aw_n aj_d206 rfl rfl ?_
                refine aw_n aj_d206 rfl rfl ?_
                refine aw_z (tgt := 447) aj_d206 rfl rfl (fun q26 => ?_) (fun q26 => ?_)
                · have q26 : (1 : Int) = (0 : Int) := aw_t_eq (a := (1 : Int)) (b := (0 : Int)) rfl rfl q26
                  exfalso
                  omega
                · have q26 : (1 : Int) ≠ (0 : Int) := aw_t_eq (a := (1 : Int)) (b := (0 : Int)) rfl rfl q26
                  refine aw_n aj_d206 rfl rfl ?_
                  refine aw_n aj_d206 rfl rfl ?_
                  refine aw_p hV.1 aj_d206 rfl rfl (by decide) rfl ?_
                  have hI27 := aw_It_f hV (k := 26) (v := (Int32.ofInt 3)) hI (by decide) rfl (aw_bp (a := (3 : Int)) rfl (by omega) (by omega))
                  refine aw_n aj_d206 rfl rfl ?_
                  refine aw_n aj_d206 rfl rfl ?_
                  refine aw_p hV.1 aj_d206 rfl rfl (by decide) rfl ?_
                  have hI28 := aw_It_f hV (k := 28) (v := y) hI27 (by decide) rfl (aw_bp (a := (e : Int)) hy (by omega) (by omega))
                  refine aw_e aj_d206 rfl rfl ?_
                  refine hk _ ?_
                  unfold aw_sgk
                  rw [if_pos (by omega)]
                  rfl
              · have q25 : c.toInt ≠ (44 : Int) := aw_t_eq (a := c.toInt) (b := (44 : Int)) rfl rfl q25
                refine aw_n aj_d206 rfl rfl ?_
                refine aw_n aj_d206 rfl rfl ?_
                refine aw_c (tgt := 430) aj_d206 rfl rfl (fun q29 => ?_) (fun q29 => ?_)
                · have q29 : c.toInt = (59 : Int) := aw_t_eq (a := c.toInt) (b := (59 : Int)) rfl rfl q29
                  refine aw_n aj_d206 rfl rfl ?_
                  refine aw_n aj_d206 rfl rfl ?_
                  refine aw_n aj_d206 rfl rfl ?_
                  show aw_W _ _ _ _ 437 [(5, .int (Int32.ofInt 1)), (4, .int dd), (3, .int c), (2, .int y), (1, .int x1), (0, .ref 117)] [] _ _
                  refine aw_n aj_d206 rfl rfl ?_
                  refine aw_n aj_d206 rfl rfl ?_
                  refine aw_z (tgt := 447) aj_d206 rfl rfl (fun q30 => ?_) (fun q30 => ?_)
                  · have q30 : (1 : Int) = (0 : Int) := aw_t_eq (a := (1 : Int)) (b := (0 : Int)) rfl rfl q30
                    exfalso
                    omega
                  · have q30 : (1 : Int) ≠ (0 : Int) := aw_t_eq (a := (1 : Int)) (b := (0 : Int)) rfl rfl q30
                    refine aw_n aj_d206 rfl rfl ?_
                    refine aw_n aj_d206 rfl rfl ?_
                    refine aw_p hV.1 aj_d206 rfl rfl (by decide) rfl ?_
                    have hI31 := aw_It_f hV (k := 26) (v := (Int32.ofInt 3)) hI (by decide) rfl (aw_bp (a := (3 : Int)) rfl (by omega) (by omega))
                    refine aw_n aj_d206 rfl rfl ?_
                    refine aw_n aj_d206 rfl rfl ?_
                    refine aw_p hV.1 aj_d206 rfl rfl (by decide) rfl ?_
                    have hI32 := aw_It_f hV (k := 28) (v := y) hI31 (by decide) rfl (aw_bp (a := (e : Int)) hy (by omega) (by omega))
                    refine aw_e aj_d206 rfl rfl ?_
                    refine hk _ ?_
                    unfold aw_sgk
                    rw [if_pos (by omega)]
                    rfl
                · have q29 : c.toInt ≠ (59 : Int) := aw_t_eq (a := c.toInt) (b := (59 : Int)) rfl rfl q29
                  refine aw_n aj_d206 rfl rfl ?_
                  refine aw_n aj_d206 rfl rfl ?_
                  refine aw_c (tgt := 430) aj_d206 rfl rfl (fun q33 => ?_) (fun q33 => ?_)
                  · have q33 : c.toInt = (58 : Int) := aw_t_eq (a := c.toInt) (b := (58 : Int)) rfl rfl q33
                    refine aw_n aj_d206 rfl rfl ?_
                    refine aw_n aj_d206 rfl rfl ?_
                    refine aw_n aj_d206 rfl rfl ?_
                    show aw_W _ _ _ _ 437 [(5, .int (Int32.ofInt 1)), (4, .int dd), (3, .int c), (2, .int y), (1, .int x1), (0, .ref 117)] [] _ _
                    refine aw_n aj_d206 rfl rfl ?_
                    refine aw_n aj_d206 rfl rfl ?_
                    refine aw_z (tgt := 447) aj_d206 rfl rfl (fun q34 => ?_) (fun q34 => ?_)
                    · have q34 : (1 : Int) = (0 : Int) := aw_t_eq (a := (1 : Int)) (b := (0 : Int)) rfl rfl q34
                      exfalso
                      omega
                    · have q34 : (1 : Int) ≠ (0 : Int) := aw_t_eq (a := (1 : Int)) (b := (0 : Int)) rfl rfl q34
                      refine aw_n aj_d206 rfl rfl ?_
                      refine aw_n aj_d206 rfl rfl ?_
                      refine aw_p hV.1 aj_d206 rfl rfl (by decide) rfl ?_
                      have hI35 := aw_It_f hV (k := 26) (v := (Int32.ofInt 3)) hI (by decide) rfl (aw_bp (a := (3 : Int)) rfl (by omega) (by omega))
                      refine aw_n aj_d206 rfl rfl ?_
                      refine aw_n aj_d206 rfl rfl ?_
                      refine aw_p hV.1 aj_d206 rfl rfl (by decide) rfl ?_
                      have hI36 := aw_It_f hV (k := 28) (v := y) hI35 (by decide) rfl (aw_bp (a := (e : Int)) hy (by omega) (by omega))
                      refine aw_e aj_d206 rfl rfl ?_
                      refine hk _ ?_
                      unfold aw_sgk
                      rw [if_pos (by omega)]
                      rfl
                  · have q33 : c.toInt ≠ (58 : Int) := aw_t_eq (a := c.toInt) (b := (58 : Int)) rfl rfl q33
                    refine aw_n aj_d206 rfl rfl ?_
                    refine aw_n aj_d206 rfl rfl ?_
                    refine aw_c (tgt := 430) aj_d206 rfl rfl (fun q37 => ?_) (fun q37 => ?_)
                    · have q37 : c.toInt = (46 : Int) := aw_t_eq (a := c.toInt) (b := (46 : Int)) rfl rfl q37
                      refine aw_n aj_d206 rfl rfl ?_
                      refine aw_n aj_d206 rfl rfl ?_
                      refine aw_n aj_d206 rfl rfl ?_
                      show aw_W _ _ _ _ 437 [(5, .int (Int32.ofInt 1)), (4, .int dd), (3, .int c), (2, .int y), (1, .int x1), (0, .ref 117)] [] _ _
                      refine aw_n aj_d206 rfl rfl ?_
                      refine aw_n aj_d206 rfl rfl ?_
                      refine aw_z (tgt := 447) aj_d206 rfl rfl (fun q38 => ?_) (fun q38 => ?_)
                      · have q38 : (1 : Int) = (0 : Int) := aw_t_eq (a := (1 : Int)) (b := (0 : Int)) rfl rfl q38
                        exfalso
                        omega
                      · have q38 : (1 : Int) ≠ (0 : Int) := aw_t_eq (a := (1 : Int)) (b := (0 : Int)) rfl rfl q38
                        refine aw_n aj_d206 rfl rfl ?_
                        refine aw_n aj_d206 rfl rfl ?_
                        refine aw_p hV.1 aj_d206 rfl rfl (by decide) rfl ?_
                        have hI39 := aw_It_f hV (k := 26) (v := (Int32.ofInt 3)) hI (by decide) rfl (aw_bp (a := (3 : Int)) rfl (by omega) (by omega))
                        refine aw_n aj_d206 rfl rfl ?_
                        refine aw_n aj_d206 rfl rfl ?_
                        refine aw_p hV.1 aj_d206 rfl rfl (by decide) rfl ?_
                        have hI40 := aw_It_f hV (k := 28) (v := y) hI39 (by decide) rfl (aw_bp (a := (e : Int)) hy (by omega) (by omega))
                        refine aw_e aj_d206 rfl rfl ?_
                        refine hk _ ?_
                        unfold aw_sgk
                        rw [if_pos (by omega)]
                        rfl
                    · have q37 : c.toInt ≠ (46 : Int) := aw_t_eq (a := c.toInt) (b := (46 : Int)) rfl rfl q37
                      refine aw_n aj_d206 rfl rfl ?_
                      refine aw_n aj_d206 rfl rfl ?_
                      refine aw_c (tgt := 430) aj_d206 rfl rfl (fun q41 => ?_) (fun q41 => ?_)
                      · have q41 : c.toInt = (63 : Int) := aw_t_eq (a := c.toInt) (b := (63 : Int)) rfl rfl q41
                        refine aw_n aj_d206 rfl rfl ?_
                        refine aw_n aj_d206 rfl rfl ?_
                        refine aw_n aj_d206 rfl rfl ?_
                        show aw_W _ _ _ _ 437 [(5, .int (Int32.ofInt 1)), (4, .int dd), (3, .int c), (2, .int y), (1, .int x1), (0, .ref 117)] [] _ _
                        refine aw_n aj_d206 rfl rfl ?_
                        refine aw_n aj_d206 rfl rfl ?_
                        refine aw_z (tgt := 447) aj_d206 rfl rfl (fun q42 => ?_) (fun q42 => ?_)
                        · have q42 : (1 : Int) = (0 : Int) := aw_t_eq (a := (1 : Int)) (b := (0 : Int)) rfl rfl q42
                          exfalso
                          omega
                        · have q42 : (1 : Int) ≠ (0 : Int) := aw_t_eq (a := (1 : Int)) (b := (0 : Int)) rfl rfl q42
                          refine aw_n aj_d206 rfl rfl ?_
                          refine aw_n aj_d206 rfl rfl ?_
                          refine aw_p hV.1 aj_d206 rfl rfl (by decide) rfl ?_
                          have hI43 := aw_It_f hV (k := 26) (v := (Int32.ofInt 3)) hI (by decide) rfl (aw_bp (a := (3 : Int)) rfl (by omega) (by omega))
                          refine aw_n aj_d206 rfl rfl ?_
                          refine aw_n aj_d206 rfl rfl ?_
                          refine aw_p hV.1 aj_d206 rfl rfl (by decide) rfl ?_
                          have hI44 := aw_It_f hV (k := 28) (v := y) hI43 (by decide) rfl (aw_bp (a := (e : Int)) hy (by omega) (by omega))
                          refine aw_e aj_d206 rfl rfl ?_
                          refine hk _ ?_
                          unfold aw_sgk
                          rw [if_pos (by omega)]
                          rfl
                      · have q41 : c.toInt ≠ (63 : Int) := aw_t_eq (a := c.toInt) (b := (63 : Int)) rfl rfl q41
                        refine aw_n aj_d206 rfl rfl ?_
                        refine aw_n aj_d206 rfl rfl ?_
                        refine aw_c (tgt := 430) aj_d206 rfl rfl (fun q45 => ?_) (fun q45 => ?_)
                        · have q45 : c.toInt = (35 : Int) := aw_t_eq (a := c.toInt) (b := (35 : Int)) rfl rfl q45
                          refine aw_n aj_d206 rfl rfl ?_
                          refine aw_n aj_d206 rfl rfl ?_
                          refine aw_n aj_d206 rfl rfl ?_
                          show aw_W _ _ _ _ 437 [(5, .int (Int32.ofInt 1)), (4, .int dd), (3, .int c), (2, .int y), (1, .int x1), (0, .ref 117)] [] _ _
                          refine aw_n aj_d206 rfl rfl ?_
                          refine aw_n aj_d206 rfl rfl ?_
                          refine aw_z (tgt := 447) aj_d206 rfl rfl (fun q46 => ?_) (fun q46 => ?_)
                          · have q46 : (1 : Int) = (0 : Int) := aw_t_eq (a := (1 : Int)) (b := (0 : Int)) rfl rfl q46
                            exfalso
                            omega
                          · have q46 : (1 : Int) ≠ (0 : Int) := aw_t_eq (a := (1 : Int)) (b := (0 : Int)) rfl rfl q46
                            refine aw_n aj_d206 rfl rfl ?_
                            refine aw_n aj_d206 rfl rfl ?_
                            refine aw_p hV.1 aj_d206 rfl rfl (by decide) rfl ?_
                            have hI47 := aw_It_f hV (k := 26) (v := (Int32.ofInt 3)) hI (by decide) rfl (aw_bp (a := (3 : Int)) rfl (by omega) (by omega))
                            refine aw_n aj_d206 rfl rfl ?_
                            refine aw_n aj_d206 rfl rfl ?_
                            refine aw_p hV.1 aj_d206 rfl rfl (by decide) rfl ?_
                            have hI48 := aw_It_f hV (k := 28) (v := y) hI47 (by decide) rfl (aw_bp (a := (e : Int)) hy (by omega) (by omega))
                            refine aw_e aj_d206 rfl rfl ?_
                            refine hk _ ?_
                            unfold aw_sgk
                            rw [if_pos (by omega)]
                            rfl
                        · have q45 : c.toInt ≠ (35 : Int) := aw_t_eq (a := c.toInt) (b := (35 : Int)) rfl rfl q45
                          refine aw_n aj_d206 rfl rfl ?_
                          refine aw_n aj_d206 rfl rfl ?_
                          refine aw_c (tgt := 430) aj_d206 rfl rfl (fun q49 => ?_) (fun q49 => ?_)
                          · have q49 : c.toInt = (43 : Int) := aw_t_eq (a := c.toInt) (b := (43 : Int)) rfl rfl q49
                            refine aw_n aj_d206 rfl rfl ?_
                            refine aw_n aj_d206 rfl rfl ?_
                            refine aw_n aj_d206 rfl rfl ?_
                            show aw_W _ _ _ _ 437 [(5, .int (Int32.ofInt 1)), (4, .int dd), (3, .int c), (2, .int y), (1, .int x1), (0, .ref 117)] [] _ _
                            refine aw_n aj_d206 rfl rfl ?_
                            refine aw_n aj_d206 rfl rfl ?_
                            refine aw_z (tgt := 447) aj_d206 rfl rfl (fun q50 => ?_) (fun q50 => ?_)
                            · have q50 : (1 : Int) = (0 : Int) := aw_t_eq (a := (1 : Int)) (b := (0 : Int)) rfl rfl q50
                              exfalso
                              omega
                            · have q50 : (1 : Int) ≠ (0 : Int) := aw_t_eq (a := (1 : Int)) (b := (0 : Int)) rfl rfl q50
                              refine aw_n aj_d206 rfl rfl ?_
                              refine aw_n aj_d206 rfl rfl ?_
                              refine aw_p hV.1 aj_d206 rfl rfl (by decide) rfl ?_
                              have hI51 := aw_It_f hV (k := 26) (v := (Int32.ofInt 3)) hI (by decide) rfl (aw_bp (a := (3 : Int)) rfl (by omega) (by omega))
                              refine aw_n aj_d206 rfl rfl ?_
                              refine aw_n aj_d206 rfl rfl ?_
                              refine aw_p hV.1 aj_d206 rfl rfl (by decide) rfl ?_
                              have hI52 := aw_It_f hV (k := 28) (v := y) hI51 (by decide) rfl (aw_bp (a := (e : Int)) hy (by omega) (by omega))
                              refine aw_e aj_d206 rfl rfl ?_
                              refine hk _ ?_
                              unfold aw_sgk
                              rw [if_pos (by omega)]
                              rfl
                          · have q49 : c.toInt ≠ (43 : Int) := aw_t_eq (a := c.toInt) (b := (43 : Int)) rfl rfl q49
                            refine aw_n aj_d206 rfl rfl ?_
                            refine aw_n aj_d206 rfl rfl ?_
                            refine aw_c (tgt := 430) aj_d206 rfl rfl (fun q53 => ?_) (fun q53 => ?_)
                            · have q53 : c.toInt = (45 : Int) := aw_t_eq (a := c.toInt) (b := (45 : Int)) rfl rfl q53
                              refine aw_n aj_d206 rfl rfl ?_
                              refine aw_n aj_d206 rfl rfl ?_
                              refine aw_n aj_d206 rfl rfl ?_
                              show aw_W _ _ _ _ 437 [(5, .int (Int32.ofInt 1)), (4, .int dd), (3, .int c), (2, .int y), (1, .int x1), (0, .ref 117)] [] _ _
                              refine aw_n aj_d206 rfl rfl ?_
                              refine aw_n aj_d206 rfl rfl ?_
                              refine aw_z (tgt := 447) aj_d206 rfl rfl (fun q54 => ?_) (fun q54 => ?_)
                              · have q54 : (1 : Int) = (0 : Int) := aw_t_eq (a := (1 : Int)) (b := (0 : Int)) rfl rfl q54
                                exfalso
                                omega
                              · have q54 : (1 : Int) ≠ (0 : Int) := aw_t_eq (a := (1 : Int)) (b := (0 : Int)) rfl rfl q54
                                refine aw_n aj_d206 rfl rfl ?_
                                refine aw_n aj_d206 rfl rfl ?_
                                refine aw_p hV.1 aj_d206 rfl rfl (by decide) rfl ?_
                                have hI55 := aw_It_f hV (k := 26) (v := (Int32.ofInt 3)) hI (by decide) rfl (aw_bp (a := (3 : Int)) rfl (by omega) (by omega))
                                refine aw_n aj_d206 rfl rfl ?_
                                refine aw_n aj_d206 rfl rfl ?_
                                refine aw_p hV.1 aj_d206 rfl rfl (by decide) rfl ?_
                                have hI56 := aw_It_f hV (k := 28) (v := y) hI55 (by decide) rfl (aw_bp (a := (e : Int)) hy (by omega) (by omega))
                                refine aw_e aj_d206 rfl rfl ?_
                                refine hk _ ?_
                                unfold aw_sgk
                                rw [if_pos (by omega)]
                                rfl
                            · have q53 : c.toInt ≠ (45 : Int) := aw_t_eq (a := c.toInt) (b := (45 : Int)) rfl rfl q53
                              refine aw_n aj_d206 rfl rfl ?_
                              refine aw_n aj_d206 rfl rfl ?_
                              refine aw_c (tgt := 430) aj_d206 rfl rfl (fun q57 => ?_) (fun q57 => ?_)
                              · have q57 : c.toInt = (42 : Int) := aw_t_eq (a := c.toInt) (b := (42 : Int)) rfl rfl q57
                                refine aw_n aj_d206 rfl rfl ?_
                                refine aw_n aj_d206 rfl rfl ?_
                                refine aw_n aj_d206 rfl rfl ?_
                                show aw_W _ _ _ _ 437 [(5, .int (Int32.ofInt 1)), (4, .int dd), (3, .int c), (2, .int y), (1, .int x1), (0, .ref 117)] [] _ _
                                refine aw_n aj_d206 rfl rfl ?_
                                refine aw_n aj_d206 rfl rfl ?_
                                refine aw_z (tgt := 447) aj_d206 rfl rfl (fun q58 => ?_) (fun q58 => ?_)
                                · have q58 : (1 : Int) = (0 : Int) := aw_t_eq (a := (1 : Int)) (b := (0 : Int)) rfl rfl q58
                                  exfalso
                                  omega
                                · have q58 : (1 : Int) ≠ (0 : Int) := aw_t_eq (a := (1 : Int)) (b := (0 : Int)) rfl rfl q58
                                  refine aw_n aj_d206 rfl rfl ?_
                                  refine aw_n aj_d206 rfl rfl ?_
                                  refine aw_p hV.1 aj_d206 rfl rfl (by decide) rfl ?_
                                  have hI59 := aw_It_f hV (k := 26) (v := (Int32.ofInt 3)) hI (by decide) rfl (aw_bp (a := (3 : Int)) rfl (by omega) (by omega))
                                  refine aw_n aj_d206 rfl rfl ?_
                                  refine aw_n aj_d206 rfl rfl ?_
                                  refine aw_p hV.1 aj_d206 rfl rfl (by decide) rfl ?_
                                  have hI60 := aw_It_f hV (k := 28) (v := y) hI59 (by decide) rfl (aw_bp (a := (e : Int)) hy (by omega) (by omega))
                                  refine aw_e aj_d206 rfl rfl ?_
                                  refine hk _ ?_
                                  unfold aw_sgk
                                  rw [if_pos (by omega)]
                                  rfl
                              · have q57 : c.toInt ≠ (42 : Int) := aw_t_eq (a := c.toInt) (b := (42 : Int)) rfl rfl q57
                                refine aw_n aj_d206 rfl rfl ?_
                                refine aw_n aj_d206 rfl rfl ?_
                                refine aw_c (tgt := 430) aj_d206 rfl rfl (fun q61 => ?_) (fun q61 => ?_)
                                · have q61 : c.toInt = (61 : Int) := aw_t_eq (a := c.toInt) (b := (61 : Int)) rfl rfl q61
                                  refine aw_n aj_d206 rfl rfl ?_
                                  refine aw_n aj_d206 rfl rfl ?_
                                  refine aw_n aj_d206 rfl rfl ?_
                                  show aw_W _ _ _ _ 437 [(5, .int (Int32.ofInt 1)), (4, .int dd), (3, .int c), (2, .int y), (1, .int x1), (0, .ref 117)] [] _ _
                                  refine aw_n aj_d206 rfl rfl ?_
                                  refine aw_n aj_d206 rfl rfl ?_
                                  refine aw_z (tgt := 447) aj_d206 rfl rfl (fun q62 => ?_) (fun q62 => ?_)
                                  · have q62 : (1 : Int) = (0 : Int) := aw_t_eq (a := (1 : Int)) (b := (0 : Int)) rfl rfl q62
                                    exfalso
                                    omega
                                  · have q62 : (1 : Int) ≠ (0 : Int) := aw_t_eq (a := (1 : Int)) (b := (0 : Int)) rfl rfl q62
                                    refine aw_n aj_d206 rfl rfl ?_
                                    refine aw_n aj_d206 rfl rfl ?_
                                    refine aw_p hV.1 aj_d206 rfl rfl (by decide) rfl ?_
                                    have hI63 := aw_It_f hV (k := 26) (v := (Int32.ofInt 3)) hI (by decide) rfl (aw_bp (a := (3 : Int)) rfl (by omega) (by omega))
                                    refine aw_n aj_d206 rfl rfl ?_
                                    refine aw_n aj_d206 rfl rfl ?_
                                    refine aw_p hV.1 aj_d206 rfl rfl (by decide) rfl ?_
                                    have hI64 := aw_It_f hV (k := 28) (v := y) hI63 (by decide) rfl (aw_bp (a := (e : Int)) hy (by omega) (by omega))
                                    refine aw_e aj_d206 rfl rfl ?_
                                    refine hk _ ?_
                                    unfold aw_sgk
                                    rw [if_pos (by omega)]
                                    rfl
                                · have q61 : c.toInt ≠ (61 : Int) := aw_t_eq (a := c.toInt) (b := (61 : Int)) rfl rfl q61
                                  refine aw_n aj_d206 rfl rfl ?_
                                  refine aw_n aj_d206 rfl rfl ?_
                                  refine aw_c (tgt := 430) aj_d206 rfl rfl (fun q65 => ?_) (fun q65 => ?_)
                                  · have q65 : c.toInt = (33 : Int) := aw_t_eq (a := c.toInt) (b := (33 : Int)) rfl rfl q65
                                    refine aw_n aj_d206 rfl rfl ?_
                                    refine aw_n aj_d206 rfl rfl ?_
                                    refine aw_n aj_d206 rfl rfl ?_
                                    show aw_W _ _ _ _ 437 [(5, .int (Int32.ofInt 1)), (4, .int dd), (3, .int c), (2, .int y), (1, .int x1), (0, .ref 117)] [] _ _
                                    refine aw_n aj_d206 rfl rfl ?_
                                    refine aw_n aj_d206 rfl rfl ?_
                                    refine aw_z (tgt := 447) aj_d206 rfl rfl (fun q66 => ?_) (fun q66 => ?_)
                                    · have q66 : (1 : Int) = (0 : Int) := aw_t_eq (a := (1 : Int)) (b := (0 : Int)) rfl rfl q66
                                      exfalso
                                      omega
                                    · have q66 : (1 : Int) ≠ (0 : Int) := aw_t_eq (a := (1 : Int)) (b := (0 : Int)) rfl rfl q66
                                      refine aw_n aj_d206 rfl rfl ?_
                                      refine aw_n aj_d206 rfl rfl ?_
                                      refine aw_p hV.1 aj_d206 rfl rfl (by decide) rfl ?_
                                      have hI67 := aw_It_f hV (k := 26) (v := (Int32.ofInt 3)) hI (by decide) rfl (aw_bp (a := (3 : Int)) rfl (by omega) (by omega))
                                      refine aw_n aj_d206 rfl rfl ?_
                                      refine aw_n aj_d206 rfl rfl ?_
                                      refine aw_p hV.1 aj_d206 rfl rfl (by decide) rfl ?_
                                      have hI68 := aw_It_f hV (k := 28) (v := y) hI67 (by decide) rfl (aw_bp (a := (e : Int)) hy (by omega) (by omega))
                                      refine aw_e aj_d206 rfl rfl ?_
                                      refine hk _ ?_
                                      unfold aw_sgk
                                      rw [if_pos (by omega)]
                                      rfl
                                  · have q65 : c.toInt ≠ (33 : Int) := aw_t_eq (a := c.toInt) (b := (33 : Int)) rfl rfl q65
                                    refine aw_n aj_d206 rfl rfl ?_
                                    refine aw_n aj_d206 rfl rfl ?_
                                    refine aw_c (tgt := 430) aj_d206 rfl rfl (fun q69 => ?_) (fun q69 => ?_)
                                    · have q69 : c.toInt = (60 : Int) := aw_t_eq (a := c.toInt) (b := (60 : Int)) rfl rfl q69
                                      refine aw_n aj_d206 rfl rfl ?_
                                      refine aw_n aj_d206 rfl rfl ?_
                                      refine aw_n aj_d206 rfl rfl ?_
                                      show aw_W _ _ _ _ 437 [(5, .int (Int32.ofInt 1)), (4, .int dd), (3, .int c), (2, .int y), (1, .int x1), (0, .ref 117)] [] _ _
                                      refine aw_n aj_d206 rfl rfl ?_
                                      refine aw_n aj_d206 rfl rfl ?_
                                      refine aw_z (tgt := 447) aj_d206 rfl rfl (fun q70 => ?_) (fun q70 => ?_)
                                      · have q70 : (1 : Int) = (0 : Int) := aw_t_eq (a := (1 : Int)) (b := (0 : Int)) rfl rfl q70
                                        exfalso
                                        omega
                                      · have q70 : (1 : Int) ≠ (0 : Int) := aw_t_eq (a := (1 : Int)) (b := (0 : Int)) rfl rfl q70
                                        refine aw_n aj_d206 rfl rfl ?_
                                        refine aw_n aj_d206 rfl rfl ?_
                                        refine aw_p hV.1 aj_d206 rfl rfl (by decide) rfl ?_
                                        have hI71 := aw_It_f hV (k := 26) (v := (Int32.ofInt 3)) hI (by decide) rfl (aw_bp (a := (3 : Int)) rfl (by omega) (by omega))
                                        refine aw_n aj_d206 rfl rfl ?_
                                        refine aw_n aj_d206 rfl rfl ?_
                                        refine aw_p hV.1 aj_d206 rfl rfl (by decide) rfl ?_
                                        have hI72 := aw_It_f hV (k := 28) (v := y) hI71 (by decide) rfl (aw_bp (a := (e : Int)) hy (by omega) (by omega))
                                        refine aw_e aj_d206 rfl rfl ?_
                                        refine hk _ ?_
                                        unfold aw_sgk
                                        rw [if_pos (by omega)]
                                        rfl
                                    · have q69 : c.toInt ≠ (60 : Int) := aw_t_eq (a := c.toInt) (b := (60 : Int)) rfl rfl q69
                                      refine aw_n aj_d206 rfl rfl ?_
                                      refine aw_n aj_d206 rfl rfl ?_
                                      refine aw_c (tgt := 430) aj_d206 rfl rfl (fun q73 => ?_) (fun q73 => ?_)
                                      · have q73 : c.toInt = (38 : Int) := aw_t_eq (a := c.toInt) (b := (38 : Int)) rfl rfl q73
                                        refine aw_n aj_d206 rfl rfl ?_
                                        refine aw_n aj_d206 rfl rfl ?_
                                        refine aw_n aj_d206 rfl rfl ?_
                                        show aw_W _ _ _ _ 437 [(5, .int (Int32.ofInt 1)), (4, .int dd), (3, .int c), (2, .int y), (1, .int x1), (0, .ref 117)] [] _ _
                                        refine aw_n aj_d206 rfl rfl ?_
                                        refine aw_n aj_d206 rfl rfl ?_
                                        refine aw_z (tgt := 447) aj_d206 rfl rfl (fun q74 => ?_) (fun q74 => ?_)
                                        · have q74 : (1 : Int) = (0 : Int) := aw_t_eq (a := (1 : Int)) (b := (0 : Int)) rfl rfl q74
                                          exfalso
                                          omega
                                        · have q74 : (1 : Int) ≠ (0 : Int) := aw_t_eq (a := (1 : Int)) (b := (0 : Int)) rfl rfl q74
                                          refine aw_n aj_d206 rfl rfl ?_
                                          refine aw_n aj_d206 rfl rfl ?_
                                          refine aw_p hV.1 aj_d206 rfl rfl (by decide) rfl ?_
                                          have hI75 := aw_It_f hV (k := 26) (v := (Int32.ofInt 3)) hI (by decide) rfl (aw_bp (a := (3 : Int)) rfl (by omega) (by omega))
                                          refine aw_n aj_d206 rfl rfl ?_
                                          refine aw_n aj_d206 rfl rfl ?_
                                          refine aw_p hV.1 aj_d206 rfl rfl (by decide) rfl ?_
                                          have hI76 := aw_It_f hV (k := 28) (v := y) hI75 (by decide) rfl (aw_bp (a := (e : Int)) hy (by omega) (by omega))
                                          refine aw_e aj_d206 rfl rfl ?_
                                          refine hk _ ?_
                                          unfold aw_sgk
                                          rw [if_pos (by omega)]
                                          rfl
                                      · have q73 : c.toInt ≠ (38 : Int) := aw_t_eq (a := c.toInt) (b := (38 : Int)) rfl rfl q73
                                        refine aw_n aj_d206 rfl rfl ?_
                                        refine aw_n aj_d206 rfl rfl ?_
                                        refine aw_c (tgt := 434) aj_d206 rfl rfl (fun q77 => ?_) (fun q77 => ?_)
                                        · have q77 : c.toInt ≠ (124 : Int) := aw_t_ne (a := c.toInt) (b := (124 : Int)) rfl rfl q77
                                          refine aw_n aj_d206 rfl rfl ?_
                                          refine aw_n aj_d206 rfl rfl ?_
                                          show aw_W _ _ _ _ 437 [(5, .int (Int32.ofInt 0)), (4, .int dd), (3, .int c), (2, .int y), (1, .int x1), (0, .ref 117)] [] _ _
                                          refine aw_n aj_d206 rfl rfl ?_
                                          refine aw_n aj_d206 rfl rfl ?_
                                          refine aw_z (tgt := 447) aj_d206 rfl rfl (fun q78 => ?_) (fun q78 => ?_)
                                          · have q78 : (0 : Int) = (0 : Int) := aw_t_eq (a := (0 : Int)) (b := (0 : Int)) rfl rfl q78
                                            refine aw_n aj_d206 rfl rfl ?_
                                            refine aw_p hV.1 aj_d206 rfl rfl (by decide) rfl ?_
                                            have hI79 := aw_It_f hV (k := 26) (v := (Int32.ofInt 5)) hI (by decide) rfl (aw_bp (a := (5 : Int)) rfl (by omega) (by omega))
                                            refine aw_n aj_d206 rfl rfl ?_
                                            refine aw_n aj_d206 rfl rfl ?_
                                            refine aw_p hV.1 aj_d206 rfl rfl (by decide) rfl ?_
                                            have hI80 := aw_It_f hV (k := 28) (v := y) hI79 (by decide) rfl (aw_bp (a := (e : Int)) hy (by omega) (by omega))
                                            refine aw_e aj_d206 rfl rfl ?_
                                            refine hk _ ?_
                                            unfold aw_sgk
                                            rw [if_neg (by omega)]
                                            rfl
                                          · have q78 : (0 : Int) ≠ (0 : Int) := aw_t_eq (a := (0 : Int)) (b := (0 : Int)) rfl rfl q78
                                            exfalso
                                            omega
                                        · have q77 : c.toInt = (124 : Int) := aw_t_ne (a := c.toInt) (b := (124 : Int)) rfl rfl q77
                                          refine aw_n aj_d206 rfl rfl ?_
                                          refine aw_n aj_d206 rfl rfl ?_
                                          refine aw_n aj_d206 rfl rfl ?_
                                          show aw_W _ _ _ _ 437 [(5, .int (Int32.ofInt 1)), (4, .int dd), (3, .int c), (2, .int y), (1, .int x1), (0, .ref 117)] [] _ _
                                          refine aw_n aj_d206 rfl rfl ?_
                                          refine aw_n aj_d206 rfl rfl ?_
                                          refine aw_z (tgt := 447) aj_d206 rfl rfl (fun q81 => ?_) (fun q81 => ?_)
                                          · have q81 : (1 : Int) = (0 : Int) := aw_t_eq (a := (1 : Int)) (b := (0 : Int)) rfl rfl q81
                                            exfalso
                                            omega
                                          · have q81 : (1 : Int) ≠ (0 : Int) := aw_t_eq (a := (1 : Int)) (b := (0 : Int)) rfl rfl q81
                                            refine aw_n aj_d206 rfl rfl ?_
                                            refine aw_n aj_d206 rfl rfl ?_
                                            refine aw_p hV.1 aj_d206 rfl rfl (by decide) rfl ?_
                                            have hI82 := aw_It_f hV (k := 26) (v := (Int32.ofInt 3)) hI (by decide) rfl (aw_bp (a := (3 : Int)) rfl (by omega) (by omega))
                                            refine aw_n aj_d206 rfl rfl ?_
                                            refine aw_n aj_d206 rfl rfl ?_
                                            refine aw_p hV.1 aj_d206 rfl rfl (by decide) rfl ?_
                                            have hI83 := aw_It_f hV (k := 28) (v := y) hI82 (by decide) rfl (aw_bp (a := (e : Int)) hy (by omega) (by omega))
                                            refine aw_e aj_d206 rfl rfl ?_
                                            refine hk _ ?_
                                            unfold aw_sgk
                                            rw [if_pos (by omega)]
                                            rfl
theorem aw_nextM (hV : aw_V tb s h aw_tt) (hI : aw_I s h aw_tt S) {c dd x1 y : Int32} {e : Nat} (hy : y.toInt = e) (he : e ≤ 4000) (hk : ∀ kd : Int32, kd.toInt = aw_sgk c.toInt → Q none (aw_wf (aw_wf S 26 kd) 28 y)) : aw_W tb h d aj_m206 310 [(2, .int y), (4, .int dd), (3, .int c), (1, .int x1), (0, .ref 117)] [] S Q := by
  refine aw_n aj_d206 rfl rfl ?_
  refine aw_n aj_d206 rfl rfl ?_
  refine aw_c (tgt := 430) aj_d206 rfl rfl (fun q84 => ?_) (fun q84 => ?_)
  · have q84 : c.toInt = (40 : Int) := aw_t_eq (a := c.toInt) (b := (40 : Int)) rfl rfl q84
    refine aw_n aj_d206 rfl rfl ?_
    refine aw_n aj_d206 rfl rfl ?_
    refine aw_n aj_d206 rfl rfl ?_
    show aw_W _ _ _ _ 437 [(5, .int (Int32.ofInt 1)), (2, .int y), (4, .int dd), (3, .int c), (1, .int x1), (0, .ref 117)] [] _ _
    refine aw_n aj_d206 rfl rfl ?_
    refine aw_n aj_d206 rfl rfl ?_
    refine aw_z (tgt := 447) aj_d206 rfl rfl (fun q85 => ?_) (fun q85 => ?_)
    · have q85 : (1 : Int) = (0 : Int) := aw_t_eq (a := (1 : Int)) (b := (0 : Int)) rfl rfl q85
      exfalso
      omega
    · have q85 : (1 : Int) ≠ (0 : Int) := aw_t_eq (a := (1 : Int)) (b := (0 : Int)) rfl rfl q85
      refine aw_n aj_d206 rfl rfl ?_
      refine aw_n aj_d206 rfl rfl ?_
      refine aw_p hV.1 aj_d206 rfl rfl (by decide) rfl ?_
      have hI86 := aw_It_f hV (k := 26) (v := (Int32.ofInt 3)) hI (by decide) rfl (aw_bp (a := (3 : Int)) rfl (by omega) (by omega))
      refine aw_n aj_d206 rfl rfl ?_
      refine aw_n aj_d206 rfl rfl ?_
      refine aw_p hV.1 aj_d206 rfl rfl (by decide) rfl ?_
      have hI87 := aw_It_f hV (k := 28) (v := y) hI86 (by decide) rfl (aw_bp (a := (e : Int)) hy (by omega) (by omega))
      refine aw_e aj_d206 rfl rfl ?_
      refine hk _ ?_
      unfold aw_sgk
      rw [if_pos (by omega)]
      rfl
  · have q84 : c.toInt ≠ (40 : Int) := aw_t_eq (a := c.toInt) (b := (40 : Int)) rfl rfl q84
    refine aw_n aj_d206 rfl rfl ?_
    refine aw_n aj_d206 rfl rfl ?_
    refine aw_c (tgt := 430) aj_d206 rfl rfl (fun q88 => ?_) (fun q88 => ?_)
    · have q88 : c.toInt = (41 : Int) := aw_t_eq (a := c.toInt) (b := (41 : Int)) rfl rfl q88
      refine aw_n aj_d206 rfl rfl ?_
      refine aw_n aj_d206 rfl rfl ?_
      refine aw_n aj_d206 rfl rfl ?_
      show aw_W _ _ _ _ 437 [(5, .int (Int32.ofInt 1)), (2, .int y), (4, .int dd), (3, .int c), (1, .int x1), (0, .ref 117)] [] _ _
      refine aw_n aj_d206 rfl rfl ?_
      refine aw_n aj_d206 rfl rfl ?_
      refine aw_z (tgt := 447) aj_d206 rfl rfl (fun q89 => ?_) (fun q89 => ?_)
      · have q89 : (1 : Int) = (0 : Int) := aw_t_eq (a := (1 : Int)) (b := (0 : Int)) rfl rfl q89
        exfalso
        omega
      · have q89 : (1 : Int) ≠ (0 : Int) := aw_t_eq (a := (1 : Int)) (b := (0 : Int)) rfl rfl q89
        refine aw_n aj_d206 rfl rfl ?_
        refine aw_n aj_d206 rfl rfl ?_
        refine aw_p hV.1 aj_d206 rfl rfl (by decide) rfl ?_
        have hI90 := aw_It_f hV (k := 26) (v := (Int32.ofInt 3)) hI (by decide) rfl (aw_bp (a := (3 : Int)) rfl (by omega) (by omega))
        refine aw_n aj_d206 rfl rfl ?_
        refine aw_n aj_d206 rfl rfl ?_
        refine aw_p hV.1 aj_d206 rfl rfl (by decide) rfl ?_
        have hI91 := aw_It_f hV (k := 28) (v := y) hI90 (by decide) rfl (aw_bp (a := (e : Int)) hy (by omega) (by omega))
        refine aw_e aj_d206 rfl rfl ?_
        refine hk _ ?_
        unfold aw_sgk
        rw [if_pos (by omega)]
        rfl
    · have q88 : c.toInt ≠ (41 : Int) := aw_t_eq (a := c.toInt) (b := (41 : Int)) rfl rfl q88
      refine aw_n aj_d206 rfl rfl ?_
      refine aw_n aj_d206 rfl rfl ?_
      refine aw_c (tgt := 430) aj_d206 rfl rfl (fun q92 => ?_) (fun q92 => ?_)
      · have q92 : c.toInt = (91 : Int) := aw_t_eq (a := c.toInt) (b := (91 : Int)) rfl rfl q92
        refine aw_n aj_d206 rfl rfl ?_
        refine aw_n aj_d206 rfl rfl ?_
        refine aw_n aj_d206 rfl rfl ?_
        show aw_W _ _ _ _ 437 [(5, .int (Int32.ofInt 1)), (2, .int y), (4, .int dd), (3, .int c), (1, .int x1), (0, .ref 117)] [] _ _
        refine aw_n aj_d206 rfl rfl ?_
        refine aw_n aj_d206 rfl rfl ?_
        refine aw_z (tgt := 447) aj_d206 rfl rfl (fun q93 => ?_) (fun q93 => ?_)
        · have q93 : (1 : Int) = (0 : Int) := aw_t_eq (a := (1 : Int)) (b := (0 : Int)) rfl rfl q93
          exfalso
          omega
        · have q93 : (1 : Int) ≠ (0 : Int) := aw_t_eq (a := (1 : Int)) (b := (0 : Int)) rfl rfl q93
          refine aw_n aj_d206 rfl rfl ?_
          refine aw_n aj_d206 rfl rfl ?_
          refine aw_p hV.1 aj_d206 rfl rfl (by decide) rfl ?_
          have hI94 := aw_It_f hV (k := 26) (v := (Int32.ofInt 3)) hI (by decide) rfl (aw_bp (a := (3 : Int)) rfl (by omega) (by omega))
          refine aw_n aj_d206 rfl rfl ?_
          refine aw_n aj_d206 rfl rfl ?_
          refine aw_p hV.1 aj_d206 rfl rfl (by decide) rfl ?_
          have hI95 := aw_It_f hV (k := 28) (v := y) hI94 (by decide) rfl (aw_bp (a := (e : Int)) hy (by omega) (by omega))
          refine aw_e aj_d206 rfl rfl ?_
          refine hk _ ?_
          unfold aw_sgk
          rw [if_pos (by omega)]
          rfl
      · have q92 : c.toInt ≠ (91 : Int) := aw_t_eq (a := c.toInt) (b := (91 : Int)) rfl rfl q92
        refine aw_n aj_d206 rfl rfl ?_
        refine aw_n aj_d206 rfl rfl ?_
        refine aw_c (tgt := 430) aj_d206 rfl rfl (fun q96 => ?_) (fun q96 => ?_)
        · have q96 : c.toInt = (93 : Int) := aw_t_eq (a := c.toInt) (b := (93 : Int)) rfl rfl q96
          refine aw_n aj_d206 rfl rfl ?_
          refine aw_n aj_d206 rfl rfl ?_
          refine aw_n aj_d206 rfl rfl ?_
          show aw_W _ _ _ _ 437 [(5, .int (Int32.ofInt 1)), (2, .int y), (4, .int dd), (3, .int c), (1, .int x1), (0, .ref 117)] [] _ _
          refine aw_n aj_d206 rfl rfl ?_
          refine aw_n aj_d206 rfl rfl ?_
          refine aw_z (tgt := 447) aj_d206 rfl rfl (fun q97 => ?_) (fun q97 => ?_)
          · have q97 : (1 : Int) = (0 : Int) := aw_t_eq (a := (1 : Int)) (b := (0 : Int)) rfl rfl q97
            exfalso
            omega
          · have q97 : (1 : Int) ≠ (0 : Int) := aw_t_eq (a := (1 : Int)) (b := (0 : Int)) rfl rfl q97
            refine aw_n aj_d206 rfl rfl ?_
            refine aw_n aj_d206 rfl rfl ?_
            refine aw_p hV.1 aj_d206 rfl rfl (by decide) rfl ?_
            have hI98 := aw_It_f hV (k := 26) (v := (Int32.ofInt 3)) hI (by decide) rfl (aw_bp (a := (3 : Int)) rfl (by omega) (by omega))
            refine aw_n aj_d206 rfl rfl ?_
            refine aw_n aj_d206 rfl rfl ?_
            refine aw_p hV.1 aj_d206 rfl rfl (by decide) rfl ?_
            have hI99 := aw_It_f hV (k := 28) (v := y) hI98 (by decide) rfl (aw_bp (a := (e : Int)) hy (by omega) (by omega))
            refine aw_e aj_d206 rfl rfl ?_
            refine hk _ ?_
            unfold aw_sgk
            rw [if_pos (by omega)]
            rfl
        · have q96 : c.toInt ≠ (93 : Int) := aw_t_eq (a := c.toInt) (b := (93 : Int)) rfl rfl q96
          refine aw_n aj_d206 rfl rfl ?_
          refine aw_n aj_d206 rfl rfl ?_
          refine aw_c (tgt := 430) aj_d206 rfl rfl (fun q100 => ?_) (fun q100 => ?_)
          · have q100 : c.toInt = (123 : Int) := aw_t_eq (a := c.toInt) (b := (123 : Int)) rfl rfl q100
            refine aw_n aj_d206 rfl rfl ?_
            refine aw_n aj_d206 rfl rfl ?_
            refine aw_n aj_d206 rfl rfl ?_
            show aw_W _ _ _ _ 437 [(5, .int (Int32.ofInt 1)), (2, .int y), (4, .int dd), (3, .int c), (1, .int x1), (0, .ref 117)] [] _ _
            refine aw_n aj_d206 rfl rfl ?_
            refine aw_n aj_d206 rfl rfl ?_
            refine aw_z (tgt := 447) aj_d206 rfl rfl (fun q101 => ?_) (fun q101 => ?_)
            · have q101 : (1 : Int) = (0 : Int) := aw_t_eq (a := (1 : Int)) (b := (0 : Int)) rfl rfl q101
              exfalso
              omega
            · have q101 : (1 : Int) ≠ (0 : Int) := aw_t_eq (a := (1 : Int)) (b := (0 : Int)) rfl rfl q101
              refine aw_n aj_d206 rfl rfl ?_
              refine aw_n aj_d206 rfl rfl ?_
              refine aw_p hV.1 aj_d206 rfl rfl (by decide) rfl ?_
              have hI102 := aw_It_f hV (k := 26) (v := (Int32.ofInt 3)) hI (by decide) rfl (aw_bp (a := (3 : Int)) rfl (by omega) (by omega))
              refine aw_n aj_d206 rfl rfl ?_
              refine aw_n aj_d206 rfl rfl ?_
              refine aw_p hV.1 aj_d206 rfl rfl (by decide) rfl ?_
              have hI103 := aw_It_f hV (k := 28) (v := y) hI102 (by decide) rfl (aw_bp (a := (e : Int)) hy (by omega) (by omega))
              refine aw_e aj_d206 rfl rfl ?_
              refine hk _ ?_
              unfold aw_sgk
              rw [if_pos (by omega)]
              rfl
          · have q100 : c.toInt ≠ (123 : Int) := aw_t_eq (a := c.toInt) (b := (123 : Int)) rfl rfl q100
            refine aw_n aj_d206 rfl rfl ?_
            refine aw_n aj_d206 rfl rfl ?_
            refine aw_c (tgt := 430) aj_d206 rfl rfl (fun q104 => ?_) (fun q104 => ?_)
            · have q104 : c.toInt = (125 : Int) := aw_t_eq (a := c.toInt) (b := (125 : Int)) rfl rfl q104
              refine aw_n aj_d206 rfl rfl ?_
              refine aw_n aj_d206 rfl rfl ?_
              refine aw_n aj_d206 rfl rfl ?_
              show aw_W _ _ _ _ 437 [(5, .int (Int32.ofInt 1)), (2, .int y), (4, .int dd), (3, .int c), (1, .int x1), (0, .ref 117)] [] _ _
              refine aw_n aj_d206 rfl rfl ?_
              refine aw_n aj_d206 rfl rfl ?_
              refine aw_z (tgt := 447) aj_d206 rfl rfl (fun q105 => ?_) (fun q105 => ?_)
              · have q105 : (1 : Int) = (0 : Int) := aw_t_eq (a := (1 : Int)) (b := (0 : Int)) rfl rfl q105
                exfalso
                omega
              · have q105 : (1 : Int) ≠ (0 : Int) := aw_t_eq (a := (1 : Int)) (b := (0 : Int)) rfl rfl q105
                refine aw_n aj_d206 rfl rfl ?_
                refine aw_n aj_d206 rfl rfl ?_
                refine aw_p hV.1 aj_d206 rfl rfl (by decide) rfl ?_
                have hI106 := aw_It_f hV (k := 26) (v := (Int32.ofInt 3)) hI (by decide) rfl (aw_bp (a := (3 : Int)) rfl (by omega) (by omega))
                refine aw_n aj_d206 rfl rfl ?_
                refine aw_n aj_d206 rfl rfl ?_
                refine aw_p hV.1 aj_d206 rfl rfl (by decide) rfl ?_
                have hI107 := aw_It_f hV (k := 28) (v := y) hI106 (by decide) rfl (aw_bp (a := (e : Int)) hy (by omega) (by omega))
                refine aw_e aj_d206 rfl rfl ?_
                refine hk _ ?_
                unfold aw_sgk
                rw [if_pos (by omega)]
                rfl
            · have q104 : c.toInt ≠ (125 : Int) := aw_t_eq (a := c.toInt) (b := (125 : Int)) rfl rfl q104
              refine aw_n aj_d206 rfl rfl ?_
              refine aw_n aj_d206 rfl rfl ?_
              refine aw_c (tgt := 430) aj_d206 rfl rfl (fun q108 => ?_) (fun q108 => ?_)
              · have q108 : c.toInt = (44 : Int) := aw_t_eq (a := c.toInt) (b := (44 : Int)) rfl rfl q108
                refine aw_n aj_d206 rfl rfl ?_
                refine aw_n aj_d206 rfl rfl ?_
                refine aw_n aj_d206 rfl rfl ?_
                show aw_W _ _ _ _ 437 [(5, .int (Int32.ofInt 1)), (2, .int y), (4, .int dd), (3, .int c), (1, .int x1), (0, .ref 117)] [] _ _
                refine aw_n aj_d206 rfl rfl ?_
                refine aw_n aj_d206 rfl rfl ?_
                refine aw_z (tgt := 447) aj_d206 rfl rfl (fun q109 => ?_) (fun q109 => ?_)
                · have q109 : (1 : Int) = (0 : Int) := aw_t_eq (a := (1 : Int)) (b := (0 : Int)) rfl rfl q109
                  exfalso
                  omega
                · have q109 : (1 : Int) ≠ (0 : Int) := aw_t_eq (a := (1 : Int)) (b := (0 : Int)) rfl rfl q109
                  refine aw_n aj_d206 rfl rfl ?_
                  refine aw_n aj_d206 rfl rfl ?_
                  refine aw_p hV.1 aj_d206 rfl rfl (by decide) rfl ?_
                  have hI110 := aw_It_f hV (k := 26) (v := (Int32.ofInt 3)) hI (by decide) rfl (aw_bp (a := (3 : Int)) rfl (by omega) (by omega))
                  refine aw_n aj_d206 rfl rfl ?_
                  refine aw_n aj_d206 rfl rfl ?_
                  refine aw_p hV.1 aj_d206 rfl rfl (by decide) rfl ?_
                  have hI111 := aw_It_f hV (k := 28) (v := y) hI110 (by decide) rfl (aw_bp (a := (e : Int)) hy (by omega) (by omega))
                  refine aw_e aj_d206 rfl rfl ?_
                  refine hk _ ?_
                  unfold aw_sgk
                  rw [if_pos (by omega)]
                  rfl
              · have q108 : c.toInt ≠ (44 : Int) := aw_t_eq (a := c.toInt) (b := (44 : Int)) rfl rfl q108
                refine aw_n aj_d206 rfl rfl ?_
                refine aw_n aj_d206 rfl rfl ?_
                refine aw_c (tgt := 430) aj_d206 rfl rfl (fun q112 => ?_) (fun q112 => ?_)
                · have q112 : c.toInt = (59 : Int) := aw_t_eq (a := c.toInt) (b := (59 : Int)) rfl rfl q112
                  refine aw_n aj_d206 rfl rfl ?_
                  refine aw_n aj_d206 rfl rfl ?_
                  refine aw_n aj_d206 rfl rfl ?_
                  show aw_W _ _ _ _ 437 [(5, .int (Int32.ofInt 1)), (2, .int y), (4, .int dd), (3, .int c), (1, .int x1), (0, .ref 117)] [] _ _
                  refine aw_n aj_d206 rfl rfl ?_
                  refine aw_n aj_d206 rfl rfl ?_
                  refine aw_z (tgt := 447) aj_d206 rfl rfl (fun q113 => ?_) (fun q113 => ?_)
                  · have q113 : (1 : Int) = (0 : Int) := aw_t_eq (a := (1 : Int)) (b := (0 : Int)) rfl rfl q113
                    exfalso
                    omega
                  · have q113 : (1 : Int) ≠ (0 : Int) := aw_t_eq (a := (1 : Int)) (b := (0 : Int)) rfl rfl q113
                    refine aw_n aj_d206 rfl rfl ?_
                    refine aw_n aj_d206 rfl rfl ?_
                    refine aw_p hV.1 aj_d206 rfl rfl (by decide) rfl ?_
                    have hI114 := aw_It_f hV (k := 26) (v := (Int32.ofInt 3)) hI (by decide) rfl (aw_bp (a := (3 : Int)) rfl (by omega) (by omega))
                    refine aw_n aj_d206 rfl rfl ?_
                    refine aw_n aj_d206 rfl rfl ?_
                    refine aw_p hV.1 aj_d206 rfl rfl (by decide) rfl ?_
                    have hI115 := aw_It_f hV (k := 28) (v := y) hI114 (by decide) rfl (aw_bp (a := (e : Int)) hy (by omega) (by omega))
                    refine aw_e aj_d206 rfl rfl ?_
                    refine hk _ ?_
                    unfold aw_sgk
                    rw [if_pos (by omega)]
                    rfl
                · have q112 : c.toInt ≠ (59 : Int) := aw_t_eq (a := c.toInt) (b := (59 : Int)) rfl rfl q112
                  refine aw_n aj_d206 rfl rfl ?_
                  refine aw_n aj_d206 rfl rfl ?_
                  refine aw_c (tgt := 430) aj_d206 rfl rfl (fun q116 => ?_) (fun q116 => ?_)
                  · have q116 : c.toInt = (58 : Int) := aw_t_eq (a := c.toInt) (b := (58 : Int)) rfl rfl q116
                    refine aw_n aj_d206 rfl rfl ?_
                    refine aw_n aj_d206 rfl rfl ?_
                    refine aw_n aj_d206 rfl rfl ?_
                    show aw_W _ _ _ _ 437 [(5, .int (Int32.ofInt 1)), (2, .int y), (4, .int dd), (3, .int c), (1, .int x1), (0, .ref 117)] [] _ _
                    refine aw_n aj_d206 rfl rfl ?_
                    refine aw_n aj_d206 rfl rfl ?_
                    refine aw_z (tgt := 447) aj_d206 rfl rfl (fun q117 => ?_) (fun q117 => ?_)
                    · have q117 : (1 : Int) = (0 : Int) := aw_t_eq (a := (1 : Int)) (b := (0 : Int)) rfl rfl q117
                      exfalso
                      omega
                    · have q117 : (1 : Int) ≠ (0 : Int) := aw_t_eq (a := (1 : Int)) (b := (0 : Int)) rfl rfl q117
                      refine aw_n aj_d206 rfl rfl ?_
                      refine aw_n aj_d206 rfl rfl ?_
                      refine aw_p hV.1 aj_d206 rfl rfl (by decide) rfl ?_
                      have hI118 := aw_It_f hV (k := 26) (v := (Int32.ofInt 3)) hI (by decide) rfl (aw_bp (a := (3 : Int)) rfl (by omega) (by omega))
                      refine aw_n aj_d206 rfl rfl ?_
                      refine aw_n aj_d206 rfl rfl ?_
                      refine aw_p hV.1 aj_d206 rfl rfl (by decide) rfl ?_
                      have hI119 := aw_It_f hV (k := 28) (v := y) hI118 (by decide) rfl (aw_bp (a := (e : Int)) hy (by omega) (by omega))
                      refine aw_e aj_d206 rfl rfl ?_
                      refine hk _ ?_
                      unfold aw_sgk
                      rw [if_pos (by omega)]
                      rfl
                  · have q116 : c.toInt ≠ (58 : Int) := aw_t_eq (a := c.toInt) (b := (58 : Int)) rfl rfl q116
                    refine aw_n aj_d206 rfl rfl ?_
                    refine aw_n aj_d206 rfl rfl ?_
                    refine aw_c (tgt := 430) aj_d206 rfl rfl (fun q120 => ?_) (fun q120 => ?_)
                    · have q120 : c.toInt = (46 : Int) := aw_t_eq (a := c.toInt) (b := (46 : Int)) rfl rfl q120
                      refine aw_n aj_d206 rfl rfl ?_
                      refine aw_n aj_d206 rfl rfl ?_
                      refine aw_n aj_d206 rfl rfl ?_
                      show aw_W _ _ _ _ 437 [(5, .int (Int32.ofInt 1)), (2, .int y), (4, .int dd), (3, .int c), (1, .int x1), (0, .ref 117)] [] _ _
                      refine aw_n aj_d206 rfl rfl ?_
                      refine aw_n aj_d206 rfl rfl ?_
                      refine aw_z (tgt := 447) aj_d206 rfl rfl (fun q121 => ?_) (fun q121 => ?_)
                      · have q121 : (1 : Int) = (0 : Int) := aw_t_eq (a := (1 : Int)) (b := (0 : Int)) rfl rfl q121
                        exfalso
                        omega
                      · have q121 : (1 : Int) ≠ (0 : Int) := aw_t_eq (a := (1 : Int)) (b := (0 : Int)) rfl rfl q121
                        refine aw_n aj_d206 rfl rfl ?_
                        refine aw_n aj_d206 rfl rfl ?_
                        refine aw_p hV.1 aj_d206 rfl rfl (by decide) rfl ?_
                        have hI122 := aw_It_f hV (k := 26) (v := (Int32.ofInt 3)) hI (by decide) rfl (aw_bp (a := (3 : Int)) rfl (by omega) (by omega))
                        refine aw_n aj_d206 rfl rfl ?_
                        refine aw_n aj_d206 rfl rfl ?_
                        refine aw_p hV.1 aj_d206 rfl rfl (by decide) rfl ?_
                        have hI123 := aw_It_f hV (k := 28) (v := y) hI122 (by decide) rfl (aw_bp (a := (e : Int)) hy (by omega) (by omega))
                        refine aw_e aj_d206 rfl rfl ?_
                        refine hk _ ?_
                        unfold aw_sgk
                        rw [if_pos (by omega)]
                        rfl
                    · have q120 : c.toInt ≠ (46 : Int) := aw_t_eq (a := c.toInt) (b := (46 : Int)) rfl rfl q120
                      refine aw_n aj_d206 rfl rfl ?_
                      refine aw_n aj_d206 rfl rfl ?_
                      refine aw_c (tgt := 430) aj_d206 rfl rfl (fun q124 => ?_) (fun q124 => ?_)
                      · have q124 : c.toInt = (63 : Int) := aw_t_eq (a := c.toInt) (b := (63 : Int)) rfl rfl q124
                        refine aw_n aj_d206 rfl rfl ?_
                        refine aw_n aj_d206 rfl rfl ?_
                        refine aw_n aj_d206 rfl rfl ?_
                        show aw_W _ _ _ _ 437 [(5, .int (Int32.ofInt 1)), (2, .int y), (4, .int dd), (3, .int c), (1, .int x1), (0, .ref 117)] [] _ _
                        refine aw_n aj_d206 rfl rfl ?_
                        refine aw_n aj_d206 rfl rfl ?_
                        refine aw_z (tgt := 447) aj_d206 rfl rfl (fun q125 => ?_) (fun q125 => ?_)
                        · have q125 : (1 : Int) = (0 : Int) := aw_t_eq (a := (1 : Int)) (b := (0 : Int)) rfl rfl q125
                          exfalso
                          omega
                        · have q125 : (1 : Int) ≠ (0 : Int) := aw_t_eq (a := (1 : Int)) (b := (0 : Int)) rfl rfl q125
                          refine aw_n aj_d206 rfl rfl ?_
                          refine aw_n aj_d206 rfl rfl ?_
                          refine aw_p hV.1 aj_d206 rfl rfl (by decide) rfl ?_
                          have hI126 := aw_It_f hV (k := 26) (v := (Int32.ofInt 3)) hI (by decide) rfl (aw_bp (a := (3 : Int)) rfl (by omega) (by omega))
                          refine aw_n aj_d206 rfl rfl ?_
                          refine aw_n aj_d206 rfl rfl ?_
                          refine aw_p hV.1 aj_d206 rfl rfl (by decide) rfl ?_
                          have hI127 := aw_It_f hV (k := 28) (v := y) hI126 (by decide) rfl (aw_bp (a := (e : Int)) hy (by omega) (by omega))
                          refine aw_e aj_d206 rfl rfl ?_
                          refine hk _ ?_
                          unfold aw_sgk
                          rw [if_pos (by omega)]
                          rfl
                      · have q124 : c.toInt ≠ (63 : Int) := aw_t_eq (a := c.toInt) (b := (63 : Int)) rfl rfl q124
                        refine aw_n aj_d206 rfl rfl ?_
                        refine aw_n aj_d206 rfl rfl ?_
                        refine aw_c (tgt := 430) aj_d206 rfl rfl (fun q128 => ?_) (fun q128 => ?_)
                        · have q128 : c.toInt = (35 : Int) := aw_t_eq (a := c.toInt) (b := (35 : Int)) rfl rfl q128
                          refine aw_n aj_d206 rfl rfl ?_
                          refine aw_n aj_d206 rfl rfl ?_
                          refine aw_n aj_d206 rfl rfl ?_
                          show aw_W _ _ _ _ 437 [(5, .int (Int32.ofInt 1)), (2, .int y), (4, .int dd), (3, .int c), (1, .int x1), (0, .ref 117)] [] _ _
                          refine aw_n aj_d206 rfl rfl ?_
                          refine aw_n aj_d206 rfl rfl ?_
                          refine aw_z (tgt := 447) aj_d206 rfl rfl (fun q129 => ?_) (fun q129 => ?_)
                          · have q129 : (1 : Int) = (0 : Int) := aw_t_eq (a := (1 : Int)) (b := (0 : Int)) rfl rfl q129
                            exfalso
                            omega
                          · have q129 : (1 : Int) ≠ (0 : Int) := aw_t_eq (a := (1 : Int)) (b := (0 : Int)) rfl rfl q129
                            refine aw_n aj_d206 rfl rfl ?_
                            refine aw_n aj_d206 rfl rfl ?_
                            refine aw_p hV.1 aj_d206 rfl rfl (by decide) rfl ?_
                            have hI130 := aw_It_f hV (k := 26) (v := (Int32.ofInt 3)) hI (by decide) rfl (aw_bp (a := (3 : Int)) rfl (by omega) (by omega))
                            refine aw_n aj_d206 rfl rfl ?_
                            refine aw_n aj_d206 rfl rfl ?_
                            refine aw_p hV.1 aj_d206 rfl rfl (by decide) rfl ?_
                            have hI131 := aw_It_f hV (k := 28) (v := y) hI130 (by decide) rfl (aw_bp (a := (e : Int)) hy (by omega) (by omega))
                            refine aw_e aj_d206 rfl rfl ?_
                            refine hk _ ?_
                            unfold aw_sgk
                            rw [if_pos (by omega)]
                            rfl
                        · have q128 : c.toInt ≠ (35 : Int) := aw_t_eq (a := c.toInt) (b := (35 : Int)) rfl rfl q128
                          refine aw_n aj_d206 rfl rfl ?_
                          refine aw_n aj_d206 rfl rfl ?_
                          refine aw_c (tgt := 430) aj_d206 rfl rfl (fun q132 => ?_) (fun q132 => ?_)
                          · have q132 : c.toInt = (43 : Int) := aw_t_eq (a := c.toInt) (b := (43 : Int)) rfl rfl q132
                            refine aw_n aj_d206 rfl rfl ?_
                            refine aw_n aj_d206 rfl rfl ?_
                            refine aw_n aj_d206 rfl rfl ?_
                            show aw_W _ _ _ _ 437 [(5, .int (Int32.ofInt 1)), (2, .int y), (4, .int dd), (3, .int c), (1, .int x1), (0, .ref 117)] [] _ _
                            refine aw_n aj_d206 rfl rfl ?_
                            refine aw_n aj_d206 rfl rfl ?_
                            refine aw_z (tgt := 447) aj_d206 rfl rfl (fun q133 => ?_) (fun q133 => ?_)
                            · have q133 : (1 : Int) = (0 : Int) := aw_t_eq (a := (1 : Int)) (b := (0 : Int)) rfl rfl q133
                              exfalso
                              omega
                            · have q133 : (1 : Int) ≠ (0 : Int) := aw_t_eq (a := (1 : Int)) (b := (0 : Int)) rfl rfl q133
                              refine aw_n aj_d206 rfl rfl ?_
                              refine aw_n aj_d206 rfl rfl ?_
                              refine aw_p hV.1 aj_d206 rfl rfl (by decide) rfl ?_
                              have hI134 := aw_It_f hV (k := 26) (v := (Int32.ofInt 3)) hI (by decide) rfl (aw_bp (a := (3 : Int)) rfl (by omega) (by omega))
                              refine aw_n aj_d206 rfl rfl ?_
                              refine aw_n aj_d206 rfl rfl ?_
                              refine aw_p hV.1 aj_d206 rfl rfl (by decide) rfl ?_
                              have hI135 := aw_It_f hV (k := 28) (v := y) hI134 (by decide) rfl (aw_bp (a := (e : Int)) hy (by omega) (by omega))
                              refine aw_e aj_d206 rfl rfl ?_
                              refine hk _ ?_
                              unfold aw_sgk
                              rw [if_pos (by omega)]
                              rfl
                          · have q132 : c.toInt ≠ (43 : Int) := aw_t_eq (a := c.toInt) (b := (43 : Int)) rfl rfl q132
                            refine aw_n aj_d206 rfl rfl ?_
                            refine aw_n aj_d206 rfl rfl ?_
                            refine aw_c (tgt := 430) aj_d206 rfl rfl (fun q136 => ?_) (fun q136 => ?_)
                            · have q136 : c.toInt = (45 : Int) := aw_t_eq (a := c.toInt) (b := (45 : Int)) rfl rfl q136
                              refine aw_n aj_d206 rfl rfl ?_
                              refine aw_n aj_d206 rfl rfl ?_
                              refine aw_n aj_d206 rfl rfl ?_
                              show aw_W _ _ _ _ 437 [(5, .int (Int32.ofInt 1)), (2, .int y), (4, .int dd), (3, .int c), (1, .int x1), (0, .ref 117)] [] _ _
                              refine aw_n aj_d206 rfl rfl ?_
                              refine aw_n aj_d206 rfl rfl ?_
                              refine aw_z (tgt := 447) aj_d206 rfl rfl (fun q137 => ?_) (fun q137 => ?_)
                              · have q137 : (1 : Int) = (0 : Int) := aw_t_eq (a := (1 : Int)) (b := (0 : Int)) rfl rfl q137
                                exfalso
                                omega
                              · have q137 : (1 : Int) ≠ (0 : Int) := aw_t_eq (a := (1 : Int)) (b := (0 : Int)) rfl rfl q137
                                refine aw_n aj_d206 rfl rfl ?_
                                refine aw_n aj_d206 rfl rfl ?_
                                refine aw_p hV.1 aj_d206 rfl rfl (by decide) rfl ?_
                                have hI138 := aw_It_f hV (k := 26) (v := (Int32.ofInt 3)) hI (by decide) rfl (aw_bp (a := (3 : Int)) rfl (by omega) (by omega))
                                refine aw_n aj_d206 rfl rfl ?_
                                refine aw_n aj_d206 rfl rfl ?_
                                refine aw_p hV.1 aj_d206 rfl rfl (by decide) rfl ?_
                                have hI139 := aw_It_f hV (k := 28) (v := y) hI138 (by decide) rfl (aw_bp (a := (e : Int)) hy (by omega) (by omega))
                                refine aw_e aj_d206 rfl rfl ?_
                                refine hk _ ?_
                                unfold aw_sgk
                                rw [if_pos (by omega)]
                                rfl
                            · have q136 : c.toInt ≠ (45 : Int) := aw_t_eq (a := c.toInt) (b := (45 : Int)) rfl rfl q136
                              refine aw_n aj_d206 rfl rfl ?_
                              refine aw_n aj_d206 rfl rfl ?_
                              refine aw_c (tgt := 430) aj_d206 rfl rfl (fun q140 => ?_) (fun q140 => ?_)
                              · have q140 : c.toInt = (42 : Int) := aw_t_eq (a := c.toInt) (b := (42 : Int)) rfl rfl q140
                                refine aw_n aj_d206 rfl rfl ?_
                                refine aw_n aj_d206 rfl rfl ?_
                                refine aw_n aj_d206 rfl rfl ?_
                                show aw_W _ _ _ _ 437 [(5, .int (Int32.ofInt 1)), (2, .int y), (4, .int dd), (3, .int c), (1, .int x1), (0, .ref 117)] [] _ _
                                refine aw_n aj_d206 rfl rfl ?_
                                refine aw_n aj_d206 rfl rfl ?_
                                refine aw_z (tgt := 447) aj_d206 rfl rfl (fun q141 => ?_) (fun q141 => ?_)
                                · have q141 : (1 : Int) = (0 : Int) := aw_t_eq (a := (1 : Int)) (b := (0 : Int)) rfl rfl q141
                                  exfalso
                                  omega
                                · have q141 : (1 : Int) ≠ (0 : Int) := aw_t_eq (a := (1 : Int)) (b := (0 : Int)) rfl rfl q141
                                  refine aw_n aj_d206 rfl rfl ?_
                                  refine aw_n aj_d206 rfl rfl ?_
                                  refine aw_p hV.1 aj_d206 rfl rfl (by decide) rfl ?_
                                  have hI142 := aw_It_f hV (k := 26) (v := (Int32.ofInt 3)) hI (by decide) rfl (aw_bp (a := (3 : Int)) rfl (by omega) (by omega))
                                  refine aw_n aj_d206 rfl rfl ?_
                                  refine aw_n aj_d206 rfl rfl ?_
                                  refine aw_p hV.1 aj_d206 rfl rfl (by decide) rfl ?_
                                  have hI143 := aw_It_f hV (k := 28) (v := y) hI142 (by decide) rfl (aw_bp (a := (e : Int)) hy (by omega) (by omega))
                                  refine aw_e aj_d206 rfl rfl ?_
                                  refine hk _ ?_
                                  unfold aw_sgk
                                  rw [if_pos (by omega)]
                                  rfl
                              · have q140 : c.toInt ≠ (42 : Int) := aw_t_eq (a := c.toInt) (b := (42 : Int)) rfl rfl q140
                                refine aw_n aj_d206 rfl rfl ?_
                                refine aw_n aj_d206 rfl rfl ?_
                                refine aw_c (tgt := 430) aj_d206 rfl rfl (fun q144 => ?_) (fun q144 => ?_)
                                · have q144 : c.toInt = (61 : Int) := aw_t_eq (a := c.toInt) (b := (61 : Int)) rfl rfl q144
                                  refine aw_n aj_d206 rfl rfl ?_
                                  refine aw_n aj_d206 rfl rfl ?_
                                  refine aw_n aj_d206 rfl rfl ?_
                                  show aw_W _ _ _ _ 437 [(5, .int (Int32.ofInt 1)), (2, .int y), (4, .int dd), (3, .int c), (1, .int x1), (0, .ref 117)] [] _ _
                                  refine aw_n aj_d206 rfl rfl ?_
                                  refine aw_n aj_d206 rfl rfl ?_
                                  refine aw_z (tgt := 447) aj_d206 rfl rfl (fun q145 => ?_) (fun q145 => ?_)
                                  · have q145 : (1 : Int) = (0 : Int) := aw_t_eq (a := (1 : Int)) (b := (0 : Int)) rfl rfl q145
                                    exfalso
                                    omega
                                  · have q145 : (1 : Int) ≠ (0 : Int) := aw_t_eq (a := (1 : Int)) (b := (0 : Int)) rfl rfl q145
                                    refine aw_n aj_d206 rfl rfl ?_
                                    refine aw_n aj_d206 rfl rfl ?_
                                    refine aw_p hV.1 aj_d206 rfl rfl (by decide) rfl ?_
                                    have hI146 := aw_It_f hV (k := 26) (v := (Int32.ofInt 3)) hI (by decide) rfl (aw_bp (a := (3 : Int)) rfl (by omega) (by omega))
                                    refine aw_n aj_d206 rfl rfl ?_
                                    refine aw_n aj_d206 rfl rfl ?_
                                    refine aw_p hV.1 aj_d206 rfl rfl (by decide) rfl ?_
                                    have hI147 := aw_It_f hV (k := 28) (v := y) hI146 (by decide) rfl (aw_bp (a := (e : Int)) hy (by omega) (by omega))
                                    refine aw_e aj_d206 rfl rfl ?_
                                    refine hk _ ?_
                                    unfold aw_sgk
                                    rw [if_pos (by omega)]
                                    rfl
                                · have q144 : c.toInt ≠ (61 : Int) := aw_t_eq (a := c.toInt) (b := (61 : Int)) rfl rfl q144
                                  refine aw_n aj_d206 rfl rfl ?_
                                  refine aw_n aj_d206 rfl rfl ?_
                                  refine aw_c (tgt := 430) aj_d206 rfl rfl (fun q148 => ?_) (fun q148 => ?_)
                                  · have q148 : c.toInt = (33 : Int) := aw_t_eq (a := c.toInt) (b := (33 : Int)) rfl rfl q148
                                    refine aw_n aj_d206 rfl rfl ?_
                                    refine aw_n aj_d206 rfl rfl ?_
                                    refine aw_n aj_d206 rfl rfl ?_
                                    show aw_W _ _ _ _ 437 [(5, .int (Int32.ofInt 1)), (2, .int y), (4, .int dd), (3, .int c), (1, .int x1), (0, .ref 117)] [] _ _
                                    refine aw_n aj_d206 rfl rfl ?_
                                    refine aw_n aj_d206 rfl rfl ?_
                                    refine aw_z (tgt := 447) aj_d206 rfl rfl (fun q149 => ?_) (fun q149 => ?_)
                                    · have q149 : (1 : Int) = (0 : Int) := aw_t_eq (a := (1 : Int)) (b := (0 : Int)) rfl rfl q149
                                      exfalso
                                      omega
                                    · have q149 : (1 : Int) ≠ (0 : Int) := aw_t_eq (a := (1 : Int)) (b := (0 : Int)) rfl rfl q149
                                      refine aw_n aj_d206 rfl rfl ?_
                                      refine aw_n aj_d206 rfl rfl ?_
                                      refine aw_p hV.1 aj_d206 rfl rfl (by decide) rfl ?_
                                      have hI150 := aw_It_f hV (k := 26) (v := (Int32.ofInt 3)) hI (by decide) rfl (aw_bp (a := (3 : Int)) rfl (by omega) (by omega))
                                      refine aw_n aj_d206 rfl rfl ?_
                                      refine aw_n aj_d206 rfl rfl ?_
                                      refine aw_p hV.1 aj_d206 rfl rfl (by decide) rfl ?_
                                      have hI151 := aw_It_f hV (k := 28) (v := y) hI150 (by decide) rfl (aw_bp (a := (e : Int)) hy (by omega) (by omega))
                                      refine aw_e aj_d206 rfl rfl ?_
                                      refine hk _ ?_
                                      unfold aw_sgk
                                      rw [if_pos (by omega)]
                                      rfl
                                  · have q148 : c.toInt ≠ (33 : Int) := aw_t_eq (a := c.toInt) (b := (33 : Int)) rfl rfl q148
                                    refine aw_n aj_d206 rfl rfl ?_
                                    refine aw_n aj_d206 rfl rfl ?_
                                    refine aw_c (tgt := 430) aj_d206 rfl rfl (fun q152 => ?_) (fun q152 => ?_)
                                    · have q152 : c.toInt = (60 : Int) := aw_t_eq (a := c.toInt) (b := (60 : Int)) rfl rfl q152
                                      refine aw_n aj_d206 rfl rfl ?_
                                      refine aw_n aj_d206 rfl rfl ?_
                                      refine aw_n aj_d206 rfl rfl ?_
                                      show aw_W _ _ _ _ 437 [(5, .int (Int32.ofInt 1)), (2, .int y), (4, .int dd), (3, .int c), (1, .int x1), (0, .ref 117)] [] _ _
                                      refine aw_n aj_d206 rfl rfl ?_
                                      refine aw_n aj_d206 rfl rfl ?_
                                      refine aw_z (tgt := 447) aj_d206 rfl rfl (fun q153 => ?_) (fun q153 => ?_)
                                      · have q153 : (1 : Int) = (0 : Int) := aw_t_eq (a := (1 : Int)) (b := (0 : Int)) rfl rfl q153
                                        exfalso
                                        omega
                                      · have q153 : (1 : Int) ≠ (0 : Int) := aw_t_eq (a := (1 : Int)) (b := (0 : Int)) rfl rfl q153
                                        refine aw_n aj_d206 rfl rfl ?_
                                        refine aw_n aj_d206 rfl rfl ?_
                                        refine aw_p hV.1 aj_d206 rfl rfl (by decide) rfl ?_
                                        have hI154 := aw_It_f hV (k := 26) (v := (Int32.ofInt 3)) hI (by decide) rfl (aw_bp (a := (3 : Int)) rfl (by omega) (by omega))
                                        refine aw_n aj_d206 rfl rfl ?_
                                        refine aw_n aj_d206 rfl rfl ?_
                                        refine aw_p hV.1 aj_d206 rfl rfl (by decide) rfl ?_
                                        have hI155 := aw_It_f hV (k := 28) (v := y) hI154 (by decide) rfl (aw_bp (a := (e : Int)) hy (by omega) (by omega))
                                        refine aw_e aj_d206 rfl rfl ?_
                                        refine hk _ ?_
                                        unfold aw_sgk
                                        rw [if_pos (by omega)]
                                        rfl
                                    · have q152 : c.toInt ≠ (60 : Int) := aw_t_eq (a := c.toInt) (b := (60 : Int)) rfl rfl q152
                                      refine aw_n aj_d206 rfl rfl ?_
                                      refine aw_n aj_d206 rfl rfl ?_
                                      refine aw_c (tgt := 430) aj_d206 rfl rfl (fun q156 => ?_) (fun q156 => ?_)
                                      · have q156 : c.toInt = (38 : Int) := aw_t_eq (a := c.toInt) (b := (38 : Int)) rfl rfl q156
                                        refine aw_n aj_d206 rfl rfl ?_
                                        refine aw_n aj_d206 rfl rfl ?_
                                        refine aw_n aj_d206 rfl rfl ?_
                                        show aw_W _ _ _ _ 437 [(5, .int (Int32.ofInt 1)), (2, .int y), (4, .int dd), (3, .int c), (1, .int x1), (0, .ref 117)] [] _ _
                                        refine aw_n aj_d206 rfl rfl ?_
                                        refine aw_n aj_d206 rfl rfl ?_
                                        refine aw_z (tgt := 447) aj_d206 rfl rfl (fun q157 => ?_) (fun q157 => ?_)
                                        · have q157 : (1 : Int) = (0 : Int) := aw_t_eq (a := (1 : Int)) (b := (0 : Int)) rfl rfl q157
                                          exfalso
                                          omega
                                        · have q157 : (1 : Int) ≠ (0 : Int) := aw_t_eq (a := (1 : Int)) (b := (0 : Int)) rfl rfl q157
                                          refine aw_n aj_d206 rfl rfl ?_
                                          refine aw_n aj_d206 rfl rfl ?_
                                          refine aw_p hV.1 aj_d206 rfl rfl (by decide) rfl ?_
                                          have hI158 := aw_It_f hV (k := 26) (v := (Int32.ofInt 3)) hI (by decide) rfl (aw_bp (a := (3 : Int)) rfl (by omega) (by omega))
                                          refine aw_n aj_d206 rfl rfl ?_
                                          refine aw_n aj_d206 rfl rfl ?_
                                          refine aw_p hV.1 aj_d206 rfl rfl (by decide) rfl ?_
                                          have hI159 := aw_It_f hV (k := 28) (v := y) hI158 (by decide) rfl (aw_bp (a := (e : Int)) hy (by omega) (by omega))
                                          refine aw_e aj_d206 rfl rfl ?_
                                          refine hk _ ?_
                                          unfold aw_sgk
                                          rw [if_pos (by omega)]
                                          rfl
                                      · have q156 : c.toInt ≠ (38 : Int) := aw_t_eq (a := c.toInt) (b := (38 : Int)) rfl rfl q156
                                        refine aw_n aj_d206 rfl rfl ?_
                                        refine aw_n aj_d206 rfl rfl ?_
                                        refine aw_c (tgt := 434) aj_d206 rfl rfl (fun q160 => ?_) (fun q160 => ?_)
                                        · have q160 : c.toInt ≠ (124 : Int) := aw_t_ne (a := c.toInt) (b := (124 : Int)) rfl rfl q160
                                          refine aw_n aj_d206 rfl rfl ?_
                                          refine aw_n aj_d206 rfl rfl ?_
                                          show aw_W _ _ _ _ 437 [(5, .int (Int32.ofInt 0)), (2, .int y), (4, .int dd), (3, .int c), (1, .int x1), (0, .ref 117)] [] _ _
                                          refine aw_n aj_d206 rfl rfl ?_
                                          refine aw_n aj_d206 rfl rfl ?_
                                          refine aw_z (tgt := 447) aj_d206 rfl rfl (fun q161 => ?_) (fun q161 => ?_)
                                          · have q161 : (0 : Int) = (0 : Int) := aw_t_eq (a := (0 : Int)) (b := (0 : Int)) rfl rfl q161
                                            refine aw_n aj_d206 rfl rfl ?_
                                            refine aw_p hV.1 aj_d206 rfl rfl (by decide) rfl ?_
                                            have hI162 := aw_It_f hV (k := 26) (v := (Int32.ofInt 5)) hI (by decide) rfl (aw_bp (a := (5 : Int)) rfl (by omega) (by omega))
                                            refine aw_n aj_d206 rfl rfl ?_
                                            refine aw_n aj_d206 rfl rfl ?_
                                            refine aw_p hV.1 aj_d206 rfl rfl (by decide) rfl ?_
                                            have hI163 := aw_It_f hV (k := 28) (v := y) hI162 (by decide) rfl (aw_bp (a := (e : Int)) hy (by omega) (by omega))
                                            refine aw_e aj_d206 rfl rfl ?_
                                            refine hk _ ?_
                                            unfold aw_sgk
                                            rw [if_neg (by omega)]
                                            rfl
                                          · have q161 : (0 : Int) ≠ (0 : Int) := aw_t_eq (a := (0 : Int)) (b := (0 : Int)) rfl rfl q161
                                            exfalso
                                            omega
                                        · have q160 : c.toInt = (124 : Int) := aw_t_ne (a := c.toInt) (b := (124 : Int)) rfl rfl q160
                                          refine aw_n aj_d206 rfl rfl ?_
                                          refine aw_n aj_d206 rfl rfl ?_
                                          refine aw_n aj_d206 rfl rfl ?_
                                          show aw_W _ _ _ _ 437 [(5, .int (Int32.ofInt 1)), (2, .int y), (4, .int dd), (3, .int c), (1, .int x1), (0, .ref 117)] [] _ _
                                          refine aw_n aj_d206 rfl rfl ?_
                                          refine aw_n aj_d206 rfl rfl ?_
                                          refine aw_z (tgt := 447) aj_d206 rfl rfl (fun q164 => ?_) (fun q164 => ?_)
                                          · have q164 : (1 : Int) = (0 : Int) := aw_t_eq (a := (1 : Int)) (b := (0 : Int)) rfl rfl q164
                                            exfalso
                                            omega
                                          · have q164 : (1 : Int) ≠ (0 : Int) := aw_t_eq (a := (1 : Int)) (b := (0 : Int)) rfl rfl q164
                                            refine aw_n aj_d206 rfl rfl ?_
                                            refine aw_n aj_d206 rfl rfl ?_
                                            refine aw_p hV.1 aj_d206 rfl rfl (by decide) rfl ?_
                                            have hI165 := aw_It_f hV (k := 26) (v := (Int32.ofInt 3)) hI (by decide) rfl (aw_bp (a := (3 : Int)) rfl (by omega) (by omega))
                                            refine aw_n aj_d206 rfl rfl ?_
                                            refine aw_n aj_d206 rfl rfl ?_
                                            refine aw_p hV.1 aj_d206 rfl rfl (by decide) rfl ?_
                                            have hI166 := aw_It_f hV (k := 28) (v := y) hI165 (by decide) rfl (aw_bp (a := (e : Int)) hy (by omega) (by omega))
                                            refine aw_e aj_d206 rfl rfl ?_
                                            refine hk _ ?_
                                            unfold aw_sgk
                                            rw [if_pos (by omega)]
                                            rfl
theorem aw_nextK (hV : aw_V tb s h aw_tt) (hI : aw_I s h aw_tt S) (hn : (S.1 23).toInt = n) {e0 : Nat} (he0 : (S.1 28).toInt = e0) (hen : e0 ≤ n) (hd : 3 ≤ d) : aw_K tb h d 206 [.ref 117] S (fun r S' => r = none ∧ ∃ kd b e m, aw_R (S.2.2.1 21) n e0 kd b e m ∧ aw_tok S' kd b e m ∧ aw_fr4 S S' ∧ ak_Ty ak_TN s (aj_mh h S')) := by
  obtain ⟨d, rfl⟩ : ∃ e, d = e + 1 := ⟨d - 1, by omega⟩
  have b0 := aw_bd_f hV.2.2.1 hI.1 (k := 23) (lo := 0) (hi := 4000) (by decide) rfl
  refine aw_m aj_m206_at rfl (Nat.le_of_ble_eq_true rfl) ?_
  show aw_W _ _ _ _ 0 [(0, .ref 117)] [] _ _
  refine aw_n aj_d206 rfl rfl ?_
  refine aw_g hV.1 aj_d206 rfl rfl (by decide) (v := .int (S.1 28)) rfl ?_
  have b167 : 0 ≤ (S.1 28).toInt ∧ (S.1 28).toInt ≤ 4000 := aw_bd_f hV.2.2.1 (hI).1 (by decide) rfl
  refine aw_n aj_d206 rfl rfl ?_
  show aw_W _ _ _ _ 5 [(1, .int (S.1 28)), (0, .ref 117)] [] _ _
  refine aw_next_l1 hV hI hn n e0 _ he0 (by omega) (fun x1 hx1 => ?_)
  obtain ⟨b, hb⟩ : ∃ b, b = aw_skip (S.2.2.1 21) n n e0 := ⟨_, rfl⟩
  rw [← hb] at hx1
  have hb1 := aw_skip_le (f := S.2.2.1 21) (n := n) n e0 hen
  rw [← hb] at hb1
  show aw_W _ _ _ _ 63 [(1, .int x1), (0, .ref 117)] [] _ _
  refine aw_n aj_d206 rfl rfl ?_
  refine aw_n aj_d206 rfl rfl ?_
  refine aw_p hV.1 aj_d206 rfl rfl (by decide) rfl ?_
  have hI168 := aw_It_f hV (k := 27) (v := x1) hI (by decide) rfl (aw_bp (a := (b : Int)) hx1 (by omega) (by omega))
  refine aw_n aj_d206 rfl rfl ?_
  refine aw_n aj_d206 rfl rfl ?_
  refine aw_add aj_d206 rfl (a := (b : Int)) (b := (1 : Int)) hx1 rfl (by omega) (by omega) (fun x169 e169 => ?_)
  refine aw_n aj_d206 rfl rfl ?_
  show aw_W _ _ _ _ 72 [(2, .int x169), (1, .int x1), (0, .ref 117)] [] _ _
  refine aw_n aj_d206 rfl rfl ?_
  refine aw_n aj_d206 rfl rfl ?_
  refine aw_k hV.1 aj_d206 rfl rfl [_] rfl rfl rfl (Nat.le_of_ble_eq_true rfl) (aw_seen hV hI168 hn (by omega) (j := b) hx1) ?_
  rintro _ _ ⟨x170, rfl, rfl, c170⟩
  replace c170 : x170.toInt = aw_sn (S.2.2.1 21) n b := c170
  show aw_W _ _ _ _ 77 [(2, .int x169), (1, .int x1), (0, .ref 117)] [.int x170] _ _
  refine aw_n aj_d206 rfl rfl ?_
  show aw_W _ _ _ _ 78 [(3, .int x170), (2, .int x169), (1, .int x1), (0, .ref 117)] [] _ _
  refine aw_n aj_d206 rfl rfl ?_
  refine aw_n aj_d206 rfl rfl ?_
  refine aw_p hV.1 aj_d206 rfl rfl (by decide) rfl ?_
  have hI171 := aw_It_f hV (k := 29) (v := x170) hI168 (by decide) rfl (aw_full _)
  refine aw_n aj_d206 rfl rfl ?_
  refine aw_n aj_d206 rfl rfl ?_
  refine aw_g hV.1 aj_d206 rfl rfl (by decide) (v := .int (S.1 23)) rfl ?_
  have b172 : 0 ≤ (S.1 23).toInt ∧ (S.1 23).toInt ≤ 4000 := aw_bd_f hV.2.2.1 (hI).1 (by decide) rfl
  refine aw_c (tgt := 101) aj_d206 rfl rfl (fun q173 => ?_) (fun q173 => ?_)
  · have q173 : (b : Int) < (S.1 23).toInt := aw_t_lt (a := (b : Int)) (b := (S.1 23).toInt) hx1 rfl q173
    refine aw_n aj_d206 rfl rfl ?_
    refine aw_n aj_d206 rfl rfl ?_
    refine aw_k hV.1 aj_d206 rfl rfl [_] rfl rfl rfl (Nat.le_of_ble_eq_true rfl) (aw_isLetter hV hI171 hn (by omega) (j := b) hx1) ?_
    rintro _ _ ⟨x174, rfl, rfl, c174⟩
    replace c174 : (x174.toInt = 1 ∧ 97 ≤ aw_sn (S.2.2.1 21) n b ∧ aw_sn (S.2.2.1 21) n b ≤ 122) ∨ (x174.toInt = 0 ∧ ¬ (97 ≤ aw_sn (S.2.2.1 21) n b ∧ aw_sn (S.2.2.1 21) n b ≤ 122)) := c174
    show aw_W _ _ _ _ 106 [(3, .int x170), (2, .int x169), (1, .int x1), (0, .ref 117)] [.int x174] _ _
    refine aw_z (tgt := 187) aj_d206 rfl rfl (fun q175 => ?_) (fun q175 => ?_)
    · have q175 : x174.toInt = (0 : Int) := aw_t_eq (a := x174.toInt) (b := (0 : Int)) rfl rfl q175
      refine aw_n aj_d206 rfl rfl ?_
      refine aw_n aj_d206 rfl rfl ?_
      refine aw_k hV.1 aj_d206 rfl rfl [_] rfl rfl rfl (Nat.le_of_ble_eq_true rfl) (aw_isDigit hV hI171 hn (by omega) (j := b) hx1) ?_
      rintro _ _ ⟨x176, rfl, rfl, c176⟩
      replace c176 : (x176.toInt = 1 ∧ 48 ≤ aw_sn (S.2.2.1 21) n b ∧ aw_sn (S.2.2.1 21) n b ≤ 57) ∨ (x176.toInt = 0 ∧ ¬ (48 ≤ aw_sn (S.2.2.1 21) n b ∧ aw_sn (S.2.2.1 21) n b ≤ 57)) := c176
      show aw_W _ _ _ _ 192 [(3, .int x170), (2, .int x169), (1, .int x1), (0, .ref 117)] [.int x176] _ _
      refine aw_z (tgt := 228) aj_d206 rfl rfl (fun q177 => ?_) (fun q177 => ?_)
      · have q177 : x176.toInt = (0 : Int) := aw_t_eq (a := x176.toInt) (b := (0 : Int)) rfl rfl q177
        refine aw_n aj_d206 rfl rfl ?_
        refine aw_n aj_d206 rfl rfl ?_
        refine aw_k hV.1 aj_d206 rfl rfl [_] rfl rfl rfl (Nat.le_of_ble_eq_true rfl) (aw_seen hV hI171 hn (by omega) (j := (b + 1)) (by omega)) ?_
        rintro _ _ ⟨x178, rfl, rfl, c178⟩
        replace c178 : x178.toInt = aw_sn (S.2.2.1 21) n (b + 1) := c178
        show aw_W _ _ _ _ 233 [(3, .int x170), (2, .int x169), (1, .int x1), (0, .ref 117)] [.int x178] _ _
        refine aw_n aj_d206 rfl rfl ?_
        show aw_W _ _ _ _ 235 [(4, .int x178), (3, .int x170), (2, .int x169), (1, .int x1), (0, .ref 117)] [] _ _
        refine aw_n aj_d206 rfl rfl ?_
        refine aw_n aj_d206 rfl rfl ?_
        refine aw_c (tgt := 261) aj_d206 rfl rfl (fun q179 => ?_) (fun q179 => ?_)
        · have q179 : x170.toInt ≠ (46 : Int) := aw_t_ne (a := x170.toInt) (b := (46 : Int)) rfl rfl q179
          refine aw_n aj_d206 rfl rfl ?_
          refine aw_n aj_d206 rfl rfl ?_
          refine aw_c (tgt := 287) aj_d206 rfl rfl (fun q180 => ?_) (fun q180 => ?_)
          · have q180 : x170.toInt ≠ (33 : Int) := aw_t_ne (a := x170.toInt) (b := (33 : Int)) rfl rfl q180
            refine aw_n aj_d206 rfl rfl ?_
            refine aw_n aj_d206 rfl rfl ?_
            refine aw_c (tgt := 310) aj_d206 rfl rfl (fun q181 => ?_) (fun q181 => ?_)
            · have q181 : x170.toInt ≠ (60 : Int) := aw_t_ne (a := x170.toInt) (b := (60 : Int)) rfl rfl q181
              have hy1 := aw_sn_nz (f := S.2.2.1 21) (n := n) (k := b + 1)
              refine aw_nextN hV hI171 (e := b + 1) (by omega) (by omega) (fun kd hkd => ?_)
              rw [c170] at hkd
              have hkr := aw_sgk_35 (aw_sn (S.2.2.1 21) n b)
              have hf := aw_It_f hV (k := 26) (v := kd) hI171 (by decide) rfl (aw_bp (a := aw_sgk (aw_sn (S.2.2.1 21) n b)) hkd (by omega) (by omega))
              have hf2 := aw_It_f hV (k := 28) (v := x169) hf (by decide) rfl (aw_bp (a := x169.toInt) rfl (by omega) (by omega))
              exact ⟨rfl, _, b, b + 1, _, ⟨hb, Or.inr (Or.inr (Or.inr ⟨by omega, by omega, by omega, rfl, Or.inr (Or.inr (Or.inr ⟨by omega, by omega, by omega, rfl, rfl⟩))⟩))⟩, ⟨hkd, hx1, (by show x169.toInt = _; omega), c170⟩, ⟨rfl, fun k h1 h2 h3 h4 => by simp [aw_wf, aj_u, h1, h2, h3, h4]⟩, hf2.1⟩
            · have q181 : x170.toInt = (60 : Int) := aw_t_ne (a := x170.toInt) (b := (60 : Int)) rfl rfl q181
              refine aw_n aj_d206 rfl rfl ?_
              refine aw_n aj_d206 rfl rfl ?_
              refine aw_c (tgt := 310) aj_d206 rfl rfl (fun q182 => ?_) (fun q182 => ?_)
              · have q182 : x178.toInt ≠ (61 : Int) := aw_t_ne (a := x178.toInt) (b := (61 : Int)) rfl rfl q182
                have hy1 := aw_sn_nz (f := S.2.2.1 21) (n := n) (k := b + 1)
                refine aw_nextN hV hI171 (e := b + 1) (by omega) (by omega) (fun kd hkd => ?_)
                rw [c170] at hkd
                have hkr := aw_sgk_35 (aw_sn (S.2.2.1 21) n b)
                have hf := aw_It_f hV (k := 26) (v := kd) hI171 (by decide) rfl (aw_bp (a := aw_sgk (aw_sn (S.2.2.1 21) n b)) hkd (by omega) (by omega))
                have hf2 := aw_It_f hV (k := 28) (v := x169) hf (by decide) rfl (aw_bp (a := x169.toInt) rfl (by omega) (by omega))
                exact ⟨rfl, _, b, b + 1, _, ⟨hb, Or.inr (Or.inr (Or.inr ⟨by omega, by omega, by omega, rfl, Or.inr (Or.inr (Or.inr ⟨by omega, by omega, by omega, rfl, rfl⟩))⟩))⟩, ⟨hkd, hx1, (by show x169.toInt = _; omega), c170⟩, ⟨rfl, fun k h1 h2 h3 h4 => by simp [aw_wf, aj_u, h1, h2, h3, h4]⟩, hf2.1⟩
              · have q182 : x178.toInt = (61 : Int) := aw_t_ne (a := x178.toInt) (b := (61 : Int)) rfl rfl q182
                refine aw_n aj_d206 rfl rfl ?_
                refine aw_n aj_d206 rfl rfl ?_
                refine aw_p hV.1 aj_d206 rfl rfl (by decide) rfl ?_
                have hI183 := aw_It_f hV (k := 29) (v := (Int16.ofInt 258).toInt32) hI171 (by decide) rfl (aw_full _)
                refine aw_inc aj_d206 rfl rfl (a := x169.toInt) rfl (by omega) (by omega) (by decide) (by decide) (fun x184 e184 => ?_)
                show aw_W _ _ _ _ 310 [(2, .int x184), (4, .int x178), (3, .int x170), (1, .int x1), (0, .ref 117)] [] _ _
                have hy1 := aw_sn_nz (f := S.2.2.1 21) (n := n) (k := b + 1)
                refine aw_nextM hV hI183 (e := b + 2) (by omega) (by omega) (fun kd hkd => ?_)
                rw [c170] at hkd
                have hkr := aw_sgk_35 (aw_sn (S.2.2.1 21) n b)
                have hf := aw_It_f hV (k := 26) (v := kd) hI183 (by decide) rfl (aw_bp (a := aw_sgk (aw_sn (S.2.2.1 21) n b)) hkd (by omega) (by omega))
                have hf2 := aw_It_f hV (k := 28) (v := x184) hf (by decide) rfl (aw_bp (a := x184.toInt) rfl (by omega) (by omega))
                exact ⟨rfl, _, b, b + 2, 258, ⟨hb, Or.inr (Or.inr (Or.inr ⟨by omega, by omega, by omega, rfl, Or.inr (Or.inr (Or.inl ⟨by omega, by omega, rfl, rfl⟩))⟩))⟩, ⟨hkd, hx1, (by show x184.toInt = _; omega), rfl⟩, ⟨rfl, fun k h1 h2 h3 h4 => by simp [aw_wf, aj_u, h1, h2, h3, h4]⟩, hf2.1⟩
          · have q180 : x170.toInt = (33 : Int) := aw_t_ne (a := x170.toInt) (b := (33 : Int)) rfl rfl q180
            refine aw_n aj_d206 rfl rfl ?_
            refine aw_n aj_d206 rfl rfl ?_
            refine aw_c (tgt := 287) aj_d206 rfl rfl (fun q185 => ?_) (fun q185 => ?_)
            · have q185 : x178.toInt ≠ (61 : Int) := aw_t_ne (a := x178.toInt) (b := (61 : Int)) rfl rfl q185
              refine aw_n aj_d206 rfl rfl ?_
              refine aw_n aj_d206 rfl rfl ?_
              refine aw_c (tgt := 310) aj_d206 rfl rfl (fun q186 => ?_) (fun q186 => ?_)
              · have q186 : x170.toInt ≠ (60 : Int) := aw_t_ne (a := x170.toInt) (b := (60 : Int)) rfl rfl q186
                have hy1 := aw_sn_nz (f := S.2.2.1 21) (n := n) (k := b + 1)
                refine aw_nextN hV hI171 (e := b + 1) (by omega) (by omega) (fun kd hkd => ?_)
                rw [c170] at hkd
                have hkr := aw_sgk_35 (aw_sn (S.2.2.1 21) n b)
                have hf := aw_It_f hV (k := 26) (v := kd) hI171 (by decide) rfl (aw_bp (a := aw_sgk (aw_sn (S.2.2.1 21) n b)) hkd (by omega) (by omega))
                have hf2 := aw_It_f hV (k := 28) (v := x169) hf (by decide) rfl (aw_bp (a := x169.toInt) rfl (by omega) (by omega))
                exact ⟨rfl, _, b, b + 1, _, ⟨hb, Or.inr (Or.inr (Or.inr ⟨by omega, by omega, by omega, rfl, Or.inr (Or.inr (Or.inr ⟨by omega, by omega, by omega, rfl, rfl⟩))⟩))⟩, ⟨hkd, hx1, (by show x169.toInt = _; omega), c170⟩, ⟨rfl, fun k h1 h2 h3 h4 => by simp [aw_wf, aj_u, h1, h2, h3, h4]⟩, hf2.1⟩
              · have q186 : x170.toInt = (60 : Int) := aw_t_ne (a := x170.toInt) (b := (60 : Int)) rfl rfl q186
                refine aw_n aj_d206 rfl rfl ?_
                refine aw_n aj_d206 rfl rfl ?_
                refine aw_c (tgt := 310) aj_d206 rfl rfl (fun q187 => ?_) (fun q187 => ?_)
                · have q187 : x178.toInt ≠ (61 : Int) := aw_t_ne (a := x178.toInt) (b := (61 : Int)) rfl rfl q187
                  have hy1 := aw_sn_nz (f := S.2.2.1 21) (n := n) (k := b + 1)
                  refine aw_nextN hV hI171 (e := b + 1) (by omega) (by omega) (fun kd hkd => ?_)
                  rw [c170] at hkd
                  have hkr := aw_sgk_35 (aw_sn (S.2.2.1 21) n b)
                  have hf := aw_It_f hV (k := 26) (v := kd) hI171 (by decide) rfl (aw_bp (a := aw_sgk (aw_sn (S.2.2.1 21) n b)) hkd (by omega) (by omega))
                  have hf2 := aw_It_f hV (k := 28) (v := x169) hf (by decide) rfl (aw_bp (a := x169.toInt) rfl (by omega) (by omega))
                  exact ⟨rfl, _, b, b + 1, _, ⟨hb, Or.inr (Or.inr (Or.inr ⟨by omega, by omega, by omega, rfl, Or.inr (Or.inr (Or.inr ⟨by omega, by omega, by omega, rfl, rfl⟩))⟩))⟩, ⟨hkd, hx1, (by show x169.toInt = _; omega), c170⟩, ⟨rfl, fun k h1 h2 h3 h4 => by simp [aw_wf, aj_u, h1, h2, h3, h4]⟩, hf2.1⟩
                · have q187 : x178.toInt = (61 : Int) := aw_t_ne (a := x178.toInt) (b := (61 : Int)) rfl rfl q187
                  refine aw_n aj_d206 rfl rfl ?_
                  refine aw_n aj_d206 rfl rfl ?_
                  refine aw_p hV.1 aj_d206 rfl rfl (by decide) rfl ?_
                  have hI188 := aw_It_f hV (k := 29) (v := (Int16.ofInt 258).toInt32) hI171 (by decide) rfl (aw_full _)
                  refine aw_inc aj_d206 rfl rfl (a := x169.toInt) rfl (by omega) (by omega) (by decide) (by decide) (fun x189 e189 => ?_)
                  show aw_W _ _ _ _ 310 [(2, .int x189), (4, .int x178), (3, .int x170), (1, .int x1), (0, .ref 117)] [] _ _
                  have hy1 := aw_sn_nz (f := S.2.2.1 21) (n := n) (k := b + 1)
                  refine aw_nextM hV hI188 (e := b + 2) (by omega) (by omega) (fun kd hkd => ?_)
                  rw [c170] at hkd
                  have hkr := aw_sgk_35 (aw_sn (S.2.2.1 21) n b)
                  have hf := aw_It_f hV (k := 26) (v := kd) hI188 (by decide) rfl (aw_bp (a := aw_sgk (aw_sn (S.2.2.1 21) n b)) hkd (by omega) (by omega))
                  have hf2 := aw_It_f hV (k := 28) (v := x189) hf (by decide) rfl (aw_bp (a := x189.toInt) rfl (by omega) (by omega))
                  exact ⟨rfl, _, b, b + 2, 258, ⟨hb, Or.inr (Or.inr (Or.inr ⟨by omega, by omega, by omega, rfl, Or.inr (Or.inr (Or.inl ⟨by omega, by omega, rfl, rfl⟩))⟩))⟩, ⟨hkd, hx1, (by show x189.toInt = _; omega), rfl⟩, ⟨rfl, fun k h1 h2 h3 h4 => by simp [aw_wf, aj_u, h1, h2, h3, h4]⟩, hf2.1⟩
            · have q185 : x178.toInt = (61 : Int) := aw_t_ne (a := x178.toInt) (b := (61 : Int)) rfl rfl q185
              refine aw_n aj_d206 rfl rfl ?_
              refine aw_n aj_d206 rfl rfl ?_
              refine aw_p hV.1 aj_d206 rfl rfl (by decide) rfl ?_
              have hI190 := aw_It_f hV (k := 29) (v := (Int16.ofInt 257).toInt32) hI171 (by decide) rfl (aw_full _)
              refine aw_inc aj_d206 rfl rfl (a := x169.toInt) rfl (by omega) (by omega) (by decide) (by decide) (fun x191 e191 => ?_)
              show aw_W _ _ _ _ 284 [(2, .int x191), (4, .int x178), (3, .int x170), (1, .int x1), (0, .ref 117)] [] _ _
              refine aw_n aj_d206 rfl rfl ?_
              have hy1 := aw_sn_nz (f := S.2.2.1 21) (n := n) (k := b + 1)
              refine aw_nextM hV hI190 (e := b + 2) (by omega) (by omega) (fun kd hkd => ?_)
              rw [c170] at hkd
              have hkr := aw_sgk_35 (aw_sn (S.2.2.1 21) n b)
              have hf := aw_It_f hV (k := 26) (v := kd) hI190 (by decide) rfl (aw_bp (a := aw_sgk (aw_sn (S.2.2.1 21) n b)) hkd (by omega) (by omega))
              have hf2 := aw_It_f hV (k := 28) (v := x191) hf (by decide) rfl (aw_bp (a := x191.toInt) rfl (by omega) (by omega))
              exact ⟨rfl, _, b, b + 2, 257, ⟨hb, Or.inr (Or.inr (Or.inr ⟨by omega, by omega, by omega, rfl, Or.inr (Or.inl ⟨by omega, by omega, rfl, rfl⟩)⟩))⟩, ⟨hkd, hx1, (by show x191.toInt = _; omega), rfl⟩, ⟨rfl, fun k h1 h2 h3 h4 => by simp [aw_wf, aj_u, h1, h2, h3, h4]⟩, hf2.1⟩
        · have q179 : x170.toInt = (46 : Int) := aw_t_ne (a := x170.toInt) (b := (46 : Int)) rfl rfl q179
          refine aw_n aj_d206 rfl rfl ?_
          refine aw_n aj_d206 rfl rfl ?_
          refine aw_c (tgt := 261) aj_d206 rfl rfl (fun q192 => ?_) (fun q192 => ?_)
          · have q192 : x178.toInt ≠ (46 : Int) := aw_t_ne (a := x178.toInt) (b := (46 : Int)) rfl rfl q192
            refine aw_n aj_d206 rfl rfl ?_
            refine aw_n aj_d206 rfl rfl ?_
            refine aw_c (tgt := 287) aj_d206 rfl rfl (fun q193 => ?_) (fun q193 => ?_)
            · have q193 : x170.toInt ≠ (33 : Int) := aw_t_ne (a := x170.toInt) (b := (33 : Int)) rfl rfl q193
              refine aw_n aj_d206 rfl rfl ?_
              refine aw_n aj_d206 rfl rfl ?_
              refine aw_c (tgt := 310) aj_d206 rfl rfl (fun q194 => ?_) (fun q194 => ?_)
              · have q194 : x170.toInt ≠ (60 : Int) := aw_t_ne (a := x170.toInt) (b := (60 : Int)) rfl rfl q194
                have hy1 := aw_sn_nz (f := S.2.2.1 21) (n := n) (k := b + 1)
                refine aw_nextN hV hI171 (e := b + 1) (by omega) (by omega) (fun kd hkd => ?_)
                rw [c170] at hkd
                have hkr := aw_sgk_35 (aw_sn (S.2.2.1 21) n b)
                have hf := aw_It_f hV (k := 26) (v := kd) hI171 (by decide) rfl (aw_bp (a := aw_sgk (aw_sn (S.2.2.1 21) n b)) hkd (by omega) (by omega))
                have hf2 := aw_It_f hV (k := 28) (v := x169) hf (by decide) rfl (aw_bp (a := x169.toInt) rfl (by omega) (by omega))
                exact ⟨rfl, _, b, b + 1, _, ⟨hb, Or.inr (Or.inr (Or.inr ⟨by omega, by omega, by omega, rfl, Or.inr (Or.inr (Or.inr ⟨by omega, by omega, by omega, rfl, rfl⟩))⟩))⟩, ⟨hkd, hx1, (by show x169.toInt = _; omega), c170⟩, ⟨rfl, fun k h1 h2 h3 h4 => by simp [aw_wf, aj_u, h1, h2, h3, h4]⟩, hf2.1⟩
              · have q194 : x170.toInt = (60 : Int) := aw_t_ne (a := x170.toInt) (b := (60 : Int)) rfl rfl q194
                refine aw_n aj_d206 rfl rfl ?_
                refine aw_n aj_d206 rfl rfl ?_
                refine aw_c (tgt := 310) aj_d206 rfl rfl (fun q195 => ?_) (fun q195 => ?_)
                · have q195 : x178.toInt ≠ (61 : Int) := aw_t_ne (a := x178.toInt) (b := (61 : Int)) rfl rfl q195
                  have hy1 := aw_sn_nz (f := S.2.2.1 21) (n := n) (k := b + 1)
                  refine aw_nextN hV hI171 (e := b + 1) (by omega) (by omega) (fun kd hkd => ?_)
                  rw [c170] at hkd
                  have hkr := aw_sgk_35 (aw_sn (S.2.2.1 21) n b)
                  have hf := aw_It_f hV (k := 26) (v := kd) hI171 (by decide) rfl (aw_bp (a := aw_sgk (aw_sn (S.2.2.1 21) n b)) hkd (by omega) (by omega))
                  have hf2 := aw_It_f hV (k := 28) (v := x169) hf (by decide) rfl (aw_bp (a := x169.toInt) rfl (by omega) (by omega))
                  exact ⟨rfl, _, b, b + 1, _, ⟨hb, Or.inr (Or.inr (Or.inr ⟨by omega, by omega, by omega, rfl, Or.inr (Or.inr (Or.inr ⟨by omega, by omega, by omega, rfl, rfl⟩))⟩))⟩, ⟨hkd, hx1, (by show x169.toInt = _; omega), c170⟩, ⟨rfl, fun k h1 h2 h3 h4 => by simp [aw_wf, aj_u, h1, h2, h3, h4]⟩, hf2.1⟩
                · have q195 : x178.toInt = (61 : Int) := aw_t_ne (a := x178.toInt) (b := (61 : Int)) rfl rfl q195
                  refine aw_n aj_d206 rfl rfl ?_
                  refine aw_n aj_d206 rfl rfl ?_
                  refine aw_p hV.1 aj_d206 rfl rfl (by decide) rfl ?_
                  have hI196 := aw_It_f hV (k := 29) (v := (Int16.ofInt 258).toInt32) hI171 (by decide) rfl (aw_full _)
                  refine aw_inc aj_d206 rfl rfl (a := x169.toInt) rfl (by omega) (by omega) (by decide) (by decide) (fun x197 e197 => ?_)
                  show aw_W _ _ _ _ 310 [(2, .int x197), (4, .int x178), (3, .int x170), (1, .int x1), (0, .ref 117)] [] _ _
                  have hy1 := aw_sn_nz (f := S.2.2.1 21) (n := n) (k := b + 1)
                  refine aw_nextM hV hI196 (e := b + 2) (by omega) (by omega) (fun kd hkd => ?_)
                  rw [c170] at hkd
                  have hkr := aw_sgk_35 (aw_sn (S.2.2.1 21) n b)
                  have hf := aw_It_f hV (k := 26) (v := kd) hI196 (by decide) rfl (aw_bp (a := aw_sgk (aw_sn (S.2.2.1 21) n b)) hkd (by omega) (by omega))
                  have hf2 := aw_It_f hV (k := 28) (v := x197) hf (by decide) rfl (aw_bp (a := x197.toInt) rfl (by omega) (by omega))
                  exact ⟨rfl, _, b, b + 2, 258, ⟨hb, Or.inr (Or.inr (Or.inr ⟨by omega, by omega, by omega, rfl, Or.inr (Or.inr (Or.inl ⟨by omega, by omega, rfl, rfl⟩))⟩))⟩, ⟨hkd, hx1, (by show x197.toInt = _; omega), rfl⟩, ⟨rfl, fun k h1 h2 h3 h4 => by simp [aw_wf, aj_u, h1, h2, h3, h4]⟩, hf2.1⟩
            · have q193 : x170.toInt = (33 : Int) := aw_t_ne (a := x170.toInt) (b := (33 : Int)) rfl rfl q193
              refine aw_n aj_d206 rfl rfl ?_
              refine aw_n aj_d206 rfl rfl ?_
              refine aw_c (tgt := 287) aj_d206 rfl rfl (fun q198 => ?_) (fun q198 => ?_)
              · have q198 : x178.toInt ≠ (61 : Int) := aw_t_ne (a := x178.toInt) (b := (61 : Int)) rfl rfl q198
                refine aw_n aj_d206 rfl rfl ?_
                refine aw_n aj_d206 rfl rfl ?_
                refine aw_c (tgt := 310) aj_d206 rfl rfl (fun q199 => ?_) (fun q199 => ?_)
                · have q199 : x170.toInt ≠ (60 : Int) := aw_t_ne (a := x170.toInt) (b := (60 : Int)) rfl rfl q199
                  have hy1 := aw_sn_nz (f := S.2.2.1 21) (n := n) (k := b + 1)
                  refine aw_nextN hV hI171 (e := b + 1) (by omega) (by omega) (fun kd hkd => ?_)
                  rw [c170] at hkd
                  have hkr := aw_sgk_35 (aw_sn (S.2.2.1 21) n b)
                  have hf := aw_It_f hV (k := 26) (v := kd) hI171 (by decide) rfl (aw_bp (a := aw_sgk (aw_sn (S.2.2.1 21) n b)) hkd (by omega) (by omega))
                  have hf2 := aw_It_f hV (k := 28) (v := x169) hf (by decide) rfl (aw_bp (a := x169.toInt) rfl (by omega) (by omega))
                  exact ⟨rfl, _, b, b + 1, _, ⟨hb, Or.inr (Or.inr (Or.inr ⟨by omega, by omega, by omega, rfl, Or.inr (Or.inr (Or.inr ⟨by omega, by omega, by omega, rfl, rfl⟩))⟩))⟩, ⟨hkd, hx1, (by show x169.toInt = _; omega), c170⟩, ⟨rfl, fun k h1 h2 h3 h4 => by simp [aw_wf, aj_u, h1, h2, h3, h4]⟩, hf2.1⟩
                · have q199 : x170.toInt = (60 : Int) := aw_t_ne (a := x170.toInt) (b := (60 : Int)) rfl rfl q199
                  refine aw_n aj_d206 rfl rfl ?_
                  refine aw_n aj_d206 rfl rfl ?_
                  refine aw_c (tgt := 310) aj_d206 rfl rfl (fun q200 => ?_) (fun q200 => ?_)
                  · have q200 : x178.toInt ≠ (61 : Int) := aw_t_ne (a := x178.toInt) (b := (61 : Int)) rfl rfl q200
                    have hy1 := aw_sn_nz (f := S.2.2.1 21) (n := n) (k := b + 1)
                    refine aw_nextN hV hI171 (e := b + 1) (by omega) (by omega) (fun kd hkd => ?_)
                    rw [c170] at hkd
                    have hkr := aw_sgk_35 (aw_sn (S.2.2.1 21) n b)
                    have hf := aw_It_f hV (k := 26) (v := kd) hI171 (by decide) rfl (aw_bp (a := aw_sgk (aw_sn (S.2.2.1 21) n b)) hkd (by omega) (by omega))
                    have hf2 := aw_It_f hV (k := 28) (v := x169) hf (by decide) rfl (aw_bp (a := x169.toInt) rfl (by omega) (by omega))
                    exact ⟨rfl, _, b, b + 1, _, ⟨hb, Or.inr (Or.inr (Or.inr ⟨by omega, by omega, by omega, rfl, Or.inr (Or.inr (Or.inr ⟨by omega, by omega, by omega, rfl, rfl⟩))⟩))⟩, ⟨hkd, hx1, (by show x169.toInt = _; omega), c170⟩, ⟨rfl, fun k h1 h2 h3 h4 => by simp [aw_wf, aj_u, h1, h2, h3, h4]⟩, hf2.1⟩
                  · have q200 : x178.toInt = (61 : Int) := aw_t_ne (a := x178.toInt) (b := (61 : Int)) rfl rfl q200
                    refine aw_n aj_d206 rfl rfl ?_
                    refine aw_n aj_d206 rfl rfl ?_
                    refine aw_p hV.1 aj_d206 rfl rfl (by decide) rfl ?_
                    have hI201 := aw_It_f hV (k := 29) (v := (Int16.ofInt 258).toInt32) hI171 (by decide) rfl (aw_full _)
                    refine aw_inc aj_d206 rfl rfl (a := x169.toInt) rfl (by omega) (by omega) (by decide) (by decide) (fun x202 e202 => ?_)
                    show aw_W _ _ _ _ 310 [(2, .int x202), (4, .int x178), (3, .int x170), (1, .int x1), (0, .ref 117)] [] _ _
                    have hy1 := aw_sn_nz (f := S.2.2.1 21) (n := n) (k := b + 1)
                    refine aw_nextM hV hI201 (e := b + 2) (by omega) (by omega) (fun kd hkd => ?_)
                    rw [c170] at hkd
                    have hkr := aw_sgk_35 (aw_sn (S.2.2.1 21) n b)
                    have hf := aw_It_f hV (k := 26) (v := kd) hI201 (by decide) rfl (aw_bp (a := aw_sgk (aw_sn (S.2.2.1 21) n b)) hkd (by omega) (by omega))
                    have hf2 := aw_It_f hV (k := 28) (v := x202) hf (by decide) rfl (aw_bp (a := x202.toInt) rfl (by omega) (by omega))
                    exact ⟨rfl, _, b, b + 2, 258, ⟨hb, Or.inr (Or.inr (Or.inr ⟨by omega, by omega, by omega, rfl, Or.inr (Or.inr (Or.inl ⟨by omega, by omega, rfl, rfl⟩))⟩))⟩, ⟨hkd, hx1, (by show x202.toInt = _; omega), rfl⟩, ⟨rfl, fun k h1 h2 h3 h4 => by simp [aw_wf, aj_u, h1, h2, h3, h4]⟩, hf2.1⟩
              · have q198 : x178.toInt = (61 : Int) := aw_t_ne (a := x178.toInt) (b := (61 : Int)) rfl rfl q198
                refine aw_n aj_d206 rfl rfl ?_
                refine aw_n aj_d206 rfl rfl ?_
                refine aw_p hV.1 aj_d206 rfl rfl (by decide) rfl ?_
                have hI203 := aw_It_f hV (k := 29) (v := (Int16.ofInt 257).toInt32) hI171 (by decide) rfl (aw_full _)
                refine aw_inc aj_d206 rfl rfl (a := x169.toInt) rfl (by omega) (by omega) (by decide) (by decide) (fun x204 e204 => ?_)
                show aw_W _ _ _ _ 284 [(2, .int x204), (4, .int x178), (3, .int x170), (1, .int x1), (0, .ref 117)] [] _ _
                refine aw_n aj_d206 rfl rfl ?_
                have hy1 := aw_sn_nz (f := S.2.2.1 21) (n := n) (k := b + 1)
                refine aw_nextM hV hI203 (e := b + 2) (by omega) (by omega) (fun kd hkd => ?_)
                rw [c170] at hkd
                have hkr := aw_sgk_35 (aw_sn (S.2.2.1 21) n b)
                have hf := aw_It_f hV (k := 26) (v := kd) hI203 (by decide) rfl (aw_bp (a := aw_sgk (aw_sn (S.2.2.1 21) n b)) hkd (by omega) (by omega))
                have hf2 := aw_It_f hV (k := 28) (v := x204) hf (by decide) rfl (aw_bp (a := x204.toInt) rfl (by omega) (by omega))
                exact ⟨rfl, _, b, b + 2, 257, ⟨hb, Or.inr (Or.inr (Or.inr ⟨by omega, by omega, by omega, rfl, Or.inr (Or.inl ⟨by omega, by omega, rfl, rfl⟩)⟩))⟩, ⟨hkd, hx1, (by show x204.toInt = _; omega), rfl⟩, ⟨rfl, fun k h1 h2 h3 h4 => by simp [aw_wf, aj_u, h1, h2, h3, h4]⟩, hf2.1⟩
          · have q192 : x178.toInt = (46 : Int) := aw_t_ne (a := x178.toInt) (b := (46 : Int)) rfl rfl q192
            refine aw_n aj_d206 rfl rfl ?_
            refine aw_n aj_d206 rfl rfl ?_
            refine aw_p hV.1 aj_d206 rfl rfl (by decide) rfl ?_
            have hI205 := aw_It_f hV (k := 29) (v := (Int16.ofInt 256).toInt32) hI171 (by decide) rfl (aw_full _)
            refine aw_inc aj_d206 rfl rfl (a := x169.toInt) rfl (by omega) (by omega) (by decide) (by decide) (fun x206 e206 => ?_)
            show aw_W _ _ _ _ 258 [(2, .int x206), (4, .int x178), (3, .int x170), (1, .int x1), (0, .ref 117)] [] _ _
            refine aw_n aj_d206 rfl rfl ?_
            have hy1 := aw_sn_nz (f := S.2.2.1 21) (n := n) (k := b + 1)
            refine aw_nextM hV hI205 (e := b + 2) (by omega) (by omega) (fun kd hkd => ?_)
            rw [c170] at hkd
            have hkr := aw_sgk_35 (aw_sn (S.2.2.1 21) n b)
            have hf := aw_It_f hV (k := 26) (v := kd) hI205 (by decide) rfl (aw_bp (a := aw_sgk (aw_sn (S.2.2.1 21) n b)) hkd (by omega) (by omega))
            have hf2 := aw_It_f hV (k := 28) (v := x206) hf (by decide) rfl (aw_bp (a := x206.toInt) rfl (by omega) (by omega))
            exact ⟨rfl, _, b, b + 2, 256, ⟨hb, Or.inr (Or.inr (Or.inr ⟨by omega, by omega, by omega, rfl, Or.inl ⟨by omega, by omega, rfl, rfl⟩⟩))⟩, ⟨hkd, hx1, (by show x206.toInt = _; omega), rfl⟩, ⟨rfl, fun k h1 h2 h3 h4 => by simp [aw_wf, aj_u, h1, h2, h3, h4]⟩, hf2.1⟩
      · have q177 : x176.toInt ≠ (0 : Int) := aw_t_eq (a := x176.toInt) (b := (0 : Int)) rfl rfl q177
        refine aw_n aj_d206 rfl rfl ?_
        refine aw_n aj_d206 rfl rfl ?_
        refine aw_k hV.1 aj_d206 rfl rfl [_] rfl rfl rfl (Nat.le_of_ble_eq_true rfl) (aw_isDigit hV hI171 hn (by omega) (j := (b + 1)) (by omega)) ?_
        rintro _ _ ⟨x207, rfl, rfl, c207⟩
        replace c207 : (x207.toInt = 1 ∧ 48 ≤ aw_sn (S.2.2.1 21) n (b + 1) ∧ aw_sn (S.2.2.1 21) n (b + 1) ≤ 57) ∨ (x207.toInt = 0 ∧ ¬ (48 ≤ aw_sn (S.2.2.1 21) n (b + 1) ∧ aw_sn (S.2.2.1 21) n (b + 1) ≤ 57)) := c207
        show aw_W _ _ _ _ 200 [(3, .int x170), (2, .int x169), (1, .int x1), (0, .ref 117)] [.int x207] _ _
        refine aw_z (tgt := 209) aj_d206 rfl rfl (fun q208 => ?_) (fun q208 => ?_)
        · have q208 : x207.toInt = (0 : Int) := aw_t_eq (a := x207.toInt) (b := (0 : Int)) rfl rfl q208
          obtain ⟨e, he⟩ : ∃ e, e = aw_rd (S.2.2.1 21) n (n + 1) (b + 1) := ⟨_, rfl⟩
          have he2 : e = b + 1 := by
            rw [he]
            unfold aw_rd
            rw [if_neg (by omega)]
          have hy : x169.toInt = e := by omega
          refine aw_n aj_d206 rfl rfl ?_
          refine aw_n aj_d206 rfl rfl ?_
          refine aw_n aj_d206 rfl rfl ?_
          refine aw_sub aj_d206 rfl (a := (e : Int)) (b := (b : Int)) hy hx1 (by omega) (by omega) (fun x209 e209 => ?_)
          refine aw_n aj_d206 rfl rfl ?_
          refine aw_c (tgt := 221) aj_d206 rfl rfl (fun q210 => ?_) (fun q210 => ?_)
          · have q210 : x209.toInt ≤ (4 : Int) := aw_t_le (a := x209.toInt) (b := (4 : Int)) rfl rfl q210
            refine aw_n aj_d206 rfl rfl ?_
            refine aw_p hV.1 aj_d206 rfl rfl (by decide) rfl ?_
            have hI211 := aw_It_f hV (k := 26) (v := (Int32.ofInt 2)) hI171 (by decide) rfl (aw_bp (a := (2 : Int)) rfl (by omega) (by omega))
            refine aw_n aj_d206 rfl rfl ?_
            refine aw_n aj_d206 rfl rfl ?_
            refine aw_n aj_d206 rfl rfl ?_
            refine aw_p hV.1 aj_d206 rfl rfl (by decide) rfl ?_
            have hI212 := aw_It_f hV (k := 28) (v := x169) hI211 (by decide) rfl (aw_bp (a := (e : Int)) hy (by omega) (by omega))
            refine aw_e aj_d206 rfl rfl ?_
            exact ⟨rfl, 2, b, e, _, ⟨hb, Or.inr (Or.inr (Or.inl ⟨by omega, by omega, by omega, he, rfl, Or.inr ⟨by omega, rfl⟩⟩))⟩, ⟨rfl, hx1, hy, c170⟩, ⟨rfl, fun k h1 h2 h3 h4 => by simp [aw_wf, aj_u, h1, h2, h3, h4]⟩, hI212.1⟩
          · have q210 : x209.toInt > (4 : Int) := aw_t_le (a := x209.toInt) (b := (4 : Int)) rfl rfl q210
            refine aw_n aj_d206 rfl rfl ?_
            refine aw_n aj_d206 rfl rfl ?_
            refine aw_p hV.1 aj_d206 rfl rfl (by decide) rfl ?_
            have hI213 := aw_It_f hV (k := 26) (v := (Int32.ofInt 5)) hI171 (by decide) rfl (aw_bp (a := (5 : Int)) rfl (by omega) (by omega))
            refine aw_n aj_d206 rfl rfl ?_
            refine aw_n aj_d206 rfl rfl ?_
            refine aw_n aj_d206 rfl rfl ?_
            refine aw_p hV.1 aj_d206 rfl rfl (by decide) rfl ?_
            have hI214 := aw_It_f hV (k := 28) (v := x169) hI213 (by decide) rfl (aw_bp (a := (e : Int)) hy (by omega) (by omega))
            refine aw_e aj_d206 rfl rfl ?_
            exact ⟨rfl, 5, b, e, _, ⟨hb, Or.inr (Or.inr (Or.inl ⟨by omega, by omega, by omega, he, rfl, Or.inl ⟨by omega, rfl⟩⟩))⟩, ⟨rfl, hx1, hy, c170⟩, ⟨rfl, fun k h1 h2 h3 h4 => by simp [aw_wf, aj_u, h1, h2, h3, h4]⟩, hI214.1⟩
        · have q208 : x207.toInt ≠ (0 : Int) := aw_t_eq (a := x207.toInt) (b := (0 : Int)) rfl rfl q208
          refine aw_inc aj_d206 rfl rfl (a := x169.toInt) rfl (by omega) (by omega) (by decide) (by decide) (fun x215 e215 => ?_)
          show aw_W _ _ _ _ 206 [(2, .int x215), (3, .int x170), (1, .int x1), (0, .ref 117)] [] _ _
          refine aw_n aj_d206 rfl rfl ?_
          refine aw_next_l3 hV hI171 hn (by omega) n (b + 2) x215 (by omega) (by omega) (by omega) (fun y' hy' => ?_)
          obtain ⟨e, he⟩ : ∃ e, e = aw_rd (S.2.2.1 21) n (n + 1) (b + 1) := ⟨_, rfl⟩
          have he2 : e = aw_rd (S.2.2.1 21) n n (b + 2) := by
            rw [he]
            conv => lhs; unfold aw_rd
            rw [if_pos (by omega)]
          have hy : y'.toInt = e := by rw [he2]; exact hy'
          have hle := aw_rd_le (f := S.2.2.1 21) (n := n) (n + 1) (b + 1) (by omega)
          rw [← he] at hle
          show aw_W _ _ _ _ 209 [(2, .int y'), (3, .int x170), (1, .int x1), (0, .ref 117)] [] _ _
          refine aw_n aj_d206 rfl rfl ?_
          refine aw_n aj_d206 rfl rfl ?_
          refine aw_n aj_d206 rfl rfl ?_
          refine aw_sub aj_d206 rfl (a := (e : Int)) (b := (b : Int)) hy hx1 (by omega) (by omega) (fun x216 e216 => ?_)
          refine aw_n aj_d206 rfl rfl ?_
          refine aw_c (tgt := 221) aj_d206 rfl rfl (fun q217 => ?_) (fun q217 => ?_)
          · have q217 : x216.toInt ≤ (4 : Int) := aw_t_le (a := x216.toInt) (b := (4 : Int)) rfl rfl q217
            refine aw_n aj_d206 rfl rfl ?_
            refine aw_p hV.1 aj_d206 rfl rfl (by decide) rfl ?_
            have hI218 := aw_It_f hV (k := 26) (v := (Int32.ofInt 2)) hI171 (by decide) rfl (aw_bp (a := (2 : Int)) rfl (by omega) (by omega))
            refine aw_n aj_d206 rfl rfl ?_
            refine aw_n aj_d206 rfl rfl ?_
            refine aw_n aj_d206 rfl rfl ?_
            refine aw_p hV.1 aj_d206 rfl rfl (by decide) rfl ?_
            have hI219 := aw_It_f hV (k := 28) (v := y') hI218 (by decide) rfl (aw_bp (a := (e : Int)) hy (by omega) (by omega))
            refine aw_e aj_d206 rfl rfl ?_
            exact ⟨rfl, 2, b, e, _, ⟨hb, Or.inr (Or.inr (Or.inl ⟨by omega, by omega, by omega, he, rfl, Or.inr ⟨by omega, rfl⟩⟩))⟩, ⟨rfl, hx1, hy, c170⟩, ⟨rfl, fun k h1 h2 h3 h4 => by simp [aw_wf, aj_u, h1, h2, h3, h4]⟩, hI219.1⟩
          · have q217 : x216.toInt > (4 : Int) := aw_t_le (a := x216.toInt) (b := (4 : Int)) rfl rfl q217
            refine aw_n aj_d206 rfl rfl ?_
            refine aw_n aj_d206 rfl rfl ?_
            refine aw_p hV.1 aj_d206 rfl rfl (by decide) rfl ?_
            have hI220 := aw_It_f hV (k := 26) (v := (Int32.ofInt 5)) hI171 (by decide) rfl (aw_bp (a := (5 : Int)) rfl (by omega) (by omega))
            refine aw_n aj_d206 rfl rfl ?_
            refine aw_n aj_d206 rfl rfl ?_
            refine aw_n aj_d206 rfl rfl ?_
            refine aw_p hV.1 aj_d206 rfl rfl (by decide) rfl ?_
            have hI221 := aw_It_f hV (k := 28) (v := y') hI220 (by decide) rfl (aw_bp (a := (e : Int)) hy (by omega) (by omega))
            refine aw_e aj_d206 rfl rfl ?_
            exact ⟨rfl, 5, b, e, _, ⟨hb, Or.inr (Or.inr (Or.inl ⟨by omega, by omega, by omega, he, rfl, Or.inl ⟨by omega, rfl⟩⟩))⟩, ⟨rfl, hx1, hy, c170⟩, ⟨rfl, fun k h1 h2 h3 h4 => by simp [aw_wf, aj_u, h1, h2, h3, h4]⟩, hI221.1⟩
    · have q175 : x174.toInt ≠ (0 : Int) := aw_t_eq (a := x174.toInt) (b := (0 : Int)) rfl rfl q175
      refine aw_n aj_d206 rfl rfl ?_
      refine aw_n aj_d206 rfl rfl ?_
      refine aw_k hV.1 aj_d206 rfl rfl [_] rfl rfl rfl (Nat.le_of_ble_eq_true rfl) (aw_isLetter hV hI171 hn (by omega) (j := (b + 1)) (by omega)) ?_
      rintro _ _ ⟨x222, rfl, rfl, c222⟩
      replace c222 : (x222.toInt = 1 ∧ 97 ≤ aw_sn (S.2.2.1 21) n (b + 1) ∧ aw_sn (S.2.2.1 21) n (b + 1) ≤ 122) ∨ (x222.toInt = 0 ∧ ¬ (97 ≤ aw_sn (S.2.2.1 21) n (b + 1) ∧ aw_sn (S.2.2.1 21) n (b + 1) ≤ 122)) := c222
      show aw_W _ _ _ _ 114 [(3, .int x170), (2, .int x169), (1, .int x1), (0, .ref 117)] [.int x222] _ _
      refine aw_z (tgt := 125) aj_d206 rfl rfl (fun q223 => ?_) (fun q223 => ?_)
      · have q223 : x222.toInt ≠ (0 : Int) := aw_t_ne (a := x222.toInt) (b := (0 : Int)) rfl rfl q223
        refine aw_inc aj_d206 rfl rfl (a := x169.toInt) rfl (by omega) (by omega) (by decide) (by decide) (fun x224 e224 => ?_)
        show aw_W _ _ _ _ 128 [(2, .int x224), (3, .int x170), (1, .int x1), (0, .ref 117)] [] _ _
        refine aw_n aj_d206 rfl rfl ?_
        refine aw_next_l2 hV hI171 hn (by omega) n (b + 2) x224 (by omega) (by omega) (by omega) (fun y' hy' => ?_)
        obtain ⟨e, he⟩ : ∃ e, e = aw_rl (S.2.2.1 21) n (n + 1) (b + 1) := ⟨_, rfl⟩
        have he2 : e = aw_rl (S.2.2.1 21) n n (b + 2) := by
          rw [he]
          conv => lhs; unfold aw_rl
          rw [if_pos (by omega)]
        have hy : y'.toInt = e := by rw [he2]; exact hy'
        have hle := aw_rl_le (f := S.2.2.1 21) (n := n) (n + 1) (b + 1) (by omega)
        rw [← he] at hle
        show aw_W _ _ _ _ 131 [(2, .int y'), (3, .int x170), (1, .int x1), (0, .ref 117)] [] _ _
        refine aw_n aj_d206 rfl rfl ?_
        refine aw_n aj_d206 rfl rfl ?_
        refine aw_n aj_d206 rfl rfl ?_
        refine aw_sub aj_d206 rfl (a := (e : Int)) (b := (b : Int)) hy hx1 (by omega) (by omega) (fun x225 e225 => ?_)
        refine aw_n aj_d206 rfl rfl ?_
        refine aw_c (tgt := 144) aj_d206 rfl rfl (fun q226 => ?_) (fun q226 => ?_)
        · have q226 : x225.toInt ≤ (8 : Int) := aw_t_le (a := x225.toInt) (b := (8 : Int)) rfl rfl q226
          refine aw_n aj_d206 rfl rfl ?_
          refine aw_n aj_d206 rfl rfl ?_
          refine aw_n aj_d206 rfl rfl ?_
          refine aw_k hV.1 aj_d206 rfl rfl [_, _] rfl rfl rfl (Nat.le_of_ble_eq_true rfl) (aw_packedK hV (by omega) hx1 (b := e) hy (by omega) (by omega)) ?_
          rintro _ _ ⟨y227, rfl, rfl, c227⟩
          show aw_W _ _ _ _ 150 [(2, .int y'), (3, .int x170), (1, .int x1), (0, .ref 117)] [.long y227, .ref 117] _ _
          refine aw_ks aj_d206 rfl rfl rfl [_] rfl rfl (Nat.le_of_ble_eq_true rfl) (aw_wordK (by omega)) ?_
          rintro _ _ ⟨x228, rfl, rfl, c228⟩
          replace c228 : x228.toInt = aw_word (aj_packV (S.2.2.1 21) (e - b) b (Int64.ofNat 0)) := c228.trans (congrArg aw_word c227)
          show aw_W _ _ _ _ 153 [(2, .int y'), (3, .int x170), (1, .int x1), (0, .ref 117)] [.int x228, .ref 117] _ _
          refine aw_p hV.1 aj_d206 rfl rfl (by decide) rfl ?_
          have hI229 := aw_It_f hV (k := 29) (v := x228) hI171 (by decide) rfl (aw_full _)
          refine aw_n aj_d206 rfl rfl ?_
          refine aw_n aj_d206 rfl rfl ?_
          refine aw_n aj_d206 rfl rfl ?_
          refine aw_sub aj_d206 rfl (a := (e : Int)) (b := (b : Int)) hy hx1 (by omega) (by omega) (fun x230 e230 => ?_)
          refine aw_n aj_d206 rfl rfl ?_
          refine aw_c (tgt := 169) aj_d206 rfl rfl (fun q231 => ?_) (fun q231 => ?_)
          · have q231 : x230.toInt ≤ (8 : Int) := aw_t_le (a := x230.toInt) (b := (8 : Int)) rfl rfl q231
            refine aw_n aj_d206 rfl rfl ?_
            refine aw_g hV.1 aj_d206 rfl rfl (by decide) (v := .int x228) rfl ?_
            refine aw_z (tgt := 180) aj_d206 rfl rfl (fun q232 => ?_) (fun q232 => ?_)
            · have q232 : x228.toInt < (0 : Int) := aw_t_lt (a := x228.toInt) (b := (0 : Int)) rfl rfl q232
              refine aw_n aj_d206 rfl rfl ?_
              refine aw_p hV.1 aj_d206 rfl rfl (by decide) rfl ?_
              have hI233 := aw_It_f hV (k := 26) (v := (Int32.ofInt 1)) hI229 (by decide) rfl (aw_bp (a := (1 : Int)) rfl (by omega) (by omega))
              refine aw_n aj_d206 rfl rfl ?_
              refine aw_n aj_d206 rfl rfl ?_
              refine aw_n aj_d206 rfl rfl ?_
              refine aw_p hV.1 aj_d206 rfl rfl (by decide) rfl ?_
              have hI234 := aw_It_f hV (k := 28) (v := y') hI233 (by decide) rfl (aw_bp (a := (e : Int)) hy (by omega) (by omega))
              refine aw_e aj_d206 rfl rfl ?_
              exact ⟨rfl, 1, b, e, _, ⟨hb, Or.inr (Or.inl ⟨by omega, by omega, he, Or.inr ⟨by omega, rfl, Or.inr ⟨by omega, rfl⟩⟩⟩)⟩, ⟨rfl, hx1, hy, c228⟩, ⟨rfl, fun k h1 h2 h3 h4 => by simp [aw_wf, aj_u, h1, h2, h3, h4]⟩, hI234.1⟩
            · have q232 : x228.toInt ≥ (0 : Int) := aw_t_lt (a := x228.toInt) (b := (0 : Int)) rfl rfl q232
              refine aw_n aj_d206 rfl rfl ?_
              refine aw_n aj_d206 rfl rfl ?_
              refine aw_p hV.1 aj_d206 rfl rfl (by decide) rfl ?_
              have hI235 := aw_It_f hV (k := 26) (v := (Int32.ofInt 4)) hI229 (by decide) rfl (aw_bp (a := (4 : Int)) rfl (by omega) (by omega))
              refine aw_n aj_d206 rfl rfl ?_
              refine aw_n aj_d206 rfl rfl ?_
              refine aw_n aj_d206 rfl rfl ?_
              refine aw_p hV.1 aj_d206 rfl rfl (by decide) rfl ?_
              have hI236 := aw_It_f hV (k := 28) (v := y') hI235 (by decide) rfl (aw_bp (a := (e : Int)) hy (by omega) (by omega))
              refine aw_e aj_d206 rfl rfl ?_
              exact ⟨rfl, 4, b, e, _, ⟨hb, Or.inr (Or.inl ⟨by omega, by omega, he, Or.inr ⟨by omega, rfl, Or.inl ⟨by omega, rfl⟩⟩⟩)⟩, ⟨rfl, hx1, hy, c228⟩, ⟨rfl, fun k h1 h2 h3 h4 => by simp [aw_wf, aj_u, h1, h2, h3, h4]⟩, hI236.1⟩
          · have q231 : x230.toInt > (8 : Int) := aw_t_le (a := x230.toInt) (b := (8 : Int)) rfl rfl q231
            exfalso
            omega
        · have q226 : x225.toInt > (8 : Int) := aw_t_le (a := x225.toInt) (b := (8 : Int)) rfl rfl q226
          refine aw_n aj_d206 rfl rfl ?_
          refine aw_n aj_d206 rfl rfl ?_
          refine aw_p hV.1 aj_d206 rfl rfl (by decide) rfl ?_
          have hI237 := aw_It_f hV (k := 29) (v := (Int32.ofInt (-1))) hI171 (by decide) rfl (aw_full _)
          refine aw_n aj_d206 rfl rfl ?_
          refine aw_n aj_d206 rfl rfl ?_
          refine aw_n aj_d206 rfl rfl ?_
          refine aw_sub aj_d206 rfl (a := (e : Int)) (b := (b : Int)) hy hx1 (by omega) (by omega) (fun x238 e238 => ?_)
          refine aw_n aj_d206 rfl rfl ?_
          refine aw_c (tgt := 169) aj_d206 rfl rfl (fun q239 => ?_) (fun q239 => ?_)
          · have q239 : x238.toInt ≤ (8 : Int) := aw_t_le (a := x238.toInt) (b := (8 : Int)) rfl rfl q239
            exfalso
            omega
          · have q239 : x238.toInt > (8 : Int) := aw_t_le (a := x238.toInt) (b := (8 : Int)) rfl rfl q239
            refine aw_n aj_d206 rfl rfl ?_
            refine aw_n aj_d206 rfl rfl ?_
            refine aw_p hV.1 aj_d206 rfl rfl (by decide) rfl ?_
            have hI240 := aw_It_f hV (k := 26) (v := (Int32.ofInt 5)) hI237 (by decide) rfl (aw_bp (a := (5 : Int)) rfl (by omega) (by omega))
            refine aw_n aj_d206 rfl rfl ?_
            refine aw_n aj_d206 rfl rfl ?_
            refine aw_n aj_d206 rfl rfl ?_
            refine aw_p hV.1 aj_d206 rfl rfl (by decide) rfl ?_
            have hI241 := aw_It_f hV (k := 28) (v := y') hI240 (by decide) rfl (aw_bp (a := (e : Int)) hy (by omega) (by omega))
            refine aw_e aj_d206 rfl rfl ?_
            exact ⟨rfl, 5, b, e, -1, ⟨hb, Or.inr (Or.inl ⟨by omega, by omega, he, Or.inl ⟨by omega, rfl, rfl⟩⟩)⟩, ⟨rfl, hx1, hy, rfl⟩, ⟨rfl, fun k h1 h2 h3 h4 => by simp [aw_wf, aj_u, h1, h2, h3, h4]⟩, hI241.1⟩
      · have q223 : x222.toInt = (0 : Int) := aw_t_ne (a := x222.toInt) (b := (0 : Int)) rfl rfl q223
        refine aw_n aj_d206 rfl rfl ?_
        refine aw_n aj_d206 rfl rfl ?_
        refine aw_k hV.1 aj_d206 rfl rfl [_] rfl rfl rfl (Nat.le_of_ble_eq_true rfl) (aw_isDigit hV hI171 hn (by omega) (j := (b + 1)) (by omega)) ?_
        rintro _ _ ⟨x242, rfl, rfl, c242⟩
        replace c242 : (x242.toInt = 1 ∧ 48 ≤ aw_sn (S.2.2.1 21) n (b + 1) ∧ aw_sn (S.2.2.1 21) n (b + 1) ≤ 57) ∨ (x242.toInt = 0 ∧ ¬ (48 ≤ aw_sn (S.2.2.1 21) n (b + 1) ∧ aw_sn (S.2.2.1 21) n (b + 1) ≤ 57)) := c242
        show aw_W _ _ _ _ 122 [(3, .int x170), (2, .int x169), (1, .int x1), (0, .ref 117)] [.int x242] _ _
        refine aw_z (tgt := 131) aj_d206 rfl rfl (fun q243 => ?_) (fun q243 => ?_)
        · have q243 : x242.toInt = (0 : Int) := aw_t_eq (a := x242.toInt) (b := (0 : Int)) rfl rfl q243
          obtain ⟨e, he⟩ : ∃ e, e = aw_rl (S.2.2.1 21) n (n + 1) (b + 1) := ⟨_, rfl⟩
          have he2 : e = b + 1 := by
            rw [he]
            unfold aw_rl
            rw [if_neg (by omega)]
          have hy : x169.toInt = e := by omega
          refine aw_n aj_d206 rfl rfl ?_
          refine aw_n aj_d206 rfl rfl ?_
          refine aw_n aj_d206 rfl rfl ?_
          refine aw_sub aj_d206 rfl (a := (e : Int)) (b := (b : Int)) hy hx1 (by omega) (by omega) (fun x244 e244 => ?_)
          refine aw_n aj_d206 rfl rfl ?_
          refine aw_c (tgt := 144) aj_d206 rfl rfl (fun q245 => ?_) (fun q245 => ?_)
          · have q245 : x244.toInt ≤ (8 : Int) := aw_t_le (a := x244.toInt) (b := (8 : Int)) rfl rfl q245
            refine aw_n aj_d206 rfl rfl ?_
            refine aw_n aj_d206 rfl rfl ?_
            refine aw_n aj_d206 rfl rfl ?_
            refine aw_k hV.1 aj_d206 rfl rfl [_, _] rfl rfl rfl (Nat.le_of_ble_eq_true rfl) (aw_packedK hV (by omega) hx1 (b := e) hy (by omega) (by omega)) ?_
            rintro _ _ ⟨y246, rfl, rfl, c246⟩
            show aw_W _ _ _ _ 150 [(3, .int x170), (2, .int x169), (1, .int x1), (0, .ref 117)] [.long y246, .ref 117] _ _
            refine aw_ks aj_d206 rfl rfl rfl [_] rfl rfl (Nat.le_of_ble_eq_true rfl) (aw_wordK (by omega)) ?_
            rintro _ _ ⟨x247, rfl, rfl, c247⟩
            replace c247 : x247.toInt = aw_word (aj_packV (S.2.2.1 21) (e - b) b (Int64.ofNat 0)) := c247.trans (congrArg aw_word c246)
            show aw_W _ _ _ _ 153 [(3, .int x170), (2, .int x169), (1, .int x1), (0, .ref 117)] [.int x247, .ref 117] _ _
            refine aw_p hV.1 aj_d206 rfl rfl (by decide) rfl ?_
            have hI248 := aw_It_f hV (k := 29) (v := x247) hI171 (by decide) rfl (aw_full _)
            refine aw_n aj_d206 rfl rfl ?_
            refine aw_n aj_d206 rfl rfl ?_
            refine aw_n aj_d206 rfl rfl ?_
            refine aw_sub aj_d206 rfl (a := (e : Int)) (b := (b : Int)) hy hx1 (by omega) (by omega) (fun x249 e249 => ?_)
            refine aw_n aj_d206 rfl rfl ?_
            refine aw_c (tgt := 169) aj_d206 rfl rfl (fun q250 => ?_) (fun q250 => ?_)
            · have q250 : x249.toInt ≤ (8 : Int) := aw_t_le (a := x249.toInt) (b := (8 : Int)) rfl rfl q250
              refine aw_n aj_d206 rfl rfl ?_
              refine aw_g hV.1 aj_d206 rfl rfl (by decide) (v := .int x247) rfl ?_
              refine aw_z (tgt := 180) aj_d206 rfl rfl (fun q251 => ?_) (fun q251 => ?_)
              · have q251 : x247.toInt < (0 : Int) := aw_t_lt (a := x247.toInt) (b := (0 : Int)) rfl rfl q251
                refine aw_n aj_d206 rfl rfl ?_
                refine aw_p hV.1 aj_d206 rfl rfl (by decide) rfl ?_
                have hI252 := aw_It_f hV (k := 26) (v := (Int32.ofInt 1)) hI248 (by decide) rfl (aw_bp (a := (1 : Int)) rfl (by omega) (by omega))
                refine aw_n aj_d206 rfl rfl ?_
                refine aw_n aj_d206 rfl rfl ?_
                refine aw_n aj_d206 rfl rfl ?_
                refine aw_p hV.1 aj_d206 rfl rfl (by decide) rfl ?_
                have hI253 := aw_It_f hV (k := 28) (v := x169) hI252 (by decide) rfl (aw_bp (a := (e : Int)) hy (by omega) (by omega))
                refine aw_e aj_d206 rfl rfl ?_
                exact ⟨rfl, 1, b, e, _, ⟨hb, Or.inr (Or.inl ⟨by omega, by omega, he, Or.inr ⟨by omega, rfl, Or.inr ⟨by omega, rfl⟩⟩⟩)⟩, ⟨rfl, hx1, hy, c247⟩, ⟨rfl, fun k h1 h2 h3 h4 => by simp [aw_wf, aj_u, h1, h2, h3, h4]⟩, hI253.1⟩
              · have q251 : x247.toInt ≥ (0 : Int) := aw_t_lt (a := x247.toInt) (b := (0 : Int)) rfl rfl q251
                refine aw_n aj_d206 rfl rfl ?_
                refine aw_n aj_d206 rfl rfl ?_
                refine aw_p hV.1 aj_d206 rfl rfl (by decide) rfl ?_
                have hI254 := aw_It_f hV (k := 26) (v := (Int32.ofInt 4)) hI248 (by decide) rfl (aw_bp (a := (4 : Int)) rfl (by omega) (by omega))
                refine aw_n aj_d206 rfl rfl ?_
                refine aw_n aj_d206 rfl rfl ?_
                refine aw_n aj_d206 rfl rfl ?_
                refine aw_p hV.1 aj_d206 rfl rfl (by decide) rfl ?_
                have hI255 := aw_It_f hV (k := 28) (v := x169) hI254 (by decide) rfl (aw_bp (a := (e : Int)) hy (by omega) (by omega))
                refine aw_e aj_d206 rfl rfl ?_
                exact ⟨rfl, 4, b, e, _, ⟨hb, Or.inr (Or.inl ⟨by omega, by omega, he, Or.inr ⟨by omega, rfl, Or.inl ⟨by omega, rfl⟩⟩⟩)⟩, ⟨rfl, hx1, hy, c247⟩, ⟨rfl, fun k h1 h2 h3 h4 => by simp [aw_wf, aj_u, h1, h2, h3, h4]⟩, hI255.1⟩
            · have q250 : x249.toInt > (8 : Int) := aw_t_le (a := x249.toInt) (b := (8 : Int)) rfl rfl q250
              exfalso
              omega
          · have q245 : x244.toInt > (8 : Int) := aw_t_le (a := x244.toInt) (b := (8 : Int)) rfl rfl q245
            refine aw_n aj_d206 rfl rfl ?_
            refine aw_n aj_d206 rfl rfl ?_
            refine aw_p hV.1 aj_d206 rfl rfl (by decide) rfl ?_
            have hI256 := aw_It_f hV (k := 29) (v := (Int32.ofInt (-1))) hI171 (by decide) rfl (aw_full _)
            refine aw_n aj_d206 rfl rfl ?_
            refine aw_n aj_d206 rfl rfl ?_
            refine aw_n aj_d206 rfl rfl ?_
            refine aw_sub aj_d206 rfl (a := (e : Int)) (b := (b : Int)) hy hx1 (by omega) (by omega) (fun x257 e257 => ?_)
            refine aw_n aj_d206 rfl rfl ?_
            refine aw_c (tgt := 169) aj_d206 rfl rfl (fun q258 => ?_) (fun q258 => ?_)
            · have q258 : x257.toInt ≤ (8 : Int) := aw_t_le (a := x257.toInt) (b := (8 : Int)) rfl rfl q258
              exfalso
              omega
            · have q258 : x257.toInt > (8 : Int) := aw_t_le (a := x257.toInt) (b := (8 : Int)) rfl rfl q258
              refine aw_n aj_d206 rfl rfl ?_
              refine aw_n aj_d206 rfl rfl ?_
              refine aw_p hV.1 aj_d206 rfl rfl (by decide) rfl ?_
              have hI259 := aw_It_f hV (k := 26) (v := (Int32.ofInt 5)) hI256 (by decide) rfl (aw_bp (a := (5 : Int)) rfl (by omega) (by omega))
              refine aw_n aj_d206 rfl rfl ?_
              refine aw_n aj_d206 rfl rfl ?_
              refine aw_n aj_d206 rfl rfl ?_
              refine aw_p hV.1 aj_d206 rfl rfl (by decide) rfl ?_
              have hI260 := aw_It_f hV (k := 28) (v := x169) hI259 (by decide) rfl (aw_bp (a := (e : Int)) hy (by omega) (by omega))
              refine aw_e aj_d206 rfl rfl ?_
              exact ⟨rfl, 5, b, e, -1, ⟨hb, Or.inr (Or.inl ⟨by omega, by omega, he, Or.inl ⟨by omega, rfl, rfl⟩⟩)⟩, ⟨rfl, hx1, hy, rfl⟩, ⟨rfl, fun k h1 h2 h3 h4 => by simp [aw_wf, aj_u, h1, h2, h3, h4]⟩, hI260.1⟩
        · have q243 : x242.toInt ≠ (0 : Int) := aw_t_eq (a := x242.toInt) (b := (0 : Int)) rfl rfl q243
          refine aw_inc aj_d206 rfl rfl (a := x169.toInt) rfl (by omega) (by omega) (by decide) (by decide) (fun x261 e261 => ?_)
          show aw_W _ _ _ _ 128 [(2, .int x261), (3, .int x170), (1, .int x1), (0, .ref 117)] [] _ _
          refine aw_n aj_d206 rfl rfl ?_
          refine aw_next_l2 hV hI171 hn (by omega) n (b + 2) x261 (by omega) (by omega) (by omega) (fun y' hy' => ?_)
          obtain ⟨e, he⟩ : ∃ e, e = aw_rl (S.2.2.1 21) n (n + 1) (b + 1) := ⟨_, rfl⟩
          have he2 : e = aw_rl (S.2.2.1 21) n n (b + 2) := by
            rw [he]
            conv => lhs; unfold aw_rl
            rw [if_pos (by omega)]
          have hy : y'.toInt = e := by rw [he2]; exact hy'
          have hle := aw_rl_le (f := S.2.2.1 21) (n := n) (n + 1) (b + 1) (by omega)
          rw [← he] at hle
          show aw_W _ _ _ _ 131 [(2, .int y'), (3, .int x170), (1, .int x1), (0, .ref 117)] [] _ _
          refine aw_n aj_d206 rfl rfl ?_
          refine aw_n aj_d206 rfl rfl ?_
          refine aw_n aj_d206 rfl rfl ?_
          refine aw_sub aj_d206 rfl (a := (e : Int)) (b := (b : Int)) hy hx1 (by omega) (by omega) (fun x262 e262 => ?_)
          refine aw_n aj_d206 rfl rfl ?_
          refine aw_c (tgt := 144) aj_d206 rfl rfl (fun q263 => ?_) (fun q263 => ?_)
          · have q263 : x262.toInt ≤ (8 : Int) := aw_t_le (a := x262.toInt) (b := (8 : Int)) rfl rfl q263
            refine aw_n aj_d206 rfl rfl ?_
            refine aw_n aj_d206 rfl rfl ?_
            refine aw_n aj_d206 rfl rfl ?_
            refine aw_k hV.1 aj_d206 rfl rfl [_, _] rfl rfl rfl (Nat.le_of_ble_eq_true rfl) (aw_packedK hV (by omega) hx1 (b := e) hy (by omega) (by omega)) ?_
            rintro _ _ ⟨y264, rfl, rfl, c264⟩
            show aw_W _ _ _ _ 150 [(2, .int y'), (3, .int x170), (1, .int x1), (0, .ref 117)] [.long y264, .ref 117] _ _
            refine aw_ks aj_d206 rfl rfl rfl [_] rfl rfl (Nat.le_of_ble_eq_true rfl) (aw_wordK (by omega)) ?_
            rintro _ _ ⟨x265, rfl, rfl, c265⟩
            replace c265 : x265.toInt = aw_word (aj_packV (S.2.2.1 21) (e - b) b (Int64.ofNat 0)) := c265.trans (congrArg aw_word c264)
            show aw_W _ _ _ _ 153 [(2, .int y'), (3, .int x170), (1, .int x1), (0, .ref 117)] [.int x265, .ref 117] _ _
            refine aw_p hV.1 aj_d206 rfl rfl (by decide) rfl ?_
            have hI266 := aw_It_f hV (k := 29) (v := x265) hI171 (by decide) rfl (aw_full _)
            refine aw_n aj_d206 rfl rfl ?_
            refine aw_n aj_d206 rfl rfl ?_
            refine aw_n aj_d206 rfl rfl ?_
            refine aw_sub aj_d206 rfl (a := (e : Int)) (b := (b : Int)) hy hx1 (by omega) (by omega) (fun x267 e267 => ?_)
            refine aw_n aj_d206 rfl rfl ?_
            refine aw_c (tgt := 169) aj_d206 rfl rfl (fun q268 => ?_) (fun q268 => ?_)
            · have q268 : x267.toInt ≤ (8 : Int) := aw_t_le (a := x267.toInt) (b := (8 : Int)) rfl rfl q268
              refine aw_n aj_d206 rfl rfl ?_
              refine aw_g hV.1 aj_d206 rfl rfl (by decide) (v := .int x265) rfl ?_
              refine aw_z (tgt := 180) aj_d206 rfl rfl (fun q269 => ?_) (fun q269 => ?_)
              · have q269 : x265.toInt < (0 : Int) := aw_t_lt (a := x265.toInt) (b := (0 : Int)) rfl rfl q269
                refine aw_n aj_d206 rfl rfl ?_
                refine aw_p hV.1 aj_d206 rfl rfl (by decide) rfl ?_
                have hI270 := aw_It_f hV (k := 26) (v := (Int32.ofInt 1)) hI266 (by decide) rfl (aw_bp (a := (1 : Int)) rfl (by omega) (by omega))
                refine aw_n aj_d206 rfl rfl ?_
                refine aw_n aj_d206 rfl rfl ?_
                refine aw_n aj_d206 rfl rfl ?_
                refine aw_p hV.1 aj_d206 rfl rfl (by decide) rfl ?_
                have hI271 := aw_It_f hV (k := 28) (v := y') hI270 (by decide) rfl (aw_bp (a := (e : Int)) hy (by omega) (by omega))
                refine aw_e aj_d206 rfl rfl ?_
                exact ⟨rfl, 1, b, e, _, ⟨hb, Or.inr (Or.inl ⟨by omega, by omega, he, Or.inr ⟨by omega, rfl, Or.inr ⟨by omega, rfl⟩⟩⟩)⟩, ⟨rfl, hx1, hy, c265⟩, ⟨rfl, fun k h1 h2 h3 h4 => by simp [aw_wf, aj_u, h1, h2, h3, h4]⟩, hI271.1⟩
              · have q269 : x265.toInt ≥ (0 : Int) := aw_t_lt (a := x265.toInt) (b := (0 : Int)) rfl rfl q269
                refine aw_n aj_d206 rfl rfl ?_
                refine aw_n aj_d206 rfl rfl ?_
                refine aw_p hV.1 aj_d206 rfl rfl (by decide) rfl ?_
                have hI272 := aw_It_f hV (k := 26) (v := (Int32.ofInt 4)) hI266 (by decide) rfl (aw_bp (a := (4 : Int)) rfl (by omega) (by omega))
                refine aw_n aj_d206 rfl rfl ?_
                refine aw_n aj_d206 rfl rfl ?_
                refine aw_n aj_d206 rfl rfl ?_
                refine aw_p hV.1 aj_d206 rfl rfl (by decide) rfl ?_
                have hI273 := aw_It_f hV (k := 28) (v := y') hI272 (by decide) rfl (aw_bp (a := (e : Int)) hy (by omega) (by omega))
                refine aw_e aj_d206 rfl rfl ?_
                exact ⟨rfl, 4, b, e, _, ⟨hb, Or.inr (Or.inl ⟨by omega, by omega, he, Or.inr ⟨by omega, rfl, Or.inl ⟨by omega, rfl⟩⟩⟩)⟩, ⟨rfl, hx1, hy, c265⟩, ⟨rfl, fun k h1 h2 h3 h4 => by simp [aw_wf, aj_u, h1, h2, h3, h4]⟩, hI273.1⟩
            · have q268 : x267.toInt > (8 : Int) := aw_t_le (a := x267.toInt) (b := (8 : Int)) rfl rfl q268
              exfalso
              omega
          · have q263 : x262.toInt > (8 : Int) := aw_t_le (a := x262.toInt) (b := (8 : Int)) rfl rfl q263
            refine aw_n aj_d206 rfl rfl ?_
            refine aw_n aj_d206 rfl rfl ?_
            refine aw_p hV.1 aj_d206 rfl rfl (by decide) rfl ?_
            have hI274 := aw_It_f hV (k := 29) (v := (Int32.ofInt (-1))) hI171 (by decide) rfl (aw_full _)
            refine aw_n aj_d206 rfl rfl ?_
            refine aw_n aj_d206 rfl rfl ?_
            refine aw_n aj_d206 rfl rfl ?_
            refine aw_sub aj_d206 rfl (a := (e : Int)) (b := (b : Int)) hy hx1 (by omega) (by omega) (fun x275 e275 => ?_)
            refine aw_n aj_d206 rfl rfl ?_
            refine aw_c (tgt := 169) aj_d206 rfl rfl (fun q276 => ?_) (fun q276 => ?_)
            · have q276 : x275.toInt ≤ (8 : Int) := aw_t_le (a := x275.toInt) (b := (8 : Int)) rfl rfl q276
              exfalso
              omega
            · have q276 : x275.toInt > (8 : Int) := aw_t_le (a := x275.toInt) (b := (8 : Int)) rfl rfl q276
              refine aw_n aj_d206 rfl rfl ?_
              refine aw_n aj_d206 rfl rfl ?_
              refine aw_p hV.1 aj_d206 rfl rfl (by decide) rfl ?_
              have hI277 := aw_It_f hV (k := 26) (v := (Int32.ofInt 5)) hI274 (by decide) rfl (aw_bp (a := (5 : Int)) rfl (by omega) (by omega))
              refine aw_n aj_d206 rfl rfl ?_
              refine aw_n aj_d206 rfl rfl ?_
              refine aw_n aj_d206 rfl rfl ?_
              refine aw_p hV.1 aj_d206 rfl rfl (by decide) rfl ?_
              have hI278 := aw_It_f hV (k := 28) (v := y') hI277 (by decide) rfl (aw_bp (a := (e : Int)) hy (by omega) (by omega))
              refine aw_e aj_d206 rfl rfl ?_
              exact ⟨rfl, 5, b, e, -1, ⟨hb, Or.inr (Or.inl ⟨by omega, by omega, he, Or.inl ⟨by omega, rfl, rfl⟩⟩)⟩, ⟨rfl, hx1, hy, rfl⟩, ⟨rfl, fun k h1 h2 h3 h4 => by simp [aw_wf, aj_u, h1, h2, h3, h4]⟩, hI278.1⟩
  · have q173 : (b : Int) ≥ (S.1 23).toInt := aw_t_lt (a := (b : Int)) (b := (S.1 23).toInt) hx1 rfl q173
    refine aw_n aj_d206 rfl rfl ?_
    refine aw_n aj_d206 rfl rfl ?_
    refine aw_p hV.1 aj_d206 rfl rfl (by decide) rfl ?_
    have hI279 := aw_It_f hV (k := 26) (v := (Int32.ofInt 0)) hI171 (by decide) rfl (aw_bp (a := (0 : Int)) rfl (by omega) (by omega))
    refine aw_n aj_d206 rfl rfl ?_
    refine aw_n aj_d206 rfl rfl ?_
    show aw_W _ _ _ _ 98 [(2, .int x1), (3, .int x170), (1, .int x1), (0, .ref 117)] [] _ _
    refine aw_n aj_d206 rfl rfl ?_
    refine aw_n aj_d206 rfl rfl ?_
    refine aw_n aj_d206 rfl rfl ?_
    refine aw_p hV.1 aj_d206 rfl rfl (by decide) rfl ?_
    have hI280 := aw_It_f hV (k := 28) (v := x1) hI279 (by decide) rfl (aw_bp (a := (b : Int)) hx1 (by omega) (by omega))
    refine aw_e aj_d206 rfl rfl ?_
    exact ⟨rfl, 0, b, b, _, ⟨hb, Or.inl ⟨by omega, rfl, rfl, rfl⟩⟩, ⟨rfl, hx1, hx1, by first | exact c170 | omega⟩, ⟨rfl, fun k h1 h2 h3 h4 => by simp [aw_wf, aj_u, h1, h2, h3, h4]⟩, hI280.1⟩
end AWNEXT3
