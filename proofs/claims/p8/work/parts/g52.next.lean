/-! NEXT: the token that begins behind one's end (printed by wip/p2/walk/g52.py) -/
def aw_sn (f : Nat → Int32) (n k : Nat) : Int := if k < n then (f k).toInt else 0
def aw_blank (c : Int) : Prop := c = 9 ∨ c = 10 ∨ c = 13 ∨ c = 32
def aw_let (c : Int) : Prop := 97 ≤ c ∧ c ≤ 122
def aw_dig (c : Int) : Prop := 48 ≤ c ∧ c ≤ 57
noncomputable def aw_skip (f : Nat → Int32) (n : Nat) : Nat → Nat → Nat
  | 0, k => k
  | g + 1, k => if h : k < n ∧ ((f k).toInt = 9 ∨ (f k).toInt = 10 ∨ (f k).toInt = 13 ∨ (f k).toInt = 32) then aw_skip f n g (k + 1) else k
def aw_rl (f : Nat → Int32) (n : Nat) : Nat → Nat → Nat
  | 0, k => k
  | g + 1, k => if (97 ≤ aw_sn f n k ∧ aw_sn f n k ≤ 122) ∨ (48 ≤ aw_sn f n k ∧ aw_sn f n k ≤ 57) then aw_rl f n g (k + 1) else k
def aw_rd (f : Nat → Int32) (n : Nat) : Nat → Nat → Nat
  | 0, k => k
  | g + 1, k => if 48 ≤ aw_sn f n k ∧ aw_sn f n k ≤ 57 then aw_rd f n g (k + 1) else k
section AWNEXT
variable {tb : aj_T} {s : List Nat} {h : aj_H} {G : aj_S → Prop} {S : aj_S} {d : Nat} {Q : Option Value → aj_S → Prop} {n : Nat}
theorem aw_seenT (hn : (S.1 23).toInt = n) {k : Int32} {j : Nat} (hk : k.toInt = j) : (aj_seenV S k).toInt = aw_sn (S.2.2.1 21) n j := by
  unfold aj_seenV aw_sn
  have e : k < S.1 23 ↔ j < n := by
    rw [Int32.lt_iff_toInt_lt, hk, hn]
    omega
  have e2 : k.toNatClampNeg = j := by
    show k.toInt.toNat = j
    rw [hk]
    rfl
  by_cases q : j < n
  · rw [if_pos (e.mpr q), if_pos q, e2]
  · rw [if_neg (fun z => q (e.mp z)), if_neg q]
    rfl
theorem aw_seen (hV : aw_V tb s h G) (hI : aw_I s h G S) (hn : (S.1 23).toInt = n) (hd : 1 ≤ d) {k : Int32} {j : Nat} (hk : k.toInt = j) : aw_K tb h d 207 [.ref 117, .int k] S (fun r S' => ∃ b : Int32, r = some (.int b) ∧ S' = S ∧ b.toInt = aw_sn (S.2.2.1 21) n j) := by
  obtain ⟨d, rfl⟩ : ∃ e, d = e + 1 := ⟨d - 1, by omega⟩
  have b := aw_bd_f hV.2.2.1 hI.1 (k := 23) (lo := 0) (hi := 4000) (by decide) rfl
  refine aw_mono ?_ (aw_of (aj_seen_ok hV.1.1 hV.1.2 d k fun q => (aw_in hk (by omega) ?_).1))
  · rintro r S' ⟨rfl, rfl⟩
    exact ⟨_, rfl, rfl, aw_seenT hn hk⟩
  · rw [Int32.lt_iff_toInt_lt, hk] at q
    show (j : Int) < ((4000 : Nat) : Int)
    omega
theorem aw_rngV {lo hi c : Int32} {a b v : Int} (h1 : lo.toInt = a) (h2 : hi.toInt = b) (h3 : c.toInt = v) : ((aj_rangeV lo hi c).toInt = 1 ∧ a ≤ v ∧ v ≤ b) ∨ ((aj_rangeV lo hi c).toInt = 0 ∧ ¬ (a ≤ v ∧ v ≤ b)) := by
  unfold aj_rangeV
  split
  · rename_i q
    rw [Int32.lt_iff_toInt_lt] at q
    exact Or.inr ⟨rfl, by omega⟩
  · rename_i q
    rw [Int32.lt_iff_toInt_lt] at q
    split
    · rename_i q2
      rw [Int32.lt_iff_toInt_lt] at q2
      exact Or.inr ⟨rfl, by omega⟩
    · rename_i q2
      rw [Int32.lt_iff_toInt_lt] at q2
      exact Or.inl ⟨rfl, by omega⟩
theorem aw_isLetter (hV : aw_V tb s h G) (hI : aw_I s h G S) (hn : (S.1 23).toInt = n) (hd : 2 ≤ d) {k : Int32} {j : Nat} (hk : k.toInt = j) : aw_K tb h d 208 [.ref 117, .int k] S (fun r S' => ∃ b : Int32, r = some (.int b) ∧ S' = S ∧ ((b.toInt = 1 ∧ 97 ≤ aw_sn (S.2.2.1 21) n j ∧ aw_sn (S.2.2.1 21) n j ≤ 122) ∨ (b.toInt = 0 ∧ ¬ (97 ≤ aw_sn (S.2.2.1 21) n j ∧ aw_sn (S.2.2.1 21) n j ≤ 122)))) := by
  obtain ⟨d, rfl⟩ : ∃ e, d = e + 2 := ⟨d - 2, by omega⟩
  have b := aw_bd_f hV.2.2.1 hI.1 (k := 23) (lo := 0) (hi := 4000) (by decide) rfl
  refine aw_mono ?_ (aw_of (aj_isLetter_ok hV.1.1 hV.1.2 d k fun q => (aw_in hk (by omega) ?_).1))
  · rintro r S' ⟨rfl, rfl⟩
    exact ⟨_, rfl, rfl, aw_rngV rfl rfl (aw_seenT hn hk)⟩
  · rw [Int32.lt_iff_toInt_lt, hk] at q
    show (j : Int) < ((4000 : Nat) : Int)
    omega
theorem aw_isDigit (hV : aw_V tb s h G) (hI : aw_I s h G S) (hn : (S.1 23).toInt = n) (hd : 2 ≤ d) {k : Int32} {j : Nat} (hk : k.toInt = j) : aw_K tb h d 209 [.ref 117, .int k] S (fun r S' => ∃ b : Int32, r = some (.int b) ∧ S' = S ∧ ((b.toInt = 1 ∧ 48 ≤ aw_sn (S.2.2.1 21) n j ∧ aw_sn (S.2.2.1 21) n j ≤ 57) ∨ (b.toInt = 0 ∧ ¬ (48 ≤ aw_sn (S.2.2.1 21) n j ∧ aw_sn (S.2.2.1 21) n j ≤ 57)))) := by
  obtain ⟨d, rfl⟩ : ∃ e, d = e + 2 := ⟨d - 2, by omega⟩
  have b := aw_bd_f hV.2.2.1 hI.1 (k := 23) (lo := 0) (hi := 4000) (by decide) rfl
  refine aw_mono ?_ (aw_of (aj_isDigit_ok hV.1.1 hV.1.2 d k fun q => (aw_in hk (by omega) ?_).1))
  · rintro r S' ⟨rfl, rfl⟩
    exact ⟨_, rfl, rfl, aw_rngV rfl rfl (aw_seenT hn hk)⟩
  · rw [Int32.lt_iff_toInt_lt, hk] at q
    show (j : Int) < ((4000 : Nat) : Int)
    omega
theorem aw_next_l1 (hV : aw_V tb s h G) (hI : aw_I s h G S) (hn : (S.1 23).toInt = n) : ∀ (g k : Nat) (x : Int32), x.toInt = k → n ≤ k + g → (∀ x' : Int32, x'.toInt = aw_skip (S.2.2.1 21) n g k → aw_W tb h d aj_m206 63 [(1, .int x'), (0, .ref 117)] [] S Q) → aw_W tb h d aj_m206 5 [(1, .int x), (0, .ref 117)] [] S Q := by
  have b0 := aw_bd_f hV.2.2.1 hI.1 (k := 23) (lo := 0) (hi := 4000) (by decide) rfl
  intro g
  induction g with
  | zero =>
    intro k x hx hg hk
    refine aw_n aj_d206 rfl rfl ?_
    refine aw_n aj_d206 rfl rfl ?_
    refine aw_g hV.1 aj_d206 rfl rfl (by decide) (v := .int (S.1 23)) rfl ?_
    have b1 : 0 ≤ (S.1 23).toInt ∧ (S.1 23).toInt ≤ 4000 := aw_bd_f hV.2.2.1 (hI).1 (by decide) rfl
    refine aw_c (tgt := 63) aj_d206 rfl rfl (fun q2 => ?_) (fun q2 => ?_)
    · have q2 : (k : Int) ≥ (S.1 23).toInt := aw_t_ge (a := (k : Int)) (b := (S.1 23).toInt) hx rfl q2
      exact hk _ hx
    · have q2 : (k : Int) < (S.1 23).toInt := aw_t_ge (a := (k : Int)) (b := (S.1 23).toInt) hx rfl q2
      exfalso
      omega
  | succ g ih =>
    intro k x hx hg hk
    refine aw_n aj_d206 rfl rfl ?_
    refine aw_n aj_d206 rfl rfl ?_
    refine aw_g hV.1 aj_d206 rfl rfl (by decide) (v := .int (S.1 23)) rfl ?_
    have b3 : 0 ≤ (S.1 23).toInt ∧ (S.1 23).toInt ≤ 4000 := aw_bd_f hV.2.2.1 (hI).1 (by decide) rfl
    refine aw_c (tgt := 63) aj_d206 rfl rfl (fun q4 => ?_) (fun q4 => ?_)
    · have q4 : (k : Int) ≥ (S.1 23).toInt := aw_t_ge (a := (k : Int)) (b := (S.1 23).toInt) hx rfl q4
      try simp only [Int.toNat_natCast] at *
      refine hk _ ?_
      unfold aw_skip
      rw [dif_neg (by omega)]
      exact hx
    · have q4 : (k : Int) < (S.1 23).toInt := aw_t_ge (a := (k : Int)) (b := (S.1 23).toInt) hx rfl q4
      refine aw_n aj_d206 rfl rfl ?_
      refine aw_g hV.1 aj_d206 rfl rfl (by decide) (v := .ref 138) rfl ?_
      refine aw_n aj_d206 rfl rfl ?_
      refine aw_ld (k := 21) hV.1 aj_d206 (Or.inr (Or.inr (Or.inr ⟨rfl, rfl⟩))) rfl (by decide) (by decide) rfl (a := (k : Int)) hx (by omega) (by omega) (fun x5 e5 => ?_)
      have b5 : (-128) ≤ x5.toInt ∧ x5.toInt ≤ 127 := by
        rw [e5]
        exact aw_bd_a hV.2.2.1 (hI).1 (k := 21) (by decide) (by decide) rfl (by decide) rfl (by omega)
      subst e5
      refine aw_n aj_d206 rfl rfl ?_
      refine aw_c (tgt := 57) aj_d206 rfl rfl (fun q6 => ?_) (fun q6 => ?_)
      · have q6 : (S.2.2.1 21 ((k : Int)).toNat).toInt = 9 := aw_t_eq (a := (S.2.2.1 21 ((k : Int)).toNat).toInt) (b := 9) rfl rfl q6
        refine aw_inc aj_d206 rfl rfl (a := (k : Int)) hx (by omega) (by omega) (by decide) (by decide) (fun x7 e7 => ?_)
        show aw_W _ _ _ _ 60 [(1, .int x7), (0, .ref 117)] [] _ _
        refine aw_n aj_d206 rfl rfl ?_
        try simp only [Int.toNat_natCast] at *
        refine ih (k + 1) x7 (by omega) (by omega) (fun x' e => hk x' ?_)
        unfold aw_skip
        rw [dif_pos (by omega)]
        exact e
      · have q6 : (S.2.2.1 21 ((k : Int)).toNat).toInt ≠ 9 := aw_t_eq (a := (S.2.2.1 21 ((k : Int)).toNat).toInt) (b := 9) rfl rfl q6
        refine aw_n aj_d206 rfl rfl ?_
        refine aw_g hV.1 aj_d206 rfl rfl (by decide) (v := .ref 138) rfl ?_
        refine aw_n aj_d206 rfl rfl ?_
        refine aw_ld (k := 21) hV.1 aj_d206 (Or.inr (Or.inr (Or.inr ⟨rfl, rfl⟩))) rfl (by decide) (by decide) rfl (a := (k : Int)) hx (by omega) (by omega) (fun x8 e8 => ?_)
        have b8 : (-128) ≤ x8.toInt ∧ x8.toInt ≤ 127 := by
          rw [e8]
          exact aw_bd_a hV.2.2.1 (hI).1 (k := 21) (by decide) (by decide) rfl (by decide) rfl (by omega)
        subst e8
        refine aw_n aj_d206 rfl rfl ?_
        refine aw_c (tgt := 57) aj_d206 rfl rfl (fun q9 => ?_) (fun q9 => ?_)
        · have q9 : (S.2.2.1 21 ((k : Int)).toNat).toInt = 10 := aw_t_eq (a := (S.2.2.1 21 ((k : Int)).toNat).toInt) (b := 10) rfl rfl q9
          refine aw_inc aj_d206 rfl rfl (a := (k : Int)) hx (by omega) (by omega) (by decide) (by decide) (fun x10 e10 => ?_)
          show aw_W _ _ _ _ 60 [(1, .int x10), (0, .ref 117)] [] _ _
          refine aw_n aj_d206 rfl rfl ?_
          try simp only [Int.toNat_natCast] at *
          refine ih (k + 1) x10 (by omega) (by omega) (fun x' e => hk x' ?_)
          unfold aw_skip
          rw [dif_pos (by omega)]
          exact e
        · have q9 : (S.2.2.1 21 ((k : Int)).toNat).toInt ≠ 10 := aw_t_eq (a := (S.2.2.1 21 ((k : Int)).toNat).toInt) (b := 10) rfl rfl q9
          refine aw_n aj_d206 rfl rfl ?_
          refine aw_g hV.1 aj_d206 rfl rfl (by decide) (v := .ref 138) rfl ?_
          refine aw_n aj_d206 rfl rfl ?_
          refine aw_ld (k := 21) hV.1 aj_d206 (Or.inr (Or.inr (Or.inr ⟨rfl, rfl⟩))) rfl (by decide) (by decide) rfl (a := (k : Int)) hx (by omega) (by omega) (fun x11 e11 => ?_)
          have b11 : (-128) ≤ x11.toInt ∧ x11.toInt ≤ 127 := by
            rw [e11]
            exact aw_bd_a hV.2.2.1 (hI).1 (k := 21) (by decide) (by decide) rfl (by decide) rfl (by omega)
          subst e11
          refine aw_n aj_d206 rfl rfl ?_
          refine aw_c (tgt := 57) aj_d206 rfl rfl (fun q12 => ?_) (fun q12 => ?_)
          · have q12 : (S.2.2.1 21 ((k : Int)).toNat).toInt = 13 := aw_t_eq (a := (S.2.2.1 21 ((k : Int)).toNat).toInt) (b := 13) rfl rfl q12
            refine aw_inc aj_d206 rfl rfl (a := (k : Int)) hx (by omega) (by omega) (by decide) (by decide) (fun x13 e13 => ?_)
            show aw_W _ _ _ _ 60 [(1, .int x13), (0, .ref 117)] [] _ _
            refine aw_n aj_d206 rfl rfl ?_
            try simp only [Int.toNat_natCast] at *
            refine ih (k + 1) x13 (by omega) (by omega) (fun x' e => hk x' ?_)
            unfold aw_skip
            rw [dif_pos (by omega)]
            exact e
          · have q12 : (S.2.2.1 21 ((k : Int)).toNat).toInt ≠ 13 := aw_t_eq (a := (S.2.2.1 21 ((k : Int)).toNat).toInt) (b := 13) rfl rfl q12
            refine aw_n aj_d206 rfl rfl ?_
            refine aw_g hV.1 aj_d206 rfl rfl (by decide) (v := .ref 138) rfl ?_
            refine aw_n aj_d206 rfl rfl ?_
            refine aw_ld (k := 21) hV.1 aj_d206 (Or.inr (Or.inr (Or.inr ⟨rfl, rfl⟩))) rfl (by decide) (by decide) rfl (a := (k : Int)) hx (by omega) (by omega) (fun x14 e14 => ?_)
            have b14 : (-128) ≤ x14.toInt ∧ x14.toInt ≤ 127 := by
              rw [e14]
              exact aw_bd_a hV.2.2.1 (hI).1 (k := 21) (by decide) (by decide) rfl (by decide) rfl (by omega)
            subst e14
            refine aw_n aj_d206 rfl rfl ?_
            refine aw_c (tgt := 63) aj_d206 rfl rfl (fun q15 => ?_) (fun q15 => ?_)
            · have q15 : (S.2.2.1 21 ((k : Int)).toNat).toInt ≠ 32 := aw_t_ne (a := (S.2.2.1 21 ((k : Int)).toNat).toInt) (b := 32) rfl rfl q15
              try simp only [Int.toNat_natCast] at *
              refine hk _ ?_
              unfold aw_skip
              rw [dif_neg (by omega)]
              exact hx
            · have q15 : (S.2.2.1 21 ((k : Int)).toNat).toInt = 32 := aw_t_ne (a := (S.2.2.1 21 ((k : Int)).toNat).toInt) (b := 32) rfl rfl q15
              refine aw_inc aj_d206 rfl rfl (a := (k : Int)) hx (by omega) (by omega) (by decide) (by decide) (fun x16 e16 => ?_)
              show aw_W _ _ _ _ 60 [(1, .int x16), (0, .ref 117)] [] _ _
              refine aw_n aj_d206 rfl rfl ?_
              try simp only [Int.toNat_natCast] at *
              refine ih (k + 1) x16 (by omega) (by omega) (fun x' e => hk x' ?_)
              unfold aw_skip
              rw [dif_pos (by omega)]
              exact e
theorem aw_next_l2 (hV : aw_V tb s h G) (hI : aw_I s h G S) (hn : (S.1 23).toInt = n) (hd : 2 ≤ d) {z1 z3 : Int32} : ∀ (g j : Nat) (y : Int32), y.toInt = j → n + 1 ≤ j + g → j ≤ 5000 → (∀ y' : Int32, y'.toInt = aw_rl (S.2.2.1 21) n g j → aw_W tb h d aj_m206 131 [(2, .int y'), (3, .int z3), (1, .int z1), (0, .ref 117)] [] S Q) → aw_W tb h d aj_m206 109 [(2, .int y), (3, .int z3), (1, .int z1), (0, .ref 117)] [] S Q := by
  have b0 := aw_bd_f hV.2.2.1 hI.1 (k := 23) (lo := 0) (hi := 4000) (by decide) rfl
  intro g
  induction g with
  | zero =>
    intro j y hy hg hj hk
    have e0 : aw_sn (S.2.2.1 21) n j = 0 := by
      unfold aw_sn
      rw [if_neg (by omega)]
    refine aw_n aj_d206 rfl rfl ?_
    refine aw_n aj_d206 rfl rfl ?_
    refine aw_k hV.1 aj_d206 rfl rfl [_] rfl rfl rfl (Nat.le_of_ble_eq_true rfl) (aw_isLetter hV hI hn (by omega) hy) ?_
    rintro _ _ ⟨x17, rfl, rfl, c17⟩
    show aw_W _ _ _ _ 114 [(2, .int y), (3, .int z3), (1, .int z1), (0, .ref 117)] [.int x17] _ _
    refine aw_z (tgt := 125) aj_d206 rfl rfl (fun q18 => ?_) (fun q18 => ?_)
    · have q18 : x17.toInt ≠ 0 := aw_t_ne (a := x17.toInt) (b := 0) rfl rfl q18
      refine aw_inc aj_d206 rfl rfl (a := (j : Int)) hy (by omega) (by omega) (by decide) (by decide) (fun x19 e19 => ?_)
      show aw_W _ _ _ _ 128 [(2, .int x19), (3, .int z3), (1, .int z1), (0, .ref 117)] [] _ _
      refine aw_n aj_d206 rfl rfl ?_
      omega
    · have q18 : x17.toInt = 0 := aw_t_ne (a := x17.toInt) (b := 0) rfl rfl q18
      refine aw_n aj_d206 rfl rfl ?_
      refine aw_n aj_d206 rfl rfl ?_
      refine aw_k hV.1 aj_d206 rfl rfl [_] rfl rfl rfl (Nat.le_of_ble_eq_true rfl) (aw_isDigit hV hI hn (by omega) hy) ?_
      rintro _ _ ⟨x20, rfl, rfl, c20⟩
      show aw_W _ _ _ _ 122 [(2, .int y), (3, .int z3), (1, .int z1), (0, .ref 117)] [.int x20] _ _
      refine aw_z (tgt := 131) aj_d206 rfl rfl (fun q21 => ?_) (fun q21 => ?_)
      · have q21 : x20.toInt = 0 := aw_t_eq (a := x20.toInt) (b := 0) rfl rfl q21
        exact hk _ hy
      · have q21 : x20.toInt ≠ 0 := aw_t_eq (a := x20.toInt) (b := 0) rfl rfl q21
        refine aw_inc aj_d206 rfl rfl (a := (j : Int)) hy (by omega) (by omega) (by decide) (by decide) (fun x22 e22 => ?_)
        show aw_W _ _ _ _ 128 [(2, .int x22), (3, .int z3), (1, .int z1), (0, .ref 117)] [] _ _
        refine aw_n aj_d206 rfl rfl ?_
        omega
  | succ g ih =>
    intro j y hy hg hj hk
    have e0 : j < n ∨ aw_sn (S.2.2.1 21) n j = 0 := by
      unfold aw_sn
      by_cases q : j < n
      · exact Or.inl q
      · rw [if_neg q]
        exact Or.inr rfl
    refine aw_n aj_d206 rfl rfl ?_
    refine aw_n aj_d206 rfl rfl ?_
    refine aw_k hV.1 aj_d206 rfl rfl [_] rfl rfl rfl (Nat.le_of_ble_eq_true rfl) (aw_isLetter hV hI hn (by omega) hy) ?_
    rintro _ _ ⟨x23, rfl, rfl, c23⟩
    show aw_W _ _ _ _ 114 [(2, .int y), (3, .int z3), (1, .int z1), (0, .ref 117)] [.int x23] _ _
    refine aw_z (tgt := 125) aj_d206 rfl rfl (fun q24 => ?_) (fun q24 => ?_)
    · have q24 : x23.toInt ≠ 0 := aw_t_ne (a := x23.toInt) (b := 0) rfl rfl q24
      refine aw_inc aj_d206 rfl rfl (a := (j : Int)) hy (by omega) (by omega) (by decide) (by decide) (fun x25 e25 => ?_)
      show aw_W _ _ _ _ 128 [(2, .int x25), (3, .int z3), (1, .int z1), (0, .ref 117)] [] _ _
      refine aw_n aj_d206 rfl rfl ?_
      refine ih (j + 1) x25 (by omega) (by omega) (by omega) (fun y' e => hk y' ?_)
      unfold aw_rl
      rw [if_pos (by omega)]
      exact e
    · have q24 : x23.toInt = 0 := aw_t_ne (a := x23.toInt) (b := 0) rfl rfl q24
      refine aw_n aj_d206 rfl rfl ?_
      refine aw_n aj_d206 rfl rfl ?_
      refine aw_k hV.1 aj_d206 rfl rfl [_] rfl rfl rfl (Nat.le_of_ble_eq_true rfl) (aw_isDigit hV hI hn (by omega) hy) ?_
      rintro _ _ ⟨x26, rfl, rfl, c26⟩
      show aw_W _ _ _ _ 122 [(2, .int y), (3, .int z3), (1, .int z1), (0, .ref 117)] [.int x26] _ _
      refine aw_z (tgt := 131) aj_d206 rfl rfl (fun q27 => ?_) (fun q27 => ?_)
      · have q27 : x26.toInt = 0 := aw_t_eq (a := x26.toInt) (b := 0) rfl rfl q27
        refine hk _ ?_
        unfold aw_rl
        rw [if_neg (by omega)]
        exact hy
      · have q27 : x26.toInt ≠ 0 := aw_t_eq (a := x26.toInt) (b := 0) rfl rfl q27
        refine aw_inc aj_d206 rfl rfl (a := (j : Int)) hy (by omega) (by omega) (by decide) (by decide) (fun x28 e28 => ?_)
        show aw_W _ _ _ _ 128 [(2, .int x28), (3, .int z3), (1, .int z1), (0, .ref 117)] [] _ _
        refine aw_n aj_d206 rfl rfl ?_
        refine ih (j + 1) x28 (by omega) (by omega) (by omega) (fun y' e => hk y' ?_)
        unfold aw_rl
        rw [if_pos (by omega)]
        exact e
theorem aw_next_l3 (hV : aw_V tb s h G) (hI : aw_I s h G S) (hn : (S.1 23).toInt = n) (hd : 2 ≤ d) {z1 z3 : Int32} : ∀ (g j : Nat) (y : Int32), y.toInt = j → n + 1 ≤ j + g → j ≤ 5000 → (∀ y' : Int32, y'.toInt = aw_rd (S.2.2.1 21) n g j → aw_W tb h d aj_m206 209 [(2, .int y'), (3, .int z3), (1, .int z1), (0, .ref 117)] [] S Q) → aw_W tb h d aj_m206 195 [(2, .int y), (3, .int z3), (1, .int z1), (0, .ref 117)] [] S Q := by
  have b0 := aw_bd_f hV.2.2.1 hI.1 (k := 23) (lo := 0) (hi := 4000) (by decide) rfl
  intro g
  induction g with
  | zero =>
    intro j y hy hg hj hk
    have e0 : aw_sn (S.2.2.1 21) n j = 0 := by
      unfold aw_sn
      rw [if_neg (by omega)]
    refine aw_n aj_d206 rfl rfl ?_
    refine aw_n aj_d206 rfl rfl ?_
    refine aw_k hV.1 aj_d206 rfl rfl [_] rfl rfl rfl (Nat.le_of_ble_eq_true rfl) (aw_isDigit hV hI hn (by omega) hy) ?_
    rintro _ _ ⟨x29, rfl, rfl, c29⟩
    show aw_W _ _ _ _ 200 [(2, .int y), (3, .int z3), (1, .int z1), (0, .ref 117)] [.int x29] _ _
    refine aw_z (tgt := 209) aj_d206 rfl rfl (fun q30 => ?_) (fun q30 => ?_)
    · have q30 : x29.toInt = 0 := aw_t_eq (a := x29.toInt) (b := 0) rfl rfl q30
      exact hk _ hy
    · have q30 : x29.toInt ≠ 0 := aw_t_eq (a := x29.toInt) (b := 0) rfl rfl q30
      refine aw_inc aj_d206 rfl rfl (a := (j : Int)) hy (by omega) (by omega) (by decide) (by decide) (fun x31 e31 => ?_)
      show aw_W _ _ _ _ 206 [(2, .int x31), (3, .int z3), (1, .int z1), (0, .ref 117)] [] _ _
      refine aw_n aj_d206 rfl rfl ?_
      omega
  | succ g ih =>
    intro j y hy hg hj hk
    have e0 : j < n ∨ aw_sn (S.2.2.1 21) n j = 0 := by
      unfold aw_sn
      by_cases q : j < n
      · exact Or.inl q
      · rw [if_neg q]
        exact Or.inr rfl
    refine aw_n aj_d206 rfl rfl ?_
    refine aw_n aj_d206 rfl rfl ?_
    refine aw_k hV.1 aj_d206 rfl rfl [_] rfl rfl rfl (Nat.le_of_ble_eq_true rfl) (aw_isDigit hV hI hn (by omega) hy) ?_
    rintro _ _ ⟨x32, rfl, rfl, c32⟩
    show aw_W _ _ _ _ 200 [(2, .int y), (3, .int z3), (1, .int z1), (0, .ref 117)] [.int x32] _ _
    refine aw_z (tgt := 209) aj_d206 rfl rfl (fun q33 => ?_) (fun q33 => ?_)
    · have q33 : x32.toInt = 0 := aw_t_eq (a := x32.toInt) (b := 0) rfl rfl q33
      refine hk _ ?_
      unfold aw_rd
      rw [if_neg (by omega)]
      exact hy
    · have q33 : x32.toInt ≠ 0 := aw_t_eq (a := x32.toInt) (b := 0) rfl rfl q33
      refine aw_inc aj_d206 rfl rfl (a := (j : Int)) hy (by omega) (by omega) (by decide) (by decide) (fun x34 e34 => ?_)
      show aw_W _ _ _ _ 206 [(2, .int x34), (3, .int z3), (1, .int z1), (0, .ref 117)] [] _ _
      refine aw_n aj_d206 rfl rfl ?_
      refine ih (j + 1) x34 (by omega) (by omega) (by omega) (fun y' e => hk y' ?_)
      unfold aw_rd
      rw [if_pos (by omega)]
      exact e
end AWNEXT
