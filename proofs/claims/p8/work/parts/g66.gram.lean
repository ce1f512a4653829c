/-! THE GRAMMAR: what a stack of symbols asks for (printed by wip/p2/cwalk/g66.py) -/
/-- the rules by number -/
def cw_sl : Nat → List Nat
  | 1 => [10, 3, 180, 58, 131, 132, 59, 183, 130]
  | 2 => [11, 3, 184, 40, 3, 185, 135, 41, 59, 130]
  | 3 => [12, 3, 186, 40, 144, 187, 136, 41, 137, 59, 130]
  | 4 => [14, 189, 138, 59, 190, 130]
  | 5 => [15, 3, 191, 61, 145, 59, 192, 130]
  | 6 => []
  | 7 => [45, 181, 4]
  | 8 => [4, 181]
  | 9 => [45, 182, 4]
  | 10 => [4, 182]
  | 11 => [5, 134]
  | 12 => [44, 131, 133]
  | 13 => [44, 3, 185, 135]
  | 14 => [44, 144, 187, 136]
  | 15 => [13, 138, 188]
  | 16 => [140, 139]
  | 17 => [124, 140, 207, 139]
  | 18 => [142, 141]
  | 19 => [38, 142, 206, 141]
  | 20 => [33, 170, 142, 171, 205]
  | 21 => [40, 170, 138, 41, 171]
  | 22 => [144, 143, 144, 204]
  | 23 => [61, 203]
  | 24 => [6, 203]
  | 25 => [60, 203]
  | 26 => [7, 203]
  | 27 => [63, 3, 201]
  | 28 => [45, 200, 4]
  | 29 => [4, 200]
  | 30 => [147, 146]
  | 31 => [43, 172, 147, 211, 146]
  | 32 => [45, 172, 147, 212, 146]
  | 33 => [149, 148]
  | 34 => [42, 172, 149, 213, 148]
  | 35 => [40, 170, 145, 41, 171, 150]
  | 36 => [3, 210, 150]
  | 37 => [91, 151, 152, 93, 150]
  | 38 => [58, 40, 215, 3, 216, 154, 41, 217, 150]
  | 39 => [123, 3, 218, 61, 3, 219, 125, 150]
  | 40 => [35, 172, 40, 215, 155, 41, 220, 156, 3, 223, 150]
  | 41 => [153, 143, 153, 214]
  | 42 => [44, 151, 152]
  | 43 => [3, 202]
  | 44 => [144]
  | 45 => [44, 3, 216, 154]
  | 46 => [3, 216, 154]
  | 47 => [16, 221]
  | 48 => [17, 221, 3, 222]
  | 49 => [18, 221, 3, 222]
  | 50 => [19, 221, 3, 222]
  | _ => []
/-- the rules of each part -/
def cw_rl : Nat → List Nat
  | 130 => [1, 2, 3, 4, 5, 6]
  | 131 => [7, 8]
  | 132 => [6, 11, 12]
  | 133 => [6, 12]
  | 134 => [9, 10]
  | 135 => [6, 13]
  | 136 => [6, 14]
  | 137 => [6, 15]
  | 138 => [16]
  | 139 => [6, 17]
  | 140 => [18]
  | 141 => [6, 19]
  | 142 => [20, 21, 22]
  | 143 => [23, 24, 25, 26]
  | 144 => [27, 28, 29]
  | 145 => [30]
  | 146 => [6, 31, 32]
  | 147 => [33]
  | 148 => [6, 34]
  | 149 => [35, 36]
  | 150 => [6, 37, 38, 39, 40]
  | 151 => [41]
  | 152 => [6, 42]
  | 153 => [43, 44]
  | 154 => [6, 45]
  | 155 => [6, 46]
  | 156 => [47, 48, 49, 50]
  | _ => []
/-- how many places a symbol wants -/
def cw_hh : Nat → Int
  | 130 => 18
  | 131 => 3
  | 132 => 4
  | 133 => 4
  | 134 => 3
  | 135 => 4
  | 136 => 5
  | 137 => 11
  | 138 => 10
  | 139 => 10
  | 140 => 8
  | 141 => 8
  | 142 => 6
  | 143 => 2
  | 144 => 3
  | 145 => 15
  | 146 => 15
  | 147 => 13
  | 148 => 13
  | 149 => 11
  | 150 => 11
  | 151 => 6
  | 152 => 7
  | 153 => 3
  | 154 => 4
  | 155 => 4
  | 156 => 4
  | _ => 1
/-- how many notes less than two a token a part makes -/
def cw_gg : Nat → Int
  | 131 => 1
  | 134 => 1
  | 138 => 2
  | 140 => 2
  | 142 => 2
  | 143 => 1
  | 144 => 1
  | 145 => 1
  | 147 => 1
  | 149 => 1
  | 151 => 2
  | 153 => 1
  | 156 => 1
  | _ => 0
/-- Qs wanted -/
def cw_lo : Nat → Nat
  | 146 => 1
  | 148 => 1
  | 150 => 1
  | 151 => 1
  | 152 => 1
  | _ => 0
/-- Qs allowed, behind two for each that is open -/
def cw_cc : Nat → Int
  | 130 => 0
  | 145 => 0
  | 146 => 1
  | 147 => 1
  | 148 => 2
  | 149 => 2
  | _ => 1000
/-- Qs made -/
def cw_ee : Nat → Nat
  | 145 => 1
  | 147 => 1
  | 149 => 1
  | _ => 0
/-- the stack, its top first, can be worked off: the Qs' depth, what is open, what is left of two notes a token -/
def cw_sr : List Nat → Nat → Int → Int → Prop
  | [], _, _, _ => True
  | x :: r, D, o, b => ((r.length : Int) + cw_hh x + 40 * (8 - o) ≤ 512 ∧ (x = 1 → r = [])) ∧
    (if x < 130 then cw_sr r D o (b + 2)
    else if x < 170 then cw_lo x ≤ D ∧ (D : Int) ≤ 2 * o + cw_cc x ∧ cw_sr r (D + cw_ee x) o (b + cw_gg x)
    else if x = 170 then cw_sr r D (o + 1) b
    else if x = 171 then 1 ≤ o ∧ cw_sr r D (o - 1) b
    else if x = 172 then cw_sr r D o b
    else 1 ≤ b ∧ ∃ D', cw_nst D (x : Int) = some D' ∧ cw_sr r D' o (b - 1))
section CW66
variable {x D D' : Nat} {r : List Nat} {o o' b b' : Int}
theorem cw_sr_mono : ∀ (r : List Nat) (D : Nat) (o b b' : Int), b ≤ b' → cw_sr r D o b → cw_sr r D o b' := by
  intro r
  induction r with
  | nil => intro _ _ _ _ _ _; trivial
  | cons x r ih =>
    intro D o b b' hb h0
    unfold cw_sr at h0 ⊢
    refine ⟨h0.1, ?_⟩
    have h0 := h0.2
    split at h0
    · rename_i q
      rw [if_pos q]
      exact ih _ _ _ _ (by omega) h0
    · rename_i q
      rw [if_neg q]
      split at h0
      · rename_i q
        rw [if_pos q]
        exact ⟨h0.1, h0.2.1, ih _ _ _ _ (by omega) h0.2.2⟩
      · rename_i q
        rw [if_neg q]
        split at h0
        · rename_i q
          rw [if_pos q]
          exact ih _ _ _ _ (by omega) h0
        · rename_i q
          rw [if_neg q]
          split at h0
          · rename_i q
            rw [if_pos q]
            exact ⟨h0.1, ih _ _ _ _ (by omega) h0.2⟩
          · rename_i q
            rw [if_neg q]
            split at h0
            · rename_i q
              rw [if_pos q]
              exact ih _ _ _ _ (by omega) h0
            · rename_i q
              rw [if_neg q]
              obtain ⟨h1, D', h2, h3⟩ := h0
              exact ⟨by omega, D', h2, ih _ _ _ _ (by omega) h3⟩
theorem cw_sr_to (h0 : cw_sr r D o b) (hD : D' = D) (ho : o' = o) (hb : b ≤ b') : cw_sr r D' o' b' := by
  subst hD
  subst ho
  exact cw_sr_mono _ _ _ _ _ hb h0
theorem cw_sr_tok (hx : x < 130) : cw_sr (x :: r) D o b ↔ ((r.length : Int) + cw_hh x + 40 * (8 - o) ≤ 512 ∧ (x = 1 → r = [])) ∧ cw_sr r D o (b + 2) := by
  rw [cw_sr, if_pos hx]
theorem cw_sr_part (h1 : 130 ≤ x) (h2 : x < 170) : cw_sr (x :: r) D o b ↔ ((r.length : Int) + cw_hh x + 40 * (8 - o) ≤ 512 ∧ (x = 1 → r = [])) ∧ cw_lo x ≤ D ∧ (D : Int) ≤ 2 * o + cw_cc x ∧ cw_sr r (D + cw_ee x) o (b + cw_gg x) := by
  rw [cw_sr, if_neg (by omega), if_pos h2]
theorem cw_sr_open : cw_sr (170 :: r) D o b ↔ ((r.length : Int) + cw_hh 170 + 40 * (8 - o) ≤ 512 ∧ (170 = 1 → r = [])) ∧ cw_sr r D (o + 1) b := by
  rw [cw_sr, if_neg (by decide), if_neg (by decide), if_pos rfl]
theorem cw_sr_shut : cw_sr (171 :: r) D o b ↔ ((r.length : Int) + cw_hh 171 + 40 * (8 - o) ≤ 512 ∧ (171 = 1 → r = [])) ∧ 1 ≤ o ∧ cw_sr r D (o - 1) b := by
  rw [cw_sr, if_neg (by decide), if_neg (by decide), if_neg (by decide), if_pos rfl]
theorem cw_sr_sign : cw_sr (172 :: r) D o b ↔ ((r.length : Int) + cw_hh 172 + 40 * (8 - o) ≤ 512 ∧ (172 = 1 → r = [])) ∧ cw_sr r D o b := by
  rw [cw_sr, if_neg (by decide), if_neg (by decide), if_neg (by decide), if_neg (by decide), if_pos rfl]
theorem cw_sr_note (h1 : 173 ≤ x) : cw_sr (x :: r) D o b ↔ ((r.length : Int) + cw_hh x + 40 * (8 - o) ≤ 512 ∧ (x = 1 → r = [])) ∧ 1 ≤ b ∧ ∃ D', cw_nst D (x : Int) = some D' ∧ cw_sr r D' o (b - 1) := by
  rw [cw_sr, if_neg (by omega), if_neg (by omega), if_neg (by omega), if_neg (by omega), if_neg (by omega)]
theorem cw_nst_o {n : Int} (h1 : n < 192 ∨ 192 < n ∧ n < 210 ∨ n = 215 ∨ n = 216 ∨ 218 ≤ n ∧ n < 223) : cw_nst D n = some D := by
  unfold cw_nst
  rw [if_neg (by omega), if_neg (by omega), if_neg (by omega), if_neg (by omega)]
theorem cw_nst_l (h1 : D ≤ 19) : cw_nst D 210 = some (D + 1) := by
  unfold cw_nst
  rw [if_pos rfl, if_pos h1]
theorem cw_nst_2 {n : Int} (h0 : n = 211 ∨ n = 212 ∨ n = 213) (h1 : 2 ≤ D) : cw_nst D n = some (D - 1) := by
  unfold cw_nst
  rw [if_neg (by omega), if_pos h0, if_pos h1]
theorem cw_nst_e (h1 : 1 ≤ D) : cw_nst D 192 = some (D - 1) := by
  unfold cw_nst
  rw [if_neg (by omega), if_neg (by omega), if_pos rfl, if_pos h1]
theorem cw_nst_k {n : Int} (h0 : n = 214 ∨ n = 217 ∨ n = 223) (h1 : 1 ≤ D) : cw_nst D n = some D := by
  unfold cw_nst
  rw [if_neg (by omega), if_neg (by omega), if_neg (by omega), if_pos h0, if_pos h1]
theorem cw_sr_130_1 (ho : 0 ≤ o ∧ o ≤ 8) (hb : 0 ≤ b) (h0 : cw_sr (130 :: r) D o b) : cw_sr (10 :: 3 :: 180 :: 58 :: 131 :: 132 :: 59 :: 183 :: 130 :: r) D o b := by
  obtain ⟨⟨h4, -⟩, h1, h2, h3⟩ := (cw_sr_part (by decide) (by decide)).mp h0
  have h4 : (r.length : Int) + 18 + 40 * (8 - o) ≤ 512 := h4
  have h1 : 0 ≤ D := h1
  have h2 : (D : Int) ≤ 2 * o + 0 := h2
  have h3 : cw_sr r (D + 0) o (b + 0) := h3
  refine (cw_sr_tok (by decide)).mpr ⟨⟨by show (_ : Int) + 1 + _ ≤ _; (try simp only [List.length_cons]); omega, fun z => by cases z⟩, ?_⟩
  refine (cw_sr_tok (by decide)).mpr ⟨⟨by show (_ : Int) + 1 + _ ≤ _; (try simp only [List.length_cons]); omega, fun z => by cases z⟩, ?_⟩
  refine (cw_sr_note (by decide)).mpr ⟨⟨by show (_ : Int) + 1 + _ ≤ _; (try simp only [List.length_cons]); omega, fun z => by cases z⟩, by omega, _, cw_nst_o (by decide), ?_⟩
  refine (cw_sr_tok (by decide)).mpr ⟨⟨by show (_ : Int) + 1 + _ ≤ _; (try simp only [List.length_cons]); omega, fun z => by cases z⟩, ?_⟩
  refine (cw_sr_part (by decide) (by decide)).mpr ⟨⟨by show (_ : Int) + 3 + _ ≤ _; (try simp only [List.length_cons]); omega, fun z => by cases z⟩, by show 0 ≤ _; omega, by show _ ≤ _ + 1000; omega, ?_⟩
  show cw_sr (132 :: 59 :: 183 :: 130 :: r) (D + 0) o (((((b + 2) + 2) - 1) + 2) + 1)
  refine (cw_sr_part (by decide) (by decide)).mpr ⟨⟨by show (_ : Int) + 4 + _ ≤ _; (try simp only [List.length_cons]); omega, fun z => by cases z⟩, by show 0 ≤ _; omega, by show _ ≤ _ + 1000; omega, ?_⟩
  show cw_sr (59 :: 183 :: 130 :: r) ((D + 0) + 0) o ((((((b + 2) + 2) - 1) + 2) + 1) + 0)
  refine (cw_sr_tok (by decide)).mpr ⟨⟨by show (_ : Int) + 1 + _ ≤ _; (try simp only [List.length_cons]); omega, fun z => by cases z⟩, ?_⟩
  refine (cw_sr_note (by decide)).mpr ⟨⟨by show (_ : Int) + 1 + _ ≤ _; (try simp only [List.length_cons]); omega, fun z => by cases z⟩, by omega, _, cw_nst_o (by decide), ?_⟩
  refine (cw_sr_part (by decide) (by decide)).mpr ⟨⟨by show (_ : Int) + 18 + _ ≤ _; (try simp only [List.length_cons]); omega, fun z => by cases z⟩, by show 0 ≤ _; omega, by show _ ≤ _ + 0; omega, ?_⟩
  show cw_sr (r) (((D + 0) + 0) + 0) o (((((((((b + 2) + 2) - 1) + 2) + 1) + 0) + 2) - 1) + 0)
  exact cw_sr_to h3 (by omega) (by omega) (by omega)
theorem cw_sr_130_2 (ho : 0 ≤ o ∧ o ≤ 8) (hb : 0 ≤ b) (h0 : cw_sr (130 :: r) D o b) : cw_sr (11 :: 3 :: 184 :: 40 :: 3 :: 185 :: 135 :: 41 :: 59 :: 130 :: r) D o b := by
  obtain ⟨⟨h4, -⟩, h1, h2, h3⟩ := (cw_sr_part (by decide) (by decide)).mp h0
  have h4 : (r.length : Int) + 18 + 40 * (8 - o) ≤ 512 := h4
  have h1 : 0 ≤ D := h1
  have h2 : (D : Int) ≤ 2 * o + 0 := h2
  have h3 : cw_sr r (D + 0) o (b + 0) := h3
  refine (cw_sr_tok (by decide)).mpr ⟨⟨by show (_ : Int) + 1 + _ ≤ _; (try simp only [List.length_cons]); omega, fun z => by cases z⟩, ?_⟩
  refine (cw_sr_tok (by decide)).mpr ⟨⟨by show (_ : Int) + 1 + _ ≤ _; (try simp only [List.length_cons]); omega, fun z => by cases z⟩, ?_⟩
  refine (cw_sr_note (by decide)).mpr ⟨⟨by show (_ : Int) + 1 + _ ≤ _; (try simp only [List.length_cons]); omega, fun z => by cases z⟩, by omega, _, cw_nst_o (by decide), ?_⟩
  refine (cw_sr_tok (by decide)).mpr ⟨⟨by show (_ : Int) + 1 + _ ≤ _; (try simp only [List.length_cons]); omega, fun z => by cases z⟩, ?_⟩
  refine (cw_sr_tok (by decide)).mpr ⟨⟨by show (_ : Int) + 1 + _ ≤ _; (try simp only [List.length_cons]); omega, fun z => by cases z⟩, ?_⟩
  refine (cw_sr_note (by decide)).mpr ⟨⟨by show (_ : Int) + 1 + _ ≤ _; (try simp only [List.length_cons]); omega, fun z => by cases z⟩, by omega, _, cw_nst_o (by decide), ?_⟩
  refine (cw_sr_part (by decide) (by decide)).mpr ⟨⟨by show (_ : Int) + 4 + _ ≤ _; (try simp only [List.length_cons]); omega, fun z => by cases z⟩, by show 0 ≤ _; omega, by show _ ≤ _ + 1000; omega, ?_⟩
  show cw_sr (41 :: 59 :: 130 :: r) (D + 0) o (((((((b + 2) + 2) - 1) + 2) + 2) - 1) + 0)
  refine (cw_sr_tok (by decide)).mpr ⟨⟨by show (_ : Int) + 1 + _ ≤ _; (try simp only [List.length_cons]); omega, fun z => by cases z⟩, ?_⟩
  refine (cw_sr_tok (by decide)).mpr ⟨⟨by show (_ : Int) + 1 + _ ≤ _; (try simp only [List.length_cons]); omega, fun z => by cases z⟩, ?_⟩
  refine (cw_sr_part (by decide) (by decide)).mpr ⟨⟨by show (_ : Int) + 18 + _ ≤ _; (try simp only [List.length_cons]); omega, fun z => by cases z⟩, by show 0 ≤ _; omega, by show _ ≤ _ + 0; omega, ?_⟩
  show cw_sr (r) ((D + 0) + 0) o ((((((((((b + 2) + 2) - 1) + 2) + 2) - 1) + 0) + 2) + 2) + 0)
  exact cw_sr_to h3 (by omega) (by omega) (by omega)
theorem cw_sr_130_3 (ho : 0 ≤ o ∧ o ≤ 8) (hb : 0 ≤ b) (h0 : cw_sr (130 :: r) D o b) : cw_sr (12 :: 3 :: 186 :: 40 :: 144 :: 187 :: 136 :: 41 :: 137 :: 59 :: 130 :: r) D o b := by
  obtain ⟨⟨h4, -⟩, h1, h2, h3⟩ := (cw_sr_part (by decide) (by decide)).mp h0
  have h4 : (r.length : Int) + 18 + 40 * (8 - o) ≤ 512 := h4
  have h1 : 0 ≤ D := h1
  have h2 : (D : Int) ≤ 2 * o + 0 := h2
  have h3 : cw_sr r (D + 0) o (b + 0) := h3
  refine (cw_sr_tok (by decide)).mpr ⟨⟨by show (_ : Int) + 1 + _ ≤ _; (try simp only [List.length_cons]); omega, fun z => by cases z⟩, ?_⟩
  refine (cw_sr_tok (by decide)).mpr ⟨⟨by show (_ : Int) + 1 + _ ≤ _; (try simp only [List.length_cons]); omega, fun z => by cases z⟩, ?_⟩
  refine (cw_sr_note (by decide)).mpr ⟨⟨by show (_ : Int) + 1 + _ ≤ _; (try simp only [List.length_cons]); omega, fun z => by cases z⟩, by omega, _, cw_nst_o (by decide), ?_⟩
  refine (cw_sr_tok (by decide)).mpr ⟨⟨by show (_ : Int) + 1 + _ ≤ _; (try simp only [List.length_cons]); omega, fun z => by cases z⟩, ?_⟩
  refine (cw_sr_part (by decide) (by decide)).mpr ⟨⟨by show (_ : Int) + 3 + _ ≤ _; (try simp only [List.length_cons]); omega, fun z => by cases z⟩, by show 0 ≤ _; omega, by show _ ≤ _ + 1000; omega, ?_⟩
  show cw_sr (187 :: 136 :: 41 :: 137 :: 59 :: 130 :: r) (D + 0) o (((((b + 2) + 2) - 1) + 2) + 1)
  refine (cw_sr_note (by decide)).mpr ⟨⟨by show (_ : Int) + 1 + _ ≤ _; (try simp only [List.length_cons]); omega, fun z => by cases z⟩, by omega, _, cw_nst_o (by decide), ?_⟩
  refine (cw_sr_part (by decide) (by decide)).mpr ⟨⟨by show (_ : Int) + 5 + _ ≤ _; (try simp only [List.length_cons]); omega, fun z => by cases z⟩, by show 0 ≤ _; omega, by show _ ≤ _ + 1000; omega, ?_⟩
  show cw_sr (41 :: 137 :: 59 :: 130 :: r) ((D + 0) + 0) o (((((((b + 2) + 2) - 1) + 2) + 1) - 1) + 0)
  refine (cw_sr_tok (by decide)).mpr ⟨⟨by show (_ : Int) + 1 + _ ≤ _; (try simp only [List.length_cons]); omega, fun z => by cases z⟩, ?_⟩
  refine (cw_sr_part (by decide) (by decide)).mpr ⟨⟨by show (_ : Int) + 11 + _ ≤ _; (try simp only [List.length_cons]); omega, fun z => by cases z⟩, by show 0 ≤ _; omega, by show _ ≤ _ + 1000; omega, ?_⟩
  show cw_sr (59 :: 130 :: r) (((D + 0) + 0) + 0) o (((((((((b + 2) + 2) - 1) + 2) + 1) - 1) + 0) + 2) + 0)
  refine (cw_sr_tok (by decide)).mpr ⟨⟨by show (_ : Int) + 1 + _ ≤ _; (try simp only [List.length_cons]); omega, fun z => by cases z⟩, ?_⟩
  refine (cw_sr_part (by decide) (by decide)).mpr ⟨⟨by show (_ : Int) + 18 + _ ≤ _; (try simp only [List.length_cons]); omega, fun z => by cases z⟩, by show 0 ≤ _; omega, by show _ ≤ _ + 0; omega, ?_⟩
  show cw_sr (r) ((((D + 0) + 0) + 0) + 0) o (((((((((((b + 2) + 2) - 1) + 2) + 1) - 1) + 0) + 2) + 0) + 2) + 0)
  exact cw_sr_to h3 (by omega) (by omega) (by omega)
theorem cw_sr_130_4 (ho : 0 ≤ o ∧ o ≤ 8) (hb : 0 ≤ b) (h0 : cw_sr (130 :: r) D o b) : cw_sr (14 :: 189 :: 138 :: 59 :: 190 :: 130 :: r) D o b := by
  obtain ⟨⟨h4, -⟩, h1, h2, h3⟩ := (cw_sr_part (by decide) (by decide)).mp h0
  have h4 : (r.length : Int) + 18 + 40 * (8 - o) ≤ 512 := h4
  have h1 : 0 ≤ D := h1
  have h2 : (D : Int) ≤ 2 * o + 0 := h2
  have h3 : cw_sr r (D + 0) o (b + 0) := h3
  refine (cw_sr_tok (by decide)).mpr ⟨⟨by show (_ : Int) + 1 + _ ≤ _; (try simp only [List.length_cons]); omega, fun z => by cases z⟩, ?_⟩
  refine (cw_sr_note (by decide)).mpr ⟨⟨by show (_ : Int) + 1 + _ ≤ _; (try simp only [List.length_cons]); omega, fun z => by cases z⟩, by omega, _, cw_nst_o (by decide), ?_⟩
  refine (cw_sr_part (by decide) (by decide)).mpr ⟨⟨by show (_ : Int) + 10 + _ ≤ _; (try simp only [List.length_cons]); omega, fun z => by cases z⟩, by show 0 ≤ _; omega, by show _ ≤ _ + 1000; omega, ?_⟩
  show cw_sr (59 :: 190 :: 130 :: r) (D + 0) o (((b + 2) - 1) + 2)
  refine (cw_sr_tok (by decide)).mpr ⟨⟨by show (_ : Int) + 1 + _ ≤ _; (try simp only [List.length_cons]); omega, fun z => by cases z⟩, ?_⟩
  refine (cw_sr_note (by decide)).mpr ⟨⟨by show (_ : Int) + 1 + _ ≤ _; (try simp only [List.length_cons]); omega, fun z => by cases z⟩, by omega, _, cw_nst_o (by decide), ?_⟩
  refine (cw_sr_part (by decide) (by decide)).mpr ⟨⟨by show (_ : Int) + 18 + _ ≤ _; (try simp only [List.length_cons]); omega, fun z => by cases z⟩, by show 0 ≤ _; omega, by show _ ≤ _ + 0; omega, ?_⟩
  show cw_sr (r) ((D + 0) + 0) o ((((((b + 2) - 1) + 2) + 2) - 1) + 0)
  exact cw_sr_to h3 (by omega) (by omega) (by omega)
theorem cw_sr_130_5 (ho : 0 ≤ o ∧ o ≤ 8) (hb : 0 ≤ b) (h0 : cw_sr (130 :: r) D o b) : cw_sr (15 :: 3 :: 191 :: 61 :: 145 :: 59 :: 192 :: 130 :: r) D o b := by
  obtain ⟨⟨h4, -⟩, h1, h2, h3⟩ := (cw_sr_part (by decide) (by decide)).mp h0
  have h4 : (r.length : Int) + 18 + 40 * (8 - o) ≤ 512 := h4
  have h1 : 0 ≤ D := h1
  have h2 : (D : Int) ≤ 2 * o + 0 := h2
  have h3 : cw_sr r (D + 0) o (b + 0) := h3
  refine (cw_sr_tok (by decide)).mpr ⟨⟨by show (_ : Int) + 1 + _ ≤ _; (try simp only [List.length_cons]); omega, fun z => by cases z⟩, ?_⟩
  refine (cw_sr_tok (by decide)).mpr ⟨⟨by show (_ : Int) + 1 + _ ≤ _; (try simp only [List.length_cons]); omega, fun z => by cases z⟩, ?_⟩
  refine (cw_sr_note (by decide)).mpr ⟨⟨by show (_ : Int) + 1 + _ ≤ _; (try simp only [List.length_cons]); omega, fun z => by cases z⟩, by omega, _, cw_nst_o (by decide), ?_⟩
  refine (cw_sr_tok (by decide)).mpr ⟨⟨by show (_ : Int) + 1 + _ ≤ _; (try simp only [List.length_cons]); omega, fun z => by cases z⟩, ?_⟩
  refine (cw_sr_part (by decide) (by decide)).mpr ⟨⟨by show (_ : Int) + 15 + _ ≤ _; (try simp only [List.length_cons]); omega, fun z => by cases z⟩, by show 0 ≤ _; omega, by show _ ≤ _ + 0; omega, ?_⟩
  show cw_sr (59 :: 192 :: 130 :: r) (D + 1) o (((((b + 2) + 2) - 1) + 2) + 1)
  refine (cw_sr_tok (by decide)).mpr ⟨⟨by show (_ : Int) + 1 + _ ≤ _; (try simp only [List.length_cons]); omega, fun z => by cases z⟩, ?_⟩
  refine (cw_sr_note (by decide)).mpr ⟨⟨by show (_ : Int) + 1 + _ ≤ _; (try simp only [List.length_cons]); omega, fun z => by cases z⟩, by omega, _, cw_nst_e (by omega), ?_⟩
  refine (cw_sr_part (by decide) (by decide)).mpr ⟨⟨by show (_ : Int) + 18 + _ ≤ _; (try simp only [List.length_cons]); omega, fun z => by cases z⟩, by show 0 ≤ _; omega, by show _ ≤ _ + 0; omega, ?_⟩
  show cw_sr (r) (((D + 1) - 1) + 0) o ((((((((b + 2) + 2) - 1) + 2) + 1) + 2) - 1) + 0)
  exact cw_sr_to h3 (by omega) (by omega) (by omega)
theorem cw_sr_130_6 (ho : 0 ≤ o ∧ o ≤ 8) (hb : 0 ≤ b) (h0 : cw_sr (130 :: r) D o b) : cw_sr (r) D o b := by
  obtain ⟨⟨h4, -⟩, h1, h2, h3⟩ := (cw_sr_part (by decide) (by decide)).mp h0
  have h4 : (r.length : Int) + 18 + 40 * (8 - o) ≤ 512 := h4
  have h1 : 0 ≤ D := h1
  have h2 : (D : Int) ≤ 2 * o + 0 := h2
  have h3 : cw_sr r (D + 0) o (b + 0) := h3
  exact cw_sr_to h3 rfl rfl (by omega)
theorem cw_sr_131_7 (ho : 0 ≤ o ∧ o ≤ 8) (hb : 0 ≤ b) (h0 : cw_sr (131 :: r) D o b) : cw_sr (45 :: 181 :: 4 :: r) D o b := by
  obtain ⟨⟨h4, -⟩, h1, h2, h3⟩ := (cw_sr_part (by decide) (by decide)).mp h0
  have h4 : (r.length : Int) + 3 + 40 * (8 - o) ≤ 512 := h4
  have h1 : 0 ≤ D := h1
  have h2 : (D : Int) ≤ 2 * o + 1000 := h2
  have h3 : cw_sr r (D + 0) o (b + 1) := h3
  refine (cw_sr_tok (by decide)).mpr ⟨⟨by show (_ : Int) + 1 + _ ≤ _; (try simp only [List.length_cons]); omega, fun z => by cases z⟩, ?_⟩
  refine (cw_sr_note (by decide)).mpr ⟨⟨by show (_ : Int) + 1 + _ ≤ _; (try simp only [List.length_cons]); omega, fun z => by cases z⟩, by omega, _, cw_nst_o (by decide), ?_⟩
  refine (cw_sr_tok (by decide)).mpr ⟨⟨by show (_ : Int) + 1 + _ ≤ _; (try simp only [List.length_cons]); omega, fun z => by cases z⟩, ?_⟩
  exact cw_sr_to h3 (by omega) (by omega) (by omega)
theorem cw_sr_131_8 (ho : 0 ≤ o ∧ o ≤ 8) (hb : 0 ≤ b) (h0 : cw_sr (131 :: r) D o b) : cw_sr (4 :: 181 :: r) D o b := by
  obtain ⟨⟨h4, -⟩, h1, h2, h3⟩ := (cw_sr_part (by decide) (by decide)).mp h0
  have h4 : (r.length : Int) + 3 + 40 * (8 - o) ≤ 512 := h4
  have h1 : 0 ≤ D := h1
  have h2 : (D : Int) ≤ 2 * o + 1000 := h2
  have h3 : cw_sr r (D + 0) o (b + 1) := h3
  refine (cw_sr_tok (by decide)).mpr ⟨⟨by show (_ : Int) + 1 + _ ≤ _; (try simp only [List.length_cons]); omega, fun z => by cases z⟩, ?_⟩
  refine (cw_sr_note (by decide)).mpr ⟨⟨by show (_ : Int) + 1 + _ ≤ _; (try simp only [List.length_cons]); omega, fun z => by cases z⟩, by omega, _, cw_nst_o (by decide), ?_⟩
  exact cw_sr_to h3 (by omega) (by omega) (by omega)
theorem cw_sr_132_6 (ho : 0 ≤ o ∧ o ≤ 8) (hb : 0 ≤ b) (h0 : cw_sr (132 :: r) D o b) : cw_sr (r) D o b := by
  obtain ⟨⟨h4, -⟩, h1, h2, h3⟩ := (cw_sr_part (by decide) (by decide)).mp h0
  have h4 : (r.length : Int) + 4 + 40 * (8 - o) ≤ 512 := h4
  have h1 : 0 ≤ D := h1
  have h2 : (D : Int) ≤ 2 * o + 1000 := h2
  have h3 : cw_sr r (D + 0) o (b + 0) := h3
  exact cw_sr_to h3 rfl rfl (by omega)
theorem cw_sr_132_11 (ho : 0 ≤ o ∧ o ≤ 8) (hb : 0 ≤ b) (h0 : cw_sr (132 :: r) D o b) : cw_sr (5 :: 134 :: r) D o b := by
  obtain ⟨⟨h4, -⟩, h1, h2, h3⟩ := (cw_sr_part (by decide) (by decide)).mp h0
  have h4 : (r.length : Int) + 4 + 40 * (8 - o) ≤ 512 := h4
  have h1 : 0 ≤ D := h1
  have h2 : (D : Int) ≤ 2 * o + 1000 := h2
  have h3 : cw_sr r (D + 0) o (b + 0) := h3
  refine (cw_sr_tok (by decide)).mpr ⟨⟨by show (_ : Int) + 1 + _ ≤ _; (try simp only [List.length_cons]); omega, fun z => by cases z⟩, ?_⟩
  refine (cw_sr_part (by decide) (by decide)).mpr ⟨⟨by show (_ : Int) + 3 + _ ≤ _; (try simp only [List.length_cons]); omega, fun z => by cases z⟩, by show 0 ≤ _; omega, by show _ ≤ _ + 1000; omega, ?_⟩
  show cw_sr (r) (D + 0) o ((b + 2) + 1)
  exact cw_sr_to h3 (by omega) (by omega) (by omega)
theorem cw_sr_132_12 (ho : 0 ≤ o ∧ o ≤ 8) (hb : 0 ≤ b) (h0 : cw_sr (132 :: r) D o b) : cw_sr (44 :: 131 :: 133 :: r) D o b := by
  obtain ⟨⟨h4, -⟩, h1, h2, h3⟩ := (cw_sr_part (by decide) (by decide)).mp h0
  have h4 : (r.length : Int) + 4 + 40 * (8 - o) ≤ 512 := h4
  have h1 : 0 ≤ D := h1
  have h2 : (D : Int) ≤ 2 * o + 1000 := h2
  have h3 : cw_sr r (D + 0) o (b + 0) := h3
  refine (cw_sr_tok (by decide)).mpr ⟨⟨by show (_ : Int) + 1 + _ ≤ _; (try simp only [List.length_cons]); omega, fun z => by cases z⟩, ?_⟩
  refine (cw_sr_part (by decide) (by decide)).mpr ⟨⟨by show (_ : Int) + 3 + _ ≤ _; (try simp only [List.length_cons]); omega, fun z => by cases z⟩, by show 0 ≤ _; omega, by show _ ≤ _ + 1000; omega, ?_⟩
  show cw_sr (133 :: r) (D + 0) o ((b + 2) + 1)
  refine (cw_sr_part (by decide) (by decide)).mpr ⟨⟨by show (_ : Int) + 4 + _ ≤ _; (try simp only [List.length_cons]); omega, fun z => by cases z⟩, by show 0 ≤ _; omega, by show _ ≤ _ + 1000; omega, ?_⟩
  show cw_sr (r) ((D + 0) + 0) o (((b + 2) + 1) + 0)
  exact cw_sr_to h3 (by omega) (by omega) (by omega)
theorem cw_sr_133_6 (ho : 0 ≤ o ∧ o ≤ 8) (hb : 0 ≤ b) (h0 : cw_sr (133 :: r) D o b) : cw_sr (r) D o b := by
  obtain ⟨⟨h4, -⟩, h1, h2, h3⟩ := (cw_sr_part (by decide) (by decide)).mp h0
  have h4 : (r.length : Int) + 4 + 40 * (8 - o) ≤ 512 := h4
  have h1 : 0 ≤ D := h1
  have h2 : (D : Int) ≤ 2 * o + 1000 := h2
  have h3 : cw_sr r (D + 0) o (b + 0) := h3
  exact cw_sr_to h3 rfl rfl (by omega)
theorem cw_sr_133_12 (ho : 0 ≤ o ∧ o ≤ 8) (hb : 0 ≤ b) (h0 : cw_sr (133 :: r) D o b) : cw_sr (44 :: 131 :: 133 :: r) D o b := by
  obtain ⟨⟨h4, -⟩, h1, h2, h3⟩ := (cw_sr_part (by decide) (by decide)).mp h0
  have h4 : (r.length : Int) + 4 + 40 * (8 - o) ≤ 512 := h4
  have h1 : 0 ≤ D := h1
  have h2 : (D : Int) ≤ 2 * o + 1000 := h2
  have h3 : cw_sr r (D + 0) o (b + 0) := h3
  refine (cw_sr_tok (by decide)).mpr ⟨⟨by show (_ : Int) + 1 + _ ≤ _; (try simp only [List.length_cons]); omega, fun z => by cases z⟩, ?_⟩
  refine (cw_sr_part (by decide) (by decide)).mpr ⟨⟨by show (_ : Int) + 3 + _ ≤ _; (try simp only [List.length_cons]); omega, fun z => by cases z⟩, by show 0 ≤ _; omega, by show _ ≤ _ + 1000; omega, ?_⟩
  show cw_sr (133 :: r) (D + 0) o ((b + 2) + 1)
  refine (cw_sr_part (by decide) (by decide)).mpr ⟨⟨by show (_ : Int) + 4 + _ ≤ _; (try simp only [List.length_cons]); omega, fun z => by cases z⟩, by show 0 ≤ _; omega, by show _ ≤ _ + 1000; omega, ?_⟩
  show cw_sr (r) ((D + 0) + 0) o (((b + 2) + 1) + 0)
  exact cw_sr_to h3 (by omega) (by omega) (by omega)
theorem cw_sr_134_9 (ho : 0 ≤ o ∧ o ≤ 8) (hb : 0 ≤ b) (h0 : cw_sr (134 :: r) D o b) : cw_sr (45 :: 182 :: 4 :: r) D o b := by
  obtain ⟨⟨h4, -⟩, h1, h2, h3⟩ := (cw_sr_part (by decide) (by decide)).mp h0
  have h4 : (r.length : Int) + 3 + 40 * (8 - o) ≤ 512 := h4
  have h1 : 0 ≤ D := h1
  have h2 : (D : Int) ≤ 2 * o + 1000 := h2
  have h3 : cw_sr r (D + 0) o (b + 1) := h3
  refine (cw_sr_tok (by decide)).mpr ⟨⟨by show (_ : Int) + 1 + _ ≤ _; (try simp only [List.length_cons]); omega, fun z => by cases z⟩, ?_⟩
  refine (cw_sr_note (by decide)).mpr ⟨⟨by show (_ : Int) + 1 + _ ≤ _; (try simp only [List.length_cons]); omega, fun z => by cases z⟩, by omega, _, cw_nst_o (by decide), ?_⟩
  refine (cw_sr_tok (by decide)).mpr ⟨⟨by show (_ : Int) + 1 + _ ≤ _; (try simp only [List.length_cons]); omega, fun z => by cases z⟩, ?_⟩
  exact cw_sr_to h3 (by omega) (by omega) (by omega)
theorem cw_sr_134_10 (ho : 0 ≤ o ∧ o ≤ 8) (hb : 0 ≤ b) (h0 : cw_sr (134 :: r) D o b) : cw_sr (4 :: 182 :: r) D o b := by
  obtain ⟨⟨h4, -⟩, h1, h2, h3⟩ := (cw_sr_part (by decide) (by decide)).mp h0
  have h4 : (r.length : Int) + 3 + 40 * (8 - o) ≤ 512 := h4
  have h1 : 0 ≤ D := h1
  have h2 : (D : Int) ≤ 2 * o + 1000 := h2
  have h3 : cw_sr r (D + 0) o (b + 1) := h3
  refine (cw_sr_tok (by decide)).mpr ⟨⟨by show (_ : Int) + 1 + _ ≤ _; (try simp only [List.length_cons]); omega, fun z => by cases z⟩, ?_⟩
  refine (cw_sr_note (by decide)).mpr ⟨⟨by show (_ : Int) + 1 + _ ≤ _; (try simp only [List.length_cons]); omega, fun z => by cases z⟩, by omega, _, cw_nst_o (by decide), ?_⟩
  exact cw_sr_to h3 (by omega) (by omega) (by omega)
theorem cw_sr_135_6 (ho : 0 ≤ o ∧ o ≤ 8) (hb : 0 ≤ b) (h0 : cw_sr (135 :: r) D o b) : cw_sr (r) D o b := by
  obtain ⟨⟨h4, -⟩, h1, h2, h3⟩ := (cw_sr_part (by decide) (by decide)).mp h0
  have h4 : (r.length : Int) + 4 + 40 * (8 - o) ≤ 512 := h4
  have h1 : 0 ≤ D := h1
  have h2 : (D : Int) ≤ 2 * o + 1000 := h2
  have h3 : cw_sr r (D + 0) o (b + 0) := h3
  exact cw_sr_to h3 rfl rfl (by omega)
theorem cw_sr_135_13 (ho : 0 ≤ o ∧ o ≤ 8) (hb : 0 ≤ b) (h0 : cw_sr (135 :: r) D o b) : cw_sr (44 :: 3 :: 185 :: 135 :: r) D o b := by
  obtain ⟨⟨h4, -⟩, h1, h2, h3⟩ := (cw_sr_part (by decide) (by decide)).mp h0
  have h4 : (r.length : Int) + 4 + 40 * (8 - o) ≤ 512 := h4
  have h1 : 0 ≤ D := h1
  have h2 : (D : Int) ≤ 2 * o + 1000 := h2
  have h3 : cw_sr r (D + 0) o (b + 0) := h3
  refine (cw_sr_tok (by decide)).mpr ⟨⟨by show (_ : Int) + 1 + _ ≤ _; (try simp only [List.length_cons]); omega, fun z => by cases z⟩, ?_⟩
  refine (cw_sr_tok (by decide)).mpr ⟨⟨by show (_ : Int) + 1 + _ ≤ _; (try simp only [List.length_cons]); omega, fun z => by cases z⟩, ?_⟩
  refine (cw_sr_note (by decide)).mpr ⟨⟨by show (_ : Int) + 1 + _ ≤ _; (try simp only [List.length_cons]); omega, fun z => by cases z⟩, by omega, _, cw_nst_o (by decide), ?_⟩
  refine (cw_sr_part (by decide) (by decide)).mpr ⟨⟨by show (_ : Int) + 4 + _ ≤ _; (try simp only [List.length_cons]); omega, fun z => by cases z⟩, by show 0 ≤ _; omega, by show _ ≤ _ + 1000; omega, ?_⟩
  show cw_sr (r) (D + 0) o ((((b + 2) + 2) - 1) + 0)
  exact cw_sr_to h3 (by omega) (by omega) (by omega)
theorem cw_sr_136_6 (ho : 0 ≤ o ∧ o ≤ 8) (hb : 0 ≤ b) (h0 : cw_sr (136 :: r) D o b) : cw_sr (r) D o b := by
  obtain ⟨⟨h4, -⟩, h1, h2, h3⟩ := (cw_sr_part (by decide) (by decide)).mp h0
  have h4 : (r.length : Int) + 5 + 40 * (8 - o) ≤ 512 := h4
  have h1 : 0 ≤ D := h1
  have h2 : (D : Int) ≤ 2 * o + 1000 := h2
  have h3 : cw_sr r (D + 0) o (b + 0) := h3
  exact cw_sr_to h3 rfl rfl (by omega)
theorem cw_sr_136_14 (ho : 0 ≤ o ∧ o ≤ 8) (hb : 0 ≤ b) (h0 : cw_sr (136 :: r) D o b) : cw_sr (44 :: 144 :: 187 :: 136 :: r) D o b := by
  obtain ⟨⟨h4, -⟩, h1, h2, h3⟩ := (cw_sr_part (by decide) (by decide)).mp h0
  have h4 : (r.length : Int) + 5 + 40 * (8 - o) ≤ 512 := h4
  have h1 : 0 ≤ D := h1
  have h2 : (D : Int) ≤ 2 * o + 1000 := h2
  have h3 : cw_sr r (D + 0) o (b + 0) := h3
  refine (cw_sr_tok (by decide)).mpr ⟨⟨by show (_ : Int) + 1 + _ ≤ _; (try simp only [List.length_cons]); omega, fun z => by cases z⟩, ?_⟩
  refine (cw_sr_part (by decide) (by decide)).mpr ⟨⟨by show (_ : Int) + 3 + _ ≤ _; (try simp only [List.length_cons]); omega, fun z => by cases z⟩, by show 0 ≤ _; omega, by show _ ≤ _ + 1000; omega, ?_⟩
  show cw_sr (187 :: 136 :: r) (D + 0) o ((b + 2) + 1)
  refine (cw_sr_note (by decide)).mpr ⟨⟨by show (_ : Int) + 1 + _ ≤ _; (try simp only [List.length_cons]); omega, fun z => by cases z⟩, by omega, _, cw_nst_o (by decide), ?_⟩
  refine (cw_sr_part (by decide) (by decide)).mpr ⟨⟨by show (_ : Int) + 5 + _ ≤ _; (try simp only [List.length_cons]); omega, fun z => by cases z⟩, by show 0 ≤ _; omega, by show _ ≤ _ + 1000; omega, ?_⟩
  show cw_sr (r) ((D + 0) + 0) o ((((b + 2) + 1) - 1) + 0)
  exact cw_sr_to h3 (by omega) (by omega) (by omega)
theorem cw_sr_137_6 (ho : 0 ≤ o ∧ o ≤ 8) (hb : 0 ≤ b) (h0 : cw_sr (137 :: r) D o b) : cw_sr (r) D o b := by
  obtain ⟨⟨h4, -⟩, h1, h2, h3⟩ := (cw_sr_part (by decide) (by decide)).mp h0
  have h4 : (r.length : Int) + 11 + 40 * (8 - o) ≤ 512 := h4
  have h1 : 0 ≤ D := h1
  have h2 : (D : Int) ≤ 2 * o + 1000 := h2
  have h3 : cw_sr r (D + 0) o (b + 0) := h3
  exact cw_sr_to h3 rfl rfl (by omega)
theorem cw_sr_137_15 (ho : 0 ≤ o ∧ o ≤ 8) (hb : 0 ≤ b) (h0 : cw_sr (137 :: r) D o b) : cw_sr (13 :: 138 :: 188 :: r) D o b := by
  obtain ⟨⟨h4, -⟩, h1, h2, h3⟩ := (cw_sr_part (by decide) (by decide)).mp h0
  have h4 : (r.length : Int) + 11 + 40 * (8 - o) ≤ 512 := h4
  have h1 : 0 ≤ D := h1
  have h2 : (D : Int) ≤ 2 * o + 1000 := h2
  have h3 : cw_sr r (D + 0) o (b + 0) := h3
  refine (cw_sr_tok (by decide)).mpr ⟨⟨by show (_ : Int) + 1 + _ ≤ _; (try simp only [List.length_cons]); omega, fun z => by cases z⟩, ?_⟩
  refine (cw_sr_part (by decide) (by decide)).mpr ⟨⟨by show (_ : Int) + 10 + _ ≤ _; (try simp only [List.length_cons]); omega, fun z => by cases z⟩, by show 0 ≤ _; omega, by show _ ≤ _ + 1000; omega, ?_⟩
  show cw_sr (188 :: r) (D + 0) o ((b + 2) + 2)
  refine (cw_sr_note (by decide)).mpr ⟨⟨by show (_ : Int) + 1 + _ ≤ _; (try simp only [List.length_cons]); omega, fun z => by cases z⟩, by omega, _, cw_nst_o (by decide), ?_⟩
  exact cw_sr_to h3 (by omega) (by omega) (by omega)
theorem cw_sr_138_16 (ho : 0 ≤ o ∧ o ≤ 8) (hb : 0 ≤ b) (h0 : cw_sr (138 :: r) D o b) : cw_sr (140 :: 139 :: r) D o b := by
  obtain ⟨⟨h4, -⟩, h1, h2, h3⟩ := (cw_sr_part (by decide) (by decide)).mp h0
  have h4 : (r.length : Int) + 10 + 40 * (8 - o) ≤ 512 := h4
  have h1 : 0 ≤ D := h1
  have h2 : (D : Int) ≤ 2 * o + 1000 := h2
  have h3 : cw_sr r (D + 0) o (b + 2) := h3
  refine (cw_sr_part (by decide) (by decide)).mpr ⟨⟨by show (_ : Int) + 8 + _ ≤ _; (try simp only [List.length_cons]); omega, fun z => by cases z⟩, by show 0 ≤ _; omega, by show _ ≤ _ + 1000; omega, ?_⟩
  show cw_sr (139 :: r) (D + 0) o (b + 2)
  refine (cw_sr_part (by decide) (by decide)).mpr ⟨⟨by show (_ : Int) + 10 + _ ≤ _; (try simp only [List.length_cons]); omega, fun z => by cases z⟩, by show 0 ≤ _; omega, by show _ ≤ _ + 1000; omega, ?_⟩
  show cw_sr (r) ((D + 0) + 0) o ((b + 2) + 0)
  exact cw_sr_to h3 (by omega) (by omega) (by omega)
theorem cw_sr_139_6 (ho : 0 ≤ o ∧ o ≤ 8) (hb : 0 ≤ b) (h0 : cw_sr (139 :: r) D o b) : cw_sr (r) D o b := by
  obtain ⟨⟨h4, -⟩, h1, h2, h3⟩ := (cw_sr_part (by decide) (by decide)).mp h0
  have h4 : (r.length : Int) + 10 + 40 * (8 - o) ≤ 512 := h4
  have h1 : 0 ≤ D := h1
  have h2 : (D : Int) ≤ 2 * o + 1000 := h2
  have h3 : cw_sr r (D + 0) o (b + 0) := h3
  exact cw_sr_to h3 rfl rfl (by omega)
theorem cw_sr_139_17 (ho : 0 ≤ o ∧ o ≤ 8) (hb : 0 ≤ b) (h0 : cw_sr (139 :: r) D o b) : cw_sr (124 :: 140 :: 207 :: 139 :: r) D o b := by
  obtain ⟨⟨h4, -⟩, h1, h2, h3⟩ := (cw_sr_part (by decide) (by decide)).mp h0
  have h4 : (r.length : Int) + 10 + 40 * (8 - o) ≤ 512 := h4
  have h1 : 0 ≤ D := h1
  have h2 : (D : Int) ≤ 2 * o + 1000 := h2
  have h3 : cw_sr r (D + 0) o (b + 0) := h3
  refine (cw_sr_tok (by decide)).mpr ⟨⟨by show (_ : Int) + 1 + _ ≤ _; (try simp only [List.length_cons]); omega, fun z => by cases z⟩, ?_⟩
  refine (cw_sr_part (by decide) (by decide)).mpr ⟨⟨by show (_ : Int) + 8 + _ ≤ _; (try simp only [List.length_cons]); omega, fun z => by cases z⟩, by show 0 ≤ _; omega, by show _ ≤ _ + 1000; omega, ?_⟩
  show cw_sr (207 :: 139 :: r) (D + 0) o ((b + 2) + 2)
  refine (cw_sr_note (by decide)).mpr ⟨⟨by show (_ : Int) + 1 + _ ≤ _; (try simp only [List.length_cons]); omega, fun z => by cases z⟩, by omega, _, cw_nst_o (by decide), ?_⟩
  refine (cw_sr_part (by decide) (by decide)).mpr ⟨⟨by show (_ : Int) + 10 + _ ≤ _; (try simp only [List.length_cons]); omega, fun z => by cases z⟩, by show 0 ≤ _; omega, by show _ ≤ _ + 1000; omega, ?_⟩
  show cw_sr (r) ((D + 0) + 0) o ((((b + 2) + 2) - 1) + 0)
  exact cw_sr_to h3 (by omega) (by omega) (by omega)
theorem cw_sr_140_18 (ho : 0 ≤ o ∧ o ≤ 8) (hb : 0 ≤ b) (h0 : cw_sr (140 :: r) D o b) : cw_sr (142 :: 141 :: r) D o b := by
  obtain ⟨⟨h4, -⟩, h1, h2, h3⟩ := (cw_sr_part (by decide) (by decide)).mp h0
  have h4 : (r.length : Int) + 8 + 40 * (8 - o) ≤ 512 := h4
  have h1 : 0 ≤ D := h1
  have h2 : (D : Int) ≤ 2 * o + 1000 := h2
  have h3 : cw_sr r (D + 0) o (b + 2) := h3
  refine (cw_sr_part (by decide) (by decide)).mpr ⟨⟨by show (_ : Int) + 6 + _ ≤ _; (try simp only [List.length_cons]); omega, fun z => by cases z⟩, by show 0 ≤ _; omega, by show _ ≤ _ + 1000; omega, ?_⟩
  show cw_sr (141 :: r) (D + 0) o (b + 2)
  refine (cw_sr_part (by decide) (by decide)).mpr ⟨⟨by show (_ : Int) + 8 + _ ≤ _; (try simp only [List.length_cons]); omega, fun z => by cases z⟩, by show 0 ≤ _; omega, by show _ ≤ _ + 1000; omega, ?_⟩
  show cw_sr (r) ((D + 0) + 0) o ((b + 2) + 0)
  exact cw_sr_to h3 (by omega) (by omega) (by omega)
theorem cw_sr_141_6 (ho : 0 ≤ o ∧ o ≤ 8) (hb : 0 ≤ b) (h0 : cw_sr (141 :: r) D o b) : cw_sr (r) D o b := by
  obtain ⟨⟨h4, -⟩, h1, h2, h3⟩ := (cw_sr_part (by decide) (by decide)).mp h0
  have h4 : (r.length : Int) + 8 + 40 * (8 - o) ≤ 512 := h4
  have h1 : 0 ≤ D := h1
  have h2 : (D : Int) ≤ 2 * o + 1000 := h2
  have h3 : cw_sr r (D + 0) o (b + 0) := h3
  exact cw_sr_to h3 rfl rfl (by omega)
theorem cw_sr_141_19 (ho : 0 ≤ o ∧ o ≤ 8) (hb : 0 ≤ b) (h0 : cw_sr (141 :: r) D o b) : cw_sr (38 :: 142 :: 206 :: 141 :: r) D o b := by
  obtain ⟨⟨h4, -⟩, h1, h2, h3⟩ := (cw_sr_part (by decide) (by decide)).mp h0
  have h4 : (r.length : Int) + 8 + 40 * (8 - o) ≤ 512 := h4
  have h1 : 0 ≤ D := h1
  have h2 : (D : Int) ≤ 2 * o + 1000 := h2
  have h3 : cw_sr r (D + 0) o (b + 0) := h3
  refine (cw_sr_tok (by decide)).mpr ⟨⟨by show (_ : Int) + 1 + _ ≤ _; (try simp only [List.length_cons]); omega, fun z => by cases z⟩, ?_⟩
  refine (cw_sr_part (by decide) (by decide)).mpr ⟨⟨by show (_ : Int) + 6 + _ ≤ _; (try simp only [List.length_cons]); omega, fun z => by cases z⟩, by show 0 ≤ _; omega, by show _ ≤ _ + 1000; omega, ?_⟩
  show cw_sr (206 :: 141 :: r) (D + 0) o ((b + 2) + 2)
  refine (cw_sr_note (by decide)).mpr ⟨⟨by show (_ : Int) + 1 + _ ≤ _; (try simp only [List.length_cons]); omega, fun z => by cases z⟩, by omega, _, cw_nst_o (by decide), ?_⟩
  refine (cw_sr_part (by decide) (by decide)).mpr ⟨⟨by show (_ : Int) + 8 + _ ≤ _; (try simp only [List.length_cons]); omega, fun z => by cases z⟩, by show 0 ≤ _; omega, by show _ ≤ _ + 1000; omega, ?_⟩
  show cw_sr (r) ((D + 0) + 0) o ((((b + 2) + 2) - 1) + 0)
  exact cw_sr_to h3 (by omega) (by omega) (by omega)
theorem cw_sr_142_20 (ho : 0 ≤ o ∧ o ≤ 8) (hb : 0 ≤ b) (h0 : cw_sr (142 :: r) D o b) : cw_sr (33 :: 170 :: 142 :: 171 :: 205 :: r) D o b := by
  obtain ⟨⟨h4, -⟩, h1, h2, h3⟩ := (cw_sr_part (by decide) (by decide)).mp h0
  have h4 : (r.length : Int) + 6 + 40 * (8 - o) ≤ 512 := h4
  have h1 : 0 ≤ D := h1
  have h2 : (D : Int) ≤ 2 * o + 1000 := h2
  have h3 : cw_sr r (D + 0) o (b + 2) := h3
  refine (cw_sr_tok (by decide)).mpr ⟨⟨by show (_ : Int) + 1 + _ ≤ _; (try simp only [List.length_cons]); omega, fun z => by cases z⟩, ?_⟩
  refine cw_sr_open.mpr ⟨⟨by show (_ : Int) + 1 + _ ≤ _; (try simp only [List.length_cons]); omega, fun z => by cases z⟩, ?_⟩
  refine (cw_sr_part (by decide) (by decide)).mpr ⟨⟨by show (_ : Int) + 6 + _ ≤ _; (try simp only [List.length_cons]); omega, fun z => by cases z⟩, by show 0 ≤ _; omega, by show _ ≤ _ + 1000; omega, ?_⟩
  show cw_sr (171 :: 205 :: r) (D + 0) (o + 1) ((b + 2) + 2)
  refine cw_sr_shut.mpr ⟨⟨by show (_ : Int) + 1 + _ ≤ _; (try simp only [List.length_cons]); omega, fun z => by cases z⟩, by omega, ?_⟩
  refine (cw_sr_note (by decide)).mpr ⟨⟨by show (_ : Int) + 1 + _ ≤ _; (try simp only [List.length_cons]); omega, fun z => by cases z⟩, by omega, _, cw_nst_o (by decide), ?_⟩
  exact cw_sr_to h3 (by omega) (by omega) (by omega)
theorem cw_sr_142_21 (ho : 0 ≤ o ∧ o ≤ 8) (hb : 0 ≤ b) (h0 : cw_sr (142 :: r) D o b) : cw_sr (40 :: 170 :: 138 :: 41 :: 171 :: r) D o b := by
  obtain ⟨⟨h4, -⟩, h1, h2, h3⟩ := (cw_sr_part (by decide) (by decide)).mp h0
  have h4 : (r.length : Int) + 6 + 40 * (8 - o) ≤ 512 := h4
  have h1 : 0 ≤ D := h1
  have h2 : (D : Int) ≤ 2 * o + 1000 := h2
  have h3 : cw_sr r (D + 0) o (b + 2) := h3
  refine (cw_sr_tok (by decide)).mpr ⟨⟨by show (_ : Int) + 1 + _ ≤ _; (try simp only [List.length_cons]); omega, fun z => by cases z⟩, ?_⟩
  refine cw_sr_open.mpr ⟨⟨by show (_ : Int) + 1 + _ ≤ _; (try simp only [List.length_cons]); omega, fun z => by cases z⟩, ?_⟩
  refine (cw_sr_part (by decide) (by decide)).mpr ⟨⟨by show (_ : Int) + 10 + _ ≤ _; (try simp only [List.length_cons]); omega, fun z => by cases z⟩, by show 0 ≤ _; omega, by show _ ≤ _ + 1000; omega, ?_⟩
  show cw_sr (41 :: 171 :: r) (D + 0) (o + 1) ((b + 2) + 2)
  refine (cw_sr_tok (by decide)).mpr ⟨⟨by show (_ : Int) + 1 + _ ≤ _; (try simp only [List.length_cons]); omega, fun z => by cases z⟩, ?_⟩
  refine cw_sr_shut.mpr ⟨⟨by show (_ : Int) + 1 + _ ≤ _; (try simp only [List.length_cons]); omega, fun z => by cases z⟩, by omega, ?_⟩
  exact cw_sr_to h3 (by omega) (by omega) (by omega)
theorem cw_sr_142_22 (ho : 0 ≤ o ∧ o ≤ 8) (hb : 0 ≤ b) (h0 : cw_sr (142 :: r) D o b) : cw_sr (144 :: 143 :: 144 :: 204 :: r) D o b := by
  obtain ⟨⟨h4, -⟩, h1, h2, h3⟩ := (cw_sr_part (by decide) (by decide)).mp h0
  have h4 : (r.length : Int) + 6 + 40 * (8 - o) ≤ 512 := h4
  have h1 : 0 ≤ D := h1
  have h2 : (D : Int) ≤ 2 * o + 1000 := h2
  have h3 : cw_sr r (D + 0) o (b + 2) := h3
  refine (cw_sr_part (by decide) (by decide)).mpr ⟨⟨by show (_ : Int) + 3 + _ ≤ _; (try simp only [List.length_cons]); omega, fun z => by cases z⟩, by show 0 ≤ _; omega, by show _ ≤ _ + 1000; omega, ?_⟩
  show cw_sr (143 :: 144 :: 204 :: r) (D + 0) o (b + 1)
  refine (cw_sr_part (by decide) (by decide)).mpr ⟨⟨by show (_ : Int) + 2 + _ ≤ _; (try simp only [List.length_cons]); omega, fun z => by cases z⟩, by show 0 ≤ _; omega, by show _ ≤ _ + 1000; omega, ?_⟩
  show cw_sr (144 :: 204 :: r) ((D + 0) + 0) o ((b + 1) + 1)
  refine (cw_sr_part (by decide) (by decide)).mpr ⟨⟨by show (_ : Int) + 3 + _ ≤ _; (try simp only [List.length_cons]); omega, fun z => by cases z⟩, by show 0 ≤ _; omega, by show _ ≤ _ + 1000; omega, ?_⟩
  show cw_sr (204 :: r) (((D + 0) + 0) + 0) o (((b + 1) + 1) + 1)
  refine (cw_sr_note (by decide)).mpr ⟨⟨by show (_ : Int) + 1 + _ ≤ _; (try simp only [List.length_cons]); omega, fun z => by cases z⟩, by omega, _, cw_nst_o (by decide), ?_⟩
  exact cw_sr_to h3 (by omega) (by omega) (by omega)
theorem cw_sr_143_23 (ho : 0 ≤ o ∧ o ≤ 8) (hb : 0 ≤ b) (h0 : cw_sr (143 :: r) D o b) : cw_sr (61 :: 203 :: r) D o b := by
  obtain ⟨⟨h4, -⟩, h1, h2, h3⟩ := (cw_sr_part (by decide) (by decide)).mp h0
  have h4 : (r.length : Int) + 2 + 40 * (8 - o) ≤ 512 := h4
  have h1 : 0 ≤ D := h1
  have h2 : (D : Int) ≤ 2 * o + 1000 := h2
  have h3 : cw_sr r (D + 0) o (b + 1) := h3
  refine (cw_sr_tok (by decide)).mpr ⟨⟨by show (_ : Int) + 1 + _ ≤ _; (try simp only [List.length_cons]); omega, fun z => by cases z⟩, ?_⟩
  refine (cw_sr_note (by decide)).mpr ⟨⟨by show (_ : Int) + 1 + _ ≤ _; (try simp only [List.length_cons]); omega, fun z => by cases z⟩, by omega, _, cw_nst_o (by decide), ?_⟩
  exact cw_sr_to h3 (by omega) (by omega) (by omega)
theorem cw_sr_143_24 (ho : 0 ≤ o ∧ o ≤ 8) (hb : 0 ≤ b) (h0 : cw_sr (143 :: r) D o b) : cw_sr (6 :: 203 :: r) D o b := by
  obtain ⟨⟨h4, -⟩, h1, h2, h3⟩ := (cw_sr_part (by decide) (by decide)).mp h0
  have h4 : (r.length : Int) + 2 + 40 * (8 - o) ≤ 512 := h4
  have h1 : 0 ≤ D := h1
  have h2 : (D : Int) ≤ 2 * o + 1000 := h2
  have h3 : cw_sr r (D + 0) o (b + 1) := h3
  refine (cw_sr_tok (by decide)).mpr ⟨⟨by show (_ : Int) + 1 + _ ≤ _; (try simp only [List.length_cons]); omega, fun z => by cases z⟩, ?_⟩
  refine (cw_sr_note (by decide)).mpr ⟨⟨by show (_ : Int) + 1 + _ ≤ _; (try simp only [List.length_cons]); omega, fun z => by cases z⟩, by omega, _, cw_nst_o (by decide), ?_⟩
  exact cw_sr_to h3 (by omega) (by omega) (by omega)
theorem cw_sr_143_25 (ho : 0 ≤ o ∧ o ≤ 8) (hb : 0 ≤ b) (h0 : cw_sr (143 :: r) D o b) : cw_sr (60 :: 203 :: r) D o b := by
  obtain ⟨⟨h4, -⟩, h1, h2, h3⟩ := (cw_sr_part (by decide) (by decide)).mp h0
  have h4 : (r.length : Int) + 2 + 40 * (8 - o) ≤ 512 := h4
  have h1 : 0 ≤ D := h1
  have h2 : (D : Int) ≤ 2 * o + 1000 := h2
  have h3 : cw_sr r (D + 0) o (b + 1) := h3
  refine (cw_sr_tok (by decide)).mpr ⟨⟨by show (_ : Int) + 1 + _ ≤ _; (try simp only [List.length_cons]); omega, fun z => by cases z⟩, ?_⟩
  refine (cw_sr_note (by decide)).mpr ⟨⟨by show (_ : Int) + 1 + _ ≤ _; (try simp only [List.length_cons]); omega, fun z => by cases z⟩, by omega, _, cw_nst_o (by decide), ?_⟩
  exact cw_sr_to h3 (by omega) (by omega) (by omega)
theorem cw_sr_143_26 (ho : 0 ≤ o ∧ o ≤ 8) (hb : 0 ≤ b) (h0 : cw_sr (143 :: r) D o b) : cw_sr (7 :: 203 :: r) D o b := by
  obtain ⟨⟨h4, -⟩, h1, h2, h3⟩ := (cw_sr_part (by decide) (by decide)).mp h0
  have h4 : (r.length : Int) + 2 + 40 * (8 - o) ≤ 512 := h4
  have h1 : 0 ≤ D := h1
  have h2 : (D : Int) ≤ 2 * o + 1000 := h2
  have h3 : cw_sr r (D + 0) o (b + 1) := h3
  refine (cw_sr_tok (by decide)).mpr ⟨⟨by show (_ : Int) + 1 + _ ≤ _; (try simp only [List.length_cons]); omega, fun z => by cases z⟩, ?_⟩
  refine (cw_sr_note (by decide)).mpr ⟨⟨by show (_ : Int) + 1 + _ ≤ _; (try simp only [List.length_cons]); omega, fun z => by cases z⟩, by omega, _, cw_nst_o (by decide), ?_⟩
  exact cw_sr_to h3 (by omega) (by omega) (by omega)
theorem cw_sr_144_27 (ho : 0 ≤ o ∧ o ≤ 8) (hb : 0 ≤ b) (h0 : cw_sr (144 :: r) D o b) : cw_sr (63 :: 3 :: 201 :: r) D o b := by
  obtain ⟨⟨h4, -⟩, h1, h2, h3⟩ := (cw_sr_part (by decide) (by decide)).mp h0
  have h4 : (r.length : Int) + 3 + 40 * (8 - o) ≤ 512 := h4
  have h1 : 0 ≤ D := h1
  have h2 : (D : Int) ≤ 2 * o + 1000 := h2
  have h3 : cw_sr r (D + 0) o (b + 1) := h3
  refine (cw_sr_tok (by decide)).mpr ⟨⟨by show (_ : Int) + 1 + _ ≤ _; (try simp only [List.length_cons]); omega, fun z => by cases z⟩, ?_⟩
  refine (cw_sr_tok (by decide)).mpr ⟨⟨by show (_ : Int) + 1 + _ ≤ _; (try simp only [List.length_cons]); omega, fun z => by cases z⟩, ?_⟩
  refine (cw_sr_note (by decide)).mpr ⟨⟨by show (_ : Int) + 1 + _ ≤ _; (try simp only [List.length_cons]); omega, fun z => by cases z⟩, by omega, _, cw_nst_o (by decide), ?_⟩
  exact cw_sr_to h3 (by omega) (by omega) (by omega)
theorem cw_sr_144_28 (ho : 0 ≤ o ∧ o ≤ 8) (hb : 0 ≤ b) (h0 : cw_sr (144 :: r) D o b) : cw_sr (45 :: 200 :: 4 :: r) D o b := by
  obtain ⟨⟨h4, -⟩, h1, h2, h3⟩ := (cw_sr_part (by decide) (by decide)).mp h0
  have h4 : (r.length : Int) + 3 + 40 * (8 - o) ≤ 512 := h4
  have h1 : 0 ≤ D := h1
  have h2 : (D : Int) ≤ 2 * o + 1000 := h2
  have h3 : cw_sr r (D + 0) o (b + 1) := h3
  refine (cw_sr_tok (by decide)).mpr ⟨⟨by show (_ : Int) + 1 + _ ≤ _; (try simp only [List.length_cons]); omega, fun z => by cases z⟩, ?_⟩
  refine (cw_sr_note (by decide)).mpr ⟨⟨by show (_ : Int) + 1 + _ ≤ _; (try simp only [List.length_cons]); omega, fun z => by cases z⟩, by omega, _, cw_nst_o (by decide), ?_⟩
  refine (cw_sr_tok (by decide)).mpr ⟨⟨by show (_ : Int) + 1 + _ ≤ _; (try simp only [List.length_cons]); omega, fun z => by cases z⟩, ?_⟩
  exact cw_sr_to h3 (by omega) (by omega) (by omega)
theorem cw_sr_144_29 (ho : 0 ≤ o ∧ o ≤ 8) (hb : 0 ≤ b) (h0 : cw_sr (144 :: r) D o b) : cw_sr (4 :: 200 :: r) D o b := by
  obtain ⟨⟨h4, -⟩, h1, h2, h3⟩ := (cw_sr_part (by decide) (by decide)).mp h0
  have h4 : (r.length : Int) + 3 + 40 * (8 - o) ≤ 512 := h4
  have h1 : 0 ≤ D := h1
  have h2 : (D : Int) ≤ 2 * o + 1000 := h2
  have h3 : cw_sr r (D + 0) o (b + 1) := h3
  refine (cw_sr_tok (by decide)).mpr ⟨⟨by show (_ : Int) + 1 + _ ≤ _; (try simp only [List.length_cons]); omega, fun z => by cases z⟩, ?_⟩
  refine (cw_sr_note (by decide)).mpr ⟨⟨by show (_ : Int) + 1 + _ ≤ _; (try simp only [List.length_cons]); omega, fun z => by cases z⟩, by omega, _, cw_nst_o (by decide), ?_⟩
  exact cw_sr_to h3 (by omega) (by omega) (by omega)
theorem cw_sr_145_30 (ho : 0 ≤ o ∧ o ≤ 8) (hb : 0 ≤ b) (h0 : cw_sr (145 :: r) D o b) : cw_sr (147 :: 146 :: r) D o b := by
  obtain ⟨⟨h4, -⟩, h1, h2, h3⟩ := (cw_sr_part (by decide) (by decide)).mp h0
  have h4 : (r.length : Int) + 15 + 40 * (8 - o) ≤ 512 := h4
  have h1 : 0 ≤ D := h1
  have h2 : (D : Int) ≤ 2 * o + 0 := h2
  have h3 : cw_sr r (D + 1) o (b + 1) := h3
  refine (cw_sr_part (by decide) (by decide)).mpr ⟨⟨by show (_ : Int) + 13 + _ ≤ _; (try simp only [List.length_cons]); omega, fun z => by cases z⟩, by show 0 ≤ _; omega, by show _ ≤ _ + 1; omega, ?_⟩
  show cw_sr (146 :: r) (D + 1) o (b + 1)
  refine (cw_sr_part (by decide) (by decide)).mpr ⟨⟨by show (_ : Int) + 15 + _ ≤ _; (try simp only [List.length_cons]); omega, fun z => by cases z⟩, by show 1 ≤ _; omega, by show _ ≤ _ + 1; omega, ?_⟩
  show cw_sr (r) ((D + 1) + 0) o ((b + 1) + 0)
  exact cw_sr_to h3 (by omega) (by omega) (by omega)
theorem cw_sr_146_6 (ho : 0 ≤ o ∧ o ≤ 8) (hb : 0 ≤ b) (h0 : cw_sr (146 :: r) D o b) : cw_sr (r) D o b := by
  obtain ⟨⟨h4, -⟩, h1, h2, h3⟩ := (cw_sr_part (by decide) (by decide)).mp h0
  have h4 : (r.length : Int) + 15 + 40 * (8 - o) ≤ 512 := h4
  have h1 : 1 ≤ D := h1
  have h2 : (D : Int) ≤ 2 * o + 1 := h2
  have h3 : cw_sr r (D + 0) o (b + 0) := h3
  exact cw_sr_to h3 rfl rfl (by omega)
theorem cw_sr_146_31 (ho : 0 ≤ o ∧ o ≤ 8) (hb : 0 ≤ b) (h0 : cw_sr (146 :: r) D o b) : cw_sr (43 :: 172 :: 147 :: 211 :: 146 :: r) D o b := by
  obtain ⟨⟨h4, -⟩, h1, h2, h3⟩ := (cw_sr_part (by decide) (by decide)).mp h0
  have h4 : (r.length : Int) + 15 + 40 * (8 - o) ≤ 512 := h4
  have h1 : 1 ≤ D := h1
  have h2 : (D : Int) ≤ 2 * o + 1 := h2
  have h3 : cw_sr r (D + 0) o (b + 0) := h3
  refine (cw_sr_tok (by decide)).mpr ⟨⟨by show (_ : Int) + 1 + _ ≤ _; (try simp only [List.length_cons]); omega, fun z => by cases z⟩, ?_⟩
  refine cw_sr_sign.mpr ⟨⟨by show (_ : Int) + 1 + _ ≤ _; (try simp only [List.length_cons]); omega, fun z => by cases z⟩, ?_⟩
  refine (cw_sr_part (by decide) (by decide)).mpr ⟨⟨by show (_ : Int) + 13 + _ ≤ _; (try simp only [List.length_cons]); omega, fun z => by cases z⟩, by show 0 ≤ _; omega, by show _ ≤ _ + 1; omega, ?_⟩
  show cw_sr (211 :: 146 :: r) (D + 1) o ((b + 2) + 1)
  refine (cw_sr_note (by decide)).mpr ⟨⟨by show (_ : Int) + 1 + _ ≤ _; (try simp only [List.length_cons]); omega, fun z => by cases z⟩, by omega, _, cw_nst_2 (by decide) (by omega), ?_⟩
  refine (cw_sr_part (by decide) (by decide)).mpr ⟨⟨by show (_ : Int) + 15 + _ ≤ _; (try simp only [List.length_cons]); omega, fun z => by cases z⟩, by show 1 ≤ _; omega, by show _ ≤ _ + 1; omega, ?_⟩
  show cw_sr (r) (((D + 1) - 1) + 0) o ((((b + 2) + 1) - 1) + 0)
  exact cw_sr_to h3 (by omega) (by omega) (by omega)
theorem cw_sr_146_32 (ho : 0 ≤ o ∧ o ≤ 8) (hb : 0 ≤ b) (h0 : cw_sr (146 :: r) D o b) : cw_sr (45 :: 172 :: 147 :: 212 :: 146 :: r) D o b := by
  obtain ⟨⟨h4, -⟩, h1, h2, h3⟩ := (cw_sr_part (by decide) (by decide)).mp h0
  have h4 : (r.length : Int) + 15 + 40 * (8 - o) ≤ 512 := h4
  have h1 : 1 ≤ D := h1
  have h2 : (D : Int) ≤ 2 * o + 1 := h2
  have h3 : cw_sr r (D + 0) o (b + 0) := h3
  refine (cw_sr_tok (by decide)).mpr ⟨⟨by show (_ : Int) + 1 + _ ≤ _; (try simp only [List.length_cons]); omega, fun z => by cases z⟩, ?_⟩
  refine cw_sr_sign.mpr ⟨⟨by show (_ : Int) + 1 + _ ≤ _; (try simp only [List.length_cons]); omega, fun z => by cases z⟩, ?_⟩
  refine (cw_sr_part (by decide) (by decide)).mpr ⟨⟨by show (_ : Int) + 13 + _ ≤ _; (try simp only [List.length_cons]); omega, fun z => by cases z⟩, by show 0 ≤ _; omega, by show _ ≤ _ + 1; omega, ?_⟩
  show cw_sr (212 :: 146 :: r) (D + 1) o ((b + 2) + 1)
  refine (cw_sr_note (by decide)).mpr ⟨⟨by show (_ : Int) + 1 + _ ≤ _; (try simp only [List.length_cons]); omega, fun z => by cases z⟩, by omega, _, cw_nst_2 (by decide) (by omega), ?_⟩
  refine (cw_sr_part (by decide) (by decide)).mpr ⟨⟨by show (_ : Int) + 15 + _ ≤ _; (try simp only [List.length_cons]); omega, fun z => by cases z⟩, by show 1 ≤ _; omega, by show _ ≤ _ + 1; omega, ?_⟩
  show cw_sr (r) (((D + 1) - 1) + 0) o ((((b + 2) + 1) - 1) + 0)
  exact cw_sr_to h3 (by omega) (by omega) (by omega)
theorem cw_sr_147_33 (ho : 0 ≤ o ∧ o ≤ 8) (hb : 0 ≤ b) (h0 : cw_sr (147 :: r) D o b) : cw_sr (149 :: 148 :: r) D o b := by
  obtain ⟨⟨h4, -⟩, h1, h2, h3⟩ := (cw_sr_part (by decide) (by decide)).mp h0
  have h4 : (r.length : Int) + 13 + 40 * (8 - o) ≤ 512 := h4
  have h1 : 0 ≤ D := h1
  have h2 : (D : Int) ≤ 2 * o + 1 := h2
  have h3 : cw_sr r (D + 1) o (b + 1) := h3
  refine (cw_sr_part (by decide) (by decide)).mpr ⟨⟨by show (_ : Int) + 11 + _ ≤ _; (try simp only [List.length_cons]); omega, fun z => by cases z⟩, by show 0 ≤ _; omega, by show _ ≤ _ + 2; omega, ?_⟩
  show cw_sr (148 :: r) (D + 1) o (b + 1)
  refine (cw_sr_part (by decide) (by decide)).mpr ⟨⟨by show (_ : Int) + 13 + _ ≤ _; (try simp only [List.length_cons]); omega, fun z => by cases z⟩, by show 1 ≤ _; omega, by show _ ≤ _ + 2; omega, ?_⟩
  show cw_sr (r) ((D + 1) + 0) o ((b + 1) + 0)
  exact cw_sr_to h3 (by omega) (by omega) (by omega)
theorem cw_sr_148_6 (ho : 0 ≤ o ∧ o ≤ 8) (hb : 0 ≤ b) (h0 : cw_sr (148 :: r) D o b) : cw_sr (r) D o b := by
  obtain ⟨⟨h4, -⟩, h1, h2, h3⟩ := (cw_sr_part (by decide) (by decide)).mp h0
  have h4 : (r.length : Int) + 13 + 40 * (8 - o) ≤ 512 := h4
  have h1 : 1 ≤ D := h1
  have h2 : (D : Int) ≤ 2 * o + 2 := h2
  have h3 : cw_sr r (D + 0) o (b + 0) := h3
  exact cw_sr_to h3 rfl rfl (by omega)
theorem cw_sr_148_34 (ho : 0 ≤ o ∧ o ≤ 8) (hb : 0 ≤ b) (h0 : cw_sr (148 :: r) D o b) : cw_sr (42 :: 172 :: 149 :: 213 :: 148 :: r) D o b := by
  obtain ⟨⟨h4, -⟩, h1, h2, h3⟩ := (cw_sr_part (by decide) (by decide)).mp h0
  have h4 : (r.length : Int) + 13 + 40 * (8 - o) ≤ 512 := h4
  have h1 : 1 ≤ D := h1
  have h2 : (D : Int) ≤ 2 * o + 2 := h2
  have h3 : cw_sr r (D + 0) o (b + 0) := h3
  refine (cw_sr_tok (by decide)).mpr ⟨⟨by show (_ : Int) + 1 + _ ≤ _; (try simp only [List.length_cons]); omega, fun z => by cases z⟩, ?_⟩
  refine cw_sr_sign.mpr ⟨⟨by show (_ : Int) + 1 + _ ≤ _; (try simp only [List.length_cons]); omega, fun z => by cases z⟩, ?_⟩
  refine (cw_sr_part (by decide) (by decide)).mpr ⟨⟨by show (_ : Int) + 11 + _ ≤ _; (try simp only [List.length_cons]); omega, fun z => by cases z⟩, by show 0 ≤ _; omega, by show _ ≤ _ + 2; omega, ?_⟩
  show cw_sr (213 :: 148 :: r) (D + 1) o ((b + 2) + 1)
  refine (cw_sr_note (by decide)).mpr ⟨⟨by show (_ : Int) + 1 + _ ≤ _; (try simp only [List.length_cons]); omega, fun z => by cases z⟩, by omega, _, cw_nst_2 (by decide) (by omega), ?_⟩
  refine (cw_sr_part (by decide) (by decide)).mpr ⟨⟨by show (_ : Int) + 13 + _ ≤ _; (try simp only [List.length_cons]); omega, fun z => by cases z⟩, by show 1 ≤ _; omega, by show _ ≤ _ + 2; omega, ?_⟩
  show cw_sr (r) (((D + 1) - 1) + 0) o ((((b + 2) + 1) - 1) + 0)
  exact cw_sr_to h3 (by omega) (by omega) (by omega)
theorem cw_sr_149_35 (ho : 0 ≤ o ∧ o ≤ 8) (hb : 0 ≤ b) (h0 : cw_sr (149 :: r) D o b) : cw_sr (40 :: 170 :: 145 :: 41 :: 171 :: 150 :: r) D o b := by
  obtain ⟨⟨h4, -⟩, h1, h2, h3⟩ := (cw_sr_part (by decide) (by decide)).mp h0
  have h4 : (r.length : Int) + 11 + 40 * (8 - o) ≤ 512 := h4
  have h1 : 0 ≤ D := h1
  have h2 : (D : Int) ≤ 2 * o + 2 := h2
  have h3 : cw_sr r (D + 1) o (b + 1) := h3
  refine (cw_sr_tok (by decide)).mpr ⟨⟨by show (_ : Int) + 1 + _ ≤ _; (try simp only [List.length_cons]); omega, fun z => by cases z⟩, ?_⟩
  refine cw_sr_open.mpr ⟨⟨by show (_ : Int) + 1 + _ ≤ _; (try simp only [List.length_cons]); omega, fun z => by cases z⟩, ?_⟩
  refine (cw_sr_part (by decide) (by decide)).mpr ⟨⟨by show (_ : Int) + 15 + _ ≤ _; (try simp only [List.length_cons]); omega, fun z => by cases z⟩, by show 0 ≤ _; omega, by show _ ≤ _ + 0; omega, ?_⟩
  show cw_sr (41 :: 171 :: 150 :: r) (D + 1) (o + 1) ((b + 2) + 1)
  refine (cw_sr_tok (by decide)).mpr ⟨⟨by show (_ : Int) + 1 + _ ≤ _; (try simp only [List.length_cons]); omega, fun z => by cases z⟩, ?_⟩
  refine cw_sr_shut.mpr ⟨⟨by show (_ : Int) + 1 + _ ≤ _; (try simp only [List.length_cons]); omega, fun z => by cases z⟩, by omega, ?_⟩
  refine (cw_sr_part (by decide) (by decide)).mpr ⟨⟨by show (_ : Int) + 11 + _ ≤ _; (try simp only [List.length_cons]); omega, fun z => by cases z⟩, by show 1 ≤ _; omega, by show _ ≤ _ + 1000; omega, ?_⟩
  show cw_sr (r) ((D + 1) + 0) ((o + 1) - 1) ((((b + 2) + 1) + 2) + 0)
  exact cw_sr_to h3 (by omega) (by omega) (by omega)
theorem cw_sr_149_36 (ho : 0 ≤ o ∧ o ≤ 8) (hb : 0 ≤ b) (h0 : cw_sr (149 :: r) D o b) : cw_sr (3 :: 210 :: 150 :: r) D o b := by
  obtain ⟨⟨h4, -⟩, h1, h2, h3⟩ := (cw_sr_part (by decide) (by decide)).mp h0
  have h4 : (r.length : Int) + 11 + 40 * (8 - o) ≤ 512 := h4
  have h1 : 0 ≤ D := h1
  have h2 : (D : Int) ≤ 2 * o + 2 := h2
  have h3 : cw_sr r (D + 1) o (b + 1) := h3
  refine (cw_sr_tok (by decide)).mpr ⟨⟨by show (_ : Int) + 1 + _ ≤ _; (try simp only [List.length_cons]); omega, fun z => by cases z⟩, ?_⟩
  refine (cw_sr_note (by decide)).mpr ⟨⟨by show (_ : Int) + 1 + _ ≤ _; (try simp only [List.length_cons]); omega, fun z => by cases z⟩, by omega, _, cw_nst_l (by omega), ?_⟩
  refine (cw_sr_part (by decide) (by decide)).mpr ⟨⟨by show (_ : Int) + 11 + _ ≤ _; (try simp only [List.length_cons]); omega, fun z => by cases z⟩, by show 1 ≤ _; omega, by show _ ≤ _ + 1000; omega, ?_⟩
  show cw_sr (r) ((D + 1) + 0) o (((b + 2) - 1) + 0)
  exact cw_sr_to h3 (by omega) (by omega) (by omega)
theorem cw_sr_150_6 (ho : 0 ≤ o ∧ o ≤ 8) (hb : 0 ≤ b) (h0 : cw_sr (150 :: r) D o b) : cw_sr (r) D o b := by
  obtain ⟨⟨h4, -⟩, h1, h2, h3⟩ := (cw_sr_part (by decide) (by decide)).mp h0
  have h4 : (r.length : Int) + 11 + 40 * (8 - o) ≤ 512 := h4
  have h1 : 1 ≤ D := h1
  have h2 : (D : Int) ≤ 2 * o + 1000 := h2
  have h3 : cw_sr r (D + 0) o (b + 0) := h3
  exact cw_sr_to h3 rfl rfl (by omega)
theorem cw_sr_150_37 (ho : 0 ≤ o ∧ o ≤ 8) (hb : 0 ≤ b) (h0 : cw_sr (150 :: r) D o b) : cw_sr (91 :: 151 :: 152 :: 93 :: 150 :: r) D o b := by
  obtain ⟨⟨h4, -⟩, h1, h2, h3⟩ := (cw_sr_part (by decide) (by decide)).mp h0
  have h4 : (r.length : Int) + 11 + 40 * (8 - o) ≤ 512 := h4
  have h1 : 1 ≤ D := h1
  have h2 : (D : Int) ≤ 2 * o + 1000 := h2
  have h3 : cw_sr r (D + 0) o (b + 0) := h3
  refine (cw_sr_tok (by decide)).mpr ⟨⟨by show (_ : Int) + 1 + _ ≤ _; (try simp only [List.length_cons]); omega, fun z => by cases z⟩, ?_⟩
  refine (cw_sr_part (by decide) (by decide)).mpr ⟨⟨by show (_ : Int) + 6 + _ ≤ _; (try simp only [List.length_cons]); omega, fun z => by cases z⟩, by show 1 ≤ _; omega, by show _ ≤ _ + 1000; omega, ?_⟩
  show cw_sr (152 :: 93 :: 150 :: r) (D + 0) o ((b + 2) + 2)
  refine (cw_sr_part (by decide) (by decide)).mpr ⟨⟨by show (_ : Int) + 7 + _ ≤ _; (try simp only [List.length_cons]); omega, fun z => by cases z⟩, by show 1 ≤ _; omega, by show _ ≤ _ + 1000; omega, ?_⟩
  show cw_sr (93 :: 150 :: r) ((D + 0) + 0) o (((b + 2) + 2) + 0)
  refine (cw_sr_tok (by decide)).mpr ⟨⟨by show (_ : Int) + 1 + _ ≤ _; (try simp only [List.length_cons]); omega, fun z => by cases z⟩, ?_⟩
  refine (cw_sr_part (by decide) (by decide)).mpr ⟨⟨by show (_ : Int) + 11 + _ ≤ _; (try simp only [List.length_cons]); omega, fun z => by cases z⟩, by show 1 ≤ _; omega, by show _ ≤ _ + 1000; omega, ?_⟩
  show cw_sr (r) (((D + 0) + 0) + 0) o (((((b + 2) + 2) + 0) + 2) + 0)
  exact cw_sr_to h3 (by omega) (by omega) (by omega)
theorem cw_sr_150_38 (ho : 0 ≤ o ∧ o ≤ 8) (hb : 0 ≤ b) (h0 : cw_sr (150 :: r) D o b) : cw_sr (58 :: 40 :: 215 :: 3 :: 216 :: 154 :: 41 :: 217 :: 150 :: r) D o b := by
  obtain ⟨⟨h4, -⟩, h1, h2, h3⟩ := (cw_sr_part (by decide) (by decide)).mp h0
  have h4 : (r.length : Int) + 11 + 40 * (8 - o) ≤ 512 := h4
  have h1 : 1 ≤ D := h1
  have h2 : (D : Int) ≤ 2 * o + 1000 := h2
  have h3 : cw_sr r (D + 0) o (b + 0) := h3
  refine (cw_sr_tok (by decide)).mpr ⟨⟨by show (_ : Int) + 1 + _ ≤ _; (try simp only [List.length_cons]); omega, fun z => by cases z⟩, ?_⟩
  refine (cw_sr_tok (by decide)).mpr ⟨⟨by show (_ : Int) + 1 + _ ≤ _; (try simp only [List.length_cons]); omega, fun z => by cases z⟩, ?_⟩
  refine (cw_sr_note (by decide)).mpr ⟨⟨by show (_ : Int) + 1 + _ ≤ _; (try simp only [List.length_cons]); omega, fun z => by cases z⟩, by omega, _, cw_nst_o (by decide), ?_⟩
  refine (cw_sr_tok (by decide)).mpr ⟨⟨by show (_ : Int) + 1 + _ ≤ _; (try simp only [List.length_cons]); omega, fun z => by cases z⟩, ?_⟩
  refine (cw_sr_note (by decide)).mpr ⟨⟨by show (_ : Int) + 1 + _ ≤ _; (try simp only [List.length_cons]); omega, fun z => by cases z⟩, by omega, _, cw_nst_o (by decide), ?_⟩
  refine (cw_sr_part (by decide) (by decide)).mpr ⟨⟨by show (_ : Int) + 4 + _ ≤ _; (try simp only [List.length_cons]); omega, fun z => by cases z⟩, by show 0 ≤ _; omega, by show _ ≤ _ + 1000; omega, ?_⟩
  show cw_sr (41 :: 217 :: 150 :: r) (D + 0) o ((((((b + 2) + 2) - 1) + 2) - 1) + 0)
  refine (cw_sr_tok (by decide)).mpr ⟨⟨by show (_ : Int) + 1 + _ ≤ _; (try simp only [List.length_cons]); omega, fun z => by cases z⟩, ?_⟩
  refine (cw_sr_note (by decide)).mpr ⟨⟨by show (_ : Int) + 1 + _ ≤ _; (try simp only [List.length_cons]); omega, fun z => by cases z⟩, by omega, _, cw_nst_k (by decide) (by omega), ?_⟩
  refine (cw_sr_part (by decide) (by decide)).mpr ⟨⟨by show (_ : Int) + 11 + _ ≤ _; (try simp only [List.length_cons]); omega, fun z => by cases z⟩, by show 1 ≤ _; omega, by show _ ≤ _ + 1000; omega, ?_⟩
  show cw_sr (r) ((D + 0) + 0) o (((((((((b + 2) + 2) - 1) + 2) - 1) + 0) + 2) - 1) + 0)
  exact cw_sr_to h3 (by omega) (by omega) (by omega)
theorem cw_sr_150_39 (ho : 0 ≤ o ∧ o ≤ 8) (hb : 0 ≤ b) (h0 : cw_sr (150 :: r) D o b) : cw_sr (123 :: 3 :: 218 :: 61 :: 3 :: 219 :: 125 :: 150 :: r) D o b := by
  obtain ⟨⟨h4, -⟩, h1, h2, h3⟩ := (cw_sr_part (by decide) (by decide)).mp h0
  have h4 : (r.length : Int) + 11 + 40 * (8 - o) ≤ 512 := h4
  have h1 : 1 ≤ D := h1
  have h2 : (D : Int) ≤ 2 * o + 1000 := h2
  have h3 : cw_sr r (D + 0) o (b + 0) := h3
  refine (cw_sr_tok (by decide)).mpr ⟨⟨by show (_ : Int) + 1 + _ ≤ _; (try simp only [List.length_cons]); omega, fun z => by cases z⟩, ?_⟩
  refine (cw_sr_tok (by decide)).mpr ⟨⟨by show (_ : Int) + 1 + _ ≤ _; (try simp only [List.length_cons]); omega, fun z => by cases z⟩, ?_⟩
  refine (cw_sr_note (by decide)).mpr ⟨⟨by show (_ : Int) + 1 + _ ≤ _; (try simp only [List.length_cons]); omega, fun z => by cases z⟩, by omega, _, cw_nst_o (by decide), ?_⟩
  refine (cw_sr_tok (by decide)).mpr ⟨⟨by show (_ : Int) + 1 + _ ≤ _; (try simp only [List.length_cons]); omega, fun z => by cases z⟩, ?_⟩
  refine (cw_sr_tok (by decide)).mpr ⟨⟨by show (_ : Int) + 1 + _ ≤ _; (try simp only [List.length_cons]); omega, fun z => by cases z⟩, ?_⟩
  refine (cw_sr_note (by decide)).mpr ⟨⟨by show (_ : Int) + 1 + _ ≤ _; (try simp only [List.length_cons]); omega, fun z => by cases z⟩, by omega, _, cw_nst_o (by decide), ?_⟩
  refine (cw_sr_tok (by decide)).mpr ⟨⟨by show (_ : Int) + 1 + _ ≤ _; (try simp only [List.length_cons]); omega, fun z => by cases z⟩, ?_⟩
  refine (cw_sr_part (by decide) (by decide)).mpr ⟨⟨by show (_ : Int) + 11 + _ ≤ _; (try simp only [List.length_cons]); omega, fun z => by cases z⟩, by show 1 ≤ _; omega, by show _ ≤ _ + 1000; omega, ?_⟩
  show cw_sr (r) (D + 0) o ((((((((b + 2) + 2) - 1) + 2) + 2) - 1) + 2) + 0)
  exact cw_sr_to h3 (by omega) (by omega) (by omega)
theorem cw_sr_150_40 (ho : 0 ≤ o ∧ o ≤ 8) (hb : 0 ≤ b) (h0 : cw_sr (150 :: r) D o b) : cw_sr (35 :: 172 :: 40 :: 215 :: 155 :: 41 :: 220 :: 156 :: 3 :: 223 :: 150 :: r) D o b := by
  obtain ⟨⟨h4, -⟩, h1, h2, h3⟩ := (cw_sr_part (by decide) (by decide)).mp h0
  have h4 : (r.length : Int) + 11 + 40 * (8 - o) ≤ 512 := h4
  have h1 : 1 ≤ D := h1
  have h2 : (D : Int) ≤ 2 * o + 1000 := h2
  have h3 : cw_sr r (D + 0) o (b + 0) := h3
  refine (cw_sr_tok (by decide)).mpr ⟨⟨by show (_ : Int) + 1 + _ ≤ _; (try simp only [List.length_cons]); omega, fun z => by cases z⟩, ?_⟩
  refine cw_sr_sign.mpr ⟨⟨by show (_ : Int) + 1 + _ ≤ _; (try simp only [List.length_cons]); omega, fun z => by cases z⟩, ?_⟩
  refine (cw_sr_tok (by decide)).mpr ⟨⟨by show (_ : Int) + 1 + _ ≤ _; (try simp only [List.length_cons]); omega, fun z => by cases z⟩, ?_⟩
  refine (cw_sr_note (by decide)).mpr ⟨⟨by show (_ : Int) + 1 + _ ≤ _; (try simp only [List.length_cons]); omega, fun z => by cases z⟩, by omega, _, cw_nst_o (by decide), ?_⟩
  refine (cw_sr_part (by decide) (by decide)).mpr ⟨⟨by show (_ : Int) + 4 + _ ≤ _; (try simp only [List.length_cons]); omega, fun z => by cases z⟩, by show 0 ≤ _; omega, by show _ ≤ _ + 1000; omega, ?_⟩
  show cw_sr (41 :: 220 :: 156 :: 3 :: 223 :: 150 :: r) (D + 0) o ((((b + 2) + 2) - 1) + 0)
  refine (cw_sr_tok (by decide)).mpr ⟨⟨by show (_ : Int) + 1 + _ ≤ _; (try simp only [List.length_cons]); omega, fun z => by cases z⟩, ?_⟩
  refine (cw_sr_note (by decide)).mpr ⟨⟨by show (_ : Int) + 1 + _ ≤ _; (try simp only [List.length_cons]); omega, fun z => by cases z⟩, by omega, _, cw_nst_o (by decide), ?_⟩
  refine (cw_sr_part (by decide) (by decide)).mpr ⟨⟨by show (_ : Int) + 4 + _ ≤ _; (try simp only [List.length_cons]); omega, fun z => by cases z⟩, by show 0 ≤ _; omega, by show _ ≤ _ + 1000; omega, ?_⟩
  show cw_sr (3 :: 223 :: 150 :: r) ((D + 0) + 0) o (((((((b + 2) + 2) - 1) + 0) + 2) - 1) + 1)
  refine (cw_sr_tok (by decide)).mpr ⟨⟨by show (_ : Int) + 1 + _ ≤ _; (try simp only [List.length_cons]); omega, fun z => by cases z⟩, ?_⟩
  refine (cw_sr_note (by decide)).mpr ⟨⟨by show (_ : Int) + 1 + _ ≤ _; (try simp only [List.length_cons]); omega, fun z => by cases z⟩, by omega, _, cw_nst_k (by decide) (by omega), ?_⟩
  refine (cw_sr_part (by decide) (by decide)).mpr ⟨⟨by show (_ : Int) + 11 + _ ≤ _; (try simp only [List.length_cons]); omega, fun z => by cases z⟩, by show 1 ≤ _; omega, by show _ ≤ _ + 1000; omega, ?_⟩
  show cw_sr (r) (((D + 0) + 0) + 0) o ((((((((((b + 2) + 2) - 1) + 0) + 2) - 1) + 1) + 2) - 1) + 0)
  exact cw_sr_to h3 (by omega) (by omega) (by omega)
theorem cw_sr_151_41 (ho : 0 ≤ o ∧ o ≤ 8) (hb : 0 ≤ b) (h0 : cw_sr (151 :: r) D o b) : cw_sr (153 :: 143 :: 153 :: 214 :: r) D o b := by
  obtain ⟨⟨h4, -⟩, h1, h2, h3⟩ := (cw_sr_part (by decide) (by decide)).mp h0
  have h4 : (r.length : Int) + 6 + 40 * (8 - o) ≤ 512 := h4
  have h1 : 1 ≤ D := h1
  have h2 : (D : Int) ≤ 2 * o + 1000 := h2
  have h3 : cw_sr r (D + 0) o (b + 2) := h3
  refine (cw_sr_part (by decide) (by decide)).mpr ⟨⟨by show (_ : Int) + 3 + _ ≤ _; (try simp only [List.length_cons]); omega, fun z => by cases z⟩, by show 0 ≤ _; omega, by show _ ≤ _ + 1000; omega, ?_⟩
  show cw_sr (143 :: 153 :: 214 :: r) (D + 0) o (b + 1)
  refine (cw_sr_part (by decide) (by decide)).mpr ⟨⟨by show (_ : Int) + 2 + _ ≤ _; (try simp only [List.length_cons]); omega, fun z => by cases z⟩, by show 0 ≤ _; omega, by show _ ≤ _ + 1000; omega, ?_⟩
  show cw_sr (153 :: 214 :: r) ((D + 0) + 0) o ((b + 1) + 1)
  refine (cw_sr_part (by decide) (by decide)).mpr ⟨⟨by show (_ : Int) + 3 + _ ≤ _; (try simp only [List.length_cons]); omega, fun z => by cases z⟩, by show 0 ≤ _; omega, by show _ ≤ _ + 1000; omega, ?_⟩
  show cw_sr (214 :: r) (((D + 0) + 0) + 0) o (((b + 1) + 1) + 1)
  refine (cw_sr_note (by decide)).mpr ⟨⟨by show (_ : Int) + 1 + _ ≤ _; (try simp only [List.length_cons]); omega, fun z => by cases z⟩, by omega, _, cw_nst_k (by decide) (by omega), ?_⟩
  exact cw_sr_to h3 (by omega) (by omega) (by omega)
theorem cw_sr_152_6 (ho : 0 ≤ o ∧ o ≤ 8) (hb : 0 ≤ b) (h0 : cw_sr (152 :: r) D o b) : cw_sr (r) D o b := by
  obtain ⟨⟨h4, -⟩, h1, h2, h3⟩ := (cw_sr_part (by decide) (by decide)).mp h0
  have h4 : (r.length : Int) + 7 + 40 * (8 - o) ≤ 512 := h4
  have h1 : 1 ≤ D := h1
  have h2 : (D : Int) ≤ 2 * o + 1000 := h2
  have h3 : cw_sr r (D + 0) o (b + 0) := h3
  exact cw_sr_to h3 rfl rfl (by omega)
theorem cw_sr_152_42 (ho : 0 ≤ o ∧ o ≤ 8) (hb : 0 ≤ b) (h0 : cw_sr (152 :: r) D o b) : cw_sr (44 :: 151 :: 152 :: r) D o b := by
  obtain ⟨⟨h4, -⟩, h1, h2, h3⟩ := (cw_sr_part (by decide) (by decide)).mp h0
  have h4 : (r.length : Int) + 7 + 40 * (8 - o) ≤ 512 := h4
  have h1 : 1 ≤ D := h1
  have h2 : (D : Int) ≤ 2 * o + 1000 := h2
  have h3 : cw_sr r (D + 0) o (b + 0) := h3
  refine (cw_sr_tok (by decide)).mpr ⟨⟨by show (_ : Int) + 1 + _ ≤ _; (try simp only [List.length_cons]); omega, fun z => by cases z⟩, ?_⟩
  refine (cw_sr_part (by decide) (by decide)).mpr ⟨⟨by show (_ : Int) + 6 + _ ≤ _; (try simp only [List.length_cons]); omega, fun z => by cases z⟩, by show 1 ≤ _; omega, by show _ ≤ _ + 1000; omega, ?_⟩
  show cw_sr (152 :: r) (D + 0) o ((b + 2) + 2)
  refine (cw_sr_part (by decide) (by decide)).mpr ⟨⟨by show (_ : Int) + 7 + _ ≤ _; (try simp only [List.length_cons]); omega, fun z => by cases z⟩, by show 1 ≤ _; omega, by show _ ≤ _ + 1000; omega, ?_⟩
  show cw_sr (r) ((D + 0) + 0) o (((b + 2) + 2) + 0)
  exact cw_sr_to h3 (by omega) (by omega) (by omega)
theorem cw_sr_153_43 (ho : 0 ≤ o ∧ o ≤ 8) (hb : 0 ≤ b) (h0 : cw_sr (153 :: r) D o b) : cw_sr (3 :: 202 :: r) D o b := by
  obtain ⟨⟨h4, -⟩, h1, h2, h3⟩ := (cw_sr_part (by decide) (by decide)).mp h0
  have h4 : (r.length : Int) + 3 + 40 * (8 - o) ≤ 512 := h4
  have h1 : 0 ≤ D := h1
  have h2 : (D : Int) ≤ 2 * o + 1000 := h2
  have h3 : cw_sr r (D + 0) o (b + 1) := h3
  refine (cw_sr_tok (by decide)).mpr ⟨⟨by show (_ : Int) + 1 + _ ≤ _; (try simp only [List.length_cons]); omega, fun z => by cases z⟩, ?_⟩
  refine (cw_sr_note (by decide)).mpr ⟨⟨by show (_ : Int) + 1 + _ ≤ _; (try simp only [List.length_cons]); omega, fun z => by cases z⟩, by omega, _, cw_nst_o (by decide), ?_⟩
  exact cw_sr_to h3 (by omega) (by omega) (by omega)
theorem cw_sr_153_44 (ho : 0 ≤ o ∧ o ≤ 8) (hb : 0 ≤ b) (h0 : cw_sr (153 :: r) D o b) : cw_sr (144 :: r) D o b := by
  obtain ⟨⟨h4, -⟩, h1, h2, h3⟩ := (cw_sr_part (by decide) (by decide)).mp h0
  have h4 : (r.length : Int) + 3 + 40 * (8 - o) ≤ 512 := h4
  have h1 : 0 ≤ D := h1
  have h2 : (D : Int) ≤ 2 * o + 1000 := h2
  have h3 : cw_sr r (D + 0) o (b + 1) := h3
  refine (cw_sr_part (by decide) (by decide)).mpr ⟨⟨by show (_ : Int) + 3 + _ ≤ _; (try simp only [List.length_cons]); omega, fun z => by cases z⟩, by show 0 ≤ _; omega, by show _ ≤ _ + 1000; omega, ?_⟩
  show cw_sr (r) (D + 0) o (b + 1)
  exact cw_sr_to h3 (by omega) (by omega) (by omega)
theorem cw_sr_154_6 (ho : 0 ≤ o ∧ o ≤ 8) (hb : 0 ≤ b) (h0 : cw_sr (154 :: r) D o b) : cw_sr (r) D o b := by
  obtain ⟨⟨h4, -⟩, h1, h2, h3⟩ := (cw_sr_part (by decide) (by decide)).mp h0
  have h4 : (r.length : Int) + 4 + 40 * (8 - o) ≤ 512 := h4
  have h1 : 0 ≤ D := h1
  have h2 : (D : Int) ≤ 2 * o + 1000 := h2
  have h3 : cw_sr r (D + 0) o (b + 0) := h3
  exact cw_sr_to h3 rfl rfl (by omega)
theorem cw_sr_154_45 (ho : 0 ≤ o ∧ o ≤ 8) (hb : 0 ≤ b) (h0 : cw_sr (154 :: r) D o b) : cw_sr (44 :: 3 :: 216 :: 154 :: r) D o b := by
  obtain ⟨⟨h4, -⟩, h1, h2, h3⟩ := (cw_sr_part (by decide) (by decide)).mp h0
  have h4 : (r.length : Int) + 4 + 40 * (8 - o) ≤ 512 := h4
  have h1 : 0 ≤ D := h1
  have h2 : (D : Int) ≤ 2 * o + 1000 := h2
  have h3 : cw_sr r (D + 0) o (b + 0) := h3
  refine (cw_sr_tok (by decide)).mpr ⟨⟨by show (_ : Int) + 1 + _ ≤ _; (try simp only [List.length_cons]); omega, fun z => by cases z⟩, ?_⟩
  refine (cw_sr_tok (by decide)).mpr ⟨⟨by show (_ : Int) + 1 + _ ≤ _; (try simp only [List.length_cons]); omega, fun z => by cases z⟩, ?_⟩
  refine (cw_sr_note (by decide)).mpr ⟨⟨by show (_ : Int) + 1 + _ ≤ _; (try simp only [List.length_cons]); omega, fun z => by cases z⟩, by omega, _, cw_nst_o (by decide), ?_⟩
  refine (cw_sr_part (by decide) (by decide)).mpr ⟨⟨by show (_ : Int) + 4 + _ ≤ _; (try simp only [List.length_cons]); omega, fun z => by cases z⟩, by show 0 ≤ _; omega, by show _ ≤ _ + 1000; omega, ?_⟩
  show cw_sr (r) (D + 0) o ((((b + 2) + 2) - 1) + 0)
  exact cw_sr_to h3 (by omega) (by omega) (by omega)
theorem cw_sr_155_6 (ho : 0 ≤ o ∧ o ≤ 8) (hb : 0 ≤ b) (h0 : cw_sr (155 :: r) D o b) : cw_sr (r) D o b := by
  obtain ⟨⟨h4, -⟩, h1, h2, h3⟩ := (cw_sr_part (by decide) (by decide)).mp h0
  have h4 : (r.length : Int) + 4 + 40 * (8 - o) ≤ 512 := h4
  have h1 : 0 ≤ D := h1
  have h2 : (D : Int) ≤ 2 * o + 1000 := h2
  have h3 : cw_sr r (D + 0) o (b + 0) := h3
  exact cw_sr_to h3 rfl rfl (by omega)
theorem cw_sr_155_46 (ho : 0 ≤ o ∧ o ≤ 8) (hb : 0 ≤ b) (h0 : cw_sr (155 :: r) D o b) : cw_sr (3 :: 216 :: 154 :: r) D o b := by
  obtain ⟨⟨h4, -⟩, h1, h2, h3⟩ := (cw_sr_part (by decide) (by decide)).mp h0
  have h4 : (r.length : Int) + 4 + 40 * (8 - o) ≤ 512 := h4
  have h1 : 0 ≤ D := h1
  have h2 : (D : Int) ≤ 2 * o + 1000 := h2
  have h3 : cw_sr r (D + 0) o (b + 0) := h3
  refine (cw_sr_tok (by decide)).mpr ⟨⟨by show (_ : Int) + 1 + _ ≤ _; (try simp only [List.length_cons]); omega, fun z => by cases z⟩, ?_⟩
  refine (cw_sr_note (by decide)).mpr ⟨⟨by show (_ : Int) + 1 + _ ≤ _; (try simp only [List.length_cons]); omega, fun z => by cases z⟩, by omega, _, cw_nst_o (by decide), ?_⟩
  refine (cw_sr_part (by decide) (by decide)).mpr ⟨⟨by show (_ : Int) + 4 + _ ≤ _; (try simp only [List.length_cons]); omega, fun z => by cases z⟩, by show 0 ≤ _; omega, by show _ ≤ _ + 1000; omega, ?_⟩
  show cw_sr (r) (D + 0) o (((b + 2) - 1) + 0)
  exact cw_sr_to h3 (by omega) (by omega) (by omega)
theorem cw_sr_156_47 (ho : 0 ≤ o ∧ o ≤ 8) (hb : 0 ≤ b) (h0 : cw_sr (156 :: r) D o b) : cw_sr (16 :: 221 :: r) D o b := by
  obtain ⟨⟨h4, -⟩, h1, h2, h3⟩ := (cw_sr_part (by decide) (by decide)).mp h0
  have h4 : (r.length : Int) + 4 + 40 * (8 - o) ≤ 512 := h4
  have h1 : 0 ≤ D := h1
  have h2 : (D : Int) ≤ 2 * o + 1000 := h2
  have h3 : cw_sr r (D + 0) o (b + 1) := h3
  refine (cw_sr_tok (by decide)).mpr ⟨⟨by show (_ : Int) + 1 + _ ≤ _; (try simp only [List.length_cons]); omega, fun z => by cases z⟩, ?_⟩
  refine (cw_sr_note (by decide)).mpr ⟨⟨by show (_ : Int) + 1 + _ ≤ _; (try simp only [List.length_cons]); omega, fun z => by cases z⟩, by omega, _, cw_nst_o (by decide), ?_⟩
  exact cw_sr_to h3 (by omega) (by omega) (by omega)
theorem cw_sr_156_48 (ho : 0 ≤ o ∧ o ≤ 8) (hb : 0 ≤ b) (h0 : cw_sr (156 :: r) D o b) : cw_sr (17 :: 221 :: 3 :: 222 :: r) D o b := by
  obtain ⟨⟨h4, -⟩, h1, h2, h3⟩ := (cw_sr_part (by decide) (by decide)).mp h0
  have h4 : (r.length : Int) + 4 + 40 * (8 - o) ≤ 512 := h4
  have h1 : 0 ≤ D := h1
  have h2 : (D : Int) ≤ 2 * o + 1000 := h2
  have h3 : cw_sr r (D + 0) o (b + 1) := h3
  refine (cw_sr_tok (by decide)).mpr ⟨⟨by show (_ : Int) + 1 + _ ≤ _; (try simp only [List.length_cons]); omega, fun z => by cases z⟩, ?_⟩
  refine (cw_sr_note (by decide)).mpr ⟨⟨by show (_ : Int) + 1 + _ ≤ _; (try simp only [List.length_cons]); omega, fun z => by cases z⟩, by omega, _, cw_nst_o (by decide), ?_⟩
  refine (cw_sr_tok (by decide)).mpr ⟨⟨by show (_ : Int) + 1 + _ ≤ _; (try simp only [List.length_cons]); omega, fun z => by cases z⟩, ?_⟩
  refine (cw_sr_note (by decide)).mpr ⟨⟨by show (_ : Int) + 1 + _ ≤ _; (try simp only [List.length_cons]); omega, fun z => by cases z⟩, by omega, _, cw_nst_o (by decide), ?_⟩
  exact cw_sr_to h3 (by omega) (by omega) (by omega)
theorem cw_sr_156_49 (ho : 0 ≤ o ∧ o ≤ 8) (hb : 0 ≤ b) (h0 : cw_sr (156 :: r) D o b) : cw_sr (18 :: 221 :: 3 :: 222 :: r) D o b := by
  obtain ⟨⟨h4, -⟩, h1, h2, h3⟩ := (cw_sr_part (by decide) (by decide)).mp h0
  have h4 : (r.length : Int) + 4 + 40 * (8 - o) ≤ 512 := h4
  have h1 : 0 ≤ D := h1
  have h2 : (D : Int) ≤ 2 * o + 1000 := h2
  have h3 : cw_sr r (D + 0) o (b + 1) := h3
  refine (cw_sr_tok (by decide)).mpr ⟨⟨by show (_ : Int) + 1 + _ ≤ _; (try simp only [List.length_cons]); omega, fun z => by cases z⟩, ?_⟩
  refine (cw_sr_note (by decide)).mpr ⟨⟨by show (_ : Int) + 1 + _ ≤ _; (try simp only [List.length_cons]); omega, fun z => by cases z⟩, by omega, _, cw_nst_o (by decide), ?_⟩
  refine (cw_sr_tok (by decide)).mpr ⟨⟨by show (_ : Int) + 1 + _ ≤ _; (try simp only [List.length_cons]); omega, fun z => by cases z⟩, ?_⟩
  refine (cw_sr_note (by decide)).mpr ⟨⟨by show (_ : Int) + 1 + _ ≤ _; (try simp only [List.length_cons]); omega, fun z => by cases z⟩, by omega, _, cw_nst_o (by decide), ?_⟩
  exact cw_sr_to h3 (by omega) (by omega) (by omega)
theorem cw_sr_156_50 (ho : 0 ≤ o ∧ o ≤ 8) (hb : 0 ≤ b) (h0 : cw_sr (156 :: r) D o b) : cw_sr (19 :: 221 :: 3 :: 222 :: r) D o b := by
  obtain ⟨⟨h4, -⟩, h1, h2, h3⟩ := (cw_sr_part (by decide) (by decide)).mp h0
  have h4 : (r.length : Int) + 4 + 40 * (8 - o) ≤ 512 := h4
  have h1 : 0 ≤ D := h1
  have h2 : (D : Int) ≤ 2 * o + 1000 := h2
  have h3 : cw_sr r (D + 0) o (b + 1) := h3
  refine (cw_sr_tok (by decide)).mpr ⟨⟨by show (_ : Int) + 1 + _ ≤ _; (try simp only [List.length_cons]); omega, fun z => by cases z⟩, ?_⟩
  refine (cw_sr_note (by decide)).mpr ⟨⟨by show (_ : Int) + 1 + _ ≤ _; (try simp only [List.length_cons]); omega, fun z => by cases z⟩, by omega, _, cw_nst_o (by decide), ?_⟩
  refine (cw_sr_tok (by decide)).mpr ⟨⟨by show (_ : Int) + 1 + _ ≤ _; (try simp only [List.length_cons]); omega, fun z => by cases z⟩, ?_⟩
  refine (cw_sr_note (by decide)).mpr ⟨⟨by show (_ : Int) + 1 + _ ≤ _; (try simp only [List.length_cons]); omega, fun z => by cases z⟩, by omega, _, cw_nst_o (by decide), ?_⟩
  exact cw_sr_to h3 (by omega) (by omega) (by omega)
/-- a part's rule instead of the part -/
theorem cw_sr_rule {p t : Nat} (ht : t ∈ cw_rl p) (ho : 0 ≤ o ∧ o ≤ 8) (hb : 0 ≤ b) (h0 : cw_sr (p :: r) D o b) : cw_sr (cw_sl t ++ r) D o b := by
  unfold cw_rl at ht
  split at ht
  · simp only [List.mem_cons, List.not_mem_nil, or_false] at ht
    rcases ht with rfl | rfl | rfl | rfl | rfl | rfl
    · exact cw_sr_130_1 ho hb h0
    · exact cw_sr_130_2 ho hb h0
    · exact cw_sr_130_3 ho hb h0
    · exact cw_sr_130_4 ho hb h0
    · exact cw_sr_130_5 ho hb h0
    · exact cw_sr_130_6 ho hb h0
  · simp only [List.mem_cons, List.not_mem_nil, or_false] at ht
    rcases ht with rfl | rfl
    · exact cw_sr_131_7 ho hb h0
    · exact cw_sr_131_8 ho hb h0
  · simp only [List.mem_cons, List.not_mem_nil, or_false] at ht
    rcases ht with rfl | rfl | rfl
    · exact cw_sr_132_6 ho hb h0
    · exact cw_sr_132_11 ho hb h0
    · exact cw_sr_132_12 ho hb h0
  · simp only [List.mem_cons, List.not_mem_nil, or_false] at ht
    rcases ht with rfl | rfl
    · exact cw_sr_133_6 ho hb h0
    · exact cw_sr_133_12 ho hb h0
  · simp only [List.mem_cons, List.not_mem_nil, or_false] at ht
    rcases ht with rfl | rfl
    · exact cw_sr_134_9 ho hb h0
    · exact cw_sr_134_10 ho hb h0
  · simp only [List.mem_cons, List.not_mem_nil, or_false] at ht
    rcases ht with rfl | rfl
    · exact cw_sr_135_6 ho hb h0
    · exact cw_sr_135_13 ho hb h0
  · simp only [List.mem_cons, List.not_mem_nil, or_false] at ht
    rcases ht with rfl | rfl
    · exact cw_sr_136_6 ho hb h0
    · exact cw_sr_136_14 ho hb h0
  · simp only [List.mem_cons, List.not_mem_nil, or_false] at ht
    rcases ht with rfl | rfl
    · exact cw_sr_137_6 ho hb h0
    · exact cw_sr_137_15 ho hb h0
  · simp only [List.mem_cons, List.not_mem_nil, or_false] at ht
    subst ht
    exact cw_sr_138_16 ho hb h0
  · simp only [List.mem_cons, List.not_mem_nil, or_false] at ht
    rcases ht with rfl | rfl
    · exact cw_sr_139_6 ho hb h0
    · exact cw_sr_139_17 ho hb h0
  · simp only [List.mem_cons, List.not_mem_nil, or_false] at ht
    subst ht
    exact cw_sr_140_18 ho hb h0
  · simp only [List.mem_cons, List.not_mem_nil, or_false] at ht
    rcases ht with rfl | rfl
    · exact cw_sr_141_6 ho hb h0
    · exact cw_sr_141_19 ho hb h0
  · simp only [List.mem_cons, List.not_mem_nil, or_false] at ht
    rcases ht with rfl | rfl | rfl
    · exact cw_sr_142_20 ho hb h0
    · exact cw_sr_142_21 ho hb h0
    · exact cw_sr_142_22 ho hb h0
  · simp only [List.mem_cons, List.not_mem_nil, or_false] at ht
    rcases ht with rfl | rfl | rfl | rfl
    · exact cw_sr_143_23 ho hb h0
    · exact cw_sr_143_24 ho hb h0
    · exact cw_sr_143_25 ho hb h0
    · exact cw_sr_143_26 ho hb h0
  · simp only [List.mem_cons, List.not_mem_nil, or_false] at ht
    rcases ht with rfl | rfl | rfl
    · exact cw_sr_144_27 ho hb h0
    · exact cw_sr_144_28 ho hb h0
    · exact cw_sr_144_29 ho hb h0
  · simp only [List.mem_cons, List.not_mem_nil, or_false] at ht
    subst ht
    exact cw_sr_145_30 ho hb h0
  · simp only [List.mem_cons, List.not_mem_nil, or_false] at ht
    rcases ht with rfl | rfl | rfl
    · exact cw_sr_146_6 ho hb h0
    · exact cw_sr_146_31 ho hb h0
    · exact cw_sr_146_32 ho hb h0
  · simp only [List.mem_cons, List.not_mem_nil, or_false] at ht
    subst ht
    exact cw_sr_147_33 ho hb h0
  · simp only [List.mem_cons, List.not_mem_nil, or_false] at ht
    rcases ht with rfl | rfl
    · exact cw_sr_148_6 ho hb h0
    · exact cw_sr_148_34 ho hb h0
  · simp only [List.mem_cons, List.not_mem_nil, or_false] at ht
    rcases ht with rfl | rfl
    · exact cw_sr_149_35 ho hb h0
    · exact cw_sr_149_36 ho hb h0
  · simp only [List.mem_cons, List.not_mem_nil, or_false] at ht
    rcases ht with rfl | rfl | rfl | rfl | rfl
    · exact cw_sr_150_6 ho hb h0
    · exact cw_sr_150_37 ho hb h0
    · exact cw_sr_150_38 ho hb h0
    · exact cw_sr_150_39 ho hb h0
    · exact cw_sr_150_40 ho hb h0
  · simp only [List.mem_cons, List.not_mem_nil, or_false] at ht
    subst ht
    exact cw_sr_151_41 ho hb h0
  · simp only [List.mem_cons, List.not_mem_nil, or_false] at ht
    rcases ht with rfl | rfl
    · exact cw_sr_152_6 ho hb h0
    · exact cw_sr_152_42 ho hb h0
  · simp only [List.mem_cons, List.not_mem_nil, or_false] at ht
    rcases ht with rfl | rfl
    · exact cw_sr_153_43 ho hb h0
    · exact cw_sr_153_44 ho hb h0
  · simp only [List.mem_cons, List.not_mem_nil, or_false] at ht
    rcases ht with rfl | rfl
    · exact cw_sr_154_6 ho hb h0
    · exact cw_sr_154_45 ho hb h0
  · simp only [List.mem_cons, List.not_mem_nil, or_false] at ht
    rcases ht with rfl | rfl
    · exact cw_sr_155_6 ho hb h0
    · exact cw_sr_155_46 ho hb h0
  · simp only [List.mem_cons, List.not_mem_nil, or_false] at ht
    rcases ht with rfl | rfl | rfl | rfl
    · exact cw_sr_156_47 ho hb h0
    · exact cw_sr_156_48 ho hb h0
    · exact cw_sr_156_49 ho hb h0
    · exact cw_sr_156_50 ho hb h0
  · cases ht
end CW66
