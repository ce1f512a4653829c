/-! FRAMES: what each method may change (printed by wip/p7/gen_fr.py) -/
def fy (F L : List (Nat × Nat)) (A : List Nat) (X X' : fx_X) : Prop := X'.2.2 = X.2.2 ∧ (∀ r k, r ∉ A → (r, k) ∉ L → X'.2.1 r k = X.2.1 r k) ∧ ∀ r k, r ∉ A → (r, k) ∉ F → X'.1 r k = X.1 r k
section FYY
variable {F L F' L' : List (Nat × Nat)} {A A' : List Nat} {X X1 X2 : fx_X} {r k : Nat} {v : Int32} {w : Int64}
theorem fy_rf : fy F L A X X := ⟨rfl, fun _ _ _ _ => rfl, fun _ _ _ _ => rfl⟩
theorem fy_tr (h1 : fy F L A X X1) (h2 : fy F L A X1 X2) : fy F L A X X2 := ⟨h2.1.trans h1.1, fun r k hr hk => (h2.2.1 r k hr hk).trans (h1.2.1 r k hr hk), fun r k hr hk => (h2.2.2 r k hr hk).trans (h1.2.2 r k hr hk)⟩
theorem fy_sub (h1 : fy F L A X X1) (hF : ∀ q, q ∈ F → q ∈ F') (hL : ∀ q, q ∈ L → q ∈ L') (hA : ∀ q, q ∈ A → q ∈ A') : fy F' L' A' X X1 := ⟨h1.1, fun r k hr hk => h1.2.1 r k (fun z => hr (hA r z)) (fun z => hk (hL _ z)), fun r k hr hk => h1.2.2 r k (fun z => hr (hA r z)) (fun z => hk (hF _ z))⟩
theorem fy_z (h1 : fy F L A X X1) (h2 : fy [] [] [] X1 X2) : fy F L A X X2 := fy_tr h1 (fy_sub h2 (fun _ z => absurd z (List.not_mem_nil)) (fun _ z => absurd z (List.not_mem_nil)) (fun _ z => absurd z (List.not_mem_nil)))
theorem fy_f (h1 : fy F L A X X1) (hk : (r, k) ∈ F) : fy F L A X (fx_wI X1 r k v) := ⟨h1.1, h1.2.1, fun r' k' hr' hk' => by
  rw [fx_rI, if_neg (by rintro ⟨rfl, rfl⟩; exact hk' hk)]
  exact h1.2.2 r' k' hr' hk'⟩
theorem fy_a (h1 : fy F L A X X1) (hr : r ∈ A) : fy F L A X (fx_wI X1 r k v) := ⟨h1.1, h1.2.1, fun r' k' hr' hk' => by
  rw [fx_rI, if_neg (by rintro ⟨rfl, rfl⟩; exact hr' hr)]
  exact h1.2.2 r' k' hr' hk'⟩
theorem fy_g (h1 : fy F L A X X1) (hk : (r, k) ∈ L) : fy F L A X (fx_wL X1 r k w) := ⟨h1.1, fun r' k' hr' hk' => by
  show (if r' = r ∧ k' = k then w else X1.2.1 r' k') = _
  rw [if_neg (by rintro ⟨rfl, rfl⟩; exact hk' hk)]
  exact h1.2.1 r' k' hr' hk', h1.2.2⟩
theorem fy_b (h1 : fy F L A X X1) (hr : r ∈ A) : fy F L A X (fx_wL X1 r k w) := ⟨h1.1, fun r' k' hr' hk' => by
  show (if r' = r ∧ k' = k then w else X1.2.1 r' k') = _
  rw [if_neg (by rintro ⟨rfl, rfl⟩; exact hr' hr)]
  exact h1.2.1 r' k' hr' hk', h1.2.2⟩
theorem fy_ra (h1 : fy F L A X X1) (h2 : r ∉ A) (h3 : ∀ q, q ∈ F → q.1 ≠ r) : X1.1 r = X.1 r := funext fun k => h1.2.2 r k h2 (fun z => h3 _ z rfl)
theorem fy_rl (h1 : fy F L A X X1) (h2 : r ∉ A) (h3 : ∀ q, q ∈ L → q.1 ≠ r) : X1.2.1 r = X.2.1 r := funext fun k => h1.2.1 r k h2 (fun z => h3 _ z rfl)
theorem fy_if {c A B : Prop} [Decidable c] (g : if c then A else B) : A ∨ B := by
  split at g
  · exact Or.inl g
  · exact Or.inr g
theorem fy_e (h1 : fy [] [] [] X X1) : X1 = X := Prod.ext (funext fun r => funext fun k => h1.2.2 r k (List.not_mem_nil) (List.not_mem_nil)) (Prod.ext (funext fun r => funext fun k => h1.2.1 r k (List.not_mem_nil) (List.not_mem_nil)) h1.1)
end FYY
abbrev fF_2 : List (Nat × Nat) := []
abbrev fL_2 : List (Nat × Nat) := []
theorem gf_2 {p0 : Nat} {X : fx_X} {v : Unit} {X' : fx_X} (g : gx_2 p0 X v X') : fy fF_2 fL_2 [p0] X X' := by
  unfold gx_2 at g
  obtain ⟨X2, eX2, g⟩ := g
  have fX2 : fy fF_2 fL_2 [p0] X X2 := by rw [eX2]; exact fy_a (fy_rf (X := X)) (by simp)
  obtain ⟨X3, eX3, g⟩ := g
  have fX3 : fy fF_2 fL_2 [p0] X X3 := by rw [eX3]; exact fy_a fX2 (by simp)
  obtain ⟨X4, eX4, g⟩ := g
  have fX4 : fy fF_2 fL_2 [p0] X X4 := by rw [eX4]; exact fy_a fX3 (by simp)
  obtain ⟨X5, eX5, g⟩ := g
  have fX5 : fy fF_2 fL_2 [p0] X X5 := by rw [eX5]; exact fy_a fX4 (by simp)
  obtain ⟨X6, eX6, g⟩ := g
  have fX6 : fy fF_2 fL_2 [p0] X X6 := by rw [eX6]; exact fy_a fX5 (by simp)
  obtain ⟨X7, eX7, g⟩ := g
  have fX7 : fy fF_2 fL_2 [p0] X X7 := by rw [eX7]; exact fy_a fX6 (by simp)
  rw [g]; exact fX7
theorem gf_4 {p0 : Nat} {p1 : Int32} {X : fx_X} {v : Int32} {X' : fx_X} (g : gx_4 p0 p1 X v X') : fy [] [] [] X X' := by
  unfold gx_4 at g
  rcases fy_if g with g | g
  · skip
    rw [g.2]; exact (fy_rf (X := X))
  · skip
    rcases fy_if g with g | g
    · skip
      replace g := g.2
      rw [g.2]; exact (fy_rf (X := X))
    · skip
      rw [g.2]; exact (fy_rf (X := X))
abbrev fF_17 : List (Nat × Nat) := [(52, 1)]
abbrev fL_17 : List (Nat × Nat) := []
abbrev fA_17 : List Nat := [53]
theorem gfl_17 (p1 : Int32) : ∀ (n l : Nat) (is : List Int32) (ls : List Int64) (rs : List Nat) (X : fx_X) (v : Unit) (X' : fx_X), gxF_17 p1 n l is ls rs X v X' → fy fF_17 fL_17 fA_17 X X' := by
  intro n
  induction n with
  | zero => intro l is ls rs X v X' g; exact g.elim
  | succ n ih =>
    intro l is ls rs X v X' g
    rcases g with ⟨-, y2, -, -, -, g⟩
    · unfold gxT_17_3 at g
      rcases fy_if g with g | g
      · skip
        rw [g]; exact (fy_rf (X := X))
      · skip
        rcases fy_if g with g | g
        · skip
          replace g := g.2
          obtain ⟨X10, eX10, g⟩ := g
          have fX10 : fy fF_17 fL_17 fA_17 X X10 := by rw [eX10]; exact fy_a (fy_rf (X := X)) (by decide)
          obtain ⟨X11, eX11, g⟩ := g
          have fX11 : fy fF_17 fL_17 fA_17 X X11 := by rw [eX11]; exact fy_f fX10 (by decide)
          obtain ⟨x12, -, g⟩ := g
          exact fy_tr fX11 (ih _ _ _ _ _ _ _ g)
        · skip
          obtain ⟨x6, -, g⟩ := g
          exact fy_tr (fy_rf (X := X)) (ih _ _ _ _ _ _ _ g)
theorem gf_17 {p1 : Int32} {X : fx_X} {v : Unit} {X' : fx_X} (g : gx_17 p1 X v X') : fy fF_17 fL_17 fA_17 X X' := by
  obtain ⟨n, g⟩ := g
  unfold gxE_17 at g
  exact fy_tr (fy_rf (X := X)) (gfl_17 _ n _ _ _ _ _ _ _ g)
abbrev fF_16 : List (Nat × Nat) := [(52, 1)]
abbrev fL_16 : List (Nat × Nat) := []
abbrev fA_16 : List Nat := [53]
theorem gf_16 {p1 : Int32} {p2 : Int32} {p3 : Int32} {p4 : Int32} {p5 : Int32} {X : fx_X} {v : Int32} {X' : fx_X} (g : gx_16 p1 p2 p3 p4 p5 X v X') : fy fF_16 fL_16 fA_16 X X' := by
  unfold gx_16 at g
  rcases fy_if g with g | g
  · skip
    rw [g.2]; exact (fy_rf (X := X))
  · skip
    obtain ⟨w4, X3, rX3, g⟩ := g
    have fX3 : fy fF_16 fL_16 fA_16 X X3 := fy_tr (fy_rf (X := X)) (fy_sub (gf_17 rX3) (by decide) (by decide) (by decide))
    obtain ⟨w6, X5, rX5, g⟩ := g
    have fX5 : fy fF_16 fL_16 fA_16 X X5 := fy_tr fX3 (fy_sub (gf_17 rX5) (by decide) (by decide) (by decide))
    obtain ⟨w8, X7, rX7, g⟩ := g
    have fX7 : fy fF_16 fL_16 fA_16 X X7 := fy_tr fX5 (fy_sub (gf_17 rX7) (by decide) (by decide) (by decide))
    obtain ⟨w10, X9, rX9, g⟩ := g
    have fX9 : fy fF_16 fL_16 fA_16 X X9 := fy_tr fX7 (fy_sub (gf_17 rX9) (by decide) (by decide) (by decide))
    obtain ⟨w12, X11, rX11, g⟩ := g
    have fX11 : fy fF_16 fL_16 fA_16 X X11 := fy_tr fX9 (fy_sub (gf_17 rX11) (by decide) (by decide) (by decide))
    rw [g.2]; exact fX11
abbrev fF_18 : List (Nat × Nat) := [(52, 1)]
abbrev fL_18 : List (Nat × Nat) := []
abbrev fA_18 : List Nat := []
theorem gf_18 {p1 : Int32} {X : fx_X} {v : Int32} {X' : fx_X} (g : gx_18 p1 X v X') : fy fF_18 fL_18 fA_18 X X' := by
  unfold gx_18 at g
  rcases fy_if g with g | g
  · skip
    rw [g.2]; exact (fy_rf (X := X))
  · skip
    rcases fy_if g with g | g
    · skip
      rw [g.2]; exact (fy_rf (X := X))
    · skip
      obtain ⟨X4, eX4, g⟩ := g
      have fX4 : fy fF_18 fL_18 fA_18 X X4 := by rw [eX4]; exact fy_f (fy_rf (X := X)) (by decide)
      rw [g.2]; exact fX4
abbrev fF_27 : List (Nat × Nat) := [(78, 3)]
abbrev fL_27 : List (Nat × Nat) := []
abbrev fA_27 : List Nat := [79, 80, 81]
theorem gf_27 {p1 : Int32} {p2 : Int32} {p3 : Int64} {X : fx_X} {v : Unit} {X' : fx_X} (g : gx_27 p1 p2 p3 X v X') : fy fF_27 fL_27 fA_27 X X' := by
  unfold gx_27 at g
  rcases fy_if g with g | g
  · skip
    rcases fy_if g with g | g
    · skip
      rcases fy_if g with g | g
      · skip
        replace g := g.2
        obtain ⟨X10, eX10, g⟩ := g
        have fX10 : fy fF_27 fL_27 fA_27 X X10 := by rw [eX10]; exact fy_a (fy_rf (X := X)) (by decide)
        replace g := g.2
        obtain ⟨X13, eX13, g⟩ := g
        have fX13 : fy fF_27 fL_27 fA_27 X X13 := by rw [eX13]; exact fy_a fX10 (by decide)
        replace g := g.2
        obtain ⟨X16, eX16, g⟩ := g
        have fX16 : fy fF_27 fL_27 fA_27 X X16 := by rw [eX16]; exact fy_b fX13 (by decide)
        obtain ⟨X17, eX17, g⟩ := g
        have fX17 : fy fF_27 fL_27 fA_27 X X17 := by rw [eX17]; exact fy_f fX16 (by decide)
        rw [g]; exact fX17
      · skip
        rw [g]; exact (fy_rf (X := X))
    · skip
      rw [g]; exact (fy_rf (X := X))
  · skip
    rw [g]; exact (fy_rf (X := X))
theorem gf_22 {p0 : Int32} {X : fx_X} {v : Int32} {X' : fx_X} (g : gx_22 p0 X v X') : fy [] [] [] X X' := by
  unfold gx_22 at g
  rcases fy_if g with g | g
  · skip
    rw [g.2]; exact (fy_rf (X := X))
  · skip
    rcases fy_if g with g | g
    · skip
      rw [g.2]; exact (fy_rf (X := X))
    · skip
      rcases fy_if g with g | g
      · skip
        rw [g.2]; exact (fy_rf (X := X))
      · skip
        rcases fy_if g with g | g
        · skip
          rw [g.2]; exact (fy_rf (X := X))
        · skip
          rw [g.2]; exact (fy_rf (X := X))
theorem gf_24 {p0 : Int32} {X : fx_X} {v : Int32} {X' : fx_X} (g : gx_24 p0 X v X') : fy [] [] [] X X' := by
  unfold gx_24 at g
  rcases fy_if g with g | g
  · skip
    rw [g.2]; exact (fy_rf (X := X))
  · skip
    rcases fy_if g with g | g
    · skip
      rw [g.2]; exact (fy_rf (X := X))
    · skip
      rw [g.2]; exact (fy_rf (X := X))
theorem gf_26 {p0 : Int32} {X : fx_X} {v : Int32} {X' : fx_X} (g : gx_26 p0 X v X') : fy [] [] [] X X' := by
  unfold gx_26 at g
  rcases fy_if g with g | g
  · skip
    rw [g.2]; exact (fy_rf (X := X))
  · skip
    rcases fy_if g with g | g
    · skip
      rw [g.2]; exact (fy_rf (X := X))
    · skip
      rw [g.2]; exact (fy_rf (X := X))
abbrev fF_29 : List (Nat × Nat) := [(78, 3)]
abbrev fL_29 : List (Nat × Nat) := []
abbrev fA_29 : List Nat := [79, 80, 81]
theorem gfl_29 (p2 : Int32) (p3 : Int32) : ∀ (n l : Nat) (is : List Int32) (ls : List Int64) (rs : List Nat) (X : fx_X) (v : Int32) (X' : fx_X), gxF_29 p2 p3 n l is ls rs X v X' → fy fF_29 fL_29 fA_29 X X' := by
  intro n
  induction n with
  | zero => intro l is ls rs X v X' g; exact g.elim
  | succ n ih =>
    intro l is ls rs X v X' g
    rcases g with ⟨-, y4, y5, -, -, -, g⟩
    · unfold gxT_29_6 at g
      rcases fy_if g with g | g
      · skip
        rcases fy_if g with g | g
        · skip
          replace g := g.2
          obtain ⟨w18, X17, rX17, g⟩ := g
          have fX17 : fy fF_29 fL_29 fA_29 X X17 := fy_z (fy_rf (X := X)) (gf_26 rX17)
          rcases fy_if g with g | g
          · skip
            rcases fy_if g with g | g
            · skip
              obtain ⟨w24, X23, rX23, g⟩ := g
              have fX23 : fy fF_29 fL_29 fA_29 X X23 := fy_tr fX17 (fy_sub (gf_27 rX23) (by decide) (by decide) (by decide))
              rw [g.2]; exact fX23
            · skip
              obtain ⟨w22, X21, rX21, g⟩ := g
              have fX21 : fy fF_29 fL_29 fA_29 X X21 := fy_tr fX17 (fy_sub (gf_27 rX21) (by decide) (by decide) (by decide))
              rw [g.2]; exact fX21
          · skip
            replace g := g.2
            obtain ⟨x26, -, g⟩ := g
            obtain ⟨x28, -, g⟩ := g
            exact fy_tr fX17 (ih _ _ _ _ _ _ _ g)
        · skip
          rcases fy_if g with g | g
          · skip
            obtain ⟨w15, X14, rX14, g⟩ := g
            have fX14 : fy fF_29 fL_29 fA_29 X X14 := fy_tr (fy_rf (X := X)) (fy_sub (gf_27 rX14) (by decide) (by decide) (by decide))
            rw [g.2]; exact fX14
          · skip
            obtain ⟨w13, X12, rX12, g⟩ := g
            have fX12 : fy fF_29 fL_29 fA_29 X X12 := fy_tr (fy_rf (X := X)) (fy_sub (gf_27 rX12) (by decide) (by decide) (by decide))
            rw [g.2]; exact fX12
      · skip
        rcases fy_if g with g | g
        · skip
          obtain ⟨w9, X8, rX8, g⟩ := g
          have fX8 : fy fF_29 fL_29 fA_29 X X8 := fy_tr (fy_rf (X := X)) (fy_sub (gf_27 rX8) (by decide) (by decide) (by decide))
          rw [g.2]; exact fX8
        · skip
          obtain ⟨w7, X6, rX6, g⟩ := g
          have fX6 : fy fF_29 fL_29 fA_29 X X6 := fy_tr (fy_rf (X := X)) (fy_sub (gf_27 rX6) (by decide) (by decide) (by decide))
          rw [g.2]; exact fX6
theorem gf_29 {p2 : Int32} {p3 : Int32} {X : fx_X} {v : Int32} {X' : fx_X} (g : gx_29 p2 p3 X v X') : fy fF_29 fL_29 fA_29 X X' := by
  obtain ⟨n, g⟩ := g
  unfold gxE_29 at g
  exact fy_tr (fy_rf (X := X)) (gfl_29 _ _ n _ _ _ _ _ _ _ g)
theorem gfl_28 (p0 : Int64) : ∀ (n l : Nat) (is : List Int32) (ls : List Int64) (rs : List Nat) (X : fx_X) (v : Int32) (X' : fx_X), gxF_28 p0 n l is ls rs X v X' → fy [] [] [] X X' := by
  intro n
  induction n with
  | zero => intro l is ls rs X v X' g; exact g.elim
  | succ n ih =>
    intro l is ls rs X v X' g
    rcases g with ⟨-, y2, -, -, -, g⟩
    · unfold gxT_28_2 at g
      rcases fy_if g with g | g
      · skip
        replace g := g.2
        rcases fy_if g with g | g
        · skip
          rw [g.2]; exact (fy_rf (X := X))
        · skip
          obtain ⟨x8, -, g⟩ := g
          exact fy_tr (fy_rf (X := X)) (ih _ _ _ _ _ _ _ g)
      · skip
        rw [g.2]; exact (fy_rf (X := X))
theorem gf_28 {p0 : Int64} {X : fx_X} {v : Int32} {X' : fx_X} (g : gx_28 p0 X v X') : fy [] [] [] X X' := by
  obtain ⟨n, g⟩ := g
  unfold gxE_28 at g
  exact fy_tr (fy_rf (X := X)) (gfl_28 _ n _ _ _ _ _ _ _ g)
abbrev fF_25 : List (Nat × Nat) := [(78, 3)]
abbrev fL_25 : List (Nat × Nat) := []
abbrev fA_25 : List Nat := [79, 80, 81]
theorem gfl_25 (p2 : Int32) (p3 : Int32) : ∀ (n l : Nat) (is : List Int32) (ls : List Int64) (rs : List Nat) (X : fx_X) (v : Int32) (X' : fx_X), gxF_25 p2 p3 n l is ls rs X v X' → fy fF_25 fL_25 fA_25 X X' := by
  intro n
  induction n with
  | zero => intro l is ls rs X v X' g; exact g.elim
  | succ n ih =>
    intro l is ls rs X v X' g
    rcases g with ⟨-, y4, y5, -, -, -, g⟩
    · unfold gxT_25_6 at g
      rcases fy_if g with g | g
      · skip
        rcases fy_if g with g | g
        · skip
          replace g := g.2
          obtain ⟨w22, X21, rX21, g⟩ := g
          have fX21 : fy fF_25 fL_25 fA_25 X X21 := fy_z (fy_rf (X := X)) (gf_24 rX21)
          rcases fy_if g with g | g
          · skip
            replace g := g.2
            obtain ⟨w31, X30, rX30, g⟩ := g
            have fX30 : fy fF_25 fL_25 fA_25 X X30 := fy_z fX21 (gf_26 rX30)
            rcases fy_if g with g | g
            · skip
              rcases fy_if g with g | g
              · skip
                obtain ⟨w39, X38, rX38, g⟩ := g
                have fX38 : fy fF_25 fL_25 fA_25 X X38 := fy_tr fX30 (fy_sub (gf_27 rX38) (by decide) (by decide) (by decide))
                rw [g.2]; exact fX38
              · skip
                obtain ⟨w35, X34, rX34, g⟩ := g
                have fX34 : fy fF_25 fL_25 fA_25 X X34 := fy_z fX30 (gf_28 rX34)
                obtain ⟨w37, X36, rX36, g⟩ := g
                have fX36 : fy fF_25 fL_25 fA_25 X X36 := fy_tr fX34 (fy_sub (gf_27 rX36) (by decide) (by decide) (by decide))
                rw [g.2]; exact fX36
            · skip
              replace g := g.2
              obtain ⟨x41, -, g⟩ := g
              obtain ⟨x43, -, g⟩ := g
              exact fy_tr fX30 (ih _ _ _ _ _ _ _ g)
          · skip
            replace g := g.2
            obtain ⟨x25, -, g⟩ := g
            obtain ⟨x27, -, g⟩ := g
            exact fy_tr fX21 (ih _ _ _ _ _ _ _ g)
        · skip
          rcases fy_if g with g | g
          · skip
            obtain ⟨w19, X18, rX18, g⟩ := g
            have fX18 : fy fF_25 fL_25 fA_25 X X18 := fy_tr (fy_rf (X := X)) (fy_sub (gf_27 rX18) (by decide) (by decide) (by decide))
            rw [g.2]; exact fX18
          · skip
            obtain ⟨w15, X14, rX14, g⟩ := g
            have fX14 : fy fF_25 fL_25 fA_25 X X14 := fy_z (fy_rf (X := X)) (gf_28 rX14)
            obtain ⟨w17, X16, rX16, g⟩ := g
            have fX16 : fy fF_25 fL_25 fA_25 X X16 := fy_tr fX14 (fy_sub (gf_27 rX16) (by decide) (by decide) (by decide))
            rw [g.2]; exact fX16
      · skip
        rcases fy_if g with g | g
        · skip
          obtain ⟨w11, X10, rX10, g⟩ := g
          have fX10 : fy fF_25 fL_25 fA_25 X X10 := fy_tr (fy_rf (X := X)) (fy_sub (gf_27 rX10) (by decide) (by decide) (by decide))
          rw [g.2]; exact fX10
        · skip
          obtain ⟨w7, X6, rX6, g⟩ := g
          have fX6 : fy fF_25 fL_25 fA_25 X X6 := fy_z (fy_rf (X := X)) (gf_28 rX6)
          obtain ⟨w9, X8, rX8, g⟩ := g
          have fX8 : fy fF_25 fL_25 fA_25 X X8 := fy_tr fX6 (fy_sub (gf_27 rX8) (by decide) (by decide) (by decide))
          rw [g.2]; exact fX8
theorem gf_25 {p2 : Int32} {p3 : Int32} {X : fx_X} {v : Int32} {X' : fx_X} (g : gx_25 p2 p3 X v X') : fy fF_25 fL_25 fA_25 X X' := by
  obtain ⟨n, g⟩ := g
  unfold gxE_25 at g
  exact fy_tr (fy_rf (X := X)) (gfl_25 _ _ n _ _ _ _ _ _ _ g)
theorem gf_30 {p0 : Int32} {X : fx_X} {v : Int32} {X' : fx_X} (g : gx_30 p0 X v X') : fy [] [] [] X X' := by
  unfold gx_30 at g
  rcases fy_if g with g | g
  · skip
    rw [g.2]; exact (fy_rf (X := X))
  · skip
    rcases fy_if g with g | g
    · skip
      rw [g.2]; exact (fy_rf (X := X))
    · skip
      rcases fy_if g with g | g
      · skip
        rw [g.2]; exact (fy_rf (X := X))
      · skip
        rcases fy_if g with g | g
        · skip
          rw [g.2]; exact (fy_rf (X := X))
        · skip
          rcases fy_if g with g | g
          · skip
            rw [g.2]; exact (fy_rf (X := X))
          · skip
            rcases fy_if g with g | g
            · skip
              rw [g.2]; exact (fy_rf (X := X))
            · skip
              rcases fy_if g with g | g
              · skip
                rw [g.2]; exact (fy_rf (X := X))
              · skip
                rcases fy_if g with g | g
                · skip
                  rw [g.2]; exact (fy_rf (X := X))
                · skip
                  rcases fy_if g with g | g
                  · skip
                    rw [g.2]; exact (fy_rf (X := X))
                  · skip
                    rcases fy_if g with g | g
                    · skip
                      rw [g.2]; exact (fy_rf (X := X))
                    · skip
                      rcases fy_if g with g | g
                      · skip
                        rw [g.2]; exact (fy_rf (X := X))
                      · skip
                        rcases fy_if g with g | g
                        · skip
                          rw [g.2]; exact (fy_rf (X := X))
                        · skip
                          rcases fy_if g with g | g
                          · skip
                            rw [g.2]; exact (fy_rf (X := X))
                          · skip
                            rcases fy_if g with g | g
                            · skip
                              rw [g.2]; exact (fy_rf (X := X))
                            · skip
                              rcases fy_if g with g | g
                              · skip
                                rw [g.2]; exact (fy_rf (X := X))
                              · skip
                                rcases fy_if g with g | g
                                · skip
                                  rw [g.2]; exact (fy_rf (X := X))
                                · skip
                                  rcases fy_if g with g | g
                                  · skip
                                    rw [g.2]; exact (fy_rf (X := X))
                                  · skip
                                    rcases fy_if g with g | g
                                    · skip
                                      rw [g.2]; exact (fy_rf (X := X))
                                    · skip
                                      rcases fy_if g with g | g
                                      · skip
                                        rw [g.2]; exact (fy_rf (X := X))
                                      · skip
                                        rw [g.2]; exact (fy_rf (X := X))
abbrev fF_23 : List (Nat × Nat) := [(78, 3)]
abbrev fL_23 : List (Nat × Nat) := []
abbrev fA_23 : List Nat := [79, 80, 81]
theorem gfl_23 (p2 : Int32) (p3 : Int32) : ∀ (n l : Nat) (is : List Int32) (ls : List Int64) (rs : List Nat) (X : fx_X) (v : Int32) (X' : fx_X), gxF_23 p2 p3 n l is ls rs X v X' → fy fF_23 fL_23 fA_23 X X' := by
  intro n
  induction n with
  | zero => intro l is ls rs X v X' g; exact g.elim
  | succ n ih =>
    intro l is ls rs X v X' g
    rcases g with ⟨-, y4, y5, -, -, -, g⟩
    · unfold gxT_23_98 at g
      rcases fy_if g with g | g
      · skip
        rcases fy_if g with g | g
        · skip
          rcases fy_if g with g | g
          · skip
            obtain ⟨w65, X64, rX64, g⟩ := g
            have fX64 : fy fF_23 fL_23 fA_23 X X64 := fy_tr (fy_rf (X := X)) (fy_sub (gf_27 rX64) (by decide) (by decide) (by decide))
            rw [g.2]; exact fX64
          · skip
            obtain ⟨w63, X62, rX62, g⟩ := g
            have fX62 : fy fF_23 fL_23 fA_23 X X62 := fy_tr (fy_rf (X := X)) (fy_sub (gf_27 rX62) (by decide) (by decide) (by decide))
            rw [g.2]; exact fX62
        · skip
          rcases fy_if g with g | g
          · skip
            rcases fy_if g with g | g
            · skip
              obtain ⟨w78, X77, rX77, g⟩ := g
              have fX77 : fy fF_23 fL_23 fA_23 X X77 := fy_tr (fy_rf (X := X)) (fy_sub (gf_27 rX77) (by decide) (by decide) (by decide))
              rw [g.2]; exact fX77
            · skip
              obtain ⟨w76, X75, rX75, g⟩ := g
              have fX75 : fy fF_23 fL_23 fA_23 X X75 := fy_tr (fy_rf (X := X)) (fy_sub (gf_27 rX75) (by decide) (by decide) (by decide))
              rw [g.2]; exact fX75
          · skip
            obtain ⟨w68, X67, rX67, g⟩ := g
            have fX67 : fy fF_23 fL_23 fA_23 X X67 := fy_z (fy_rf (X := X)) (gf_30 rX67)
            rcases fy_if g with g | g
            · skip
              obtain ⟨w73, X72, rX72, g⟩ := g
              have fX72 : fy fF_23 fL_23 fA_23 X X72 := fy_tr fX67 (fy_sub (gf_27 rX72) (by decide) (by decide) (by decide))
              rw [g.2]; exact fX72
            · skip
              obtain ⟨w71, X70, rX70, g⟩ := g
              have fX70 : fy fF_23 fL_23 fA_23 X X70 := fy_tr fX67 (fy_sub (gf_27 rX70) (by decide) (by decide) (by decide))
              rw [g.2]; exact fX70
      · skip
        obtain ⟨w54, X53, rX53, g⟩ := g
        have fX53 : fy fF_23 fL_23 fA_23 X X53 := fy_z (fy_rf (X := X)) (gf_30 rX53)
        rcases fy_if g with g | g
        · skip
          obtain ⟨w59, X58, rX58, g⟩ := g
          have fX58 : fy fF_23 fL_23 fA_23 X X58 := fy_tr fX53 (fy_sub (gf_27 rX58) (by decide) (by decide) (by decide))
          rw [g.2]; exact fX58
        · skip
          obtain ⟨w57, X56, rX56, g⟩ := g
          have fX56 : fy fF_23 fL_23 fA_23 X X56 := fy_tr fX53 (fy_sub (gf_27 rX56) (by decide) (by decide) (by decide))
          rw [g.2]; exact fX56
theorem gf_23 {p2 : Int32} {p3 : Int32} {X : fx_X} {v : Int32} {X' : fx_X} (g : gx_23 p2 p3 X v X') : fy fF_23 fL_23 fA_23 X X' := by
  obtain ⟨n, g⟩ := g
  unfold gxE_23 at g
  rcases fy_if g with g | g
  · skip
    replace g := g.2
    obtain ⟨x25, -, g⟩ := g
    obtain ⟨w28, X27, rX27, g⟩ := g
    have fX27 : fy fF_23 fL_23 fA_23 X X27 := fy_z (fy_rf (X := X)) (gf_24 rX27)
    rcases fy_if g with g | g
    · skip
      obtain ⟨w31, X30, rX30, g⟩ := g
      have fX30 : fy fF_23 fL_23 fA_23 X X30 := fy_z fX27 (gf_26 rX30)
      rcases fy_if g with g | g
      · skip
        rcases fy_if g with g | g
        · skip
          rcases fy_if g with g | g
          · skip
            replace g := g.2
            obtain ⟨x42, -, g⟩ := g
            rcases fy_if g with g | g
            · skip
              rcases fy_if g with g | g
              · skip
                obtain ⟨w47, X46, rX46, g⟩ := g
                have fX46 : fy fF_23 fL_23 fA_23 X X46 := fy_tr fX30 (fy_sub (gf_27 rX46) (by decide) (by decide) (by decide))
                rw [g.2]; exact fX46
              · skip
                exact fy_tr fX30 (gfl_23 _ _ n _ _ _ _ _ _ _ g)
            · skip
              exact fy_tr fX30 (gfl_23 _ _ n _ _ _ _ _ _ _ g)
          · skip
            rcases fy_if g with g | g
            · skip
              exact fy_tr fX30 (gfl_23 _ _ n _ _ _ _ _ _ _ g)
            · skip
              exact fy_tr fX30 (gfl_23 _ _ n _ _ _ _ _ _ _ g)
        · skip
          rcases fy_if g with g | g
          · skip
            exact fy_tr fX30 (gfl_23 _ _ n _ _ _ _ _ _ _ g)
          · skip
            exact fy_tr fX30 (gfl_23 _ _ n _ _ _ _ _ _ _ g)
      · skip
        obtain ⟨w49, X48, rX48, g⟩ := g
        have fX48 : fy fF_23 fL_23 fA_23 X X48 := fy_tr fX30 (fy_sub (gf_29 rX48) (by decide) (by decide) (by decide))
        rw [g.2]; exact fX48
    · skip
      obtain ⟨w51, X50, rX50, g⟩ := g
      have fX50 : fy fF_23 fL_23 fA_23 X X50 := fy_tr fX27 (fy_sub (gf_25 rX50) (by decide) (by decide) (by decide))
      rw [g.2]; exact fX50
  · skip
    obtain ⟨w5, X4, rX4, g⟩ := g
    have fX4 : fy fF_23 fL_23 fA_23 X X4 := fy_z (fy_rf (X := X)) (gf_24 rX4)
    rcases fy_if g with g | g
    · skip
      obtain ⟨w8, X7, rX7, g⟩ := g
      have fX7 : fy fF_23 fL_23 fA_23 X X7 := fy_z fX4 (gf_26 rX7)
      rcases fy_if g with g | g
      · skip
        rcases fy_if g with g | g
        · skip
          rcases fy_if g with g | g
          · skip
            replace g := g.2
            obtain ⟨x17, -, g⟩ := g
            exact fy_tr fX7 (gfl_23 _ _ n _ _ _ _ _ _ _ g)
          · skip
            exact fy_tr fX7 (gfl_23 _ _ n _ _ _ _ _ _ _ g)
        · skip
          exact fy_tr fX7 (gfl_23 _ _ n _ _ _ _ _ _ _ g)
      · skip
        obtain ⟨w21, X20, rX20, g⟩ := g
        have fX20 : fy fF_23 fL_23 fA_23 X X20 := fy_tr fX7 (fy_sub (gf_29 rX20) (by decide) (by decide) (by decide))
        rw [g.2]; exact fX20
    · skip
      obtain ⟨w23, X22, rX22, g⟩ := g
      have fX22 : fy fF_23 fL_23 fA_23 X X22 := fy_tr fX4 (fy_sub (gf_25 rX22) (by decide) (by decide) (by decide))
      rw [g.2]; exact fX22
abbrev fF_21 : List (Nat × Nat) := [(78, 3)]
abbrev fL_21 : List (Nat × Nat) := []
abbrev fA_21 : List Nat := [79, 80, 81]
theorem gfl_21 (p2 : Int32) : ∀ (n l : Nat) (is : List Int32) (ls : List Int64) (rs : List Nat) (X : fx_X) (v : Unit) (X' : fx_X), gxF_21 p2 n l is ls rs X v X' → fy fF_21 fL_21 fA_21 X X' := by
  intro n
  induction n with
  | zero => intro l is ls rs X v X' g; exact g.elim
  | succ n ih =>
    intro l is ls rs X v X' g
    rcases g with ⟨-, y3, y4, -, -, -, g⟩
    · unfold gxT_21_10 at g
      rcases fy_if g with g | g
      · skip
        obtain ⟨w7, X6, rX6, g⟩ := g
        have fX6 : fy fF_21 fL_21 fA_21 X X6 := fy_tr (fy_rf (X := X)) (fy_sub (gf_27 rX6) (by decide) (by decide) (by decide))
        rw [g]; exact fX6
      · skip
        rcases fy_if g with g | g
        · skip
          rcases fy_if g with g | g
          · skip
            replace g := g.2
            obtain ⟨x15, -, g⟩ := g
            obtain ⟨w18, X17, rX17, g⟩ := g
            have fX17 : fy fF_21 fL_21 fA_21 X X17 := fy_z (fy_rf (X := X)) (gf_22 rX17)
            rcases fy_if g with g | g
            · skip
              obtain ⟨w21, X20, rX20, g⟩ := g
              have fX20 : fy fF_21 fL_21 fA_21 X X20 := fy_tr fX17 (fy_sub (gf_23 rX20) (by decide) (by decide) (by decide))
              rcases fy_if g with g | g
              · skip
                rcases fy_if g with g | g
                · skip
                  exact fy_tr fX20 (ih _ _ _ _ _ _ _ g)
                · skip
                  exact fy_tr fX20 (ih _ _ _ _ _ _ _ g)
              · skip
                exact fy_tr fX20 (ih _ _ _ _ _ _ _ g)
            · skip
              obtain ⟨x31, -, g⟩ := g
              exact fy_tr fX17 (ih _ _ _ _ _ _ _ g)
          · skip
            obtain ⟨w13, X12, rX12, g⟩ := g
            have fX12 : fy fF_21 fL_21 fA_21 X X12 := fy_tr (fy_rf (X := X)) (fy_sub (gf_27 rX12) (by decide) (by decide) (by decide))
            rw [g]; exact fX12
        · skip
          obtain ⟨w10, X9, rX9, g⟩ := g
          have fX9 : fy fF_21 fL_21 fA_21 X X9 := fy_tr (fy_rf (X := X)) (fy_sub (gf_27 rX9) (by decide) (by decide) (by decide))
          rw [g]; exact fX9
theorem gf_21 {p2 : Int32} {X : fx_X} {v : Unit} {X' : fx_X} (g : gx_21 p2 X v X') : fy fF_21 fL_21 fA_21 X X' := by
  obtain ⟨n, g⟩ := g
  unfold gxE_21 at g
  obtain ⟨X2, eX2, g⟩ := g
  have fX2 : fy fF_21 fL_21 fA_21 X X2 := by rw [eX2]; exact fy_f (fy_rf (X := X)) (by decide)
  exact fy_tr fX2 (gfl_21 _ n _ _ _ _ _ _ _ g)
abbrev fF_31 : List (Nat × Nat) := [(82, 4), (82, 5), (82, 6)]
abbrev fL_31 : List (Nat × Nat) := []
abbrev fA_31 : List Nat := []
theorem gf_31 {X : fx_X} {v : Unit} {X' : fx_X} (g : gx_31 X v X') : fy fF_31 fL_31 fA_31 X X' := by
  unfold gx_31 at g
  obtain ⟨X2, eX2, g⟩ := g
  have fX2 : fy fF_31 fL_31 fA_31 X X2 := by rw [eX2]; exact fy_f (fy_rf (X := X)) (by decide)
  obtain ⟨X3, eX3, g⟩ := g
  have fX3 : fy fF_31 fL_31 fA_31 X X3 := by rw [eX3]; exact fy_f fX2 (by decide)
  obtain ⟨X4, eX4, g⟩ := g
  have fX4 : fy fF_31 fL_31 fA_31 X X4 := by rw [eX4]; exact fy_f fX3 (by decide)
  rw [g]; exact fX4
abbrev fF_33 : List (Nat × Nat) := [(87, 5)]
abbrev fL_33 : List (Nat × Nat) := []
abbrev fA_33 : List Nat := [88]
theorem gf_33 {p1 : Int32} {X : fx_X} {v : Unit} {X' : fx_X} (g : gx_33 p1 X v X') : fy fF_33 fL_33 fA_33 X X' := by
  unfold gx_33 at g
  rcases fy_if g with g | g
  · skip
    rw [g]; exact (fy_rf (X := X))
  · skip
    rcases fy_if g with g | g
    · skip
      replace g := g.2
      obtain ⟨X7, eX7, g⟩ := g
      have fX7 : fy fF_33 fL_33 fA_33 X X7 := by rw [eX7]; exact fy_a (fy_rf (X := X)) (by decide)
      obtain ⟨X8, eX8, g⟩ := g
      have fX8 : fy fF_33 fL_33 fA_33 X X8 := by rw [eX8]; exact fy_f fX7 (by decide)
      rw [g]; exact fX8
    · skip
      rw [g]; exact (fy_rf (X := X))
theorem gf_46 {p1 : Int32} {X : fx_X} {v : Int32} {X' : fx_X} (g : gx_46 p1 X v X') : fy [] [] [] X X' := by
  unfold gx_46 at g
  rcases fy_if g with g | g
  · skip
    rw [g.2]; exact (fy_rf (X := X))
  · skip
    rcases fy_if g with g | g
    · skip
      replace g := g.2
      rw [g.2]; exact (fy_rf (X := X))
    · skip
      rw [g.2]; exact (fy_rf (X := X))
theorem gf_43 {p1 : Int32} {X : fx_X} {v : Int32} {X' : fx_X} (g : gx_43 p1 X v X') : fy [] [] [] X X' := by
  unfold gx_43 at g
  rcases fy_if g with g | g
  · skip
    rw [g.2]; exact (fy_rf (X := X))
  · skip
    rcases fy_if g with g | g
    · skip
      replace g := g.2
      rw [g.2]; exact (fy_rf (X := X))
    · skip
      rw [g.2]; exact (fy_rf (X := X))
abbrev fF_44 : List (Nat × Nat) := [(82, 5), (82, 6)]
abbrev fL_44 : List (Nat × Nat) := []
abbrev fA_44 : List Nat := []
theorem gf_44 {p1 : Int32} {p2 : Int32} {X : fx_X} {v : Unit} {X' : fx_X} (g : gx_44 p1 p2 X v X') : fy fF_44 fL_44 fA_44 X X' := by
  unfold gx_44 at g
  rcases fy_if g with g | g
  · skip
    obtain ⟨X3, eX3, g⟩ := g
    have fX3 : fy fF_44 fL_44 fA_44 X X3 := by rw [eX3]; exact fy_f (fy_rf (X := X)) (by decide)
    obtain ⟨X4, eX4, g⟩ := g
    have fX4 : fy fF_44 fL_44 fA_44 X X4 := by rw [eX4]; exact fy_f fX3 (by decide)
    rw [g]; exact fX4
  · skip
    rcases fy_if g with g | g
    · skip
      obtain ⟨X6, eX6, g⟩ := g
      have fX6 : fy fF_44 fL_44 fA_44 X X6 := by rw [eX6]; exact fy_f (fy_rf (X := X)) (by decide)
      obtain ⟨X7, eX7, g⟩ := g
      have fX7 : fy fF_44 fL_44 fA_44 X X7 := by rw [eX7]; exact fy_f fX6 (by decide)
      rw [g]; exact fX7
    · skip
      rcases fy_if g with g | g
      · skip
        rcases fy_if g with g | g
        · skip
          obtain ⟨X10, eX10, g⟩ := g
          have fX10 : fy fF_44 fL_44 fA_44 X X10 := by rw [eX10]; exact fy_f (fy_rf (X := X)) (by decide)
          obtain ⟨X11, eX11, g⟩ := g
          have fX11 : fy fF_44 fL_44 fA_44 X X11 := by rw [eX11]; exact fy_f fX10 (by decide)
          rw [g]; exact fX11
        · skip
          rw [g]; exact (fy_rf (X := X))
      · skip
        rw [g]; exact (fy_rf (X := X))
abbrev fF_55 : List (Nat × Nat) := [(82, 5), (82, 6), (87, 6), (87, 7)]
abbrev fL_55 : List (Nat × Nat) := []
abbrev fA_55 : List Nat := []
theorem gf_55 {p1 : Int32} {X : fx_X} {v : Unit} {X' : fx_X} (g : gx_55 p1 X v X') : fy fF_55 fL_55 fA_55 X X' := by
  unfold gx_55 at g
  obtain ⟨w4, X3, rX3, g⟩ := g
  have fX3 : fy fF_55 fL_55 fA_55 X X3 := fy_z (fy_rf (X := X)) (gf_46 rX3)
  rcases fy_if g with g | g
  · skip
    rcases fy_if g with g | g
    · skip
      obtain ⟨X7, eX7, g⟩ := g
      have fX7 : fy fF_55 fL_55 fA_55 X X7 := by rw [eX7]; exact fy_f fX3 (by decide)
      obtain ⟨X8, eX8, g⟩ := g
      have fX8 : fy fF_55 fL_55 fA_55 X X8 := by rw [eX8]; exact fy_f fX7 (by decide)
      rw [g]; exact fX8
    · skip
      rcases fy_if g with g | g
      · skip
        obtain ⟨X10, eX10, g⟩ := g
        have fX10 : fy fF_55 fL_55 fA_55 X X10 := by rw [eX10]; exact fy_f fX3 (by decide)
        obtain ⟨X11, eX11, g⟩ := g
        have fX11 : fy fF_55 fL_55 fA_55 X X11 := by rw [eX11]; exact fy_f fX10 (by decide)
        rw [g]; exact fX11
      · skip
        obtain ⟨w15, X14, rX14, g⟩ := g
        have fX14 : fy fF_55 fL_55 fA_55 X X14 := fy_z fX3 (gf_43 rX14)
        obtain ⟨w17, X16, rX16, g⟩ := g
        have fX16 : fy fF_55 fL_55 fA_55 X X16 := fy_tr fX14 (fy_sub (gf_44 rX16) (by decide) (by decide) (by decide))
        obtain ⟨X18, eX18, g⟩ := g
        have fX18 : fy fF_55 fL_55 fA_55 X X18 := by rw [eX18]; exact fy_f fX16 (by decide)
        obtain ⟨X19, eX19, g⟩ := g
        have fX19 : fy fF_55 fL_55 fA_55 X X19 := by rw [eX19]; exact fy_f fX18 (by decide)
        rw [g]; exact fX19
  · skip
    obtain ⟨w23, X22, rX22, g⟩ := g
    have fX22 : fy fF_55 fL_55 fA_55 X X22 := fy_z fX3 (gf_43 rX22)
    obtain ⟨w25, X24, rX24, g⟩ := g
    have fX24 : fy fF_55 fL_55 fA_55 X X24 := fy_tr fX22 (fy_sub (gf_44 rX24) (by decide) (by decide) (by decide))
    rw [g]; exact fX24
theorem gf_53 {p0 : Int32} {X : fx_X} {v : (Option Nat)} {X' : fx_X} (g : gx_53 p0 X v X') : fy [] [] [] X X' := by
  unfold gx_53 at g
  rcases fy_if g with g | g
  · skip
    rw [g.2]; exact (fy_rf (X := X))
  · skip
    rcases fy_if g with g | g
    · skip
      rw [g.2]; exact (fy_rf (X := X))
    · skip
      rcases fy_if g with g | g
      · skip
        rw [g.2]; exact (fy_rf (X := X))
      · skip
        rcases fy_if g with g | g
        · skip
          rw [g.2]; exact (fy_rf (X := X))
        · skip
          rw [g.2]; exact (fy_rf (X := X))
theorem gf_54 {p0 : Int32} {X : fx_X} {v : (Option Nat)} {X' : fx_X} (g : gx_54 p0 X v X') : fy [] [] [] X X' := by
  unfold gx_54 at g
  rcases fy_if g with g | g
  · skip
    rw [g.2]; exact (fy_rf (X := X))
  · skip
    rcases fy_if g with g | g
    · skip
      rw [g.2]; exact (fy_rf (X := X))
    · skip
      rcases fy_if g with g | g
      · skip
        rw [g.2]; exact (fy_rf (X := X))
      · skip
        rcases fy_if g with g | g
        · skip
          rw [g.2]; exact (fy_rf (X := X))
        · skip
          rw [g.2]; exact (fy_rf (X := X))
theorem gf_52 {p0 : Int32} {p1 : Int32} {X : fx_X} {v : (Option Nat)} {X' : fx_X} (g : gx_52 p0 p1 X v X') : fy [] [] [] X X' := by
  unfold gx_52 at g
  rcases fy_if g with g | g
  · skip
    rw [g.2]; exact (fy_rf (X := X))
  · skip
    rcases fy_if g with g | g
    · skip
      rcases fy_if g with g | g
      · skip
        rw [g.2]; exact (fy_rf (X := X))
      · skip
        rcases fy_if g with g | g
        · skip
          rw [g.2]; exact (fy_rf (X := X))
        · skip
          rw [g.2]; exact (fy_rf (X := X))
    · skip
      rcases fy_if g with g | g
      · skip
        rw [g.2]; exact (fy_rf (X := X))
      · skip
        rcases fy_if g with g | g
        · skip
          rcases fy_if g with g | g
          · skip
            rw [g.2]; exact (fy_rf (X := X))
          · skip
            rw [g.2]; exact (fy_rf (X := X))
        · skip
          rcases fy_if g with g | g
          · skip
            rcases fy_if g with g | g
            · skip
              rw [g.2]; exact (fy_rf (X := X))
            · skip
              rcases fy_if g with g | g
              · skip
                rw [g.2]; exact (fy_rf (X := X))
              · skip
                rw [g.2]; exact (fy_rf (X := X))
          · skip
            rcases fy_if g with g | g
            · skip
              obtain ⟨w24, X23, rX23, g⟩ := g
              have fX23 : fy [] [] [] X X23 := fy_z (fy_rf (X := X)) (gf_53 rX23)
              rcases g with g | g
              · skip
                replace g := g.2
                rw [g.2]; exact fX23
              · skip
                obtain ⟨w24b, -, g⟩ := g
                rw [g.2]; exact fX23
            · skip
              rcases fy_if g with g | g
              · skip
                rw [g.2]; exact (fy_rf (X := X))
              · skip
                rcases fy_if g with g | g
                · skip
                  rcases fy_if g with g | g
                  · skip
                    rw [g.2]; exact (fy_rf (X := X))
                  · skip
                    rw [g.2]; exact (fy_rf (X := X))
                · skip
                  rcases fy_if g with g | g
                  · skip
                    rcases fy_if g with g | g
                    · skip
                      rw [g.2]; exact (fy_rf (X := X))
                    · skip
                      rw [g.2]; exact (fy_rf (X := X))
                  · skip
                    rcases fy_if g with g | g
                    · skip
                      rcases fy_if g with g | g
                      · skip
                        rw [g.2]; exact (fy_rf (X := X))
                      · skip
                        rw [g.2]; exact (fy_rf (X := X))
                    · skip
                      rcases fy_if g with g | g
                      · skip
                        rcases fy_if g with g | g
                        · skip
                          rw [g.2]; exact (fy_rf (X := X))
                        · skip
                          rw [g.2]; exact (fy_rf (X := X))
                      · skip
                        rcases fy_if g with g | g
                        · skip
                          obtain ⟨w45, X44, rX44, g⟩ := g
                          have fX44 : fy [] [] [] X X44 := fy_z (fy_rf (X := X)) (gf_54 rX44)
                          rcases g with g | g
                          · skip
                            replace g := g.2
                            rw [g.2]; exact fX44
                          · skip
                            obtain ⟨w45b, -, g⟩ := g
                            rw [g.2]; exact fX44
                        · skip
                          rw [g.2]; exact (fy_rf (X := X))
theorem gf_51 {p0 : Int32} {X : fx_X} {v : (Option Nat)} {X' : fx_X} (g : gx_51 p0 X v X') : fy [] [] [] X X' := by
  unfold gx_51 at g
  rcases fy_if g with g | g
  · skip
    rw [g.2]; exact (fy_rf (X := X))
  · skip
    rcases fy_if g with g | g
    · skip
      rw [g.2]; exact (fy_rf (X := X))
    · skip
      rcases fy_if g with g | g
      · skip
        rw [g.2]; exact (fy_rf (X := X))
      · skip
        rcases fy_if g with g | g
        · skip
          rw [g.2]; exact (fy_rf (X := X))
        · skip
          rw [g.2]; exact (fy_rf (X := X))
theorem gf_50 {p0 : Int32} {p1 : Int32} {X : fx_X} {v : (Option Nat)} {X' : fx_X} (g : gx_50 p0 p1 X v X') : fy [] [] [] X X' := by
  unfold gx_50 at g
  rcases fy_if g with g | g
  · skip
    rw [g.2]; exact (fy_rf (X := X))
  · skip
    rcases fy_if g with g | g
    · skip
      rcases fy_if g with g | g
      · skip
        rw [g.2]; exact (fy_rf (X := X))
      · skip
        rw [g.2]; exact (fy_rf (X := X))
    · skip
      rcases fy_if g with g | g
      · skip
        rw [g.2]; exact (fy_rf (X := X))
      · skip
        rcases fy_if g with g | g
        · skip
          rcases fy_if g with g | g
          · skip
            rw [g.2]; exact (fy_rf (X := X))
          · skip
            rw [g.2]; exact (fy_rf (X := X))
        · skip
          rcases fy_if g with g | g
          · skip
            rcases fy_if g with g | g
            · skip
              rw [g.2]; exact (fy_rf (X := X))
            · skip
              rcases fy_if g with g | g
              · skip
                rw [g.2]; exact (fy_rf (X := X))
              · skip
                rw [g.2]; exact (fy_rf (X := X))
          · skip
            rcases fy_if g with g | g
            · skip
              obtain ⟨w23, X22, rX22, g⟩ := g
              have fX22 : fy [] [] [] X X22 := fy_z (fy_rf (X := X)) (gf_51 rX22)
              rcases g with g | g
              · skip
                replace g := g.2
                rw [g.2]; exact fX22
              · skip
                obtain ⟨w23b, -, g⟩ := g
                rw [g.2]; exact fX22
            · skip
              rcases fy_if g with g | g
              · skip
                rcases fy_if g with g | g
                · skip
                  rw [g.2]; exact (fy_rf (X := X))
                · skip
                  rcases fy_if g with g | g
                  · skip
                    rw [g.2]; exact (fy_rf (X := X))
                  · skip
                    rcases fy_if g with g | g
                    · skip
                      rw [g.2]; exact (fy_rf (X := X))
                    · skip
                      rw [g.2]; exact (fy_rf (X := X))
              · skip
                rw [g.2]; exact (fy_rf (X := X))
theorem gf_49 {p0 : Int32} {p1 : Int32} {X : fx_X} {v : (Option Nat)} {X' : fx_X} (g : gx_49 p0 p1 X v X') : fy [] [] [] X X' := by
  unfold gx_49 at g
  rcases fy_if g with g | g
  · skip
    rcases fy_if g with g | g
    · skip
      rw [g.2]; exact (fy_rf (X := X))
    · skip
      rcases fy_if g with g | g
      · skip
        rw [g.2]; exact (fy_rf (X := X))
      · skip
        rw [g.2]; exact (fy_rf (X := X))
  · skip
    rcases fy_if g with g | g
    · skip
      rcases fy_if g with g | g
      · skip
        rw [g.2]; exact (fy_rf (X := X))
      · skip
        rcases fy_if g with g | g
        · skip
          rw [g.2]; exact (fy_rf (X := X))
        · skip
          rw [g.2]; exact (fy_rf (X := X))
    · skip
      rcases fy_if g with g | g
      · skip
        rcases fy_if g with g | g
        · skip
          rw [g.2]; exact (fy_rf (X := X))
        · skip
          rw [g.2]; exact (fy_rf (X := X))
      · skip
        rcases fy_if g with g | g
        · skip
          rcases fy_if g with g | g
          · skip
            rw [g.2]; exact (fy_rf (X := X))
          · skip
            rcases fy_if g with g | g
            · skip
              rw [g.2]; exact (fy_rf (X := X))
            · skip
              rw [g.2]; exact (fy_rf (X := X))
        · skip
          rcases fy_if g with g | g
          · skip
            rcases fy_if g with g | g
            · skip
              rw [g.2]; exact (fy_rf (X := X))
            · skip
              rw [g.2]; exact (fy_rf (X := X))
          · skip
            rcases fy_if g with g | g
            · skip
              rcases fy_if g with g | g
              · skip
                rw [g.2]; exact (fy_rf (X := X))
              · skip
                rw [g.2]; exact (fy_rf (X := X))
            · skip
              rcases fy_if g with g | g
              · skip
                rcases fy_if g with g | g
                · skip
                  rw [g.2]; exact (fy_rf (X := X))
                · skip
                  rw [g.2]; exact (fy_rf (X := X))
              · skip
                rw [g.2]; exact (fy_rf (X := X))
theorem gf_48 {p0 : Int32} {X : fx_X} {v : (Option Nat)} {X' : fx_X} (g : gx_48 p0 X v X') : fy [] [] [] X X' := by
  unfold gx_48 at g
  rcases fy_if g with g | g
  · skip
    rw [g.2]; exact (fy_rf (X := X))
  · skip
    rcases fy_if g with g | g
    · skip
      rw [g.2]; exact (fy_rf (X := X))
    · skip
      rcases fy_if g with g | g
      · skip
        rw [g.2]; exact (fy_rf (X := X))
      · skip
        rcases fy_if g with g | g
        · skip
          rw [g.2]; exact (fy_rf (X := X))
        · skip
          rcases fy_if g with g | g
          · skip
            rw [g.2]; exact (fy_rf (X := X))
          · skip
            rcases fy_if g with g | g
            · skip
              rw [g.2]; exact (fy_rf (X := X))
            · skip
              rw [g.2]; exact (fy_rf (X := X))
theorem gf_47 {p0 : Int32} {p1 : Int32} {X : fx_X} {v : (Option Nat)} {X' : fx_X} (g : gx_47 p0 p1 X v X') : fy [] [] [] X X' := by
  unfold gx_47 at g
  rcases fy_if g with g | g
  · skip
    rcases fy_if g with g | g
    · skip
      obtain ⟨w12, X11, rX11, g⟩ := g
      have fX11 : fy [] [] [] X X11 := fy_z (fy_rf (X := X)) (gf_48 rX11)
      rcases g with g | g
      · skip
        replace g := g.2
        rw [g.2]; exact fX11
      · skip
        obtain ⟨w12b, -, g⟩ := g
        rw [g.2]; exact fX11
    · skip
      obtain ⟨w10, X9, rX9, g⟩ := g
      have fX9 : fy [] [] [] X X9 := fy_z (fy_rf (X := X)) (gf_49 rX9)
      rcases g with g | g
      · skip
        replace g := g.2
        rw [g.2]; exact fX9
      · skip
        obtain ⟨w10b, -, g⟩ := g
        rw [g.2]; exact fX9
  · skip
    rcases fy_if g with g | g
    · skip
      obtain ⟨w7, X6, rX6, g⟩ := g
      have fX6 : fy [] [] [] X X6 := fy_z (fy_rf (X := X)) (gf_50 rX6)
      rcases g with g | g
      · skip
        replace g := g.2
        rw [g.2]; exact fX6
      · skip
        obtain ⟨w7b, -, g⟩ := g
        rw [g.2]; exact fX6
    · skip
      obtain ⟨w5, X4, rX4, g⟩ := g
      have fX4 : fy [] [] [] X X4 := fy_z (fy_rf (X := X)) (gf_52 rX4)
      rcases g with g | g
      · skip
        replace g := g.2
        rw [g.2]; exact fX4
      · skip
        obtain ⟨w5b, -, g⟩ := g
        rw [g.2]; exact fX4
abbrev fF_45 : List (Nat × Nat) := [(82, 5), (82, 6), (87, 5)]
abbrev fL_45 : List (Nat × Nat) := []
abbrev fA_45 : List Nat := [88]
theorem gfl_45 (p1 : Int32) : ∀ (n l : Nat) (is : List Int32) (ls : List Int64) (rs : List Nat) (X : fx_X) (v : Unit) (X' : fx_X), gxF_45 p1 n l is ls rs X v X' → fy fF_45 fL_45 fA_45 X X' := by
  intro n
  induction n with
  | zero => intro l is ls rs X v X' g; exact g.elim
  | succ n ih =>
    intro l is ls rs X v X' g
    rcases g with ⟨-, y2, y3, -, -, -, g⟩
    · unfold gxT_45_45 at g
      rcases fy_if g with g | g
      · skip
        rw [g]; exact (fy_rf (X := X))
      · skip
        replace g := g.2
        obtain ⟨w20, X19, rX19, g⟩ := g
        have fX19 : fy fF_45 fL_45 fA_45 X X19 := fy_tr (fy_rf (X := X)) (fy_sub (gf_33 rX19) (by decide) (by decide) (by decide))
        obtain ⟨x21, -, g⟩ := g
        exact fy_tr fX19 (ih _ _ _ _ _ _ _ g)
theorem gf_45 {p1 : Int32} {X : fx_X} {v : Unit} {X' : fx_X} (g : gx_45 p1 X v X') : fy fF_45 fL_45 fA_45 X X' := by
  obtain ⟨n, g⟩ := g
  unfold gxE_45 at g
  obtain ⟨w4, X3, rX3, g⟩ := g
  have fX3 : fy fF_45 fL_45 fA_45 X X3 := fy_z (fy_rf (X := X)) (gf_46 rX3)
  obtain ⟨w6, X5, rX5, g⟩ := g
  have fX5 : fy fF_45 fL_45 fA_45 X X5 := fy_z fX3 (gf_47 rX5)
  rcases g with g | g
  · skip
    replace g := g.2
    obtain ⟨w11, X10, rX10, g⟩ := g
    have fX10 : fy fF_45 fL_45 fA_45 X X10 := fy_z fX5 (gf_43 rX10)
    obtain ⟨w13, X12, rX12, g⟩ := g
    have fX12 : fy fF_45 fL_45 fA_45 X X12 := fy_tr fX10 (fy_sub (gf_44 rX12) (by decide) (by decide) (by decide))
    rw [g]; exact fX12
  · skip
    obtain ⟨w6b, -, g⟩ := g
    obtain ⟨x15, -, g⟩ := g
    exact fy_tr fX5 (gfl_45 _ n _ _ _ _ _ _ _ g)
theorem gf_37 {p1 : Int32} {X : fx_X} {v : Int64} {X' : fx_X} (g : gx_37 p1 X v X') : fy [] [] [] X X' := by
  unfold gx_37 at g
  rcases fy_if g with g | g
  · skip
    rw [g.2]; exact (fy_rf (X := X))
  · skip
    rcases fy_if g with g | g
    · skip
      replace g := g.2
      rw [g.2]; exact (fy_rf (X := X))
    · skip
      rw [g.2]; exact (fy_rf (X := X))
abbrev fF_36 : List (Nat × Nat) := [(87, 9)]
abbrev fL_36 : List (Nat × Nat) := []
abbrev fA_36 : List Nat := [89, 90]
theorem gf_36 {X : fx_X} {v : Int32} {X' : fx_X} (g : gx_36 X v X') : fy fF_36 fL_36 fA_36 X X' := by
  unfold gx_36 at g
  rcases fy_if g with g | g
  · skip
    rw [g.2]; exact (fy_rf (X := X))
  · skip
    rcases fy_if g with g | g
    · skip
      rcases fy_if g with g | g
      · skip
        obtain ⟨w10, X9, rX9, g⟩ := g
        have fX9 : fy fF_36 fL_36 fA_36 X X9 := fy_z (fy_rf (X := X)) (gf_37 rX9)
        replace g := g.2
        obtain ⟨X12, eX12, g⟩ := g
        have fX12 : fy fF_36 fL_36 fA_36 X X12 := by rw [eX12]; exact fy_b fX9 (by decide)
        replace g := g.2
        obtain ⟨X15, eX15, g⟩ := g
        have fX15 : fy fF_36 fL_36 fA_36 X X15 := by rw [eX15]; exact fy_a fX12 (by decide)
        obtain ⟨X16, eX16, g⟩ := g
        have fX16 : fy fF_36 fL_36 fA_36 X X16 := by rw [eX16]; exact fy_f fX15 (by decide)
        rw [g.2]; exact fX16
      · skip
        rw [g.2]; exact (fy_rf (X := X))
    · skip
      rw [g.2]; exact (fy_rf (X := X))
abbrev fF_38 : List (Nat × Nat) := []
abbrev fL_38 : List (Nat × Nat) := []
abbrev fA_38 : List Nat := [90]
theorem gfl_38 : ∀ (n l : Nat) (is : List Int32) (ls : List Int64) (rs : List Nat) (X : fx_X) (v : Int32) (X' : fx_X), gxF_38 n l is ls rs X v X' → fy fF_38 fL_38 fA_38 X X' := by
  intro n
  induction n with
  | zero => intro l is ls rs X v X' g; exact g.elim
  | succ n ih =>
    intro l is ls rs X v X' g
    rcases g with ⟨-, y1, y3, -, -, -, g⟩
    · unfold gxT_38_14 at g
      rcases fy_if g with g | g
      · skip
        rcases fy_if g with g | g
        · skip
          rcases fy_if g with g | g
          · skip
            replace g := g.2
            rcases fy_if g with g | g
            · skip
              replace g := g.2
              replace g := g.2
              obtain ⟨X20, eX20, g⟩ := g
              have fX20 : fy fF_38 fL_38 fA_38 X X20 := by rw [eX20]; exact fy_a (fy_rf (X := X)) (by decide)
              replace g := g.2
              rcases fy_if g with g | g
              · skip
                rw [g.2]; exact fX20
              · skip
                rw [g.2]; exact fX20
            · skip
              obtain ⟨x15, -, g⟩ := g
              exact fy_tr (fy_rf (X := X)) (ih _ _ _ _ _ _ _ g)
          · skip
            rw [g.2]; exact (fy_rf (X := X))
        · skip
          rw [g.2]; exact (fy_rf (X := X))
      · skip
        rw [g.2]; exact (fy_rf (X := X))
theorem gf_38 {X : fx_X} {v : Int32} {X' : fx_X} (g : gx_38 X v X') : fy fF_38 fL_38 fA_38 X X' := by
  obtain ⟨n, g⟩ := g
  unfold gxE_38 at g
  obtain ⟨w4, X3, rX3, g⟩ := g
  have fX3 : fy fF_38 fL_38 fA_38 X X3 := fy_z (fy_rf (X := X)) (gf_37 rX3)
  exact fy_tr fX3 (gfl_38 n _ _ _ _ _ _ _ g)
abbrev fF_35 : List (Nat × Nat) := [(87, 8), (87, 9), (87, 10), (87, 11), (87, 12), (87, 13), (87, 14)]
abbrev fL_35 : List (Nat × Nat) := []
abbrev fA_35 : List Nat := [89, 90]
theorem gf_35 {p1 : Int32} {X : fx_X} {v : Int32} {X' : fx_X} (g : gx_35 p1 X v X') : fy fF_35 fL_35 fA_35 X X' := by
  unfold gx_35 at g
  rcases fy_if g with g | g
  · skip
    obtain ⟨X4, eX4, g⟩ := g
    have fX4 : fy fF_35 fL_35 fA_35 X X4 := by rw [eX4]; exact fy_f (fy_rf (X := X)) (by decide)
    rcases fy_if g with g | g
    · skip
      rw [g.2]; exact fX4
    · skip
      rw [g.2]; exact fX4
  · skip
    rcases fy_if g with g | g
    · skip
      obtain ⟨X7, eX7, g⟩ := g
      have fX7 : fy fF_35 fL_35 fA_35 X X7 := by rw [eX7]; exact fy_f (fy_rf (X := X)) (by decide)
      rw [g.2]; exact fX7
    · skip
      rcases fy_if g with g | g
      · skip
        obtain ⟨X9, eX9, g⟩ := g
        have fX9 : fy fF_35 fL_35 fA_35 X X9 := by rw [eX9]; exact fy_f (fy_rf (X := X)) (by decide)
        rcases fy_if g with g | g
        · skip
          rw [g.2]; exact fX9
        · skip
          rw [g.2]; exact fX9
      · skip
        rcases fy_if g with g | g
        · skip
          obtain ⟨X12, eX12, g⟩ := g
          have fX12 : fy fF_35 fL_35 fA_35 X X12 := by rw [eX12]; exact fy_f (fy_rf (X := X)) (by decide)
          obtain ⟨X13, eX13, g⟩ := g
          have fX13 : fy fF_35 fL_35 fA_35 X X13 := by rw [eX13]; exact fy_f fX12 (by decide)
          rcases fy_if g with g | g
          · skip
            rw [g.2]; exact fX13
          · skip
            rw [g.2]; exact fX13
        · skip
          rcases fy_if g with g | g
          · skip
            obtain ⟨X16, eX16, g⟩ := g
            have fX16 : fy fF_35 fL_35 fA_35 X X16 := by rw [eX16]; exact fy_f (fy_rf (X := X)) (by decide)
            rcases fy_if g with g | g
            · skip
              rw [g.2]; exact fX16
            · skip
              rw [g.2]; exact fX16
          · skip
            rcases fy_if g with g | g
            · skip
              obtain ⟨X19, eX19, g⟩ := g
              have fX19 : fy fF_35 fL_35 fA_35 X X19 := by rw [eX19]; exact fy_f (fy_rf (X := X)) (by decide)
              obtain ⟨w21, X20, rX20, g⟩ := g
              have fX20 : fy fF_35 fL_35 fA_35 X X20 := fy_tr fX19 (fy_sub (gf_36 rX20) (by decide) (by decide) (by decide))
              rw [g.2]; exact fX20
            · skip
              rcases fy_if g with g | g
              · skip
                obtain ⟨X23, eX23, g⟩ := g
                have fX23 : fy fF_35 fL_35 fA_35 X X23 := by rw [eX23]; exact fy_f (fy_rf (X := X)) (by decide)
                rcases fy_if g with g | g
                · skip
                  rw [g.2]; exact fX23
                · skip
                  rw [g.2]; exact fX23
              · skip
                rcases fy_if g with g | g
                · skip
                  obtain ⟨w27, X26, rX26, g⟩ := g
                  have fX26 : fy fF_35 fL_35 fA_35 X X26 := fy_tr (fy_rf (X := X)) (fy_sub (gf_38 rX26) (by decide) (by decide) (by decide))
                  rw [g.2]; exact fX26
                · skip
                  rcases fy_if g with g | g
                  · skip
                    obtain ⟨X29, eX29, g⟩ := g
                    have fX29 : fy fF_35 fL_35 fA_35 X X29 := by rw [eX29]; exact fy_f (fy_rf (X := X)) (by decide)
                    rcases fy_if g with g | g
                    · skip
                      rw [g.2]; exact fX29
                    · skip
                      rw [g.2]; exact fX29
                  · skip
                    rcases fy_if g with g | g
                    · skip
                      obtain ⟨X32, eX32, g⟩ := g
                      have fX32 : fy fF_35 fL_35 fA_35 X X32 := by rw [eX32]; exact fy_f (fy_rf (X := X)) (by decide)
                      obtain ⟨w34, X33, rX33, g⟩ := g
                      have fX33 : fy fF_35 fL_35 fA_35 X X33 := fy_tr fX32 (fy_sub (gf_36 rX33) (by decide) (by decide) (by decide))
                      rw [g.2]; exact fX33
                    · skip
                      rw [g.2]; exact (fy_rf (X := X))
abbrev fF_42 : List (Nat × Nat) := [(82, 4)]
abbrev fL_42 : List (Nat × Nat) := []
abbrev fA_42 : List Nat := [83, 84, 85, 86]
theorem gf_42 {p1 : Int32} {p2 : Int32} {p3 : Int32} {p4 : Int32} {X : fx_X} {v : Unit} {X' : fx_X} (g : gx_42 p1 p2 p3 p4 X v X') : fy fF_42 fL_42 fA_42 X X' := by
  unfold gx_42 at g
  rcases fy_if g with g | g
  · skip
    replace g := g.2
    obtain ⟨X5, eX5, g⟩ := g
    have fX5 : fy fF_42 fL_42 fA_42 X X5 := by rw [eX5]; exact fy_a (fy_rf (X := X)) (by decide)
    replace g := g.2
    obtain ⟨X8, eX8, g⟩ := g
    have fX8 : fy fF_42 fL_42 fA_42 X X8 := by rw [eX8]; exact fy_a fX5 (by decide)
    replace g := g.2
    obtain ⟨X11, eX11, g⟩ := g
    have fX11 : fy fF_42 fL_42 fA_42 X X11 := by rw [eX11]; exact fy_a fX8 (by decide)
    replace g := g.2
    obtain ⟨X14, eX14, g⟩ := g
    have fX14 : fy fF_42 fL_42 fA_42 X X14 := by rw [eX14]; exact fy_a fX11 (by decide)
    obtain ⟨X15, eX15, g⟩ := g
    have fX15 : fy fF_42 fL_42 fA_42 X X15 := by rw [eX15]; exact fy_f fX14 (by decide)
    rw [g]; exact fX15
  · skip
    rw [g]; exact (fy_rf (X := X))
theorem gf_40 {p1 : Int32} {X : fx_X} {v : Int32} {X' : fx_X} (g : gx_40 p1 X v X') : fy [] [] [] X X' := by
  unfold gx_40 at g
  rcases fy_if g with g | g
  · skip
    rw [g.2]; exact (fy_rf (X := X))
  · skip
    rcases fy_if g with g | g
    · skip
      replace g := g.2
      rw [g.2]; exact (fy_rf (X := X))
    · skip
      rw [g.2]; exact (fy_rf (X := X))
abbrev fF_41 : List (Nat × Nat) := []
abbrev fL_41 : List (Nat × Nat) := []
abbrev fA_41 : List Nat := [86]
theorem gf_41 {p1 : Int32} {p2 : Int32} {X : fx_X} {v : Unit} {X' : fx_X} (g : gx_41 p1 p2 X v X') : fy fF_41 fL_41 fA_41 X X' := by
  unfold gx_41 at g
  rcases fy_if g with g | g
  · skip
    rw [g]; exact (fy_rf (X := X))
  · skip
    rcases fy_if g with g | g
    · skip
      replace g := g.2
      obtain ⟨X7, eX7, g⟩ := g
      have fX7 : fy fF_41 fL_41 fA_41 X X7 := by rw [eX7]; exact fy_a (fy_rf (X := X)) (by decide)
      rw [g]; exact fX7
    · skip
      rw [g]; exact (fy_rf (X := X))
abbrev fF_39 : List (Nat × Nat) := [(82, 4), (87, 15)]
abbrev fL_39 : List (Nat × Nat) := []
abbrev fA_39 : List Nat := [83, 84, 85, 86]
theorem gf_39 {p1 : Int32} {p2 : Int32} {X : fx_X} {v : Unit} {X' : fx_X} (g : gx_39 p1 p2 X v X') : fy fF_39 fL_39 fA_39 X X' := by
  unfold gx_39 at g
  rcases fy_if g with g | g
  · skip
    rw [g]; exact (fy_rf (X := X))
  · skip
    rcases fy_if g with g | g
    · skip
      rw [g]; exact (fy_rf (X := X))
    · skip
      rcases fy_if g with g | g
      · skip
        rw [g]; exact (fy_rf (X := X))
      · skip
        rcases fy_if g with g | g
        · skip
          obtain ⟨X8, eX8, g⟩ := g
          have fX8 : fy fF_39 fL_39 fA_39 X X8 := by rw [eX8]; exact fy_f (fy_rf (X := X)) (by decide)
          obtain ⟨w11, X10, rX10, g⟩ := g
          have fX10 : fy fF_39 fL_39 fA_39 X X10 := fy_tr fX8 (fy_sub (gf_42 rX10) (by decide) (by decide) (by decide))
          rw [g]; exact fX10
        · skip
          rcases fy_if g with g | g
          · skip
            obtain ⟨w16, X15, rX15, g⟩ := g
            have fX15 : fy fF_39 fL_39 fA_39 X X15 := fy_z (fy_rf (X := X)) (gf_40 rX15)
            obtain ⟨w18, X17, rX17, g⟩ := g
            have fX17 : fy fF_39 fL_39 fA_39 X X17 := fy_tr fX15 (fy_sub (gf_41 rX17) (by decide) (by decide) (by decide))
            obtain ⟨w21, X20, rX20, g⟩ := g
            have fX20 : fy fF_39 fL_39 fA_39 X X20 := fy_tr fX17 (fy_sub (gf_42 rX20) (by decide) (by decide) (by decide))
            rw [g]; exact fX20
          · skip
            obtain ⟨w24, X23, rX23, g⟩ := g
            have fX23 : fy fF_39 fL_39 fA_39 X X23 := fy_tr (fy_rf (X := X)) (fy_sub (gf_42 rX23) (by decide) (by decide) (by decide))
            rw [g]; exact fX23
abbrev fF_34 : List (Nat × Nat) := [(82, 4), (82, 5), (82, 6), (87, 8), (87, 9), (87, 10), (87, 11), (87, 12), (87, 13), (87, 14), (87, 15)]
abbrev fL_34 : List (Nat × Nat) := []
abbrev fA_34 : List Nat := [83, 84, 85, 86, 89, 90]
theorem gf_34 {p1 : Int32} {p2 : Int32} {X : fx_X} {v : Unit} {X' : fx_X} (g : gx_34 p1 p2 X v X') : fy fF_34 fL_34 fA_34 X X' := by
  unfold gx_34 at g
  obtain ⟨w3, X2, rX2, g⟩ := g
  have fX2 : fy fF_34 fL_34 fA_34 X X2 := fy_tr (fy_rf (X := X)) (fy_sub (gf_35 rX2) (by decide) (by decide) (by decide))
  rcases fy_if g with g | g
  · skip
    obtain ⟨w8, X7, rX7, g⟩ := g
    have fX7 : fy fF_34 fL_34 fA_34 X X7 := fy_z fX2 (gf_43 rX7)
    obtain ⟨w10, X9, rX9, g⟩ := g
    have fX9 : fy fF_34 fL_34 fA_34 X X9 := fy_tr fX7 (fy_sub (gf_44 rX9) (by decide) (by decide) (by decide))
    rw [g]; exact fX9
  · skip
    obtain ⟨w12, X11, rX11, g⟩ := g
    have fX11 : fy fF_34 fL_34 fA_34 X X11 := fy_tr fX2 (fy_sub (gf_39 rX11) (by decide) (by decide) (by decide))
    rw [g]; exact fX11
abbrev fF_32 : List (Nat × Nat) := [(82, 4), (82, 5), (82, 6), (87, 5), (87, 6), (87, 7), (87, 8), (87, 9), (87, 10), (87, 11), (87, 12), (87, 13), (87, 14), (87, 15)]
abbrev fL_32 : List (Nat × Nat) := []
abbrev fA_32 : List Nat := [83, 84, 85, 86, 88, 89, 90]
theorem gfl_32 (p1 : Int32) : ∀ (n l : Nat) (is : List Int32) (ls : List Int64) (rs : List Nat) (X : fx_X) (v : Unit) (X' : fx_X), gxF_32 p1 n l is ls rs X v X' → fy fF_32 fL_32 fA_32 X X' := by
  intro n
  induction n with
  | zero => intro l is ls rs X v X' g; exact g.elim
  | succ n ih =>
    intro l is ls rs X v X' g
    rcases g with ⟨-, y2, -, -, -, g⟩
    · unfold gxT_32_67 at g
      rcases fy_if g with g | g
      · skip
        rcases fy_if g with g | g
        · skip
          rcases fy_if g with g | g
          · skip
            obtain ⟨X22, eX22, g⟩ := g
            have fX22 : fy fF_32 fL_32 fA_32 X X22 := by rw [eX22]; exact fy_f (fy_rf (X := X)) (by decide)
            rcases fy_if g with g | g
            · skip
              replace g := g.2
              obtain ⟨x44, -, g⟩ := g
              obtain ⟨x46, -, g⟩ := g
              rcases fy_if g with g | g
              · skip
                rcases fy_if g with g | g
                · skip
                  obtain ⟨w51, X50, rX50, g⟩ := g
                  have fX50 : fy fF_32 fL_32 fA_32 X X50 := fy_tr fX22 (fy_sub (gf_55 rX50) (by decide) (by decide) (by decide))
                  obtain ⟨x52, -, g⟩ := g
                  exact fy_tr fX50 (ih _ _ _ _ _ _ _ g)
                · skip
                  obtain ⟨w55, X54, rX54, g⟩ := g
                  have fX54 : fy fF_32 fL_32 fA_32 X X54 := fy_tr fX22 (fy_sub (gf_45 rX54) (by decide) (by decide) (by decide))
                  obtain ⟨x56, -, g⟩ := g
                  exact fy_tr fX54 (ih _ _ _ _ _ _ _ g)
              · skip
                obtain ⟨w59, X58, rX58, g⟩ := g
                have fX58 : fy fF_32 fL_32 fA_32 X X58 := fy_tr fX22 (fy_sub (gf_34 rX58) (by decide) (by decide) (by decide))
                obtain ⟨x60, -, g⟩ := g
                exact fy_tr fX58 (ih _ _ _ _ _ _ _ g)
            · skip
              obtain ⟨x26, -, g⟩ := g
              rcases fy_if g with g | g
              · skip
                rcases fy_if g with g | g
                · skip
                  obtain ⟨w31, X30, rX30, g⟩ := g
                  have fX30 : fy fF_32 fL_32 fA_32 X X30 := fy_tr fX22 (fy_sub (gf_55 rX30) (by decide) (by decide) (by decide))
                  obtain ⟨x32, -, g⟩ := g
                  exact fy_tr fX30 (ih _ _ _ _ _ _ _ g)
                · skip
                  obtain ⟨w35, X34, rX34, g⟩ := g
                  have fX34 : fy fF_32 fL_32 fA_32 X X34 := fy_tr fX22 (fy_sub (gf_45 rX34) (by decide) (by decide) (by decide))
                  obtain ⟨x36, -, g⟩ := g
                  exact fy_tr fX34 (ih _ _ _ _ _ _ _ g)
              · skip
                obtain ⟨w39, X38, rX38, g⟩ := g
                have fX38 : fy fF_32 fL_32 fA_32 X X38 := fy_tr fX22 (fy_sub (gf_34 rX38) (by decide) (by decide) (by decide))
                obtain ⟨x40, -, g⟩ := g
                exact fy_tr fX38 (ih _ _ _ _ _ _ _ g)
          · skip
            rw [g]; exact (fy_rf (X := X))
        · skip
          rw [g]; exact (fy_rf (X := X))
      · skip
        rw [g]; exact (fy_rf (X := X))
theorem gf_32 {p1 : Int32} {X : fx_X} {v : Unit} {X' : fx_X} (g : gx_32 p1 X v X') : fy fF_32 fL_32 fA_32 X X' := by
  obtain ⟨n, g⟩ := g
  unfold gxE_32 at g
  obtain ⟨X2, eX2, g⟩ := g
  have fX2 : fy fF_32 fL_32 fA_32 X X2 := by rw [eX2]; exact fy_f (fy_rf (X := X)) (by decide)
  obtain ⟨X3, eX3, g⟩ := g
  have fX3 : fy fF_32 fL_32 fA_32 X X3 := by rw [eX3]; exact fy_f fX2 (by decide)
  obtain ⟨X4, eX4, g⟩ := g
  have fX4 : fy fF_32 fL_32 fA_32 X X4 := by rw [eX4]; exact fy_f fX3 (by decide)
  obtain ⟨X5, eX5, g⟩ := g
  have fX5 : fy fF_32 fL_32 fA_32 X X5 := by rw [eX5]; exact fy_f fX4 (by decide)
  obtain ⟨X6, eX6, g⟩ := g
  have fX6 : fy fF_32 fL_32 fA_32 X X6 := by rw [eX6]; exact fy_f fX5 (by decide)
  obtain ⟨X7, eX7, g⟩ := g
  have fX7 : fy fF_32 fL_32 fA_32 X X7 := by rw [eX7]; exact fy_f fX6 (by decide)
  obtain ⟨X8, eX8, g⟩ := g
  have fX8 : fy fF_32 fL_32 fA_32 X X8 := by rw [eX8]; exact fy_f fX7 (by decide)
  obtain ⟨X9, eX9, g⟩ := g
  have fX9 : fy fF_32 fL_32 fA_32 X X9 := by rw [eX9]; exact fy_f fX8 (by decide)
  obtain ⟨X10, eX10, g⟩ := g
  have fX10 : fy fF_32 fL_32 fA_32 X X10 := by rw [eX10]; exact fy_f fX9 (by decide)
  obtain ⟨X11, eX11, g⟩ := g
  have fX11 : fy fF_32 fL_32 fA_32 X X11 := by rw [eX11]; exact fy_f fX10 (by decide)
  obtain ⟨X12, eX12, g⟩ := g
  have fX12 : fy fF_32 fL_32 fA_32 X X12 := by rw [eX12]; exact fy_f fX11 (by decide)
  obtain ⟨w14, X13, rX13, g⟩ := g
  have fX13 : fy fF_32 fL_32 fA_32 X X13 := fy_tr fX12 (fy_sub (gf_33 rX13) (by decide) (by decide) (by decide))
  obtain ⟨w16, X15, rX15, g⟩ := g
  have fX15 : fy fF_32 fL_32 fA_32 X X15 := fy_tr fX13 (fy_sub (gf_33 rX15) (by decide) (by decide) (by decide))
  exact fy_tr fX15 (gfl_32 _ n _ _ _ _ _ _ _ g)
theorem gf_57 {p1 : Int32} {X : fx_X} {v : Int32} {X' : fx_X} (g : gx_57 p1 X v X') : fy [] [] [] X X' := by
  unfold gx_57 at g
  rcases fy_if g with g | g
  · skip
    rw [g.2]; exact (fy_rf (X := X))
  · skip
    rcases fy_if g with g | g
    · skip
      replace g := g.2
      rw [g.2]; exact (fy_rf (X := X))
    · skip
      rw [g.2]; exact (fy_rf (X := X))
theorem gf_61 {p1 : Int32} {X : fx_X} {v : Int32} {X' : fx_X} (g : gx_61 p1 X v X') : fy [] [] [] X X' := by
  unfold gx_61 at g
  rcases fy_if g with g | g
  · skip
    rw [g.2]; exact (fy_rf (X := X))
  · skip
    rcases fy_if g with g | g
    · skip
      replace g := g.2
      rw [g.2]; exact (fy_rf (X := X))
    · skip
      rw [g.2]; exact (fy_rf (X := X))
theorem gf_60 {p1 : Int32} {X : fx_X} {v : Int64} {X' : fx_X} (g : gx_60 p1 X v X') : fy [] [] [] X X' := by
  unfold gx_60 at g
  obtain ⟨w5, X4, rX4, g⟩ := g
  have fX4 : fy [] [] [] X X4 := fy_z (fy_rf (X := X)) (gf_61 rX4)
  obtain ⟨w7, X6, rX6, g⟩ := g
  have fX6 : fy [] [] [] X X6 := fy_z fX4 (gf_37 rX6)
  rw [g.2]; exact fX6
theorem gfl_84 (p0 : Nat) (p1 : Int64) : ∀ (n l : Nat) (is : List Int32) (ls : List Int64) (rs : List Nat) (X : fx_X) (v : Int32) (X' : fx_X), gxF_84 p0 p1 n l is ls rs X v X' → fy [] [] [] X X' := by
  intro n
  induction n with
  | zero => intro l is ls rs X v X' g; exact g.elim
  | succ n ih =>
    intro l is ls rs X v X' g
    rcases g with ⟨-, y3, -, -, -, g⟩
    · unfold gxT_84_2 at g
      rcases fy_if g with g | g
      · skip
        rcases fy_if g with g | g
        · skip
          replace g := g.2
          rcases fy_if g with g | g
          · skip
            rw [g.2]; exact (fy_rf (X := X))
          · skip
            obtain ⟨x9, -, g⟩ := g
            exact fy_tr (fy_rf (X := X)) (ih _ _ _ _ _ _ _ g)
        · skip
          rw [g.2]; exact (fy_rf (X := X))
      · skip
        rw [g.2]; exact (fy_rf (X := X))
theorem gf_84 {p0 : Nat} {p1 : Int64} {X : fx_X} {v : Int32} {X' : fx_X} (g : gx_84 p0 p1 X v X') : fy [] [] [] X X' := by
  obtain ⟨n, g⟩ := g
  unfold gxE_84 at g
  exact fy_tr (fy_rf (X := X)) (gfl_84 _ _ n _ _ _ _ _ _ _ g)
abbrev fF_64 : List (Nat × Nat) := [(82, 5), (82, 6)]
abbrev fL_64 : List (Nat × Nat) := []
abbrev fA_64 : List Nat := []
theorem gf_64 {p1 : Int32} {p2 : Int32} {X : fx_X} {v : Unit} {X' : fx_X} (g : gx_64 p1 p2 X v X') : fy fF_64 fL_64 fA_64 X X' := by
  unfold gx_64 at g
  obtain ⟨w6, X5, rX5, g⟩ := g
  have fX5 : fy fF_64 fL_64 fA_64 X X5 := fy_z (fy_rf (X := X)) (gf_61 rX5)
  obtain ⟨w8, X7, rX7, g⟩ := g
  have fX7 : fy fF_64 fL_64 fA_64 X X7 := fy_z fX5 (gf_43 rX7)
  obtain ⟨w10, X9, rX9, g⟩ := g
  have fX9 : fy fF_64 fL_64 fA_64 X X9 := fy_tr fX7 (fy_sub (gf_44 rX9) (by decide) (by decide) (by decide))
  rw [g]; exact fX9
theorem gf_83 {p1 : Int32} {X : fx_X} {v : Int32} {X' : fx_X} (g : gx_83 p1 X v X') : fy [] [] [] X X' := by
  unfold gx_83 at g
  rcases fy_if g with g | g
  · skip
    rw [g.2]; exact (fy_rf (X := X))
  · skip
    rcases fy_if g with g | g
    · skip
      rcases fy_if g with g | g
      · skip
        replace g := g.2
        rcases fy_if g with g | g
        · skip
          replace g := g.2
          rw [g.2]; exact (fy_rf (X := X))
        · skip
          replace g := g.2
          rw [g.2]; exact (fy_rf (X := X))
      · skip
        rw [g.2]; exact (fy_rf (X := X))
    · skip
      rw [g.2]; exact (fy_rf (X := X))
theorem gf_82 {p1 : Int32} {X : fx_X} {v : Int32} {X' : fx_X} (g : gx_82 p1 X v X') : fy [] [] [] X X' := by
  unfold gx_82 at g
  obtain ⟨w5, X4, rX4, g⟩ := g
  have fX4 : fy [] [] [] X X4 := fy_z (fy_rf (X := X)) (gf_61 rX4)
  obtain ⟨w7, X6, rX6, g⟩ := g
  have fX6 : fy [] [] [] X X6 := fy_z fX4 (gf_83 rX6)
  rw [g.2]; exact fX6
theorem gf_89 {p0 : Nat} {X : fx_X} {v : Int32} {X' : fx_X} (g : gx_89 p0 X v X') : fy [] [] [] X X' := by
  unfold gx_89 at g
  obtain ⟨x2, -, g⟩ := g
  rcases fy_if g with g | g
  · skip
    replace g := g.2
    rw [g.2]; exact (fy_rf (X := X))
  · skip
    rw [g.2]; exact (fy_rf (X := X))
abbrev fF_90 : List (Nat × Nat) := []
abbrev fL_90 : List (Nat × Nat) := []
theorem gf_90 {p0 : Nat} {X : fx_X} {v : Int32} {X' : fx_X} (g : gx_90 p0 X v X') : fy fF_90 fL_90 [p0] X X' := by
  unfold gx_90 at g
  obtain ⟨w3, X2, rX2, g⟩ := g
  have fX2 : fy fF_90 fL_90 [p0] X X2 := fy_z (fy_rf (X := X)) (gf_4 rX2)
  obtain ⟨x4, -, g⟩ := g
  rcases fy_if g with g | g
  · skip
    rw [g.2]; exact fX2
  · skip
    rcases fy_if g with g | g
    · skip
      obtain ⟨X8, eX8, g⟩ := g
      have fX8 : fy fF_90 fL_90 [p0] X X8 := by rw [eX8]; exact fy_a fX2 (by simp)
      obtain ⟨X9, eX9, g⟩ := g
      have fX9 : fy fF_90 fL_90 [p0] X X9 := by rw [eX9]; exact fy_a fX8 (by simp)
      rw [g.2]; exact fX9
    · skip
      rw [g.2]; exact fX2
theorem gfl_62 (p0 : Nat) (p1 : Int64) : ∀ (n l : Nat) (is : List Int32) (ls : List Int64) (rs : List Nat) (X : fx_X) (v : Int32) (X' : fx_X), gxF_62 p0 p1 n l is ls rs X v X' → fy [] [] [] X X' := by
  intro n
  induction n with
  | zero => intro l is ls rs X v X' g; exact g.elim
  | succ n ih =>
    intro l is ls rs X v X' g
    rcases g with ⟨-, y3, -, -, -, g⟩
    · unfold gxT_62_2 at g
      rcases fy_if g with g | g
      · skip
        rcases fy_if g with g | g
        · skip
          replace g := g.2
          rcases fy_if g with g | g
          · skip
            rw [g.2]; exact (fy_rf (X := X))
          · skip
            obtain ⟨x9, -, g⟩ := g
            exact fy_tr (fy_rf (X := X)) (ih _ _ _ _ _ _ _ g)
        · skip
          rw [g.2]; exact (fy_rf (X := X))
      · skip
        rw [g.2]; exact (fy_rf (X := X))
theorem gf_62 {p0 : Nat} {p1 : Int64} {X : fx_X} {v : Int32} {X' : fx_X} (g : gx_62 p0 p1 X v X') : fy [] [] [] X X' := by
  obtain ⟨n, g⟩ := g
  unfold gxE_62 at g
  exact fy_tr (fy_rf (X := X)) (gfl_62 _ _ n _ _ _ _ _ _ _ g)
abbrev fF_91 : List (Nat × Nat) := [(82, 5), (82, 6)]
abbrev fL_91 : List (Nat × Nat) := []
abbrev fA_91 : List Nat := []
theorem gf_91 {p1 : Int32} {X : fx_X} {v : Int32} {X' : fx_X} (g : gx_91 p1 X v X') : fy fF_91 fL_91 fA_91 X X' := by
  unfold gx_91 at g
  obtain ⟨b3, -, g⟩ := g
  obtain ⟨w7, X6, rX6, g⟩ := g
  have fX6 : fy fF_91 fL_91 fA_91 X X6 := fy_z (fy_rf (X := X)) (gf_60 rX6)
  obtain ⟨w9, X8, rX8, g⟩ := g
  have fX8 : fy fF_91 fL_91 fA_91 X X8 := fy_z fX6 (gf_62 rX8)
  rcases fy_if g with g | g
  · skip
    rw [g.2]; exact fX8
  · skip
    obtain ⟨w12, X11, rX11, g⟩ := g
    have fX11 : fy fF_91 fL_91 fA_91 X X11 := fy_tr fX8 (fy_sub (gf_64 rX11) (by decide) (by decide) (by decide))
    rw [g.2]; exact fX11
theorem gf_63 {p0 : Nat} {p1 : Int32} {X : fx_X} {v : (Option Nat)} {X' : fx_X} (g : gx_63 p0 p1 X v X') : fy [] [] [] X X' := by
  unfold gx_63 at g
  rcases fy_if g with g | g
  · skip
    rw [g.2]; exact (fy_rf (X := X))
  · skip
    rcases fy_if g with g | g
    · skip
      rcases fy_if g with g | g
      · skip
        replace g := g.2
        rcases g with g | g
        · skip
          replace g := g.2
          rw [g.2]; exact (fy_rf (X := X))
        · skip
          obtain ⟨b9, -, g⟩ := g
          rw [g.2]; exact (fy_rf (X := X))
      · skip
        rw [g.2]; exact (fy_rf (X := X))
    · skip
      rw [g.2]; exact (fy_rf (X := X))
theorem gf_66 {p0 : Nat} {p1 : Int32} {p2 : Int32} {X : fx_X} {v : Int64} {X' : fx_X} (g : gx_66 p0 p1 p2 X v X') : fy [] [] [] X X' := by
  unfold gx_66 at g
  obtain ⟨x2, -, g⟩ := g
  rcases fy_if g with g | g
  · skip
    rw [g.2]; exact (fy_rf (X := X))
  · skip
    rcases fy_if g with g | g
    · skip
      rcases fy_if g with g | g
      · skip
        rw [g.2]; exact (fy_rf (X := X))
      · skip
        rcases fy_if g with g | g
        · skip
          rcases fy_if g with g | g
          · skip
            replace g := g.2
            rw [g.2]; exact (fy_rf (X := X))
          · skip
            rw [g.2]; exact (fy_rf (X := X))
        · skip
          rw [g.2]; exact (fy_rf (X := X))
    · skip
      rw [g.2]; exact (fy_rf (X := X))
theorem gf_95 {p0 : Nat} {p1 : Int32} {X : fx_X} {v : Int32} {X' : fx_X} (g : gx_95 p0 p1 X v X') : fy [] [] [] X X' := by
  unfold gx_95 at g
  rcases fy_if g with g | g
  · skip
    rw [g.2]; exact (fy_rf (X := X))
  · skip
    rcases fy_if g with g | g
    · skip
      rcases fy_if g with g | g
      · skip
        replace g := g.2
        rcases fy_if g with g | g
        · skip
          rw [g.2]; exact (fy_rf (X := X))
        · skip
          rw [g.2]; exact (fy_rf (X := X))
      · skip
        rw [g.2]; exact (fy_rf (X := X))
    · skip
      rw [g.2]; exact (fy_rf (X := X))
abbrev fF_94 : List (Nat × Nat) := [(82, 5), (82, 6)]
abbrev fL_94 : List (Nat × Nat) := []
abbrev fA_94 : List Nat := [86]
theorem gf_94 {p1 : Int32} {X : fx_X} {v : Unit} {X' : fx_X} (g : gx_94 p1 X v X') : fy fF_94 fL_94 fA_94 X X' := by
  unfold gx_94 at g
  obtain ⟨b3, -, g⟩ := g
  obtain ⟨w7, X6, rX6, g⟩ := g
  have fX6 : fy fF_94 fL_94 fA_94 X X6 := fy_z (fy_rf (X := X)) (gf_60 rX6)
  obtain ⟨w9, X8, rX8, g⟩ := g
  have fX8 : fy fF_94 fL_94 fA_94 X X8 := fy_z fX6 (gf_62 rX8)
  obtain ⟨b12, -, g⟩ := g
  obtain ⟨w14, X13, rX13, g⟩ := g
  have fX13 : fy fF_94 fL_94 fA_94 X X13 := fy_z fX8 (gf_63 rX13)
  rcases g with g | g
  · skip
    replace g := g.2
    obtain ⟨w17, X16, rX16, g⟩ := g
    have fX16 : fy fF_94 fL_94 fA_94 X X16 := fy_tr fX13 (fy_sub (gf_64 rX16) (by decide) (by decide) (by decide))
    rw [g]; exact fX16
  · skip
    obtain ⟨w14b, -, g⟩ := g
    obtain ⟨b20, -, g⟩ := g
    obtain ⟨w22, X21, rX21, g⟩ := g
    have fX21 : fy fF_94 fL_94 fA_94 X X21 := fy_z fX13 (gf_95 rX21)
    rcases fy_if g with g | g
    · skip
      obtain ⟨w31, X30, rX30, g⟩ := g
      have fX30 : fy fF_94 fL_94 fA_94 X X30 := fy_z fX21 (gf_40 rX30)
      rcases fy_if g with g | g
      · skip
        obtain ⟨w35, X34, rX34, g⟩ := g
        have fX34 : fy fF_94 fL_94 fA_94 X X34 := fy_tr fX30 (fy_sub (gf_41 rX34) (by decide) (by decide) (by decide))
        rw [g]; exact fX34
      · skip
        obtain ⟨w37, X36, rX36, g⟩ := g
        have fX36 : fy fF_94 fL_94 fA_94 X X36 := fy_tr fX30 (fy_sub (gf_64 rX36) (by decide) (by decide) (by decide))
        obtain ⟨w40, X39, rX39, g⟩ := g
        have fX39 : fy fF_94 fL_94 fA_94 X X39 := fy_tr fX36 (fy_sub (gf_41 rX39) (by decide) (by decide) (by decide))
        rw [g]; exact fX39
    · skip
      obtain ⟨w25, X24, rX24, g⟩ := g
      have fX24 : fy fF_94 fL_94 fA_94 X X24 := fy_tr fX21 (fy_sub (gf_64 rX24) (by decide) (by decide) (by decide))
      obtain ⟨w28, X27, rX27, g⟩ := g
      have fX27 : fy fF_94 fL_94 fA_94 X X27 := fy_tr fX24 (fy_sub (gf_41 rX27) (by decide) (by decide) (by decide))
      rw [g]; exact fX27
theorem gf_72 {p1 : Int32} {X : fx_X} {v : Int32} {X' : fx_X} (g : gx_72 p1 X v X') : fy [] [] [] X X' := by
  unfold gx_72 at g
  rcases fy_if g with g | g
  · skip
    rw [g.2]; exact (fy_rf (X := X))
  · skip
    rcases fy_if g with g | g
    · skip
      replace g := g.2
      rw [g.2]; exact (fy_rf (X := X))
    · skip
      rw [g.2]; exact (fy_rf (X := X))
theorem gf_69 {p1 : Int32} {X : fx_X} {v : Int32} {X' : fx_X} (g : gx_69 p1 X v X') : fy [] [] [] X X' := by
  unfold gx_69 at g
  rcases fy_if g with g | g
  · skip
    rw [g.2]; exact (fy_rf (X := X))
  · skip
    rcases fy_if g with g | g
    · skip
      replace g := g.2
      rw [g.2]; exact (fy_rf (X := X))
    · skip
      rw [g.2]; exact (fy_rf (X := X))
theorem gf_70 {p1 : Int32} {p2 : Int32} {X : fx_X} {v : Int64} {X' : fx_X} (g : gx_70 p1 p2 X v X') : fy [] [] [] X X' := by
  unfold gx_70 at g
  obtain ⟨x2, -, g⟩ := g
  rcases fy_if g with g | g
  · skip
    rw [g.2]; exact (fy_rf (X := X))
  · skip
    rcases fy_if g with g | g
    · skip
      rw [g.2]; exact (fy_rf (X := X))
    · skip
      rcases fy_if g with g | g
      · skip
        rcases fy_if g with g | g
        · skip
          replace g := g.2
          rw [g.2]; exact (fy_rf (X := X))
        · skip
          rw [g.2]; exact (fy_rf (X := X))
      · skip
        rw [g.2]; exact (fy_rf (X := X))
abbrev fF_78 : List (Nat × Nat) := [(82, 5), (82, 6)]
abbrev fL_78 : List (Nat × Nat) := []
abbrev fA_78 : List Nat := [86]
theorem gf_78 {p1 : Int32} {p2 : Int32} {X : fx_X} {v : Unit} {X' : fx_X} (g : gx_78 p1 p2 X v X') : fy fF_78 fL_78 fA_78 X X' := by
  unfold gx_78 at g
  rcases fy_if g with g | g
  · skip
    obtain ⟨w7, X6, rX6, g⟩ := g
    have fX6 : fy fF_78 fL_78 fA_78 X X6 := fy_tr (fy_rf (X := X)) (fy_sub (gf_64 rX6) (by decide) (by decide) (by decide))
    obtain ⟨w10, X9, rX9, g⟩ := g
    have fX9 : fy fF_78 fL_78 fA_78 X X9 := fy_tr fX6 (fy_sub (gf_41 rX9) (by decide) (by decide) (by decide))
    rw [g]; exact fX9
  · skip
    obtain ⟨w5, X4, rX4, g⟩ := g
    have fX4 : fy fF_78 fL_78 fA_78 X X4 := fy_tr (fy_rf (X := X)) (fy_sub (gf_41 rX4) (by decide) (by decide) (by decide))
    rw [g]; exact fX4
theorem gfl_74 (p1 : Int32) (p2 : Int64) : ∀ (n l : Nat) (is : List Int32) (ls : List Int64) (rs : List Nat) (X : fx_X) (v : Int32) (X' : fx_X), gxF_74 p1 p2 n l is ls rs X v X' → fy [] [] [] X X' := by
  intro n
  induction n with
  | zero => intro l is ls rs X v X' g; exact g.elim
  | succ n ih =>
    intro l is ls rs X v X' g
    rcases g with ⟨-, y4, -, -, -, g⟩
    · unfold gxT_74_3 at g
      obtain ⟨w4, X3, rX3, g⟩ := g
      have fX3 : fy [] [] [] X X3 := fy_z (fy_rf (X := X)) (gf_69 rX3)
      rcases fy_if g with g | g
      · skip
        obtain ⟨w7, X6, rX6, g⟩ := g
        have fX6 : fy [] [] [] X X6 := fy_z fX3 (gf_70 rX6)
        rcases fy_if g with g | g
        · skip
          rw [g.2]; exact fX6
        · skip
          obtain ⟨x9, -, g⟩ := g
          exact fy_tr fX6 (ih _ _ _ _ _ _ _ g)
      · skip
        rw [g.2]; exact fX3
theorem gf_74 {p1 : Int32} {p2 : Int64} {X : fx_X} {v : Int32} {X' : fx_X} (g : gx_74 p1 p2 X v X') : fy [] [] [] X X' := by
  obtain ⟨n, g⟩ := g
  unfold gxE_74 at g
  exact fy_tr (fy_rf (X := X)) (gfl_74 _ _ n _ _ _ _ _ _ _ g)
abbrev fF_81 : List (Nat × Nat) := [(82, 5), (82, 6)]
abbrev fL_81 : List (Nat × Nat) := []
abbrev fA_81 : List Nat := [86]
theorem gf_81 {p1 : Int32} {p2 : Int32} {X : fx_X} {v : Unit} {X' : fx_X} (g : gx_81 p1 p2 X v X') : fy fF_81 fL_81 fA_81 X X' := by
  unfold gx_81 at g
  rcases fy_if g with g | g
  · skip
    obtain ⟨w6, X5, rX5, g⟩ := g
    have fX5 : fy fF_81 fL_81 fA_81 X X5 := fy_z (fy_rf (X := X)) (gf_82 rX5)
    obtain ⟨w8, X7, rX7, g⟩ := g
    have fX7 : fy fF_81 fL_81 fA_81 X X7 := fy_tr fX5 (fy_sub (gf_41 rX7) (by decide) (by decide) (by decide))
    rw [g]; exact fX7
  · skip
    rcases fy_if g with g | g
    · skip
      obtain ⟨b11, -, g⟩ := g
      obtain ⟨w15, X14, rX14, g⟩ := g
      have fX14 : fy fF_81 fL_81 fA_81 X X14 := fy_z (fy_rf (X := X)) (gf_60 rX14)
      obtain ⟨w17, X16, rX16, g⟩ := g
      have fX16 : fy fF_81 fL_81 fA_81 X X16 := fy_z fX14 (gf_84 rX16)
      obtain ⟨w19, X18, rX18, g⟩ := g
      have fX18 : fy fF_81 fL_81 fA_81 X X18 := fy_tr fX16 (fy_sub (gf_78 rX18) (by decide) (by decide) (by decide))
      rw [g]; exact fX18
    · skip
      rcases fy_if g with g | g
      · skip
        obtain ⟨w22, X21, rX21, g⟩ := g
        have fX21 : fy fF_81 fL_81 fA_81 X X21 := fy_z (fy_rf (X := X)) (gf_60 rX21)
        obtain ⟨w24, X23, rX23, g⟩ := g
        have fX23 : fy fF_81 fL_81 fA_81 X X23 := fy_z fX21 (gf_74 rX23)
        obtain ⟨w26, X25, rX25, g⟩ := g
        have fX25 : fy fF_81 fL_81 fA_81 X X25 := fy_tr fX23 (fy_sub (gf_78 rX25) (by decide) (by decide) (by decide))
        rw [g]; exact fX25
      · skip
        rcases fy_if g with g | g
        · skip
          obtain ⟨w32, X31, rX31, g⟩ := g
          have fX31 : fy fF_81 fL_81 fA_81 X X31 := fy_z (fy_rf (X := X)) (gf_61 rX31)
          obtain ⟨w34, X33, rX33, g⟩ := g
          have fX33 : fy fF_81 fL_81 fA_81 X X33 := fy_z fX31 (gf_46 rX33)
          obtain ⟨w36, X35, rX35, g⟩ := g
          have fX35 : fy fF_81 fL_81 fA_81 X X35 := fy_tr fX33 (fy_sub (gf_41 rX35) (by decide) (by decide) (by decide))
          rw [g]; exact fX35
        · skip
          rw [g]; exact (fy_rf (X := X))
abbrev fF_65 : List (Nat × Nat) := []
abbrev fL_65 : List (Nat × Nat) := []
abbrev fA_65 : List Nat := [93]
theorem gf_65 {p1 : Int32} {p2 : Int32} {X : fx_X} {v : Unit} {X' : fx_X} (g : gx_65 p1 p2 X v X') : fy fF_65 fL_65 fA_65 X X' := by
  unfold gx_65 at g
  rcases fy_if g with g | g
  · skip
    rw [g]; exact (fy_rf (X := X))
  · skip
    rcases fy_if g with g | g
    · skip
      replace g := g.2
      obtain ⟨X7, eX7, g⟩ := g
      have fX7 : fy fF_65 fL_65 fA_65 X X7 := by rw [eX7]; exact fy_a (fy_rf (X := X)) (by decide)
      rw [g]; exact fX7
    · skip
      rw [g]; exact (fy_rf (X := X))
abbrev fF_67 : List (Nat × Nat) := []
abbrev fL_67 : List (Nat × Nat) := []
abbrev fA_67 : List Nat := [92, 93]
theorem gf_67 {p1 : Int32} {p2 : Int64} {X : fx_X} {v : Unit} {X' : fx_X} (g : gx_67 p1 p2 X v X') : fy fF_67 fL_67 fA_67 X X' := by
  unfold gx_67 at g
  rcases fy_if g with g | g
  · skip
    rw [g]; exact (fy_rf (X := X))
  · skip
    rcases fy_if g with g | g
    · skip
      replace g := g.2
      rcases fy_if g with g | g
      · skip
        replace g := g.2
        obtain ⟨x10, -, g⟩ := g
        rcases fy_if g with g | g
        · skip
          replace g := g.2
          obtain ⟨X16, eX16, g⟩ := g
          have fX16 : fy fF_67 fL_67 fA_67 X X16 := by rw [eX16]; exact fy_b (fy_rf (X := X)) (by decide)
          replace g := g.2
          replace g := g.2
          obtain ⟨X20, eX20, g⟩ := g
          have fX20 : fy fF_67 fL_67 fA_67 X X20 := by rw [eX20]; exact fy_a fX16 (by decide)
          rw [g]; exact fX20
        · skip
          rw [g]; exact (fy_rf (X := X))
      · skip
        rw [g]; exact (fy_rf (X := X))
    · skip
      rw [g]; exact (fy_rf (X := X))
abbrev fF_59 : List (Nat × Nat) := [(82, 5), (82, 6), (91, 5)]
abbrev fL_59 : List (Nat × Nat) := []
abbrev fA_59 : List Nat := [86, 92, 93]
theorem gfl_59 (p1 : Int32) : ∀ (n l : Nat) (is : List Int32) (ls : List Int64) (rs : List Nat) (X : fx_X) (v : Unit) (X' : fx_X), gxF_59 p1 n l is ls rs X v X' → fy fF_59 fL_59 fA_59 X X' := by
  intro n
  induction n with
  | zero => intro l is ls rs X v X' g; exact g.elim
  | succ n ih =>
    intro l is ls rs X v X' g
    rcases g with ⟨-, y2, y3, y4, -, -, -, g⟩
    · unfold gxT_59_54 at g
      rcases fy_if g with g | g
      · skip
        obtain ⟨b28, -, g⟩ := g
        obtain ⟨w30, X29, rX29, g⟩ := g
        have fX29 : fy fF_59 fL_59 fA_59 X X29 := fy_z (fy_rf (X := X)) (gf_66 rX29)
        obtain ⟨w32, X31, rX31, g⟩ := g
        have fX31 : fy fF_59 fL_59 fA_59 X X31 := fy_tr fX29 (fy_sub (gf_67 rX31) (by decide) (by decide) (by decide))
        obtain ⟨x33, -, g⟩ := g
        exact fy_tr fX31 (ih _ _ _ _ _ _ _ g)
      · skip
        obtain ⟨X26, eX26, g⟩ := g
        have fX26 : fy fF_59 fL_59 fA_59 X X26 := by rw [eX26]; exact fy_f (fy_rf (X := X)) (by decide)
        rw [g]; exact fX26
theorem gf_59 {p1 : Int32} {X : fx_X} {v : Unit} {X' : fx_X} (g : gx_59 p1 X v X') : fy fF_59 fL_59 fA_59 X X' := by
  obtain ⟨n, g⟩ := g
  unfold gxE_59 at g
  obtain ⟨b3, -, g⟩ := g
  obtain ⟨w7, X6, rX6, g⟩ := g
  have fX6 : fy fF_59 fL_59 fA_59 X X6 := fy_z (fy_rf (X := X)) (gf_60 rX6)
  obtain ⟨w9, X8, rX8, g⟩ := g
  have fX8 : fy fF_59 fL_59 fA_59 X X8 := fy_z fX6 (gf_62 rX8)
  obtain ⟨b12, -, g⟩ := g
  obtain ⟨w14, X13, rX13, g⟩ := g
  have fX13 : fy fF_59 fL_59 fA_59 X X13 := fy_z fX8 (gf_63 rX13)
  rcases g with g | g
  · skip
    replace g := g.2
    obtain ⟨w17, X16, rX16, g⟩ := g
    have fX16 : fy fF_59 fL_59 fA_59 X X16 := fy_tr fX13 (fy_sub (gf_64 rX16) (by decide) (by decide) (by decide))
    rw [g]; exact fX16
  · skip
    obtain ⟨w14b, -, g⟩ := g
    obtain ⟨w21, X20, rX20, g⟩ := g
    have fX20 : fy fF_59 fL_59 fA_59 X X20 := fy_tr fX13 (fy_sub (gf_41 rX20) (by decide) (by decide) (by decide))
    obtain ⟨w23, X22, rX22, g⟩ := g
    have fX22 : fy fF_59 fL_59 fA_59 X X22 := fy_tr fX20 (fy_sub (gf_65 rX22) (by decide) (by decide) (by decide))
    exact fy_tr fX22 (gfl_59 _ n _ _ _ _ _ _ _ g)
theorem gfl_68 (p1 : Int32) (p2 : Int32) : ∀ (n l : Nat) (is : List Int32) (ls : List Int64) (rs : List Nat) (X : fx_X) (v : Int32) (X' : fx_X), gxF_68 p1 p2 n l is ls rs X v X' → fy [] [] [] X X' := by
  intro n
  induction n with
  | zero => intro l is ls rs X v X' g; exact g.elim
  | succ n ih =>
    intro l is ls rs X v X' g
    rcases g with ⟨-, y3, -, -, -, g⟩
    · unfold gxT_68_17 at g
      obtain ⟨w9, X8, rX8, g⟩ := g
      have fX8 : fy [] [] [] X X8 := fy_z (fy_rf (X := X)) (gf_69 rX8)
      rcases fy_if g with g | g
      · skip
        obtain ⟨w12, X11, rX11, g⟩ := g
        have fX11 : fy [] [] [] X X11 := fy_z fX8 (gf_70 rX11)
        obtain ⟨w14, X13, rX13, g⟩ := g
        have fX13 : fy [] [] [] X X13 := fy_z fX11 (gf_70 rX13)
        rcases fy_if g with g | g
        · skip
          obtain ⟨x16, -, g⟩ := g
          exact fy_tr fX13 (ih _ _ _ _ _ _ _ g)
        · skip
          rw [g.2]; exact fX13
      · skip
        rw [g.2]; exact fX8
theorem gf_68 {p1 : Int32} {p2 : Int32} {X : fx_X} {v : Int32} {X' : fx_X} (g : gx_68 p1 p2 X v X') : fy [] [] [] X X' := by
  obtain ⟨n, g⟩ := g
  unfold gxE_68 at g
  obtain ⟨w3, X2, rX2, g⟩ := g
  have fX2 : fy [] [] [] X X2 := fy_z (fy_rf (X := X)) (gf_69 rX2)
  obtain ⟨w5, X4, rX4, g⟩ := g
  have fX4 : fy [] [] [] X X4 := fy_z fX2 (gf_69 rX4)
  rcases fy_if g with g | g
  · skip
    exact fy_tr fX4 (gfl_68 _ _ n _ _ _ _ _ _ _ g)
  · skip
    rw [g.2]; exact fX4
abbrev fF_71 : List (Nat × Nat) := [(82, 5), (82, 6)]
abbrev fL_71 : List (Nat × Nat) := []
abbrev fA_71 : List Nat := []
theorem gf_71 {p1 : Int32} {p2 : Int32} {X : fx_X} {v : Unit} {X' : fx_X} (g : gx_71 p1 p2 X v X') : fy fF_71 fL_71 fA_71 X X' := by
  unfold gx_71 at g
  obtain ⟨w6, X5, rX5, g⟩ := g
  have fX5 : fy fF_71 fL_71 fA_71 X X5 := fy_z (fy_rf (X := X)) (gf_72 rX5)
  obtain ⟨w8, X7, rX7, g⟩ := g
  have fX7 : fy fF_71 fL_71 fA_71 X X7 := fy_z fX5 (gf_43 rX7)
  obtain ⟨w10, X9, rX9, g⟩ := g
  have fX9 : fy fF_71 fL_71 fA_71 X X9 := fy_tr fX7 (fy_sub (gf_44 rX9) (by decide) (by decide) (by decide))
  rw [g]; exact fX9
abbrev fF_73 : List (Nat × Nat) := [(82, 5), (82, 6)]
abbrev fL_73 : List (Nat × Nat) := []
abbrev fA_73 : List Nat := [86, 92, 93]
theorem gfl_73 (p1 : Int32) : ∀ (n l : Nat) (is : List Int32) (ls : List Int64) (rs : List Nat) (X : fx_X) (v : Unit) (X' : fx_X), gxF_73 p1 n l is ls rs X v X' → fy fF_73 fL_73 fA_73 X X' := by
  intro n
  induction n with
  | zero => intro l is ls rs X v X' g; exact g.elim
  | succ n ih =>
    intro l is ls rs X v X' g
    rcases g with ⟨-, y2, y3, y4, y5, y6, -, -, -, g⟩ | ⟨-, y2, y3, y5, y6, -, -, -, g⟩
    · unfold gxT_73_25 at g
      obtain ⟨w12, X11, rX11, g⟩ := g
      have fX11 : fy fF_73 fL_73 fA_73 X X11 := fy_z (fy_rf (X := X)) (gf_69 rX11)
      rcases fy_if g with g | g
      · skip
        obtain ⟨w19, X18, rX18, g⟩ := g
        have fX18 : fy fF_73 fL_73 fA_73 X X18 := fy_z fX11 (gf_70 rX18)
        obtain ⟨w21, X20, rX20, g⟩ := g
        have fX20 : fy fF_73 fL_73 fA_73 X X20 := fy_z fX18 (gf_74 rX20)
        rcases fy_if g with g | g
        · skip
          obtain ⟨x35, -, g⟩ := g
          rcases fy_if g with g | g
          · skip
            obtain ⟨x42, -, g⟩ := g
            obtain ⟨x44, -, g⟩ := g
            exact fy_tr fX20 (ih _ _ _ _ _ _ _ g)
          · skip
            obtain ⟨x38, -, g⟩ := g
            obtain ⟨x40, -, g⟩ := g
            exact fy_tr fX20 (ih _ _ _ _ _ _ _ g)
        · skip
          obtain ⟨x24, -, g⟩ := g
          rcases fy_if g with g | g
          · skip
            obtain ⟨x31, -, g⟩ := g
            obtain ⟨x33, -, g⟩ := g
            exact fy_tr fX20 (ih _ _ _ _ _ _ _ g)
          · skip
            obtain ⟨x27, -, g⟩ := g
            obtain ⟨x29, -, g⟩ := g
            exact fy_tr fX20 (ih _ _ _ _ _ _ _ g)
      · skip
        rcases fy_if g with g | g
        · skip
          obtain ⟨w17, X16, rX16, g⟩ := g
          have fX16 : fy fF_73 fL_73 fA_73 X X16 := fy_tr fX11 (fy_sub (gf_71 rX16) (by decide) (by decide) (by decide))
          rw [g]; exact fX16
        · skip
          exact fy_tr fX11 (ih _ _ _ _ _ _ _ g)
    · unfold gxT_73_109 at g
      obtain ⟨w47, X46, rX46, g⟩ := g
      have fX46 : fy fF_73 fL_73 fA_73 X X46 := fy_z (fy_rf (X := X)) (gf_69 rX46)
      rcases fy_if g with g | g
      · skip
        rcases fy_if g with g | g
        · skip
          obtain ⟨w56, X55, rX55, g⟩ := g
          have fX55 : fy fF_73 fL_73 fA_73 X X55 := fy_z fX46 (gf_70 rX55)
          obtain ⟨w58, X57, rX57, g⟩ := g
          have fX57 : fy fF_73 fL_73 fA_73 X X57 := fy_tr fX55 (fy_sub (gf_67 rX57) (by decide) (by decide) (by decide))
          obtain ⟨x59, -, g⟩ := g
          exact fy_tr fX57 (ih _ _ _ _ _ _ _ g)
        · skip
          obtain ⟨x53, -, g⟩ := g
          exact fy_tr fX46 (ih _ _ _ _ _ _ _ g)
      · skip
        obtain ⟨w51, X50, rX50, g⟩ := g
        have fX50 : fy fF_73 fL_73 fA_73 X X50 := fy_tr fX46 (fy_sub (gf_41 rX50) (by decide) (by decide) (by decide))
        rw [g]; exact fX50
theorem gf_73 {p1 : Int32} {X : fx_X} {v : Unit} {X' : fx_X} (g : gx_73 p1 X v X') : fy fF_73 fL_73 fA_73 X X' := by
  obtain ⟨n, g⟩ := g
  unfold gxE_73 at g
  obtain ⟨x2, -, g⟩ := g
  obtain ⟨x4, -, g⟩ := g
  obtain ⟨w7, X6, rX6, g⟩ := g
  have fX6 : fy fF_73 fL_73 fA_73 X X6 := fy_z (fy_rf (X := X)) (gf_69 rX6)
  exact fy_tr fX6 (gfl_73 _ n _ _ _ _ _ _ _ g)
theorem gfl_76 (p1 : Int64) : ∀ (n l : Nat) (is : List Int32) (ls : List Int64) (rs : List Nat) (X : fx_X) (v : Int32) (X' : fx_X), gxF_76 p1 n l is ls rs X v X' → fy [] [] [] X X' := by
  intro n
  induction n with
  | zero => intro l is ls rs X v X' g; exact g.elim
  | succ n ih =>
    intro l is ls rs X v X' g
    rcases g with ⟨-, y3, -, -, -, g⟩
    · unfold gxT_76_2 at g
      rcases fy_if g with g | g
      · skip
        rcases fy_if g with g | g
        · skip
          replace g := g.2
          rcases fy_if g with g | g
          · skip
            rw [g.2]; exact (fy_rf (X := X))
          · skip
            obtain ⟨x9, -, g⟩ := g
            exact fy_tr (fy_rf (X := X)) (ih _ _ _ _ _ _ _ g)
        · skip
          rw [g.2]; exact (fy_rf (X := X))
      · skip
        rw [g.2]; exact (fy_rf (X := X))
theorem gf_76 {p1 : Int64} {X : fx_X} {v : Int32} {X' : fx_X} (g : gx_76 p1 X v X') : fy [] [] [] X X' := by
  obtain ⟨n, g⟩ := g
  unfold gxE_76 at g
  exact fy_tr (fy_rf (X := X)) (gfl_76 _ n _ _ _ _ _ _ _ g)
abbrev fF_75 : List (Nat × Nat) := [(82, 5), (82, 6), (91, 7)]
abbrev fL_75 : List (Nat × Nat) := []
abbrev fA_75 : List Nat := [86, 94]
theorem gf_75 {p1 : Int32} {X : fx_X} {v : Unit} {X' : fx_X} (g : gx_75 p1 X v X') : fy fF_75 fL_75 fA_75 X X' := by
  unfold gx_75 at g
  obtain ⟨w3, X2, rX2, g⟩ := g
  have fX2 : fy fF_75 fL_75 fA_75 X X2 := fy_z (fy_rf (X := X)) (gf_60 rX2)
  obtain ⟨w6, X5, rX5, g⟩ := g
  have fX5 : fy fF_75 fL_75 fA_75 X X5 := fy_z fX2 (gf_74 rX5)
  rcases fy_if g with g | g
  · skip
    obtain ⟨w30, X29, rX29, g⟩ := g
    have fX29 : fy fF_75 fL_75 fA_75 X X29 := fy_tr fX5 (fy_sub (gf_64 rX29) (by decide) (by decide) (by decide))
    obtain ⟨w33, X32, rX32, g⟩ := g
    have fX32 : fy fF_75 fL_75 fA_75 X X32 := fy_tr fX29 (fy_sub (gf_41 rX32) (by decide) (by decide) (by decide))
    rw [g]; exact fX32
  · skip
    obtain ⟨w10, X9, rX9, g⟩ := g
    have fX9 : fy fF_75 fL_75 fA_75 X X9 := fy_z fX5 (gf_76 rX9)
    rcases fy_if g with g | g
    · skip
      rcases fy_if g with g | g
      · skip
        replace g := g.2
        obtain ⟨X19, eX19, g⟩ := g
        have fX19 : fy fF_75 fL_75 fA_75 X X19 := by rw [eX19]; exact fy_b fX9 (by decide)
        obtain ⟨X20, eX20, g⟩ := g
        have fX20 : fy fF_75 fL_75 fA_75 X X20 := by rw [eX20]; exact fy_f fX19 (by decide)
        obtain ⟨w23, X22, rX22, g⟩ := g
        have fX22 : fy fF_75 fL_75 fA_75 X X22 := fy_tr fX20 (fy_sub (gf_41 rX22) (by decide) (by decide) (by decide))
        rw [g]; exact fX22
      · skip
        obtain ⟨w16, X15, rX15, g⟩ := g
        have fX15 : fy fF_75 fL_75 fA_75 X X15 := fy_tr fX9 (fy_sub (gf_41 rX15) (by decide) (by decide) (by decide))
        rw [g]; exact fX15
    · skip
      obtain ⟨w25, X24, rX24, g⟩ := g
      have fX24 : fy fF_75 fL_75 fA_75 X X24 := fy_tr fX9 (fy_sub (gf_64 rX24) (by decide) (by decide) (by decide))
      obtain ⟨w28, X27, rX27, g⟩ := g
      have fX27 : fy fF_75 fL_75 fA_75 X X27 := fy_tr fX24 (fy_sub (gf_41 rX27) (by decide) (by decide) (by decide))
      rw [g]; exact fX27
abbrev fF_77 : List (Nat × Nat) := []
abbrev fL_77 : List (Nat × Nat) := []
abbrev fA_77 : List Nat := [92, 93]
theorem gfl_77 : ∀ (n l : Nat) (is : List Int32) (ls : List Int64) (rs : List Nat) (X : fx_X) (v : Unit) (X' : fx_X), gxF_77 n l is ls rs X v X' → fy fF_77 fL_77 fA_77 X X' := by
  intro n
  induction n with
  | zero => intro l is ls rs X v X' g; exact g.elim
  | succ n ih =>
    intro l is ls rs X v X' g
    rcases g with ⟨-, y1, -, -, -, g⟩
    · unfold gxT_77_13 at g
      rcases fy_if g with g | g
      · skip
        rcases fy_if g with g | g
        · skip
          replace g := g.2
          obtain ⟨w11, X10, rX10, g⟩ := g
          have fX10 : fy fF_77 fL_77 fA_77 X X10 := fy_tr (fy_rf (X := X)) (fy_sub (gf_67 rX10) (by decide) (by decide) (by decide))
          obtain ⟨x12, -, g⟩ := g
          exact fy_tr fX10 (ih _ _ _ _ _ _ _ g)
        · skip
          rw [g]; exact (fy_rf (X := X))
      · skip
        rw [g]; exact (fy_rf (X := X))
theorem gf_77 {X : fx_X} {v : Unit} {X' : fx_X} (g : gx_77 X v X') : fy fF_77 fL_77 fA_77 X X' := by
  obtain ⟨n, g⟩ := g
  unfold gxE_77 at g
  obtain ⟨w3, X2, rX2, g⟩ := g
  have fX2 : fy fF_77 fL_77 fA_77 X X2 := fy_tr (fy_rf (X := X)) (fy_sub (gf_65 rX2) (by decide) (by decide) (by decide))
  exact fy_tr fX2 (gfl_77 n _ _ _ _ _ _ _ g)
abbrev fF_79 : List (Nat × Nat) := []
abbrev fL_79 : List (Nat × Nat) := []
abbrev fA_79 : List Nat := [92]
theorem gf_79 {p1 : Int32} {p2 : Int32} {p3 : Int64} {X : fx_X} {v : Unit} {X' : fx_X} (g : gx_79 p1 p2 p3 X v X') : fy fF_79 fL_79 fA_79 X X' := by
  unfold gx_79 at g
  obtain ⟨x2, -, g⟩ := g
  rcases fy_if g with g | g
  · skip
    rw [g]; exact (fy_rf (X := X))
  · skip
    rcases fy_if g with g | g
    · skip
      rw [g]; exact (fy_rf (X := X))
    · skip
      rcases fy_if g with g | g
      · skip
        rcases fy_if g with g | g
        · skip
          replace g := g.2
          obtain ⟨X11, eX11, g⟩ := g
          have fX11 : fy fF_79 fL_79 fA_79 X X11 := by rw [eX11]; exact fy_b (fy_rf (X := X)) (by decide)
          rw [g]; exact fX11
        · skip
          rw [g]; exact (fy_rf (X := X))
      · skip
        rw [g]; exact (fy_rf (X := X))
abbrev fF_80 : List (Nat × Nat) := [(82, 5), (82, 6)]
abbrev fL_80 : List (Nat × Nat) := []
abbrev fA_80 : List Nat := [92, 93]
theorem gf_80 {p1 : Int32} {X : fx_X} {v : Unit} {X' : fx_X} (g : gx_80 p1 X v X') : fy fF_80 fL_80 fA_80 X X' := by
  unfold gx_80 at g
  obtain ⟨w3, X2, rX2, g⟩ := g
  have fX2 : fy fF_80 fL_80 fA_80 X X2 := fy_z (fy_rf (X := X)) (gf_60 rX2)
  obtain ⟨w5, X4, rX4, g⟩ := g
  have fX4 : fy fF_80 fL_80 fA_80 X X4 := fy_z fX2 (gf_76 rX4)
  rcases fy_if g with g | g
  · skip
    obtain ⟨w8, X7, rX7, g⟩ := g
    have fX7 : fy fF_80 fL_80 fA_80 X X7 := fy_tr fX4 (fy_sub (gf_77 rX7) (by decide) (by decide) (by decide))
    obtain ⟨w10, X9, rX9, g⟩ := g
    have fX9 : fy fF_80 fL_80 fA_80 X X9 := fy_z fX7 (gf_60 rX9)
    obtain ⟨w12, X11, rX11, g⟩ := g
    have fX11 : fy fF_80 fL_80 fA_80 X X11 := fy_tr fX9 (fy_sub (gf_67 rX11) (by decide) (by decide) (by decide))
    rw [g]; exact fX11
  · skip
    obtain ⟨w14, X13, rX13, g⟩ := g
    have fX13 : fy fF_80 fL_80 fA_80 X X13 := fy_tr fX4 (fy_sub (gf_64 rX13) (by decide) (by decide) (by decide))
    rw [g]; exact fX13
abbrev fF_58 : List (Nat × Nat) := [(82, 5), (82, 6), (91, 5), (91, 7)]
abbrev fL_58 : List (Nat × Nat) := [(91, 8)]
abbrev fA_58 : List Nat := [86, 92, 93, 94]
theorem gf_58 {p1 : Int32} {p2 : Int32} {X : fx_X} {v : Unit} {X' : fx_X} (g : gx_58 p1 p2 X v X') : fy fF_58 fL_58 fA_58 X X' := by
  unfold gx_58 at g
  rcases fy_if g with g | g
  · skip
    obtain ⟨w5, X4, rX4, g⟩ := g
    have fX4 : fy fF_58 fL_58 fA_58 X X4 := fy_tr (fy_rf (X := X)) (fy_sub (gf_59 rX4) (by decide) (by decide) (by decide))
    rw [g]; exact fX4
  · skip
    rcases fy_if g with g | g
    · skip
      obtain ⟨X7, eX7, g⟩ := g
      have fX7 : fy fF_58 fL_58 fA_58 X X7 := by rw [eX7]; exact fy_f (fy_rf (X := X)) (by decide)
      obtain ⟨w9, X8, rX8, g⟩ := g
      have fX8 : fy fF_58 fL_58 fA_58 X X8 := fy_z fX7 (gf_68 rX8)
      rcases fy_if g with g | g
      · skip
        obtain ⟨w12, X11, rX11, g⟩ := g
        have fX11 : fy fF_58 fL_58 fA_58 X X11 := fy_tr fX8 (fy_sub (gf_71 rX11) (by decide) (by decide) (by decide))
        rw [g]; exact fX11
      · skip
        rw [g]; exact fX8
    · skip
      rcases fy_if g with g | g
      · skip
        obtain ⟨X14, eX14, g⟩ := g
        have fX14 : fy fF_58 fL_58 fA_58 X X14 := by rw [eX14]; exact fy_f (fy_rf (X := X)) (by decide)
        obtain ⟨w16, X15, rX15, g⟩ := g
        have fX15 : fy fF_58 fL_58 fA_58 X X15 := fy_z fX14 (gf_68 rX15)
        rcases fy_if g with g | g
        · skip
          obtain ⟨w19, X18, rX18, g⟩ := g
          have fX18 : fy fF_58 fL_58 fA_58 X X18 := fy_tr fX15 (fy_sub (gf_71 rX18) (by decide) (by decide) (by decide))
          rw [g]; exact fX18
        · skip
          rw [g]; exact fX15
      · skip
        rcases fy_if g with g | g
        · skip
          obtain ⟨X21, eX21, g⟩ := g
          have fX21 : fy fF_58 fL_58 fA_58 X X21 := by rw [eX21]; exact fy_f (fy_rf (X := X)) (by decide)
          obtain ⟨w23, X22, rX22, g⟩ := g
          have fX22 : fy fF_58 fL_58 fA_58 X X22 := fy_tr fX21 (fy_sub (gf_73 rX22) (by decide) (by decide) (by decide))
          rw [g]; exact fX22
        · skip
          rcases fy_if g with g | g
          · skip
            obtain ⟨X25, eX25, g⟩ := g
            have fX25 : fy fF_58 fL_58 fA_58 X X25 := by rw [eX25]; exact fy_f (fy_rf (X := X)) (by decide)
            rw [g]; exact fX25
          · skip
            rcases fy_if g with g | g
            · skip
              obtain ⟨w28, X27, rX27, g⟩ := g
              have fX27 : fy fF_58 fL_58 fA_58 X X27 := fy_tr (fy_rf (X := X)) (fy_sub (gf_75 rX27) (by decide) (by decide) (by decide))
              rw [g]; exact fX27
            · skip
              rcases fy_if g with g | g
              · skip
                obtain ⟨w31, X30, rX30, g⟩ := g
                have fX30 : fy fF_58 fL_58 fA_58 X X30 := fy_tr (fy_rf (X := X)) (fy_sub (gf_77 rX30) (by decide) (by decide) (by decide))
                rw [g]; exact fX30
              · skip
                rcases fy_if g with g | g
                · skip
                  obtain ⟨w34, X33, rX33, g⟩ := g
                  have fX33 : fy fF_58 fL_58 fA_58 X X33 := fy_z (fy_rf (X := X)) (gf_60 rX33)
                  obtain ⟨X35, eX35, g⟩ := g
                  have fX35 : fy fF_58 fL_58 fA_58 X X35 := by rw [eX35]; exact fy_g fX33 (by decide)
                  obtain ⟨w37, X36, rX36, g⟩ := g
                  have fX36 : fy fF_58 fL_58 fA_58 X X36 := fy_z fX35 (gf_74 rX36)
                  rcases fy_if g with g | g
                  · skip
                    rw [g]; exact fX36
                  · skip
                    obtain ⟨w40, X39, rX39, g⟩ := g
                    have fX39 : fy fF_58 fL_58 fA_58 X X39 := fy_tr fX36 (fy_sub (gf_64 rX39) (by decide) (by decide) (by decide))
                    rw [g]; exact fX39
                · skip
                  rcases fy_if g with g | g
                  · skip
                    obtain ⟨w43, X42, rX42, g⟩ := g
                    have fX42 : fy fF_58 fL_58 fA_58 X X42 := fy_z (fy_rf (X := X)) (gf_60 rX42)
                    obtain ⟨w45, X44, rX44, g⟩ := g
                    have fX44 : fy fF_58 fL_58 fA_58 X X44 := fy_z fX42 (gf_74 rX44)
                    obtain ⟨w47, X46, rX46, g⟩ := g
                    have fX46 : fy fF_58 fL_58 fA_58 X X46 := fy_tr fX44 (fy_sub (gf_78 rX46) (by decide) (by decide) (by decide))
                    obtain ⟨w50, X49, rX49, g⟩ := g
                    have fX49 : fy fF_58 fL_58 fA_58 X X49 := fy_z fX46 (gf_40 rX49)
                    obtain ⟨w52, X51, rX51, g⟩ := g
                    have fX51 : fy fF_58 fL_58 fA_58 X X51 := fy_tr fX49 (fy_sub (gf_79 rX51) (by decide) (by decide) (by decide))
                    rw [g]; exact fX51
                  · skip
                    rcases fy_if g with g | g
                    · skip
                      rcases fy_if g with g | g
                      · skip
                        rw [g]; exact (fy_rf (X := X))
                      · skip
                        obtain ⟨w56, X55, rX55, g⟩ := g
                        have fX55 : fy fF_58 fL_58 fA_58 X X55 := fy_tr (fy_rf (X := X)) (fy_sub (gf_71 rX55) (by decide) (by decide) (by decide))
                        rw [g]; exact fX55
                    · skip
                      rcases fy_if g with g | g
                      · skip
                        obtain ⟨w62, X61, rX61, g⟩ := g
                        have fX61 : fy fF_58 fL_58 fA_58 X X61 := fy_z (fy_rf (X := X)) (gf_61 rX61)
                        obtain ⟨w64, X63, rX63, g⟩ := g
                        have fX63 : fy fF_58 fL_58 fA_58 X X63 := fy_z fX61 (gf_46 rX63)
                        obtain ⟨w66, X65, rX65, g⟩ := g
                        have fX65 : fy fF_58 fL_58 fA_58 X X65 := fy_tr fX63 (fy_sub (gf_41 rX65) (by decide) (by decide) (by decide))
                        rw [g]; exact fX65
                      · skip
                        rcases fy_if g with g | g
                        · skip
                          obtain ⟨w69, X68, rX68, g⟩ := g
                          have fX68 : fy fF_58 fL_58 fA_58 X X68 := fy_z (fy_rf (X := X)) (gf_60 rX68)
                          obtain ⟨w71, X70, rX70, g⟩ := g
                          have fX70 : fy fF_58 fL_58 fA_58 X X70 := fy_z fX68 (gf_74 rX70)
                          obtain ⟨w73, X72, rX72, g⟩ := g
                          have fX72 : fy fF_58 fL_58 fA_58 X X72 := fy_tr fX70 (fy_sub (gf_78 rX72) (by decide) (by decide) (by decide))
                          rw [g]; exact fX72
                        · skip
                          rcases fy_if g with g | g
                          · skip
                            obtain ⟨w76, X75, rX75, g⟩ := g
                            have fX75 : fy fF_58 fL_58 fA_58 X X75 := fy_tr (fy_rf (X := X)) (fy_sub (gf_80 rX75) (by decide) (by decide) (by decide))
                            rw [g]; exact fX75
                          · skip
                            rw [g]; exact (fy_rf (X := X))
abbrev fF_151 : List (Nat × Nat) := [(107, 0)]
abbrev fL_151 : List (Nat × Nat) := []
abbrev fA_151 : List Nat := []
theorem gf_151 {X : fx_X} {v : Unit} {X' : fx_X} (g : gx_151 X v X') : fy fF_151 fL_151 fA_151 X X' := by
  unfold gx_151 at g
  obtain ⟨X2, eX2, g⟩ := g
  have fX2 : fy fF_151 fL_151 fA_151 X X2 := by rw [eX2]; exact fy_f (fy_rf (X := X)) (by decide)
  rw [g]; exact fX2
abbrev fF_152 : List (Nat × Nat) := [(113, 0)]
abbrev fL_152 : List (Nat × Nat) := []
abbrev fA_152 : List Nat := []
theorem gf_152 {X : fx_X} {v : Unit} {X' : fx_X} (g : gx_152 X v X') : fy fF_152 fL_152 fA_152 X X' := by
  unfold gx_152 at g
  obtain ⟨X2, eX2, g⟩ := g
  have fX2 : fy fF_152 fL_152 fA_152 X X2 := by rw [eX2]; exact fy_f (fy_rf (X := X)) (by decide)
  rw [g]; exact fX2
abbrev fF_150 : List (Nat × Nat) := [(107, 0), (113, 0)]
abbrev fL_150 : List (Nat × Nat) := []
abbrev fA_150 : List Nat := []
theorem gf_150 {X : fx_X} {v : Unit} {X' : fx_X} (g : gx_150 X v X') : fy fF_150 fL_150 fA_150 X X' := by
  unfold gx_150 at g
  obtain ⟨w4, X3, rX3, g⟩ := g
  have fX3 : fy fF_150 fL_150 fA_150 X X3 := fy_tr (fy_rf (X := X)) (fy_sub (gf_151 rX3) (by decide) (by decide) (by decide))
  obtain ⟨w7, X6, rX6, g⟩ := g
  have fX6 : fy fF_150 fL_150 fA_150 X X6 := fy_tr fX3 (fy_sub (gf_152 rX6) (by decide) (by decide) (by decide))
  rw [g]; exact fX6
theorem gf_144_1 {X : fx_X} {v : Unit} {X' : fx_X} (g : gx_144_1 X v X') : fy [] [] [] X X' := by
  unfold gx_144_1 at g
  rw [g]; exact (fy_rf (X := X))
theorem gf_145_1 {X : fx_X} {v : Unit} {X' : fx_X} (g : gx_145_1 X v X') : fy [] [] [] X X' := by
  unfold gx_145_1 at g
  rw [g]; exact (fy_rf (X := X))
theorem gf_146_1 {X : fx_X} {v : Unit} {X' : fx_X} (g : gx_146_1 X v X') : fy [] [] [] X X' := by
  unfold gx_146_1 at g
  rw [g]; exact (fy_rf (X := X))
theorem gf_147 {p1 : Int32} {X : fx_X} {v : Int32} {X' : fx_X} (g : gx_147 p1 X v X') : fy [] [] [] X X' := by
  unfold gx_147 at g
  rcases fy_if g with g | g
  · skip
    rw [g.2]; exact (fy_rf (X := X))
  · skip
    rcases fy_if g with g | g
    · skip
      replace g := g.2
      rcases fy_if g with g | g
      · skip
        rw [g.2]; exact (fy_rf (X := X))
      · skip
        rw [g.2]; exact (fy_rf (X := X))
    · skip
      rw [g.2]; exact (fy_rf (X := X))
theorem gf_149_1 {p2 : Nat} {X : fx_X} {v : Unit} {X' : fx_X} (g : gx_149_1 p2 X v X') : fy [] [] [] X X' := by
  unfold gx_149_1 at g
  rw [g]; exact (fy_rf (X := X))
theorem gf_103 {p0 : Nat} {p1 : Int32} {p2 : Int32} {X : fx_X} {v : Int32} {X' : fx_X} (g : gx_103 p0 p1 p2 X v X') : fy [] [] [] X X' := by
  unfold gx_103 at g
  obtain ⟨x2, -, g⟩ := g
  rcases fy_if g with g | g
  · skip
    rw [g.2]; exact (fy_rf (X := X))
  · skip
    rcases fy_if g with g | g
    · skip
      rw [g.2]; exact (fy_rf (X := X))
    · skip
      rcases fy_if g with g | g
      · skip
        rcases fy_if g with g | g
        · skip
          replace g := g.2
          rcases fy_if g with g | g
          · skip
            rw [g.2]; exact (fy_rf (X := X))
          · skip
            rw [g.2]; exact (fy_rf (X := X))
        · skip
          rw [g.2]; exact (fy_rf (X := X))
      · skip
        rw [g.2]; exact (fy_rf (X := X))
theorem gf_104 {p0 : Nat} {p1 : Int32} {p2 : Int32} {X : fx_X} {v : Int32} {X' : fx_X} (g : gx_104 p0 p1 p2 X v X') : fy [] [] [] X X' := by
  unfold gx_104 at g
  obtain ⟨x2, -, g⟩ := g
  rcases fy_if g with g | g
  · skip
    rw [g.2]; exact (fy_rf (X := X))
  · skip
    rcases fy_if g with g | g
    · skip
      rcases fy_if g with g | g
      · skip
        rw [g.2]; exact (fy_rf (X := X))
      · skip
        rcases fy_if g with g | g
        · skip
          rcases fy_if g with g | g
          · skip
            replace g := g.2
            rw [g.2]; exact (fy_rf (X := X))
          · skip
            rw [g.2]; exact (fy_rf (X := X))
        · skip
          rw [g.2]; exact (fy_rf (X := X))
    · skip
      rw [g.2]; exact (fy_rf (X := X))
abbrev fF_141 : List (Nat × Nat) := [(95, 8), (95, 9), (95, 10), (95, 11)]
abbrev fL_141 : List (Nat × Nat) := []
abbrev fA_141 : List Nat := []
theorem gf_141 {p1 : Int32} {p2 : Int32} {X : fx_X} {v : Unit} {X' : fx_X} (g : gx_141 p1 p2 X v X') : fy fF_141 fL_141 fA_141 X X' := by
  unfold gx_141 at g
  obtain ⟨X2, eX2, g⟩ := g
  have fX2 : fy fF_141 fL_141 fA_141 X X2 := by rw [eX2]; exact fy_f (fy_rf (X := X)) (by decide)
  obtain ⟨X3, eX3, g⟩ := g
  have fX3 : fy fF_141 fL_141 fA_141 X X3 := by rw [eX3]; exact fy_f fX2 (by decide)
  obtain ⟨X4, eX4, g⟩ := g
  have fX4 : fy fF_141 fL_141 fA_141 X X4 := by rw [eX4]; exact fy_f fX3 (by decide)
  obtain ⟨X5, eX5, g⟩ := g
  have fX5 : fy fF_141 fL_141 fA_141 X X5 := by rw [eX5]; exact fy_f fX4 (by decide)
  rw [g]; exact fX5
theorem gf_114_1 {p0 : Nat} {p2 : Int32} {p3 : Int32} {p4 : Int32} {X : fx_X} {v : Int32} {X' : fx_X} (g : gx_114_1 p0 p2 p3 p4 X v X') : fy [] [] [] X X' := by
  unfold gx_114_1 at g
  obtain ⟨x2, -, g⟩ := g
  rcases fy_if g with g | g
  · skip
    rw [g.2]; exact (fy_rf (X := X))
  · skip
    rcases fy_if g with g | g
    · skip
      rcases fy_if g with g | g
      · skip
        rw [g.2]; exact (fy_rf (X := X))
      · skip
        rcases fy_if g with g | g
        · skip
          rcases fy_if g with g | g
          · skip
            rcases fy_if g with g | g
            · skip
              replace g := g.2
              obtain ⟨x14, -, g⟩ := g
              replace g := g.2
              rcases fy_if g with g | g
              · skip
                rw [g.2]; exact (fy_rf (X := X))
              · skip
                obtain ⟨x19, -, g⟩ := g
                rcases fy_if g with g | g
                · skip
                  rw [g.2]; exact (fy_rf (X := X))
                · skip
                  rcases fy_if g with g | g
                  · skip
                    rcases fy_if g with g | g
                    · skip
                      rw [g.2]; exact (fy_rf (X := X))
                    · skip
                      rcases fy_if g with g | g
                      · skip
                        exact g.elim
                      · skip
                        rw [g.2]; exact (fy_rf (X := X))
                  · skip
                    rw [g.2]; exact (fy_rf (X := X))
            · skip
              rw [g.2]; exact (fy_rf (X := X))
          · skip
            rw [g.2]; exact (fy_rf (X := X))
        · skip
          rw [g.2]; exact (fy_rf (X := X))
    · skip
      rw [g.2]; exact (fy_rf (X := X))
theorem gf_114_2 {p0 : Nat} {p1 : Nat} {p2 : Int32} {p3 : Int32} {p4 : Int32} {X : fx_X} {v : Int32} {X' : fx_X} (g : gx_114_2 p0 p1 p2 p3 p4 X v X') : fy [] [] [] X X' := by
  unfold gx_114_2 at g
  obtain ⟨x2, -, g⟩ := g
  rcases fy_if g with g | g
  · skip
    rw [g.2]; exact (fy_rf (X := X))
  · skip
    rcases fy_if g with g | g
    · skip
      rcases fy_if g with g | g
      · skip
        rw [g.2]; exact (fy_rf (X := X))
      · skip
        rcases fy_if g with g | g
        · skip
          rcases fy_if g with g | g
          · skip
            rcases fy_if g with g | g
            · skip
              replace g := g.2
              obtain ⟨x14, -, g⟩ := g
              replace g := g.2
              rcases fy_if g with g | g
              · skip
                rw [g.2]; exact (fy_rf (X := X))
              · skip
                obtain ⟨x19, -, g⟩ := g
                rcases fy_if g with g | g
                · skip
                  rw [g.2]; exact (fy_rf (X := X))
                · skip
                  rcases fy_if g with g | g
                  · skip
                    rcases fy_if g with g | g
                    · skip
                      rw [g.2]; exact (fy_rf (X := X))
                    · skip
                      rcases fy_if g with g | g
                      · skip
                        rcases fy_if g with g | g
                        · skip
                          replace g := g.2
                          rw [g.2]; exact (fy_rf (X := X))
                        · skip
                          rw [g.2]; exact (fy_rf (X := X))
                      · skip
                        rw [g.2]; exact (fy_rf (X := X))
                  · skip
                    rw [g.2]; exact (fy_rf (X := X))
            · skip
              rw [g.2]; exact (fy_rf (X := X))
          · skip
            rw [g.2]; exact (fy_rf (X := X))
        · skip
          rw [g.2]; exact (fy_rf (X := X))
    · skip
      rw [g.2]; exact (fy_rf (X := X))
theorem gf_124 {p0 : Nat} {p1 : Int32} {p2 : Int32} {X : fx_X} {v : Int32} {X' : fx_X} (g : gx_124 p0 p1 p2 X v X') : fy [] [] [] X X' := by
  unfold gx_124 at g
  obtain ⟨x2, -, g⟩ := g
  rcases fy_if g with g | g
  · skip
    rw [g.2]; exact (fy_rf (X := X))
  · skip
    rcases fy_if g with g | g
    · skip
      rcases fy_if g with g | g
      · skip
        rw [g.2]; exact (fy_rf (X := X))
      · skip
        rcases fy_if g with g | g
        · skip
          rcases fy_if g with g | g
          · skip
            replace g := g.2
            rw [g.2]; exact (fy_rf (X := X))
          · skip
            rw [g.2]; exact (fy_rf (X := X))
        · skip
          rw [g.2]; exact (fy_rf (X := X))
    · skip
      rw [g.2]; exact (fy_rf (X := X))
theorem gf_123 {p1 : Int32} {p2 : Int32} {p3 : Nat} {p4 : Int32} {p5 : Int32} {X : fx_X} {v : Int32} {X' : fx_X} (g : gx_123 p1 p2 p3 p4 p5 X v X') : fy [] [] [] X X' := by
  unfold gx_123 at g
  rcases fy_if g with g | g
  · skip
    rw [g.2]; exact (fy_rf (X := X))
  · skip
    rcases fy_if g with g | g
    · skip
      obtain ⟨b11, -, g⟩ := g
      obtain ⟨w13, X12, rX12, g⟩ := g
      have fX12 : fy [] [] [] X X12 := fy_z (fy_rf (X := X)) (gf_124 rX12)
      rw [g.2]; exact fX12
    · skip
      rcases g with g | g
      · skip
        replace g := g.2
        obtain ⟨w7, X6, rX6, g⟩ := g
        have fX6 : fy [] [] [] X X6 := fy_z (fy_rf (X := X)) (gf_114_1 rX6)
        rw [g.2]; exact fX6
      · skip
        obtain ⟨b5, -, g⟩ := g
        obtain ⟨w9, X8, rX8, g⟩ := g
        have fX8 : fy [] [] [] X X8 := fy_z (fy_rf (X := X)) (gf_114_2 rX8)
        rw [g.2]; exact fX8
theorem gf_122 {p1 : Nat} {p2 : Int32} {p3 : Int32} {X : fx_X} {v : Int32} {X' : fx_X} (g : gx_122 p1 p2 p3 X v X') : fy [] [] [] X X' := by
  unfold gx_122 at g
  obtain ⟨w3, X2, rX2, g⟩ := g
  have fX2 : fy [] [] [] X X2 := fy_z (fy_rf (X := X)) (gf_123 rX2)
  obtain ⟨w6, X5, rX5, g⟩ := g
  have fX5 : fy [] [] [] X X5 := fy_z fX2 (gf_123 rX5)
  rcases fy_if g with g | g
  · skip
    rcases fy_if g with g | g
    · skip
      rw [g.2]; exact fX5
    · skip
      rw [g.2]; exact fX5
  · skip
    rcases fy_if g with g | g
    · skip
      rcases fy_if g with g | g
      · skip
        rw [g.2]; exact fX5
      · skip
        rw [g.2]; exact fX5
    · skip
      rcases fy_if g with g | g
      · skip
        rcases fy_if g with g | g
        · skip
          rw [g.2]; exact fX5
        · skip
          rw [g.2]; exact fX5
      · skip
        rcases fy_if g with g | g
        · skip
          rw [g.2]; exact fX5
        · skip
          rw [g.2]; exact fX5
theorem gf_142 {p1 : Int32} {p2 : Int32} {p3 : Int32} {X : fx_X} {v : Int32} {X' : fx_X} (g : gx_142 p1 p2 p3 X v X') : fy [] [] [] X X' := by
  unfold gx_142 at g
  rcases fy_if g with g | g
  · skip
    rw [g.2]; exact (fy_rf (X := X))
  · skip
    rcases fy_if g with g | g
    · skip
      rw [g.2]; exact (fy_rf (X := X))
    · skip
      rcases fy_if g with g | g
      · skip
        rw [g.2]; exact (fy_rf (X := X))
      · skip
        obtain ⟨b7, -, g⟩ := g
        obtain ⟨w9, X8, rX8, g⟩ := g
        have fX8 : fy [] [] [] X X8 := fy_z (fy_rf (X := X)) (gf_122 rX8)
        rcases fy_if g with g | g
        · skip
          rw [g.2]; exact fX8
        · skip
          rw [g.2]; exact fX8
abbrev fF_140 : List (Nat × Nat) := [(95, 8), (95, 9), (95, 10), (95, 11), (95, 12)]
abbrev fL_140 : List (Nat × Nat) := []
abbrev fA_140 : List Nat := [106]
theorem gfl_140 (p1 : Int32) (p2 : Int32) : ∀ (n l : Nat) (is : List Int32) (ls : List Int64) (rs : List Nat) (X : fx_X) (v : Unit) (X' : fx_X), gxF_140 p1 p2 n l is ls rs X v X' → fy fF_140 fL_140 fA_140 X X' := by
  intro n
  induction n with
  | zero => intro l is ls rs X v X' g; exact g.elim
  | succ n ih =>
    intro l is ls rs X v X' g
    rcases g with ⟨-, y3, -, -, -, g⟩
    · unfold gxT_140_85 at g
      obtain ⟨b23, -, g⟩ := g
      rcases fy_if g with g | g
      · skip
        rcases fy_if g with g | g
        · skip
          replace g := g.2
          obtain ⟨w31, X30, rX30, g⟩ := g
          have fX30 : fy fF_140 fL_140 fA_140 X X30 := fy_z (fy_rf (X := X)) (gf_142 rX30)
          replace g := g.2
          obtain ⟨X33, eX33, g⟩ := g
          have fX33 : fy fF_140 fL_140 fA_140 X X33 := by rw [eX33]; exact fy_a fX30 (by decide)
          obtain ⟨x34, -, g⟩ := g
          exact fy_tr fX33 (ih _ _ _ _ _ _ _ g)
        · skip
          rw [g]; exact (fy_rf (X := X))
      · skip
        rw [g]; exact (fy_rf (X := X))
theorem gf_140 {p1 : Int32} {p2 : Int32} {X : fx_X} {v : Unit} {X' : fx_X} (g : gx_140 p1 p2 X v X') : fy fF_140 fL_140 fA_140 X X' := by
  obtain ⟨n, g⟩ := g
  unfold gxE_140 at g
  rcases fy_if g with g | g
  · skip
    obtain ⟨w5, X4, rX4, g⟩ := g
    have fX4 : fy fF_140 fL_140 fA_140 X X4 := fy_tr (fy_rf (X := X)) (fy_sub (gf_141 rX4) (by decide) (by decide) (by decide))
    rw [g]; exact fX4
  · skip
    rcases fy_if g with g | g
    · skip
      obtain ⟨w8, X7, rX7, g⟩ := g
      have fX7 : fy fF_140 fL_140 fA_140 X X7 := fy_tr (fy_rf (X := X)) (fy_sub (gf_141 rX7) (by decide) (by decide) (by decide))
      rw [g]; exact fX7
    · skip
      rcases fy_if g with g | g
      · skip
        obtain ⟨w11, X10, rX10, g⟩ := g
        have fX10 : fy fF_140 fL_140 fA_140 X X10 := fy_tr (fy_rf (X := X)) (fy_sub (gf_141 rX10) (by decide) (by decide) (by decide))
        rw [g]; exact fX10
      · skip
        rcases fy_if g with g | g
        · skip
          obtain ⟨X13, eX13, g⟩ := g
          have fX13 : fy fF_140 fL_140 fA_140 X X13 := by rw [eX13]; exact fy_f (fy_rf (X := X)) (by decide)
          rw [g]; exact fX13
        · skip
          rcases fy_if g with g | g
          · skip
            exact fy_tr (fy_rf (X := X)) (gfl_140 _ _ n _ _ _ _ _ _ _ g)
          · skip
            rcases fy_if g with g | g
            · skip
              exact fy_tr (fy_rf (X := X)) (gfl_140 _ _ n _ _ _ _ _ _ _ g)
            · skip
              rcases fy_if g with g | g
              · skip
                exact fy_tr (fy_rf (X := X)) (gfl_140 _ _ n _ _ _ _ _ _ _ g)
              · skip
                rcases fy_if g with g | g
                · skip
                  exact fy_tr (fy_rf (X := X)) (gfl_140 _ _ n _ _ _ _ _ _ _ g)
                · skip
                  rw [g]; exact (fy_rf (X := X))
theorem gf_99_1 {X : fx_X} {v : Unit} {X' : fx_X} (g : gx_99_1 X v X') : fy [] [] [] X X' := by
  unfold gx_99_1 at g
  rw [g]; exact (fy_rf (X := X))
abbrev fF_107 : List (Nat × Nat) := [(82, 5), (82, 6)]
abbrev fL_107 : List (Nat × Nat) := []
abbrev fA_107 : List Nat := []
theorem gf_107 {p1 : Int32} {X : fx_X} {v : Unit} {X' : fx_X} (g : gx_107 p1 X v X') : fy fF_107 fL_107 fA_107 X X' := by
  unfold gx_107 at g
  obtain ⟨w6, X5, rX5, g⟩ := g
  have fX5 : fy fF_107 fL_107 fA_107 X X5 := fy_z (fy_rf (X := X)) (gf_72 rX5)
  obtain ⟨w8, X7, rX7, g⟩ := g
  have fX7 : fy fF_107 fL_107 fA_107 X X7 := fy_z fX5 (gf_43 rX7)
  obtain ⟨w10, X9, rX9, g⟩ := g
  have fX9 : fy fF_107 fL_107 fA_107 X X9 := fy_tr fX7 (fy_sub (gf_44 rX9) (by decide) (by decide) (by decide))
  rw [g]; exact fX9
theorem gf_108 {p0 : Nat} {p1 : Int32} {p2 : Int32} {X : fx_X} {v : Int32} {X' : fx_X} (g : gx_108 p0 p1 p2 X v X') : fy [] [] [] X X' := by
  unfold gx_108 at g
  rcases fy_if g with g | g
  · skip
    rw [g.2]; exact (fy_rf (X := X))
  · skip
    rcases fy_if g with g | g
    · skip
      replace g := g.2
      rcases fy_if g with g | g
      · skip
        rw [g.2]; exact (fy_rf (X := X))
      · skip
        rw [g.2]; exact (fy_rf (X := X))
    · skip
      rw [g.2]; exact (fy_rf (X := X))
theorem gfl_112 (p0 : Nat) (p1 : Int32) (p2 : Nat) (p3 : Int32) (p4 : Int32) : ∀ (n l : Nat) (is : List Int32) (ls : List Int64) (rs : List Nat) (X : fx_X) (v : Int32) (X' : fx_X), gxF_112 p0 p1 p2 p3 p4 n l is ls rs X v X' → fy [] [] [] X X' := by
  intro n
  induction n with
  | zero => intro l is ls rs X v X' g; exact g.elim
  | succ n ih =>
    intro l is ls rs X v X' g
    rcases g with ⟨-, y5, -, -, -, g⟩
    · unfold gxT_112_3 at g
      rcases fy_if g with g | g
      · skip
        obtain ⟨x4, -, g⟩ := g
        rcases fy_if g with g | g
        · skip
          obtain ⟨w10, X9, rX9, g⟩ := g
          have fX9 : fy [] [] [] X X9 := fy_z (fy_rf (X := X)) (gf_103 rX9)
          rcases fy_if g with g | g
          · skip
            obtain ⟨w15, X14, rX14, g⟩ := g
            have fX14 : fy [] [] [] X X14 := fy_z fX9 (gf_103 rX14)
            rcases fy_if g with g | g
            · skip
              obtain ⟨w20, X19, rX19, g⟩ := g
              have fX19 : fy [] [] [] X X19 := fy_z fX14 (gf_104 rX19)
              obtain ⟨w22, X21, rX21, g⟩ := g
              have fX21 : fy [] [] [] X X21 := fy_z fX19 (gf_104 rX21)
              rcases fy_if g with g | g
              · skip
                obtain ⟨x24, -, g⟩ := g
                exact fy_tr fX21 (ih _ _ _ _ _ _ _ g)
              · skip
                rw [g.2]; exact fX21
            · skip
              obtain ⟨x17, -, g⟩ := g
              exact fy_tr fX14 (ih _ _ _ _ _ _ _ g)
          · skip
            obtain ⟨x12, -, g⟩ := g
            exact fy_tr fX9 (ih _ _ _ _ _ _ _ g)
        · skip
          obtain ⟨x7, -, g⟩ := g
          exact fy_tr (fy_rf (X := X)) (ih _ _ _ _ _ _ _ g)
      · skip
        rw [g.2]; exact (fy_rf (X := X))
theorem gf_112 {p0 : Nat} {p1 : Int32} {p2 : Nat} {p3 : Int32} {p4 : Int32} {X : fx_X} {v : Int32} {X' : fx_X} (g : gx_112 p0 p1 p2 p3 p4 X v X') : fy [] [] [] X X' := by
  obtain ⟨n, g⟩ := g
  unfold gxE_112 at g
  exact fy_tr (fy_rf (X := X)) (gfl_112 _ _ _ _ _ n _ _ _ _ _ _ _ g)
theorem gfl_113 (p0 : Nat) (p1 : Nat) (p2 : Int32) (p3 : Nat) (p4 : Int32) (p5 : Int32) (p6 : Int32) : ∀ (n l : Nat) (is : List Int32) (ls : List Int64) (rs : List Nat) (X : fx_X) (v : Int32) (X' : fx_X), gxF_113 p0 p1 p2 p3 p4 p5 p6 n l is ls rs X v X' → fy [] [] [] X X' := by
  intro n
  induction n with
  | zero => intro l is ls rs X v X' g; exact g.elim
  | succ n ih =>
    intro l is ls rs X v X' g
    rcases g with ⟨-, y7, -, -, -, g⟩
    · unfold gxT_113_26 at g
      rcases fy_if g with g | g
      · skip
        obtain ⟨x10, -, g⟩ := g
        rcases fy_if g with g | g
        · skip
          obtain ⟨w16, X15, rX15, g⟩ := g
          have fX15 : fy [] [] [] X X15 := fy_z (fy_rf (X := X)) (gf_114_2 rX15)
          obtain ⟨w18, X17, rX17, g⟩ := g
          have fX17 : fy [] [] [] X X17 := fy_z fX15 (gf_114_2 rX17)
          rcases fy_if g with g | g
          · skip
            obtain ⟨x20, -, g⟩ := g
            exact fy_tr fX17 (ih _ _ _ _ _ _ _ g)
          · skip
            rw [g.2]; exact fX17
        · skip
          obtain ⟨x13, -, g⟩ := g
          exact fy_tr (fy_rf (X := X)) (ih _ _ _ _ _ _ _ g)
      · skip
        rw [g.2]; exact (fy_rf (X := X))
theorem gf_113 {p0 : Nat} {p1 : Nat} {p2 : Int32} {p3 : Nat} {p4 : Int32} {p5 : Int32} {p6 : Int32} {X : fx_X} {v : Int32} {X' : fx_X} (g : gx_113 p0 p1 p2 p3 p4 p5 p6 X v X') : fy [] [] [] X X' := by
  obtain ⟨n, g⟩ := g
  unfold gxE_113 at g
  obtain ⟨w3, X2, rX2, g⟩ := g
  have fX2 : fy [] [] [] X X2 := fy_z (fy_rf (X := X)) (gf_108 rX2)
  rcases fy_if g with g | g
  · skip
    rw [g.2]; exact fX2
  · skip
    obtain ⟨w6, X5, rX5, g⟩ := g
    have fX5 : fy [] [] [] X X5 := fy_z fX2 (gf_108 rX5)
    rcases fy_if g with g | g
    · skip
      rw [g.2]; exact fX5
    · skip
      exact fy_tr fX5 (gfl_113 _ _ _ _ _ _ _ n _ _ _ _ _ _ _ g)
abbrev fF_117 : List (Nat × Nat) := []
abbrev fL_117 : List (Nat × Nat) := []
theorem gfl_117 (p0 : Nat) (p1 : Int32) : ∀ (n l : Nat) (is : List Int32) (ls : List Int64) (rs : List Nat) (X : fx_X) (v : Unit) (X' : fx_X), gxF_117 p0 p1 n l is ls rs X v X' → fy fF_117 fL_117 [p0] X X' := by
  intro n
  induction n with
  | zero => intro l is ls rs X v X' g; exact g.elim
  | succ n ih =>
    intro l is ls rs X v X' g
    rcases g with ⟨-, y2, y3, -, -, -, g⟩
    · unfold gxT_117_5 at g
      rcases fy_if g with g | g
      · skip
        replace g := g.2
        obtain ⟨X6, eX6, g⟩ := g
        have fX6 : fy fF_117 fL_117 [p0] X X6 := by rw [eX6]; exact fy_a (fy_rf (X := X)) (by simp)
        obtain ⟨x7, -, g⟩ := g
        exact fy_tr fX6 (ih _ _ _ _ _ _ _ g)
      · skip
        rw [g]; exact (fy_rf (X := X))
theorem gf_117 {p0 : Nat} {p1 : Int32} {X : fx_X} {v : Unit} {X' : fx_X} (g : gx_117 p0 p1 X v X') : fy fF_117 fL_117 [p0] X X' := by
  obtain ⟨n, g⟩ := g
  unfold gxE_117 at g
  exact fy_tr (fy_rf (X := X)) (gfl_117 _ _ n _ _ _ _ _ _ _ g)
theorem gfl_119 (p0 : Nat) (p1 : Int32) (p2 : Int32) : ∀ (n l : Nat) (is : List Int32) (ls : List Int64) (rs : List Nat) (X : fx_X) (v : Int32) (X' : fx_X), gxF_119 p0 p1 p2 n l is ls rs X v X' → fy [] [] [] X X' := by
  intro n
  induction n with
  | zero => intro l is ls rs X v X' g; exact g.elim
  | succ n ih =>
    intro l is ls rs X v X' g
    rcases g with ⟨-, y3, y4, -, -, -, g⟩
    · unfold gxT_119_5 at g
      rcases fy_if g with g | g
      · skip
        rcases fy_if g with g | g
        · skip
          obtain ⟨x6, -, g⟩ := g
          obtain ⟨x8, -, g⟩ := g
          exact fy_tr (fy_rf (X := X)) (ih _ _ _ _ _ _ _ g)
        · skip
          obtain ⟨x10, -, g⟩ := g
          obtain ⟨x12, -, g⟩ := g
          exact fy_tr (fy_rf (X := X)) (ih _ _ _ _ _ _ _ g)
      · skip
        rw [g.2]; exact (fy_rf (X := X))
theorem gf_119 {p0 : Nat} {p1 : Int32} {p2 : Int32} {X : fx_X} {v : Int32} {X' : fx_X} (g : gx_119 p0 p1 p2 X v X') : fy [] [] [] X X' := by
  obtain ⟨n, g⟩ := g
  unfold gxE_119 at g
  exact fy_tr (fy_rf (X := X)) (gfl_119 _ _ _ n _ _ _ _ _ _ _ g)
abbrev fF_125 : List (Nat × Nat) := [(96, 1)]
abbrev fL_125 : List (Nat × Nat) := []
abbrev fA_125 : List Nat := [97]
theorem gf_125 {p1 : Int32} {X : fx_X} {v : Unit} {X' : fx_X} (g : gx_125 p1 X v X') : fy fF_125 fL_125 fA_125 X X' := by
  unfold gx_125 at g
  rcases fy_if g with g | g
  · skip
    replace g := g.2
    obtain ⟨X6, eX6, g⟩ := g
    have fX6 : fy fF_125 fL_125 fA_125 X X6 := by rw [eX6]; exact fy_a (fy_rf (X := X)) (by decide)
    obtain ⟨X7, eX7, g⟩ := g
    have fX7 : fy fF_125 fL_125 fA_125 X X7 := by rw [eX7]; exact fy_f fX6 (by decide)
    rw [g]; exact fX7
  · skip
    rw [g]; exact (fy_rf (X := X))
theorem gfl_130 (p0 : Nat) (p1 : Nat) (p2 : Int32) (p3 : Int32) (p4 : Nat) (p5 : Int32) (p6 : Int32) : ∀ (n l : Nat) (is : List Int32) (ls : List Int64) (rs : List Nat) (X : fx_X) (v : Int32) (X' : fx_X), gxF_130 p0 p1 p2 p3 p4 p5 p6 n l is ls rs X v X' → fy [] [] [] X X' := by
  intro n
  induction n with
  | zero => intro l is ls rs X v X' g; exact g.elim
  | succ n ih =>
    intro l is ls rs X v X' g
    rcases g with ⟨-, y7, -, -, -, g⟩
    · unfold gxT_130_3 at g
      rcases fy_if g with g | g
      · skip
        obtain ⟨w5, X4, rX4, g⟩ := g
        have fX4 : fy [] [] [] X X4 := fy_z (fy_rf (X := X)) (gf_114_2 rX4)
        obtain ⟨w8, X7, rX7, g⟩ := g
        have fX7 : fy [] [] [] X X7 := fy_z fX4 (gf_114_2 rX7)
        rcases fy_if g with g | g
        · skip
          obtain ⟨x11, -, g⟩ := g
          exact fy_tr fX7 (ih _ _ _ _ _ _ _ g)
        · skip
          rcases fy_if g with g | g
          · skip
            rw [g.2]; exact fX7
          · skip
            rw [g.2]; exact fX7
      · skip
        rw [g.2]; exact (fy_rf (X := X))
theorem gf_130 {p0 : Nat} {p1 : Nat} {p2 : Int32} {p3 : Int32} {p4 : Nat} {p5 : Int32} {p6 : Int32} {X : fx_X} {v : Int32} {X' : fx_X} (g : gx_130 p0 p1 p2 p3 p4 p5 p6 X v X') : fy [] [] [] X X' := by
  obtain ⟨n, g⟩ := g
  unfold gxE_130 at g
  exact fy_tr (fy_rf (X := X)) (gfl_130 _ _ _ _ _ _ _ n _ _ _ _ _ _ _ g)
abbrev fF_129 : List (Nat × Nat) := []
abbrev fL_129 : List (Nat × Nat) := []
theorem gfl_129 (p0 : Nat) (p1 : Nat) (p2 : Int32) (p3 : Nat) : ∀ (n l : Nat) (is : List Int32) (ls : List Int64) (rs : List Nat) (X : fx_X) (v : Int32) (X' : fx_X), gxF_129 p0 p1 p2 p3 n l is ls rs X v X' → fy fF_129 fL_129 [p3] X X' := by
  intro n
  induction n with
  | zero => intro l is ls rs X v X' g; exact g.elim
  | succ n ih =>
    intro l is ls rs X v X' g
    rcases g with ⟨-, y4, y5, -, -, -, g⟩ | ⟨-, y4, y5, y6, y7, -, -, -, g⟩ | ⟨-, y4, y5, y6, y8, -, -, -, g⟩
    · unfold gxT_129_6 at g
      rcases fy_if g with g | g
      · skip
        obtain ⟨w6, X5, rX5, g⟩ := g
        have fX5 : fy fF_129 fL_129 [p3] X X5 := fy_z (fy_rf (X := X)) (gf_108 rX5)
        rcases fy_if g with g | g
        · skip
          obtain ⟨x8, -, g⟩ := g
          exact fy_tr fX5 (ih _ _ _ _ _ _ _ g)
        · skip
          rcases fy_if g with g | g
          · skip
            exact fy_tr fX5 (ih _ _ _ _ _ _ _ g)
          · skip
            obtain ⟨x13, -, g⟩ := g
            exact fy_tr fX5 (ih _ _ _ _ _ _ _ g)
      · skip
        rw [g.2]; exact (fy_rf (X := X))
    · unfold gxT_129_42 at g
      rcases fy_if g with g | g
      · skip
        replace g := g.2
        obtain ⟨w24, X23, rX23, g⟩ := g
        have fX23 : fy fF_129 fL_129 [p3] X X23 := fy_z (fy_rf (X := X)) (gf_130 rX23)
        rcases fy_if g with g | g
        · skip
          obtain ⟨x27, -, g⟩ := g
          exact fy_tr fX23 (ih _ _ _ _ _ _ _ g)
        · skip
          rcases fy_if g with g | g
          · skip
            rcases fy_if g with g | g
            · skip
              obtain ⟨x33, -, g⟩ := g
              exact fy_tr fX23 (ih _ _ _ _ _ _ _ g)
            · skip
              exact fy_tr fX23 (ih _ _ _ _ _ _ _ g)
          · skip
            exact fy_tr fX23 (ih _ _ _ _ _ _ _ g)
      · skip
        rcases fy_if g with g | g
        · skip
          rcases fy_if g with g | g
          · skip
            obtain ⟨x20, -, g⟩ := g
            exact fy_tr (fy_rf (X := X)) (ih _ _ _ _ _ _ _ g)
          · skip
            exact fy_tr (fy_rf (X := X)) (ih _ _ _ _ _ _ _ g)
        · skip
          exact fy_tr (fy_rf (X := X)) (ih _ _ _ _ _ _ _ g)
    · unfold gxT_129_96 at g
      rcases fy_if g with g | g
      · skip
        replace g := g.2
        replace g := g.2
        obtain ⟨X44, eX44, g⟩ := g
        have fX44 : fy fF_129 fL_129 [p3] X X44 := by rw [eX44]; exact fy_a (fy_rf (X := X)) (by simp)
        obtain ⟨x45, -, g⟩ := g
        exact fy_tr fX44 (ih _ _ _ _ _ _ _ g)
      · skip
        replace g := g.2
        obtain ⟨X37, eX37, g⟩ := g
        have fX37 : fy fF_129 fL_129 [p3] X X37 := by rw [eX37]; exact fy_a (fy_rf (X := X)) (by simp)
        obtain ⟨x38, -, g⟩ := g
        obtain ⟨x40, -, g⟩ := g
        exact fy_tr fX37 (ih _ _ _ _ _ _ _ g)
theorem gf_129 {p0 : Nat} {p1 : Nat} {p2 : Int32} {p3 : Nat} {X : fx_X} {v : Int32} {X' : fx_X} (g : gx_129 p0 p1 p2 p3 X v X') : fy fF_129 fL_129 [p3] X X' := by
  obtain ⟨n, g⟩ := g
  unfold gxE_129 at g
  exact fy_tr (fy_rf (X := X)) (gfl_129 _ _ _ _ n _ _ _ _ _ _ _ g)
theorem gfl_132 (p1 : Nat) (p2 : Nat) (p3 : Int32) (p4 : Int32) (p5 : Int32) : ∀ (n l : Nat) (is : List Int32) (ls : List Int64) (rs : List Nat) (X : fx_X) (v : Int32) (X' : fx_X), gxF_132 p1 p2 p3 p4 p5 n l is ls rs X v X' → fy [] [] [] X X' := by
  intro n
  induction n with
  | zero => intro l is ls rs X v X' g; exact g.elim
  | succ n ih =>
    intro l is ls rs X v X' g
    rcases g with ⟨-, y6, -, -, -, g⟩
    · unfold gxT_132_33 at g
      rcases fy_if g with g | g
      · skip
        rcases fy_if g with g | g
        · skip
          replace g := g.2
          replace g := g.2
          obtain ⟨w17, X16, rX16, g⟩ := g
          have fX16 : fy [] [] [] X X16 := fy_z (fy_rf (X := X)) (gf_114_2 rX16)
          replace g := g.2
          replace g := g.2
          obtain ⟨w23, X22, rX22, g⟩ := g
          have fX22 : fy [] [] [] X X22 := fy_z fX16 (gf_114_2 rX22)
          rcases fy_if g with g | g
          · skip
            obtain ⟨x25, -, g⟩ := g
            exact fy_tr fX22 (ih _ _ _ _ _ _ _ g)
          · skip
            rw [g.2]; exact fX22
        · skip
          rw [g.2]; exact (fy_rf (X := X))
      · skip
        rw [g.2]; exact (fy_rf (X := X))
theorem gf_132 {p1 : Nat} {p2 : Nat} {p3 : Int32} {p4 : Int32} {p5 : Int32} {X : fx_X} {v : Int32} {X' : fx_X} (g : gx_132 p1 p2 p3 p4 p5 X v X') : fy [] [] [] X X' := by
  obtain ⟨n, g⟩ := g
  unfold gxE_132 at g
  rcases fy_if g with g | g
  · skip
    rw [g.2]; exact (fy_rf (X := X))
  · skip
    rcases fy_if g with g | g
    · skip
      rcases fy_if g with g | g
      · skip
        rw [g.2]; exact (fy_rf (X := X))
      · skip
        rcases fy_if g with g | g
        · skip
          exact fy_tr (fy_rf (X := X)) (gfl_132 _ _ _ _ _ n _ _ _ _ _ _ _ g)
        · skip
          rw [g.2]; exact (fy_rf (X := X))
    · skip
      rw [g.2]; exact (fy_rf (X := X))
theorem gfl_131 (p1 : Nat) (p2 : Nat) (p3 : Int32) (p4 : Int32) : ∀ (n l : Nat) (is : List Int32) (ls : List Int64) (rs : List Nat) (X : fx_X) (v : Int32) (X' : fx_X), gxF_131 p1 p2 p3 p4 n l is ls rs X v X' → fy [] [] [] X X' := by
  intro n
  induction n with
  | zero => intro l is ls rs X v X' g; exact g.elim
  | succ n ih =>
    intro l is ls rs X v X' g
    rcases g with ⟨-, y5, -, -, -, g⟩
    · unfold gxT_131_3 at g
      rcases fy_if g with g | g
      · skip
        rcases fy_if g with g | g
        · skip
          obtain ⟨w7, X6, rX6, g⟩ := g
          have fX6 : fy [] [] [] X X6 := fy_z (fy_rf (X := X)) (gf_132 rX6)
          rcases fy_if g with g | g
          · skip
            obtain ⟨x9, -, g⟩ := g
            exact fy_tr fX6 (ih _ _ _ _ _ _ _ g)
          · skip
            rw [g.2]; exact fX6
        · skip
          rw [g.2]; exact (fy_rf (X := X))
      · skip
        rw [g.2]; exact (fy_rf (X := X))
theorem gf_131 {p1 : Nat} {p2 : Nat} {p3 : Int32} {p4 : Int32} {X : fx_X} {v : Int32} {X' : fx_X} (g : gx_131 p1 p2 p3 p4 X v X') : fy [] [] [] X X' := by
  obtain ⟨n, g⟩ := g
  unfold gxE_131 at g
  exact fy_tr (fy_rf (X := X)) (gfl_131 _ _ _ _ n _ _ _ _ _ _ _ g)
theorem gf_135 {p1 : Int32} {p2 : Int32} {X : fx_X} {v : Int32} {X' : fx_X} (g : gx_135 p1 p2 X v X') : fy [] [] [] X X' := by
  unfold gx_135 at g
  rcases fy_if g with g | g
  · skip
    rw [g.2]; exact (fy_rf (X := X))
  · skip
    rcases fy_if g with g | g
    · skip
      rw [g.2]; exact (fy_rf (X := X))
    · skip
      rcases fy_if g with g | g
      · skip
        rw [g.2]; exact (fy_rf (X := X))
      · skip
        rw [g.2]; exact (fy_rf (X := X))
theorem gf_134 {p1 : Int32} {X : fx_X} {v : Int32} {X' : fx_X} (g : gx_134 p1 X v X') : fy [] [] [] X X' := by
  unfold gx_134 at g
  rcases fy_if g with g | g
  · skip
    rw [g.2]; exact (fy_rf (X := X))
  · skip
    rw [g.2]; exact (fy_rf (X := X))
theorem gfl_133 (p1 : Nat) (p2 : Nat) (p3 : Int32) (p4 : Int32) (p5 : Int32) : ∀ (n l : Nat) (is : List Int32) (ls : List Int64) (rs : List Nat) (X : fx_X) (v : Int32) (X' : fx_X), gxF_133 p1 p2 p3 p4 p5 n l is ls rs X v X' → fy [] [] [] X X' := by
  intro n
  induction n with
  | zero => intro l is ls rs X v X' g; exact g.elim
  | succ n ih =>
    intro l is ls rs X v X' g
    rcases g with ⟨-, y6, y7, -, -, -, g⟩
    · unfold gxT_133_6 at g
      rcases fy_if g with g | g
      · skip
        rcases fy_if g with g | g
        · skip
          obtain ⟨w8, X7, rX7, g⟩ := g
          have fX7 : fy [] [] [] X X7 := fy_z (fy_rf (X := X)) (gf_132 rX7)
          rcases fy_if g with g | g
          · skip
            obtain ⟨x10, -, g⟩ := g
            exact fy_tr fX7 (ih _ _ _ _ _ _ _ g)
          · skip
            replace g := g.2
            obtain ⟨w15, X14, rX14, g⟩ := g
            have fX14 : fy [] [] [] X X14 := fy_z fX7 (gf_114_2 rX14)
            rcases fy_if g with g | g
            · skip
              obtain ⟨w24, X23, rX23, g⟩ := g
              have fX23 : fy [] [] [] X X23 := fy_z fX14 (gf_134 rX23)
              obtain ⟨x26, -, g⟩ := g
              exact fy_tr fX23 (ih _ _ _ _ _ _ _ g)
            · skip
              obtain ⟨w19, X18, rX18, g⟩ := g
              have fX18 : fy [] [] [] X X18 := fy_z fX14 (gf_135 rX18)
              obtain ⟨x21, -, g⟩ := g
              exact fy_tr fX18 (ih _ _ _ _ _ _ _ g)
        · skip
          rw [g.2]; exact (fy_rf (X := X))
      · skip
        rw [g.2]; exact (fy_rf (X := X))
theorem gf_133 {p1 : Nat} {p2 : Nat} {p3 : Int32} {p4 : Int32} {p5 : Int32} {X : fx_X} {v : Int32} {X' : fx_X} (g : gx_133 p1 p2 p3 p4 p5 X v X') : fy [] [] [] X X' := by
  obtain ⟨n, g⟩ := g
  unfold gxE_133 at g
  exact fy_tr (fy_rf (X := X)) (gfl_133 _ _ _ _ _ n _ _ _ _ _ _ _ g)
theorem gfl_137 (p1 : Nat) (p2 : Int32) : ∀ (n l : Nat) (is : List Int32) (ls : List Int64) (rs : List Nat) (X : fx_X) (v : Int32) (X' : fx_X), gxF_137 p1 p2 n l is ls rs X v X' → fy [] [] [] X X' := by
  intro n
  induction n with
  | zero => intro l is ls rs X v X' g; exact g.elim
  | succ n ih =>
    intro l is ls rs X v X' g
    rcases g with ⟨-, y3, -, -, -, g⟩
    · unfold gxT_137_2 at g
      rcases fy_if g with g | g
      · skip
        rcases fy_if g with g | g
        · skip
          obtain ⟨w7, X6, rX6, g⟩ := g
          have fX6 : fy [] [] [] X X6 := fy_z (fy_rf (X := X)) (gf_104 rX6)
          replace g := g.2
          rcases fy_if g with g | g
          · skip
            obtain ⟨x11, -, g⟩ := g
            exact fy_tr fX6 (ih _ _ _ _ _ _ _ g)
          · skip
            rw [g.2]; exact fX6
        · skip
          rw [g.2]; exact (fy_rf (X := X))
      · skip
        rw [g.2]; exact (fy_rf (X := X))
theorem gf_137 {p1 : Nat} {p2 : Int32} {X : fx_X} {v : Int32} {X' : fx_X} (g : gx_137 p1 p2 X v X') : fy [] [] [] X X' := by
  obtain ⟨n, g⟩ := g
  unfold gxE_137 at g
  exact fy_tr (fy_rf (X := X)) (gfl_137 _ _ n _ _ _ _ _ _ _ g)
theorem gf_153 {X : fx_X} {v : Int32} {X' : fx_X} (g : gx_153 X v X') : fy [] [] [] X X' := by
  unfold gx_153 at g
  rw [g.2]; exact (fy_rf (X := X))
theorem gf_158 {p0 : Nat} {p1 : Int32} {X : fx_X} {v : Int32} {X' : fx_X} (g : gx_158 p0 p1 X v X') : fy [] [] [] X X' := by
  unfold gx_158 at g
  rcases fy_if g with g | g
  · skip
    rw [g.2]; exact (fy_rf (X := X))
  · skip
    rcases fy_if g with g | g
    · skip
      rcases fy_if g with g | g
      · skip
        replace g := g.2
        rw [g.2]; exact (fy_rf (X := X))
      · skip
        rw [g.2]; exact (fy_rf (X := X))
    · skip
      rw [g.2]; exact (fy_rf (X := X))
theorem gfl_157 (p0 : Nat) : ∀ (n l : Nat) (is : List Int32) (ls : List Int64) (rs : List Nat) (X : fx_X) (v : Int32) (X' : fx_X), gxF_157 p0 n l is ls rs X v X' → fy [] [] [] X X' := by
  intro n
  induction n with
  | zero => intro l is ls rs X v X' g; exact g.elim
  | succ n ih =>
    intro l is ls rs X v X' g
    rcases g with ⟨-, y2, y3, -, -, -, g⟩
    · unfold gxT_157_4 at g
      rcases fy_if g with g | g
      · skip
        obtain ⟨w6, X5, rX5, g⟩ := g
        have fX5 : fy [] [] [] X X5 := fy_z (fy_rf (X := X)) (gf_158 rX5)
        obtain ⟨w8, X7, rX7, g⟩ := g
        have fX7 : fy [] [] [] X X7 := fy_z fX5 (gf_147 rX7)
        rcases fy_if g with g | g
        · skip
          obtain ⟨x10, -, g⟩ := g
          exact fy_tr fX7 (ih _ _ _ _ _ _ _ g)
        · skip
          obtain ⟨x12, -, g⟩ := g
          obtain ⟨x14, -, g⟩ := g
          exact fy_tr fX7 (ih _ _ _ _ _ _ _ g)
      · skip
        rw [g.2]; exact (fy_rf (X := X))
theorem gf_157 {p0 : Nat} {X : fx_X} {v : Int32} {X' : fx_X} (g : gx_157 p0 X v X') : fy [] [] [] X X' := by
  obtain ⟨n, g⟩ := g
  unfold gxE_157 at g
  exact fy_tr (fy_rf (X := X)) (gfl_157 _ n _ _ _ _ _ _ _ g)
theorem gf_166 {p0 : Nat} {p1 : Int32} {X : fx_X} {v : Int32} {X' : fx_X} (g : gx_166 p0 p1 X v X') : fy [] [] [] X X' := by
  unfold gx_166 at g
  rcases fy_if g with g | g
  · skip
    rw [g.2]; exact (fy_rf (X := X))
  · skip
    rcases fy_if g with g | g
    · skip
      replace g := g.2
      rcases fy_if g with g | g
      · skip
        rw [g.2]; exact (fy_rf (X := X))
      · skip
        rw [g.2]; exact (fy_rf (X := X))
    · skip
      rw [g.2]; exact (fy_rf (X := X))
theorem gf_167 {p0 : Nat} {p1 : Int32} {X : fx_X} {v : Int32} {X' : fx_X} (g : gx_167 p0 p1 X v X') : fy [] [] [] X X' := by
  unfold gx_167 at g
  rcases fy_if g with g | g
  · skip
    rw [g.2]; exact (fy_rf (X := X))
  · skip
    rcases fy_if g with g | g
    · skip
      replace g := g.2
      rw [g.2]; exact (fy_rf (X := X))
    · skip
      rw [g.2]; exact (fy_rf (X := X))
abbrev fF_168 : List (Nat × Nat) := [(113, 3)]
abbrev fL_168 : List (Nat × Nat) := []
abbrev fA_168 : List Nat := [114]
theorem gfl_168 (p1 : Int32) : ∀ (n l : Nat) (is : List Int32) (ls : List Int64) (rs : List Nat) (X : fx_X) (v : Unit) (X' : fx_X), gxF_168 p1 n l is ls rs X v X' → fy fF_168 fL_168 fA_168 X X' := by
  intro n
  induction n with
  | zero => intro l is ls rs X v X' g; exact g.elim
  | succ n ih =>
    intro l is ls rs X v X' g
    rcases g with ⟨-, y2, y3, -, -, -, g⟩ | ⟨-, y2, y3, -, -, -, g⟩
    · unfold gxT_168_4 at g
      rcases fy_if g with g | g
      · skip
        rcases fy_if g with g | g
        · skip
          replace g := g.2
          replace g := g.2
          rcases fy_if g with g | g
          · skip
            rw [g]; exact (fy_rf (X := X))
          · skip
            obtain ⟨x14, -, g⟩ := g
            exact fy_tr (fy_rf (X := X)) (ih _ _ _ _ _ _ _ g)
        · skip
          exact fy_tr (fy_rf (X := X)) (ih _ _ _ _ _ _ _ g)
      · skip
        exact fy_tr (fy_rf (X := X)) (ih _ _ _ _ _ _ _ g)
    · unfold gxT_168_47 at g
      rcases fy_if g with g | g
      · skip
        rcases fy_if g with g | g
        · skip
          replace g := g.2
          rcases fy_if g with g | g
          · skip
            obtain ⟨x34, -, g⟩ := g
            exact fy_tr (fy_rf (X := X)) (ih _ _ _ _ _ _ _ g)
          · skip
            replace g := g.2
            replace g := g.2
            obtain ⟨X40, eX40, g⟩ := g
            have fX40 : fy fF_168 fL_168 fA_168 X X40 := by rw [eX40]; exact fy_a (fy_rf (X := X)) (by decide)
            obtain ⟨x41, -, g⟩ := g
            obtain ⟨x43, -, g⟩ := g
            exact fy_tr fX40 (ih _ _ _ _ _ _ _ g)
        · skip
          rcases fy_if g with g | g
          · skip
            replace g := g.2
            obtain ⟨X29, eX29, g⟩ := g
            have fX29 : fy fF_168 fL_168 fA_168 X X29 := by rw [eX29]; exact fy_a (fy_rf (X := X)) (by decide)
            obtain ⟨X30, eX30, g⟩ := g
            have fX30 : fy fF_168 fL_168 fA_168 X X30 := by rw [eX30]; exact fy_f fX29 (by decide)
            rw [g]; exact fX30
          · skip
            rw [g]; exact (fy_rf (X := X))
      · skip
        rcases fy_if g with g | g
        · skip
          replace g := g.2
          obtain ⟨X21, eX21, g⟩ := g
          have fX21 : fy fF_168 fL_168 fA_168 X X21 := by rw [eX21]; exact fy_a (fy_rf (X := X)) (by decide)
          obtain ⟨X22, eX22, g⟩ := g
          have fX22 : fy fF_168 fL_168 fA_168 X X22 := by rw [eX22]; exact fy_f fX21 (by decide)
          rw [g]; exact fX22
        · skip
          rw [g]; exact (fy_rf (X := X))
theorem gf_168 {p1 : Int32} {X : fx_X} {v : Unit} {X' : fx_X} (g : gx_168 p1 X v X') : fy fF_168 fL_168 fA_168 X X' := by
  obtain ⟨n, g⟩ := g
  unfold gxE_168 at g
  exact fy_tr (fy_rf (X := X)) (gfl_168 _ n _ _ _ _ _ _ _ g)
theorem gf_170 {p0 : Int32} {X : fx_X} {v : Int32} {X' : fx_X} (g : gx_170 p0 X v X') : fy [] [] [] X X' := by
  unfold gx_170 at g
  obtain ⟨x2, -, g⟩ := g
  obtain ⟨x4, -, g⟩ := g
  obtain ⟨x6, -, g⟩ := g
  obtain ⟨x8, -, g⟩ := g
  obtain ⟨x10, -, g⟩ := g
  rw [g.2]; exact (fy_rf (X := X))
theorem gf_172 {p1 : Int32} {p2 : Int32} {X : fx_X} {v : Int32} {X' : fx_X} (g : gx_172 p1 p2 X v X') : fy [] [] [] X X' := by
  unfold gx_172 at g
  obtain ⟨b3, -, g⟩ := g
  obtain ⟨w5, X4, rX4, g⟩ := g
  have fX4 : fy [] [] [] X X4 := fy_z (fy_rf (X := X)) (gf_158 rX4)
  rcases fy_if g with g | g
  · skip
    rw [g.2]; exact fX4
  · skip
    rcases fy_if g with g | g
    · skip
      rw [g.2]; exact fX4
    · skip
      obtain ⟨b10, -, g⟩ := g
      rcases fy_if g with g | g
      · skip
        obtain ⟨b13, -, g⟩ := g
        obtain ⟨w15, X14, rX14, g⟩ := g
        have fX14 : fy [] [] [] X X14 := fy_z fX4 (gf_124 rX14)
        rw [g.2]; exact fX14
      · skip
        rw [g.2]; exact fX4
abbrev fF_178 : List (Nat × Nat) := []
abbrev fL_178 : List (Nat × Nat) := []
theorem gf_178 {p0 : Nat} {p1 : Int32} {p2 : Int32} {X : fx_X} {v : Unit} {X' : fx_X} (g : gx_178 p0 p1 p2 X v X') : fy fF_178 fL_178 [p0] X X' := by
  unfold gx_178 at g
  rcases fy_if g with g | g
  · skip
    rw [g]; exact (fy_rf (X := X))
  · skip
    rcases fy_if g with g | g
    · skip
      replace g := g.2
      obtain ⟨X5, eX5, g⟩ := g
      have fX5 : fy fF_178 fL_178 [p0] X X5 := by rw [eX5]; exact fy_a (fy_rf (X := X)) (by simp)
      rw [g]; exact fX5
    · skip
      rw [g]; exact (fy_rf (X := X))
theorem gf_181 {p1 : Int32} {X : fx_X} {v : Int32} {X' : fx_X} (g : gx_181 p1 X v X') : fy [] [] [] X X' := by
  unfold gx_181 at g
  rcases fy_if g with g | g
  · skip
    rw [g.2]; exact (fy_rf (X := X))
  · skip
    rcases fy_if g with g | g
    · skip
      obtain ⟨b5, -, g⟩ := g
      rcases fy_if g with g | g
      · skip
        obtain ⟨b8, -, g⟩ := g
        replace g := g.2
        rw [g.2]; exact (fy_rf (X := X))
      · skip
        rw [g.2]; exact (fy_rf (X := X))
    · skip
      rw [g.2]; exact (fy_rf (X := X))
theorem gf_182 {p0 : Int32} {X : fx_X} {v : Int32} {X' : fx_X} (g : gx_182 p0 X v X') : fy [] [] [] X X' := by
  unfold gx_182 at g
  rw [g.2]; exact (fy_rf (X := X))
theorem gf_183 {p0 : Int32} {X : fx_X} {v : Int32} {X' : fx_X} (g : gx_183 p0 X v X') : fy [] [] [] X X' := by
  unfold gx_183 at g
  rw [g.2]; exact (fy_rf (X := X))
theorem gf_184 {p0 : Int32} {X : fx_X} {v : Int32} {X' : fx_X} (g : gx_184 p0 X v X') : fy [] [] [] X X' := by
  unfold gx_184 at g
  rw [g.2]; exact (fy_rf (X := X))
abbrev fF_185 : List (Nat × Nat) := [(107, 4)]
abbrev fL_185 : List (Nat × Nat) := []
abbrev fA_185 : List Nat := [111]
theorem gfl_185 (p1 : Int32) : ∀ (n l : Nat) (is : List Int32) (ls : List Int64) (rs : List Nat) (X : fx_X) (v : Unit) (X' : fx_X), gxF_185 p1 n l is ls rs X v X' → fy fF_185 fL_185 fA_185 X X' := by
  intro n
  induction n with
  | zero => intro l is ls rs X v X' g; exact g.elim
  | succ n ih =>
    intro l is ls rs X v X' g
    rcases g with ⟨-, y2, -, -, -, g⟩
    · unfold gxT_185_7 at g
      rcases fy_if g with g | g
      · skip
        obtain ⟨w6, X5, rX5, g⟩ := g
        have fX5 : fy fF_185 fL_185 fA_185 X X5 := fy_z (fy_rf (X := X)) (gf_181 rX5)
        obtain ⟨w8, X7, rX7, g⟩ := g
        have fX7 : fy fF_185 fL_185 fA_185 X X7 := fy_z fX5 (gf_184 rX7)
        rcases fy_if g with g | g
        · skip
          rcases fy_if g with g | g
          · skip
            replace g := g.2
            obtain ⟨X18, eX18, g⟩ := g
            have fX18 : fy fF_185 fL_185 fA_185 X X18 := by rw [eX18]; exact fy_a fX7 (by decide)
            obtain ⟨X19, eX19, g⟩ := g
            have fX19 : fy fF_185 fL_185 fA_185 X X19 := by rw [eX19]; exact fy_f fX18 (by decide)
            obtain ⟨x20, -, g⟩ := g
            exact fy_tr fX19 (ih _ _ _ _ _ _ _ g)
          · skip
            obtain ⟨x14, -, g⟩ := g
            exact fy_tr fX7 (ih _ _ _ _ _ _ _ g)
        · skip
          obtain ⟨x10, -, g⟩ := g
          exact fy_tr fX7 (ih _ _ _ _ _ _ _ g)
      · skip
        rw [g]; exact (fy_rf (X := X))
theorem gf_185 {p1 : Int32} {X : fx_X} {v : Unit} {X' : fx_X} (g : gx_185 p1 X v X') : fy fF_185 fL_185 fA_185 X X' := by
  obtain ⟨n, g⟩ := g
  unfold gxE_185 at g
  obtain ⟨X2, eX2, g⟩ := g
  have fX2 : fy fF_185 fL_185 fA_185 X X2 := by rw [eX2]; exact fy_f (fy_rf (X := X)) (by decide)
  exact fy_tr fX2 (gfl_185 _ n _ _ _ _ _ _ _ g)
theorem gf_186 {p1 : Int32} {p2 : Int32} {p3 : Int32} {p4 : Int32} {X : fx_X} {v : Int32} {X' : fx_X} (g : gx_186 p1 p2 p3 p4 X v X') : fy [] [] [] X X' := by
  unfold gx_186 at g
  obtain ⟨b3, -, g⟩ := g
  obtain ⟨w5, X4, rX4, g⟩ := g
  have fX4 : fy [] [] [] X X4 := fy_z (fy_rf (X := X)) (gf_63 rX4)
  rcases g with g | g
  · skip
    replace g := g.2
    rw [g.2]; exact fX4
  · skip
    obtain ⟨w5b, -, g⟩ := g
    rcases fy_if g with g | g
    · skip
      rw [g.2]; exact fX4
    · skip
      rcases fy_if g with g | g
      · skip
        rcases fy_if g with g | g
        · skip
          rw [g.2]; exact fX4
        · skip
          rcases fy_if g with g | g
          · skip
            rcases fy_if g with g | g
            · skip
              obtain ⟨w15, X14, rX14, g⟩ := g
              have fX14 : fy [] [] [] X X14 := fy_z fX4 (gf_103 rX14)
              rcases fy_if g with g | g
              · skip
                rw [g.2]; exact fX14
              · skip
                rw [g.2]; exact fX14
            · skip
              rcases fy_if g with g | g
              · skip
                obtain ⟨w19, X18, rX18, g⟩ := g
                have fX18 : fy [] [] [] X X18 := fy_z fX4 (gf_104 rX18)
                rw [g.2]; exact fX18
              · skip
                rw [g.2]; exact fX4
          · skip
            rw [g.2]; exact fX4
      · skip
        rw [g.2]; exact fX4
theorem gfl_187 (p1 : Int32) (p2 : Int32) : ∀ (n l : Nat) (is : List Int32) (ls : List Int64) (rs : List Nat) (X : fx_X) (v : Int32) (X' : fx_X), gxF_187 p1 p2 n l is ls rs X v X' → fy [] [] [] X X' := by
  intro n
  induction n with
  | zero => intro l is ls rs X v X' g; exact g.elim
  | succ n ih =>
    intro l is ls rs X v X' g
    rcases g with ⟨-, y3, y4, y5, -, -, -, g⟩
    · unfold gxT_187_33 at g
      obtain ⟨b13, -, g⟩ := g
      rcases fy_if g with g | g
      · skip
        obtain ⟨b16, -, g⟩ := g
        obtain ⟨w18, X17, rX17, g⟩ := g
        have fX17 : fy [] [] [] X X17 := fy_z (fy_rf (X := X)) (gf_158 rX17)
        obtain ⟨w20, X19, rX19, g⟩ := g
        have fX19 : fy [] [] [] X X19 := fy_z fX17 (gf_108 rX19)
        rcases fy_if g with g | g
        · skip
          obtain ⟨x22, -, g⟩ := g
          exact fy_tr fX19 (ih _ _ _ _ _ _ _ g)
        · skip
          obtain ⟨x24, -, g⟩ := g
          obtain ⟨x26, -, g⟩ := g
          exact fy_tr fX19 (ih _ _ _ _ _ _ _ g)
      · skip
        rw [g.2]; exact (fy_rf (X := X))
theorem gf_187 {p1 : Int32} {p2 : Int32} {X : fx_X} {v : Int32} {X' : fx_X} (g : gx_187 p1 p2 X v X') : fy [] [] [] X X' := by
  obtain ⟨n, g⟩ := g
  unfold gxE_187 at g
  obtain ⟨b3, -, g⟩ := g
  obtain ⟨w5, X4, rX4, g⟩ := g
  have fX4 : fy [] [] [] X X4 := fy_z (fy_rf (X := X)) (gf_63 rX4)
  rcases g with g | g
  · skip
    replace g := g.2
    rw [g.2]; exact fX4
  · skip
    obtain ⟨w5b, -, g⟩ := g
    rcases fy_if g with g | g
    · skip
      rw [g.2]; exact fX4
    · skip
      rcases fy_if g with g | g
      · skip
        exact fy_tr fX4 (gfl_187 _ _ n _ _ _ _ _ _ _ g)
      · skip
        rw [g.2]; exact fX4
theorem gf_188 {p1 : Int32} {p2 : Int32} {p3 : Int32} {X : fx_X} {v : Int32} {X' : fx_X} (g : gx_188 p1 p2 p3 X v X') : fy [] [] [] X X' := by
  unfold gx_188 at g
  obtain ⟨b3, -, g⟩ := g
  obtain ⟨w5, X4, rX4, g⟩ := g
  have fX4 : fy [] [] [] X X4 := fy_z (fy_rf (X := X)) (gf_63 rX4)
  rcases g with g | g
  · skip
    replace g := g.2
    obtain ⟨b8, -, g⟩ := g
    obtain ⟨w10, X9, rX9, g⟩ := g
    have fX9 : fy [] [] [] X X9 := fy_z fX4 (gf_158 rX9)
    rw [g.2]; exact fX9
  · skip
    obtain ⟨w5b, -, g⟩ := g
    obtain ⟨b14, -, g⟩ := g
    obtain ⟨w16, X15, rX15, g⟩ := g
    have fX15 : fy [] [] [] X X15 := fy_z fX4 (gf_158 rX15)
    rcases fy_if g with g | g
    · skip
      rw [g.2]; exact fX15
    · skip
      rcases fy_if g with g | g
      · skip
        rw [g.2]; exact fX15
      · skip
        rcases fy_if g with g | g
        · skip
          obtain ⟨w22, X21, rX21, g⟩ := g
          have fX21 : fy [] [] [] X X21 := fy_z fX15 (gf_108 rX21)
          rcases fy_if g with g | g
          · skip
            rw [g.2]; exact fX21
          · skip
            rw [g.2]; exact fX21
        · skip
          rw [g.2]; exact fX15
abbrev fF_189 : List (Nat × Nat) := []
abbrev fL_189 : List (Nat × Nat) := []
abbrev fA_189 : List Nat := [115]
theorem gf_189 {p1 : Int32} {p2 : Int32} {X : fx_X} {v : Int32} {X' : fx_X} (g : gx_189 p1 p2 X v X') : fy fF_189 fL_189 fA_189 X X' := by
  unfold gx_189 at g
  obtain ⟨b3, -, g⟩ := g
  obtain ⟨w5, X4, rX4, g⟩ := g
  have fX4 : fy fF_189 fL_189 fA_189 X X4 := fy_z (fy_rf (X := X)) (gf_63 rX4)
  rcases g with g | g
  · skip
    replace g := g.2
    obtain ⟨b8, -, g⟩ := g
    obtain ⟨w10, X9, rX9, g⟩ := g
    have fX9 : fy fF_189 fL_189 fA_189 X X9 := fy_z fX4 (gf_158 rX9)
    rw [g.2]; exact fX9
  · skip
    obtain ⟨w5b, -, g⟩ := g
    obtain ⟨b14, -, g⟩ := g
    obtain ⟨w16, X15, rX15, g⟩ := g
    have fX15 : fy fF_189 fL_189 fA_189 X X15 := fy_z fX4 (gf_158 rX15)
    rcases fy_if g with g | g
    · skip
      rw [g.2]; exact fX15
    · skip
      obtain ⟨b20, -, g⟩ := g
      obtain ⟨w23, X22, rX22, g⟩ := g
      have fX22 : fy fF_189 fL_189 fA_189 X X22 := fy_tr fX15 (fy_sub (gf_129 rX22) (by decide) (by decide) (by decide))
      rw [g.2]; exact fX22
abbrev fF_190 : List (Nat × Nat) := []
abbrev fL_190 : List (Nat × Nat) := []
abbrev fA_190 : List Nat := [115]
theorem gf_190 {p1 : Int32} {p2 : Int32} {p3 : Int32} {p4 : Int32} {X : fx_X} {v : Int32} {X' : fx_X} (g : gx_190 p1 p2 p3 p4 X v X') : fy fF_190 fL_190 fA_190 X X' := by
  unfold gx_190 at g
  obtain ⟨b3, -, g⟩ := g
  obtain ⟨w5, X4, rX4, g⟩ := g
  have fX4 : fy fF_190 fL_190 fA_190 X X4 := fy_z (fy_rf (X := X)) (gf_63 rX4)
  rcases g with g | g
  · skip
    replace g := g.2
    obtain ⟨b8, -, g⟩ := g
    obtain ⟨w10, X9, rX9, g⟩ := g
    have fX9 : fy fF_190 fL_190 fA_190 X X9 := fy_z fX4 (gf_158 rX9)
    rw [g.2]; exact fX9
  · skip
    obtain ⟨w5b, -, g⟩ := g
    obtain ⟨b14, -, g⟩ := g
    obtain ⟨w16, X15, rX15, g⟩ := g
    have fX15 : fy fF_190 fL_190 fA_190 X X15 := fy_z fX4 (gf_158 rX15)
    rcases fy_if g with g | g
    · skip
      rw [g.2]; exact fX15
    · skip
      rcases fy_if g with g | g
      · skip
        rw [g.2]; exact fX15
      · skip
        rcases fy_if g with g | g
        · skip
          obtain ⟨b22, -, g⟩ := g
          obtain ⟨w25, X24, rX24, g⟩ := g
          have fX24 : fy fF_190 fL_190 fA_190 X X24 := fy_tr fX15 (fy_sub (gf_129 rX24) (by decide) (by decide) (by decide))
          rcases fy_if g with g | g
          · skip
            rw [g.2]; exact fX24
          · skip
            rcases fy_if g with g | g
            · skip
              rcases fy_if g with g | g
              · skip
                obtain ⟨b32, -, g⟩ := g
                replace g := g.2
                obtain ⟨w36, X35, rX35, g⟩ := g
                have fX35 : fy fF_190 fL_190 fA_190 X X35 := fy_z fX24 (gf_114_2 rX35)
                rw [g.2]; exact fX35
              · skip
                rw [g.2]; exact fX24
            · skip
              rw [g.2]; exact fX24
        · skip
          rw [g.2]; exact fX15
theorem gf_192 {p1 : Int32} {X : fx_X} {v : Int32} {X' : fx_X} (g : gx_192 p1 X v X') : fy [] [] [] X X' := by
  unfold gx_192 at g
  rcases fy_if g with g | g
  · skip
    rw [g.2]; exact (fy_rf (X := X))
  · skip
    rcases fy_if g with g | g
    · skip
      rcases fy_if g with g | g
      · skip
        replace g := g.2
        obtain ⟨w9, X8, rX8, g⟩ := g
        have fX8 : fy [] [] [] X X8 := fy_z (fy_rf (X := X)) (gf_181 rX8)
        rw [g.2]; exact fX8
      · skip
        rw [g.2]; exact (fy_rf (X := X))
    · skip
      rw [g.2]; exact (fy_rf (X := X))
theorem gf_193 {p1 : Nat} {p2 : Int32} {p3 : Int32} {X : fx_X} {v : Int32} {X' : fx_X} (g : gx_193 p1 p2 p3 X v X') : fy [] [] [] X X' := by
  unfold gx_193 at g
  rcases fy_if g with g | g
  · skip
    rw [g.2]; exact (fy_rf (X := X))
  · skip
    rcases fy_if g with g | g
    · skip
      rw [g.2]; exact (fy_rf (X := X))
    · skip
      rcases fy_if g with g | g
      · skip
        obtain ⟨b6, -, g⟩ := g
        obtain ⟨w8, X7, rX7, g⟩ := g
        have fX7 : fy [] [] [] X X7 := fy_z (fy_rf (X := X)) (gf_182 rX7)
        obtain ⟨w10, X9, rX9, g⟩ := g
        have fX9 : fy [] [] [] X X9 := fy_z fX7 (gf_183 rX9)
        obtain ⟨w12, X11, rX11, g⟩ := g
        have fX11 : fy [] [] [] X X11 := fy_z fX9 (gf_114_2 rX11)
        rw [g.2]; exact fX11
      · skip
        rw [g.2]; exact (fy_rf (X := X))
abbrev fF_197 : List (Nat × Nat) := []
abbrev fL_197 : List (Nat × Nat) := []
abbrev fA_197 : List Nat := [115, 116]
theorem gfl_197 (p1 : Nat) (p2 : Nat) (p3 : Int32) : ∀ (n l : Nat) (is : List Int32) (ls : List Int64) (rs : List Nat) (X : fx_X) (v : Int32) (X' : fx_X), gxF_197 p1 p2 p3 n l is ls rs X v X' → fy fF_197 fL_197 fA_197 X X' := by
  intro n
  induction n with
  | zero => intro l is ls rs X v X' g; exact g.elim
  | succ n ih =>
    intro l is ls rs X v X' g
    rcases g with ⟨-, y4, y5, -, -, -, g⟩
    · unfold gxT_197_38 at g
      rcases fy_if g with g | g
      · skip
        rcases fy_if g with g | g
        · skip
          rcases fy_if g with g | g
          · skip
            obtain ⟨b21, -, g⟩ := g
            replace g := g.2
            replace g := g.2
            obtain ⟨w27, X26, rX26, g⟩ := g
            have fX26 : fy fF_197 fL_197 fA_197 X X26 := fy_z (fy_rf (X := X)) (gf_130 rX26)
            rcases fy_if g with g | g
            · skip
              obtain ⟨x29, -, g⟩ := g
              exact fy_tr fX26 (ih _ _ _ _ _ _ _ g)
            · skip
              rw [g.2]; exact fX26
          · skip
            rw [g.2]; exact (fy_rf (X := X))
        · skip
          rw [g.2]; exact (fy_rf (X := X))
      · skip
        rw [g.2]; exact (fy_rf (X := X))
theorem gf_197 {p1 : Nat} {p2 : Nat} {p3 : Int32} {X : fx_X} {v : Int32} {X' : fx_X} (g : gx_197 p1 p2 p3 X v X') : fy fF_197 fL_197 fA_197 X X' := by
  obtain ⟨n, g⟩ := g
  unfold gxE_197 at g
  obtain ⟨b3, -, g⟩ := g
  obtain ⟨w6, X5, rX5, g⟩ := g
  have fX5 : fy fF_197 fL_197 fA_197 X X5 := fy_tr (fy_rf (X := X)) (fy_sub (gf_129 rX5) (by decide) (by decide) (by decide))
  obtain ⟨b9, -, g⟩ := g
  obtain ⟨w12, X11, rX11, g⟩ := g
  have fX11 : fy fF_197 fL_197 fA_197 X X11 := fy_tr fX5 (fy_sub (gf_129 rX11) (by decide) (by decide) (by decide))
  rcases fy_if g with g | g
  · skip
    exact fy_tr fX11 (gfl_197 _ _ _ n _ _ _ _ _ _ _ g)
  · skip
    rw [g.2]; exact fX11
abbrev fF_196 : List (Nat × Nat) := []
abbrev fL_196 : List (Nat × Nat) := []
abbrev fA_196 : List Nat := [115, 116]
theorem gfl_196 (p1 : Int32) (p2 : Int32) : ∀ (n l : Nat) (is : List Int32) (ls : List Int64) (rs : List Nat) (X : fx_X) (v : Int32) (X' : fx_X), gxF_196 p1 p2 n l is ls rs X v X' → fy fF_196 fL_196 fA_196 X X' := by
  intro n
  induction n with
  | zero => intro l is ls rs X v X' g; exact g.elim
  | succ n ih =>
    intro l is ls rs X v X' g
    rcases g with ⟨-, y3, y4, y5, -, -, -, g⟩
    · unfold gxT_196_46 at g
      obtain ⟨b23, -, g⟩ := g
      rcases fy_if g with g | g
      · skip
        obtain ⟨b26, -, g⟩ := g
        obtain ⟨w28, X27, rX27, g⟩ := g
        have fX27 : fy fF_196 fL_196 fA_196 X X27 := fy_z (fy_rf (X := X)) (gf_158 rX27)
        obtain ⟨w30, X29, rX29, g⟩ := g
        have fX29 : fy fF_196 fL_196 fA_196 X X29 := fy_tr fX27 (fy_sub (gf_197 rX29) (by decide) (by decide) (by decide))
        rcases fy_if g with g | g
        · skip
          rw [g.2]; exact fX29
        · skip
          obtain ⟨x32, -, g⟩ := g
          exact fy_tr fX29 (ih _ _ _ _ _ _ _ g)
      · skip
        rw [g.2]; exact (fy_rf (X := X))
theorem gf_196 {p1 : Int32} {p2 : Int32} {X : fx_X} {v : Int32} {X' : fx_X} (g : gx_196 p1 p2 X v X') : fy fF_196 fL_196 fA_196 X X' := by
  obtain ⟨n, g⟩ := g
  unfold gxE_196 at g
  obtain ⟨b3, -, g⟩ := g
  obtain ⟨w5, X4, rX4, g⟩ := g
  have fX4 : fy fF_196 fL_196 fA_196 X X4 := fy_z (fy_rf (X := X)) (gf_63 rX4)
  rcases g with g | g
  · skip
    replace g := g.2
    obtain ⟨b8, -, g⟩ := g
    obtain ⟨w10, X9, rX9, g⟩ := g
    have fX9 : fy fF_196 fL_196 fA_196 X X9 := fy_z fX4 (gf_63 rX9)
    rcases g with g | g
    · skip
      replace g := g.2
      rw [g.2]; exact fX9
    · skip
      obtain ⟨w10b, -, g⟩ := g
      rw [g.2]; exact fX9
  · skip
    obtain ⟨w5b, -, g⟩ := g
    obtain ⟨b15, -, g⟩ := g
    obtain ⟨w17, X16, rX16, g⟩ := g
    have fX16 : fy fF_196 fL_196 fA_196 X X16 := fy_z fX4 (gf_63 rX16)
    rcases g with g | g
    · skip
      replace g := g.2
      rw [g.2]; exact fX16
    · skip
      obtain ⟨w17b, -, g⟩ := g
      rcases fy_if g with g | g
      · skip
        exact fy_tr fX16 (gfl_196 _ _ n _ _ _ _ _ _ _ g)
      · skip
        rw [g.2]; exact fX16
theorem gf_198 {p1 : Int32} {X : fx_X} {v : Int32} {X' : fx_X} (g : gx_198 p1 X v X') : fy [] [] [] X X' := by
  unfold gx_198 at g
  rcases fy_if g with g | g
  · skip
    obtain ⟨b5, -, g⟩ := g
    rw [g.2]; exact (fy_rf (X := X))
  · skip
    rcases fy_if g with g | g
    · skip
      obtain ⟨b8, -, g⟩ := g
      rw [g.2]; exact (fy_rf (X := X))
    · skip
      rcases fy_if g with g | g
      · skip
        obtain ⟨b11, -, g⟩ := g
        rw [g.2]; exact (fy_rf (X := X))
      · skip
        rcases fy_if g with g | g
        · skip
          obtain ⟨b14, -, g⟩ := g
          rw [g.2]; exact (fy_rf (X := X))
        · skip
          rcases fy_if g with g | g
          · skip
            obtain ⟨b17, -, g⟩ := g
            rw [g.2]; exact (fy_rf (X := X))
          · skip
            rcases fy_if g with g | g
            · skip
              obtain ⟨b20, -, g⟩ := g
              rw [g.2]; exact (fy_rf (X := X))
            · skip
              rcases fy_if g with g | g
              · skip
                rw [g.2]; exact (fy_rf (X := X))
              · skip
                rw [g.2]; exact (fy_rf (X := X))
abbrev fF_201 : List (Nat × Nat) := [(117, 23)]
abbrev fL_201 : List (Nat × Nat) := []
abbrev fA_201 : List Nat := [138]
theorem gfl_201 (p1 : Int32) : ∀ (n l : Nat) (is : List Int32) (ls : List Int64) (rs : List Nat) (X : fx_X) (v : Unit) (X' : fx_X), gxF_201 p1 n l is ls rs X v X' → fy fF_201 fL_201 fA_201 X X' := by
  intro n
  induction n with
  | zero => intro l is ls rs X v X' g; exact g.elim
  | succ n ih =>
    intro l is ls rs X v X' g
    rcases g with ⟨-, y2, -, -, -, g⟩
    · unfold gxT_201_2 at g
      rcases fy_if g with g | g
      · skip
        rw [g]; exact (fy_rf (X := X))
      · skip
        replace g := g.2
        obtain ⟨X6, eX6, g⟩ := g
        have fX6 : fy fF_201 fL_201 fA_201 X X6 := by rw [eX6]; exact fy_a (fy_rf (X := X)) (by decide)
        obtain ⟨X7, eX7, g⟩ := g
        have fX7 : fy fF_201 fL_201 fA_201 X X7 := by rw [eX7]; exact fy_f fX6 (by decide)
        obtain ⟨x8, -, g⟩ := g
        exact fy_tr fX7 (ih _ _ _ _ _ _ _ g)
theorem gf_201 {p1 : Int32} {X : fx_X} {v : Unit} {X' : fx_X} (g : gx_201 p1 X v X') : fy fF_201 fL_201 fA_201 X X' := by
  obtain ⟨n, g⟩ := g
  unfold gxE_201 at g
  exact fy_tr (fy_rf (X := X)) (gfl_201 _ n _ _ _ _ _ _ _ g)
abbrev fF_200 : List (Nat × Nat) := [(117, 23)]
abbrev fL_200 : List (Nat × Nat) := []
abbrev fA_200 : List Nat := [138]
theorem gf_200 {p1 : Int32} {p2 : Int32} {p3 : Int32} {p4 : Int32} {p5 : Int32} {X : fx_X} {v : Int32} {X' : fx_X} (g : gx_200 p1 p2 p3 p4 p5 X v X') : fy fF_200 fL_200 fA_200 X X' := by
  unfold gx_200 at g
  rcases fy_if g with g | g
  · skip
    rw [g.2]; exact (fy_rf (X := X))
  · skip
    obtain ⟨w4, X3, rX3, g⟩ := g
    have fX3 : fy fF_200 fL_200 fA_200 X X3 := fy_tr (fy_rf (X := X)) (fy_sub (gf_201 rX3) (by decide) (by decide) (by decide))
    obtain ⟨w6, X5, rX5, g⟩ := g
    have fX5 : fy fF_200 fL_200 fA_200 X X5 := fy_tr fX3 (fy_sub (gf_201 rX5) (by decide) (by decide) (by decide))
    obtain ⟨w8, X7, rX7, g⟩ := g
    have fX7 : fy fF_200 fL_200 fA_200 X X7 := fy_tr fX5 (fy_sub (gf_201 rX7) (by decide) (by decide) (by decide))
    obtain ⟨w10, X9, rX9, g⟩ := g
    have fX9 : fy fF_200 fL_200 fA_200 X X9 := fy_tr fX7 (fy_sub (gf_201 rX9) (by decide) (by decide) (by decide))
    obtain ⟨w12, X11, rX11, g⟩ := g
    have fX11 : fy fF_200 fL_200 fA_200 X X11 := fy_tr fX9 (fy_sub (gf_201 rX11) (by decide) (by decide) (by decide))
    rw [g.2]; exact fX11
abbrev fF_202 : List (Nat × Nat) := [(117, 23)]
abbrev fL_202 : List (Nat × Nat) := []
abbrev fA_202 : List Nat := []
theorem gf_202 {p1 : Int32} {X : fx_X} {v : Int32} {X' : fx_X} (g : gx_202 p1 X v X') : fy fF_202 fL_202 fA_202 X X' := by
  unfold gx_202 at g
  rcases fy_if g with g | g
  · skip
    rw [g.2]; exact (fy_rf (X := X))
  · skip
    rcases fy_if g with g | g
    · skip
      rw [g.2]; exact (fy_rf (X := X))
    · skip
      obtain ⟨X4, eX4, g⟩ := g
      have fX4 : fy fF_202 fL_202 fA_202 X X4 := by rw [eX4]; exact fy_f (fy_rf (X := X)) (by decide)
      rw [g.2]; exact fX4
theorem gf_207 {p1 : Int32} {X : fx_X} {v : Int32} {X' : fx_X} (g : gx_207 p1 X v X') : fy [] [] [] X X' := by
  unfold gx_207 at g
  rcases fy_if g with g | g
  · skip
    replace g := g.2
    rw [g.2]; exact (fy_rf (X := X))
  · skip
    rw [g.2]; exact (fy_rf (X := X))
theorem gf_208 {p1 : Int32} {X : fx_X} {v : Int32} {X' : fx_X} (g : gx_208 p1 X v X') : fy [] [] [] X X' := by
  unfold gx_208 at g
  obtain ⟨w3, X2, rX2, g⟩ := g
  have fX2 : fy [] [] [] X X2 := fy_z (fy_rf (X := X)) (gf_207 rX2)
  rcases fy_if g with g | g
  · skip
    rw [g.2]; exact fX2
  · skip
    obtain ⟨w6, X5, rX5, g⟩ := g
    have fX5 : fy [] [] [] X X5 := fy_z fX2 (gf_207 rX5)
    rcases fy_if g with g | g
    · skip
      rw [g.2]; exact fX5
    · skip
      rw [g.2]; exact fX5
theorem gf_209 {p1 : Int32} {X : fx_X} {v : Int32} {X' : fx_X} (g : gx_209 p1 X v X') : fy [] [] [] X X' := by
  unfold gx_209 at g
  obtain ⟨w3, X2, rX2, g⟩ := g
  have fX2 : fy [] [] [] X X2 := fy_z (fy_rf (X := X)) (gf_207 rX2)
  rcases fy_if g with g | g
  · skip
    rw [g.2]; exact fX2
  · skip
    obtain ⟨w6, X5, rX5, g⟩ := g
    have fX5 : fy [] [] [] X X5 := fy_z fX2 (gf_207 rX5)
    rcases fy_if g with g | g
    · skip
      rw [g.2]; exact fX5
    · skip
      rw [g.2]; exact fX5
theorem gfl_210 (p1 : Int32) (p2 : Int32) : ∀ (n l : Nat) (is : List Int32) (ls : List Int64) (rs : List Nat) (X : fx_X) (v : Int64) (X' : fx_X), gxF_210 p1 p2 n l is ls rs X v X' → fy [] [] [] X X' := by
  intro n
  induction n with
  | zero => intro l is ls rs X v X' g; exact g.elim
  | succ n ih =>
    intro l is ls rs X v X' g
    rcases g with ⟨-, y3, y5, -, -, -, g⟩
    · unfold gxT_210_5 at g
      rcases fy_if g with g | g
      · skip
        replace g := g.2
        obtain ⟨x7, -, g⟩ := g
        obtain ⟨x9, -, g⟩ := g
        exact fy_tr (fy_rf (X := X)) (ih _ _ _ _ _ _ _ g)
      · skip
        rw [g.2]; exact (fy_rf (X := X))
theorem gf_210 {p1 : Int32} {p2 : Int32} {X : fx_X} {v : Int64} {X' : fx_X} (g : gx_210 p1 p2 X v X') : fy [] [] [] X X' := by
  obtain ⟨n, g⟩ := g
  unfold gxE_210 at g
  exact fy_tr (fy_rf (X := X)) (gfl_210 _ _ n _ _ _ _ _ _ _ g)
theorem gf_211 {p0 : Int64} {X : fx_X} {v : Int32} {X' : fx_X} (g : gx_211 p0 X v X') : fy [] [] [] X X' := by
  unfold gx_211 at g
  rcases fy_if g with g | g
  · skip
    rw [g.2]; exact (fy_rf (X := X))
  · skip
    rcases fy_if g with g | g
    · skip
      rw [g.2]; exact (fy_rf (X := X))
    · skip
      rcases fy_if g with g | g
      · skip
        rw [g.2]; exact (fy_rf (X := X))
      · skip
        rcases fy_if g with g | g
        · skip
          rw [g.2]; exact (fy_rf (X := X))
        · skip
          rcases fy_if g with g | g
          · skip
            rw [g.2]; exact (fy_rf (X := X))
          · skip
            rcases fy_if g with g | g
            · skip
              rw [g.2]; exact (fy_rf (X := X))
            · skip
              rcases fy_if g with g | g
              · skip
                rw [g.2]; exact (fy_rf (X := X))
              · skip
                rcases fy_if g with g | g
                · skip
                  rw [g.2]; exact (fy_rf (X := X))
                · skip
                  rcases fy_if g with g | g
                  · skip
                    rw [g.2]; exact (fy_rf (X := X))
                  · skip
                    rcases fy_if g with g | g
                    · skip
                      rw [g.2]; exact (fy_rf (X := X))
                    · skip
                      rw [g.2]; exact (fy_rf (X := X))
abbrev fF_206 : List (Nat × Nat) := [(117, 26), (117, 27), (117, 28), (117, 29)]
abbrev fL_206 : List (Nat × Nat) := []
abbrev fA_206 : List Nat := []
theorem gfl_206 : ∀ (n l : Nat) (is : List Int32) (ls : List Int64) (rs : List Nat) (X : fx_X) (v : Unit) (X' : fx_X), gxF_206 n l is ls rs X v X' → fy fF_206 fL_206 fA_206 X X' := by
  intro n
  induction n with
  | zero => intro l is ls rs X v X' g; exact g.elim
  | succ n ih =>
    intro l is ls rs X v X' g
    rcases g with ⟨-, y1, -, -, -, g⟩ | ⟨-, y1, y2, -, -, -, g⟩ | ⟨-, y1, y2, -, -, -, g⟩ | ⟨-, y2, y3, y4, -, -, -, g⟩ | ⟨-, y2, y3, -, -, -, g⟩ | ⟨-, y2, -, -, -, g⟩
    · unfold gxT_206_5 at g
      rcases fy_if g with g | g
      · skip
        replace g := g.2
        rcases fy_if g with g | g
        · skip
          obtain ⟨x33, -, g⟩ := g
          exact fy_tr (fy_rf (X := X)) (ih _ _ _ _ _ _ _ g)
        · skip
          replace g := g.2
          rcases fy_if g with g | g
          · skip
            obtain ⟨x38, -, g⟩ := g
            exact fy_tr (fy_rf (X := X)) (ih _ _ _ _ _ _ _ g)
          · skip
            replace g := g.2
            rcases fy_if g with g | g
            · skip
              obtain ⟨x43, -, g⟩ := g
              exact fy_tr (fy_rf (X := X)) (ih _ _ _ _ _ _ _ g)
            · skip
              replace g := g.2
              rcases fy_if g with g | g
              · skip
                obtain ⟨x73, -, g⟩ := g
                exact fy_tr (fy_rf (X := X)) (ih _ _ _ _ _ _ _ g)
              · skip
                obtain ⟨X48, eX48, g⟩ := g
                have fX48 : fy fF_206 fL_206 fA_206 X X48 := by rw [eX48]; exact fy_f (fy_rf (X := X)) (by decide)
                obtain ⟨x49, -, g⟩ := g
                obtain ⟨w52, X51, rX51, g⟩ := g
                have fX51 : fy fF_206 fL_206 fA_206 X X51 := fy_z fX48 (gf_207 rX51)
                obtain ⟨X54, eX54, g⟩ := g
                have fX54 : fy fF_206 fL_206 fA_206 X X54 := by rw [eX54]; exact fy_f fX51 (by decide)
                rcases fy_if g with g | g
                · skip
                  obtain ⟨w57, X56, rX56, g⟩ := g
                  have fX56 : fy fF_206 fL_206 fA_206 X X56 := fy_z fX54 (gf_208 rX56)
                  rcases fy_if g with g | g
                  · skip
                    obtain ⟨w60, X59, rX59, g⟩ := g
                    have fX59 : fy fF_206 fL_206 fA_206 X X59 := fy_z fX56 (gf_209 rX59)
                    rcases fy_if g with g | g
                    · skip
                      obtain ⟨w63, X62, rX62, g⟩ := g
                      have fX62 : fy fF_206 fL_206 fA_206 X X62 := fy_z fX59 (gf_207 rX62)
                      rcases fy_if g with g | g
                      · skip
                        rcases fy_if g with g | g
                        · skip
                          obtain ⟨X67, eX67, g⟩ := g
                          have fX67 : fy fF_206 fL_206 fA_206 X X67 := by rw [eX67]; exact fy_f fX62 (by decide)
                          obtain ⟨x68, -, g⟩ := g
                          exact fy_tr fX67 (ih _ _ _ _ _ _ _ g)
                        · skip
                          exact fy_tr fX62 (ih _ _ _ _ _ _ _ g)
                      · skip
                        exact fy_tr fX62 (ih _ _ _ _ _ _ _ g)
                    · skip
                      exact fy_tr fX59 (ih _ _ _ _ _ _ _ g)
                  · skip
                    exact fy_tr fX56 (ih _ _ _ _ _ _ _ g)
                · skip
                  obtain ⟨X70, eX70, g⟩ := g
                  have fX70 : fy fF_206 fL_206 fA_206 X X70 := by rw [eX70]; exact fy_f fX54 (by decide)
                  obtain ⟨X72, eX72, g⟩ := g
                  have fX72 : fy fF_206 fL_206 fA_206 X X72 := by rw [eX72]; exact fy_f fX70 (by decide)
                  rw [g]; exact fX72
      · skip
        obtain ⟨X5, eX5, g⟩ := g
        have fX5 : fy fF_206 fL_206 fA_206 X X5 := by rw [eX5]; exact fy_f (fy_rf (X := X)) (by decide)
        obtain ⟨x6, -, g⟩ := g
        obtain ⟨w9, X8, rX8, g⟩ := g
        have fX8 : fy fF_206 fL_206 fA_206 X X8 := fy_z fX5 (gf_207 rX8)
        obtain ⟨X11, eX11, g⟩ := g
        have fX11 : fy fF_206 fL_206 fA_206 X X11 := by rw [eX11]; exact fy_f fX8 (by decide)
        rcases fy_if g with g | g
        · skip
          obtain ⟨w14, X13, rX13, g⟩ := g
          have fX13 : fy fF_206 fL_206 fA_206 X X13 := fy_z fX11 (gf_208 rX13)
          rcases fy_if g with g | g
          · skip
            obtain ⟨w17, X16, rX16, g⟩ := g
            have fX16 : fy fF_206 fL_206 fA_206 X X16 := fy_z fX13 (gf_209 rX16)
            rcases fy_if g with g | g
            · skip
              obtain ⟨w20, X19, rX19, g⟩ := g
              have fX19 : fy fF_206 fL_206 fA_206 X X19 := fy_z fX16 (gf_207 rX19)
              rcases fy_if g with g | g
              · skip
                rcases fy_if g with g | g
                · skip
                  obtain ⟨X24, eX24, g⟩ := g
                  have fX24 : fy fF_206 fL_206 fA_206 X X24 := by rw [eX24]; exact fy_f fX19 (by decide)
                  obtain ⟨x25, -, g⟩ := g
                  exact fy_tr fX24 (ih _ _ _ _ _ _ _ g)
                · skip
                  exact fy_tr fX19 (ih _ _ _ _ _ _ _ g)
              · skip
                exact fy_tr fX19 (ih _ _ _ _ _ _ _ g)
            · skip
              exact fy_tr fX16 (ih _ _ _ _ _ _ _ g)
          · skip
            exact fy_tr fX13 (ih _ _ _ _ _ _ _ g)
        · skip
          obtain ⟨X27, eX27, g⟩ := g
          have fX27 : fy fF_206 fL_206 fA_206 X X27 := by rw [eX27]; exact fy_f fX11 (by decide)
          obtain ⟨X29, eX29, g⟩ := g
          have fX29 : fy fF_206 fL_206 fA_206 X X29 := by rw [eX29]; exact fy_f fX27 (by decide)
          rw [g]; exact fX29
    · unfold gxT_206_109 at g
      obtain ⟨w125, X124, rX124, g⟩ := g
      have fX124 : fy fF_206 fL_206 fA_206 X X124 := fy_z (fy_rf (X := X)) (gf_208 rX124)
      rcases fy_if g with g | g
      · skip
        obtain ⟨w130, X129, rX129, g⟩ := g
        have fX129 : fy fF_206 fL_206 fA_206 X X129 := fy_z fX124 (gf_209 rX129)
        rcases fy_if g with g | g
        · skip
          rcases fy_if g with g | g
          · skip
            obtain ⟨X146, eX146, g⟩ := g
            have fX146 : fy fF_206 fL_206 fA_206 X X146 := by rw [eX146]; exact fy_f fX129 (by decide)
            rcases fy_if g with g | g
            · skip
              obtain ⟨X153, eX153, g⟩ := g
              have fX153 : fy fF_206 fL_206 fA_206 X X153 := by rw [eX153]; exact fy_f fX146 (by decide)
              obtain ⟨X154, eX154, g⟩ := g
              have fX154 : fy fF_206 fL_206 fA_206 X X154 := by rw [eX154]; exact fy_f fX153 (by decide)
              rw [g]; exact fX154
            · skip
              rcases fy_if g with g | g
              · skip
                obtain ⟨X149, eX149, g⟩ := g
                have fX149 : fy fF_206 fL_206 fA_206 X X149 := by rw [eX149]; exact fy_f fX146 (by decide)
                obtain ⟨X150, eX150, g⟩ := g
                have fX150 : fy fF_206 fL_206 fA_206 X X150 := by rw [eX150]; exact fy_f fX149 (by decide)
                rw [g]; exact fX150
              · skip
                obtain ⟨X151, eX151, g⟩ := g
                have fX151 : fy fF_206 fL_206 fA_206 X X151 := by rw [eX151]; exact fy_f fX146 (by decide)
                obtain ⟨X152, eX152, g⟩ := g
                have fX152 : fy fF_206 fL_206 fA_206 X X152 := by rw [eX152]; exact fy_f fX151 (by decide)
                rw [g]; exact fX152
          · skip
            obtain ⟨w134, X133, rX133, g⟩ := g
            have fX133 : fy fF_206 fL_206 fA_206 X X133 := fy_z fX129 (gf_210 rX133)
            obtain ⟨w136, X135, rX135, g⟩ := g
            have fX135 : fy fF_206 fL_206 fA_206 X X135 := fy_z fX133 (gf_211 rX135)
            obtain ⟨X137, eX137, g⟩ := g
            have fX137 : fy fF_206 fL_206 fA_206 X X137 := by rw [eX137]; exact fy_f fX135 (by decide)
            rcases fy_if g with g | g
            · skip
              obtain ⟨X144, eX144, g⟩ := g
              have fX144 : fy fF_206 fL_206 fA_206 X X144 := by rw [eX144]; exact fy_f fX137 (by decide)
              obtain ⟨X145, eX145, g⟩ := g
              have fX145 : fy fF_206 fL_206 fA_206 X X145 := by rw [eX145]; exact fy_f fX144 (by decide)
              rw [g]; exact fX145
            · skip
              rcases fy_if g with g | g
              · skip
                obtain ⟨X140, eX140, g⟩ := g
                have fX140 : fy fF_206 fL_206 fA_206 X X140 := by rw [eX140]; exact fy_f fX137 (by decide)
                obtain ⟨X141, eX141, g⟩ := g
                have fX141 : fy fF_206 fL_206 fA_206 X X141 := by rw [eX141]; exact fy_f fX140 (by decide)
                rw [g]; exact fX141
              · skip
                obtain ⟨X142, eX142, g⟩ := g
                have fX142 : fy fF_206 fL_206 fA_206 X X142 := by rw [eX142]; exact fy_f fX137 (by decide)
                obtain ⟨X143, eX143, g⟩ := g
                have fX143 : fy fF_206 fL_206 fA_206 X X143 := by rw [eX143]; exact fy_f fX142 (by decide)
                rw [g]; exact fX143
        · skip
          obtain ⟨x155, -, g⟩ := g
          exact fy_tr fX129 (ih _ _ _ _ _ _ _ g)
      · skip
        obtain ⟨x127, -, g⟩ := g
        exact fy_tr fX124 (ih _ _ _ _ _ _ _ g)
    · unfold gxT_206_195 at g
      obtain ⟨w115, X114, rX114, g⟩ := g
      have fX114 : fy fF_206 fL_206 fA_206 X X114 := fy_z (fy_rf (X := X)) (gf_209 rX114)
      rcases fy_if g with g | g
      · skip
        rcases fy_if g with g | g
        · skip
          obtain ⟨X120, eX120, g⟩ := g
          have fX120 : fy fF_206 fL_206 fA_206 X X120 := by rw [eX120]; exact fy_f fX114 (by decide)
          obtain ⟨X121, eX121, g⟩ := g
          have fX121 : fy fF_206 fL_206 fA_206 X X121 := by rw [eX121]; exact fy_f fX120 (by decide)
          rw [g]; exact fX121
        · skip
          obtain ⟨X118, eX118, g⟩ := g
          have fX118 : fy fF_206 fL_206 fA_206 X X118 := by rw [eX118]; exact fy_f fX114 (by decide)
          obtain ⟨X119, eX119, g⟩ := g
          have fX119 : fy fF_206 fL_206 fA_206 X X119 := by rw [eX119]; exact fy_f fX118 (by decide)
          rw [g]; exact fX119
      · skip
        obtain ⟨x122, -, g⟩ := g
        exact fy_tr fX114 (ih _ _ _ _ _ _ _ g)
    · unfold gxT_206_261 at g
      rcases fy_if g with g | g
      · skip
        rcases fy_if g with g | g
        · skip
          obtain ⟨X87, eX87, g⟩ := g
          have fX87 : fy fF_206 fL_206 fA_206 X X87 := by rw [eX87]; exact fy_f (fy_rf (X := X)) (by decide)
          obtain ⟨x88, -, g⟩ := g
          exact fy_tr fX87 (ih _ _ _ _ _ _ _ g)
        · skip
          rcases fy_if g with g | g
          · skip
            rcases fy_if g with g | g
            · skip
              obtain ⟨X84, eX84, g⟩ := g
              have fX84 : fy fF_206 fL_206 fA_206 X X84 := by rw [eX84]; exact fy_f (fy_rf (X := X)) (by decide)
              obtain ⟨x85, -, g⟩ := g
              exact fy_tr fX84 (ih _ _ _ _ _ _ _ g)
            · skip
              exact fy_tr (fy_rf (X := X)) (ih _ _ _ _ _ _ _ g)
          · skip
            exact fy_tr (fy_rf (X := X)) (ih _ _ _ _ _ _ _ g)
      · skip
        rcases fy_if g with g | g
        · skip
          rcases fy_if g with g | g
          · skip
            obtain ⟨X78, eX78, g⟩ := g
            have fX78 : fy fF_206 fL_206 fA_206 X X78 := by rw [eX78]; exact fy_f (fy_rf (X := X)) (by decide)
            obtain ⟨x79, -, g⟩ := g
            exact fy_tr fX78 (ih _ _ _ _ _ _ _ g)
          · skip
            exact fy_tr (fy_rf (X := X)) (ih _ _ _ _ _ _ _ g)
        · skip
          exact fy_tr (fy_rf (X := X)) (ih _ _ _ _ _ _ _ g)
    · unfold gxT_206_310 at g
      rcases fy_if g with g | g
      · skip
        exact fy_tr (fy_rf (X := X)) (ih _ _ _ _ _ _ _ g)
      · skip
        rcases fy_if g with g | g
        · skip
          exact fy_tr (fy_rf (X := X)) (ih _ _ _ _ _ _ _ g)
        · skip
          rcases fy_if g with g | g
          · skip
            exact fy_tr (fy_rf (X := X)) (ih _ _ _ _ _ _ _ g)
          · skip
            rcases fy_if g with g | g
            · skip
              exact fy_tr (fy_rf (X := X)) (ih _ _ _ _ _ _ _ g)
            · skip
              rcases fy_if g with g | g
              · skip
                exact fy_tr (fy_rf (X := X)) (ih _ _ _ _ _ _ _ g)
              · skip
                rcases fy_if g with g | g
                · skip
                  exact fy_tr (fy_rf (X := X)) (ih _ _ _ _ _ _ _ g)
                · skip
                  rcases fy_if g with g | g
                  · skip
                    exact fy_tr (fy_rf (X := X)) (ih _ _ _ _ _ _ _ g)
                  · skip
                    rcases fy_if g with g | g
                    · skip
                      exact fy_tr (fy_rf (X := X)) (ih _ _ _ _ _ _ _ g)
                    · skip
                      rcases fy_if g with g | g
                      · skip
                        exact fy_tr (fy_rf (X := X)) (ih _ _ _ _ _ _ _ g)
                      · skip
                        rcases fy_if g with g | g
                        · skip
                          exact fy_tr (fy_rf (X := X)) (ih _ _ _ _ _ _ _ g)
                        · skip
                          rcases fy_if g with g | g
                          · skip
                            exact fy_tr (fy_rf (X := X)) (ih _ _ _ _ _ _ _ g)
                          · skip
                            rcases fy_if g with g | g
                            · skip
                              exact fy_tr (fy_rf (X := X)) (ih _ _ _ _ _ _ _ g)
                            · skip
                              rcases fy_if g with g | g
                              · skip
                                exact fy_tr (fy_rf (X := X)) (ih _ _ _ _ _ _ _ g)
                              · skip
                                rcases fy_if g with g | g
                                · skip
                                  exact fy_tr (fy_rf (X := X)) (ih _ _ _ _ _ _ _ g)
                                · skip
                                  rcases fy_if g with g | g
                                  · skip
                                    exact fy_tr (fy_rf (X := X)) (ih _ _ _ _ _ _ _ g)
                                  · skip
                                    rcases fy_if g with g | g
                                    · skip
                                      exact fy_tr (fy_rf (X := X)) (ih _ _ _ _ _ _ _ g)
                                    · skip
                                      rcases fy_if g with g | g
                                      · skip
                                        exact fy_tr (fy_rf (X := X)) (ih _ _ _ _ _ _ _ g)
                                      · skip
                                        rcases fy_if g with g | g
                                        · skip
                                          exact fy_tr (fy_rf (X := X)) (ih _ _ _ _ _ _ _ g)
                                        · skip
                                          rcases fy_if g with g | g
                                          · skip
                                            exact fy_tr (fy_rf (X := X)) (ih _ _ _ _ _ _ _ g)
                                          · skip
                                            rcases fy_if g with g | g
                                            · skip
                                              exact fy_tr (fy_rf (X := X)) (ih _ _ _ _ _ _ _ g)
                                            · skip
                                              obtain ⟨X112, eX112, g⟩ := g
                                              have fX112 : fy fF_206 fL_206 fA_206 X X112 := by rw [eX112]; exact fy_f (fy_rf (X := X)) (by decide)
                                              obtain ⟨X113, eX113, g⟩ := g
                                              have fX113 : fy fF_206 fL_206 fA_206 X X113 := by rw [eX113]; exact fy_f fX112 (by decide)
                                              rw [g]; exact fX113
    · unfold gxT_206_430 at g
      obtain ⟨X159, eX159, g⟩ := g
      have fX159 : fy fF_206 fL_206 fA_206 X X159 := by rw [eX159]; exact fy_f (fy_rf (X := X)) (by decide)
      obtain ⟨X160, eX160, g⟩ := g
      have fX160 : fy fF_206 fL_206 fA_206 X X160 := by rw [eX160]; exact fy_f fX159 (by decide)
      rw [g]; exact fX160
theorem gf_206 {X : fx_X} {v : Unit} {X' : fx_X} (g : gx_206 X v X') : fy fF_206 fL_206 fA_206 X X' := by
  obtain ⟨n, g⟩ := g
  unfold gxE_206 at g
  obtain ⟨x2, -, g⟩ := g
  exact fy_tr (fy_rf (X := X)) (gfl_206 n _ _ _ _ _ _ _ g)
abbrev fF_205 : List (Nat × Nat) := [(117, 26), (117, 27), (117, 28), (117, 29), (117, 30), (117, 31), (117, 41), (117, 45), (117, 46), (117, 47)]
abbrev fL_205 : List (Nat × Nat) := []
abbrev fA_205 : List Nat := []
theorem gf_205 {X : fx_X} {v : Unit} {X' : fx_X} (g : gx_205 X v X') : fy fF_205 fL_205 fA_205 X X' := by
  unfold gx_205 at g
  obtain ⟨X2, eX2, g⟩ := g
  have fX2 : fy fF_205 fL_205 fA_205 X X2 := by rw [eX2]; exact fy_f (fy_rf (X := X)) (by decide)
  obtain ⟨X3, eX3, g⟩ := g
  have fX3 : fy fF_205 fL_205 fA_205 X X3 := by rw [eX3]; exact fy_f fX2 (by decide)
  obtain ⟨X4, eX4, g⟩ := g
  have fX4 : fy fF_205 fL_205 fA_205 X X4 := by rw [eX4]; exact fy_f fX3 (by decide)
  obtain ⟨X5, eX5, g⟩ := g
  have fX5 : fy fF_205 fL_205 fA_205 X X5 := by rw [eX5]; exact fy_f fX4 (by decide)
  obtain ⟨X6, eX6, g⟩ := g
  have fX6 : fy fF_205 fL_205 fA_205 X X6 := by rw [eX6]; exact fy_f fX5 (by decide)
  obtain ⟨X7, eX7, g⟩ := g
  have fX7 : fy fF_205 fL_205 fA_205 X X7 := by rw [eX7]; exact fy_f fX6 (by decide)
  obtain ⟨X8, eX8, g⟩ := g
  have fX8 : fy fF_205 fL_205 fA_205 X X8 := by rw [eX8]; exact fy_f fX7 (by decide)
  obtain ⟨w10, X9, rX9, g⟩ := g
  have fX9 : fy fF_205 fL_205 fA_205 X X9 := fy_tr fX8 (fy_sub (gf_206 rX9) (by decide) (by decide) (by decide))
  rw [g]; exact fX9
theorem gf_212 {p1 : Int32} {X : fx_X} {v : Int32} {X' : fx_X} (g : gx_212 p1 X v X') : fy [] [] [] X X' := by
  unfold gx_212 at g
  rcases fy_if g with g | g
  · skip
    rcases fy_if g with g | g
    · skip
      rw [g.2]; exact (fy_rf (X := X))
    · skip
      rw [g.2]; exact (fy_rf (X := X))
  · skip
    rw [g.2]; exact (fy_rf (X := X))
abbrev fF_215 : List (Nat × Nat) := [(117, 24), (117, 25), (117, 31)]
abbrev fL_215 : List (Nat × Nat) := []
abbrev fA_215 : List Nat := []
theorem gf_215 {p1 : Int32} {p2 : Int32} {X : fx_X} {v : Int32} {X' : fx_X} (g : gx_215 p1 p2 X v X') : fy fF_215 fL_215 fA_215 X X' := by
  unfold gx_215 at g
  obtain ⟨X2, eX2, g⟩ := g
  have fX2 : fy fF_215 fL_215 fA_215 X X2 := by rw [eX2]; exact fy_f (fy_rf (X := X)) (by decide)
  obtain ⟨X3, eX3, g⟩ := g
  have fX3 : fy fF_215 fL_215 fA_215 X X3 := by rw [eX3]; exact fy_f fX2 (by decide)
  obtain ⟨X4, eX4, g⟩ := g
  have fX4 : fy fF_215 fL_215 fA_215 X X4 := by rw [eX4]; exact fy_f fX3 (by decide)
  rw [g.2]; exact fX4
abbrev fF_214 : List (Nat × Nat) := [(117, 24), (117, 25), (117, 26), (117, 27), (117, 28), (117, 29), (117, 30), (117, 31)]
abbrev fL_214 : List (Nat × Nat) := []
abbrev fA_214 : List Nat := []
theorem gf_214 {X : fx_X} {v : Int32} {X' : fx_X} (g : gx_214 X v X') : fy fF_214 fL_214 fA_214 X X' := by
  unfold gx_214 at g
  rcases fy_if g with g | g
  · skip
    obtain ⟨w7, X6, rX6, g⟩ := g
    have fX6 : fy fF_214 fL_214 fA_214 X X6 := fy_tr (fy_rf (X := X)) (fy_sub (gf_215 rX6) (by decide) (by decide) (by decide))
    rw [g.2]; exact fX6
  · skip
    obtain ⟨X3, eX3, g⟩ := g
    have fX3 : fy fF_214 fL_214 fA_214 X X3 := by rw [eX3]; exact fy_f (fy_rf (X := X)) (by decide)
    obtain ⟨w5, X4, rX4, g⟩ := g
    have fX4 : fy fF_214 fL_214 fA_214 X X4 := fy_tr fX3 (fy_sub (gf_206 rX4) (by decide) (by decide) (by decide))
    rw [g.2]; exact fX4
abbrev fF_216 : List (Nat × Nat) := [(117, 24), (117, 25), (117, 26), (117, 27), (117, 28), (117, 29), (117, 30), (117, 31), (117, 34)]
abbrev fL_216 : List (Nat × Nat) := [(117, 33)]
abbrev fA_216 : List Nat := []
theorem gf_216 {X : fx_X} {v : Int32} {X' : fx_X} (g : gx_216 X v X') : fy fF_216 fL_216 fA_216 X X' := by
  unfold gx_216 at g
  rcases fy_if g with g | g
  · skip
    obtain ⟨w4, X3, rX3, g⟩ := g
    have fX3 : fy fF_216 fL_216 fA_216 X X3 := fy_z (fy_rf (X := X)) (gf_210 rX3)
    obtain ⟨X5, eX5, g⟩ := g
    have fX5 : fy fF_216 fL_216 fA_216 X X5 := by rw [eX5]; exact fy_g fX3 (by decide)
    obtain ⟨X6, eX6, g⟩ := g
    have fX6 : fy fF_216 fL_216 fA_216 X X6 := by rw [eX6]; exact fy_f fX5 (by decide)
    obtain ⟨w8, X7, rX7, g⟩ := g
    have fX7 : fy fF_216 fL_216 fA_216 X X7 := fy_tr fX6 (fy_sub (gf_214 rX7) (by decide) (by decide) (by decide))
    rw [g.2]; exact fX7
  · skip
    obtain ⟨w10, X9, rX9, g⟩ := g
    have fX9 : fy fF_216 fL_216 fA_216 X X9 := fy_tr (fy_rf (X := X)) (fy_sub (gf_215 rX9) (by decide) (by decide) (by decide))
    rw [g.2]; exact fX9
theorem gfl_231 (p1 : Int32) (p2 : Int64) : ∀ (n l : Nat) (is : List Int32) (ls : List Int64) (rs : List Nat) (X : fx_X) (v : Int32) (X' : fx_X), gxF_231 p1 p2 n l is ls rs X v X' → fy [] [] [] X X' := by
  intro n
  induction n with
  | zero => intro l is ls rs X v X' g; exact g.elim
  | succ n ih =>
    intro l is ls rs X v X' g
    rcases g with ⟨-, y4, -, -, -, g⟩
    · unfold gxT_231_3 at g
      replace g := g.2
      rcases fy_if g with g | g
      · skip
        replace g := g.2
        rcases fy_if g with g | g
        · skip
          rw [g.2]; exact (fy_rf (X := X))
        · skip
          obtain ⟨x9, -, g⟩ := g
          exact fy_tr (fy_rf (X := X)) (ih _ _ _ _ _ _ _ g)
      · skip
        rw [g.2]; exact (fy_rf (X := X))
theorem gf_231 {p1 : Int32} {p2 : Int64} {X : fx_X} {v : Int32} {X' : fx_X} (g : gx_231 p1 p2 X v X') : fy [] [] [] X X' := by
  obtain ⟨n, g⟩ := g
  unfold gxE_231 at g
  exact fy_tr (fy_rf (X := X)) (gfl_231 _ _ n _ _ _ _ _ _ _ g)
abbrev fF_218 : List (Nat × Nat) := [(117, 24), (117, 25)]
abbrev fL_218 : List (Nat × Nat) := []
abbrev fA_218 : List Nat := []
theorem gf_218 {p1 : Int32} {p2 : Int32} {X : fx_X} {v : Unit} {X' : fx_X} (g : gx_218 p1 p2 X v X') : fy fF_218 fL_218 fA_218 X X' := by
  unfold gx_218 at g
  rcases fy_if g with g | g
  · skip
    rcases fy_if g with g | g
    · skip
      obtain ⟨X4, eX4, g⟩ := g
      have fX4 : fy fF_218 fL_218 fA_218 X X4 := by rw [eX4]; exact fy_f (fy_rf (X := X)) (by decide)
      obtain ⟨X5, eX5, g⟩ := g
      have fX5 : fy fF_218 fL_218 fA_218 X X5 := by rw [eX5]; exact fy_f fX4 (by decide)
      rw [g]; exact fX5
    · skip
      rcases fy_if g with g | g
      · skip
        rw [g]; exact (fy_rf (X := X))
      · skip
        rcases fy_if g with g | g
        · skip
          rcases fy_if g with g | g
          · skip
            obtain ⟨X11, eX11, g⟩ := g
            have fX11 : fy fF_218 fL_218 fA_218 X X11 := by rw [eX11]; exact fy_f (fy_rf (X := X)) (by decide)
            obtain ⟨X12, eX12, g⟩ := g
            have fX12 : fy fF_218 fL_218 fA_218 X X12 := by rw [eX12]; exact fy_f fX11 (by decide)
            rw [g]; exact fX12
          · skip
            rw [g]; exact (fy_rf (X := X))
        · skip
          obtain ⟨X8, eX8, g⟩ := g
          have fX8 : fy fF_218 fL_218 fA_218 X X8 := by rw [eX8]; exact fy_f (fy_rf (X := X)) (by decide)
          obtain ⟨X9, eX9, g⟩ := g
          have fX9 : fy fF_218 fL_218 fA_218 X X9 := by rw [eX9]; exact fy_f fX8 (by decide)
          rw [g]; exact fX9
  · skip
    rw [g]; exact (fy_rf (X := X))
abbrev fF_230 : List (Nat × Nat) := [(117, 24), (117, 25), (117, 26), (117, 27), (117, 28), (117, 29), (117, 30), (117, 31), (117, 34)]
abbrev fL_230 : List (Nat × Nat) := [(117, 33)]
abbrev fA_230 : List Nat := [125, 126]
theorem gf_230 {p1 : Int32} {X : fx_X} {v : Int32} {X' : fx_X} (g : gx_230 p1 X v X') : fy fF_230 fL_230 fA_230 X X' := by
  unfold gx_230 at g
  obtain ⟨w3, X2, rX2, g⟩ := g
  have fX2 : fy fF_230 fL_230 fA_230 X X2 := fy_tr (fy_rf (X := X)) (fy_sub (gf_214 rX2) (by decide) (by decide) (by decide))
  rcases fy_if g with g | g
  · skip
    rw [g.2]; exact fX2
  · skip
    rcases fy_if g with g | g
    · skip
      replace g := g.2
      rcases fy_if g with g | g
      · skip
        obtain ⟨w78, X77, rX77, g⟩ := g
        have fX77 : fy fF_230 fL_230 fA_230 X X77 := fy_tr fX2 (fy_sub (gf_215 rX77) (by decide) (by decide) (by decide))
        rw [g.2]; exact fX77
      · skip
        obtain ⟨w44, X43, rX43, g⟩ := g
        have fX43 : fy fF_230 fL_230 fA_230 X X43 := fy_tr fX2 (fy_sub (gf_216 rX43) (by decide) (by decide) (by decide))
        rcases fy_if g with g | g
        · skip
          rw [g.2]; exact fX43
        · skip
          obtain ⟨w47, X46, rX46, g⟩ := g
          have fX46 : fy fF_230 fL_230 fA_230 X X46 := fy_z fX43 (gf_231 rX46)
          rcases fy_if g with g | g
          · skip
            replace g := g.2
            replace g := g.2
            obtain ⟨X53, eX53, g⟩ := g
            have fX53 : fy fF_230 fL_230 fA_230 X X53 := by rw [eX53]; exact fy_b fX46 (by decide)
            replace g := g.2
            rcases fy_if g with g | g
            · skip
              replace g := g.2
              obtain ⟨X61, eX61, g⟩ := g
              have fX61 : fy fF_230 fL_230 fA_230 X X61 := by rw [eX61]; exact fy_a fX53 (by decide)
              rw [g.2]; exact fX61
            · skip
              replace g := g.2
              obtain ⟨X59, eX59, g⟩ := g
              have fX59 : fy fF_230 fL_230 fA_230 X X59 := by rw [eX59]; exact fy_a fX53 (by decide)
              rw [g.2]; exact fX59
          · skip
            obtain ⟨w63, X62, rX62, g⟩ := g
            have fX62 : fy fF_230 fL_230 fA_230 X X62 := fy_tr fX46 (fy_sub (gf_218 rX62) (by decide) (by decide) (by decide))
            replace g := g.2
            replace g := g.2
            obtain ⟨X68, eX68, g⟩ := g
            have fX68 : fy fF_230 fL_230 fA_230 X X68 := by rw [eX68]; exact fy_b fX62 (by decide)
            replace g := g.2
            rcases fy_if g with g | g
            · skip
              replace g := g.2
              obtain ⟨X76, eX76, g⟩ := g
              have fX76 : fy fF_230 fL_230 fA_230 X X76 := by rw [eX76]; exact fy_a fX68 (by decide)
              rw [g.2]; exact fX76
            · skip
              replace g := g.2
              obtain ⟨X74, eX74, g⟩ := g
              have fX74 : fy fF_230 fL_230 fA_230 X X74 := by rw [eX74]; exact fy_a fX68 (by decide)
              rw [g.2]; exact fX74
    · skip
      obtain ⟨w7, X6, rX6, g⟩ := g
      have fX6 : fy fF_230 fL_230 fA_230 X X6 := fy_tr fX2 (fy_sub (gf_216 rX6) (by decide) (by decide) (by decide))
      rcases fy_if g with g | g
      · skip
        rw [g.2]; exact fX6
      · skip
        obtain ⟨w10, X9, rX9, g⟩ := g
        have fX9 : fy fF_230 fL_230 fA_230 X X9 := fy_z fX6 (gf_231 rX9)
        rcases fy_if g with g | g
        · skip
          replace g := g.2
          replace g := g.2
          obtain ⟨X16, eX16, g⟩ := g
          have fX16 : fy fF_230 fL_230 fA_230 X X16 := by rw [eX16]; exact fy_b fX9 (by decide)
          replace g := g.2
          rcases fy_if g with g | g
          · skip
            replace g := g.2
            obtain ⟨X24, eX24, g⟩ := g
            have fX24 : fy fF_230 fL_230 fA_230 X X24 := by rw [eX24]; exact fy_a fX16 (by decide)
            rw [g.2]; exact fX24
          · skip
            replace g := g.2
            obtain ⟨X22, eX22, g⟩ := g
            have fX22 : fy fF_230 fL_230 fA_230 X X22 := by rw [eX22]; exact fy_a fX16 (by decide)
            rw [g.2]; exact fX22
        · skip
          obtain ⟨w26, X25, rX25, g⟩ := g
          have fX25 : fy fF_230 fL_230 fA_230 X X25 := fy_tr fX9 (fy_sub (gf_218 rX25) (by decide) (by decide) (by decide))
          replace g := g.2
          replace g := g.2
          obtain ⟨X31, eX31, g⟩ := g
          have fX31 : fy fF_230 fL_230 fA_230 X X31 := by rw [eX31]; exact fy_b fX25 (by decide)
          replace g := g.2
          rcases fy_if g with g | g
          · skip
            replace g := g.2
            obtain ⟨X39, eX39, g⟩ := g
            have fX39 : fy fF_230 fL_230 fA_230 X X39 := by rw [eX39]; exact fy_a fX31 (by decide)
            rw [g.2]; exact fX39
          · skip
            replace g := g.2
            obtain ⟨X37, eX37, g⟩ := g
            have fX37 : fy fF_230 fL_230 fA_230 X X37 := by rw [eX37]; exact fy_a fX31 (by decide)
            rw [g.2]; exact fX37
theorem gf_220 {p1 : Int32} {X : fx_X} {v : Int32} {X' : fx_X} (g : gx_220 p1 X v X') : fy [] [] [] X X' := by
  unfold gx_220 at g
  rcases fy_if g with g | g
  · skip
    rcases fy_if g with g | g
    · skip
      rw [g.2]; exact (fy_rf (X := X))
    · skip
      rw [g.2]; exact (fy_rf (X := X))
  · skip
    rw [g.2]; exact (fy_rf (X := X))
abbrev fF_219 : List (Nat × Nat) := [(117, 24), (117, 25), (117, 26), (117, 27), (117, 28), (117, 29), (117, 30), (117, 31)]
abbrev fL_219 : List (Nat × Nat) := []
abbrev fA_219 : List Nat := []
theorem gf_219 {p1 : Int32} {X : fx_X} {v : Int32} {X' : fx_X} (g : gx_219 p1 X v X') : fy fF_219 fL_219 fA_219 X X' := by
  unfold gx_219 at g
  obtain ⟨w3, X2, rX2, g⟩ := g
  have fX2 : fy fF_219 fL_219 fA_219 X X2 := fy_z (fy_rf (X := X)) (gf_220 rX2)
  rcases fy_if g with g | g
  · skip
    obtain ⟨w6, X5, rX5, g⟩ := g
    have fX5 : fy fF_219 fL_219 fA_219 X X5 := fy_tr fX2 (fy_sub (gf_215 rX5) (by decide) (by decide) (by decide))
    rw [g.2]; exact fX5
  · skip
    obtain ⟨w8, X7, rX7, g⟩ := g
    have fX7 : fy fF_219 fL_219 fA_219 X X7 := fy_tr fX2 (fy_sub (gf_214 rX7) (by decide) (by decide) (by decide))
    rw [g.2]; exact fX7
theorem gfl_277 (p1 : Int32) (p2 : Int32) : ∀ (n l : Nat) (is : List Int32) (ls : List Int64) (rs : List Nat) (X : fx_X) (v : Int32) (X' : fx_X), gxF_277 p1 p2 n l is ls rs X v X' → fy [] [] [] X X' := by
  intro n
  induction n with
  | zero => intro l is ls rs X v X' g; exact g.elim
  | succ n ih =>
    intro l is ls rs X v X' g
    rcases g with ⟨-, y3, -, -, -, g⟩
    · unfold gxT_277_19 at g
      replace g := g.2
      rcases fy_if g with g | g
      · skip
        replace g := g.2
        replace g := g.2
        rcases fy_if g with g | g
        · skip
          obtain ⟨x16, -, g⟩ := g
          exact fy_tr (fy_rf (X := X)) (ih _ _ _ _ _ _ _ g)
        · skip
          rw [g.2]; exact (fy_rf (X := X))
      · skip
        rw [g.2]; exact (fy_rf (X := X))
theorem gf_277 {p1 : Int32} {p2 : Int32} {X : fx_X} {v : Int32} {X' : fx_X} (g : gx_277 p1 p2 X v X') : fy [] [] [] X X' := by
  obtain ⟨n, g⟩ := g
  unfold gxE_277 at g
  replace g := g.2
  replace g := g.2
  rcases fy_if g with g | g
  · skip
    exact fy_tr (fy_rf (X := X)) (gfl_277 _ _ n _ _ _ _ _ _ _ g)
  · skip
    rw [g.2]; exact (fy_rf (X := X))
theorem gf_236 {p0 : Int32} {p1 : Int32} {p2 : Int32} {X : fx_X} {v : Int32} {X' : fx_X} (g : gx_236 p0 p1 p2 X v X') : fy [] [] [] X X' := by
  unfold gx_236 at g
  rw [g.2]; exact (fy_rf (X := X))
theorem gf_225 {p1 : Int32} {p2 : Int32} {X : fx_X} {v : Int32} {X' : fx_X} (g : gx_225 p1 p2 X v X') : fy [] [] [] X X' := by
  unfold gx_225 at g
  rw [g.2]; exact (fy_rf (X := X))
abbrev fF_252 : List (Nat × Nat) := []
abbrev fL_252 : List (Nat × Nat) := []
abbrev fA_252 : List Nat := [134, 135, 136]
theorem gfl_252 (p1 : Int32) (p2 : Int32) (p3 : Int32) (p4 : Int32) : ∀ (n l : Nat) (is : List Int32) (ls : List Int64) (rs : List Nat) (X : fx_X) (v : Unit) (X' : fx_X), gxF_252 p1 p2 p3 p4 n l is ls rs X v X' → fy fF_252 fL_252 fA_252 X X' := by
  intro n
  induction n with
  | zero => intro l is ls rs X v X' g; exact g.elim
  | succ n ih =>
    intro l is ls rs X v X' g
    rcases g with ⟨-, y5, -, -, -, g⟩ | ⟨-, y5, -, -, -, g⟩
    · unfold gxT_252_3 at g
      rcases fy_if g with g | g
      · skip
        obtain ⟨w7, X6, rX6, g⟩ := g
        have fX6 : fy fF_252 fL_252 fA_252 X X6 := fy_z (fy_rf (X := X)) (gf_236 rX6)
        obtain ⟨w10, X9, rX9, g⟩ := g
        have fX9 : fy fF_252 fL_252 fA_252 X X9 := fy_z fX6 (gf_236 rX9)
        replace g := g.2
        replace g := g.2
        obtain ⟨X13, eX13, g⟩ := g
        have fX13 : fy fF_252 fL_252 fA_252 X X13 := by rw [eX13]; exact fy_a fX9 (by decide)
        obtain ⟨w16, X15, rX15, g⟩ := g
        have fX15 : fy fF_252 fL_252 fA_252 X X15 := fy_z fX13 (gf_236 rX15)
        obtain ⟨w19, X18, rX18, g⟩ := g
        have fX18 : fy fF_252 fL_252 fA_252 X X18 := fy_z fX15 (gf_236 rX18)
        replace g := g.2
        replace g := g.2
        obtain ⟨X22, eX22, g⟩ := g
        have fX22 : fy fF_252 fL_252 fA_252 X X22 := by rw [eX22]; exact fy_a fX18 (by decide)
        obtain ⟨x23, -, g⟩ := g
        exact fy_tr fX22 (ih _ _ _ _ _ _ _ g)
      · skip
        exact fy_tr (fy_rf (X := X)) (ih _ _ _ _ _ _ _ g)
    · unfold gxT_252_69 at g
      rcases fy_if g with g | g
      · skip
        obtain ⟨w28, X27, rX27, g⟩ := g
        have fX27 : fy fF_252 fL_252 fA_252 X X27 := fy_z (fy_rf (X := X)) (gf_225 rX27)
        obtain ⟨w31, X30, rX30, g⟩ := g
        have fX30 : fy fF_252 fL_252 fA_252 X X30 := fy_z fX27 (gf_225 rX30)
        replace g := g.2
        replace g := g.2
        obtain ⟨X34, eX34, g⟩ := g
        have fX34 : fy fF_252 fL_252 fA_252 X X34 := by rw [eX34]; exact fy_a fX30 (by decide)
        obtain ⟨x35, -, g⟩ := g
        exact fy_tr fX34 (ih _ _ _ _ _ _ _ g)
      · skip
        rw [g]; exact (fy_rf (X := X))
theorem gf_252 {p1 : Int32} {p2 : Int32} {p3 : Int32} {p4 : Int32} {X : fx_X} {v : Unit} {X' : fx_X} (g : gx_252 p1 p2 p3 p4 X v X') : fy fF_252 fL_252 fA_252 X X' := by
  obtain ⟨n, g⟩ := g
  unfold gxE_252 at g
  exact fy_tr (fy_rf (X := X)) (gfl_252 _ _ _ _ n _ _ _ _ _ _ _ g)
theorem gfl_233 (p1 : Int32) (p2 : Int64) : ∀ (n l : Nat) (is : List Int32) (ls : List Int64) (rs : List Nat) (X : fx_X) (v : Int32) (X' : fx_X), gxF_233 p1 p2 n l is ls rs X v X' → fy [] [] [] X X' := by
  intro n
  induction n with
  | zero => intro l is ls rs X v X' g; exact g.elim
  | succ n ih =>
    intro l is ls rs X v X' g
    rcases g with ⟨-, y4, -, -, -, g⟩
    · unfold gxT_233_3 at g
      replace g := g.2
      rcases fy_if g with g | g
      · skip
        replace g := g.2
        rcases fy_if g with g | g
        · skip
          rw [g.2]; exact (fy_rf (X := X))
        · skip
          obtain ⟨x9, -, g⟩ := g
          exact fy_tr (fy_rf (X := X)) (ih _ _ _ _ _ _ _ g)
      · skip
        rw [g.2]; exact (fy_rf (X := X))
theorem gf_233 {p1 : Int32} {p2 : Int64} {X : fx_X} {v : Int32} {X' : fx_X} (g : gx_233 p1 p2 X v X') : fy [] [] [] X X' := by
  obtain ⟨n, g⟩ := g
  unfold gxE_233 at g
  exact fy_tr (fy_rf (X := X)) (gfl_233 _ _ n _ _ _ _ _ _ _ g)
abbrev fF_251 : List (Nat × Nat) := []
abbrev fL_251 : List (Nat × Nat) := []
abbrev fA_251 : List Nat := [131, 132, 133, 134, 135, 136]
theorem gfl_251 (p1 : Int32) (p2 : Int32) : ∀ (n l : Nat) (is : List Int32) (ls : List Int64) (rs : List Nat) (X : fx_X) (v : Unit) (X' : fx_X), gxF_251 p1 p2 n l is ls rs X v X' → fy fF_251 fL_251 fA_251 X X' := by
  intro n
  induction n with
  | zero => intro l is ls rs X v X' g; exact g.elim
  | succ n ih =>
    intro l is ls rs X v X' g
    rcases g with ⟨-, y3, -, -, -, g⟩ | ⟨-, y3, -, -, -, g⟩
    · unfold gxT_251_26 at g
      rcases fy_if g with g | g
      · skip
        replace g := g.2
        replace g := g.2
        obtain ⟨X19, eX19, g⟩ := g
        have fX19 : fy fF_251 fL_251 fA_251 X X19 := by rw [eX19]; exact fy_b (fy_rf (X := X)) (by decide)
        obtain ⟨x20, -, g⟩ := g
        exact fy_tr fX19 (ih _ _ _ _ _ _ _ g)
      · skip
        exact fy_tr (fy_rf (X := X)) (ih _ _ _ _ _ _ _ g)
    · unfold gxT_251_62 at g
      rcases fy_if g with g | g
      · skip
        rw [g]; exact (fy_rf (X := X))
      · skip
        replace g := g.2
        rcases fy_if g with g | g
        · skip
          obtain ⟨w27, X26, rX26, g⟩ := g
          have fX26 : fy fF_251 fL_251 fA_251 X X26 := fy_tr (fy_rf (X := X)) (fy_sub (gf_252 rX26) (by decide) (by decide) (by decide))
          obtain ⟨x28, -, g⟩ := g
          exact fy_tr fX26 (ih _ _ _ _ _ _ _ g)
        · skip
          rw [g]; exact (fy_rf (X := X))
theorem gf_251 {p1 : Int32} {p2 : Int32} {X : fx_X} {v : Unit} {X' : fx_X} (g : gx_251 p1 p2 X v X') : fy fF_251 fL_251 fA_251 X X' := by
  obtain ⟨n, g⟩ := g
  unfold gxE_251 at g
  replace g := g.2
  replace g := g.2
  obtain ⟨X6, eX6, g⟩ := g
  have fX6 : fy fF_251 fL_251 fA_251 X X6 := by rw [eX6]; exact fy_a (fy_rf (X := X)) (by decide)
  replace g := g.2
  replace g := g.2
  obtain ⟨X11, eX11, g⟩ := g
  have fX11 : fy fF_251 fL_251 fA_251 X X11 := by rw [eX11]; exact fy_a fX6 (by decide)
  exact fy_tr fX11 (gfl_251 _ _ n _ _ _ _ _ _ _ g)
theorem gf_259 {p1 : Int32} {X : fx_X} {v : Int32} {X' : fx_X} (g : gx_259 p1 X v X') : fy [] [] [] X X' := by
  unfold gx_259 at g
  rcases fy_if g with g | g
  · skip
    rw [g.2]; exact (fy_rf (X := X))
  · skip
    rw [g.2]; exact (fy_rf (X := X))
theorem gf_241 {p1 : Int32} {p2 : Int32} {p3 : Int32} {X : fx_X} {v : Int32} {X' : fx_X} (g : gx_241 p1 p2 p3 X v X') : fy [] [] [] X X' := by
  unfold gx_241 at g
  replace g := g.2
  rw [g.2]; exact (fy_rf (X := X))
theorem gf_240 {p1 : Int32} {p2 : Int32} {p3 : Int32} {p4 : Int32} {X : fx_X} {v : Int32} {X' : fx_X} (g : gx_240 p1 p2 p3 p4 X v X') : fy [] [] [] X X' := by
  unfold gx_240 at g
  rcases fy_if g with g | g
  · skip
    obtain ⟨w4, X3, rX3, g⟩ := g
    have fX3 : fy [] [] [] X X3 := fy_z (fy_rf (X := X)) (gf_241 rX3)
    rw [g.2]; exact fX3
  · skip
    rw [g.2]; exact (fy_rf (X := X))
theorem gf_258 {p1 : Int32} {p2 : Int32} {p3 : Int32} {p4 : Int32} {X : fx_X} {v : Int32} {X' : fx_X} (g : gx_258 p1 p2 p3 p4 X v X') : fy [] [] [] X X' := by
  unfold gx_258 at g
  obtain ⟨w3, X2, rX2, g⟩ := g
  have fX2 : fy [] [] [] X X2 := fy_z (fy_rf (X := X)) (gf_236 rX2)
  obtain ⟨w6, X5, rX5, g⟩ := g
  have fX5 : fy [] [] [] X X5 := fy_z fX2 (gf_259 rX5)
  replace g := g.2
  replace g := g.2
  obtain ⟨w12, X11, rX11, g⟩ := g
  have fX11 : fy [] [] [] X X11 := fy_z fX5 (gf_240 rX11)
  rw [g.2]; exact fX11
abbrev fF_228 : List (Nat × Nat) := []
abbrev fL_228 : List (Nat × Nat) := []
theorem gf_228 {p0 : Nat} {p1 : Int32} {p2 : Int32} {p3 : Int32} {X : fx_X} {v : Unit} {X' : fx_X} (g : gx_228 p0 p1 p2 p3 X v X') : fy fF_228 fL_228 [p0] X X' := by
  unfold gx_228 at g
  obtain ⟨x2, -, g⟩ := g
  obtain ⟨x4, -, g⟩ := g
  rcases fy_if g with g | g
  · skip
    replace g := g.2
    replace g := g.2
    obtain ⟨X9, eX9, g⟩ := g
    have fX9 : fy fF_228 fL_228 [p0] X X9 := by rw [eX9]; exact fy_a (fy_rf (X := X)) (by simp)
    rw [g]; exact fX9
  · skip
    replace g := g.2
    replace g := g.2
    obtain ⟨X12, eX12, g⟩ := g
    have fX12 : fy fF_228 fL_228 [p0] X X12 := by rw [eX12]; exact fy_a (fy_rf (X := X)) (by simp)
    rw [g]; exact fX12
abbrev fF_276 : List (Nat × Nat) := [(117, 24), (117, 25), (117, 31)]
abbrev fL_276 : List (Nat × Nat) := []
abbrev fA_276 : List Nat := [131, 132, 133, 134, 135, 136]
theorem gfl_276 (p1 : Int32) (p2 : Int32) : ∀ (n l : Nat) (is : List Int32) (ls : List Int64) (rs : List Nat) (X : fx_X) (v : Int32) (X' : fx_X), gxF_276 p1 p2 n l is ls rs X v X' → fy fF_276 fL_276 fA_276 X X' := by
  intro n
  induction n with
  | zero => intro l is ls rs X v X' g; exact g.elim
  | succ n ih =>
    intro l is ls rs X v X' g
    rcases g with ⟨-, y3, y4, y5, -, -, -, g⟩ | ⟨-, y3, y4, y5, -, -, -, g⟩ | ⟨-, y3, y4, y5, -, -, -, g⟩ | ⟨-, y3, y4, y5, y6, y7, -, -, -, g⟩ | ⟨-, y3, y4, y5, y6, y7, y8, y9, -, -, -, g⟩ | ⟨-, y3, y4, y5, -, -, -, g⟩ | ⟨-, y3, y4, y5, y6, -, -, -, g⟩
    · unfold gxT_276_88 at g
      rcases fy_if g with g | g
      · skip
        replace g := g.2
        replace g := g.2
        obtain ⟨X56, eX56, g⟩ := g
        have fX56 : fy fF_276 fL_276 fA_276 X X56 := by rw [eX56]; exact fy_b (fy_rf (X := X)) (by decide)
        obtain ⟨x57, -, g⟩ := g
        exact fy_tr fX56 (ih _ _ _ _ _ _ _ g)
      · skip
        exact fy_tr (fy_rf (X := X)) (ih _ _ _ _ _ _ _ g)
    · unfold gxT_276_127 at g
      rcases fy_if g with g | g
      · skip
        replace g := g.2
        replace g := g.2
        obtain ⟨w67, X66, rX66, g⟩ := g
        have fX66 : fy fF_276 fL_276 fA_276 X X66 := fy_tr (fy_rf (X := X)) (fy_sub (gf_252 rX66) (by decide) (by decide) (by decide))
        obtain ⟨x68, -, g⟩ := g
        exact fy_tr fX66 (ih _ _ _ _ _ _ _ g)
      · skip
        exact fy_tr (fy_rf (X := X)) (ih _ _ _ _ _ _ _ g)
    · unfold gxT_276_166 at g
      replace g := g.2
      rcases fy_if g with g | g
      · skip
        replace g := g.2
        obtain ⟨w77, X76, rX76, g⟩ := g
        have fX76 : fy fF_276 fL_276 fA_276 X X76 := fy_z (fy_rf (X := X)) (gf_233 rX76)
        exact fy_tr fX76 (ih _ _ _ _ _ _ _ g)
      · skip
        exact fy_tr (fy_rf (X := X)) (ih _ _ _ _ _ _ _ g)
    · unfold gxT_276_199 at g
      rcases fy_if g with g | g
      · skip
        replace g := g.2
        replace g := g.2
        obtain ⟨x107, -, g⟩ := g
        exact fy_tr (fy_rf (X := X)) (ih _ _ _ _ _ _ _ g)
      · skip
        rcases fy_if g with g | g
        · skip
          replace g := g.2
          replace g := g.2
          obtain ⟨X99, eX99, g⟩ := g
          have fX99 : fy fF_276 fL_276 fA_276 X X99 := by rw [eX99]; exact fy_b (fy_rf (X := X)) (by decide)
          obtain ⟨x100, -, g⟩ := g
          obtain ⟨x102, -, g⟩ := g
          exact fy_tr fX99 (ih _ _ _ _ _ _ _ g)
        · skip
          obtain ⟨x93, -, g⟩ := g
          exact fy_tr (fy_rf (X := X)) (ih _ _ _ _ _ _ _ g)
    · unfold gxT_276_225 at g
      replace g := g.2
      rcases fy_if g with g | g
      · skip
        rcases fy_if g with g | g
        · skip
          rcases fy_if g with g | g
          · skip
            obtain ⟨w160, X159, rX159, g⟩ := g
            have fX159 : fy fF_276 fL_276 fA_276 X X159 := fy_z (fy_rf (X := X)) (gf_236 rX159)
            obtain ⟨w163, X162, rX162, g⟩ := g
            have fX162 : fy fF_276 fL_276 fA_276 X X162 := fy_z fX159 (gf_236 rX162)
            replace g := g.2
            replace g := g.2
            obtain ⟨X166, eX166, g⟩ := g
            have fX166 : fy fF_276 fL_276 fA_276 X X166 := by rw [eX166]; exact fy_a fX162 (by decide)
            obtain ⟨w169, X168, rX168, g⟩ := g
            have fX168 : fy fF_276 fL_276 fA_276 X X168 := fy_z fX166 (gf_236 rX168)
            obtain ⟨w172, X171, rX171, g⟩ := g
            have fX171 : fy fF_276 fL_276 fA_276 X X171 := fy_z fX168 (gf_236 rX171)
            replace g := g.2
            replace g := g.2
            obtain ⟨X175, eX175, g⟩ := g
            have fX175 : fy fF_276 fL_276 fA_276 X X175 := by rw [eX175]; exact fy_a fX171 (by decide)
            obtain ⟨x176, -, g⟩ := g
            exact fy_tr fX175 (ih _ _ _ _ _ _ _ g)
          · skip
            obtain ⟨x156, -, g⟩ := g
            exact fy_tr (fy_rf (X := X)) (ih _ _ _ _ _ _ _ g)
        · skip
          replace g := g.2
          replace g := g.2
          obtain ⟨w182, X181, rX181, g⟩ := g
          have fX181 : fy fF_276 fL_276 fA_276 X X181 := fy_z (fy_rf (X := X)) (gf_258 rX181)
          obtain ⟨w184, X183, rX183, g⟩ := g
          have fX183 : fy fF_276 fL_276 fA_276 X X183 := fy_z fX181 (gf_258 rX183)
          rcases fy_if g with g | g
          · skip
            obtain ⟨x186, -, g⟩ := g
            exact fy_tr fX183 (ih _ _ _ _ _ _ _ g)
          · skip
            obtain ⟨w190, X189, rX189, g⟩ := g
            have fX189 : fy fF_276 fL_276 fA_276 X X189 := fy_z fX183 (gf_225 rX189)
            obtain ⟨w192, X191, rX191, g⟩ := g
            have fX191 : fy fF_276 fL_276 fA_276 X X191 := fy_tr fX189 (fy_sub (gf_228 rX191) (by decide) (by decide) (by decide))
            obtain ⟨x193, -, g⟩ := g
            exact fy_tr fX191 (ih _ _ _ _ _ _ _ g)
      · skip
        rcases fy_if g with g | g
        · skip
          obtain ⟨w136, X135, rX135, g⟩ := g
          have fX135 : fy fF_276 fL_276 fA_276 X X135 := fy_z (fy_rf (X := X)) (gf_236 rX135)
          obtain ⟨w139, X138, rX138, g⟩ := g
          have fX138 : fy fF_276 fL_276 fA_276 X X138 := fy_z fX135 (gf_236 rX138)
          replace g := g.2
          replace g := g.2
          obtain ⟨X142, eX142, g⟩ := g
          have fX142 : fy fF_276 fL_276 fA_276 X X142 := by rw [eX142]; exact fy_a fX138 (by decide)
          obtain ⟨w145, X144, rX144, g⟩ := g
          have fX144 : fy fF_276 fL_276 fA_276 X X144 := fy_z fX142 (gf_236 rX144)
          obtain ⟨w148, X147, rX147, g⟩ := g
          have fX147 : fy fF_276 fL_276 fA_276 X X147 := fy_z fX144 (gf_236 rX147)
          replace g := g.2
          replace g := g.2
          obtain ⟨X151, eX151, g⟩ := g
          have fX151 : fy fF_276 fL_276 fA_276 X X151 := by rw [eX151]; exact fy_a fX147 (by decide)
          obtain ⟨x152, -, g⟩ := g
          exact fy_tr fX151 (ih _ _ _ _ _ _ _ g)
        · skip
          obtain ⟨x132, -, g⟩ := g
          exact fy_tr (fy_rf (X := X)) (ih _ _ _ _ _ _ _ g)
    · unfold gxT_276_405 at g
      rcases fy_if g with g | g
      · skip
        exact fy_tr (fy_rf (X := X)) (ih _ _ _ _ _ _ _ g)
      · skip
        obtain ⟨X85, eX85, g⟩ := g
        have fX85 : fy fF_276 fL_276 fA_276 X X85 := by rw [eX85]; exact fy_a (fy_rf (X := X)) (by decide)
        obtain ⟨w87, X86, rX86, g⟩ := g
        have fX86 : fy fF_276 fL_276 fA_276 X X86 := fy_tr fX85 (fy_sub (gf_251 rX86) (by decide) (by decide) (by decide))
        rw [g.2]; exact fX86
    · unfold gxT_276_420 at g
      rcases fy_if g with g | g
      · skip
        obtain ⟨w115, X114, rX114, g⟩ := g
        have fX114 : fy fF_276 fL_276 fA_276 X X114 := fy_z (fy_rf (X := X)) (gf_225 rX114)
        replace g := g.2
        replace g := g.2
        replace g := g.2
        obtain ⟨w122, X121, rX121, g⟩ := g
        have fX121 : fy fF_276 fL_276 fA_276 X X121 := fy_z fX114 (gf_225 rX121)
        replace g := g.2
        replace g := g.2
        obtain ⟨X125, eX125, g⟩ := g
        have fX125 : fy fF_276 fL_276 fA_276 X X125 := by rw [eX125]; exact fy_a fX121 (by decide)
        obtain ⟨x126, -, g⟩ := g
        exact fy_tr fX125 (ih _ _ _ _ _ _ _ g)
      · skip
        obtain ⟨x111, -, g⟩ := g
        exact fy_tr (fy_rf (X := X)) (ih _ _ _ _ _ _ _ g)
theorem gf_276 {p1 : Int32} {p2 : Int32} {X : fx_X} {v : Int32} {X' : fx_X} (g : gx_276 p1 p2 X v X') : fy fF_276 fL_276 fA_276 X X' := by
  obtain ⟨n, g⟩ := g
  unfold gxE_276 at g
  obtain ⟨x2, -, g⟩ := g
  rcases fy_if g with g | g
  · skip
    replace g := g.2
    obtain ⟨x7, -, g⟩ := g
    obtain ⟨X11, eX11, g⟩ := g
    have fX11 : fy fF_276 fL_276 fA_276 X X11 := by rw [eX11]; exact fy_a (fy_rf (X := X)) (by decide)
    rcases fy_if g with g | g
    · skip
      obtain ⟨X15, eX15, g⟩ := g
      have fX15 : fy fF_276 fL_276 fA_276 X X15 := by rw [eX15]; exact fy_a fX11 (by decide)
      exact fy_tr fX15 (gfl_276 _ _ n _ _ _ _ _ _ _ g)
    · skip
      replace g := g.2
      replace g := g.2
      obtain ⟨X22, eX22, g⟩ := g
      have fX22 : fy fF_276 fL_276 fA_276 X X22 := by rw [eX22]; exact fy_a fX11 (by decide)
      exact fy_tr fX22 (gfl_276 _ _ n _ _ _ _ _ _ _ g)
  · skip
    replace g := g.2
    replace g := g.2
    rcases fy_if g with g | g
    · skip
      obtain ⟨w49, X48, rX48, g⟩ := g
      have fX48 : fy fF_276 fL_276 fA_276 X X48 := fy_tr (fy_rf (X := X)) (fy_sub (gf_215 rX48) (by decide) (by decide) (by decide))
      rw [g.2]; exact fX48
    · skip
      replace g := g.2
      obtain ⟨x31, -, g⟩ := g
      obtain ⟨X35, eX35, g⟩ := g
      have fX35 : fy fF_276 fL_276 fA_276 X X35 := by rw [eX35]; exact fy_a (fy_rf (X := X)) (by decide)
      rcases fy_if g with g | g
      · skip
        obtain ⟨X39, eX39, g⟩ := g
        have fX39 : fy fF_276 fL_276 fA_276 X X39 := by rw [eX39]; exact fy_a fX35 (by decide)
        exact fy_tr fX39 (gfl_276 _ _ n _ _ _ _ _ _ _ g)
      · skip
        replace g := g.2
        replace g := g.2
        obtain ⟨X46, eX46, g⟩ := g
        have fX46 : fy fF_276 fL_276 fA_276 X X46 := by rw [eX46]; exact fy_a fX35 (by decide)
        exact fy_tr fX46 (gfl_276 _ _ n _ _ _ _ _ _ _ g)
abbrev fF_275 : List (Nat × Nat) := [(117, 24), (117, 25), (117, 31)]
abbrev fL_275 : List (Nat × Nat) := []
abbrev fA_275 : List Nat := [131, 132, 133, 134, 135, 136]
theorem gfl_275 (p1 : Int32) (p2 : Int32) : ∀ (n l : Nat) (is : List Int32) (ls : List Int64) (rs : List Nat) (X : fx_X) (v : Int32) (X' : fx_X), gxF_275 p1 p2 n l is ls rs X v X' → fy fF_275 fL_275 fA_275 X X' := by
  intro n
  induction n with
  | zero => intro l is ls rs X v X' g; exact g.elim
  | succ n ih =>
    intro l is ls rs X v X' g
    rcases g with ⟨-, y3, y4, -, -, -, g⟩
    · unfold gxT_275_34 at g
      rcases fy_if g with g | g
      · skip
        rcases fy_if g with g | g
        · skip
          obtain ⟨w26, X25, rX25, g⟩ := g
          have fX25 : fy fF_275 fL_275 fA_275 X X25 := fy_tr (fy_rf (X := X)) (fy_sub (gf_218 rX25) (by decide) (by decide) (by decide))
          replace g := g.2
          obtain ⟨X31, eX31, g⟩ := g
          have fX31 : fy fF_275 fL_275 fA_275 X X31 := by rw [eX31]; exact fy_a fX25 (by decide)
          rw [g.2]; exact fX31
        · skip
          rcases fy_if g with g | g
          · skip
            replace g := g.2
            obtain ⟨X24, eX24, g⟩ := g
            have fX24 : fy fF_275 fL_275 fA_275 X X24 := by rw [eX24]; exact fy_a (fy_rf (X := X)) (by decide)
            rw [g.2]; exact fX24
          · skip
            obtain ⟨w21, X20, rX20, g⟩ := g
            have fX20 : fy fF_275 fL_275 fA_275 X X20 := fy_tr (fy_rf (X := X)) (fy_sub (gf_276 rX20) (by decide) (by decide) (by decide))
            rw [g.2]; exact fX20
      · skip
        replace g := g.2
        rcases fy_if g with g | g
        · skip
          replace g := g.2
          obtain ⟨w52, X51, rX51, g⟩ := g
          have fX51 : fy fF_275 fL_275 fA_275 X X51 := fy_z (fy_rf (X := X)) (gf_233 rX51)
          rcases fy_if g with g | g
          · skip
            obtain ⟨x56, -, g⟩ := g
            obtain ⟨x58, -, g⟩ := g
            exact fy_tr fX51 (ih _ _ _ _ _ _ _ g)
          · skip
            obtain ⟨x54, -, g⟩ := g
            exact fy_tr fX51 (ih _ _ _ _ _ _ _ g)
        · skip
          rcases fy_if g with g | g
          · skip
            obtain ⟨w43, X42, rX42, g⟩ := g
            have fX42 : fy fF_275 fL_275 fA_275 X X42 := fy_tr (fy_rf (X := X)) (fy_sub (gf_218 rX42) (by decide) (by decide) (by decide))
            replace g := g.2
            obtain ⟨X48, eX48, g⟩ := g
            have fX48 : fy fF_275 fL_275 fA_275 X X48 := by rw [eX48]; exact fy_a fX42 (by decide)
            rw [g.2]; exact fX48
          · skip
            rcases fy_if g with g | g
            · skip
              replace g := g.2
              obtain ⟨X41, eX41, g⟩ := g
              have fX41 : fy fF_275 fL_275 fA_275 X X41 := by rw [eX41]; exact fy_a (fy_rf (X := X)) (by decide)
              rw [g.2]; exact fX41
            · skip
              obtain ⟨w38, X37, rX37, g⟩ := g
              have fX37 : fy fF_275 fL_275 fA_275 X X37 := fy_tr (fy_rf (X := X)) (fy_sub (gf_276 rX37) (by decide) (by decide) (by decide))
              rw [g.2]; exact fX37
theorem gf_275 {p1 : Int32} {p2 : Int32} {X : fx_X} {v : Int32} {X' : fx_X} (g : gx_275 p1 p2 X v X') : fy fF_275 fL_275 fA_275 X X' := by
  obtain ⟨n, g⟩ := g
  unfold gxE_275 at g
  replace g := g.2
  rcases fy_if g with g | g
  · skip
    exact fy_tr (fy_rf (X := X)) (gfl_275 _ _ n _ _ _ _ _ _ _ g)
  · skip
    replace g := g.2
    rcases fy_if g with g | g
    · skip
      exact fy_tr (fy_rf (X := X)) (gfl_275 _ _ n _ _ _ _ _ _ _ g)
    · skip
      replace g := g.2
      obtain ⟨x12, -, g⟩ := g
      exact fy_tr (fy_rf (X := X)) (gfl_275 _ _ n _ _ _ _ _ _ _ g)
theorem gf_227 {p0 : Nat} {p1 : Int32} {p2 : Int32} {X : fx_X} {v : Int32} {X' : fx_X} (g : gx_227 p0 p1 p2 X v X') : fy [] [] [] X X' := by
  unfold gx_227 at g
  replace g := g.2
  rcases fy_if g with g | g
  · skip
    rw [g.2]; exact (fy_rf (X := X))
  · skip
    rw [g.2]; exact (fy_rf (X := X))
abbrev fF_279 : List (Nat × Nat) := []
abbrev fL_279 : List (Nat × Nat) := []
abbrev fA_279 : List Nat := [136]
theorem gfl_279 (p1 : Int32) : ∀ (n l : Nat) (is : List Int32) (ls : List Int64) (rs : List Nat) (X : fx_X) (v : Int32) (X' : fx_X), gxF_279 p1 n l is ls rs X v X' → fy fF_279 fL_279 fA_279 X X' := by
  intro n
  induction n with
  | zero => intro l is ls rs X v X' g; exact g.elim
  | succ n ih =>
    intro l is ls rs X v X' g
    rcases g with ⟨-, y2, -, -, -, g⟩ | ⟨-, y2, y3, -, -, -, g⟩ | ⟨-, y2, y3, y4, -, -, -, g⟩ | ⟨-, y2, y3, y4, y5, y6, -, -, -, g⟩
    · unfold gxT_279_2 at g
      replace g := g.2
      rcases fy_if g with g | g
      · skip
        exact fy_tr (fy_rf (X := X)) (ih _ _ _ _ _ _ _ g)
      · skip
        rw [g.2]; exact (fy_rf (X := X))
    · unfold gxT_279_17 at g
      replace g := g.2
      rcases fy_if g with g | g
      · skip
        exact fy_tr (fy_rf (X := X)) (ih _ _ _ _ _ _ _ g)
      · skip
        obtain ⟨x10, -, g⟩ := g
        exact fy_tr (fy_rf (X := X)) (ih _ _ _ _ _ _ _ g)
    · unfold gxT_279_30 at g
      replace g := g.2
      rcases fy_if g with g | g
      · skip
        obtain ⟨w20, X19, rX19, g⟩ := g
        have fX19 : fy fF_279 fL_279 fA_279 X X19 := fy_z (fy_rf (X := X)) (gf_225 rX19)
        obtain ⟨w22, X21, rX21, g⟩ := g
        have fX21 : fy fF_279 fL_279 fA_279 X X21 := fy_z fX19 (gf_227 rX21)
        rcases fy_if g with g | g
        · skip
          obtain ⟨x24, -, g⟩ := g
          exact fy_tr fX21 (ih _ _ _ _ _ _ _ g)
        · skip
          obtain ⟨w28, X27, rX27, g⟩ := g
          have fX27 : fy fF_279 fL_279 fA_279 X X27 := fy_z fX21 (gf_225 rX27)
          obtain ⟨w30, X29, rX29, g⟩ := g
          have fX29 : fy fF_279 fL_279 fA_279 X X29 := fy_z fX27 (gf_227 rX29)
          exact fy_tr fX29 (ih _ _ _ _ _ _ _ g)
      · skip
        obtain ⟨x16, -, g⟩ := g
        exact fy_tr (fy_rf (X := X)) (ih _ _ _ _ _ _ _ g)
    · unfold gxT_279_82 at g
      replace g := g.2
      rcases fy_if g with g | g
      · skip
        rcases fy_if g with g | g
        · skip
          rcases fy_if g with g | g
          · skip
            obtain ⟨x48, -, g⟩ := g
            exact fy_tr (fy_rf (X := X)) (ih _ _ _ _ _ _ _ g)
          · skip
            obtain ⟨w52, X51, rX51, g⟩ := g
            have fX51 : fy fF_279 fL_279 fA_279 X X51 := fy_z (fy_rf (X := X)) (gf_225 rX51)
            obtain ⟨w54, X53, rX53, g⟩ := g
            have fX53 : fy fF_279 fL_279 fA_279 X X53 := fy_tr fX51 (fy_sub (gf_228 rX53) (by decide) (by decide) (by decide))
            obtain ⟨x55, -, g⟩ := g
            exact fy_tr fX53 (ih _ _ _ _ _ _ _ g)
        · skip
          obtain ⟨w58, X57, rX57, g⟩ := g
          have fX57 : fy fF_279 fL_279 fA_279 X X57 := fy_z (fy_rf (X := X)) (gf_258 rX57)
          obtain ⟨w60, X59, rX59, g⟩ := g
          have fX59 : fy fF_279 fL_279 fA_279 X X59 := fy_z fX57 (gf_258 rX59)
          rcases fy_if g with g | g
          · skip
            obtain ⟨x66, -, g⟩ := g
            exact fy_tr fX59 (ih _ _ _ _ _ _ _ g)
          · skip
            obtain ⟨x63, -, g⟩ := g
            exact fy_tr fX59 (ih _ _ _ _ _ _ _ g)
      · skip
        rcases fy_if g with g | g
        · skip
          obtain ⟨x37, -, g⟩ := g
          exact fy_tr (fy_rf (X := X)) (ih _ _ _ _ _ _ _ g)
        · skip
          obtain ⟨w41, X40, rX40, g⟩ := g
          have fX40 : fy fF_279 fL_279 fA_279 X X40 := fy_z (fy_rf (X := X)) (gf_225 rX40)
          obtain ⟨w43, X42, rX42, g⟩ := g
          have fX42 : fy fF_279 fL_279 fA_279 X X42 := fy_tr fX40 (fy_sub (gf_228 rX42) (by decide) (by decide) (by decide))
          obtain ⟨x44, -, g⟩ := g
          exact fy_tr fX42 (ih _ _ _ _ _ _ _ g)
theorem gf_279 {p1 : Int32} {X : fx_X} {v : Int32} {X' : fx_X} (g : gx_279 p1 X v X') : fy fF_279 fL_279 fA_279 X X' := by
  obtain ⟨n, g⟩ := g
  unfold gxE_279 at g
  exact fy_tr (fy_rf (X := X)) (gfl_279 _ n _ _ _ _ _ _ _ g)
abbrev fF_278 : List (Nat × Nat) := [(117, 24), (117, 25), (117, 31)]
abbrev fL_278 : List (Nat × Nat) := []
abbrev fA_278 : List Nat := [131, 134, 135, 136]
theorem gfl_278 (p1 : Int32) (p2 : Int32) : ∀ (n l : Nat) (is : List Int32) (ls : List Int64) (rs : List Nat) (X : fx_X) (v : Int32) (X' : fx_X), gxF_278 p1 p2 n l is ls rs X v X' → fy fF_278 fL_278 fA_278 X X' := by
  intro n
  induction n with
  | zero => intro l is ls rs X v X' g; exact g.elim
  | succ n ih =>
    intro l is ls rs X v X' g
    rcases g with ⟨-, y3, -, -, -, g⟩
    · unfold gxT_278_30 at g
      replace g := g.2
      rcases fy_if g with g | g
      · skip
        replace g := g.2
        obtain ⟨w22, X21, rX21, g⟩ := g
        have fX21 : fy fF_278 fL_278 fA_278 X X21 := fy_tr (fy_rf (X := X)) (fy_sub (gf_252 rX21) (by decide) (by decide) (by decide))
        obtain ⟨x23, -, g⟩ := g
        exact fy_tr fX21 (ih _ _ _ _ _ _ _ g)
      · skip
        replace g := g.2
        replace g := g.2
        replace g := g.2
        obtain ⟨X18, eX18, g⟩ := g
        have fX18 : fy fF_278 fL_278 fA_278 X X18 := by rw [eX18]; exact fy_a (fy_rf (X := X)) (by decide)
        rw [g.2]; exact fX18
theorem gf_278 {p1 : Int32} {p2 : Int32} {X : fx_X} {v : Int32} {X' : fx_X} (g : gx_278 p1 p2 X v X') : fy fF_278 fL_278 fA_278 X X' := by
  obtain ⟨n, g⟩ := g
  unfold gxE_278 at g
  replace g := g.2
  replace g := g.2
  rcases fy_if g with g | g
  · skip
    obtain ⟨w9, X8, rX8, g⟩ := g
    have fX8 : fy fF_278 fL_278 fA_278 X X8 := fy_tr (fy_rf (X := X)) (fy_sub (gf_215 rX8) (by decide) (by decide) (by decide))
    rw [g.2]; exact fX8
  · skip
    exact fy_tr (fy_rf (X := X)) (gfl_278 _ _ n _ _ _ _ _ _ _ g)
abbrev fF_274 : List (Nat × Nat) := [(117, 24), (117, 25), (117, 31), (117, 50), (117, 51)]
abbrev fL_274 : List (Nat × Nat) := []
abbrev fA_274 : List Nat := [131, 132, 133, 134, 135, 136]
theorem gfl_274 : ∀ (n l : Nat) (is : List Int32) (ls : List Int64) (rs : List Nat) (X : fx_X) (v : Int32) (X' : fx_X), gxF_274 n l is ls rs X v X' → fy fF_274 fL_274 fA_274 X X' := by
  intro n
  induction n with
  | zero => intro l is ls rs X v X' g; exact g.elim
  | succ n ih =>
    intro l is ls rs X v X' g
    rcases g with ⟨-, y1, y2, y3, y4, -, -, -, g⟩
    · unfold gxT_274_109 at g
      rcases fy_if g with g | g
      · skip
        replace g := g.2
        obtain ⟨X37, eX37, g⟩ := g
        have fX37 : fy fF_274 fL_274 fA_274 X X37 := by rw [eX37]; exact fy_a (fy_rf (X := X)) (by decide)
        rw [g.2]; exact fX37
      · skip
        obtain ⟨w39, X38, rX38, g⟩ := g
        have fX38 : fy fF_274 fL_274 fA_274 X X38 := fy_z (fy_rf (X := X)) (gf_277 rX38)
        rcases fy_if g with g | g
        · skip
          replace g := g.2
          obtain ⟨X51, eX51, g⟩ := g
          have fX51 : fy fF_274 fL_274 fA_274 X X51 := by rw [eX51]; exact fy_a fX38 (by decide)
          rw [g.2]; exact fX51
        · skip
          rcases fy_if g with g | g
          · skip
            rw [g.2]; exact fX38
          · skip
            rcases fy_if g with g | g
            · skip
              obtain ⟨w47, X46, rX46, g⟩ := g
              have fX46 : fy fF_274 fL_274 fA_274 X X46 := fy_tr fX38 (fy_sub (gf_278 rX46) (by decide) (by decide) (by decide))
              rcases fy_if g with g | g
              · skip
                rw [g.2]; exact fX46
              · skip
                rw [g.2]; exact fX46
            · skip
              obtain ⟨w44, X43, rX43, g⟩ := g
              have fX43 : fy fF_274 fL_274 fA_274 X X43 := fy_tr fX38 (fy_sub (gf_279 rX43) (by decide) (by decide) (by decide))
              rcases fy_if g with g | g
              · skip
                rw [g.2]; exact fX43
              · skip
                rw [g.2]; exact fX43
theorem gf_274 {X : fx_X} {v : Int32} {X' : fx_X} (g : gx_274 X v X') : fy fF_274 fL_274 fA_274 X X' := by
  obtain ⟨n, g⟩ := g
  unfold gxE_274 at g
  obtain ⟨X2, eX2, g⟩ := g
  have fX2 : fy fF_274 fL_274 fA_274 X X2 := by rw [eX2]; exact fy_f (fy_rf (X := X)) (by decide)
  replace g := g.2
  obtain ⟨x5, -, g⟩ := g
  replace g := g.2
  obtain ⟨x9, -, g⟩ := g
  obtain ⟨X11, eX11, g⟩ := g
  have fX11 : fy fF_274 fL_274 fA_274 X X11 := by rw [eX11]; exact fy_f fX2 (by decide)
  obtain ⟨x12, -, g⟩ := g
  rcases fy_if g with g | g
  · skip
    obtain ⟨w33, X32, rX32, g⟩ := g
    have fX32 : fy fF_274 fL_274 fA_274 X X32 := fy_tr fX11 (fy_sub (gf_275 rX32) (by decide) (by decide) (by decide))
    rw [g.2]; exact fX32
  · skip
    replace g := g.2
    rcases fy_if g with g | g
    · skip
      exact fy_tr fX11 (gfl_274 n _ _ _ _ _ _ _ g)
    · skip
      replace g := g.2
      rcases fy_if g with g | g
      · skip
        exact fy_tr fX11 (gfl_274 n _ _ _ _ _ _ _ g)
      · skip
        obtain ⟨w28, X27, rX27, g⟩ := g
        have fX27 : fy fF_274 fL_274 fA_274 X X27 := fy_z fX11 (gf_277 rX27)
        rcases fy_if g with g | g
        · skip
          obtain ⟨w31, X30, rX30, g⟩ := g
          have fX30 : fy fF_274 fL_274 fA_274 X X30 := fy_tr fX27 (fy_sub (gf_218 rX30) (by decide) (by decide) (by decide))
          exact fy_tr fX30 (gfl_274 n _ _ _ _ _ _ _ g)
        · skip
          exact fy_tr fX27 (gfl_274 n _ _ _ _ _ _ _ g)
abbrev fF_250 : List (Nat × Nat) := [(117, 24), (117, 25), (117, 26), (117, 27), (117, 28), (117, 29), (117, 30), (117, 31), (117, 34)]
abbrev fL_250 : List (Nat × Nat) := [(117, 33)]
abbrev fA_250 : List Nat := [131, 132, 133, 134, 135, 136]
theorem gf_250 {p1 : Int32} {X : fx_X} {v : Int32} {X' : fx_X} (g : gx_250 p1 X v X') : fy fF_250 fL_250 fA_250 X X' := by
  unfold gx_250 at g
  obtain ⟨w3, X2, rX2, g⟩ := g
  have fX2 : fy fF_250 fL_250 fA_250 X X2 := fy_tr (fy_rf (X := X)) (fy_sub (gf_216 rX2) (by decide) (by decide) (by decide))
  rcases fy_if g with g | g
  · skip
    rw [g.2]; exact fX2
  · skip
    obtain ⟨w6, X5, rX5, g⟩ := g
    have fX5 : fy fF_250 fL_250 fA_250 X X5 := fy_z fX2 (gf_231 rX5)
    rcases fy_if g with g | g
    · skip
      obtain ⟨w12, X11, rX11, g⟩ := g
      have fX11 : fy fF_250 fL_250 fA_250 X X11 := fy_tr fX5 (fy_sub (gf_218 rX11) (by decide) (by decide) (by decide))
      replace g := g.2
      obtain ⟨X15, eX15, g⟩ := g
      have fX15 : fy fF_250 fL_250 fA_250 X X15 := by rw [eX15]; exact fy_a fX11 (by decide)
      replace g := g.2
      obtain ⟨X18, eX18, g⟩ := g
      have fX18 : fy fF_250 fL_250 fA_250 X X18 := by rw [eX18]; exact fy_a fX15 (by decide)
      rw [g.2]; exact fX18
    · skip
      obtain ⟨w10, X9, rX9, g⟩ := g
      have fX9 : fy fF_250 fL_250 fA_250 X X9 := fy_tr fX5 (fy_sub (gf_251 rX9) (by decide) (by decide) (by decide))
      rw [g.2]; exact fX9
abbrev fF_264 : List (Nat × Nat) := [(117, 24), (117, 25), (117, 26), (117, 27), (117, 28), (117, 29), (117, 30), (117, 31), (117, 47)]
abbrev fL_264 : List (Nat × Nat) := []
abbrev fA_264 : List Nat := []
theorem gf_264 {X : fx_X} {v : Int32} {X' : fx_X} (g : gx_264 X v X') : fy fF_264 fL_264 fA_264 X X' := by
  unfold gx_264 at g
  rcases fy_if g with g | g
  · skip
    obtain ⟨w7, X6, rX6, g⟩ := g
    have fX6 : fy fF_264 fL_264 fA_264 X X6 := fy_tr (fy_rf (X := X)) (fy_sub (gf_215 rX6) (by decide) (by decide) (by decide))
    rw [g.2]; exact fX6
  · skip
    obtain ⟨X3, eX3, g⟩ := g
    have fX3 : fy fF_264 fL_264 fA_264 X X3 := by rw [eX3]; exact fy_f (fy_rf (X := X)) (by decide)
    obtain ⟨w5, X4, rX4, g⟩ := g
    have fX4 : fy fF_264 fL_264 fA_264 X X4 := fy_tr fX3 (fy_sub (gf_214 rX4) (by decide) (by decide) (by decide))
    rw [g.2]; exact fX4
abbrev fF_256 : List (Nat × Nat) := [(117, 24), (117, 25)]
abbrev fL_256 : List (Nat × Nat) := []
abbrev fA_256 : List Nat := []
theorem gf_256 {p1 : Int32} {X : fx_X} {v : Int32} {X' : fx_X} (g : gx_256 p1 X v X') : fy fF_256 fL_256 fA_256 X X' := by
  unfold gx_256 at g
  replace g := g.2
  rcases fy_if g with g | g
  · skip
    rw [g.2]; exact (fy_rf (X := X))
  · skip
    obtain ⟨w6, X5, rX5, g⟩ := g
    have fX5 : fy fF_256 fL_256 fA_256 X X5 := fy_z (fy_rf (X := X)) (gf_233 rX5)
    rcases fy_if g with g | g
    · skip
      obtain ⟨w10, X9, rX9, g⟩ := g
      have fX9 : fy fF_256 fL_256 fA_256 X X9 := fy_tr fX5 (fy_sub (gf_218 rX9) (by decide) (by decide) (by decide))
      rw [g.2]; exact fX9
    · skip
      rw [g.2]; exact fX5
abbrev fF_261 : List (Nat × Nat) := [(117, 24), (117, 25), (117, 26), (117, 27), (117, 28), (117, 29), (117, 30), (117, 31), (117, 34), (117, 56)]
abbrev fL_261 : List (Nat × Nat) := [(117, 33)]
abbrev fA_261 : List Nat := [132, 142]
theorem gfl_261 (p1 : Int32) (p2 : Int32) : ∀ (n l : Nat) (is : List Int32) (ls : List Int64) (rs : List Nat) (X : fx_X) (v : Int32) (X' : fx_X), gxF_261 p1 p2 n l is ls rs X v X' → fy fF_261 fL_261 fA_261 X X' := by
  intro n
  induction n with
  | zero => intro l is ls rs X v X' g; exact g.elim
  | succ n ih =>
    intro l is ls rs X v X' g
    rcases g with ⟨-, y3, y4, -, -, -, g⟩ | ⟨-, y3, y5, y6, -, -, -, g⟩
    · unfold gxT_261_51 at g
      rcases fy_if g with g | g
      · skip
        rcases fy_if g with g | g
        · skip
          obtain ⟨w31, X30, rX30, g⟩ := g
          have fX30 : fy fF_261 fL_261 fA_261 X X30 := fy_tr (fy_rf (X := X)) (fy_sub (gf_219 rX30) (by decide) (by decide) (by decide))
          rw [g.2]; exact fX30
        · skip
          replace g := g.2
          obtain ⟨X34, eX34, g⟩ := g
          have fX34 : fy fF_261 fL_261 fA_261 X X34 := by rw [eX34]; exact fy_a (fy_rf (X := X)) (by decide)
          obtain ⟨w36, X35, rX35, g⟩ := g
          have fX35 : fy fF_261 fL_261 fA_261 X X35 := fy_tr fX34 (fy_sub (gf_219 rX35) (by decide) (by decide) (by decide))
          rw [g.2]; exact fX35
      · skip
        obtain ⟨w38, X37, rX37, g⟩ := g
        have fX37 : fy fF_261 fL_261 fA_261 X X37 := fy_tr (fy_rf (X := X)) (fy_sub (gf_216 rX37) (by decide) (by decide) (by decide))
        rcases fy_if g with g | g
        · skip
          rw [g.2]; exact fX37
        · skip
          obtain ⟨w41, X40, rX40, g⟩ := g
          have fX40 : fy fF_261 fL_261 fA_261 X X40 := fy_tr fX37 (fy_sub (gf_256 rX40) (by decide) (by decide) (by decide))
          exact fy_tr fX40 (ih _ _ _ _ _ _ _ g)
    · unfold gxT_261_75 at g
      rcases fy_if g with g | g
      · skip
        rcases fy_if g with g | g
        · skip
          obtain ⟨x79, -, g⟩ := g
          exact fy_tr (fy_rf (X := X)) (ih _ _ _ _ _ _ _ g)
        · skip
          replace g := g.2
          rcases fy_if g with g | g
          · skip
            obtain ⟨w87, X86, rX86, g⟩ := g
            have fX86 : fy fF_261 fL_261 fA_261 X X86 := fy_tr (fy_rf (X := X)) (fy_sub (gf_218 rX86) (by decide) (by decide) (by decide))
            obtain ⟨x89, -, g⟩ := g
            exact fy_tr fX86 (ih _ _ _ _ _ _ _ g)
          · skip
            obtain ⟨x84, -, g⟩ := g
            exact fy_tr (fy_rf (X := X)) (ih _ _ _ _ _ _ _ g)
      · skip
        rcases fy_if g with g | g
        · skip
          rcases fy_if g with g | g
          · skip
            obtain ⟨w72, X71, rX71, g⟩ := g
            have fX71 : fy fF_261 fL_261 fA_261 X X71 := fy_z (fy_rf (X := X)) (gf_220 rX71)
            rcases fy_if g with g | g
            · skip
              exact fy_tr fX71 (ih _ _ _ _ _ _ _ g)
            · skip
              obtain ⟨w76, X75, rX75, g⟩ := g
              have fX75 : fy fF_261 fL_261 fA_261 X X75 := fy_tr fX71 (fy_sub (gf_214 rX75) (by decide) (by decide) (by decide))
              rcases fy_if g with g | g
              · skip
                rw [g.2]; exact fX75
              · skip
                exact fy_tr fX75 (ih _ _ _ _ _ _ _ g)
          · skip
            replace g := g.2
            obtain ⟨X60, eX60, g⟩ := g
            have fX60 : fy fF_261 fL_261 fA_261 X X60 := by rw [eX60]; exact fy_a (fy_rf (X := X)) (by decide)
            obtain ⟨X61, eX61, g⟩ := g
            have fX61 : fy fF_261 fL_261 fA_261 X X61 := by rw [eX61]; exact fy_f fX60 (by decide)
            obtain ⟨w63, X62, rX62, g⟩ := g
            have fX62 : fy fF_261 fL_261 fA_261 X X62 := fy_z fX61 (gf_220 rX62)
            rcases fy_if g with g | g
            · skip
              exact fy_tr fX62 (ih _ _ _ _ _ _ _ g)
            · skip
              obtain ⟨w67, X66, rX66, g⟩ := g
              have fX66 : fy fF_261 fL_261 fA_261 X X66 := fy_tr fX62 (fy_sub (gf_214 rX66) (by decide) (by decide) (by decide))
              rcases fy_if g with g | g
              · skip
                rw [g.2]; exact fX66
              · skip
                exact fy_tr fX66 (ih _ _ _ _ _ _ _ g)
        · skip
          obtain ⟨w49, X48, rX48, g⟩ := g
          have fX48 : fy fF_261 fL_261 fA_261 X X48 := fy_z (fy_rf (X := X)) (gf_220 rX48)
          rcases fy_if g with g | g
          · skip
            exact fy_tr fX48 (ih _ _ _ _ _ _ _ g)
          · skip
            obtain ⟨w53, X52, rX52, g⟩ := g
            have fX52 : fy fF_261 fL_261 fA_261 X X52 := fy_tr fX48 (fy_sub (gf_214 rX52) (by decide) (by decide) (by decide))
            rcases fy_if g with g | g
            · skip
              rw [g.2]; exact fX52
            · skip
              exact fy_tr fX52 (ih _ _ _ _ _ _ _ g)
theorem gf_261 {p1 : Int32} {p2 : Int32} {X : fx_X} {v : Int32} {X' : fx_X} (g : gx_261 p1 p2 X v X') : fy fF_261 fL_261 fA_261 X X' := by
  obtain ⟨n, g⟩ := g
  unfold gxE_261 at g
  obtain ⟨X2, eX2, g⟩ := g
  have fX2 : fy fF_261 fL_261 fA_261 X X2 := by rw [eX2]; exact fy_f (fy_rf (X := X)) (by decide)
  replace g := g.2
  rcases fy_if g with g | g
  · skip
    obtain ⟨w19, X18, rX18, g⟩ := g
    have fX18 : fy fF_261 fL_261 fA_261 X X18 := fy_tr fX2 (fy_sub (gf_219 rX18) (by decide) (by decide) (by decide))
    rcases fy_if g with g | g
    · skip
      rw [g.2]; exact fX18
    · skip
      rcases fy_if g with g | g
      · skip
        exact fy_tr fX18 (gfl_261 _ _ n _ _ _ _ _ _ _ g)
      · skip
        obtain ⟨w24, X23, rX23, g⟩ := g
        have fX23 : fy fF_261 fL_261 fA_261 X X23 := fy_z fX18 (gf_220 rX23)
        rcases fy_if g with g | g
        · skip
          exact fy_tr fX23 (gfl_261 _ _ n _ _ _ _ _ _ _ g)
        · skip
          exact fy_tr fX23 (gfl_261 _ _ n _ _ _ _ _ _ _ g)
  · skip
    obtain ⟨w8, X7, rX7, g⟩ := g
    have fX7 : fy fF_261 fL_261 fA_261 X X7 := fy_tr fX2 (fy_sub (gf_219 rX7) (by decide) (by decide) (by decide))
    rcases fy_if g with g | g
    · skip
      rw [g.2]; exact fX7
    · skip
      rcases fy_if g with g | g
      · skip
        exact fy_tr fX7 (gfl_261 _ _ n _ _ _ _ _ _ _ g)
      · skip
        obtain ⟨w13, X12, rX12, g⟩ := g
        have fX12 : fy fF_261 fL_261 fA_261 X X12 := fy_z fX7 (gf_220 rX12)
        rcases fy_if g with g | g
        · skip
          exact fy_tr fX12 (gfl_261 _ _ n _ _ _ _ _ _ _ g)
        · skip
          exact fy_tr fX12 (gfl_261 _ _ n _ _ _ _ _ _ _ g)
theorem gfl_267 (p1 : Int32) (p2 : Int32) (p3 : Int32) (p4 : Int32) (p5 : Int32) : ∀ (n l : Nat) (is : List Int32) (ls : List Int64) (rs : List Nat) (X : fx_X) (v : Int32) (X' : fx_X), gxF_267 p1 p2 p3 p4 p5 n l is ls rs X v X' → fy [] [] [] X X' := by
  intro n
  induction n with
  | zero => intro l is ls rs X v X' g; exact g.elim
  | succ n ih =>
    intro l is ls rs X v X' g
    rcases g with ⟨-, y6, -, -, -, g⟩
    · unfold gxT_267_3 at g
      replace g := g.2
      rcases fy_if g with g | g
      · skip
        obtain ⟨w7, X6, rX6, g⟩ := g
        have fX6 : fy [] [] [] X X6 := fy_z (fy_rf (X := X)) (gf_258 rX6)
        obtain ⟨w10, X9, rX9, g⟩ := g
        have fX9 : fy [] [] [] X X9 := fy_z fX6 (gf_258 rX9)
        rcases fy_if g with g | g
        · skip
          obtain ⟨x13, -, g⟩ := g
          exact fy_tr fX9 (ih _ _ _ _ _ _ _ g)
        · skip
          rcases fy_if g with g | g
          · skip
            rw [g.2]; exact fX9
          · skip
            rw [g.2]; exact fX9
      · skip
        rw [g.2]; exact (fy_rf (X := X))
theorem gf_267 {p1 : Int32} {p2 : Int32} {p3 : Int32} {p4 : Int32} {p5 : Int32} {X : fx_X} {v : Int32} {X' : fx_X} (g : gx_267 p1 p2 p3 p4 p5 X v X') : fy [] [] [] X X' := by
  obtain ⟨n, g⟩ := g
  unfold gxE_267 at g
  exact fy_tr (fy_rf (X := X)) (gfl_267 _ _ _ _ _ n _ _ _ _ _ _ _ g)
abbrev fF_266 : List (Nat × Nat) := [(117, 58)]
abbrev fL_266 : List (Nat × Nat) := []
abbrev fA_266 : List Nat := [143]
theorem gfl_266 (p1 : Int32) (p2 : Int32) : ∀ (n l : Nat) (is : List Int32) (ls : List Int64) (rs : List Nat) (X : fx_X) (v : Unit) (X' : fx_X), gxF_266 p1 p2 n l is ls rs X v X' → fy fF_266 fL_266 fA_266 X X' := by
  intro n
  induction n with
  | zero => intro l is ls rs X v X' g; exact g.elim
  | succ n ih =>
    intro l is ls rs X v X' g
    rcases g with ⟨-, y3, -, -, -, g⟩ | ⟨-, y3, y4, -, -, -, g⟩ | ⟨-, y3, y4, y5, -, -, -, g⟩
    · unfold gxT_266_7 at g
      replace g := g.2
      rcases fy_if g with g | g
      · skip
        obtain ⟨w9, X8, rX8, g⟩ := g
        have fX8 : fy fF_266 fL_266 fA_266 X X8 := fy_z (fy_rf (X := X)) (gf_225 rX8)
        obtain ⟨w11, X10, rX10, g⟩ := g
        have fX10 : fy fF_266 fL_266 fA_266 X X10 := fy_z fX8 (gf_227 rX10)
        rcases fy_if g with g | g
        · skip
          obtain ⟨x14, -, g⟩ := g
          exact fy_tr fX10 (ih _ _ _ _ _ _ _ g)
        · skip
          exact fy_tr fX10 (ih _ _ _ _ _ _ _ g)
      · skip
        rw [g]; exact (fy_rf (X := X))
    · unfold gxT_266_40 at g
      rcases fy_if g with g | g
      · skip
        replace g := g.2
        obtain ⟨w32, X31, rX31, g⟩ := g
        have fX31 : fy fF_266 fL_266 fA_266 X X31 := fy_z (fy_rf (X := X)) (gf_267 rX31)
        rcases fy_if g with g | g
        · skip
          obtain ⟨x46, -, g⟩ := g
          exact fy_tr fX31 (ih _ _ _ _ _ _ _ g)
        · skip
          rcases fy_if g with g | g
          · skip
            replace g := g.2
            obtain ⟨w40, X39, rX39, g⟩ := g
            have fX39 : fy fF_266 fL_266 fA_266 X X39 := fy_z fX31 (gf_267 rX39)
            rcases fy_if g with g | g
            · skip
              obtain ⟨x44, -, g⟩ := g
              exact fy_tr fX39 (ih _ _ _ _ _ _ _ g)
            · skip
              obtain ⟨x42, -, g⟩ := g
              exact fy_tr fX39 (ih _ _ _ _ _ _ _ g)
          · skip
            obtain ⟨x35, -, g⟩ := g
            exact fy_tr fX31 (ih _ _ _ _ _ _ _ g)
      · skip
        rcases fy_if g with g | g
        · skip
          replace g := g.2
          obtain ⟨w23, X22, rX22, g⟩ := g
          have fX22 : fy fF_266 fL_266 fA_266 X X22 := fy_z (fy_rf (X := X)) (gf_267 rX22)
          rcases fy_if g with g | g
          · skip
            obtain ⟨x27, -, g⟩ := g
            exact fy_tr fX22 (ih _ _ _ _ _ _ _ g)
          · skip
            obtain ⟨x25, -, g⟩ := g
            exact fy_tr fX22 (ih _ _ _ _ _ _ _ g)
        · skip
          obtain ⟨x18, -, g⟩ := g
          exact fy_tr (fy_rf (X := X)) (ih _ _ _ _ _ _ _ g)
    · unfold gxT_266_109 at g
      rcases fy_if g with g | g
      · skip
        replace g := g.2
        replace g := g.2
        obtain ⟨X59, eX59, g⟩ := g
        have fX59 : fy fF_266 fL_266 fA_266 X X59 := by rw [eX59]; exact fy_a (fy_rf (X := X)) (by decide)
        obtain ⟨x60, -, g⟩ := g
        exact fy_tr fX59 (ih _ _ _ _ _ _ _ g)
      · skip
        replace g := g.2
        obtain ⟨X51, eX51, g⟩ := g
        have fX51 : fy fF_266 fL_266 fA_266 X X51 := by rw [eX51]; exact fy_a (fy_rf (X := X)) (by decide)
        obtain ⟨X52, eX52, g⟩ := g
        have fX52 : fy fF_266 fL_266 fA_266 X X52 := by rw [eX52]; exact fy_f fX51 (by decide)
        obtain ⟨x53, -, g⟩ := g
        exact fy_tr fX52 (ih _ _ _ _ _ _ _ g)
theorem gf_266 {p1 : Int32} {p2 : Int32} {X : fx_X} {v : Unit} {X' : fx_X} (g : gx_266 p1 p2 X v X') : fy fF_266 fL_266 fA_266 X X' := by
  obtain ⟨n, g⟩ := g
  unfold gxE_266 at g
  obtain ⟨X2, eX2, g⟩ := g
  have fX2 : fy fF_266 fL_266 fA_266 X X2 := by rw [eX2]; exact fy_f (fy_rf (X := X)) (by decide)
  exact fy_tr fX2 (gfl_266 _ _ n _ _ _ _ _ _ _ g)
theorem gfl_269 (p1 : Int32) (p2 : Int32) (p3 : Int32) (p4 : Int32) : ∀ (n l : Nat) (is : List Int32) (ls : List Int64) (rs : List Nat) (X : fx_X) (v : Int32) (X' : fx_X), gxF_269 p1 p2 p3 p4 n l is ls rs X v X' → fy [] [] [] X X' := by
  intro n
  induction n with
  | zero => intro l is ls rs X v X' g; exact g.elim
  | succ n ih =>
    intro l is ls rs X v X' g
    rcases g with ⟨-, y5, -, -, -, g⟩
    · unfold gxT_269_3 at g
      rcases fy_if g with g | g
      · skip
        replace g := g.2
        obtain ⟨w7, X6, rX6, g⟩ := g
        have fX6 : fy [] [] [] X X6 := fy_z (fy_rf (X := X)) (gf_258 rX6)
        replace g := g.2
        obtain ⟨w11, X10, rX10, g⟩ := g
        have fX10 : fy [] [] [] X X10 := fy_z fX6 (gf_258 rX10)
        rcases fy_if g with g | g
        · skip
          obtain ⟨x13, -, g⟩ := g
          exact fy_tr fX10 (ih _ _ _ _ _ _ _ g)
        · skip
          rw [g.2]; exact fX10
      · skip
        rw [g.2]; exact (fy_rf (X := X))
theorem gf_269 {p1 : Int32} {p2 : Int32} {p3 : Int32} {p4 : Int32} {X : fx_X} {v : Int32} {X' : fx_X} (g : gx_269 p1 p2 p3 p4 X v X') : fy [] [] [] X X' := by
  obtain ⟨n, g⟩ := g
  unfold gxE_269 at g
  exact fy_tr (fy_rf (X := X)) (gfl_269 _ _ _ _ n _ _ _ _ _ _ _ g)
theorem gfl_268 (p1 : Int32) (p2 : Int32) (p3 : Int32) : ∀ (n l : Nat) (is : List Int32) (ls : List Int64) (rs : List Nat) (X : fx_X) (v : Int32) (X' : fx_X), gxF_268 p1 p2 p3 n l is ls rs X v X' → fy [] [] [] X X' := by
  intro n
  induction n with
  | zero => intro l is ls rs X v X' g; exact g.elim
  | succ n ih =>
    intro l is ls rs X v X' g
    rcases g with ⟨-, y4, -, -, -, g⟩
    · unfold gxT_268_3 at g
      rcases fy_if g with g | g
      · skip
        replace g := g.2
        replace g := g.2
        obtain ⟨w9, X8, rX8, g⟩ := g
        have fX8 : fy [] [] [] X X8 := fy_z (fy_rf (X := X)) (gf_269 rX8)
        rcases fy_if g with g | g
        · skip
          obtain ⟨x11, -, g⟩ := g
          exact fy_tr fX8 (ih _ _ _ _ _ _ _ g)
        · skip
          rw [g.2]; exact fX8
      · skip
        rw [g.2]; exact (fy_rf (X := X))
theorem gf_268 {p1 : Int32} {p2 : Int32} {p3 : Int32} {X : fx_X} {v : Int32} {X' : fx_X} (g : gx_268 p1 p2 p3 X v X') : fy [] [] [] X X' := by
  obtain ⟨n, g⟩ := g
  unfold gxE_268 at g
  exact fy_tr (fy_rf (X := X)) (gfl_268 _ _ _ n _ _ _ _ _ _ _ g)
abbrev fF_270 : List (Nat × Nat) := []
abbrev fL_270 : List (Nat × Nat) := []
abbrev fA_270 : List Nat := [144]
theorem gfl_270 (p1 : Int32) (p2 : Int32) (p3 : Int32) (p4 : Int32) (p5 : Int32) : ∀ (n l : Nat) (is : List Int32) (ls : List Int64) (rs : List Nat) (X : fx_X) (v : Unit) (X' : fx_X), gxF_270 p1 p2 p3 p4 p5 n l is ls rs X v X' → fy fF_270 fL_270 fA_270 X X' := by
  intro n
  induction n with
  | zero => intro l is ls rs X v X' g; exact g.elim
  | succ n ih =>
    intro l is ls rs X v X' g
    rcases g with ⟨-, y6, -, -, -, g⟩ | ⟨-, y6, y7, -, -, -, g⟩
    · unfold gxT_270_3 at g
      rcases fy_if g with g | g
      · skip
        replace g := g.2
        replace g := g.2
        obtain ⟨w22, X21, rX21, g⟩ := g
        have fX21 : fy fF_270 fL_270 fA_270 X X21 := fy_z (fy_rf (X := X)) (gf_258 rX21)
        replace g := g.2
        obtain ⟨X24, eX24, g⟩ := g
        have fX24 : fy fF_270 fL_270 fA_270 X X24 := by rw [eX24]; exact fy_a fX21 (by decide)
        obtain ⟨x25, -, g⟩ := g
        exact fy_tr fX24 (ih _ _ _ _ _ _ _ g)
      · skip
        rcases fy_if g with g | g
        · skip
          exact fy_tr (fy_rf (X := X)) (ih _ _ _ _ _ _ _ g)
        · skip
          rcases fy_if g with g | g
          · skip
            exact fy_tr (fy_rf (X := X)) (ih _ _ _ _ _ _ _ g)
          · skip
            replace g := g.2
            obtain ⟨w11, X10, rX10, g⟩ := g
            have fX10 : fy fF_270 fL_270 fA_270 X X10 := fy_z (fy_rf (X := X)) (gf_258 rX10)
            exact fy_tr fX10 (ih _ _ _ _ _ _ _ g)
    · unfold gxT_270_81 at g
      rcases fy_if g with g | g
      · skip
        replace g := g.2
        replace g := g.2
        obtain ⟨w36, X35, rX35, g⟩ := g
        have fX35 : fy fF_270 fL_270 fA_270 X X35 := fy_z (fy_rf (X := X)) (gf_269 rX35)
        rcases fy_if g with g | g
        · skip
          obtain ⟨x38, -, g⟩ := g
          exact fy_tr fX35 (ih _ _ _ _ _ _ _ g)
        · skip
          rcases fy_if g with g | g
          · skip
            rcases fy_if g with g | g
            · skip
              obtain ⟨x73, -, g⟩ := g
              obtain ⟨x75, -, g⟩ := g
              exact fy_tr fX35 (ih _ _ _ _ _ _ _ g)
            · skip
              rcases fy_if g with g | g
              · skip
                obtain ⟨x93, -, g⟩ := g
                obtain ⟨x95, -, g⟩ := g
                exact fy_tr fX35 (ih _ _ _ _ _ _ _ g)
              · skip
                rcases fy_if g with g | g
                · skip
                  rcases fy_if g with g | g
                  · skip
                    obtain ⟨x91, -, g⟩ := g
                    exact fy_tr fX35 (ih _ _ _ _ _ _ _ g)
                  · skip
                    obtain ⟨x88, -, g⟩ := g
                    exact fy_tr fX35 (ih _ _ _ _ _ _ _ g)
                · skip
                  rcases fy_if g with g | g
                  · skip
                    obtain ⟨x84, -, g⟩ := g
                    exact fy_tr fX35 (ih _ _ _ _ _ _ _ g)
                  · skip
                    obtain ⟨x81, -, g⟩ := g
                    exact fy_tr fX35 (ih _ _ _ _ _ _ _ g)
          · skip
            replace g := g.2
            obtain ⟨w44, X43, rX43, g⟩ := g
            have fX43 : fy fF_270 fL_270 fA_270 X X43 := fy_z fX35 (gf_258 rX43)
            rcases fy_if g with g | g
            · skip
              obtain ⟨x47, -, g⟩ := g
              obtain ⟨x49, -, g⟩ := g
              exact fy_tr fX43 (ih _ _ _ _ _ _ _ g)
            · skip
              rcases fy_if g with g | g
              · skip
                obtain ⟨x67, -, g⟩ := g
                obtain ⟨x69, -, g⟩ := g
                exact fy_tr fX43 (ih _ _ _ _ _ _ _ g)
              · skip
                rcases fy_if g with g | g
                · skip
                  rcases fy_if g with g | g
                  · skip
                    obtain ⟨x65, -, g⟩ := g
                    exact fy_tr fX43 (ih _ _ _ _ _ _ _ g)
                  · skip
                    obtain ⟨x62, -, g⟩ := g
                    exact fy_tr fX43 (ih _ _ _ _ _ _ _ g)
                · skip
                  rcases fy_if g with g | g
                  · skip
                    obtain ⟨x58, -, g⟩ := g
                    exact fy_tr fX43 (ih _ _ _ _ _ _ _ g)
                  · skip
                    obtain ⟨x55, -, g⟩ := g
                    exact fy_tr fX43 (ih _ _ _ _ _ _ _ g)
      · skip
        replace g := g.2
        obtain ⟨X30, eX30, g⟩ := g
        have fX30 : fy fF_270 fL_270 fA_270 X X30 := by rw [eX30]; exact fy_a (fy_rf (X := X)) (by decide)
        rw [g]; exact fX30
theorem gf_270 {p1 : Int32} {p2 : Int32} {p3 : Int32} {p4 : Int32} {p5 : Int32} {X : fx_X} {v : Unit} {X' : fx_X} (g : gx_270 p1 p2 p3 p4 p5 X v X') : fy fF_270 fL_270 fA_270 X X' := by
  obtain ⟨n, g⟩ := g
  unfold gxE_270 at g
  exact fy_tr (fy_rf (X := X)) (gfl_270 _ _ _ _ _ n _ _ _ _ _ _ _ g)
theorem gfl_272 (p1 : Int32) (p2 : Int32) : ∀ (n l : Nat) (is : List Int32) (ls : List Int64) (rs : List Nat) (X : fx_X) (v : Int32) (X' : fx_X), gxF_272 p1 p2 n l is ls rs X v X' → fy [] [] [] X X' := by
  intro n
  induction n with
  | zero => intro l is ls rs X v X' g; exact g.elim
  | succ n ih =>
    intro l is ls rs X v X' g
    rcases g with ⟨-, y3, -, -, -, g⟩
    · unfold gxT_272_2 at g
      rcases fy_if g with g | g
      · skip
        obtain ⟨w6, X5, rX5, g⟩ := g
        have fX5 : fy [] [] [] X X5 := fy_z (fy_rf (X := X)) (gf_236 rX5)
        replace g := g.2
        obtain ⟨x8, -, g⟩ := g
        replace g := g.2
        rcases fy_if g with g | g
        · skip
          obtain ⟨x13, -, g⟩ := g
          exact fy_tr fX5 (ih _ _ _ _ _ _ _ g)
        · skip
          replace g := g.2
          rcases fy_if g with g | g
          · skip
            rw [g.2]; exact fX5
          · skip
            rw [g.2]; exact fX5
      · skip
        rw [g.2]; exact (fy_rf (X := X))
theorem gf_272 {p1 : Int32} {p2 : Int32} {X : fx_X} {v : Int32} {X' : fx_X} (g : gx_272 p1 p2 X v X') : fy [] [] [] X X' := by
  obtain ⟨n, g⟩ := g
  unfold gxE_272 at g
  exact fy_tr (fy_rf (X := X)) (gfl_272 _ _ n _ _ _ _ _ _ _ g)
abbrev fF_271 : List (Nat × Nat) := []
abbrev fL_271 : List (Nat × Nat) := []
abbrev fA_271 : List Nat := [131, 134, 135, 136]
theorem gfl_271 (p1 : Int32) (p2 : Int32) : ∀ (n l : Nat) (is : List Int32) (ls : List Int64) (rs : List Nat) (X : fx_X) (v : Int32) (X' : fx_X), gxF_271 p1 p2 n l is ls rs X v X' → fy fF_271 fL_271 fA_271 X X' := by
  intro n
  induction n with
  | zero => intro l is ls rs X v X' g; exact g.elim
  | succ n ih =>
    intro l is ls rs X v X' g
    rcases g with ⟨-, y3, y4, -, -, -, g⟩ | ⟨-, y3, y5, -, -, -, g⟩ | ⟨-, y3, y5, -, -, -, g⟩ | ⟨-, y3, y5, -, -, -, g⟩
    · unfold gxT_271_5 at g
      rcases fy_if g with g | g
      · skip
        rcases fy_if g with g | g
        · skip
          obtain ⟨w55, X54, rX54, g⟩ := g
          have fX54 : fy fF_271 fL_271 fA_271 X X54 := fy_z (fy_rf (X := X)) (gf_272 rX54)
          rcases fy_if g with g | g
          · skip
            obtain ⟨x58, -, g⟩ := g
            exact fy_tr fX54 (ih _ _ _ _ _ _ _ g)
          · skip
            exact fy_tr fX54 (ih _ _ _ _ _ _ _ g)
        · skip
          rcases fy_if g with g | g
          · skip
            rcases fy_if g with g | g
            · skip
              rw [g.2]; exact (fy_rf (X := X))
            · skip
              obtain ⟨x39, -, g⟩ := g
              exact fy_tr (fy_rf (X := X)) (ih _ _ _ _ _ _ _ g)
          · skip
            rcases fy_if g with g | g
            · skip
              rcases fy_if g with g | g
              · skip
                rw [g.2]; exact (fy_rf (X := X))
              · skip
                obtain ⟨x52, -, g⟩ := g
                exact fy_tr (fy_rf (X := X)) (ih _ _ _ _ _ _ _ g)
            · skip
              obtain ⟨w44, X43, rX43, g⟩ := g
              have fX43 : fy fF_271 fL_271 fA_271 X X43 := fy_z (fy_rf (X := X)) (gf_225 rX43)
              obtain ⟨w46, X45, rX45, g⟩ := g
              have fX45 : fy fF_271 fL_271 fA_271 X X45 := fy_tr fX43 (fy_sub (gf_228 rX45) (by decide) (by decide) (by decide))
              rw [g.2]; exact fX45
      · skip
        rcases fy_if g with g | g
        · skip
          rcases fy_if g with g | g
          · skip
            rw [g.2]; exact (fy_rf (X := X))
          · skip
            obtain ⟨x15, -, g⟩ := g
            exact fy_tr (fy_rf (X := X)) (ih _ _ _ _ _ _ _ g)
        · skip
          rcases fy_if g with g | g
          · skip
            rcases fy_if g with g | g
            · skip
              rw [g.2]; exact (fy_rf (X := X))
            · skip
              obtain ⟨x28, -, g⟩ := g
              exact fy_tr (fy_rf (X := X)) (ih _ _ _ _ _ _ _ g)
          · skip
            obtain ⟨w20, X19, rX19, g⟩ := g
            have fX19 : fy fF_271 fL_271 fA_271 X X19 := fy_z (fy_rf (X := X)) (gf_225 rX19)
            obtain ⟨w22, X21, rX21, g⟩ := g
            have fX21 : fy fF_271 fL_271 fA_271 X X21 := fy_tr fX19 (fy_sub (gf_228 rX21) (by decide) (by decide) (by decide))
            rw [g.2]; exact fX21
    · unfold gxT_271_79 at g
      rcases fy_if g with g | g
      · skip
        obtain ⟨w67, X66, rX66, g⟩ := g
        have fX66 : fy fF_271 fL_271 fA_271 X X66 := fy_tr (fy_rf (X := X)) (fy_sub (gf_252 rX66) (by decide) (by decide) (by decide))
        obtain ⟨x68, -, g⟩ := g
        exact fy_tr fX66 (ih _ _ _ _ _ _ _ g)
      · skip
        obtain ⟨X64, eX64, g⟩ := g
        have fX64 : fy fF_271 fL_271 fA_271 X X64 := by rw [eX64]; exact fy_a (fy_rf (X := X)) (by decide)
        exact fy_tr fX64 (ih _ _ _ _ _ _ _ g)
    · unfold gxT_271_119 at g
      rcases fy_if g with g | g
      · skip
        obtain ⟨w74, X73, rX73, g⟩ := g
        have fX73 : fy fF_271 fL_271 fA_271 X X73 := fy_z (fy_rf (X := X)) (gf_236 rX73)
        replace g := g.2
        obtain ⟨X76, eX76, g⟩ := g
        have fX76 : fy fF_271 fL_271 fA_271 X X76 := by rw [eX76]; exact fy_a fX73 (by decide)
        obtain ⟨w79, X78, rX78, g⟩ := g
        have fX78 : fy fF_271 fL_271 fA_271 X X78 := fy_z fX76 (gf_236 rX78)
        replace g := g.2
        replace g := g.2
        obtain ⟨X83, eX83, g⟩ := g
        have fX83 : fy fF_271 fL_271 fA_271 X X83 := by rw [eX83]; exact fy_a fX78 (by decide)
        obtain ⟨x84, -, g⟩ := g
        exact fy_tr fX83 (ih _ _ _ _ _ _ _ g)
      · skip
        exact fy_tr (fy_rf (X := X)) (ih _ _ _ _ _ _ _ g)
    · unfold gxT_271_168 at g
      rcases fy_if g with g | g
      · skip
        obtain ⟨w94, X93, rX93, g⟩ := g
        have fX93 : fy fF_271 fL_271 fA_271 X X93 := fy_z (fy_rf (X := X)) (gf_225 rX93)
        replace g := g.2
        obtain ⟨X96, eX96, g⟩ := g
        have fX96 : fy fF_271 fL_271 fA_271 X X96 := by rw [eX96]; exact fy_a fX93 (by decide)
        obtain ⟨x97, -, g⟩ := g
        exact fy_tr fX96 (ih _ _ _ _ _ _ _ g)
      · skip
        obtain ⟨w89, X88, rX88, g⟩ := g
        have fX88 : fy fF_271 fL_271 fA_271 X X88 := fy_z (fy_rf (X := X)) (gf_225 rX88)
        obtain ⟨w91, X90, rX90, g⟩ := g
        have fX90 : fy fF_271 fL_271 fA_271 X X90 := fy_tr fX88 (fy_sub (gf_228 rX90) (by decide) (by decide) (by decide))
        rw [g.2]; exact fX90
theorem gf_271 {p1 : Int32} {p2 : Int32} {X : fx_X} {v : Int32} {X' : fx_X} (g : gx_271 p1 p2 X v X') : fy fF_271 fL_271 fA_271 X X' := by
  obtain ⟨n, g⟩ := g
  unfold gxE_271 at g
  exact fy_tr (fy_rf (X := X)) (gfl_271 _ _ n _ _ _ _ _ _ _ g)
abbrev fF_265 : List (Nat × Nat) := [(117, 24), (117, 25), (117, 31), (117, 58)]
abbrev fL_265 : List (Nat × Nat) := []
abbrev fA_265 : List Nat := [131, 132, 133, 134, 135, 136, 143, 144]
theorem gfl_265 (p1 : Int32) (p2 : Int32) (p3 : Int32) (p4 : Int32) : ∀ (n l : Nat) (is : List Int32) (ls : List Int64) (rs : List Nat) (X : fx_X) (v : Int32) (X' : fx_X), gxF_265 p1 p2 p3 p4 n l is ls rs X v X' → fy fF_265 fL_265 fA_265 X X' := by
  intro n
  induction n with
  | zero => intro l is ls rs X v X' g; exact g.elim
  | succ n ih =>
    intro l is ls rs X v X' g
    rcases g with ⟨-, y5, y6, -, -, -, g⟩ | ⟨-, y5, y6, -, -, -, g⟩ | ⟨-, y5, y6, y7, -, -, -, g⟩
    · unfold gxT_265_28 at g
      rcases fy_if g with g | g
      · skip
        replace g := g.2
        replace g := g.2
        replace g := g.2
        obtain ⟨X22, eX22, g⟩ := g
        have fX22 : fy fF_265 fL_265 fA_265 X X22 := by rw [eX22]; exact fy_b (fy_rf (X := X)) (by decide)
        obtain ⟨x23, -, g⟩ := g
        exact fy_tr fX22 (ih _ _ _ _ _ _ _ g)
      · skip
        replace g := g.2
        obtain ⟨X14, eX14, g⟩ := g
        have fX14 : fy fF_265 fL_265 fA_265 X X14 := by rw [eX14]; exact fy_b (fy_rf (X := X)) (by decide)
        exact fy_tr fX14 (ih _ _ _ _ _ _ _ g)
    · unfold gxT_265_91 at g
      rcases fy_if g with g | g
      · skip
        obtain ⟨w27, X26, rX26, g⟩ := g
        have fX26 : fy fF_265 fL_265 fA_265 X X26 := fy_tr (fy_rf (X := X)) (fy_sub (gf_251 rX26) (by decide) (by decide) (by decide))
        rw [g.2]; exact fX26
      · skip
        replace g := g.2
        rcases fy_if g with g | g
        · skip
          obtain ⟨w34, X33, rX33, g⟩ := g
          have fX33 : fy fF_265 fL_265 fA_265 X X33 := fy_tr (fy_rf (X := X)) (fy_sub (gf_266 rX33) (by decide) (by decide) (by decide))
          exact fy_tr fX33 (ih _ _ _ _ _ _ _ g)
        · skip
          obtain ⟨w32, X31, rX31, g⟩ := g
          have fX31 : fy fF_265 fL_265 fA_265 X X31 := fy_tr (fy_rf (X := X)) (fy_sub (gf_251 rX31) (by decide) (by decide) (by decide))
          rw [g.2]; exact fX31
    · unfold gxT_265_122 at g
      rcases fy_if g with g | g
      · skip
        obtain ⟨w40, X39, rX39, g⟩ := g
        have fX39 : fy fF_265 fL_265 fA_265 X X39 := fy_z (fy_rf (X := X)) (gf_268 rX39)
        rcases fy_if g with g | g
        · skip
          obtain ⟨x42, -, g⟩ := g
          exact fy_tr fX39 (ih _ _ _ _ _ _ _ g)
        · skip
          obtain ⟨w45, X44, rX44, g⟩ := g
          have fX44 : fy fF_265 fL_265 fA_265 X X44 := fy_tr fX39 (fy_sub (gf_270 rX44) (by decide) (by decide) (by decide))
          obtain ⟨w47, X46, rX46, g⟩ := g
          have fX46 : fy fF_265 fL_265 fA_265 X X46 := fy_tr fX44 (fy_sub (gf_271 rX46) (by decide) (by decide) (by decide))
          rcases fy_if g with g | g
          · skip
            obtain ⟨w52, X51, rX51, g⟩ := g
            have fX51 : fy fF_265 fL_265 fA_265 X X51 := fy_tr fX46 (fy_sub (gf_215 rX51) (by decide) (by decide) (by decide))
            rw [g.2]; exact fX51
          · skip
            obtain ⟨x49, -, g⟩ := g
            exact fy_tr fX46 (ih _ _ _ _ _ _ _ g)
      · skip
        obtain ⟨x37, -, g⟩ := g
        exact fy_tr (fy_rf (X := X)) (ih _ _ _ _ _ _ _ g)
theorem gf_265 {p1 : Int32} {p2 : Int32} {p3 : Int32} {p4 : Int32} {X : fx_X} {v : Int32} {X' : fx_X} (g : gx_265 p1 p2 p3 p4 X v X') : fy fF_265 fL_265 fA_265 X X' := by
  obtain ⟨n, g⟩ := g
  unfold gxE_265 at g
  obtain ⟨x2, -, g⟩ := g
  obtain ⟨X6, eX6, g⟩ := g
  have fX6 : fy fF_265 fL_265 fA_265 X X6 := by rw [eX6]; exact fy_a (fy_rf (X := X)) (by decide)
  obtain ⟨X9, eX9, g⟩ := g
  have fX9 : fy fF_265 fL_265 fA_265 X X9 := by rw [eX9]; exact fy_a fX6 (by decide)
  exact fy_tr fX9 (gfl_265 _ _ _ _ n _ _ _ _ _ _ _ g)
abbrev fF_263 : List (Nat × Nat) := [(117, 24), (117, 25), (117, 26), (117, 27), (117, 28), (117, 29), (117, 30), (117, 31), (117, 34), (117, 47), (117, 56), (117, 58)]
abbrev fL_263 : List (Nat × Nat) := [(117, 33)]
abbrev fA_263 : List Nat := [131, 132, 133, 134, 135, 136, 142, 143, 144]
theorem gfl_263 (p1 : Int32) : ∀ (n l : Nat) (is : List Int32) (ls : List Int64) (rs : List Nat) (X : fx_X) (v : Int32) (X' : fx_X), gxF_263 p1 n l is ls rs X v X' → fy fF_263 fL_263 fA_263 X X' := by
  intro n
  induction n with
  | zero => intro l is ls rs X v X' g; exact g.elim
  | succ n ih =>
    intro l is ls rs X v X' g
    rcases g with ⟨-, y2, -, -, -, g⟩ | ⟨-, y2, y3, y4, y5, y6, -, -, -, g⟩ | ⟨-, y2, y3, y4, y5, y6, y7, -, -, -, g⟩
    · unfold gxT_263_47 at g
      obtain ⟨w40, X39, rX39, g⟩ := g
      have fX39 : fy fF_263 fL_263 fA_263 X X39 := fy_tr (fy_rf (X := X)) (fy_sub (gf_215 rX39) (by decide) (by decide) (by decide))
      rw [g.2]; exact fX39
    · unfold gxT_263_123 at g
      rcases fy_if g with g | g
      · skip
        obtain ⟨w47, X46, rX46, g⟩ := g
        have fX46 : fy fF_263 fL_263 fA_263 X X46 := fy_tr (fy_rf (X := X)) (fy_sub (gf_216 rX46) (by decide) (by decide) (by decide))
        rcases fy_if g with g | g
        · skip
          rw [g.2]; exact fX46
        · skip
          rcases fy_if g with g | g
          · skip
            obtain ⟨w51, X50, rX50, g⟩ := g
            have fX50 : fy fF_263 fL_263 fA_263 X X50 := fy_tr fX46 (fy_sub (gf_256 rX50) (by decide) (by decide) (by decide))
            rcases fy_if g with g | g
            · skip
              rcases fy_if g with g | g
              · skip
                obtain ⟨w67, X66, rX66, g⟩ := g
                have fX66 : fy fF_263 fL_263 fA_263 X X66 := fy_tr fX50 (fy_sub (gf_216 rX66) (by decide) (by decide) (by decide))
                rcases fy_if g with g | g
                · skip
                  rw [g.2]; exact fX66
                · skip
                  exact fy_tr fX66 (ih _ _ _ _ _ _ _ g)
              · skip
                obtain ⟨w62, X61, rX61, g⟩ := g
                have fX61 : fy fF_263 fL_263 fA_263 X X61 := fy_tr fX50 (fy_sub (gf_216 rX61) (by decide) (by decide) (by decide))
                rcases fy_if g with g | g
                · skip
                  rw [g.2]; exact fX61
                · skip
                  exact fy_tr fX61 (ih _ _ _ _ _ _ _ g)
            · skip
              obtain ⟨w56, X55, rX55, g⟩ := g
              have fX55 : fy fF_263 fL_263 fA_263 X X55 := fy_tr fX50 (fy_sub (gf_216 rX55) (by decide) (by decide) (by decide))
              rcases fy_if g with g | g
              · skip
                rw [g.2]; exact fX55
              · skip
                exact fy_tr fX55 (ih _ _ _ _ _ _ _ g)
          · skip
            rcases fy_if g with g | g
            · skip
              obtain ⟨w80, X79, rX79, g⟩ := g
              have fX79 : fy fF_263 fL_263 fA_263 X X79 := fy_tr fX46 (fy_sub (gf_216 rX79) (by decide) (by decide) (by decide))
              rcases fy_if g with g | g
              · skip
                rw [g.2]; exact fX79
              · skip
                exact fy_tr fX79 (ih _ _ _ _ _ _ _ g)
            · skip
              obtain ⟨w74, X73, rX73, g⟩ := g
              have fX73 : fy fF_263 fL_263 fA_263 X X73 := fy_tr fX46 (fy_sub (gf_216 rX73) (by decide) (by decide) (by decide))
              rcases fy_if g with g | g
              · skip
                rw [g.2]; exact fX73
              · skip
                exact fy_tr fX73 (ih _ _ _ _ _ _ _ g)
      · skip
        obtain ⟨w43, X42, rX42, g⟩ := g
        have fX42 : fy fF_263 fL_263 fA_263 X X42 := fy_tr (fy_rf (X := X)) (fy_sub (gf_216 rX42) (by decide) (by decide) (by decide))
        rcases fy_if g with g | g
        · skip
          rw [g.2]; exact fX42
        · skip
          exact fy_tr fX42 (ih _ _ _ _ _ _ _ g)
    · unfold gxT_263_183 at g
      rcases fy_if g with g | g
      · skip
        rcases fy_if g with g | g
        · skip
          replace g := g.2
          replace g := g.2
          rcases fy_if g with g | g
          · skip
            obtain ⟨w113, X112, rX112, g⟩ := g
            have fX112 : fy fF_263 fL_263 fA_263 X X112 := fy_tr (fy_rf (X := X)) (fy_sub (gf_218 rX112) (by decide) (by decide) (by decide))
            obtain ⟨x115, -, g⟩ := g
            exact fy_tr fX112 (ih _ _ _ _ _ _ _ g)
          · skip
            obtain ⟨x110, -, g⟩ := g
            exact fy_tr (fy_rf (X := X)) (ih _ _ _ _ _ _ _ g)
        · skip
          rcases fy_if g with g | g
          · skip
            rcases fy_if g with g | g
            · skip
              obtain ⟨w101, X100, rX100, g⟩ := g
              have fX100 : fy fF_263 fL_263 fA_263 X X100 := fy_tr (fy_rf (X := X)) (fy_sub (gf_265 rX100) (by decide) (by decide) (by decide))
              rw [g.2]; exact fX100
            · skip
              replace g := g.2
              obtain ⟨X104, eX104, g⟩ := g
              have fX104 : fy fF_263 fL_263 fA_263 X X104 := by rw [eX104]; exact fy_a (fy_rf (X := X)) (by decide)
              rw [g.2]; exact fX104
          · skip
            replace g := g.2
            obtain ⟨X98, eX98, g⟩ := g
            have fX98 : fy fF_263 fL_263 fA_263 X X98 := by rw [eX98]; exact fy_a (fy_rf (X := X)) (by decide)
            rw [g.2]; exact fX98
      · skip
        rcases fy_if g with g | g
        · skip
          rcases fy_if g with g | g
          · skip
            obtain ⟨w90, X89, rX89, g⟩ := g
            have fX89 : fy fF_263 fL_263 fA_263 X X89 := fy_tr (fy_rf (X := X)) (fy_sub (gf_265 rX89) (by decide) (by decide) (by decide))
            rw [g.2]; exact fX89
          · skip
            replace g := g.2
            obtain ⟨X93, eX93, g⟩ := g
            have fX93 : fy fF_263 fL_263 fA_263 X X93 := by rw [eX93]; exact fy_a (fy_rf (X := X)) (by decide)
            rw [g.2]; exact fX93
        · skip
          replace g := g.2
          obtain ⟨X87, eX87, g⟩ := g
          have fX87 : fy fF_263 fL_263 fA_263 X X87 := by rw [eX87]; exact fy_a (fy_rf (X := X)) (by decide)
          rw [g.2]; exact fX87
theorem gf_263 {p1 : Int32} {X : fx_X} {v : Int32} {X' : fx_X} (g : gx_263 p1 X v X') : fy fF_263 fL_263 fA_263 X X' := by
  obtain ⟨n, g⟩ := g
  unfold gxE_263 at g
  obtain ⟨x2, -, g⟩ := g
  obtain ⟨w5, X4, rX4, g⟩ := g
  have fX4 : fy fF_263 fL_263 fA_263 X X4 := fy_tr (fy_rf (X := X)) (fy_sub (gf_264 rX4) (by decide) (by decide) (by decide))
  rcases fy_if g with g | g
  · skip
    rw [g.2]; exact fX4
  · skip
    obtain ⟨w8, X7, rX7, g⟩ := g
    have fX7 : fy fF_263 fL_263 fA_263 X X7 := fy_tr fX4 (fy_sub (gf_261 rX7) (by decide) (by decide) (by decide))
    rcases fy_if g with g | g
    · skip
      rw [g.2]; exact fX7
    · skip
      rcases fy_if g with g | g
      · skip
        rcases fy_if g with g | g
        · skip
          exact fy_tr fX7 (gfl_263 _ n _ _ _ _ _ _ _ g)
        · skip
          obtain ⟨x12, -, g⟩ := g
          rcases fy_if g with g | g
          · skip
            obtain ⟨w36, X35, rX35, g⟩ := g
            have fX35 : fy fF_263 fL_263 fA_263 X X35 := fy_tr fX7 (fy_sub (gf_215 rX35) (by decide) (by decide) (by decide))
            rw [g.2]; exact fX35
          · skip
            obtain ⟨w16, X15, rX15, g⟩ := g
            have fX15 : fy fF_263 fL_263 fA_263 X X15 := fy_tr fX7 (fy_sub (gf_214 rX15) (by decide) (by decide) (by decide))
            rcases fy_if g with g | g
            · skip
              rw [g.2]; exact fX15
            · skip
              replace g := g.2
              rcases fy_if g with g | g
              · skip
                exact fy_tr fX15 (gfl_263 _ n _ _ _ _ _ _ _ g)
              · skip
                rcases fy_if g with g | g
                · skip
                  obtain ⟨w30, X29, rX29, g⟩ := g
                  have fX29 : fy fF_263 fL_263 fA_263 X X29 := fy_tr fX15 (fy_sub (gf_218 rX29) (by decide) (by decide) (by decide))
                  exact fy_tr fX29 (gfl_263 _ n _ _ _ _ _ _ _ g)
                · skip
                  exact fy_tr fX15 (gfl_263 _ n _ _ _ _ _ _ _ g)
      · skip
        exact fy_tr fX7 (gfl_263 _ n _ _ _ _ _ _ _ g)
abbrev fF_262 : List (Nat × Nat) := [(117, 24), (117, 25), (117, 26), (117, 27), (117, 28), (117, 29), (117, 30), (117, 31), (117, 34)]
abbrev fL_262 : List (Nat × Nat) := [(117, 33)]
abbrev fA_262 : List Nat := [132, 133]
theorem gfl_262 (p1 : Int32) : ∀ (n l : Nat) (is : List Int32) (ls : List Int64) (rs : List Nat) (X : fx_X) (v : Int32) (X' : fx_X), gxF_262 p1 n l is ls rs X v X' → fy fF_262 fL_262 fA_262 X X' := by
  intro n
  induction n with
  | zero => intro l is ls rs X v X' g; exact g.elim
  | succ n ih =>
    intro l is ls rs X v X' g
    rcases g with ⟨-, y2, y4, -, -, -, g⟩
    · unfold gxT_262_63 at g
      obtain ⟨w24, X23, rX23, g⟩ := g
      have fX23 : fy fF_262 fL_262 fA_262 X X23 := fy_tr (fy_rf (X := X)) (fy_sub (gf_219 rX23) (by decide) (by decide) (by decide))
      rcases fy_if g with g | g
      · skip
        rw [g.2]; exact fX23
      · skip
        obtain ⟨w27, X26, rX26, g⟩ := g
        have fX26 : fy fF_262 fL_262 fA_262 X X26 := fy_tr fX23 (fy_sub (gf_216 rX26) (by decide) (by decide) (by decide))
        rcases fy_if g with g | g
        · skip
          rw [g.2]; exact fX26
        · skip
          rcases fy_if g with g | g
          · skip
            obtain ⟨w31, X30, rX30, g⟩ := g
            have fX30 : fy fF_262 fL_262 fA_262 X X30 := fy_tr fX26 (fy_sub (gf_256 rX30) (by decide) (by decide) (by decide))
            rcases fy_if g with g | g
            · skip
              replace g := g.2
              obtain ⟨X41, eX41, g⟩ := g
              have fX41 : fy fF_262 fL_262 fA_262 X X41 := by rw [eX41]; exact fy_a fX30 (by decide)
              obtain ⟨w43, X42, rX42, g⟩ := g
              have fX42 : fy fF_262 fL_262 fA_262 X X42 := fy_tr fX41 (fy_sub (gf_219 rX42) (by decide) (by decide) (by decide))
              rw [g.2]; exact fX42
            · skip
              replace g := g.2
              obtain ⟨X36, eX36, g⟩ := g
              have fX36 : fy fF_262 fL_262 fA_262 X X36 := by rw [eX36]; exact fy_b fX30 (by decide)
              obtain ⟨w38, X37, rX37, g⟩ := g
              have fX37 : fy fF_262 fL_262 fA_262 X X37 := fy_tr fX36 (fy_sub (gf_219 rX37) (by decide) (by decide) (by decide))
              rw [g.2]; exact fX37
          · skip
            replace g := g.2
            obtain ⟨X48, eX48, g⟩ := g
            have fX48 : fy fF_262 fL_262 fA_262 X X48 := by rw [eX48]; exact fy_a fX26 (by decide)
            obtain ⟨w50, X49, rX49, g⟩ := g
            have fX49 : fy fF_262 fL_262 fA_262 X X49 := fy_tr fX48 (fy_sub (gf_219 rX49) (by decide) (by decide) (by decide))
            rw [g.2]; exact fX49
theorem gf_262 {p1 : Int32} {X : fx_X} {v : Int32} {X' : fx_X} (g : gx_262 p1 X v X') : fy fF_262 fL_262 fA_262 X X' := by
  obtain ⟨n, g⟩ := g
  unfold gxE_262 at g
  obtain ⟨w3, X2, rX2, g⟩ := g
  have fX2 : fy fF_262 fL_262 fA_262 X X2 := fy_tr (fy_rf (X := X)) (fy_sub (gf_214 rX2) (by decide) (by decide) (by decide))
  rcases fy_if g with g | g
  · skip
    rw [g.2]; exact fX2
  · skip
    obtain ⟨w6, X5, rX5, g⟩ := g
    have fX5 : fy fF_262 fL_262 fA_262 X X5 := fy_tr fX2 (fy_sub (gf_216 rX5) (by decide) (by decide) (by decide))
    rcases fy_if g with g | g
    · skip
      rw [g.2]; exact fX5
    · skip
      obtain ⟨x8, -, g⟩ := g
      replace g := g.2
      rcases fy_if g with g | g
      · skip
        exact fy_tr fX5 (gfl_262 _ n _ _ _ _ _ _ _ g)
      · skip
        obtain ⟨w16, X15, rX15, g⟩ := g
        have fX15 : fy fF_262 fL_262 fA_262 X X15 := fy_z fX5 (gf_233 rX15)
        rcases fy_if g with g | g
        · skip
          exact fy_tr fX15 (gfl_262 _ n _ _ _ _ _ _ _ g)
        · skip
          obtain ⟨w19, X18, rX18, g⟩ := g
          have fX18 : fy fF_262 fL_262 fA_262 X X18 := fy_tr fX15 (fy_sub (gf_218 rX18) (by decide) (by decide) (by decide))
          exact fy_tr fX18 (gfl_262 _ n _ _ _ _ _ _ _ g)
abbrev fF_260 : List (Nat × Nat) := [(117, 24), (117, 25), (117, 26), (117, 27), (117, 28), (117, 29), (117, 30), (117, 31), (117, 34), (117, 56)]
abbrev fL_260 : List (Nat × Nat) := [(117, 33)]
abbrev fA_260 : List Nat := [131, 132, 133, 134, 135, 136, 142]
theorem gfl_260 (p1 : Int32) : ∀ (n l : Nat) (is : List Int32) (ls : List Int64) (rs : List Nat) (X : fx_X) (v : Int32) (X' : fx_X), gxF_260 p1 n l is ls rs X v X' → fy fF_260 fL_260 fA_260 X X' := by
  intro n
  induction n with
  | zero => intro l is ls rs X v X' g; exact g.elim
  | succ n ih =>
    intro l is ls rs X v X' g
    rcases g with ⟨-, y2, -, -, -, g⟩ | ⟨-, y2, y3, -, -, -, g⟩
    · unfold gxT_260_36 at g
      rcases fy_if g with g | g
      · skip
        replace g := g.2
        replace g := g.2
        replace g := g.2
        obtain ⟨X24, eX24, g⟩ := g
        have fX24 : fy fF_260 fL_260 fA_260 X X24 := by rw [eX24]; exact fy_b (fy_rf (X := X)) (by decide)
        exact fy_tr fX24 (ih _ _ _ _ _ _ _ g)
      · skip
        replace g := g.2
        obtain ⟨X17, eX17, g⟩ := g
        have fX17 : fy fF_260 fL_260 fA_260 X X17 := by rw [eX17]; exact fy_a (fy_rf (X := X)) (by decide)
        rw [g.2]; exact fX17
    · unfold gxT_260_72 at g
      rcases fy_if g with g | g
      · skip
        obtain ⟨x27, -, g⟩ := g
        exact fy_tr (fy_rf (X := X)) (ih _ _ _ _ _ _ _ g)
      · skip
        replace g := g.2
        rcases fy_if g with g | g
        · skip
          obtain ⟨w36, X35, rX35, g⟩ := g
          have fX35 : fy fF_260 fL_260 fA_260 X X35 := fy_z (fy_rf (X := X)) (gf_236 rX35)
          replace g := g.2
          obtain ⟨w41, X40, rX40, g⟩ := g
          have fX40 : fy fF_260 fL_260 fA_260 X X40 := fy_z fX35 (gf_236 rX40)
          replace g := g.2
          replace g := g.2
          obtain ⟨X44, eX44, g⟩ := g
          have fX44 : fy fF_260 fL_260 fA_260 X X44 := by rw [eX44]; exact fy_a fX40 (by decide)
          obtain ⟨w47, X46, rX46, g⟩ := g
          have fX46 : fy fF_260 fL_260 fA_260 X X46 := fy_z fX44 (gf_236 rX46)
          replace g := g.2
          obtain ⟨w52, X51, rX51, g⟩ := g
          have fX51 : fy fF_260 fL_260 fA_260 X X51 := fy_z fX46 (gf_236 rX51)
          replace g := g.2
          replace g := g.2
          obtain ⟨X55, eX55, g⟩ := g
          have fX55 : fy fF_260 fL_260 fA_260 X X55 := by rw [eX55]; exact fy_a fX51 (by decide)
          obtain ⟨x56, -, g⟩ := g
          exact fy_tr fX55 (ih _ _ _ _ _ _ _ g)
        · skip
          obtain ⟨x32, -, g⟩ := g
          exact fy_tr (fy_rf (X := X)) (ih _ _ _ _ _ _ _ g)
theorem gf_260 {p1 : Int32} {X : fx_X} {v : Int32} {X' : fx_X} (g : gx_260 p1 X v X') : fy fF_260 fL_260 fA_260 X X' := by
  obtain ⟨n, g⟩ := g
  unfold gxE_260 at g
  obtain ⟨w3, X2, rX2, g⟩ := g
  have fX2 : fy fF_260 fL_260 fA_260 X X2 := fy_tr (fy_rf (X := X)) (fy_sub (gf_214 rX2) (by decide) (by decide) (by decide))
  rcases fy_if g with g | g
  · skip
    rw [g.2]; exact fX2
  · skip
    obtain ⟨w6, X5, rX5, g⟩ := g
    have fX5 : fy fF_260 fL_260 fA_260 X X5 := fy_tr fX2 (fy_sub (gf_261 rX5) (by decide) (by decide) (by decide))
    rcases fy_if g with g | g
    · skip
      rw [g.2]; exact fX5
    · skip
      replace g := g.2
      rcases fy_if g with g | g
      · skip
        rw [g.2]; exact fX5
      · skip
        obtain ⟨w12, X11, rX11, g⟩ := g
        have fX11 : fy fF_260 fL_260 fA_260 X X11 := fy_tr fX5 (fy_sub (gf_251 rX11) (by decide) (by decide) (by decide))
        exact fy_tr fX11 (gfl_260 _ n _ _ _ _ _ _ _ g)
theorem gfl_217 (p1 : Int32) (p2 : Int64) : ∀ (n l : Nat) (is : List Int32) (ls : List Int64) (rs : List Nat) (X : fx_X) (v : Int32) (X' : fx_X), gxF_217 p1 p2 n l is ls rs X v X' → fy [] [] [] X X' := by
  intro n
  induction n with
  | zero => intro l is ls rs X v X' g; exact g.elim
  | succ n ih =>
    intro l is ls rs X v X' g
    rcases g with ⟨-, y4, -, -, -, g⟩
    · unfold gxT_217_3 at g
      replace g := g.2
      rcases fy_if g with g | g
      · skip
        replace g := g.2
        rcases fy_if g with g | g
        · skip
          rw [g.2]; exact (fy_rf (X := X))
        · skip
          obtain ⟨x9, -, g⟩ := g
          exact fy_tr (fy_rf (X := X)) (ih _ _ _ _ _ _ _ g)
      · skip
        rw [g.2]; exact (fy_rf (X := X))
theorem gf_217 {p1 : Int32} {p2 : Int64} {X : fx_X} {v : Int32} {X' : fx_X} (g : gx_217 p1 p2 X v X') : fy [] [] [] X X' := by
  obtain ⟨n, g⟩ := g
  unfold gxE_217 at g
  exact fy_tr (fy_rf (X := X)) (gfl_217 _ _ n _ _ _ _ _ _ _ g)
abbrev fF_221 : List (Nat × Nat) := [(117, 24), (117, 25), (117, 26), (117, 27), (117, 28), (117, 29), (117, 30), (117, 31), (117, 35), (117, 36)]
abbrev fL_221 : List (Nat × Nat) := []
abbrev fA_221 : List Nat := []
theorem gfl_221 : ∀ (n l : Nat) (is : List Int32) (ls : List Int64) (rs : List Nat) (X : fx_X) (v : Int32) (X' : fx_X), gxF_221 n l is ls rs X v X' → fy fF_221 fL_221 fA_221 X X' := by
  intro n
  induction n with
  | zero => intro l is ls rs X v X' g; exact g.elim
  | succ n ih =>
    intro l is ls rs X v X' g
    rcases g with ⟨-, y1, y2, y3, -, -, -, g⟩
    · unfold gxT_221_55 at g
      rcases fy_if g with g | g
      · skip
        replace g := g.2
        obtain ⟨x29, -, g⟩ := g
        obtain ⟨x31, -, g⟩ := g
        exact fy_tr (fy_rf (X := X)) (ih _ _ _ _ _ _ _ g)
      · skip
        obtain ⟨X24, eX24, g⟩ := g
        have fX24 : fy fF_221 fL_221 fA_221 X X24 := by rw [eX24]; exact fy_f (fy_rf (X := X)) (by decide)
        obtain ⟨w26, X25, rX25, g⟩ := g
        have fX25 : fy fF_221 fL_221 fA_221 X X25 := fy_tr fX24 (fy_sub (gf_214 rX25) (by decide) (by decide) (by decide))
        rw [g.2]; exact fX25
theorem gf_221 {X : fx_X} {v : Int32} {X' : fx_X} (g : gx_221 X v X') : fy fF_221 fL_221 fA_221 X X' := by
  obtain ⟨n, g⟩ := g
  unfold gxE_221 at g
  obtain ⟨X2, eX2, g⟩ := g
  have fX2 : fy fF_221 fL_221 fA_221 X X2 := by rw [eX2]; exact fy_f (fy_rf (X := X)) (by decide)
  obtain ⟨w5, X4, rX4, g⟩ := g
  have fX4 : fy fF_221 fL_221 fA_221 X X4 := fy_z fX2 (gf_220 rX4)
  rcases fy_if g with g | g
  · skip
    rcases fy_if g with g | g
    · skip
      obtain ⟨x9, -, g⟩ := g
      exact fy_tr fX4 (gfl_221 n _ _ _ _ _ _ _ g)
    · skip
      obtain ⟨w12, X11, rX11, g⟩ := g
      have fX11 : fy fF_221 fL_221 fA_221 X X11 := fy_tr fX4 (fy_sub (gf_215 rX11) (by decide) (by decide) (by decide))
      rw [g.2]; exact fX11
  · skip
    obtain ⟨w15, X14, rX14, g⟩ := g
    have fX14 : fy fF_221 fL_221 fA_221 X X14 := fy_tr fX4 (fy_sub (gf_214 rX14) (by decide) (by decide) (by decide))
    rcases fy_if g with g | g
    · skip
      rw [g.2]; exact fX14
    · skip
      rcases fy_if g with g | g
      · skip
        obtain ⟨x19, -, g⟩ := g
        exact fy_tr fX14 (gfl_221 n _ _ _ _ _ _ _ g)
      · skip
        obtain ⟨w22, X21, rX21, g⟩ := g
        have fX21 : fy fF_221 fL_221 fA_221 X X21 := fy_tr fX14 (fy_sub (gf_215 rX21) (by decide) (by decide) (by decide))
        rw [g.2]; exact fX21
abbrev fF_235 : List (Nat × Nat) := [(117, 24), (117, 25), (117, 26), (117, 27), (117, 28), (117, 29), (117, 30), (117, 31), (117, 34), (117, 35), (117, 36), (117, 38), (117, 39)]
abbrev fL_235 : List (Nat × Nat) := [(117, 33)]
abbrev fA_235 : List Nat := []
theorem gf_235 {X : fx_X} {v : Int32} {X' : fx_X} (g : gx_235 X v X') : fy fF_235 fL_235 fA_235 X X' := by
  unfold gx_235 at g
  obtain ⟨w3, X2, rX2, g⟩ := g
  have fX2 : fy fF_235 fL_235 fA_235 X X2 := fy_z (fy_rf (X := X)) (gf_220 rX2)
  rcases fy_if g with g | g
  · skip
    obtain ⟨X18, eX18, g⟩ := g
    have fX18 : fy fF_235 fL_235 fA_235 X X18 := by rw [eX18]; exact fy_f fX2 (by decide)
    obtain ⟨w20, X19, rX19, g⟩ := g
    have fX19 : fy fF_235 fL_235 fA_235 X X19 := fy_tr fX18 (fy_sub (gf_221 rX19) (by decide) (by decide) (by decide))
    rcases fy_if g with g | g
    · skip
      rw [g.2]; exact fX19
    · skip
      obtain ⟨X22, eX22, g⟩ := g
      have fX22 : fy fF_235 fL_235 fA_235 X X22 := by rw [eX22]; exact fy_f fX19 (by decide)
      rw [g.2]; exact fX22
  · skip
    obtain ⟨w6, X5, rX5, g⟩ := g
    have fX5 : fy fF_235 fL_235 fA_235 X X5 := fy_tr fX2 (fy_sub (gf_214 rX5) (by decide) (by decide) (by decide))
    rcases fy_if g with g | g
    · skip
      rw [g.2]; exact fX5
    · skip
      obtain ⟨w9, X8, rX8, g⟩ := g
      have fX8 : fy fF_235 fL_235 fA_235 X X8 := fy_tr fX5 (fy_sub (gf_216 rX8) (by decide) (by decide) (by decide))
      rcases fy_if g with g | g
      · skip
        rw [g.2]; exact fX8
      · skip
        obtain ⟨X11, eX11, g⟩ := g
        have fX11 : fy fF_235 fL_235 fA_235 X X11 := by rw [eX11]; exact fy_f fX8 (by decide)
        obtain ⟨w13, X12, rX12, g⟩ := g
        have fX12 : fy fF_235 fL_235 fA_235 X X12 := fy_z fX11 (gf_217 rX12)
        obtain ⟨X14, eX14, g⟩ := g
        have fX14 : fy fF_235 fL_235 fA_235 X X14 := by rw [eX14]; exact fy_f fX12 (by decide)
        rcases fy_if g with g | g
        · skip
          obtain ⟨w17, X16, rX16, g⟩ := g
          have fX16 : fy fF_235 fL_235 fA_235 X X16 := fy_tr fX14 (fy_sub (gf_218 rX16) (by decide) (by decide) (by decide))
          rw [g.2]; exact fX16
        · skip
          rw [g.2]; exact fX14
abbrev fF_255 : List (Nat × Nat) := [(117, 24), (117, 25), (117, 26), (117, 27), (117, 28), (117, 29), (117, 30), (117, 31), (117, 34), (117, 35), (117, 36), (117, 38), (117, 39), (117, 52), (117, 53), (117, 54)]
abbrev fL_255 : List (Nat × Nat) := [(117, 33)]
abbrev fA_255 : List Nat := []
theorem gf_255 {p1 : Int32} {X : fx_X} {v : Int32} {X' : fx_X} (g : gx_255 p1 X v X') : fy fF_255 fL_255 fA_255 X X' := by
  unfold gx_255 at g
  rcases fy_if g with g | g
  · skip
    obtain ⟨w49, X48, rX48, g⟩ := g
    have fX48 : fy fF_255 fL_255 fA_255 X X48 := fy_tr (fy_rf (X := X)) (fy_sub (gf_216 rX48) (by decide) (by decide) (by decide))
    rcases fy_if g with g | g
    · skip
      rw [g.2]; exact fX48
    · skip
      obtain ⟨X51, eX51, g⟩ := g
      have fX51 : fy fF_255 fL_255 fA_255 X X51 := by rw [eX51]; exact fy_f fX48 (by decide)
      obtain ⟨w53, X52, rX52, g⟩ := g
      have fX52 : fy fF_255 fL_255 fA_255 X X52 := fy_tr fX51 (fy_sub (gf_256 rX52) (by decide) (by decide) (by decide))
      obtain ⟨X54, eX54, g⟩ := g
      have fX54 : fy fF_255 fL_255 fA_255 X X54 := by rw [eX54]; exact fy_f fX52 (by decide)
      rcases fy_if g with g | g
      · skip
        rcases fy_if g with g | g
        · skip
          obtain ⟨X59, eX59, g⟩ := g
          have fX59 : fy fF_255 fL_255 fA_255 X X59 := by rw [eX59]; exact fy_f fX54 (by decide)
          rw [g.2]; exact fX59
        · skip
          obtain ⟨X58, eX58, g⟩ := g
          have fX58 : fy fF_255 fL_255 fA_255 X X58 := by rw [eX58]; exact fy_f fX54 (by decide)
          rw [g.2]; exact fX58
      · skip
        obtain ⟨X56, eX56, g⟩ := g
        have fX56 : fy fF_255 fL_255 fA_255 X X56 := by rw [eX56]; exact fy_f fX54 (by decide)
        rw [g.2]; exact fX56
  · skip
    rcases fy_if g with g | g
    · skip
      obtain ⟨w5, X4, rX4, g⟩ := g
      have fX4 : fy fF_255 fL_255 fA_255 X X4 := fy_tr (fy_rf (X := X)) (fy_sub (gf_235 rX4) (by decide) (by decide) (by decide))
      rcases fy_if g with g | g
      · skip
        rw [g.2]; exact fX4
      · skip
        obtain ⟨X7, eX7, g⟩ := g
        have fX7 : fy fF_255 fL_255 fA_255 X X7 := by rw [eX7]; exact fy_f fX4 (by decide)
        obtain ⟨X8, eX8, g⟩ := g
        have fX8 : fy fF_255 fL_255 fA_255 X X8 := by rw [eX8]; exact fy_f fX7 (by decide)
        rcases fy_if g with g | g
        · skip
          rcases fy_if g with g | g
          · skip
            rcases fy_if g with g | g
            · skip
              obtain ⟨X15, eX15, g⟩ := g
              have fX15 : fy fF_255 fL_255 fA_255 X X15 := by rw [eX15]; exact fy_f fX8 (by decide)
              rw [g.2]; exact fX15
            · skip
              obtain ⟨X14, eX14, g⟩ := g
              have fX14 : fy fF_255 fL_255 fA_255 X X14 := by rw [eX14]; exact fy_f fX8 (by decide)
              rw [g.2]; exact fX14
          · skip
            obtain ⟨X12, eX12, g⟩ := g
            have fX12 : fy fF_255 fL_255 fA_255 X X12 := by rw [eX12]; exact fy_f fX8 (by decide)
            rw [g.2]; exact fX12
        · skip
          obtain ⟨X10, eX10, g⟩ := g
          have fX10 : fy fF_255 fL_255 fA_255 X X10 := by rw [eX10]; exact fy_f fX8 (by decide)
          rw [g.2]; exact fX10
    · skip
      obtain ⟨w17, X16, rX16, g⟩ := g
      have fX16 : fy fF_255 fL_255 fA_255 X X16 := fy_z (fy_rf (X := X)) (gf_220 rX16)
      rcases fy_if g with g | g
      · skip
        obtain ⟨w32, X31, rX31, g⟩ := g
        have fX31 : fy fF_255 fL_255 fA_255 X X31 := fy_z fX16 (gf_220 rX31)
        rcases fy_if g with g | g
        · skip
          obtain ⟨w47, X46, rX46, g⟩ := g
          have fX46 : fy fF_255 fL_255 fA_255 X X46 := fy_tr fX31 (fy_sub (gf_215 rX46) (by decide) (by decide) (by decide))
          rw [g.2]; exact fX46
        · skip
          obtain ⟨w35, X34, rX34, g⟩ := g
          have fX34 : fy fF_255 fL_255 fA_255 X X34 := fy_tr fX31 (fy_sub (gf_235 rX34) (by decide) (by decide) (by decide))
          rcases fy_if g with g | g
          · skip
            rw [g.2]; exact fX34
          · skip
            obtain ⟨X37, eX37, g⟩ := g
            have fX37 : fy fF_255 fL_255 fA_255 X X37 := by rw [eX37]; exact fy_f fX34 (by decide)
            obtain ⟨X38, eX38, g⟩ := g
            have fX38 : fy fF_255 fL_255 fA_255 X X38 := by rw [eX38]; exact fy_f fX37 (by decide)
            rcases fy_if g with g | g
            · skip
              rcases fy_if g with g | g
              · skip
                rcases fy_if g with g | g
                · skip
                  obtain ⟨X45, eX45, g⟩ := g
                  have fX45 : fy fF_255 fL_255 fA_255 X X45 := by rw [eX45]; exact fy_f fX38 (by decide)
                  rw [g.2]; exact fX45
                · skip
                  obtain ⟨X44, eX44, g⟩ := g
                  have fX44 : fy fF_255 fL_255 fA_255 X X44 := by rw [eX44]; exact fy_f fX38 (by decide)
                  rw [g.2]; exact fX44
              · skip
                obtain ⟨X42, eX42, g⟩ := g
                have fX42 : fy fF_255 fL_255 fA_255 X X42 := by rw [eX42]; exact fy_f fX38 (by decide)
                rw [g.2]; exact fX42
            · skip
              obtain ⟨X40, eX40, g⟩ := g
              have fX40 : fy fF_255 fL_255 fA_255 X X40 := by rw [eX40]; exact fy_f fX38 (by decide)
              rw [g.2]; exact fX40
      · skip
        obtain ⟨w20, X19, rX19, g⟩ := g
        have fX19 : fy fF_255 fL_255 fA_255 X X19 := fy_tr fX16 (fy_sub (gf_235 rX19) (by decide) (by decide) (by decide))
        rcases fy_if g with g | g
        · skip
          rw [g.2]; exact fX19
        · skip
          obtain ⟨X22, eX22, g⟩ := g
          have fX22 : fy fF_255 fL_255 fA_255 X X22 := by rw [eX22]; exact fy_f fX19 (by decide)
          obtain ⟨X23, eX23, g⟩ := g
          have fX23 : fy fF_255 fL_255 fA_255 X X23 := by rw [eX23]; exact fy_f fX22 (by decide)
          rcases fy_if g with g | g
          · skip
            rcases fy_if g with g | g
            · skip
              rcases fy_if g with g | g
              · skip
                obtain ⟨X30, eX30, g⟩ := g
                have fX30 : fy fF_255 fL_255 fA_255 X X30 := by rw [eX30]; exact fy_f fX23 (by decide)
                rw [g.2]; exact fX30
              · skip
                obtain ⟨X29, eX29, g⟩ := g
                have fX29 : fy fF_255 fL_255 fA_255 X X29 := by rw [eX29]; exact fy_f fX23 (by decide)
                rw [g.2]; exact fX29
            · skip
              obtain ⟨X27, eX27, g⟩ := g
              have fX27 : fy fF_255 fL_255 fA_255 X X27 := by rw [eX27]; exact fy_f fX23 (by decide)
              rw [g.2]; exact fX27
          · skip
            obtain ⟨X25, eX25, g⟩ := g
            have fX25 : fy fF_255 fL_255 fA_255 X X25 := by rw [eX25]; exact fy_f fX23 (by decide)
            rw [g.2]; exact fX25
abbrev fF_239 : List (Nat × Nat) := [(117, 24), (117, 25), (117, 26), (117, 27), (117, 28), (117, 29), (117, 30), (117, 31), (117, 40)]
abbrev fL_239 : List (Nat × Nat) := []
abbrev fA_239 : List Nat := []
theorem gf_239 {X : fx_X} {v : Int32} {X' : fx_X} (g : gx_239 X v X') : fy fF_239 fL_239 fA_239 X X' := by
  unfold gx_239 at g
  rcases fy_if g with g | g
  · skip
    rcases fy_if g with g | g
    · skip
      obtain ⟨X6, eX6, g⟩ := g
      have fX6 : fy fF_239 fL_239 fA_239 X X6 := by rw [eX6]; exact fy_f (fy_rf (X := X)) (by decide)
      obtain ⟨w8, X7, rX7, g⟩ := g
      have fX7 : fy fF_239 fL_239 fA_239 X X7 := fy_tr fX6 (fy_sub (gf_214 rX7) (by decide) (by decide) (by decide))
      rw [g.2]; exact fX7
    · skip
      rcases fy_if g with g | g
      · skip
        obtain ⟨X10, eX10, g⟩ := g
        have fX10 : fy fF_239 fL_239 fA_239 X X10 := by rw [eX10]; exact fy_f (fy_rf (X := X)) (by decide)
        obtain ⟨w12, X11, rX11, g⟩ := g
        have fX11 : fy fF_239 fL_239 fA_239 X X11 := fy_tr fX10 (fy_sub (gf_214 rX11) (by decide) (by decide) (by decide))
        rw [g.2]; exact fX11
      · skip
        rcases fy_if g with g | g
        · skip
          obtain ⟨X14, eX14, g⟩ := g
          have fX14 : fy fF_239 fL_239 fA_239 X X14 := by rw [eX14]; exact fy_f (fy_rf (X := X)) (by decide)
          obtain ⟨w16, X15, rX15, g⟩ := g
          have fX15 : fy fF_239 fL_239 fA_239 X X15 := fy_tr fX14 (fy_sub (gf_214 rX15) (by decide) (by decide) (by decide))
          rw [g.2]; exact fX15
        · skip
          rcases fy_if g with g | g
          · skip
            obtain ⟨X18, eX18, g⟩ := g
            have fX18 : fy fF_239 fL_239 fA_239 X X18 := by rw [eX18]; exact fy_f (fy_rf (X := X)) (by decide)
            obtain ⟨w20, X19, rX19, g⟩ := g
            have fX19 : fy fF_239 fL_239 fA_239 X X19 := fy_tr fX18 (fy_sub (gf_214 rX19) (by decide) (by decide) (by decide))
            rw [g.2]; exact fX19
          · skip
            obtain ⟨w22, X21, rX21, g⟩ := g
            have fX21 : fy fF_239 fL_239 fA_239 X X21 := fy_tr (fy_rf (X := X)) (fy_sub (gf_215 rX21) (by decide) (by decide) (by decide))
            rw [g.2]; exact fX21
  · skip
    obtain ⟨w4, X3, rX3, g⟩ := g
    have fX3 : fy fF_239 fL_239 fA_239 X X3 := fy_tr (fy_rf (X := X)) (fy_sub (gf_215 rX3) (by decide) (by decide) (by decide))
    rw [g.2]; exact fX3
theorem gf_257 {p1 : Int32} {p2 : Int32} {p3 : Int32} {p4 : Int32} {p5 : Int32} {X : fx_X} {v : Int32} {X' : fx_X} (g : gx_257 p1 p2 p3 p4 p5 X v X') : fy [] [] [] X X' := by
  unfold gx_257 at g
  rcases fy_if g with g | g
  · skip
    obtain ⟨w6, X5, rX5, g⟩ := g
    have fX5 : fy [] [] [] X X5 := fy_z (fy_rf (X := X)) (gf_258 rX5)
    rw [g.2]; exact fX5
  · skip
    obtain ⟨w4, X3, rX3, g⟩ := g
    have fX3 : fy [] [] [] X X3 := fy_z (fy_rf (X := X)) (gf_240 rX3)
    rw [g.2]; exact fX3
theorem gf_242 {p0 : Int32} {p1 : Int32} {p2 : Int32} {X : fx_X} {v : Int32} {X' : fx_X} (g : gx_242 p0 p1 p2 X v X') : fy [] [] [] X X' := by
  unfold gx_242 at g
  rcases fy_if g with g | g
  · skip
    rcases fy_if g with g | g
    · skip
      rw [g.2]; exact (fy_rf (X := X))
    · skip
      rw [g.2]; exact (fy_rf (X := X))
  · skip
    rcases fy_if g with g | g
    · skip
      rcases fy_if g with g | g
      · skip
        rw [g.2]; exact (fy_rf (X := X))
      · skip
        rw [g.2]; exact (fy_rf (X := X))
    · skip
      rcases fy_if g with g | g
      · skip
        rcases fy_if g with g | g
        · skip
          rw [g.2]; exact (fy_rf (X := X))
        · skip
          rw [g.2]; exact (fy_rf (X := X))
      · skip
        rcases fy_if g with g | g
        · skip
          rw [g.2]; exact (fy_rf (X := X))
        · skip
          rw [g.2]; exact (fy_rf (X := X))
abbrev fF_254 : List (Nat × Nat) := [(117, 24), (117, 25), (117, 26), (117, 27), (117, 28), (117, 29), (117, 30), (117, 31), (117, 34), (117, 35), (117, 36), (117, 38), (117, 39), (117, 40), (117, 52), (117, 53), (117, 54)]
abbrev fL_254 : List (Nat × Nat) := [(117, 33)]
abbrev fA_254 : List Nat := [132, 136]
theorem gfl_254 (p1 : Int32) : ∀ (n l : Nat) (is : List Int32) (ls : List Int64) (rs : List Nat) (X : fx_X) (v : Int32) (X' : fx_X), gxF_254 p1 n l is ls rs X v X' → fy fF_254 fL_254 fA_254 X X' := by
  intro n
  induction n with
  | zero => intro l is ls rs X v X' g; exact g.elim
  | succ n ih =>
    intro l is ls rs X v X' g
    rcases g with ⟨-, y2, -, -, -, g⟩ | ⟨-, y3, y4, y5, y6, -, -, -, g⟩ | ⟨-, y3, y4, y5, y6, y7, -, -, -, g⟩
    · unfold gxT_254_7 at g
      rcases fy_if g with g | g
      · skip
        rcases fy_if g with g | g
        · skip
          obtain ⟨w7, X6, rX6, g⟩ := g
          have fX6 : fy fF_254 fL_254 fA_254 X X6 := fy_tr (fy_rf (X := X)) (fy_sub (gf_219 rX6) (by decide) (by decide) (by decide))
          rw [g.2]; exact fX6
        · skip
          replace g := g.2
          obtain ⟨X10, eX10, g⟩ := g
          have fX10 : fy fF_254 fL_254 fA_254 X X10 := by rw [eX10]; exact fy_a (fy_rf (X := X)) (by decide)
          obtain ⟨w12, X11, rX11, g⟩ := g
          have fX11 : fy fF_254 fL_254 fA_254 X X11 := fy_tr fX10 (fy_sub (gf_219 rX11) (by decide) (by decide) (by decide))
          rw [g.2]; exact fX11
      · skip
        obtain ⟨w14, X13, rX13, g⟩ := g
        have fX13 : fy fF_254 fL_254 fA_254 X X13 := fy_tr (fy_rf (X := X)) (fy_sub (gf_214 rX13) (by decide) (by decide) (by decide))
        rcases fy_if g with g | g
        · skip
          rw [g.2]; exact fX13
        · skip
          obtain ⟨w17, X16, rX16, g⟩ := g
          have fX16 : fy fF_254 fL_254 fA_254 X X16 := fy_tr fX13 (fy_sub (gf_255 rX16) (by decide) (by decide) (by decide))
          rcases fy_if g with g | g
          · skip
            rw [g.2]; exact fX16
          · skip
            obtain ⟨x19, -, g⟩ := g
            obtain ⟨x21, -, g⟩ := g
            obtain ⟨w24, X23, rX23, g⟩ := g
            have fX23 : fy fF_254 fL_254 fA_254 X X23 := fy_tr fX16 (fy_sub (gf_239 rX23) (by decide) (by decide) (by decide))
            rcases fy_if g with g | g
            · skip
              rw [g.2]; exact fX23
            · skip
              obtain ⟨x26, -, g⟩ := g
              obtain ⟨w29, X28, rX28, g⟩ := g
              have fX28 : fy fF_254 fL_254 fA_254 X X28 := fy_tr fX23 (fy_sub (gf_255 rX28) (by decide) (by decide) (by decide))
              rcases fy_if g with g | g
              · skip
                rw [g.2]; exact fX28
              · skip
                exact fy_tr fX28 (ih _ _ _ _ _ _ _ g)
    · unfold gxT_254_67 at g
      rcases fy_if g with g | g
      · skip
        obtain ⟨w34, X33, rX33, g⟩ := g
        have fX33 : fy fF_254 fL_254 fA_254 X X33 := fy_z (fy_rf (X := X)) (gf_220 rX33)
        exact fy_tr fX33 (ih _ _ _ _ _ _ _ g)
      · skip
        replace g := g.2
        rcases fy_if g with g | g
        · skip
          exact fy_tr (fy_rf (X := X)) (ih _ _ _ _ _ _ _ g)
        · skip
          obtain ⟨w40, X39, rX39, g⟩ := g
          have fX39 : fy fF_254 fL_254 fA_254 X X39 := fy_z (fy_rf (X := X)) (gf_220 rX39)
          exact fy_tr fX39 (ih _ _ _ _ _ _ _ g)
    · unfold gxT_254_88 at g
      replace g := g.2
      rcases fy_if g with g | g
      · skip
        obtain ⟨w49, X48, rX48, g⟩ := g
        have fX48 : fy fF_254 fL_254 fA_254 X X48 := fy_z (fy_rf (X := X)) (gf_257 rX48)
        obtain ⟨w51, X50, rX50, g⟩ := g
        have fX50 : fy fF_254 fL_254 fA_254 X X50 := fy_z fX48 (gf_257 rX50)
        obtain ⟨w53, X52, rX52, g⟩ := g
        have fX52 : fy fF_254 fL_254 fA_254 X X52 := fy_z fX50 (gf_242 rX52)
        rcases fy_if g with g | g
        · skip
          obtain ⟨w59, X58, rX58, g⟩ := g
          have fX58 : fy fF_254 fL_254 fA_254 X X58 := fy_z fX52 (gf_225 rX58)
          obtain ⟨w61, X60, rX60, g⟩ := g
          have fX60 : fy fF_254 fL_254 fA_254 X X60 := fy_tr fX58 (fy_sub (gf_228 rX60) (by decide) (by decide) (by decide))
          obtain ⟨x62, -, g⟩ := g
          exact fy_tr fX60 (ih _ _ _ _ _ _ _ g)
        · skip
          obtain ⟨x55, -, g⟩ := g
          exact fy_tr fX52 (ih _ _ _ _ _ _ _ g)
      · skip
        obtain ⟨x46, -, g⟩ := g
        exact fy_tr (fy_rf (X := X)) (ih _ _ _ _ _ _ _ g)
theorem gf_254 {p1 : Int32} {X : fx_X} {v : Int32} {X' : fx_X} (g : gx_254 p1 X v X') : fy fF_254 fL_254 fA_254 X X' := by
  obtain ⟨n, g⟩ := g
  unfold gxE_254 at g
  obtain ⟨X2, eX2, g⟩ := g
  have fX2 : fy fF_254 fL_254 fA_254 X X2 := by rw [eX2]; exact fy_f (fy_rf (X := X)) (by decide)
  exact fy_tr fX2 (gfl_254 _ n _ _ _ _ _ _ _ g)
abbrev fF_253 : List (Nat × Nat) := [(117, 24), (117, 25), (117, 26), (117, 27), (117, 28), (117, 29), (117, 30), (117, 31), (117, 34), (117, 35), (117, 36), (117, 38), (117, 39), (117, 40), (117, 47), (117, 52), (117, 53), (117, 54), (117, 56), (117, 58)]
abbrev fL_253 : List (Nat × Nat) := [(117, 33)]
abbrev fA_253 : List Nat := [131, 132, 133, 134, 135, 136, 142, 143, 144]
theorem gfl_253 (p1 : Int32) : ∀ (n l : Nat) (is : List Int32) (ls : List Int64) (rs : List Nat) (X : fx_X) (v : Int32) (X' : fx_X), gxF_253 p1 n l is ls rs X v X' → fy fF_253 fL_253 fA_253 X X' := by
  intro n
  induction n with
  | zero => intro l is ls rs X v X' g; exact g.elim
  | succ n ih =>
    intro l is ls rs X v X' g
    rcases g with ⟨-, y2, -, -, -, g⟩
    · unfold gxT_253_2 at g
      rcases fy_if g with g | g
      · skip
        rw [g.2]; exact (fy_rf (X := X))
      · skip
        obtain ⟨w5, X4, rX4, g⟩ := g
        have fX4 : fy fF_253 fL_253 fA_253 X X4 := fy_z (fy_rf (X := X)) (gf_220 rX4)
        rcases fy_if g with g | g
        · skip
          obtain ⟨w29, X28, rX28, g⟩ := g
          have fX28 : fy fF_253 fL_253 fA_253 X X28 := fy_z fX4 (gf_220 rX28)
          rcases fy_if g with g | g
          · skip
            obtain ⟨w53, X52, rX52, g⟩ := g
            have fX52 : fy fF_253 fL_253 fA_253 X X52 := fy_z fX28 (gf_220 rX52)
            rcases fy_if g with g | g
            · skip
              obtain ⟨w77, X76, rX76, g⟩ := g
              have fX76 : fy fF_253 fL_253 fA_253 X X76 := fy_z fX52 (gf_220 rX76)
              rcases fy_if g with g | g
              · skip
                rw [g.2]; exact fX76
              · skip
                obtain ⟨w80, X79, rX79, g⟩ := g
                have fX79 : fy fF_253 fL_253 fA_253 X X79 := fy_z fX76 (gf_220 rX79)
                rcases fy_if g with g | g
                · skip
                  obtain ⟨w83, X82, rX82, g⟩ := g
                  have fX82 : fy fF_253 fL_253 fA_253 X X82 := fy_z fX79 (gf_220 rX82)
                  rcases fy_if g with g | g
                  · skip
                    obtain ⟨w86, X85, rX85, g⟩ := g
                    have fX85 : fy fF_253 fL_253 fA_253 X X85 := fy_z fX82 (gf_220 rX85)
                    rcases fy_if g with g | g
                    · skip
                      obtain ⟨w89, X88, rX88, g⟩ := g
                      have fX88 : fy fF_253 fL_253 fA_253 X X88 := fy_tr fX85 (fy_sub (gf_263 rX88) (by decide) (by decide) (by decide))
                      exact fy_tr fX88 (ih _ _ _ _ _ _ _ g)
                    · skip
                      obtain ⟨w92, X91, rX91, g⟩ := g
                      have fX91 : fy fF_253 fL_253 fA_253 X X91 := fy_tr fX85 (fy_sub (gf_262 rX91) (by decide) (by decide) (by decide))
                      exact fy_tr fX91 (ih _ _ _ _ _ _ _ g)
                  · skip
                    obtain ⟨w95, X94, rX94, g⟩ := g
                    have fX94 : fy fF_253 fL_253 fA_253 X X94 := fy_tr fX82 (fy_sub (gf_260 rX94) (by decide) (by decide) (by decide))
                    exact fy_tr fX94 (ih _ _ _ _ _ _ _ g)
                · skip
                  obtain ⟨w98, X97, rX97, g⟩ := g
                  have fX97 : fy fF_253 fL_253 fA_253 X X97 := fy_tr fX79 (fy_sub (gf_254 rX97) (by decide) (by decide) (by decide))
                  exact fy_tr fX97 (ih _ _ _ _ _ _ _ g)
            · skip
              obtain ⟨w56, X55, rX55, g⟩ := g
              have fX55 : fy fF_253 fL_253 fA_253 X X55 := fy_z fX52 (gf_220 rX55)
              rcases fy_if g with g | g
              · skip
                obtain ⟨w59, X58, rX58, g⟩ := g
                have fX58 : fy fF_253 fL_253 fA_253 X X58 := fy_z fX55 (gf_220 rX58)
                rcases fy_if g with g | g
                · skip
                  obtain ⟨w62, X61, rX61, g⟩ := g
                  have fX61 : fy fF_253 fL_253 fA_253 X X61 := fy_z fX58 (gf_220 rX61)
                  rcases fy_if g with g | g
                  · skip
                    obtain ⟨w65, X64, rX64, g⟩ := g
                    have fX64 : fy fF_253 fL_253 fA_253 X X64 := fy_tr fX61 (fy_sub (gf_263 rX64) (by decide) (by decide) (by decide))
                    exact fy_tr fX64 (ih _ _ _ _ _ _ _ g)
                  · skip
                    obtain ⟨w68, X67, rX67, g⟩ := g
                    have fX67 : fy fF_253 fL_253 fA_253 X X67 := fy_tr fX61 (fy_sub (gf_262 rX67) (by decide) (by decide) (by decide))
                    exact fy_tr fX67 (ih _ _ _ _ _ _ _ g)
                · skip
                  obtain ⟨w71, X70, rX70, g⟩ := g
                  have fX70 : fy fF_253 fL_253 fA_253 X X70 := fy_tr fX58 (fy_sub (gf_260 rX70) (by decide) (by decide) (by decide))
                  exact fy_tr fX70 (ih _ _ _ _ _ _ _ g)
              · skip
                obtain ⟨w74, X73, rX73, g⟩ := g
                have fX73 : fy fF_253 fL_253 fA_253 X X73 := fy_tr fX55 (fy_sub (gf_254 rX73) (by decide) (by decide) (by decide))
                exact fy_tr fX73 (ih _ _ _ _ _ _ _ g)
          · skip
            obtain ⟨w32, X31, rX31, g⟩ := g
            have fX31 : fy fF_253 fL_253 fA_253 X X31 := fy_z fX28 (gf_220 rX31)
            rcases fy_if g with g | g
            · skip
              obtain ⟨w35, X34, rX34, g⟩ := g
              have fX34 : fy fF_253 fL_253 fA_253 X X34 := fy_z fX31 (gf_220 rX34)
              rcases fy_if g with g | g
              · skip
                obtain ⟨w38, X37, rX37, g⟩ := g
                have fX37 : fy fF_253 fL_253 fA_253 X X37 := fy_z fX34 (gf_220 rX37)
                rcases fy_if g with g | g
                · skip
                  obtain ⟨w41, X40, rX40, g⟩ := g
                  have fX40 : fy fF_253 fL_253 fA_253 X X40 := fy_tr fX37 (fy_sub (gf_263 rX40) (by decide) (by decide) (by decide))
                  exact fy_tr fX40 (ih _ _ _ _ _ _ _ g)
                · skip
                  obtain ⟨w44, X43, rX43, g⟩ := g
                  have fX43 : fy fF_253 fL_253 fA_253 X X43 := fy_tr fX37 (fy_sub (gf_262 rX43) (by decide) (by decide) (by decide))
                  exact fy_tr fX43 (ih _ _ _ _ _ _ _ g)
              · skip
                obtain ⟨w47, X46, rX46, g⟩ := g
                have fX46 : fy fF_253 fL_253 fA_253 X X46 := fy_tr fX34 (fy_sub (gf_260 rX46) (by decide) (by decide) (by decide))
                exact fy_tr fX46 (ih _ _ _ _ _ _ _ g)
            · skip
              obtain ⟨w50, X49, rX49, g⟩ := g
              have fX49 : fy fF_253 fL_253 fA_253 X X49 := fy_tr fX31 (fy_sub (gf_254 rX49) (by decide) (by decide) (by decide))
              exact fy_tr fX49 (ih _ _ _ _ _ _ _ g)
        · skip
          obtain ⟨w8, X7, rX7, g⟩ := g
          have fX7 : fy fF_253 fL_253 fA_253 X X7 := fy_z fX4 (gf_220 rX7)
          rcases fy_if g with g | g
          · skip
            obtain ⟨w11, X10, rX10, g⟩ := g
            have fX10 : fy fF_253 fL_253 fA_253 X X10 := fy_z fX7 (gf_220 rX10)
            rcases fy_if g with g | g
            · skip
              obtain ⟨w14, X13, rX13, g⟩ := g
              have fX13 : fy fF_253 fL_253 fA_253 X X13 := fy_z fX10 (gf_220 rX13)
              rcases fy_if g with g | g
              · skip
                obtain ⟨w17, X16, rX16, g⟩ := g
                have fX16 : fy fF_253 fL_253 fA_253 X X16 := fy_tr fX13 (fy_sub (gf_263 rX16) (by decide) (by decide) (by decide))
                exact fy_tr fX16 (ih _ _ _ _ _ _ _ g)
              · skip
                obtain ⟨w20, X19, rX19, g⟩ := g
                have fX19 : fy fF_253 fL_253 fA_253 X X19 := fy_tr fX13 (fy_sub (gf_262 rX19) (by decide) (by decide) (by decide))
                exact fy_tr fX19 (ih _ _ _ _ _ _ _ g)
            · skip
              obtain ⟨w23, X22, rX22, g⟩ := g
              have fX22 : fy fF_253 fL_253 fA_253 X X22 := fy_tr fX10 (fy_sub (gf_260 rX22) (by decide) (by decide) (by decide))
              exact fy_tr fX22 (ih _ _ _ _ _ _ _ g)
          · skip
            obtain ⟨w26, X25, rX25, g⟩ := g
            have fX25 : fy fF_253 fL_253 fA_253 X X25 := fy_tr fX7 (fy_sub (gf_254 rX25) (by decide) (by decide) (by decide))
            exact fy_tr fX25 (ih _ _ _ _ _ _ _ g)
theorem gf_253 {p1 : Int32} {X : fx_X} {v : Int32} {X' : fx_X} (g : gx_253 p1 X v X') : fy fF_253 fL_253 fA_253 X X' := by
  obtain ⟨n, g⟩ := g
  unfold gxE_253 at g
  exact fy_tr (fy_rf (X := X)) (gfl_253 _ n _ _ _ _ _ _ _ g)
