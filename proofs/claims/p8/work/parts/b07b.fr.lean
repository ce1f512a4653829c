/-! FRAMES, further (printed by wip/p7/gen_fr.py) -/
theorem gf_273 {p1 : Int32} {X : fx_X} {v : Int32} {X' : fx_X} (g : gx_273 p1 X v X') : fy [] [] [] X X' := by
  unfold gx_273 at g
  rcases fy_if g with g | g
  · skip
    replace g := g.2
    rcases fy_if g with g | g
    · skip
      rw [g.2]; exact (fy_rf (X := X))
    · skip
      rw [g.2]; exact (fy_rf (X := X))
  · skip
    rw [g.2]; exact (fy_rf (X := X))
abbrev fF_249 : List (Nat × Nat) := [(117, 24), (117, 25), (117, 26), (117, 27), (117, 28), (117, 29), (117, 30), (117, 31), (117, 34), (117, 35), (117, 36), (117, 38), (117, 39), (117, 40), (117, 46), (117, 47), (117, 50), (117, 51), (117, 52), (117, 53), (117, 54), (117, 56), (117, 58)]
abbrev fL_249 : List (Nat × Nat) := [(117, 33)]
abbrev fA_249 : List Nat := [131, 132, 133, 134, 135, 136, 140, 141, 142, 143, 144]
theorem gfl_249 : ∀ (n l : Nat) (is : List Int32) (ls : List Int64) (rs : List Nat) (X : fx_X) (v : Int32) (X' : fx_X), gxF_249 n l is ls rs X v X' → fy fF_249 fL_249 fA_249 X X' := by
  intro n
  induction n with
  | zero => intro l is ls rs X v X' g; exact g.elim
  | succ n ih =>
    intro l is ls rs X v X' g
    rcases g with ⟨-, y1, -, -, -, g⟩ | ⟨-, -, -, -, g⟩ | ⟨-, -, -, -, g⟩ | ⟨-, -, -, -, g⟩ | ⟨-, y1, -, -, -, g⟩ | ⟨-, -, -, -, g⟩
    · unfold gxT_249_18 at g
      rcases fy_if g with g | g
      · skip
        rcases fy_if g with g | g
        · skip
          obtain ⟨w9, X8, rX8, g⟩ := g
          have fX8 : fy fF_249 fL_249 fA_249 X X8 := fy_tr (fy_rf (X := X)) (fy_sub (gf_215 rX8) (by decide) (by decide) (by decide))
          rw [g.2]; exact fX8
        · skip
          exact fy_tr (fy_rf (X := X)) (ih _ _ _ _ _ _ _ g)
      · skip
        exact fy_tr (fy_rf (X := X)) (ih _ _ _ _ _ _ _ g)
    · unfold gxT_249_22 at g
      obtain ⟨w15, X14, rX14, g⟩ := g
      have fX14 : fy fF_249 fL_249 fA_249 X X14 := fy_z (fy_rf (X := X)) (gf_220 rX14)
      rcases fy_if g with g | g
      · skip
        obtain ⟨w18, X17, rX17, g⟩ := g
        have fX17 : fy fF_249 fL_249 fA_249 X X17 := fy_tr fX14 (fy_sub (gf_250 rX17) (by decide) (by decide) (by decide))
        rcases fy_if g with g | g
        · skip
          rw [g.2]; exact fX17
        · skip
          obtain ⟨X20, eX20, g⟩ := g
          have fX20 : fy fF_249 fL_249 fA_249 X X20 := by rw [eX20]; exact fy_f fX17 (by decide)
          obtain ⟨w22, X21, rX21, g⟩ := g
          have fX21 : fy fF_249 fL_249 fA_249 X X21 := fy_tr fX20 (fy_sub (gf_253 rX21) (by decide) (by decide) (by decide))
          rcases fy_if g with g | g
          · skip
            rw [g.2]; exact fX21
          · skip
            exact fy_tr fX21 (ih _ _ _ _ _ _ _ g)
      · skip
        rcases fy_if g with g | g
        · skip
          obtain ⟨w34, X33, rX33, g⟩ := g
          have fX33 : fy fF_249 fL_249 fA_249 X X33 := fy_tr fX14 (fy_sub (gf_215 rX33) (by decide) (by decide) (by decide))
          rw [g.2]; exact fX33
        · skip
          obtain ⟨X25, eX25, g⟩ := g
          have fX25 : fy fF_249 fL_249 fA_249 X X25 := by rw [eX25]; exact fy_f fX14 (by decide)
          replace g := g.2
          obtain ⟨X28, eX28, g⟩ := g
          have fX28 : fy fF_249 fL_249 fA_249 X X28 := by rw [eX28]; exact fy_a fX25 (by decide)
          obtain ⟨X29, eX29, g⟩ := g
          have fX29 : fy fF_249 fL_249 fA_249 X X29 := by rw [eX29]; exact fy_f fX28 (by decide)
          obtain ⟨w31, X30, rX30, g⟩ := g
          have fX30 : fy fF_249 fL_249 fA_249 X X30 := fy_tr fX29 (fy_sub (gf_214 rX30) (by decide) (by decide) (by decide))
          rcases fy_if g with g | g
          · skip
            rw [g.2]; exact fX30
          · skip
            exact fy_tr fX30 (ih _ _ _ _ _ _ _ g)
    · unfold gxT_249_128 at g
      rcases fy_if g with g | g
      · skip
        obtain ⟨w54, X53, rX53, g⟩ := g
        have fX53 : fy fF_249 fL_249 fA_249 X X53 := fy_z (fy_rf (X := X)) (gf_220 rX53)
        rcases fy_if g with g | g
        · skip
          obtain ⟨w57, X56, rX56, g⟩ := g
          have fX56 : fy fF_249 fL_249 fA_249 X X56 := fy_z fX53 (gf_220 rX56)
          rcases fy_if g with g | g
          · skip
            obtain ⟨w62, X61, rX61, g⟩ := g
            have fX61 : fy fF_249 fL_249 fA_249 X X61 := fy_z fX56 (gf_220 rX61)
            rcases fy_if g with g | g
            · skip
              obtain ⟨w67, X66, rX66, g⟩ := g
              have fX66 : fy fF_249 fL_249 fA_249 X X66 := fy_z fX61 (gf_220 rX66)
              rcases fy_if g with g | g
              · skip
                exact fy_tr fX66 (ih _ _ _ _ _ _ _ g)
              · skip
                exact fy_tr fX66 (ih _ _ _ _ _ _ _ g)
            · skip
              exact fy_tr fX61 (ih _ _ _ _ _ _ _ g)
          · skip
            exact fy_tr fX56 (ih _ _ _ _ _ _ _ g)
        · skip
          exact fy_tr fX53 (ih _ _ _ _ _ _ _ g)
      · skip
        obtain ⟨w37, X36, rX36, g⟩ := g
        have fX36 : fy fF_249 fL_249 fA_249 X X36 := fy_z (fy_rf (X := X)) (gf_220 rX36)
        rcases fy_if g with g | g
        · skip
          obtain ⟨w42, X41, rX41, g⟩ := g
          have fX41 : fy fF_249 fL_249 fA_249 X X41 := fy_z fX36 (gf_220 rX41)
          rcases fy_if g with g | g
          · skip
            obtain ⟨w47, X46, rX46, g⟩ := g
            have fX46 : fy fF_249 fL_249 fA_249 X X46 := fy_z fX41 (gf_220 rX46)
            rcases fy_if g with g | g
            · skip
              exact fy_tr fX46 (ih _ _ _ _ _ _ _ g)
            · skip
              exact fy_tr fX46 (ih _ _ _ _ _ _ _ g)
          · skip
            exact fy_tr fX41 (ih _ _ _ _ _ _ _ g)
        · skip
          exact fy_tr fX36 (ih _ _ _ _ _ _ _ g)
    · unfold gxT_249_144 at g
      obtain ⟨w115, X114, rX114, g⟩ := g
      have fX114 : fy fF_249 fL_249 fA_249 X X114 := fy_z (fy_rf (X := X)) (gf_273 rX114)
      rcases fy_if g with g | g
      · skip
        obtain ⟨w126, X125, rX125, g⟩ := g
        have fX125 : fy fF_249 fL_249 fA_249 X X125 := fy_tr fX114 (fy_sub (gf_274 rX125) (by decide) (by decide) (by decide))
        rcases fy_if g with g | g
        · skip
          rw [g.2]; exact fX125
        · skip
          exact fy_tr fX125 (ih _ _ _ _ _ _ _ g)
      · skip
        obtain ⟨X117, eX117, g⟩ := g
        have fX117 : fy fF_249 fL_249 fA_249 X X117 := by rw [eX117]; exact fy_f fX114 (by decide)
        obtain ⟨X118, eX118, g⟩ := g
        have fX118 : fy fF_249 fL_249 fA_249 X X118 := by rw [eX118]; exact fy_f fX117 (by decide)
        obtain ⟨w120, X119, rX119, g⟩ := g
        have fX119 : fy fF_249 fL_249 fA_249 X X119 := fy_tr fX118 (fy_sub (gf_214 rX119) (by decide) (by decide) (by decide))
        rcases fy_if g with g | g
        · skip
          rw [g.2]; exact fX119
        · skip
          obtain ⟨w123, X122, rX122, g⟩ := g
          have fX122 : fy fF_249 fL_249 fA_249 X X122 := fy_tr fX119 (fy_sub (gf_253 rX122) (by decide) (by decide) (by decide))
          rcases fy_if g with g | g
          · skip
            rw [g.2]; exact fX122
          · skip
            exact fy_tr fX122 (ih _ _ _ _ _ _ _ g)
    · unfold gxT_249_241 at g
      obtain ⟨w74, X73, rX73, g⟩ := g
      have fX73 : fy fF_249 fL_249 fA_249 X X73 := fy_z (fy_rf (X := X)) (gf_273 rX73)
      rcases fy_if g with g | g
      · skip
        obtain ⟨w80, X79, rX79, g⟩ := g
        have fX79 : fy fF_249 fL_249 fA_249 X X79 := fy_z fX73 (gf_220 rX79)
        rcases fy_if g with g | g
        · skip
          obtain ⟨w93, X92, rX92, g⟩ := g
          have fX92 : fy fF_249 fL_249 fA_249 X X92 := fy_z fX79 (gf_273 rX92)
          rcases fy_if g with g | g
          · skip
            obtain ⟨w99, X98, rX98, g⟩ := g
            have fX98 : fy fF_249 fL_249 fA_249 X X98 := fy_z fX92 (gf_273 rX98)
            rcases fy_if g with g | g
            · skip
              replace g := g.2
              obtain ⟨X103, eX103, g⟩ := g
              have fX103 : fy fF_249 fL_249 fA_249 X X103 := by rw [eX103]; exact fy_a fX98 (by decide)
              replace g := g.2
              obtain ⟨X106, eX106, g⟩ := g
              have fX106 : fy fF_249 fL_249 fA_249 X X106 := by rw [eX106]; exact fy_a fX103 (by decide)
              obtain ⟨X107, eX107, g⟩ := g
              have fX107 : fy fF_249 fL_249 fA_249 X X107 := by rw [eX107]; exact fy_f fX106 (by decide)
              obtain ⟨w109, X108, rX108, g⟩ := g
              have fX108 : fy fF_249 fL_249 fA_249 X X108 := fy_tr fX107 (fy_sub (gf_264 rX108) (by decide) (by decide) (by decide))
              rcases fy_if g with g | g
              · skip
                rw [g.2]; exact fX108
              · skip
                exact fy_tr fX108 (ih _ _ _ _ _ _ _ g)
            · skip
              obtain ⟨w112, X111, rX111, g⟩ := g
              have fX111 : fy fF_249 fL_249 fA_249 X X111 := fy_tr fX98 (fy_sub (gf_274 rX111) (by decide) (by decide) (by decide))
              rcases fy_if g with g | g
              · skip
                rw [g.2]; exact fX111
              · skip
                exact fy_tr fX111 (ih _ _ _ _ _ _ _ g)
          · skip
            obtain ⟨w96, X95, rX95, g⟩ := g
            have fX95 : fy fF_249 fL_249 fA_249 X X95 := fy_tr fX92 (fy_sub (gf_274 rX95) (by decide) (by decide) (by decide))
            rcases fy_if g with g | g
            · skip
              rw [g.2]; exact fX95
            · skip
              exact fy_tr fX95 (ih _ _ _ _ _ _ _ g)
        · skip
          replace g := g.2
          obtain ⟨X84, eX84, g⟩ := g
          have fX84 : fy fF_249 fL_249 fA_249 X X84 := by rw [eX84]; exact fy_a fX79 (by decide)
          replace g := g.2
          obtain ⟨X87, eX87, g⟩ := g
          have fX87 : fy fF_249 fL_249 fA_249 X X87 := by rw [eX87]; exact fy_a fX84 (by decide)
          obtain ⟨X88, eX88, g⟩ := g
          have fX88 : fy fF_249 fL_249 fA_249 X X88 := by rw [eX88]; exact fy_f fX87 (by decide)
          obtain ⟨w90, X89, rX89, g⟩ := g
          have fX89 : fy fF_249 fL_249 fA_249 X X89 := fy_tr fX88 (fy_sub (gf_264 rX89) (by decide) (by decide) (by decide))
          rcases fy_if g with g | g
          · skip
            rw [g.2]; exact fX89
          · skip
            exact fy_tr fX89 (ih _ _ _ _ _ _ _ g)
      · skip
        obtain ⟨w77, X76, rX76, g⟩ := g
        have fX76 : fy fF_249 fL_249 fA_249 X X76 := fy_tr fX73 (fy_sub (gf_274 rX76) (by decide) (by decide) (by decide))
        rcases fy_if g with g | g
        · skip
          rw [g.2]; exact fX76
        · skip
          exact fy_tr fX76 (ih _ _ _ _ _ _ _ g)
    · unfold gxT_249_348 at g
      rcases fy_if g with g | g
      · skip
        obtain ⟨w12, X11, rX11, g⟩ := g
        have fX11 : fy fF_249 fL_249 fA_249 X X11 := fy_tr (fy_rf (X := X)) (fy_sub (gf_274 rX11) (by decide) (by decide) (by decide))
        rcases fy_if g with g | g
        · skip
          rw [g.2]; exact fX11
        · skip
          exact fy_tr fX11 (ih _ _ _ _ _ _ _ g)
      · skip
        rw [g.2]; exact (fy_rf (X := X))
theorem gf_249 {X : fx_X} {v : Int32} {X' : fx_X} (g : gx_249 X v X') : fy fF_249 fL_249 fA_249 X X' := by
  obtain ⟨n, g⟩ := g
  unfold gxE_249 at g
  obtain ⟨X2, eX2, g⟩ := g
  have fX2 : fy fF_249 fL_249 fA_249 X X2 := by rw [eX2]; exact fy_f (fy_rf (X := X)) (by decide)
  obtain ⟨X3, eX3, g⟩ := g
  have fX3 : fy fF_249 fL_249 fA_249 X X3 := by rw [eX3]; exact fy_f fX2 (by decide)
  obtain ⟨X4, eX4, g⟩ := g
  have fX4 : fy fF_249 fL_249 fA_249 X X4 := by rw [eX4]; exact fy_f fX3 (by decide)
  exact fy_tr fX4 (gfl_249 n _ _ _ _ _ _ _ g)
abbrev fF_248 : List (Nat × Nat) := [(117, 24), (117, 25), (117, 26), (117, 27), (117, 28), (117, 29), (117, 30), (117, 31), (117, 34), (117, 35), (117, 36), (117, 38), (117, 39), (117, 40), (117, 46), (117, 47), (117, 50), (117, 51), (117, 52), (117, 53), (117, 54), (117, 56), (117, 58)]
abbrev fL_248 : List (Nat × Nat) := [(117, 33)]
abbrev fA_248 : List Nat := [124, 125, 126, 131, 132, 133, 134, 135, 136, 140, 141, 142, 143, 144]
theorem gf_248 {X : fx_X} {v : Int32} {X' : fx_X} (g : gx_248 X v X') : fy fF_248 fL_248 fA_248 X X' := by
  unfold gx_248 at g
  obtain ⟨w3, X2, rX2, g⟩ := g
  have fX2 : fy fF_248 fL_248 fA_248 X X2 := fy_tr (fy_rf (X := X)) (fy_sub (gf_230 rX2) (by decide) (by decide) (by decide))
  rcases fy_if g with g | g
  · skip
    rw [g.2]; exact fX2
  · skip
    obtain ⟨x5, -, g⟩ := g
    obtain ⟨w8, X7, rX7, g⟩ := g
    have fX7 : fy fF_248 fL_248 fA_248 X X7 := fy_tr fX2 (fy_sub (gf_219 rX7) (by decide) (by decide) (by decide))
    rcases fy_if g with g | g
    · skip
      rw [g.2]; exact fX7
    · skip
      obtain ⟨w11, X10, rX10, g⟩ := g
      have fX10 : fy fF_248 fL_248 fA_248 X X10 := fy_tr fX7 (fy_sub (gf_249 rX10) (by decide) (by decide) (by decide))
      rcases fy_if g with g | g
      · skip
        rw [g.2]; exact fX10
      · skip
        obtain ⟨w14, X13, rX13, g⟩ := g
        have fX13 : fy fF_248 fL_248 fA_248 X X13 := fy_tr fX10 (fy_sub (gf_219 rX13) (by decide) (by decide) (by decide))
        rcases fy_if g with g | g
        · skip
          rw [g.2]; exact fX13
        · skip
          replace g := g.2
          obtain ⟨x18, -, g⟩ := g
          obtain ⟨w21, X20, rX20, g⟩ := g
          have fX20 : fy fF_248 fL_248 fA_248 X X20 := fy_tr fX13 (fy_sub (gf_251 rX20) (by decide) (by decide) (by decide))
          replace g := g.2
          replace g := g.2
          obtain ⟨X25, eX25, g⟩ := g
          have fX25 : fy fF_248 fL_248 fA_248 X X25 := by rw [eX25]; exact fy_a fX20 (by decide)
          rw [g.2]; exact fX25
abbrev fF_245 : List (Nat × Nat) := []
abbrev fL_245 : List (Nat × Nat) := []
abbrev fA_245 : List Nat := [137]
theorem gfl_245 (p1 : Int32) : ∀ (n l : Nat) (is : List Int32) (ls : List Int64) (rs : List Nat) (X : fx_X) (v : Unit) (X' : fx_X), gxF_245 p1 n l is ls rs X v X' → fy fF_245 fL_245 fA_245 X X' := by
  intro n
  induction n with
  | zero => intro l is ls rs X v X' g; exact g.elim
  | succ n ih =>
    intro l is ls rs X v X' g
    rcases g with ⟨-, y2, -, -, -, g⟩
    · unfold gxT_245_2 at g
      rcases fy_if g with g | g
      · skip
        rw [g]; exact (fy_rf (X := X))
      · skip
        replace g := g.2
        rcases fy_if g with g | g
        · skip
          obtain ⟨w10, X9, rX9, g⟩ := g
          have fX9 : fy fF_245 fL_245 fA_245 X X9 := fy_z (fy_rf (X := X)) (gf_227 rX9)
          rcases fy_if g with g | g
          · skip
            obtain ⟨w17, X16, rX16, g⟩ := g
            have fX16 : fy fF_245 fL_245 fA_245 X X16 := fy_tr fX9 (fy_sub (gf_228 rX16) (by decide) (by decide) (by decide))
            obtain ⟨x18, -, g⟩ := g
            exact fy_tr fX16 (ih _ _ _ _ _ _ _ g)
          · skip
            obtain ⟨w13, X12, rX12, g⟩ := g
            have fX12 : fy fF_245 fL_245 fA_245 X X12 := fy_tr fX9 (fy_sub (gf_228 rX12) (by decide) (by decide) (by decide))
            obtain ⟨x14, -, g⟩ := g
            exact fy_tr fX12 (ih _ _ _ _ _ _ _ g)
        · skip
          rw [g]; exact (fy_rf (X := X))
theorem gf_245 {p1 : Int32} {X : fx_X} {v : Unit} {X' : fx_X} (g : gx_245 p1 X v X') : fy fF_245 fL_245 fA_245 X X' := by
  obtain ⟨n, g⟩ := g
  unfold gxE_245 at g
  exact fy_tr (fy_rf (X := X)) (gfl_245 _ n _ _ _ _ _ _ _ g)
abbrev fF_244 : List (Nat × Nat) := [(117, 41), (117, 43), (117, 44)]
abbrev fL_244 : List (Nat × Nat) := []
abbrev fA_244 : List Nat := [137]
theorem gfl_244 : ∀ (n l : Nat) (is : List Int32) (ls : List Int64) (rs : List Nat) (X : fx_X) (v : Unit) (X' : fx_X), gxF_244 n l is ls rs X v X' → fy fF_244 fL_244 fA_244 X X' := by
  intro n
  induction n with
  | zero => intro l is ls rs X v X' g; exact g.elim
  | succ n ih =>
    intro l is ls rs X v X' g
    rcases g with ⟨-, y1, y2, y3, y4, -, -, -, g⟩
    · unfold gxT_244_78 at g
      rcases fy_if g with g | g
      · skip
        rw [g]; exact (fy_rf (X := X))
      · skip
        replace g := g.2
        rcases fy_if g with g | g
        · skip
          obtain ⟨w23, X22, rX22, g⟩ := g
          have fX22 : fy fF_244 fL_244 fA_244 X X22 := fy_z (fy_rf (X := X)) (gf_227 rX22)
          obtain ⟨w27, X26, rX26, g⟩ := g
          have fX26 : fy fF_244 fL_244 fA_244 X X26 := fy_z fX22 (gf_227 rX26)
          rcases fy_if g with g | g
          · skip
            rcases fy_if g with g | g
            · skip
              rcases fy_if g with g | g
              · skip
                obtain ⟨w52, X51, rX51, g⟩ := g
                have fX51 : fy fF_244 fL_244 fA_244 X X51 := fy_tr fX26 (fy_sub (gf_228 rX51) (by decide) (by decide) (by decide))
                obtain ⟨x53, -, g⟩ := g
                exact fy_tr fX51 (ih _ _ _ _ _ _ _ g)
              · skip
                obtain ⟨w56, X55, rX55, g⟩ := g
                have fX55 : fy fF_244 fL_244 fA_244 X X55 := fy_tr fX26 (fy_sub (gf_228 rX55) (by decide) (by decide) (by decide))
                obtain ⟨x57, -, g⟩ := g
                exact fy_tr fX55 (ih _ _ _ _ _ _ _ g)
            · skip
              obtain ⟨w47, X46, rX46, g⟩ := g
              have fX46 : fy fF_244 fL_244 fA_244 X X46 := fy_tr fX26 (fy_sub (gf_228 rX46) (by decide) (by decide) (by decide))
              obtain ⟨x48, -, g⟩ := g
              exact fy_tr fX46 (ih _ _ _ _ _ _ _ g)
          · skip
            rcases fy_if g with g | g
            · skip
              obtain ⟨w33, X32, rX32, g⟩ := g
              have fX32 : fy fF_244 fL_244 fA_244 X X32 := fy_tr fX26 (fy_sub (gf_228 rX32) (by decide) (by decide) (by decide))
              obtain ⟨x34, -, g⟩ := g
              exact fy_tr fX32 (ih _ _ _ _ _ _ _ g)
            · skip
              rcases fy_if g with g | g
              · skip
                obtain ⟨w38, X37, rX37, g⟩ := g
                have fX37 : fy fF_244 fL_244 fA_244 X X37 := fy_tr fX26 (fy_sub (gf_228 rX37) (by decide) (by decide) (by decide))
                obtain ⟨x39, -, g⟩ := g
                exact fy_tr fX37 (ih _ _ _ _ _ _ _ g)
              · skip
                obtain ⟨w42, X41, rX41, g⟩ := g
                have fX41 : fy fF_244 fL_244 fA_244 X X41 := fy_tr fX26 (fy_sub (gf_228 rX41) (by decide) (by decide) (by decide))
                obtain ⟨x43, -, g⟩ := g
                exact fy_tr fX41 (ih _ _ _ _ _ _ _ g)
        · skip
          rw [g]; exact (fy_rf (X := X))
theorem gf_244 {X : fx_X} {v : Unit} {X' : fx_X} (g : gx_244 X v X') : fy fF_244 fL_244 fA_244 X X' := by
  obtain ⟨n, g⟩ := g
  unfold gxE_244 at g
  obtain ⟨X2, eX2, g⟩ := g
  have fX2 : fy fF_244 fL_244 fA_244 X X2 := by rw [eX2]; exact fy_f (fy_rf (X := X)) (by decide)
  replace g := g.2
  obtain ⟨x5, -, g⟩ := g
  rcases fy_if g with g | g
  · skip
    obtain ⟨X14, eX14, g⟩ := g
    have fX14 : fy fF_244 fL_244 fA_244 X X14 := by rw [eX14]; exact fy_f fX2 (by decide)
    obtain ⟨w16, X15, rX15, g⟩ := g
    have fX15 : fy fF_244 fL_244 fA_244 X X15 := fy_tr fX14 (fy_sub (gf_245 rX15) (by decide) (by decide) (by decide))
    rw [g]; exact fX15
  · skip
    obtain ⟨X8, eX8, g⟩ := g
    have fX8 : fy fF_244 fL_244 fA_244 X X8 := by rw [eX8]; exact fy_f fX2 (by decide)
    obtain ⟨x9, -, g⟩ := g
    obtain ⟨x11, -, g⟩ := g
    exact fy_tr fX8 (gfl_244 n _ _ _ _ _ _ _ g)
abbrev fF_238 : List (Nat × Nat) := [(117, 24), (117, 25), (117, 26), (117, 27), (117, 28), (117, 29), (117, 30), (117, 31), (117, 34), (117, 35), (117, 36), (117, 38), (117, 39), (117, 40), (117, 44)]
abbrev fL_238 : List (Nat × Nat) := [(117, 33)]
abbrev fA_238 : List Nat := [137]
theorem gfl_238 : ∀ (n l : Nat) (is : List Int32) (ls : List Int64) (rs : List Nat) (X : fx_X) (v : Int32) (X' : fx_X), gxF_238 n l is ls rs X v X' → fy fF_238 fL_238 fA_238 X X' := by
  intro n
  induction n with
  | zero => intro l is ls rs X v X' g; exact g.elim
  | succ n ih =>
    intro l is ls rs X v X' g
    rcases g with ⟨-, y1, y2, y3, y4, -, -, -, g⟩
    · unfold gxT_238_81 at g
      rcases fy_if g with g | g
      · skip
        obtain ⟨X60, eX60, g⟩ := g
        have fX60 : fy fF_238 fL_238 fA_238 X X60 := by rw [eX60]; exact fy_f (fy_rf (X := X)) (by decide)
        rw [g.2]; exact fX60
      · skip
        replace g := g.2
        rcases fy_if g with g | g
        · skip
          obtain ⟨w67, X66, rX66, g⟩ := g
          have fX66 : fy fF_238 fL_238 fA_238 X X66 := fy_z (fy_rf (X := X)) (gf_240 rX66)
          obtain ⟨w69, X68, rX68, g⟩ := g
          have fX68 : fy fF_238 fL_238 fA_238 X X68 := fy_z fX66 (gf_240 rX68)
          obtain ⟨w71, X70, rX70, g⟩ := g
          have fX70 : fy fF_238 fL_238 fA_238 X X70 := fy_z fX68 (gf_242 rX70)
          obtain ⟨w73, X72, rX72, g⟩ := g
          have fX72 : fy fF_238 fL_238 fA_238 X X72 := fy_tr fX70 (fy_sub (gf_228 rX72) (by decide) (by decide) (by decide))
          obtain ⟨x74, -, g⟩ := g
          exact fy_tr fX72 (ih _ _ _ _ _ _ _ g)
        · skip
          obtain ⟨X64, eX64, g⟩ := g
          have fX64 : fy fF_238 fL_238 fA_238 X X64 := by rw [eX64]; exact fy_f (fy_rf (X := X)) (by decide)
          rw [g.2]; exact fX64
theorem gf_238 {X : fx_X} {v : Int32} {X' : fx_X} (g : gx_238 X v X') : fy fF_238 fL_238 fA_238 X X' := by
  obtain ⟨n, g⟩ := g
  unfold gxE_238 at g
  rcases fy_if g with g | g
  · skip
    obtain ⟨w4, X3, rX3, g⟩ := g
    have fX3 : fy fF_238 fL_238 fA_238 X X3 := fy_tr (fy_rf (X := X)) (fy_sub (gf_235 rX3) (by decide) (by decide) (by decide))
    rcases fy_if g with g | g
    · skip
      rw [g.2]; exact fX3
    · skip
      obtain ⟨x6, -, g⟩ := g
      obtain ⟨x8, -, g⟩ := g
      obtain ⟨w11, X10, rX10, g⟩ := g
      have fX10 : fy fF_238 fL_238 fA_238 X X10 := fy_tr fX3 (fy_sub (gf_239 rX10) (by decide) (by decide) (by decide))
      rcases fy_if g with g | g
      · skip
        rw [g.2]; exact fX10
      · skip
        obtain ⟨x13, -, g⟩ := g
        obtain ⟨w16, X15, rX15, g⟩ := g
        have fX15 : fy fF_238 fL_238 fA_238 X X15 := fy_tr fX10 (fy_sub (gf_235 rX15) (by decide) (by decide) (by decide))
        rcases fy_if g with g | g
        · skip
          rw [g.2]; exact fX15
        · skip
          exact fy_tr fX15 (gfl_238 n _ _ _ _ _ _ _ g)
  · skip
    obtain ⟨w20, X19, rX19, g⟩ := g
    have fX19 : fy fF_238 fL_238 fA_238 X X19 := fy_z (fy_rf (X := X)) (gf_220 rX19)
    rcases fy_if g with g | g
    · skip
      obtain ⟨w39, X38, rX38, g⟩ := g
      have fX38 : fy fF_238 fL_238 fA_238 X X38 := fy_z fX19 (gf_220 rX38)
      rcases fy_if g with g | g
      · skip
        obtain ⟨w58, X57, rX57, g⟩ := g
        have fX57 : fy fF_238 fL_238 fA_238 X X57 := fy_tr fX38 (fy_sub (gf_215 rX57) (by decide) (by decide) (by decide))
        rw [g.2]; exact fX57
      · skip
        obtain ⟨w42, X41, rX41, g⟩ := g
        have fX41 : fy fF_238 fL_238 fA_238 X X41 := fy_tr fX38 (fy_sub (gf_235 rX41) (by decide) (by decide) (by decide))
        rcases fy_if g with g | g
        · skip
          rw [g.2]; exact fX41
        · skip
          obtain ⟨x44, -, g⟩ := g
          obtain ⟨x46, -, g⟩ := g
          obtain ⟨w49, X48, rX48, g⟩ := g
          have fX48 : fy fF_238 fL_238 fA_238 X X48 := fy_tr fX41 (fy_sub (gf_239 rX48) (by decide) (by decide) (by decide))
          rcases fy_if g with g | g
          · skip
            rw [g.2]; exact fX48
          · skip
            obtain ⟨x51, -, g⟩ := g
            obtain ⟨w54, X53, rX53, g⟩ := g
            have fX53 : fy fF_238 fL_238 fA_238 X X53 := fy_tr fX48 (fy_sub (gf_235 rX53) (by decide) (by decide) (by decide))
            rcases fy_if g with g | g
            · skip
              rw [g.2]; exact fX53
            · skip
              exact fy_tr fX53 (gfl_238 n _ _ _ _ _ _ _ g)
    · skip
      obtain ⟨w23, X22, rX22, g⟩ := g
      have fX22 : fy fF_238 fL_238 fA_238 X X22 := fy_tr fX19 (fy_sub (gf_235 rX22) (by decide) (by decide) (by decide))
      rcases fy_if g with g | g
      · skip
        rw [g.2]; exact fX22
      · skip
        obtain ⟨x25, -, g⟩ := g
        obtain ⟨x27, -, g⟩ := g
        obtain ⟨w30, X29, rX29, g⟩ := g
        have fX29 : fy fF_238 fL_238 fA_238 X X29 := fy_tr fX22 (fy_sub (gf_239 rX29) (by decide) (by decide) (by decide))
        rcases fy_if g with g | g
        · skip
          rw [g.2]; exact fX29
        · skip
          obtain ⟨x32, -, g⟩ := g
          obtain ⟨w35, X34, rX34, g⟩ := g
          have fX34 : fy fF_238 fL_238 fA_238 X X34 := fy_tr fX29 (fy_sub (gf_235 rX34) (by decide) (by decide) (by decide))
          rcases fy_if g with g | g
          · skip
            rw [g.2]; exact fX34
          · skip
            exact fy_tr fX34 (gfl_238 n _ _ _ _ _ _ _ g)
theorem gf_243 {p1 : Int32} {X : fx_X} {v : Int32} {X' : fx_X} (g : gx_243 p1 X v X') : fy [] [] [] X X' := by
  unfold gx_243 at g
  rcases fy_if g with g | g
  · skip
    replace g := g.2
    rcases fy_if g with g | g
    · skip
      rw [g.2]; exact (fy_rf (X := X))
    · skip
      rw [g.2]; exact (fy_rf (X := X))
  · skip
    rw [g.2]; exact (fy_rf (X := X))
abbrev fF_237 : List (Nat × Nat) := [(117, 24), (117, 25), (117, 26), (117, 27), (117, 28), (117, 29), (117, 30), (117, 31), (117, 34), (117, 35), (117, 36), (117, 38), (117, 39), (117, 40), (117, 41), (117, 43), (117, 44)]
abbrev fL_237 : List (Nat × Nat) := [(117, 33)]
abbrev fA_237 : List Nat := [137, 139]
theorem gfl_237 : ∀ (n l : Nat) (is : List Int32) (ls : List Int64) (rs : List Nat) (X : fx_X) (v : Int32) (X' : fx_X), gxF_237 n l is ls rs X v X' → fy fF_237 fL_237 fA_237 X X' := by
  intro n
  induction n with
  | zero => intro l is ls rs X v X' g; exact g.elim
  | succ n ih =>
    intro l is ls rs X v X' g
    rcases g with ⟨-, y1, y2, -, -, -, g⟩ | ⟨-, y1, -, -, -, g⟩ | ⟨-, y1, -, -, -, g⟩ | ⟨-, y1, -, -, -, g⟩ | ⟨-, y1, -, -, -, g⟩ | ⟨-, y1, -, -, -, g⟩ | ⟨-, y1, y2, -, -, -, g⟩ | ⟨-, -, -, -, g⟩
    · unfold gxT_237_19 at g
      rcases fy_if g with g | g
      · skip
        rcases fy_if g with g | g
        · skip
          obtain ⟨w10, X9, rX9, g⟩ := g
          have fX9 : fy fF_237 fL_237 fA_237 X X9 := fy_tr (fy_rf (X := X)) (fy_sub (gf_215 rX9) (by decide) (by decide) (by decide))
          rw [g.2]; exact fX9
        · skip
          exact fy_tr (fy_rf (X := X)) (ih _ _ _ _ _ _ _ g)
      · skip
        exact fy_tr (fy_rf (X := X)) (ih _ _ _ _ _ _ _ g)
    · unfold gxT_237_23 at g
      obtain ⟨w15, X14, rX14, g⟩ := g
      have fX14 : fy fF_237 fL_237 fA_237 X X14 := fy_z (fy_rf (X := X)) (gf_220 rX14)
      rcases fy_if g with g | g
      · skip
        obtain ⟨w36, X35, rX35, g⟩ := g
        have fX35 : fy fF_237 fL_237 fA_237 X X35 := fy_z fX14 (gf_220 rX35)
        rcases fy_if g with g | g
        · skip
          obtain ⟨w39, X38, rX38, g⟩ := g
          have fX38 : fy fF_237 fL_237 fA_237 X X38 := fy_tr fX35 (fy_sub (gf_238 rX38) (by decide) (by decide) (by decide))
          rcases fy_if g with g | g
          · skip
            rw [g.2]; exact fX38
          · skip
            exact fy_tr fX38 (ih _ _ _ _ _ _ _ g)
        · skip
          rcases fy_if g with g | g
          · skip
            obtain ⟨w58, X57, rX57, g⟩ := g
            have fX57 : fy fF_237 fL_237 fA_237 X X57 := fy_tr fX35 (fy_sub (gf_215 rX57) (by decide) (by decide) (by decide))
            rw [g.2]; exact fX57
          · skip
            obtain ⟨X42, eX42, g⟩ := g
            have fX42 : fy fF_237 fL_237 fA_237 X X42 := by rw [eX42]; exact fy_f fX35 (by decide)
            replace g := g.2
            obtain ⟨X45, eX45, g⟩ := g
            have fX45 : fy fF_237 fL_237 fA_237 X X45 := by rw [eX45]; exact fy_a fX42 (by decide)
            obtain ⟨X46, eX46, g⟩ := g
            have fX46 : fy fF_237 fL_237 fA_237 X X46 := by rw [eX46]; exact fy_f fX45 (by decide)
            rcases fy_if g with g | g
            · skip
              obtain ⟨x52, -, g⟩ := g
              obtain ⟨w55, X54, rX54, g⟩ := g
              have fX54 : fy fF_237 fL_237 fA_237 X X54 := fy_tr fX46 (fy_sub (gf_214 rX54) (by decide) (by decide) (by decide))
              rcases fy_if g with g | g
              · skip
                rw [g.2]; exact fX54
              · skip
                exact fy_tr fX54 (ih _ _ _ _ _ _ _ g)
            · skip
              obtain ⟨w50, X49, rX49, g⟩ := g
              have fX49 : fy fF_237 fL_237 fA_237 X X49 := fy_tr fX46 (fy_sub (gf_214 rX49) (by decide) (by decide) (by decide))
              rcases fy_if g with g | g
              · skip
                rw [g.2]; exact fX49
              · skip
                exact fy_tr fX49 (ih _ _ _ _ _ _ _ g)
      · skip
        rcases fy_if g with g | g
        · skip
          obtain ⟨w34, X33, rX33, g⟩ := g
          have fX33 : fy fF_237 fL_237 fA_237 X X33 := fy_tr fX14 (fy_sub (gf_215 rX33) (by decide) (by decide) (by decide))
          rw [g.2]; exact fX33
        · skip
          obtain ⟨X18, eX18, g⟩ := g
          have fX18 : fy fF_237 fL_237 fA_237 X X18 := by rw [eX18]; exact fy_f fX14 (by decide)
          replace g := g.2
          obtain ⟨X21, eX21, g⟩ := g
          have fX21 : fy fF_237 fL_237 fA_237 X X21 := by rw [eX21]; exact fy_a fX18 (by decide)
          obtain ⟨X22, eX22, g⟩ := g
          have fX22 : fy fF_237 fL_237 fA_237 X X22 := by rw [eX22]; exact fy_f fX21 (by decide)
          rcases fy_if g with g | g
          · skip
            obtain ⟨x28, -, g⟩ := g
            obtain ⟨w31, X30, rX30, g⟩ := g
            have fX30 : fy fF_237 fL_237 fA_237 X X30 := fy_tr fX22 (fy_sub (gf_214 rX30) (by decide) (by decide) (by decide))
            rcases fy_if g with g | g
            · skip
              rw [g.2]; exact fX30
            · skip
              exact fy_tr fX30 (ih _ _ _ _ _ _ _ g)
          · skip
            obtain ⟨w26, X25, rX25, g⟩ := g
            have fX25 : fy fF_237 fL_237 fA_237 X X25 := fy_tr fX22 (fy_sub (gf_214 rX25) (by decide) (by decide) (by decide))
            rcases fy_if g with g | g
            · skip
              rw [g.2]; exact fX25
            · skip
              exact fy_tr fX25 (ih _ _ _ _ _ _ _ g)
    · unfold gxT_237_128 at g
      obtain ⟨w60, X59, rX59, g⟩ := g
      have fX59 : fy fF_237 fL_237 fA_237 X X59 := fy_z (fy_rf (X := X)) (gf_243 rX59)
      rcases fy_if g with g | g
      · skip
        exact fy_tr fX59 (ih _ _ _ _ _ _ _ g)
      · skip
        obtain ⟨w63, X62, rX62, g⟩ := g
        have fX62 : fy fF_237 fL_237 fA_237 X X62 := fy_tr fX59 (fy_sub (gf_244 rX62) (by decide) (by decide) (by decide))
        exact fy_tr fX62 (ih _ _ _ _ _ _ _ g)
    · unfold gxT_237_144 at g
      rcases fy_if g with g | g
      · skip
        obtain ⟨w78, X77, rX77, g⟩ := g
        have fX77 : fy fF_237 fL_237 fA_237 X X77 := fy_z (fy_rf (X := X)) (gf_220 rX77)
        rcases fy_if g with g | g
        · skip
          obtain ⟨w81, X80, rX80, g⟩ := g
          have fX80 : fy fF_237 fL_237 fA_237 X X80 := fy_z fX77 (gf_220 rX80)
          rcases fy_if g with g | g
          · skip
            obtain ⟨w86, X85, rX85, g⟩ := g
            have fX85 : fy fF_237 fL_237 fA_237 X X85 := fy_z fX80 (gf_220 rX85)
            rcases fy_if g with g | g
            · skip
              exact fy_tr fX85 (ih _ _ _ _ _ _ _ g)
            · skip
              exact fy_tr fX85 (ih _ _ _ _ _ _ _ g)
          · skip
            exact fy_tr fX80 (ih _ _ _ _ _ _ _ g)
        · skip
          exact fy_tr fX77 (ih _ _ _ _ _ _ _ g)
      · skip
        obtain ⟨w66, X65, rX65, g⟩ := g
        have fX65 : fy fF_237 fL_237 fA_237 X X65 := fy_z (fy_rf (X := X)) (gf_220 rX65)
        rcases fy_if g with g | g
        · skip
          obtain ⟨w71, X70, rX70, g⟩ := g
          have fX70 : fy fF_237 fL_237 fA_237 X X70 := fy_z fX65 (gf_220 rX70)
          rcases fy_if g with g | g
          · skip
            exact fy_tr fX70 (ih _ _ _ _ _ _ _ g)
          · skip
            exact fy_tr fX70 (ih _ _ _ _ _ _ _ g)
        · skip
          exact fy_tr fX65 (ih _ _ _ _ _ _ _ g)
    · unfold gxT_237_157 at g
      obtain ⟨w120, X119, rX119, g⟩ := g
      have fX119 : fy fF_237 fL_237 fA_237 X X119 := fy_z (fy_rf (X := X)) (gf_243 rX119)
      rcases fy_if g with g | g
      · skip
        obtain ⟨w130, X129, rX129, g⟩ := g
        have fX129 : fy fF_237 fL_237 fA_237 X X129 := fy_tr fX119 (fy_sub (gf_244 rX129) (by decide) (by decide) (by decide))
        exact fy_tr fX129 (ih _ _ _ _ _ _ _ g)
      · skip
        obtain ⟨X122, eX122, g⟩ := g
        have fX122 : fy fF_237 fL_237 fA_237 X X122 := by rw [eX122]; exact fy_f fX119 (by decide)
        obtain ⟨x123, -, g⟩ := g
        obtain ⟨X125, eX125, g⟩ := g
        have fX125 : fy fF_237 fL_237 fA_237 X X125 := by rw [eX125]; exact fy_f fX122 (by decide)
        obtain ⟨w127, X126, rX126, g⟩ := g
        have fX126 : fy fF_237 fL_237 fA_237 X X126 := fy_tr fX125 (fy_sub (gf_214 rX126) (by decide) (by decide) (by decide))
        rcases fy_if g with g | g
        · skip
          rw [g.2]; exact fX126
        · skip
          exact fy_tr fX126 (ih _ _ _ _ _ _ _ g)
    · unfold gxT_237_205 at g
      obtain ⟨w132, X131, rX131, g⟩ := g
      have fX131 : fy fF_237 fL_237 fA_237 X X131 := fy_z (fy_rf (X := X)) (gf_243 rX131)
      rcases fy_if g with g | g
      · skip
        exact fy_tr fX131 (ih _ _ _ _ _ _ _ g)
      · skip
        obtain ⟨w135, X134, rX134, g⟩ := g
        have fX134 : fy fF_237 fL_237 fA_237 X X134 := fy_tr fX131 (fy_sub (gf_244 rX134) (by decide) (by decide) (by decide))
        exact fy_tr fX134 (ih _ _ _ _ _ _ _ g)
    · unfold gxT_237_249 at g
      obtain ⟨w93, X92, rX92, g⟩ := g
      have fX92 : fy fF_237 fL_237 fA_237 X X92 := fy_z (fy_rf (X := X)) (gf_243 rX92)
      rcases fy_if g with g | g
      · skip
        obtain ⟨w98, X97, rX97, g⟩ := g
        have fX97 : fy fF_237 fL_237 fA_237 X X97 := fy_z fX92 (gf_220 rX97)
        rcases fy_if g with g | g
        · skip
          replace g := g.2
          obtain ⟨X102, eX102, g⟩ := g
          have fX102 : fy fF_237 fL_237 fA_237 X X102 := by rw [eX102]; exact fy_a fX97 (by decide)
          obtain ⟨X103, eX103, g⟩ := g
          have fX103 : fy fF_237 fL_237 fA_237 X X103 := by rw [eX103]; exact fy_f fX102 (by decide)
          obtain ⟨w105, X104, rX104, g⟩ := g
          have fX104 : fy fF_237 fL_237 fA_237 X X104 := fy_tr fX103 (fy_sub (gf_214 rX104) (by decide) (by decide) (by decide))
          rcases fy_if g with g | g
          · skip
            rw [g.2]; exact fX104
          · skip
            exact fy_tr fX104 (ih _ _ _ _ _ _ _ g)
        · skip
          obtain ⟨w108, X107, rX107, g⟩ := g
          have fX107 : fy fF_237 fL_237 fA_237 X X107 := fy_z fX97 (gf_243 rX107)
          rcases fy_if g with g | g
          · skip
            replace g := g.2
            obtain ⟨X112, eX112, g⟩ := g
            have fX112 : fy fF_237 fL_237 fA_237 X X112 := by rw [eX112]; exact fy_a fX107 (by decide)
            obtain ⟨X113, eX113, g⟩ := g
            have fX113 : fy fF_237 fL_237 fA_237 X X113 := by rw [eX113]; exact fy_f fX112 (by decide)
            obtain ⟨w115, X114, rX114, g⟩ := g
            have fX114 : fy fF_237 fL_237 fA_237 X X114 := fy_tr fX113 (fy_sub (gf_214 rX114) (by decide) (by decide) (by decide))
            rcases fy_if g with g | g
            · skip
              rw [g.2]; exact fX114
            · skip
              exact fy_tr fX114 (ih _ _ _ _ _ _ _ g)
          · skip
            obtain ⟨w118, X117, rX117, g⟩ := g
            have fX117 : fy fF_237 fL_237 fA_237 X X117 := fy_tr fX107 (fy_sub (gf_244 rX117) (by decide) (by decide) (by decide))
            exact fy_tr fX117 (ih _ _ _ _ _ _ _ g)
      · skip
        obtain ⟨w96, X95, rX95, g⟩ := g
        have fX95 : fy fF_237 fL_237 fA_237 X X95 := fy_tr fX92 (fy_sub (gf_244 rX95) (by decide) (by decide) (by decide))
        exact fy_tr fX95 (ih _ _ _ _ _ _ _ g)
    · unfold gxT_237_329 at g
      rcases fy_if g with g | g
      · skip
        obtain ⟨w13, X12, rX12, g⟩ := g
        have fX12 : fy fF_237 fL_237 fA_237 X X12 := fy_tr (fy_rf (X := X)) (fy_sub (gf_244 rX12) (by decide) (by decide) (by decide))
        exact fy_tr fX12 (ih _ _ _ _ _ _ _ g)
      · skip
        rw [g.2]; exact (fy_rf (X := X))
theorem gf_237 {X : fx_X} {v : Int32} {X' : fx_X} (g : gx_237 X v X') : fy fF_237 fL_237 fA_237 X X' := by
  obtain ⟨n, g⟩ := g
  unfold gxE_237 at g
  obtain ⟨X2, eX2, g⟩ := g
  have fX2 : fy fF_237 fL_237 fA_237 X X2 := by rw [eX2]; exact fy_f (fy_rf (X := X)) (by decide)
  obtain ⟨X3, eX3, g⟩ := g
  have fX3 : fy fF_237 fL_237 fA_237 X X3 := by rw [eX3]; exact fy_f fX2 (by decide)
  obtain ⟨X4, eX4, g⟩ := g
  have fX4 : fy fF_237 fL_237 fA_237 X X4 := by rw [eX4]; exact fy_f fX3 (by decide)
  exact fy_tr fX4 (gfl_237 n _ _ _ _ _ _ _ g)
theorem gfl_247 (p1 : Int32) (p2 : Int32) : ∀ (n l : Nat) (is : List Int32) (ls : List Int64) (rs : List Nat) (X : fx_X) (v : Int32) (X' : fx_X), gxF_247 p1 p2 n l is ls rs X v X' → fy [] [] [] X X' := by
  intro n
  induction n with
  | zero => intro l is ls rs X v X' g; exact g.elim
  | succ n ih =>
    intro l is ls rs X v X' g
    rcases g with ⟨-, y3, -, -, -, g⟩
    · unfold gxT_247_2 at g
      replace g := g.2
      rcases fy_if g with g | g
      · skip
        obtain ⟨w8, X7, rX7, g⟩ := g
        have fX7 : fy [] [] [] X X7 := fy_z (fy_rf (X := X)) (gf_227 rX7)
        rcases fy_if g with g | g
        · skip
          rw [g.2]; exact fX7
        · skip
          obtain ⟨x10, -, g⟩ := g
          exact fy_tr fX7 (ih _ _ _ _ _ _ _ g)
      · skip
        rw [g.2]; exact (fy_rf (X := X))
theorem gf_247 {p1 : Int32} {p2 : Int32} {X : fx_X} {v : Int32} {X' : fx_X} (g : gx_247 p1 p2 X v X') : fy [] [] [] X X' := by
  obtain ⟨n, g⟩ := g
  unfold gxE_247 at g
  exact fy_tr (fy_rf (X := X)) (gfl_247 _ _ n _ _ _ _ _ _ _ g)
abbrev fF_246 : List (Nat × Nat) := [(117, 24), (117, 25), (117, 26), (117, 27), (117, 28), (117, 29), (117, 30), (117, 31), (117, 34), (117, 35), (117, 36), (117, 38), (117, 39), (117, 40), (117, 41), (117, 43), (117, 44), (117, 45)]
abbrev fL_246 : List (Nat × Nat) := [(117, 33)]
abbrev fA_246 : List Nat := [127, 129, 137, 139]
theorem gfl_246 : ∀ (n l : Nat) (is : List Int32) (ls : List Int64) (rs : List Nat) (X : fx_X) (v : Int32) (X' : fx_X), gxF_246 n l is ls rs X v X' → fy fF_246 fL_246 fA_246 X X' := by
  intro n
  induction n with
  | zero => intro l is ls rs X v X' g; exact g.elim
  | succ n ih =>
    intro l is ls rs X v X' g
    rcases g with ⟨-, y1, y2, y3, y4, -, -, -, g⟩ | ⟨-, y1, y3, y4, -, -, -, g⟩
    · unfold gxT_246_91 at g
      replace g := g.2
      rcases fy_if g with g | g
      · skip
        obtain ⟨w35, X34, rX34, g⟩ := g
        have fX34 : fy fF_246 fL_246 fA_246 X X34 := fy_z (fy_rf (X := X)) (gf_227 rX34)
        obtain ⟨w37, X36, rX36, g⟩ := g
        have fX36 : fy fF_246 fL_246 fA_246 X X36 := fy_tr fX34 (fy_sub (gf_228 rX36) (by decide) (by decide) (by decide))
        obtain ⟨x38, -, g⟩ := g
        exact fy_tr fX36 (ih _ _ _ _ _ _ _ g)
      · skip
        replace g := g.2
        replace g := g.2
        obtain ⟨X30, eX30, g⟩ := g
        have fX30 : fy fF_246 fL_246 fA_246 X X30 := by rw [eX30]; exact fy_a (fy_rf (X := X)) (by decide)
        exact fy_tr fX30 (ih _ _ _ _ _ _ _ g)
    · unfold gxT_246_147 at g
      replace g := g.2
      rcases fy_if g with g | g
      · skip
        rcases fy_if g with g | g
        · skip
          obtain ⟨w52, X51, rX51, g⟩ := g
          have fX51 : fy fF_246 fL_246 fA_246 X X51 := fy_z (fy_rf (X := X)) (gf_247 rX51)
          rcases fy_if g with g | g
          · skip
            obtain ⟨x55, -, g⟩ := g
            exact fy_tr fX51 (ih _ _ _ _ _ _ _ g)
          · skip
            obtain ⟨x58, -, g⟩ := g
            exact fy_tr fX51 (ih _ _ _ _ _ _ _ g)
        · skip
          obtain ⟨x49, -, g⟩ := g
          exact fy_tr (fy_rf (X := X)) (ih _ _ _ _ _ _ _ g)
      · skip
        rcases fy_if g with g | g
        · skip
          obtain ⟨w45, X44, rX44, g⟩ := g
          have fX44 : fy fF_246 fL_246 fA_246 X X44 := fy_tr (fy_rf (X := X)) (fy_sub (gf_215 rX44) (by decide) (by decide) (by decide))
          rcases fy_if g with g | g
          · skip
            rw [g.2]; exact fX44
          · skip
            rw [g.2]; exact fX44
        · skip
          rw [g.2]; exact (fy_rf (X := X))
theorem gf_246 {X : fx_X} {v : Int32} {X' : fx_X} (g : gx_246 X v X') : fy fF_246 fL_246 fA_246 X X' := by
  obtain ⟨n, g⟩ := g
  unfold gxE_246 at g
  obtain ⟨x2, -, g⟩ := g
  rcases fy_if g with g | g
  · skip
    obtain ⟨w23, X22, rX22, g⟩ := g
    have fX22 : fy fF_246 fL_246 fA_246 X X22 := fy_tr (fy_rf (X := X)) (fy_sub (gf_215 rX22) (by decide) (by decide) (by decide))
    rw [g.2]; exact fX22
  · skip
    obtain ⟨X5, eX5, g⟩ := g
    have fX5 : fy fF_246 fL_246 fA_246 X X5 := by rw [eX5]; exact fy_f (fy_rf (X := X)) (by decide)
    obtain ⟨w7, X6, rX6, g⟩ := g
    have fX6 : fy fF_246 fL_246 fA_246 X X6 := fy_tr fX5 (fy_sub (gf_214 rX6) (by decide) (by decide) (by decide))
    rcases fy_if g with g | g
    · skip
      rw [g.2]; exact fX6
    · skip
      obtain ⟨w10, X9, rX9, g⟩ := g
      have fX9 : fy fF_246 fL_246 fA_246 X X9 := fy_tr fX6 (fy_sub (gf_237 rX9) (by decide) (by decide) (by decide))
      rcases fy_if g with g | g
      · skip
        rw [g.2]; exact fX9
      · skip
        obtain ⟨w13, X12, rX12, g⟩ := g
        have fX12 : fy fF_246 fL_246 fA_246 X X12 := fy_tr fX9 (fy_sub (gf_219 rX12) (by decide) (by decide) (by decide))
        rcases fy_if g with g | g
        · skip
          rw [g.2]; exact fX12
        · skip
          rcases fy_if g with g | g
          · skip
            rw [g.2]; exact fX12
          · skip
            replace g := g.2
            obtain ⟨x18, -, g⟩ := g
            exact fy_tr fX12 (gfl_246 n _ _ _ _ _ _ _ g)
abbrev fF_234 : List (Nat × Nat) := [(117, 24), (117, 25), (117, 26), (117, 27), (117, 28), (117, 29), (117, 30), (117, 31), (117, 34), (117, 35), (117, 36), (117, 38), (117, 39), (117, 40), (117, 41), (117, 43), (117, 44)]
abbrev fL_234 : List (Nat × Nat) := [(117, 33)]
abbrev fA_234 : List Nat := [131, 134, 135, 136, 137, 139]
theorem gfl_234 : ∀ (n l : Nat) (is : List Int32) (ls : List Int64) (rs : List Nat) (X : fx_X) (v : Int32) (X' : fx_X), gxF_234 n l is ls rs X v X' → fy fF_234 fL_234 fA_234 X X' := by
  intro n
  induction n with
  | zero => intro l is ls rs X v X' g; exact g.elim
  | succ n ih =>
    intro l is ls rs X v X' g
    rcases g with ⟨-, y1, y2, -, -, -, g⟩ | ⟨-, y1, y2, y3, -, -, -, g⟩ | ⟨-, y1, y2, y3, y4, y5, -, -, -, g⟩ | ⟨-, y1, y2, y3, y4, -, -, -, g⟩ | ⟨-, y1, y2, -, -, -, g⟩ | ⟨-, y1, y2, y6, -, -, -, g⟩ | ⟨-, y1, y2, y6, y7, -, -, -, g⟩ | ⟨-, y1, y2, -, -, -, g⟩
    · unfold gxT_234_86 at g
      obtain ⟨w27, X26, rX26, g⟩ := g
      have fX26 : fy fF_234 fL_234 fA_234 X X26 := fy_tr (fy_rf (X := X)) (fy_sub (gf_216 rX26) (by decide) (by decide) (by decide))
      rcases fy_if g with g | g
      · skip
        rw [g.2]; exact fX26
      · skip
        obtain ⟨x29, -, g⟩ := g
        rcases fy_if g with g | g
        · skip
          obtain ⟨w38, X37, rX37, g⟩ := g
          have fX37 : fy fF_234 fL_234 fA_234 X X37 := fy_tr fX26 (fy_sub (gf_218 rX37) (by decide) (by decide) (by decide))
          exact fy_tr fX37 (ih _ _ _ _ _ _ _ g)
        · skip
          replace g := g.2
          rcases fy_if g with g | g
          · skip
            exact fy_tr fX26 (ih _ _ _ _ _ _ _ g)
          · skip
            obtain ⟨w36, X35, rX35, g⟩ := g
            have fX35 : fy fF_234 fL_234 fA_234 X X35 := fy_tr fX26 (fy_sub (gf_218 rX35) (by decide) (by decide) (by decide))
            exact fy_tr fX35 (ih _ _ _ _ _ _ _ g)
    · unfold gxT_234_128 at g
      obtain ⟨w40, X39, rX39, g⟩ := g
      have fX39 : fy fF_234 fL_234 fA_234 X X39 := fy_tr (fy_rf (X := X)) (fy_sub (gf_219 rX39) (by decide) (by decide) (by decide))
      rcases fy_if g with g | g
      · skip
        rw [g.2]; exact fX39
      · skip
        exact fy_tr fX39 (ih _ _ _ _ _ _ _ g)
    · unfold gxT_234_145 at g
      rcases fy_if g with g | g
      · skip
        obtain ⟨w46, X45, rX45, g⟩ := g
        have fX45 : fy fF_234 fL_234 fA_234 X X45 := fy_tr (fy_rf (X := X)) (fy_sub (gf_219 rX45) (by decide) (by decide) (by decide))
        rcases fy_if g with g | g
        · skip
          rw [g.2]; exact fX45
        · skip
          rcases fy_if g with g | g
          · skip
            exact fy_tr fX45 (ih _ _ _ _ _ _ _ g)
          · skip
            replace g := g.2
            rcases fy_if g with g | g
            · skip
              replace g := g.2
              rcases fy_if g with g | g
              · skip
                exact fy_tr fX45 (ih _ _ _ _ _ _ _ g)
              · skip
                obtain ⟨w56, X55, rX55, g⟩ := g
                have fX55 : fy fF_234 fL_234 fA_234 X X55 := fy_tr fX45 (fy_sub (gf_218 rX55) (by decide) (by decide) (by decide))
                exact fy_tr fX55 (ih _ _ _ _ _ _ _ g)
            · skip
              exact fy_tr fX45 (ih _ _ _ _ _ _ _ g)
      · skip
        rcases fy_if g with g | g
        · skip
          obtain ⟨w59, X58, rX58, g⟩ := g
          have fX58 : fy fF_234 fL_234 fA_234 X X58 := fy_tr (fy_rf (X := X)) (fy_sub (gf_235 rX58) (by decide) (by decide) (by decide))
          rcases fy_if g with g | g
          · skip
            rw [g.2]; exact fX58
          · skip
            rcases fy_if g with g | g
            · skip
              exact fy_tr fX58 (ih _ _ _ _ _ _ _ g)
            · skip
              replace g := g.2
              obtain ⟨w66, X65, rX65, g⟩ := g
              have fX65 : fy fF_234 fL_234 fA_234 X X65 := fy_z fX58 (gf_236 rX65)
              replace g := g.2
              obtain ⟨X68, eX68, g⟩ := g
              have fX68 : fy fF_234 fL_234 fA_234 X X68 := by rw [eX68]; exact fy_a fX65 (by decide)
              replace g := g.2
              obtain ⟨w73, X72, rX72, g⟩ := g
              have fX72 : fy fF_234 fL_234 fA_234 X X72 := fy_z fX68 (gf_236 rX72)
              replace g := g.2
              obtain ⟨X75, eX75, g⟩ := g
              have fX75 : fy fF_234 fL_234 fA_234 X X75 := by rw [eX75]; exact fy_a fX72 (by decide)
              exact fy_tr fX75 (ih _ _ _ _ _ _ _ g)
        · skip
          obtain ⟨w77, X76, rX76, g⟩ := g
          have fX76 : fy fF_234 fL_234 fA_234 X X76 := fy_z (fy_rf (X := X)) (gf_220 rX76)
          rcases fy_if g with g | g
          · skip
            obtain ⟨w98, X97, rX97, g⟩ := g
            have fX97 : fy fF_234 fL_234 fA_234 X X97 := fy_z fX76 (gf_220 rX97)
            rcases fy_if g with g | g
            · skip
              obtain ⟨w119, X118, rX118, g⟩ := g
              have fX118 : fy fF_234 fL_234 fA_234 X X118 := fy_tr fX97 (fy_sub (gf_215 rX118) (by decide) (by decide) (by decide))
              rw [g.2]; exact fX118
            · skip
              obtain ⟨w101, X100, rX100, g⟩ := g
              have fX100 : fy fF_234 fL_234 fA_234 X X100 := fy_tr fX97 (fy_sub (gf_235 rX100) (by decide) (by decide) (by decide))
              rcases fy_if g with g | g
              · skip
                rw [g.2]; exact fX100
              · skip
                rcases fy_if g with g | g
                · skip
                  exact fy_tr fX100 (ih _ _ _ _ _ _ _ g)
                · skip
                  replace g := g.2
                  obtain ⟨w108, X107, rX107, g⟩ := g
                  have fX107 : fy fF_234 fL_234 fA_234 X X107 := fy_z fX100 (gf_236 rX107)
                  replace g := g.2
                  obtain ⟨X110, eX110, g⟩ := g
                  have fX110 : fy fF_234 fL_234 fA_234 X X110 := by rw [eX110]; exact fy_a fX107 (by decide)
                  replace g := g.2
                  obtain ⟨w115, X114, rX114, g⟩ := g
                  have fX114 : fy fF_234 fL_234 fA_234 X X114 := fy_z fX110 (gf_236 rX114)
                  replace g := g.2
                  obtain ⟨X117, eX117, g⟩ := g
                  have fX117 : fy fF_234 fL_234 fA_234 X X117 := by rw [eX117]; exact fy_a fX114 (by decide)
                  exact fy_tr fX117 (ih _ _ _ _ _ _ _ g)
          · skip
            obtain ⟨w80, X79, rX79, g⟩ := g
            have fX79 : fy fF_234 fL_234 fA_234 X X79 := fy_tr fX76 (fy_sub (gf_235 rX79) (by decide) (by decide) (by decide))
            rcases fy_if g with g | g
            · skip
              rw [g.2]; exact fX79
            · skip
              rcases fy_if g with g | g
              · skip
                exact fy_tr fX79 (ih _ _ _ _ _ _ _ g)
              · skip
                replace g := g.2
                obtain ⟨w87, X86, rX86, g⟩ := g
                have fX86 : fy fF_234 fL_234 fA_234 X X86 := fy_z fX79 (gf_236 rX86)
                replace g := g.2
                obtain ⟨X89, eX89, g⟩ := g
                have fX89 : fy fF_234 fL_234 fA_234 X X89 := by rw [eX89]; exact fy_a fX86 (by decide)
                replace g := g.2
                obtain ⟨w94, X93, rX93, g⟩ := g
                have fX93 : fy fF_234 fL_234 fA_234 X X93 := fy_z fX89 (gf_236 rX93)
                replace g := g.2
                obtain ⟨X96, eX96, g⟩ := g
                have fX96 : fy fF_234 fL_234 fA_234 X X96 := by rw [eX96]; exact fy_a fX93 (by decide)
                exact fy_tr fX96 (ih _ _ _ _ _ _ _ g)
    · unfold gxT_234_245 at g
      obtain ⟨x130, -, g⟩ := g
      obtain ⟨w133, X132, rX132, g⟩ := g
      have fX132 : fy fF_234 fL_234 fA_234 X X132 := fy_z (fy_rf (X := X)) (gf_220 rX132)
      rcases fy_if g with g | g
      · skip
        exact fy_tr fX132 (ih _ _ _ _ _ _ _ g)
      · skip
        obtain ⟨w137, X136, rX136, g⟩ := g
        have fX136 : fy fF_234 fL_234 fA_234 X X136 := fy_tr fX132 (fy_sub (gf_214 rX136) (by decide) (by decide) (by decide))
        rcases fy_if g with g | g
        · skip
          rw [g.2]; exact fX136
        · skip
          exact fy_tr fX136 (ih _ _ _ _ _ _ _ g)
    · unfold gxT_234_311 at g
      obtain ⟨w121, X120, rX120, g⟩ := g
      have fX120 : fy fF_234 fL_234 fA_234 X X120 := fy_z (fy_rf (X := X)) (gf_212 rX120)
      rcases fy_if g with g | g
      · skip
        exact fy_tr fX120 (ih _ _ _ _ _ _ _ g)
      · skip
        obtain ⟨w125, X124, rX124, g⟩ := g
        have fX124 : fy fF_234 fL_234 fA_234 X X124 := fy_tr fX120 (fy_sub (gf_214 rX124) (by decide) (by decide) (by decide))
        rcases fy_if g with g | g
        · skip
          rw [g.2]; exact fX124
        · skip
          obtain ⟨w128, X127, rX127, g⟩ := g
          have fX127 : fy fF_234 fL_234 fA_234 X X127 := fy_tr fX124 (fy_sub (gf_237 rX127) (by decide) (by decide) (by decide))
          rcases fy_if g with g | g
          · skip
            rw [g.2]; exact fX127
          · skip
            exact fy_tr fX127 (ih _ _ _ _ _ _ _ g)
    · unfold gxT_234_339 at g
      obtain ⟨w140, X139, rX139, g⟩ := g
      have fX139 : fy fF_234 fL_234 fA_234 X X139 := fy_tr (fy_rf (X := X)) (fy_sub (gf_219 rX139) (by decide) (by decide) (by decide))
      rcases fy_if g with g | g
      · skip
        rw [g.2]; exact fX139
      · skip
        exact fy_tr fX139 (ih _ _ _ _ _ _ _ g)
    · unfold gxT_234_353 at g
      rcases fy_if g with g | g
      · skip
        exact fy_tr (fy_rf (X := X)) (ih _ _ _ _ _ _ _ g)
      · skip
        replace g := g.2
        rcases fy_if g with g | g
        · skip
          replace g := g.2
          obtain ⟨w151, X150, rX150, g⟩ := g
          have fX150 : fy fF_234 fL_234 fA_234 X X150 := fy_z (fy_rf (X := X)) (gf_225 rX150)
          rcases fy_if g with g | g
          · skip
            obtain ⟨w154, X153, rX153, g⟩ := g
            have fX153 : fy fF_234 fL_234 fA_234 X X153 := fy_tr fX150 (fy_sub (gf_228 rX153) (by decide) (by decide) (by decide))
            obtain ⟨x155, -, g⟩ := g
            exact fy_tr fX153 (ih _ _ _ _ _ _ _ g)
          · skip
            obtain ⟨w159, X158, rX158, g⟩ := g
            have fX158 : fy fF_234 fL_234 fA_234 X X158 := fy_z fX150 (gf_227 rX158)
            rcases fy_if g with g | g
            · skip
              obtain ⟨w162, X161, rX161, g⟩ := g
              have fX161 : fy fF_234 fL_234 fA_234 X X161 := fy_tr fX158 (fy_sub (gf_228 rX161) (by decide) (by decide) (by decide))
              obtain ⟨x163, -, g⟩ := g
              exact fy_tr fX161 (ih _ _ _ _ _ _ _ g)
            · skip
              obtain ⟨w166, X165, rX165, g⟩ := g
              have fX165 : fy fF_234 fL_234 fA_234 X X165 := fy_tr fX158 (fy_sub (gf_228 rX165) (by decide) (by decide) (by decide))
              obtain ⟨x167, -, g⟩ := g
              exact fy_tr fX165 (ih _ _ _ _ _ _ _ g)
        · skip
          exact fy_tr (fy_rf (X := X)) (ih _ _ _ _ _ _ _ g)
    · unfold gxT_234_423 at g
      rcases fy_if g with g | g
      · skip
        rw [g.2]; exact (fy_rf (X := X))
      · skip
        replace g := g.2
        rcases fy_if g with g | g
        · skip
          replace g := g.2
          replace g := g.2
          obtain ⟨X176, eX176, g⟩ := g
          have fX176 : fy fF_234 fL_234 fA_234 X X176 := by rw [eX176]; exact fy_a (fy_rf (X := X)) (by decide)
          rw [g.2]; exact fX176
        · skip
          rw [g.2]; exact (fy_rf (X := X))
theorem gf_234 {X : fx_X} {v : Int32} {X' : fx_X} (g : gx_234 X v X') : fy fF_234 fL_234 fA_234 X X' := by
  obtain ⟨n, g⟩ := g
  unfold gxE_234 at g
  obtain ⟨w3, X2, rX2, g⟩ := g
  have fX2 : fy fF_234 fL_234 fA_234 X X2 := fy_tr (fy_rf (X := X)) (fy_sub (gf_214 rX2) (by decide) (by decide) (by decide))
  rcases fy_if g with g | g
  · skip
    rw [g.2]; exact fX2
  · skip
    rcases fy_if g with g | g
    · skip
      obtain ⟨w11, X10, rX10, g⟩ := g
      have fX10 : fy fF_234 fL_234 fA_234 X X10 := fy_z fX2 (gf_210 rX10)
      obtain ⟨w13, X12, rX12, g⟩ := g
      have fX12 : fy fF_234 fL_234 fA_234 X X12 := fy_z fX10 (gf_231 rX12)
      obtain ⟨x15, -, g⟩ := g
      rcases fy_if g with g | g
      · skip
        exact fy_tr fX12 (gfl_234 n _ _ _ _ _ _ _ g)
      · skip
        replace g := g.2
        rcases fy_if g with g | g
        · skip
          replace g := g.2
          rcases fy_if g with g | g
          · skip
            obtain ⟨w25, X24, rX24, g⟩ := g
            have fX24 : fy fF_234 fL_234 fA_234 X X24 := fy_tr fX12 (fy_sub (gf_215 rX24) (by decide) (by decide) (by decide))
            rw [g.2]; exact fX24
          · skip
            exact fy_tr fX12 (gfl_234 n _ _ _ _ _ _ _ g)
        · skip
          exact fy_tr fX12 (gfl_234 n _ _ _ _ _ _ _ g)
    · skip
      obtain ⟨x7, -, g⟩ := g
      exact fy_tr fX2 (gfl_234 n _ _ _ _ _ _ _ g)
abbrev fF_232 : List (Nat × Nat) := [(117, 24), (117, 25), (117, 26), (117, 27), (117, 28), (117, 29), (117, 30), (117, 31), (117, 34)]
abbrev fL_232 : List (Nat × Nat) := [(117, 33)]
abbrev fA_232 : List Nat := [132, 133]
theorem gf_232 {p1 : Int32} {X : fx_X} {v : Int32} {X' : fx_X} (g : gx_232 p1 X v X') : fy fF_232 fL_232 fA_232 X X' := by
  unfold gx_232 at g
  rcases fy_if g with g | g
  · skip
    replace g := g.2
    rcases fy_if g with g | g
    · skip
      obtain ⟨w59, X58, rX58, g⟩ := g
      have fX58 : fy fF_232 fL_232 fA_232 X X58 := fy_tr (fy_rf (X := X)) (fy_sub (gf_215 rX58) (by decide) (by decide) (by decide))
      rw [g.2]; exact fX58
    · skip
      obtain ⟨w33, X32, rX32, g⟩ := g
      have fX32 : fy fF_232 fL_232 fA_232 X X32 := fy_tr (fy_rf (X := X)) (fy_sub (gf_216 rX32) (by decide) (by decide) (by decide))
      rcases fy_if g with g | g
      · skip
        rw [g.2]; exact fX32
      · skip
        obtain ⟨w36, X35, rX35, g⟩ := g
        have fX35 : fy fF_232 fL_232 fA_232 X X35 := fy_z fX32 (gf_233 rX35)
        rcases fy_if g with g | g
        · skip
          replace g := g.2
          replace g := g.2
          obtain ⟨X42, eX42, g⟩ := g
          have fX42 : fy fF_232 fL_232 fA_232 X X42 := by rw [eX42]; exact fy_b fX35 (by decide)
          replace g := g.2
          replace g := g.2
          obtain ⟨X46, eX46, g⟩ := g
          have fX46 : fy fF_232 fL_232 fA_232 X X46 := by rw [eX46]; exact fy_a fX42 (by decide)
          rw [g.2]; exact fX46
        · skip
          obtain ⟨w48, X47, rX47, g⟩ := g
          have fX47 : fy fF_232 fL_232 fA_232 X X47 := fy_tr fX35 (fy_sub (gf_218 rX47) (by decide) (by decide) (by decide))
          replace g := g.2
          replace g := g.2
          obtain ⟨X53, eX53, g⟩ := g
          have fX53 : fy fF_232 fL_232 fA_232 X X53 := by rw [eX53]; exact fy_b fX47 (by decide)
          replace g := g.2
          replace g := g.2
          obtain ⟨X57, eX57, g⟩ := g
          have fX57 : fy fF_232 fL_232 fA_232 X X57 := by rw [eX57]; exact fy_a fX53 (by decide)
          rw [g.2]; exact fX57
  · skip
    obtain ⟨w4, X3, rX3, g⟩ := g
    have fX3 : fy fF_232 fL_232 fA_232 X X3 := fy_tr (fy_rf (X := X)) (fy_sub (gf_216 rX3) (by decide) (by decide) (by decide))
    rcases fy_if g with g | g
    · skip
      rw [g.2]; exact fX3
    · skip
      obtain ⟨w7, X6, rX6, g⟩ := g
      have fX6 : fy fF_232 fL_232 fA_232 X X6 := fy_z fX3 (gf_233 rX6)
      rcases fy_if g with g | g
      · skip
        replace g := g.2
        replace g := g.2
        obtain ⟨X13, eX13, g⟩ := g
        have fX13 : fy fF_232 fL_232 fA_232 X X13 := by rw [eX13]; exact fy_b fX6 (by decide)
        replace g := g.2
        replace g := g.2
        obtain ⟨X17, eX17, g⟩ := g
        have fX17 : fy fF_232 fL_232 fA_232 X X17 := by rw [eX17]; exact fy_a fX13 (by decide)
        rw [g.2]; exact fX17
      · skip
        obtain ⟨w19, X18, rX18, g⟩ := g
        have fX18 : fy fF_232 fL_232 fA_232 X X18 := fy_tr fX6 (fy_sub (gf_218 rX18) (by decide) (by decide) (by decide))
        replace g := g.2
        replace g := g.2
        obtain ⟨X24, eX24, g⟩ := g
        have fX24 : fy fF_232 fL_232 fA_232 X X24 := by rw [eX24]; exact fy_b fX18 (by decide)
        replace g := g.2
        replace g := g.2
        obtain ⟨X28, eX28, g⟩ := g
        have fX28 : fy fF_232 fL_232 fA_232 X X28 := by rw [eX28]; exact fy_a fX24 (by decide)
        rw [g.2]; exact fX28
abbrev fF_229 : List (Nat × Nat) := [(117, 24), (117, 25), (117, 26), (117, 27), (117, 28), (117, 29), (117, 30), (117, 31), (117, 34)]
abbrev fL_229 : List (Nat × Nat) := [(117, 33)]
abbrev fA_229 : List Nat := [124, 125, 126, 131, 132, 133]
theorem gfl_229 : ∀ (n l : Nat) (is : List Int32) (ls : List Int64) (rs : List Nat) (X : fx_X) (v : Int32) (X' : fx_X), gxF_229 n l is ls rs X v X' → fy fF_229 fL_229 fA_229 X X' := by
  intro n
  induction n with
  | zero => intro l is ls rs X v X' g; exact g.elim
  | succ n ih =>
    intro l is ls rs X v X' g
    rcases g with ⟨-, y1, -, -, -, g⟩
    · unfold gxT_229_61 at g
      obtain ⟨w22, X21, rX21, g⟩ := g
      have fX21 : fy fF_229 fL_229 fA_229 X X21 := fy_z (fy_rf (X := X)) (gf_220 rX21)
      rcases fy_if g with g | g
      · skip
        obtain ⟨w25, X24, rX24, g⟩ := g
        have fX24 : fy fF_229 fL_229 fA_229 X X24 := fy_tr fX21 (fy_sub (gf_219 rX24) (by decide) (by decide) (by decide))
        rcases fy_if g with g | g
        · skip
          rw [g.2]; exact fX24
        · skip
          obtain ⟨w28, X27, rX27, g⟩ := g
          have fX27 : fy fF_229 fL_229 fA_229 X X27 := fy_tr fX24 (fy_sub (gf_219 rX27) (by decide) (by decide) (by decide))
          rcases fy_if g with g | g
          · skip
            rw [g.2]; exact fX27
          · skip
            replace g := g.2
            replace g := g.2
            obtain ⟨X33, eX33, g⟩ := g
            have fX33 : fy fF_229 fL_229 fA_229 X X33 := by rw [eX33]; exact fy_a fX27 (by decide)
            rw [g.2]; exact fX33
      · skip
        obtain ⟨w35, X34, rX34, g⟩ := g
        have fX34 : fy fF_229 fL_229 fA_229 X X34 := fy_tr fX21 (fy_sub (gf_214 rX34) (by decide) (by decide) (by decide))
        rcases fy_if g with g | g
        · skip
          rw [g.2]; exact fX34
        · skip
          obtain ⟨w38, X37, rX37, g⟩ := g
          have fX37 : fy fF_229 fL_229 fA_229 X X37 := fy_tr fX34 (fy_sub (gf_232 rX37) (by decide) (by decide) (by decide))
          rcases fy_if g with g | g
          · skip
            rw [g.2]; exact fX37
          · skip
            exact fy_tr fX37 (ih _ _ _ _ _ _ _ g)
theorem gf_229 {X : fx_X} {v : Int32} {X' : fx_X} (g : gx_229 X v X') : fy fF_229 fL_229 fA_229 X X' := by
  obtain ⟨n, g⟩ := g
  unfold gxE_229 at g
  obtain ⟨w3, X2, rX2, g⟩ := g
  have fX2 : fy fF_229 fL_229 fA_229 X X2 := fy_tr (fy_rf (X := X)) (fy_sub (gf_230 rX2) (by decide) (by decide) (by decide))
  rcases fy_if g with g | g
  · skip
    rw [g.2]; exact fX2
  · skip
    replace g := g.2
    obtain ⟨x7, -, g⟩ := g
    replace g := g.2
    obtain ⟨X11, eX11, g⟩ := g
    have fX11 : fy fF_229 fL_229 fA_229 X X11 := by rw [eX11]; exact fy_a fX2 (by decide)
    replace g := g.2
    obtain ⟨X14, eX14, g⟩ := g
    have fX14 : fy fF_229 fL_229 fA_229 X X14 := by rw [eX14]; exact fy_a fX11 (by decide)
    obtain ⟨w16, X15, rX15, g⟩ := g
    have fX15 : fy fF_229 fL_229 fA_229 X X15 := fy_tr fX14 (fy_sub (gf_219 rX15) (by decide) (by decide) (by decide))
    rcases fy_if g with g | g
    · skip
      rw [g.2]; exact fX15
    · skip
      obtain ⟨w19, X18, rX18, g⟩ := g
      have fX18 : fy fF_229 fL_229 fA_229 X X18 := fy_tr fX15 (fy_sub (gf_232 rX18) (by decide) (by decide) (by decide))
      rcases fy_if g with g | g
      · skip
        rw [g.2]; exact fX18
      · skip
        exact fy_tr fX18 (gfl_229 n _ _ _ _ _ _ _ g)
abbrev fF_223 : List (Nat × Nat) := [(117, 24), (117, 25), (117, 26), (117, 27), (117, 28), (117, 29), (117, 30), (117, 31), (117, 35), (117, 36)]
abbrev fL_223 : List (Nat × Nat) := []
abbrev fA_223 : List Nat := [120, 121]
theorem gfl_223 (p1 : Int32) : ∀ (n l : Nat) (is : List Int32) (ls : List Int64) (rs : List Nat) (X : fx_X) (v : Int32) (X' : fx_X), gxF_223 p1 n l is ls rs X v X' → fy fF_223 fL_223 fA_223 X X' := by
  intro n
  induction n with
  | zero => intro l is ls rs X v X' g; exact g.elim
  | succ n ih =>
    intro l is ls rs X v X' g
    rcases g with ⟨-, -, -, -, g⟩ | ⟨-, y2, -, -, -, g⟩
    · unfold gxT_223_0 at g
      obtain ⟨w49, X48, rX48, g⟩ := g
      have fX48 : fy fF_223 fL_223 fA_223 X X48 := fy_z (fy_rf (X := X)) (gf_220 rX48)
      rcases fy_if g with g | g
      · skip
        rw [g.2]; exact fX48
      · skip
        obtain ⟨w52, X51, rX51, g⟩ := g
        have fX51 : fy fF_223 fL_223 fA_223 X X51 := fy_tr fX48 (fy_sub (gf_214 rX51) (by decide) (by decide) (by decide))
        rcases fy_if g with g | g
        · skip
          rw [g.2]; exact fX51
        · skip
          replace g := g.2
          rcases fy_if g with g | g
          · skip
            rcases fy_if g with g | g
            · skip
              obtain ⟨w63, X62, rX62, g⟩ := g
              have fX62 : fy fF_223 fL_223 fA_223 X X62 := fy_tr fX51 (fy_sub (gf_215 rX62) (by decide) (by decide) (by decide))
              rw [g.2]; exact fX62
            · skip
              obtain ⟨w65, X64, rX64, g⟩ := g
              have fX64 : fy fF_223 fL_223 fA_223 X X64 := fy_z fX51 (gf_220 rX64)
              rcases fy_if g with g | g
              · skip
                obtain ⟨w68, X67, rX67, g⟩ := g
                have fX67 : fy fF_223 fL_223 fA_223 X X67 := fy_tr fX64 (fy_sub (gf_221 rX67) (by decide) (by decide) (by decide))
                rcases fy_if g with g | g
                · skip
                  rw [g.2]; exact fX67
                · skip
                  exact fy_tr fX67 (ih _ _ _ _ _ _ _ g)
              · skip
                obtain ⟨w72, X71, rX71, g⟩ := g
                have fX71 : fy fF_223 fL_223 fA_223 X X71 := fy_tr fX64 (fy_sub (gf_215 rX71) (by decide) (by decide) (by decide))
                rw [g.2]; exact fX71
          · skip
            obtain ⟨w58, X57, rX57, g⟩ := g
            have fX57 : fy fF_223 fL_223 fA_223 X X57 := fy_tr fX51 (fy_sub (gf_221 rX57) (by decide) (by decide) (by decide))
            rcases fy_if g with g | g
            · skip
              rw [g.2]; exact fX57
            · skip
              exact fy_tr fX57 (ih _ _ _ _ _ _ _ g)
    · unfold gxT_223_67 at g
      replace g := g.2
      rcases fy_if g with g | g
      · skip
        replace g := g.2
        rcases fy_if g with g | g
        · skip
          obtain ⟨w45, X44, rX44, g⟩ := g
          have fX44 : fy fF_223 fL_223 fA_223 X X44 := fy_tr (fy_rf (X := X)) (fy_sub (gf_218 rX44) (by decide) (by decide) (by decide))
          obtain ⟨x46, -, g⟩ := g
          exact fy_tr fX44 (ih _ _ _ _ _ _ _ g)
        · skip
          obtain ⟨x42, -, g⟩ := g
          exact fy_tr (fy_rf (X := X)) (ih _ _ _ _ _ _ _ g)
      · skip
        replace g := g.2
        replace g := g.2
        obtain ⟨X34, eX34, g⟩ := g
        have fX34 : fy fF_223 fL_223 fA_223 X X34 := by rw [eX34]; exact fy_a (fy_rf (X := X)) (by decide)
        replace g := g.2
        replace g := g.2
        obtain ⟨X38, eX38, g⟩ := g
        have fX38 : fy fF_223 fL_223 fA_223 X X38 := by rw [eX38]; exact fy_a fX34 (by decide)
        exact fy_tr fX38 (ih _ _ _ _ _ _ _ g)
theorem gf_223 {p1 : Int32} {X : fx_X} {v : Int32} {X' : fx_X} (g : gx_223 p1 X v X') : fy fF_223 fL_223 fA_223 X X' := by
  obtain ⟨n, g⟩ := g
  unfold gxE_223 at g
  obtain ⟨w3, X2, rX2, g⟩ := g
  have fX2 : fy fF_223 fL_223 fA_223 X X2 := fy_z (fy_rf (X := X)) (gf_220 rX2)
  rcases fy_if g with g | g
  · skip
    rw [g.2]; exact fX2
  · skip
    obtain ⟨w6, X5, rX5, g⟩ := g
    have fX5 : fy fF_223 fL_223 fA_223 X X5 := fy_tr fX2 (fy_sub (gf_214 rX5) (by decide) (by decide) (by decide))
    rcases fy_if g with g | g
    · skip
      rw [g.2]; exact fX5
    · skip
      replace g := g.2
      rcases fy_if g with g | g
      · skip
        rcases fy_if g with g | g
        · skip
          obtain ⟨w17, X16, rX16, g⟩ := g
          have fX16 : fy fF_223 fL_223 fA_223 X X16 := fy_tr fX5 (fy_sub (gf_215 rX16) (by decide) (by decide) (by decide))
          rw [g.2]; exact fX16
        · skip
          obtain ⟨w19, X18, rX18, g⟩ := g
          have fX18 : fy fF_223 fL_223 fA_223 X X18 := fy_z fX5 (gf_220 rX18)
          rcases fy_if g with g | g
          · skip
            obtain ⟨w22, X21, rX21, g⟩ := g
            have fX21 : fy fF_223 fL_223 fA_223 X X21 := fy_tr fX18 (fy_sub (gf_221 rX21) (by decide) (by decide) (by decide))
            rcases fy_if g with g | g
            · skip
              rw [g.2]; exact fX21
            · skip
              exact fy_tr fX21 (gfl_223 _ n _ _ _ _ _ _ _ g)
          · skip
            obtain ⟨w26, X25, rX25, g⟩ := g
            have fX25 : fy fF_223 fL_223 fA_223 X X25 := fy_tr fX18 (fy_sub (gf_215 rX25) (by decide) (by decide) (by decide))
            rw [g.2]; exact fX25
      · skip
        obtain ⟨w12, X11, rX11, g⟩ := g
        have fX11 : fy fF_223 fL_223 fA_223 X X11 := fy_tr fX5 (fy_sub (gf_221 rX11) (by decide) (by decide) (by decide))
        rcases fy_if g with g | g
        · skip
          rw [g.2]; exact fX11
        · skip
          exact fy_tr fX11 (gfl_223 _ n _ _ _ _ _ _ _ g)
abbrev fF_222 : List (Nat × Nat) := [(117, 24), (117, 25), (117, 26), (117, 27), (117, 28), (117, 29), (117, 30), (117, 31), (117, 35), (117, 36)]
abbrev fL_222 : List (Nat × Nat) := []
abbrev fA_222 : List Nat := [120, 121]
theorem gfl_222 (p1 : Int32) : ∀ (n l : Nat) (is : List Int32) (ls : List Int64) (rs : List Nat) (X : fx_X) (v : Int32) (X' : fx_X), gxF_222 p1 n l is ls rs X v X' → fy fF_222 fL_222 fA_222 X X' := by
  intro n
  induction n with
  | zero => intro l is ls rs X v X' g; exact g.elim
  | succ n ih =>
    intro l is ls rs X v X' g
    rcases g with ⟨-, y2, y3, -, -, -, g⟩
    · unfold gxT_222_72 at g
      replace g := g.2
      rcases fy_if g with g | g
      · skip
        replace g := g.2
        obtain ⟨X27, eX27, g⟩ := g
        have fX27 : fy fF_222 fL_222 fA_222 X X27 := by rw [eX27]; exact fy_a (fy_rf (X := X)) (by decide)
        obtain ⟨x28, -, g⟩ := g
        exact fy_tr fX27 (ih _ _ _ _ _ _ _ g)
      · skip
        rw [g.2]; exact (fy_rf (X := X))
theorem gf_222 {p1 : Int32} {X : fx_X} {v : Int32} {X' : fx_X} (g : gx_222 p1 X v X') : fy fF_222 fL_222 fA_222 X X' := by
  obtain ⟨n, g⟩ := g
  unfold gxE_222 at g
  obtain ⟨w3, X2, rX2, g⟩ := g
  have fX2 : fy fF_222 fL_222 fA_222 X X2 := fy_tr (fy_rf (X := X)) (fy_sub (gf_214 rX2) (by decide) (by decide) (by decide))
  rcases fy_if g with g | g
  · skip
    rw [g.2]; exact fX2
  · skip
    obtain ⟨w6, X5, rX5, g⟩ := g
    have fX5 : fy fF_222 fL_222 fA_222 X X5 := fy_tr fX2 (fy_sub (gf_221 rX5) (by decide) (by decide) (by decide))
    rcases fy_if g with g | g
    · skip
      rw [g.2]; exact fX5
    · skip
      replace g := g.2
      obtain ⟨x10, -, g⟩ := g
      rcases fy_if g with g | g
      · skip
        obtain ⟨w14, X13, rX13, g⟩ := g
        have fX13 : fy fF_222 fL_222 fA_222 X X13 := fy_tr fX5 (fy_sub (gf_218 rX13) (by decide) (by decide) (by decide))
        rw [g.2]; exact fX13
      · skip
        rcases fy_if g with g | g
        · skip
          obtain ⟨w21, X20, rX20, g⟩ := g
          have fX20 : fy fF_222 fL_222 fA_222 X X20 := fy_tr fX5 (fy_sub (gf_218 rX20) (by decide) (by decide) (by decide))
          rw [g.2]; exact fX20
        · skip
          replace g := g.2
          obtain ⟨X18, eX18, g⟩ := g
          have fX18 : fy fF_222 fL_222 fA_222 X X18 := by rw [eX18]; exact fy_a fX5 (by decide)
          exact fy_tr fX18 (gfl_222 _ n _ _ _ _ _ _ _ g)
abbrev fF_226 : List (Nat × Nat) := []
abbrev fL_226 : List (Nat × Nat) := []
theorem gfl_226 (p1 : Nat) (p2 : Int32) (p3 : Int32) : ∀ (n l : Nat) (is : List Int32) (ls : List Int64) (rs : List Nat) (X : fx_X) (v : Unit) (X' : fx_X), gxF_226 p1 p2 p3 n l is ls rs X v X' → fy fF_226 fL_226 [p1] X X' := by
  intro n
  induction n with
  | zero => intro l is ls rs X v X' g; exact g.elim
  | succ n ih =>
    intro l is ls rs X v X' g
    rcases g with ⟨-, y4, -, -, -, g⟩
    · unfold gxT_226_13 at g
      rcases fy_if g with g | g
      · skip
        rw [g]; exact (fy_rf (X := X))
      · skip
        replace g := g.2
        obtain ⟨w9, X8, rX8, g⟩ := g
        have fX8 : fy fF_226 fL_226 [p1] X X8 := fy_z (fy_rf (X := X)) (gf_227 rX8)
        obtain ⟨w11, X10, rX10, g⟩ := g
        have fX10 : fy fF_226 fL_226 [p1] X X10 := fy_tr fX8 (fy_sub (gf_228 rX10) (by decide) (by decide) (by simp))
        obtain ⟨x12, -, g⟩ := g
        exact fy_tr fX10 (ih _ _ _ _ _ _ _ g)
theorem gf_226 {p1 : Nat} {p2 : Int32} {p3 : Int32} {X : fx_X} {v : Unit} {X' : fx_X} (g : gx_226 p1 p2 p3 X v X') : fy fF_226 fL_226 [p1] X X' := by
  obtain ⟨n, g⟩ := g
  unfold gxE_226 at g
  replace g := g.2
  obtain ⟨x4, -, g⟩ := g
  exact fy_tr (fy_rf (X := X)) (gfl_226 _ _ _ n _ _ _ _ _ _ _ g)
abbrev fF_224 : List (Nat × Nat) := []
abbrev fL_224 : List (Nat × Nat) := []
abbrev fA_224 : List Nat := [123, 129, 136]
theorem gfl_224 : ∀ (n l : Nat) (is : List Int32) (ls : List Int64) (rs : List Nat) (X : fx_X) (v : Unit) (X' : fx_X), gxF_224 n l is ls rs X v X' → fy fF_224 fL_224 fA_224 X X' := by
  intro n
  induction n with
  | zero => intro l is ls rs X v X' g; exact g.elim
  | succ n ih =>
    intro l is ls rs X v X' g
    rcases g with ⟨-, y1, y2, y3, -, -, -, g⟩ | ⟨-, y1, y2, y3, y4, y5, -, -, -, g⟩ | ⟨-, y1, y2, y3, -, -, -, g⟩ | ⟨-, y1, y2, y3, y4, y5, -, -, -, g⟩ | ⟨-, y1, y2, y3, -, -, -, g⟩
    · unfold gxT_224_26 at g
      replace g := g.2
      rcases fy_if g with g | g
      · skip
        replace g := g.2
        obtain ⟨x18, -, g⟩ := g
        exact fy_tr (fy_rf (X := X)) (ih _ _ _ _ _ _ _ g)
      · skip
        exact fy_tr (fy_rf (X := X)) (ih _ _ _ _ _ _ _ g)
    · unfold gxT_224_49 at g
      rcases fy_if g with g | g
      · skip
        obtain ⟨x28, -, g⟩ := g
        exact fy_tr (fy_rf (X := X)) (ih _ _ _ _ _ _ _ g)
      · skip
        obtain ⟨x30, -, g⟩ := g
        replace g := g.2
        replace g := g.2
        replace g := g.2
        replace g := g.2
        obtain ⟨X39, eX39, g⟩ := g
        have fX39 : fy fF_224 fL_224 fA_224 X X39 := by rw [eX39]; exact fy_a (fy_rf (X := X)) (by decide)
        replace g := g.2
        replace g := g.2
        obtain ⟨x43, -, g⟩ := g
        obtain ⟨x45, -, g⟩ := g
        exact fy_tr fX39 (ih _ _ _ _ _ _ _ g)
    · unfold gxT_224_123 at g
      replace g := g.2
      rcases fy_if g with g | g
      · skip
        obtain ⟨x24, -, g⟩ := g
        exact fy_tr (fy_rf (X := X)) (ih _ _ _ _ _ _ _ g)
      · skip
        exact fy_tr (fy_rf (X := X)) (ih _ _ _ _ _ _ _ g)
    · unfold gxT_224_144 at g
      replace g := g.2
      rcases fy_if g with g | g
      · skip
        obtain ⟨w62, X61, rX61, g⟩ := g
        have fX61 : fy fF_224 fL_224 fA_224 X X61 := fy_z (fy_rf (X := X)) (gf_225 rX61)
        obtain ⟨w64, X63, rX63, g⟩ := g
        have fX63 : fy fF_224 fL_224 fA_224 X X63 := fy_tr fX61 (fy_sub (gf_226 rX63) (by decide) (by decide) (by decide))
        obtain ⟨x65, -, g⟩ := g
        exact fy_tr fX63 (ih _ _ _ _ _ _ _ g)
      · skip
        obtain ⟨x58, -, g⟩ := g
        exact fy_tr (fy_rf (X := X)) (ih _ _ _ _ _ _ _ g)
    · unfold gxT_224_187 at g
      replace g := g.2
      rcases fy_if g with g | g
      · skip
        obtain ⟨w52, X51, rX51, g⟩ := g
        have fX51 : fy fF_224 fL_224 fA_224 X X51 := fy_tr (fy_rf (X := X)) (fy_sub (gf_226 rX51) (by decide) (by decide) (by decide))
        obtain ⟨x53, -, g⟩ := g
        exact fy_tr fX51 (ih _ _ _ _ _ _ _ g)
      · skip
        rw [g]; exact (fy_rf (X := X))
theorem gf_224 {X : fx_X} {v : Unit} {X' : fx_X} (g : gx_224 X v X') : fy fF_224 fL_224 fA_224 X X' := by
  obtain ⟨n, g⟩ := g
  unfold gxE_224 at g
  obtain ⟨x2, -, g⟩ := g
  replace g := g.2
  replace g := g.2
  obtain ⟨x8, -, g⟩ := g
  exact fy_tr (fy_rf (X := X)) (gfl_224 n _ _ _ _ _ _ _ g)
abbrev fF_213 : List (Nat × Nat) := [(117, 24), (117, 25), (117, 26), (117, 27), (117, 28), (117, 29), (117, 30), (117, 31), (117, 34), (117, 35), (117, 36)]
abbrev fL_213 : List (Nat × Nat) := [(117, 33)]
abbrev fA_213 : List Nat := [118, 119, 120, 121, 122, 123, 129, 136]
theorem gfl_213 : ∀ (n l : Nat) (is : List Int32) (ls : List Int64) (rs : List Nat) (X : fx_X) (v : Int32) (X' : fx_X), gxF_213 n l is ls rs X v X' → fy fF_213 fL_213 fA_213 X X' := by
  intro n
  induction n with
  | zero => intro l is ls rs X v X' g; exact g.elim
  | succ n ih =>
    intro l is ls rs X v X' g
    rcases g with ⟨-, y1, y2, -, -, -, g⟩ | ⟨-, y1, y2, y5, -, -, -, g⟩
    · unfold gxT_213_94 at g
      obtain ⟨w40, X39, rX39, g⟩ := g
      have fX39 : fy fF_213 fL_213 fA_213 X X39 := fy_tr (fy_rf (X := X)) (fy_sub (gf_219 rX39) (by decide) (by decide) (by decide))
      rcases fy_if g with g | g
      · skip
        rw [g.2]; exact fX39
      · skip
        obtain ⟨w43, X42, rX42, g⟩ := g
        have fX42 : fy fF_213 fL_213 fA_213 X X42 := fy_tr fX39 (fy_sub (gf_221 rX42) (by decide) (by decide) (by decide))
        rcases fy_if g with g | g
        · skip
          rw [g.2]; exact fX42
        · skip
          replace g := g.2
          obtain ⟨X47, eX47, g⟩ := g
          have fX47 : fy fF_213 fL_213 fA_213 X X47 := by rw [eX47]; exact fy_a fX42 (by decide)
          replace g := g.2
          obtain ⟨X50, eX50, g⟩ := g
          have fX50 : fy fF_213 fL_213 fA_213 X X50 := by rw [eX50]; exact fy_a fX47 (by decide)
          obtain ⟨w52, X51, rX51, g⟩ := g
          have fX51 : fy fF_213 fL_213 fA_213 X X51 := fy_z fX50 (gf_220 rX51)
          rcases fy_if g with g | g
          · skip
            obtain ⟨w55, X54, rX54, g⟩ := g
            have fX54 : fy fF_213 fL_213 fA_213 X X54 := fy_tr fX51 (fy_sub (gf_223 rX54) (by decide) (by decide) (by decide))
            rcases fy_if g with g | g
            · skip
              rw [g.2]; exact fX54
            · skip
              replace g := g.2
              replace g := g.2
              obtain ⟨x62, -, g⟩ := g
              obtain ⟨w65, X64, rX64, g⟩ := g
              have fX64 : fy fF_213 fL_213 fA_213 X X64 := fy_z fX54 (gf_220 rX64)
              rcases fy_if g with g | g
              · skip
                exact fy_tr fX64 (ih _ _ _ _ _ _ _ g)
              · skip
                rcases fy_if g with g | g
                · skip
                  obtain ⟨w69, X68, rX68, g⟩ := g
                  have fX68 : fy fF_213 fL_213 fA_213 X X68 := fy_tr fX64 (fy_sub (gf_218 rX68) (by decide) (by decide) (by decide))
                  exact fy_tr fX68 (ih _ _ _ _ _ _ _ g)
                · skip
                  exact fy_tr fX64 (ih _ _ _ _ _ _ _ g)
          · skip
            obtain ⟨w71, X70, rX70, g⟩ := g
            have fX70 : fy fF_213 fL_213 fA_213 X X70 := fy_tr fX51 (fy_sub (gf_222 rX70) (by decide) (by decide) (by decide))
            rcases fy_if g with g | g
            · skip
              rw [g.2]; exact fX70
            · skip
              replace g := g.2
              replace g := g.2
              obtain ⟨x78, -, g⟩ := g
              obtain ⟨w81, X80, rX80, g⟩ := g
              have fX80 : fy fF_213 fL_213 fA_213 X X80 := fy_z fX70 (gf_220 rX80)
              rcases fy_if g with g | g
              · skip
                exact fy_tr fX80 (ih _ _ _ _ _ _ _ g)
              · skip
                rcases fy_if g with g | g
                · skip
                  obtain ⟨w85, X84, rX84, g⟩ := g
                  have fX84 : fy fF_213 fL_213 fA_213 X X84 := fy_tr fX80 (fy_sub (gf_218 rX84) (by decide) (by decide) (by decide))
                  exact fy_tr fX84 (ih _ _ _ _ _ _ _ g)
                · skip
                  exact fy_tr fX80 (ih _ _ _ _ _ _ _ g)
    · unfold gxT_213_208 at g
      obtain ⟨w87, X86, rX86, g⟩ := g
      have fX86 : fy fF_213 fL_213 fA_213 X X86 := fy_tr (fy_rf (X := X)) (fy_sub (gf_219 rX86) (by decide) (by decide) (by decide))
      rcases fy_if g with g | g
      · skip
        rw [g.2]; exact fX86
      · skip
        replace g := g.2
        obtain ⟨X91, eX91, g⟩ := g
        have fX91 : fy fF_213 fL_213 fA_213 X X91 := by rw [eX91]; exact fy_b fX86 (by decide)
        replace g := g.2
        replace g := g.2
        obtain ⟨X95, eX95, g⟩ := g
        have fX95 : fy fF_213 fL_213 fA_213 X X95 := by rw [eX95]; exact fy_a fX91 (by decide)
        rcases fy_if g with g | g
        · skip
          replace g := g.2
          obtain ⟨X104, eX104, g⟩ := g
          have fX104 : fy fF_213 fL_213 fA_213 X X104 := by rw [eX104]; exact fy_a fX95 (by decide)
          rcases fy_if g with g | g
          · skip
            rw [g.2]; exact fX104
          · skip
            obtain ⟨w107, X106, rX106, g⟩ := g
            have fX106 : fy fF_213 fL_213 fA_213 X X106 := fy_tr fX104 (fy_sub (gf_224 rX106) (by decide) (by decide) (by decide))
            rw [g.2]; exact fX106
        · skip
          replace g := g.2
          obtain ⟨X99, eX99, g⟩ := g
          have fX99 : fy fF_213 fL_213 fA_213 X X99 := by rw [eX99]; exact fy_a fX95 (by decide)
          rcases fy_if g with g | g
          · skip
            rw [g.2]; exact fX99
          · skip
            obtain ⟨w102, X101, rX101, g⟩ := g
            have fX101 : fy fF_213 fL_213 fA_213 X X101 := fy_tr fX99 (fy_sub (gf_224 rX101) (by decide) (by decide) (by decide))
            rw [g.2]; exact fX101
theorem gf_213 {X : fx_X} {v : Int32} {X' : fx_X} (g : gx_213 X v X') : fy fF_213 fL_213 fA_213 X X' := by
  obtain ⟨n, g⟩ := g
  unfold gxE_213 at g
  obtain ⟨w3, X2, rX2, g⟩ := g
  have fX2 : fy fF_213 fL_213 fA_213 X X2 := fy_tr (fy_rf (X := X)) (fy_sub (gf_214 rX2) (by decide) (by decide) (by decide))
  rcases fy_if g with g | g
  · skip
    rw [g.2]; exact fX2
  · skip
    rcases fy_if g with g | g
    · skip
      replace g := g.2
      rcases fy_if g with g | g
      · skip
        obtain ⟨w38, X37, rX37, g⟩ := g
        have fX37 : fy fF_213 fL_213 fA_213 X X37 := fy_tr fX2 (fy_sub (gf_215 rX37) (by decide) (by decide) (by decide))
        rw [g.2]; exact fX37
      · skip
        obtain ⟨w24, X23, rX23, g⟩ := g
        have fX23 : fy fF_213 fL_213 fA_213 X X23 := fy_tr fX2 (fy_sub (gf_216 rX23) (by decide) (by decide) (by decide))
        rcases fy_if g with g | g
        · skip
          rw [g.2]; exact fX23
        · skip
          replace g := g.2
          obtain ⟨x28, -, g⟩ := g
          obtain ⟨x30, -, g⟩ := g
          obtain ⟨w33, X32, rX32, g⟩ := g
          have fX32 : fy fF_213 fL_213 fA_213 X X32 := fy_z fX23 (gf_217 rX32)
          rcases fy_if g with g | g
          · skip
            exact fy_tr fX32 (gfl_213 n _ _ _ _ _ _ _ g)
          · skip
            obtain ⟨w36, X35, rX35, g⟩ := g
            have fX35 : fy fF_213 fL_213 fA_213 X X35 := fy_tr fX32 (fy_sub (gf_218 rX35) (by decide) (by decide) (by decide))
            exact fy_tr fX35 (gfl_213 n _ _ _ _ _ _ _ g)
    · skip
      obtain ⟨w7, X6, rX6, g⟩ := g
      have fX6 : fy fF_213 fL_213 fA_213 X X6 := fy_tr fX2 (fy_sub (gf_216 rX6) (by decide) (by decide) (by decide))
      rcases fy_if g with g | g
      · skip
        rw [g.2]; exact fX6
      · skip
        replace g := g.2
        obtain ⟨x11, -, g⟩ := g
        obtain ⟨x13, -, g⟩ := g
        obtain ⟨w16, X15, rX15, g⟩ := g
        have fX15 : fy fF_213 fL_213 fA_213 X X15 := fy_z fX6 (gf_217 rX15)
        rcases fy_if g with g | g
        · skip
          exact fy_tr fX15 (gfl_213 n _ _ _ _ _ _ _ g)
        · skip
          obtain ⟨w19, X18, rX18, g⟩ := g
          have fX18 : fy fF_213 fL_213 fA_213 X X18 := fy_tr fX15 (fy_sub (gf_218 rX18) (by decide) (by decide) (by decide))
          exact fy_tr fX18 (gfl_213 n _ _ _ _ _ _ _ g)
abbrev fF_204 : List (Nat × Nat) := [(117, 24), (117, 25), (117, 26), (117, 27), (117, 28), (117, 29), (117, 30), (117, 31), (117, 34), (117, 35), (117, 36), (117, 38), (117, 39), (117, 40), (117, 41), (117, 43), (117, 44), (117, 45), (117, 46), (117, 47), (117, 50), (117, 51), (117, 52), (117, 53), (117, 54), (117, 56), (117, 58)]
abbrev fL_204 : List (Nat × Nat) := [(117, 33)]
abbrev fA_204 : List Nat := [118, 119, 120, 121, 122, 123, 124, 125, 126, 127, 128, 129, 131, 132, 133, 134, 135, 136, 137, 139, 140, 141, 142, 143, 144]
theorem gfl_204 : ∀ (n l : Nat) (is : List Int32) (ls : List Int64) (rs : List Nat) (X : fx_X) (v : Int32) (X' : fx_X), gxF_204 n l is ls rs X v X' → fy fF_204 fL_204 fA_204 X X' := by
  intro n
  induction n with
  | zero => intro l is ls rs X v X' g; exact g.elim
  | succ n ih =>
    intro l is ls rs X v X' g
    rcases g with ⟨-, -, -, -, g⟩
    · unfold gxT_204_54 at g
      rcases fy_if g with g | g
      · skip
        rcases fy_if g with g | g
        · skip
          rcases fy_if g with g | g
          · skip
            rw [g.2]; exact (fy_rf (X := X))
          · skip
            rw [g.2]; exact (fy_rf (X := X))
        · skip
          obtain ⟨w24, X23, rX23, g⟩ := g
          have fX23 : fy fF_204 fL_204 fA_204 X X23 := fy_z (fy_rf (X := X)) (gf_212 rX23)
          rcases fy_if g with g | g
          · skip
            obtain ⟨w27, X26, rX26, g⟩ := g
            have fX26 : fy fF_204 fL_204 fA_204 X X26 := fy_z fX23 (gf_212 rX26)
            rcases fy_if g with g | g
            · skip
              obtain ⟨w30, X29, rX29, g⟩ := g
              have fX29 : fy fF_204 fL_204 fA_204 X X29 := fy_z fX26 (gf_212 rX29)
              rcases fy_if g with g | g
              · skip
                obtain ⟨w33, X32, rX32, g⟩ := g
                have fX32 : fy fF_204 fL_204 fA_204 X X32 := fy_z fX29 (gf_212 rX32)
                rcases fy_if g with g | g
                · skip
                  obtain ⟨w36, X35, rX35, g⟩ := g
                  have fX35 : fy fF_204 fL_204 fA_204 X X35 := fy_z fX32 (gf_212 rX35)
                  rcases fy_if g with g | g
                  · skip
                    obtain ⟨w39, X38, rX38, g⟩ := g
                    have fX38 : fy fF_204 fL_204 fA_204 X X38 := fy_tr fX35 (fy_sub (gf_215 rX38) (by decide) (by decide) (by decide))
                    rcases fy_if g with g | g
                    · skip
                      rw [g.2]; exact fX38
                    · skip
                      exact fy_tr fX38 (ih _ _ _ _ _ _ _ g)
                  · skip
                    obtain ⟨w43, X42, rX42, g⟩ := g
                    have fX42 : fy fF_204 fL_204 fA_204 X X42 := fy_tr fX35 (fy_sub (gf_248 rX42) (by decide) (by decide) (by decide))
                    rcases fy_if g with g | g
                    · skip
                      rw [g.2]; exact fX42
                    · skip
                      exact fy_tr fX42 (ih _ _ _ _ _ _ _ g)
                · skip
                  obtain ⟨w47, X46, rX46, g⟩ := g
                  have fX46 : fy fF_204 fL_204 fA_204 X X46 := fy_tr fX32 (fy_sub (gf_246 rX46) (by decide) (by decide) (by decide))
                  rcases fy_if g with g | g
                  · skip
                    rw [g.2]; exact fX46
                  · skip
                    exact fy_tr fX46 (ih _ _ _ _ _ _ _ g)
              · skip
                obtain ⟨w51, X50, rX50, g⟩ := g
                have fX50 : fy fF_204 fL_204 fA_204 X X50 := fy_tr fX29 (fy_sub (gf_234 rX50) (by decide) (by decide) (by decide))
                rcases fy_if g with g | g
                · skip
                  rw [g.2]; exact fX50
                · skip
                  exact fy_tr fX50 (ih _ _ _ _ _ _ _ g)
            · skip
              obtain ⟨w55, X54, rX54, g⟩ := g
              have fX54 : fy fF_204 fL_204 fA_204 X X54 := fy_tr fX26 (fy_sub (gf_229 rX54) (by decide) (by decide) (by decide))
              rcases fy_if g with g | g
              · skip
                rw [g.2]; exact fX54
              · skip
                exact fy_tr fX54 (ih _ _ _ _ _ _ _ g)
          · skip
            obtain ⟨w59, X58, rX58, g⟩ := g
            have fX58 : fy fF_204 fL_204 fA_204 X X58 := fy_tr fX23 (fy_sub (gf_213 rX58) (by decide) (by decide) (by decide))
            rcases fy_if g with g | g
            · skip
              rw [g.2]; exact fX58
            · skip
              exact fy_tr fX58 (ih _ _ _ _ _ _ _ g)
      · skip
        rcases fy_if g with g | g
        · skip
          rw [g.2]; exact (fy_rf (X := X))
        · skip
          rw [g.2]; exact (fy_rf (X := X))
theorem gf_204 {X : fx_X} {v : Int32} {X' : fx_X} (g : gx_204 X v X') : fy fF_204 fL_204 fA_204 X X' := by
  obtain ⟨n, g⟩ := g
  unfold gxE_204 at g
  replace g := g.2
  obtain ⟨X4, eX4, g⟩ := g
  have fX4 : fy fF_204 fL_204 fA_204 X X4 := by rw [eX4]; exact fy_a (fy_rf (X := X)) (by decide)
  replace g := g.2
  obtain ⟨X7, eX7, g⟩ := g
  have fX7 : fy fF_204 fL_204 fA_204 X X7 := by rw [eX7]; exact fy_a fX4 (by decide)
  replace g := g.2
  obtain ⟨X10, eX10, g⟩ := g
  have fX10 : fy fF_204 fL_204 fA_204 X X10 := by rw [eX10]; exact fy_a fX7 (by decide)
  replace g := g.2
  obtain ⟨X13, eX13, g⟩ := g
  have fX13 : fy fF_204 fL_204 fA_204 X X13 := by rw [eX13]; exact fy_a fX10 (by decide)
  replace g := g.2
  obtain ⟨X16, eX16, g⟩ := g
  have fX16 : fy fF_204 fL_204 fA_204 X X16 := by rw [eX16]; exact fy_a fX13 (by decide)
  obtain ⟨w18, X17, rX17, g⟩ := g
  have fX17 : fy fF_204 fL_204 fA_204 X X17 := fy_tr fX16 (fy_sub (gf_205 rX17) (by decide) (by decide) (by decide))
  exact fy_tr fX17 (gfl_204 n _ _ _ _ _ _ _ g)
abbrev fF_203 : List (Nat × Nat) := [(117, 0), (117, 13), (117, 23), (117, 24), (117, 25), (117, 26), (117, 27), (117, 28), (117, 29), (117, 30), (117, 31), (117, 32), (117, 34), (117, 35), (117, 36), (117, 37), (117, 38), (117, 39), (117, 40), (117, 41), (117, 43), (117, 44), (117, 45), (117, 46), (117, 47), (117, 50), (117, 51), (117, 52), (117, 53), (117, 54), (117, 56), (117, 58)]
abbrev fL_203 : List (Nat × Nat) := [(117, 33), (117, 68)]
abbrev fA_203 : List Nat := [118, 119, 120, 121, 122, 123, 124, 125, 126, 127, 128, 129, 131, 132, 133, 134, 135, 136, 137, 139, 140, 141, 142, 143, 144]
theorem gf_203 {X : fx_X} {v : Int32} {X' : fx_X} (g : gx_203 X v X') : fy fF_203 fL_203 fA_203 X X' := by
  unfold gx_203 at g
  obtain ⟨X2, eX2, g⟩ := g
  have fX2 : fy fF_203 fL_203 fA_203 X X2 := by rw [eX2]; exact fy_f (fy_rf (X := X)) (by decide)
  obtain ⟨X3, eX3, g⟩ := g
  have fX3 : fy fF_203 fL_203 fA_203 X X3 := by rw [eX3]; exact fy_f fX2 (by decide)
  obtain ⟨X4, eX4, g⟩ := g
  have fX4 : fy fF_203 fL_203 fA_203 X X4 := by rw [eX4]; exact fy_f fX3 (by decide)
  obtain ⟨X5, eX5, g⟩ := g
  have fX5 : fy fF_203 fL_203 fA_203 X X5 := by rw [eX5]; exact fy_f fX4 (by decide)
  obtain ⟨w7, X6, rX6, g⟩ := g
  have fX6 : fy fF_203 fL_203 fA_203 X X6 := fy_tr fX5 (fy_sub (gf_204 rX6) (by decide) (by decide) (by decide))
  rcases fy_if g with g | g
  · skip
    obtain ⟨X11, eX11, g⟩ := g
    have fX11 : fy fF_203 fL_203 fA_203 X X11 := by rw [eX11]; exact fy_f fX6 (by decide)
    rw [g.2]; exact fX11
  · skip
    rcases fy_if g with g | g
    · skip
      obtain ⟨X20, eX20, g⟩ := g
      have fX20 : fy fF_203 fL_203 fA_203 X X20 := by rw [eX20]; exact fy_f fX6 (by decide)
      obtain ⟨w22, X21, rX21, g⟩ := g
      have fX21 : fy fF_203 fL_203 fA_203 X X21 := fy_tr fX20 (fy_sub (gf_204 rX21) (by decide) (by decide) (by decide))
      obtain ⟨X24, eX24, g⟩ := g
      have fX24 : fy fF_203 fL_203 fA_203 X X24 := by rw [eX24]; exact fy_f fX21 (by decide)
      rcases fy_if g with g | g
      · skip
        rw [g.2]; exact fX24
      · skip
        obtain ⟨X26, eX26, g⟩ := g
        have fX26 : fy fF_203 fL_203 fA_203 X X26 := by rw [eX26]; exact fy_f fX24 (by decide)
        obtain ⟨X27, eX27, g⟩ := g
        have fX27 : fy fF_203 fL_203 fA_203 X X27 := by rw [eX27]; exact fy_f fX26 (by decide)
        obtain ⟨X28, eX28, g⟩ := g
        have fX28 : fy fF_203 fL_203 fA_203 X X28 := by rw [eX28]; exact fy_g fX27 (by decide)
        rw [g.2]; exact fX28
    · skip
      obtain ⟨X16, eX16, g⟩ := g
      have fX16 : fy fF_203 fL_203 fA_203 X X16 := by rw [eX16]; exact fy_f fX6 (by decide)
      rw [g.2]; exact fX16
theorem gf_280 {X : fx_X} {v : Int32} {X' : fx_X} (g : gx_280 X v X') : fy [] [] [] X X' := by
  unfold gx_280 at g
  rw [g.2]; exact (fy_rf (X := X))
abbrev fF_282 : List (Nat × Nat) := [(117, 23), (117, 24), (117, 25), (117, 26), (117, 27), (117, 28), (117, 29), (117, 30), (117, 31), (117, 32), (117, 34), (117, 35), (117, 36), (117, 37), (117, 38), (117, 39), (117, 40), (117, 41), (117, 43), (117, 44), (117, 45), (117, 46), (117, 47)]
abbrev fL_282 : List (Nat × Nat) := [(117, 33)]
abbrev fA_282 : List Nat := [137, 139]
theorem gf_282 {X : fx_X} {v : Int32} {X' : fx_X} (g : gx_282 X v X') : fy fF_282 fL_282 fA_282 X X' := by
  unfold gx_282 at g
  obtain ⟨X2, eX2, g⟩ := g
  have fX2 : fy fF_282 fL_282 fA_282 X X2 := by rw [eX2]; exact fy_f (fy_rf (X := X)) (by decide)
  obtain ⟨X3, eX3, g⟩ := g
  have fX3 : fy fF_282 fL_282 fA_282 X X3 := by rw [eX3]; exact fy_f fX2 (by decide)
  obtain ⟨X4, eX4, g⟩ := g
  have fX4 : fy fF_282 fL_282 fA_282 X X4 := by rw [eX4]; exact fy_f fX3 (by decide)
  obtain ⟨X5, eX5, g⟩ := g
  have fX5 : fy fF_282 fL_282 fA_282 X X5 := by rw [eX5]; exact fy_f fX4 (by decide)
  obtain ⟨w7, X6, rX6, g⟩ := g
  have fX6 : fy fF_282 fL_282 fA_282 X X6 := fy_tr fX5 (fy_sub (gf_205 rX6) (by decide) (by decide) (by decide))
  obtain ⟨w9, X8, rX8, g⟩ := g
  have fX8 : fy fF_282 fL_282 fA_282 X X8 := fy_tr fX6 (fy_sub (gf_237 rX8) (by decide) (by decide) (by decide))
  rcases fy_if g with g | g
  · skip
    obtain ⟨X13, eX13, g⟩ := g
    have fX13 : fy fF_282 fL_282 fA_282 X X13 := by rw [eX13]; exact fy_f fX8 (by decide)
    rw [g.2]; exact fX13
  · skip
    rcases fy_if g with g | g
    · skip
      rcases fy_if g with g | g
      · skip
        obtain ⟨X21, eX21, g⟩ := g
        have fX21 : fy fF_282 fL_282 fA_282 X X21 := by rw [eX21]; exact fy_f fX8 (by decide)
        obtain ⟨w23, X22, rX22, g⟩ := g
        have fX22 : fy fF_282 fL_282 fA_282 X X22 := fy_tr fX21 (fy_sub (gf_205 rX22) (by decide) (by decide) (by decide))
        obtain ⟨w25, X24, rX24, g⟩ := g
        have fX24 : fy fF_282 fL_282 fA_282 X X24 := fy_tr fX22 (fy_sub (gf_237 rX24) (by decide) (by decide) (by decide))
        obtain ⟨X27, eX27, g⟩ := g
        have fX27 : fy fF_282 fL_282 fA_282 X X27 := by rw [eX27]; exact fy_f fX24 (by decide)
        rw [g.2]; exact fX27
      · skip
        obtain ⟨X18, eX18, g⟩ := g
        have fX18 : fy fF_282 fL_282 fA_282 X X18 := by rw [eX18]; exact fy_f fX8 (by decide)
        rw [g.2]; exact fX18
    · skip
      obtain ⟨w29, X28, rX28, g⟩ := g
      have fX28 : fy fF_282 fL_282 fA_282 X X28 := fy_tr fX8 (fy_sub (gf_215 rX28) (by decide) (by decide) (by decide))
      rcases fy_if g with g | g
      · skip
        obtain ⟨X33, eX33, g⟩ := g
        have fX33 : fy fF_282 fL_282 fA_282 X X33 := by rw [eX33]; exact fy_f fX28 (by decide)
        rw [g.2]; exact fX33
      · skip
        rcases fy_if g with g | g
        · skip
          obtain ⟨X40, eX40, g⟩ := g
          have fX40 : fy fF_282 fL_282 fA_282 X X40 := by rw [eX40]; exact fy_f fX28 (by decide)
          obtain ⟨w42, X41, rX41, g⟩ := g
          have fX41 : fy fF_282 fL_282 fA_282 X X41 := fy_tr fX40 (fy_sub (gf_205 rX41) (by decide) (by decide) (by decide))
          obtain ⟨w44, X43, rX43, g⟩ := g
          have fX43 : fy fF_282 fL_282 fA_282 X X43 := fy_tr fX41 (fy_sub (gf_237 rX43) (by decide) (by decide) (by decide))
          obtain ⟨X46, eX46, g⟩ := g
          have fX46 : fy fF_282 fL_282 fA_282 X X46 := by rw [eX46]; exact fy_f fX43 (by decide)
          rw [g.2]; exact fX46
        · skip
          obtain ⟨X37, eX37, g⟩ := g
          have fX37 : fy fF_282 fL_282 fA_282 X X37 := by rw [eX37]; exact fy_f fX28 (by decide)
          rw [g.2]; exact fX37
abbrev fF_281 : List (Nat × Nat) := [(117, 23), (117, 24), (117, 25), (117, 26), (117, 27), (117, 28), (117, 29), (117, 30), (117, 31), (117, 32), (117, 34), (117, 35), (117, 36), (117, 37), (117, 38), (117, 39), (117, 40), (117, 41), (117, 43), (117, 44), (117, 45), (117, 46), (117, 47)]
abbrev fL_281 : List (Nat × Nat) := [(117, 33), (117, 68)]
abbrev fA_281 : List Nat := [127, 128, 129, 137, 139]
theorem gfl_281 : ∀ (n l : Nat) (is : List Int32) (ls : List Int64) (rs : List Nat) (X : fx_X) (v : Int32) (X' : fx_X), gxF_281 n l is ls rs X v X' → fy fF_281 fL_281 fA_281 X X' := by
  intro n
  induction n with
  | zero => intro l is ls rs X v X' g; exact g.elim
  | succ n ih =>
    intro l is ls rs X v X' g
    rcases g with ⟨-, y1, y2, -, -, -, g⟩ | ⟨-, y1, y2, y3, -, -, -, g⟩
    · unfold gxT_281_13 at g
      replace g := g.2
      rcases fy_if g with g | g
      · skip
        obtain ⟨w20, X19, rX19, g⟩ := g
        have fX19 : fy fF_281 fL_281 fA_281 X X19 := fy_z (fy_rf (X := X)) (gf_247 rX19)
        rcases fy_if g with g | g
        · skip
          obtain ⟨x23, -, g⟩ := g
          exact fy_tr fX19 (ih _ _ _ _ _ _ _ g)
        · skip
          obtain ⟨w27, X26, rX26, g⟩ := g
          have fX26 : fy fF_281 fL_281 fA_281 X X26 := fy_z fX19 (gf_227 rX26)
          rcases fy_if g with g | g
          · skip
            obtain ⟨x30, -, g⟩ := g
            exact fy_tr fX26 (ih _ _ _ _ _ _ _ g)
          · skip
            obtain ⟨x32, -, g⟩ := g
            obtain ⟨x34, -, g⟩ := g
            exact fy_tr fX26 (ih _ _ _ _ _ _ _ g)
      · skip
        rcases fy_if g with g | g
        · skip
          rw [g.2]; exact (fy_rf (X := X))
        · skip
          replace g := g.2
          rcases fy_if g with g | g
          · skip
            rw [g.2]; exact (fy_rf (X := X))
          · skip
            replace g := g.2
            obtain ⟨x16, -, g⟩ := g
            exact fy_tr (fy_rf (X := X)) (ih _ _ _ _ _ _ _ g)
    · unfold gxT_281_111 at g
      rcases fy_if g with g | g
      · skip
        replace g := g.2
        replace g := g.2
        obtain ⟨X50, eX50, g⟩ := g
        have fX50 : fy fF_281 fL_281 fA_281 X X50 := by rw [eX50]; exact fy_a (fy_rf (X := X)) (by decide)
        obtain ⟨x51, -, g⟩ := g
        exact fy_tr fX50 (ih _ _ _ _ _ _ _ g)
      · skip
        replace g := g.2
        replace g := g.2
        obtain ⟨X40, eX40, g⟩ := g
        have fX40 : fy fF_281 fL_281 fA_281 X X40 := by rw [eX40]; exact fy_a (fy_rf (X := X)) (by decide)
        replace g := g.2
        replace g := g.2
        obtain ⟨X44, eX44, g⟩ := g
        have fX44 : fy fF_281 fL_281 fA_281 X X44 := by rw [eX44]; exact fy_a fX40 (by decide)
        obtain ⟨X45, eX45, g⟩ := g
        have fX45 : fy fF_281 fL_281 fA_281 X X45 := by rw [eX45]; exact fy_g fX44 (by decide)
        rw [g.2]; exact fX45
theorem gf_281 {X : fx_X} {v : Int32} {X' : fx_X} (g : gx_281 X v X') : fy fF_281 fL_281 fA_281 X X' := by
  obtain ⟨n, g⟩ := g
  unfold gxE_281 at g
  obtain ⟨w3, X2, rX2, g⟩ := g
  have fX2 : fy fF_281 fL_281 fA_281 X X2 := fy_tr (fy_rf (X := X)) (fy_sub (gf_282 rX2) (by decide) (by decide) (by decide))
  rcases fy_if g with g | g
  · skip
    rw [g.2]; exact fX2
  · skip
    exact fy_tr fX2 (gfl_281 n _ _ _ _ _ _ _ g)
abbrev fF_283 : List (Nat × Nat) := []
abbrev fL_283 : List (Nat × Nat) := [(117, 68)]
abbrev fA_283 : List Nat := [127, 128]
theorem gf_283 {X : fx_X} {v : Int32} {X' : fx_X} (g : gx_283 X v X') : fy fF_283 fL_283 fA_283 X X' := by
  unfold gx_283 at g
  replace g := g.2
  rcases fy_if g with g | g
  · skip
    rw [g.2]; exact (fy_rf (X := X))
  · skip
    replace g := g.2
    replace g := g.2
    obtain ⟨X8, eX8, g⟩ := g
    have fX8 : fy fF_283 fL_283 fA_283 X X8 := by rw [eX8]; exact fy_a (fy_rf (X := X)) (by decide)
    replace g := g.2
    replace g := g.2
    obtain ⟨X12, eX12, g⟩ := g
    have fX12 : fy fF_283 fL_283 fA_283 X X12 := by rw [eX12]; exact fy_a fX8 (by decide)
    obtain ⟨X13, eX13, g⟩ := g
    have fX13 : fy fF_283 fL_283 fA_283 X X13 := by rw [eX13]; exact fy_g fX12 (by decide)
    rw [g.2]; exact fX13
abbrev fF_284 : List (Nat × Nat) := [(117, 13), (117, 23), (117, 24), (117, 25), (117, 26), (117, 27), (117, 28), (117, 29), (117, 30), (117, 31), (117, 32), (117, 34), (117, 35), (117, 36), (117, 37), (117, 38), (117, 39), (117, 40), (117, 41), (117, 43), (117, 44), (117, 45), (117, 46), (117, 47)]
abbrev fL_284 : List (Nat × Nat) := [(117, 33)]
abbrev fA_284 : List Nat := [130, 137, 139]
theorem gfl_284 : ∀ (n l : Nat) (is : List Int32) (ls : List Int64) (rs : List Nat) (X : fx_X) (v : Int32) (X' : fx_X), gxF_284 n l is ls rs X v X' → fy fF_284 fL_284 fA_284 X X' := by
  intro n
  induction n with
  | zero => intro l is ls rs X v X' g; exact g.elim
  | succ n ih =>
    intro l is ls rs X v X' g
    rcases g with ⟨-, y1, y2, -, -, -, g⟩ | ⟨-, y1, y2, -, -, -, g⟩
    · unfold gxT_284_18 at g
      rcases fy_if g with g | g
      · skip
        replace g := g.2
        replace g := g.2
        obtain ⟨X14, eX14, g⟩ := g
        have fX14 : fy fF_284 fL_284 fA_284 X X14 := by rw [eX14]; exact fy_a (fy_rf (X := X)) (by decide)
        obtain ⟨x15, -, g⟩ := g
        exact fy_tr fX14 (ih _ _ _ _ _ _ _ g)
      · skip
        exact fy_tr (fy_rf (X := X)) (ih _ _ _ _ _ _ _ g)
    · unfold gxT_284_44 at g
      replace g := g.2
      rcases fy_if g with g | g
      · skip
        obtain ⟨w21, X20, rX20, g⟩ := g
        have fX20 : fy fF_284 fL_284 fA_284 X X20 := fy_z (fy_rf (X := X)) (gf_247 rX20)
        rcases fy_if g with g | g
        · skip
          obtain ⟨x24, -, g⟩ := g
          exact fy_tr fX20 (ih _ _ _ _ _ _ _ g)
        · skip
          obtain ⟨w28, X27, rX27, g⟩ := g
          have fX27 : fy fF_284 fL_284 fA_284 X X27 := fy_z fX20 (gf_227 rX27)
          rcases fy_if g with g | g
          · skip
            obtain ⟨x31, -, g⟩ := g
            exact fy_tr fX27 (ih _ _ _ _ _ _ _ g)
          · skip
            obtain ⟨x33, -, g⟩ := g
            obtain ⟨x35, -, g⟩ := g
            exact fy_tr fX27 (ih _ _ _ _ _ _ _ g)
      · skip
        rw [g.2]; exact (fy_rf (X := X))
theorem gf_284 {X : fx_X} {v : Int32} {X' : fx_X} (g : gx_284 X v X') : fy fF_284 fL_284 fA_284 X X' := by
  obtain ⟨n, g⟩ := g
  unfold gxE_284 at g
  obtain ⟨w3, X2, rX2, g⟩ := g
  have fX2 : fy fF_284 fL_284 fA_284 X X2 := fy_tr (fy_rf (X := X)) (fy_sub (gf_282 rX2) (by decide) (by decide) (by decide))
  rcases fy_if g with g | g
  · skip
    rw [g.2]; exact fX2
  · skip
    obtain ⟨X5, eX5, g⟩ := g
    have fX5 : fy fF_284 fL_284 fA_284 X X5 := by rw [eX5]; exact fy_f fX2 (by decide)
    exact fy_tr fX5 (gfl_284 n _ _ _ _ _ _ _ g)
theorem gfl_287 (p1 : Int32) : ∀ (n l : Nat) (is : List Int32) (ls : List Int64) (rs : List Nat) (X : fx_X) (v : Int32) (X' : fx_X), gxF_287 p1 n l is ls rs X v X' → fy [] [] [] X X' := by
  intro n
  induction n with
  | zero => intro l is ls rs X v X' g; exact g.elim
  | succ n ih =>
    intro l is ls rs X v X' g
    rcases g with ⟨-, y2, y3, -, -, -, g⟩ | ⟨-, y2, y3, -, -, -, g⟩
    · unfold gxT_287_4 at g
      rcases fy_if g with g | g
      · skip
        replace g := g.2
        obtain ⟨x8, -, g⟩ := g
        obtain ⟨x10, -, g⟩ := g
        exact fy_tr (fy_rf (X := X)) (ih _ _ _ _ _ _ _ g)
      · skip
        exact fy_tr (fy_rf (X := X)) (ih _ _ _ _ _ _ _ g)
    · unfold gxT_287_28 at g
      rcases fy_if g with g | g
      · skip
        replace g := g.2
        rcases fy_if g with g | g
        · skip
          rw [g.2]; exact (fy_rf (X := X))
        · skip
          obtain ⟨x16, -, g⟩ := g
          exact fy_tr (fy_rf (X := X)) (ih _ _ _ _ _ _ _ g)
      · skip
        rw [g.2]; exact (fy_rf (X := X))
theorem gf_287 {p1 : Int32} {X : fx_X} {v : Int32} {X' : fx_X} (g : gx_287 p1 X v X') : fy [] [] [] X X' := by
  obtain ⟨n, g⟩ := g
  unfold gxE_287 at g
  exact fy_tr (fy_rf (X := X)) (gfl_287 _ n _ _ _ _ _ _ _ g)
abbrev fF_286 : List (Nat × Nat) := []
abbrev fL_286 : List (Nat × Nat) := []
abbrev fA_286 : List Nat := [146]
theorem gfl_286 (p1 : Int32) : ∀ (n l : Nat) (is : List Int32) (ls : List Int64) (rs : List Nat) (X : fx_X) (v : Int32) (X' : fx_X), gxF_286 p1 n l is ls rs X v X' → fy fF_286 fL_286 fA_286 X X' := by
  intro n
  induction n with
  | zero => intro l is ls rs X v X' g; exact g.elim
  | succ n ih =>
    intro l is ls rs X v X' g
    rcases g with ⟨-, y2, y3, -, -, -, g⟩ | ⟨-, y2, y3, -, -, -, g⟩ | ⟨-, y2, y4, -, -, -, g⟩ | ⟨-, y2, y3, y5, -, -, -, g⟩
    · unfold gxT_286_19 at g
      rcases fy_if g with g | g
      · skip
        replace g := g.2
        obtain ⟨X12, eX12, g⟩ := g
        have fX12 : fy fF_286 fL_286 fA_286 X X12 := by rw [eX12]; exact fy_a (fy_rf (X := X)) (by decide)
        obtain ⟨x13, -, g⟩ := g
        exact fy_tr fX12 (ih _ _ _ _ _ _ _ g)
      · skip
        exact fy_tr (fy_rf (X := X)) (ih _ _ _ _ _ _ _ g)
    · unfold gxT_286_39 at g
      rcases fy_if g with g | g
      · skip
        rw [g.2]; exact (fy_rf (X := X))
      · skip
        obtain ⟨w17, X16, rX16, g⟩ := g
        have fX16 : fy fF_286 fL_286 fA_286 X X16 := fy_z (fy_rf (X := X)) (gf_287 rX16)
        rcases fy_if g with g | g
        · skip
          obtain ⟨x19, -, g⟩ := g
          exact fy_tr fX16 (ih _ _ _ _ _ _ _ g)
        · skip
          rw [g.2]; exact fX16
    · unfold gxT_286_58 at g
      rcases fy_if g with g | g
      · skip
        rcases fy_if g with g | g
        · skip
          exact fy_tr (fy_rf (X := X)) (ih _ _ _ _ _ _ _ g)
        · skip
          replace g := g.2
          replace g := g.2
          obtain ⟨X30, eX30, g⟩ := g
          have fX30 : fy fF_286 fL_286 fA_286 X X30 := by rw [eX30]; exact fy_a (fy_rf (X := X)) (by decide)
          obtain ⟨x31, -, g⟩ := g
          exact fy_tr fX30 (ih _ _ _ _ _ _ _ g)
      · skip
        replace g := g.2
        rcases fy_if g with g | g
        · skip
          obtain ⟨x47, -, g⟩ := g
          exact fy_tr (fy_rf (X := X)) (ih _ _ _ _ _ _ _ g)
        · skip
          rcases fy_if g with g | g
          · skip
            exact fy_tr (fy_rf (X := X)) (ih _ _ _ _ _ _ _ g)
          · skip
            replace g := g.2
            replace g := g.2
            obtain ⟨X44, eX44, g⟩ := g
            have fX44 : fy fF_286 fL_286 fA_286 X X44 := by rw [eX44]; exact fy_a (fy_rf (X := X)) (by decide)
            obtain ⟨x45, -, g⟩ := g
            exact fy_tr fX44 (ih _ _ _ _ _ _ _ g)
    · unfold gxT_286_117 at g
      rcases fy_if g with g | g
      · skip
        replace g := g.2
        replace g := g.2
        obtain ⟨X54, eX54, g⟩ := g
        have fX54 : fy fF_286 fL_286 fA_286 X X54 := by rw [eX54]; exact fy_a (fy_rf (X := X)) (by decide)
        obtain ⟨x55, -, g⟩ := g
        exact fy_tr fX54 (ih _ _ _ _ _ _ _ g)
      · skip
        exact fy_tr (fy_rf (X := X)) (ih _ _ _ _ _ _ _ g)
theorem gf_286 {p1 : Int32} {X : fx_X} {v : Int32} {X' : fx_X} (g : gx_286 p1 X v X') : fy fF_286 fL_286 fA_286 X X' := by
  obtain ⟨n, g⟩ := g
  unfold gxE_286 at g
  replace g := g.2
  obtain ⟨x4, -, g⟩ := g
  rcases fy_if g with g | g
  · skip
    rw [g.2]; exact (fy_rf (X := X))
  · skip
    exact fy_tr (fy_rf (X := X)) (gfl_286 _ n _ _ _ _ _ _ _ g)
abbrev fF_285 : List (Nat × Nat) := [(117, 61)]
abbrev fL_285 : List (Nat × Nat) := []
abbrev fA_285 : List Nat := [145, 146]
theorem gfl_285 (p1 : Int32) : ∀ (n l : Nat) (is : List Int32) (ls : List Int64) (rs : List Nat) (X : fx_X) (v : Int32) (X' : fx_X), gxF_285 p1 n l is ls rs X v X' → fy fF_285 fL_285 fA_285 X X' := by
  intro n
  induction n with
  | zero => intro l is ls rs X v X' g; exact g.elim
  | succ n ih =>
    intro l is ls rs X v X' g
    rcases g with ⟨-, y2, -, -, -, g⟩ | ⟨-, y2, y3, y4, -, -, -, g⟩ | ⟨-, y2, y3, y4, -, -, -, g⟩ | ⟨-, y2, -, -, -, g⟩
    · unfold gxT_285_20 at g
      replace g := g.2
      rcases fy_if g with g | g
      · skip
        obtain ⟨w12, X11, rX11, g⟩ := g
        have fX11 : fy fF_285 fL_285 fA_285 X X11 := fy_z (fy_rf (X := X)) (gf_227 rX11)
        rcases fy_if g with g | g
        · skip
          obtain ⟨x14, -, g⟩ := g
          exact fy_tr fX11 (ih _ _ _ _ _ _ _ g)
        · skip
          exact fy_tr fX11 (ih _ _ _ _ _ _ _ g)
      · skip
        exact fy_tr (fy_rf (X := X)) (ih _ _ _ _ _ _ _ g)
    · unfold gxT_285_50 at g
      replace g := g.2
      rcases fy_if g with g | g
      · skip
        obtain ⟨w33, X32, rX32, g⟩ := g
        have fX32 : fy fF_285 fL_285 fA_285 X X32 := fy_z (fy_rf (X := X)) (gf_227 rX32)
        rcases fy_if g with g | g
        · skip
          obtain ⟨x35, -, g⟩ := g
          obtain ⟨x37, -, g⟩ := g
          exact fy_tr fX32 (ih _ _ _ _ _ _ _ g)
        · skip
          obtain ⟨x40, -, g⟩ := g
          exact fy_tr fX32 (ih _ _ _ _ _ _ _ g)
      · skip
        rcases fy_if g with g | g
        · skip
          rw [g.2]; exact (fy_rf (X := X))
        · skip
          exact fy_tr (fy_rf (X := X)) (ih _ _ _ _ _ _ _ g)
    · unfold gxT_285_114 at g
      rcases fy_if g with g | g
      · skip
        replace g := g.2
        rcases fy_if g with g | g
        · skip
          rcases fy_if g with g | g
          · skip
            replace g := g.2
            obtain ⟨X60, eX60, g⟩ := g
            have fX60 : fy fF_285 fL_285 fA_285 X X60 := by rw [eX60]; exact fy_a (fy_rf (X := X)) (by decide)
            obtain ⟨X61, eX61, g⟩ := g
            have fX61 : fy fF_285 fL_285 fA_285 X X61 := by rw [eX61]; exact fy_f fX60 (by decide)
            obtain ⟨x62, -, g⟩ := g
            exact fy_tr fX61 (ih _ _ _ _ _ _ _ g)
          · skip
            obtain ⟨x56, -, g⟩ := g
            exact fy_tr (fy_rf (X := X)) (ih _ _ _ _ _ _ _ g)
        · skip
          obtain ⟨x64, -, g⟩ := g
          exact fy_tr (fy_rf (X := X)) (ih _ _ _ _ _ _ _ g)
      · skip
        rcases fy_if g with g | g
        · skip
          replace g := g.2
          obtain ⟨X48, eX48, g⟩ := g
          have fX48 : fy fF_285 fL_285 fA_285 X X48 := by rw [eX48]; exact fy_a (fy_rf (X := X)) (by decide)
          obtain ⟨X49, eX49, g⟩ := g
          have fX49 : fy fF_285 fL_285 fA_285 X X49 := by rw [eX49]; exact fy_f fX48 (by decide)
          obtain ⟨x50, -, g⟩ := g
          exact fy_tr fX49 (ih _ _ _ _ _ _ _ g)
        · skip
          obtain ⟨x44, -, g⟩ := g
          exact fy_tr (fy_rf (X := X)) (ih _ _ _ _ _ _ _ g)
    · unfold gxT_285_175 at g
      obtain ⟨w19, X18, rX18, g⟩ := g
      have fX18 : fy fF_285 fL_285 fA_285 X X18 := fy_tr (fy_rf (X := X)) (fy_sub (gf_286 rX18) (by decide) (by decide) (by decide))
      rcases fy_if g with g | g
      · skip
        obtain ⟨x24, -, g⟩ := g
        exact fy_tr fX18 (ih _ _ _ _ _ _ _ g)
      · skip
        rcases fy_if g with g | g
        · skip
          replace g := g.2
          rw [g.2]; exact fX18
        · skip
          rw [g.2]; exact fX18
theorem gf_285 {p1 : Int32} {X : fx_X} {v : Int32} {X' : fx_X} (g : gx_285 p1 X v X') : fy fF_285 fL_285 fA_285 X X' := by
  obtain ⟨n, g⟩ := g
  unfold gxE_285 at g
  rcases fy_if g with g | g
  · skip
    rw [g.2]; exact (fy_rf (X := X))
  · skip
    rcases fy_if g with g | g
    · skip
      rw [g.2]; exact (fy_rf (X := X))
    · skip
      obtain ⟨X4, eX4, g⟩ := g
      have fX4 : fy fF_285 fL_285 fA_285 X X4 := by rw [eX4]; exact fy_f (fy_rf (X := X)) (by decide)
      exact fy_tr fX4 (gfl_285 _ n _ _ _ _ _ _ _ g)
theorem gfl_289 (p1 : Int32) : ∀ (n l : Nat) (is : List Int32) (ls : List Int64) (rs : List Nat) (X : fx_X) (v : Int32) (X' : fx_X), gxF_289 p1 n l is ls rs X v X' → fy [] [] [] X X' := by
  intro n
  induction n with
  | zero => intro l is ls rs X v X' g; exact g.elim
  | succ n ih =>
    intro l is ls rs X v X' g
    rcases g with ⟨-, y2, y3, -, -, -, g⟩
    · unfold gxT_289_4 at g
      replace g := g.2
      rcases fy_if g with g | g
      · skip
        obtain ⟨w8, X7, rX7, g⟩ := g
        have fX7 : fy [] [] [] X X7 := fy_z (fy_rf (X := X)) (gf_247 rX7)
        rcases fy_if g with g | g
        · skip
          obtain ⟨x10, -, g⟩ := g
          exact fy_tr fX7 (ih _ _ _ _ _ _ _ g)
        · skip
          rcases fy_if g with g | g
          · skip
            rw [g.2]; exact fX7
          · skip
            obtain ⟨x13, -, g⟩ := g
            obtain ⟨x15, -, g⟩ := g
            exact fy_tr fX7 (ih _ _ _ _ _ _ _ g)
      · skip
        rw [g.2]; exact (fy_rf (X := X))
theorem gf_289 {p1 : Int32} {X : fx_X} {v : Int32} {X' : fx_X} (g : gx_289 p1 X v X') : fy [] [] [] X X' := by
  obtain ⟨n, g⟩ := g
  unfold gxE_289 at g
  exact fy_tr (fy_rf (X := X)) (gfl_289 _ n _ _ _ _ _ _ _ g)
theorem gf_288 {p1 : Int32} {p2 : Int32} {X : fx_X} {v : Int32} {X' : fx_X} (g : gx_288 p1 p2 X v X') : fy [] [] [] X X' := by
  unfold gx_288 at g
  rcases fy_if g with g | g
  · skip
    rw [g.2]; exact (fy_rf (X := X))
  · skip
    rcases fy_if g with g | g
    · skip
      rw [g.2]; exact (fy_rf (X := X))
    · skip
      replace g := g.2
      rcases fy_if g with g | g
      · skip
        obtain ⟨w12, X11, rX11, g⟩ := g
        have fX11 : fy [] [] [] X X11 := fy_z (fy_rf (X := X)) (gf_289 rX11)
        rcases fy_if g with g | g
        · skip
          rw [g.2]; exact fX11
        · skip
          obtain ⟨w16, X15, rX15, g⟩ := g
          have fX15 : fy [] [] [] X X15 := fy_z fX11 (gf_241 rX15)
          rw [g.2]; exact fX15
      · skip
        rw [g.2]; exact (fy_rf (X := X))
theorem gf_291 {p1 : Int32} {X : fx_X} {v : Int32} {X' : fx_X} (g : gx_291 p1 X v X') : fy [] [] [] X X' := by
  unfold gx_291 at g
  rcases fy_if g with g | g
  · skip
    rw [g.2]; exact (fy_rf (X := X))
  · skip
    replace g := g.2
    rcases fy_if g with g | g
    · skip
      rw [g.2]; exact (fy_rf (X := X))
    · skip
      rw [g.2]; exact (fy_rf (X := X))
theorem gf_296 {p1 : Int32} {p2 : Int32} {p3 : Int32} {X : fx_X} {v : Int32} {X' : fx_X} (g : gx_296 p1 p2 p3 X v X') : fy [] [] [] X X' := by
  unfold gx_296 at g
  obtain ⟨w3, X2, rX2, g⟩ := g
  have fX2 : fy [] [] [] X X2 := fy_z (fy_rf (X := X)) (gf_267 rX2)
  rw [g.2]; exact fX2
abbrev fF_295 : List (Nat × Nat) := []
abbrev fL_295 : List (Nat × Nat) := []
abbrev fA_295 : List Nat := [148]
theorem gfl_295 (p1 : Int32) (p2 : Int32) (p3 : Int32) : ∀ (n l : Nat) (is : List Int32) (ls : List Int64) (rs : List Nat) (X : fx_X) (v : Unit) (X' : fx_X), gxF_295 p1 p2 p3 n l is ls rs X v X' → fy fF_295 fL_295 fA_295 X X' := by
  intro n
  induction n with
  | zero => intro l is ls rs X v X' g; exact g.elim
  | succ n ih =>
    intro l is ls rs X v X' g
    rcases g with ⟨-, y4, y5, -, -, -, g⟩
    · unfold gxT_295_12 at g
      rcases fy_if g with g | g
      · skip
        obtain ⟨x11, -, g⟩ := g
        rcases fy_if g with g | g
        · skip
          replace g := g.2
          replace g := g.2
          obtain ⟨w33, X32, rX32, g⟩ := g
          have fX32 : fy fF_295 fL_295 fA_295 X X32 := fy_z (fy_rf (X := X)) (gf_296 rX32)
          rcases fy_if g with g | g
          · skip
            obtain ⟨x49, -, g⟩ := g
            replace g := g.2
            obtain ⟨w54, X53, rX53, g⟩ := g
            have fX53 : fy fF_295 fL_295 fA_295 X X53 := fy_z fX32 (gf_296 rX53)
            rcases fy_if g with g | g
            · skip
              replace g := g.2
              replace g := g.2
              obtain ⟨X60, eX60, g⟩ := g
              have fX60 : fy fF_295 fL_295 fA_295 X X60 := by rw [eX60]; exact fy_a fX53 (by decide)
              exact fy_tr fX60 (ih _ _ _ _ _ _ _ g)
            · skip
              replace g := g.2
              obtain ⟨X64, eX64, g⟩ := g
              have fX64 : fy fF_295 fL_295 fA_295 X X64 := by rw [eX64]; exact fy_a fX53 (by decide)
              rw [g]; exact fX64
          · skip
            replace g := g.2
            obtain ⟨w38, X37, rX37, g⟩ := g
            have fX37 : fy fF_295 fL_295 fA_295 X X37 := fy_z fX32 (gf_296 rX37)
            rcases fy_if g with g | g
            · skip
              replace g := g.2
              replace g := g.2
              obtain ⟨X44, eX44, g⟩ := g
              have fX44 : fy fF_295 fL_295 fA_295 X X44 := by rw [eX44]; exact fy_a fX37 (by decide)
              exact fy_tr fX44 (ih _ _ _ _ _ _ _ g)
            · skip
              replace g := g.2
              obtain ⟨X48, eX48, g⟩ := g
              have fX48 : fy fF_295 fL_295 fA_295 X X48 := by rw [eX48]; exact fy_a fX37 (by decide)
              rw [g]; exact fX48
        · skip
          replace g := g.2
          obtain ⟨w17, X16, rX16, g⟩ := g
          have fX16 : fy fF_295 fL_295 fA_295 X X16 := fy_z (fy_rf (X := X)) (gf_296 rX16)
          rcases fy_if g with g | g
          · skip
            replace g := g.2
            replace g := g.2
            obtain ⟨X23, eX23, g⟩ := g
            have fX23 : fy fF_295 fL_295 fA_295 X X23 := by rw [eX23]; exact fy_a fX16 (by decide)
            exact fy_tr fX23 (ih _ _ _ _ _ _ _ g)
          · skip
            replace g := g.2
            obtain ⟨X27, eX27, g⟩ := g
            have fX27 : fy fF_295 fL_295 fA_295 X X27 := by rw [eX27]; exact fy_a fX16 (by decide)
            rw [g]; exact fX27
      · skip
        replace g := g.2
        obtain ⟨X10, eX10, g⟩ := g
        have fX10 : fy fF_295 fL_295 fA_295 X X10 := by rw [eX10]; exact fy_a (fy_rf (X := X)) (by decide)
        rw [g]; exact fX10
theorem gf_295 {p1 : Int32} {p2 : Int32} {p3 : Int32} {X : fx_X} {v : Unit} {X' : fx_X} (g : gx_295 p1 p2 p3 X v X') : fy fF_295 fL_295 fA_295 X X' := by
  obtain ⟨n, g⟩ := g
  unfold gxE_295 at g
  replace g := g.2
  obtain ⟨x5, -, g⟩ := g
  exact fy_tr (fy_rf (X := X)) (gfl_295 _ _ _ n _ _ _ _ _ _ _ g)
abbrev fF_294 : List (Nat × Nat) := [(117, 58), (117, 67), (117, 70)]
abbrev fL_294 : List (Nat × Nat) := [(117, 69)]
abbrev fA_294 : List Nat := [143, 148]
theorem gfl_294 (p1 : Int32) : ∀ (n l : Nat) (is : List Int32) (ls : List Int64) (rs : List Nat) (X : fx_X) (v : Unit) (X' : fx_X), gxF_294 p1 n l is ls rs X v X' → fy fF_294 fL_294 fA_294 X X' := by
  intro n
  induction n with
  | zero => intro l is ls rs X v X' g; exact g.elim
  | succ n ih =>
    intro l is ls rs X v X' g
    rcases g with ⟨-, y2, y3, y4, -, -, -, g⟩ | ⟨-, y2, y3, y4, y5, -, -, -, g⟩ | ⟨-, y2, y3, y4, -, -, -, g⟩ | ⟨-, y2, y3, y4, -, -, -, g⟩ | ⟨-, y2, y3, y4, -, -, -, g⟩
    · unfold gxT_294_49 at g
      replace g := g.2
      rcases fy_if g with g | g
      · skip
        obtain ⟨w23, X22, rX22, g⟩ := g
        have fX22 : fy fF_294 fL_294 fA_294 X X22 := fy_z (fy_rf (X := X)) (gf_247 rX22)
        rcases fy_if g with g | g
        · skip
          obtain ⟨x25, -, g⟩ := g
          exact fy_tr fX22 (ih _ _ _ _ _ _ _ g)
        · skip
          obtain ⟨w28, X27, rX27, g⟩ := g
          have fX27 : fy fF_294 fL_294 fA_294 X X27 := fy_tr fX22 (fy_sub (gf_266 rX27) (by decide) (by decide) (by decide))
          exact fy_tr fX27 (ih _ _ _ _ _ _ _ g)
      · skip
        obtain ⟨x20, -, g⟩ := g
        exact fy_tr (fy_rf (X := X)) (ih _ _ _ _ _ _ _ g)
    · unfold gxT_294_86 at g
      rcases fy_if g with g | g
      · skip
        replace g := g.2
        replace g := g.2
        obtain ⟨X47, eX47, g⟩ := g
        have fX47 : fy fF_294 fL_294 fA_294 X X47 := by rw [eX47]; exact fy_a (fy_rf (X := X)) (by decide)
        obtain ⟨x48, -, g⟩ := g
        obtain ⟨x50, -, g⟩ := g
        exact fy_tr fX47 (ih _ _ _ _ _ _ _ g)
      · skip
        obtain ⟨x41, -, g⟩ := g
        exact fy_tr (fy_rf (X := X)) (ih _ _ _ _ _ _ _ g)
    · unfold gxT_294_134 at g
      rcases fy_if g with g | g
      · skip
        obtain ⟨x31, -, g⟩ := g
        exact fy_tr (fy_rf (X := X)) (ih _ _ _ _ _ _ _ g)
      · skip
        rcases fy_if g with g | g
        · skip
          obtain ⟨w37, X36, rX36, g⟩ := g
          have fX36 : fy fF_294 fL_294 fA_294 X X36 := fy_tr (fy_rf (X := X)) (fy_sub (gf_295 rX36) (by decide) (by decide) (by decide))
          obtain ⟨x38, -, g⟩ := g
          exact fy_tr fX36 (ih _ _ _ _ _ _ _ g)
        · skip
          obtain ⟨x34, -, g⟩ := g
          exact fy_tr (fy_rf (X := X)) (ih _ _ _ _ _ _ _ g)
    · unfold gxT_294_162 at g
      rcases fy_if g with g | g
      · skip
        replace g := g.2
        obtain ⟨x57, -, g⟩ := g
        replace g := g.2
        obtain ⟨X63, eX63, g⟩ := g
        have fX63 : fy fF_294 fL_294 fA_294 X X63 := by rw [eX63]; exact fy_a (fy_rf (X := X)) (by decide)
        obtain ⟨X66, eX66, g⟩ := g
        have fX66 : fy fF_294 fL_294 fA_294 X X66 := by rw [eX66]; exact fy_a fX63 (by decide)
        obtain ⟨w68, X67, rX67, g⟩ := g
        have fX67 : fy fF_294 fL_294 fA_294 X X67 := fy_tr fX66 (fy_sub (gf_295 rX67) (by decide) (by decide) (by decide))
        obtain ⟨x69, -, g⟩ := g
        exact fy_tr fX67 (ih _ _ _ _ _ _ _ g)
      · skip
        obtain ⟨X53, eX53, g⟩ := g
        have fX53 : fy fF_294 fL_294 fA_294 X X53 := by rw [eX53]; exact fy_f (fy_rf (X := X)) (by decide)
        exact fy_tr fX53 (ih _ _ _ _ _ _ _ g)
    · unfold gxT_294_219 at g
      rcases fy_if g with g | g
      · skip
        rcases fy_if g with g | g
        · skip
          replace g := g.2
          replace g := g.2
          obtain ⟨X77, eX77, g⟩ := g
          have fX77 : fy fF_294 fL_294 fA_294 X X77 := by rw [eX77]; exact fy_a (fy_rf (X := X)) (by decide)
          obtain ⟨X78, eX78, g⟩ := g
          have fX78 : fy fF_294 fL_294 fA_294 X X78 := by rw [eX78]; exact fy_f fX77 (by decide)
          obtain ⟨x79, -, g⟩ := g
          exact fy_tr fX78 (ih _ _ _ _ _ _ _ g)
        · skip
          replace g := g.2
          replace g := g.2
          obtain ⟨w86, X85, rX85, g⟩ := g
          have fX85 : fy fF_294 fL_294 fA_294 X X85 := fy_z (fy_rf (X := X)) (gf_296 rX85)
          rcases fy_if g with g | g
          · skip
            obtain ⟨x88, -, g⟩ := g
            exact fy_tr fX85 (ih _ _ _ _ _ _ _ g)
          · skip
            replace g := g.2
            replace g := g.2
            obtain ⟨X94, eX94, g⟩ := g
            have fX94 : fy fF_294 fL_294 fA_294 X X94 := by rw [eX94]; exact fy_a fX85 (by decide)
            obtain ⟨X95, eX95, g⟩ := g
            have fX95 : fy fF_294 fL_294 fA_294 X X95 := by rw [eX95]; exact fy_f fX94 (by decide)
            obtain ⟨x96, -, g⟩ := g
            exact fy_tr fX95 (ih _ _ _ _ _ _ _ g)
      · skip
        rw [g]; exact (fy_rf (X := X))
theorem gf_294 {p1 : Int32} {X : fx_X} {v : Unit} {X' : fx_X} (g : gx_294 p1 X v X') : fy fF_294 fL_294 fA_294 X X' := by
  obtain ⟨n, g⟩ := g
  unfold gxE_294 at g
  rcases fy_if g with g | g
  · skip
    rcases fy_if g with g | g
    · skip
      rw [g]; exact (fy_rf (X := X))
    · skip
      obtain ⟨X10, eX10, g⟩ := g
      have fX10 : fy fF_294 fL_294 fA_294 X X10 := by rw [eX10]; exact fy_f (fy_rf (X := X)) (by decide)
      obtain ⟨X11, eX11, g⟩ := g
      have fX11 : fy fF_294 fL_294 fA_294 X X11 := by rw [eX11]; exact fy_g fX10 (by decide)
      obtain ⟨x12, -, g⟩ := g
      exact fy_tr fX11 (gfl_294 _ n _ _ _ _ _ _ _ g)
  · skip
    obtain ⟨X3, eX3, g⟩ := g
    have fX3 : fy fF_294 fL_294 fA_294 X X3 := by rw [eX3]; exact fy_f (fy_rf (X := X)) (by decide)
    obtain ⟨X4, eX4, g⟩ := g
    have fX4 : fy fF_294 fL_294 fA_294 X X4 := by rw [eX4]; exact fy_g fX3 (by decide)
    obtain ⟨x5, -, g⟩ := g
    exact fy_tr fX4 (gfl_294 _ n _ _ _ _ _ _ _ g)
theorem gfl_293 (p1 : Int32) (p2 : Int32) (p3 : Int32) (p4 : Int32) : ∀ (n l : Nat) (is : List Int32) (ls : List Int64) (rs : List Nat) (X : fx_X) (v : Int32) (X' : fx_X), gxF_293 p1 p2 p3 p4 n l is ls rs X v X' → fy [] [] [] X X' := by
  intro n
  induction n with
  | zero => intro l is ls rs X v X' g; exact g.elim
  | succ n ih =>
    intro l is ls rs X v X' g
    rcases g with ⟨-, y5, -, -, -, g⟩
    · unfold gxT_293_3 at g
      replace g := g.2
      rcases fy_if g with g | g
      · skip
        obtain ⟨w8, X7, rX7, g⟩ := g
        have fX7 : fy [] [] [] X X7 := fy_z (fy_rf (X := X)) (gf_225 rX7)
        obtain ⟨w10, X9, rX9, g⟩ := g
        have fX9 : fy [] [] [] X X9 := fy_z fX7 (gf_227 rX9)
        rcases fy_if g with g | g
        · skip
          obtain ⟨x12, -, g⟩ := g
          exact fy_tr fX9 (ih _ _ _ _ _ _ _ g)
        · skip
          obtain ⟨w15, X14, rX14, g⟩ := g
          have fX14 : fy [] [] [] X X14 := fy_z fX9 (gf_267 rX14)
          rcases fy_if g with g | g
          · skip
            rw [g.2]; exact fX14
          · skip
            obtain ⟨x17, -, g⟩ := g
            exact fy_tr fX14 (ih _ _ _ _ _ _ _ g)
      · skip
        rw [g.2]; exact (fy_rf (X := X))
theorem gf_293 {p1 : Int32} {p2 : Int32} {p3 : Int32} {p4 : Int32} {X : fx_X} {v : Int32} {X' : fx_X} (g : gx_293 p1 p2 p3 p4 X v X') : fy [] [] [] X X' := by
  obtain ⟨n, g⟩ := g
  unfold gxE_293 at g
  exact fy_tr (fy_rf (X := X)) (gfl_293 _ _ _ _ n _ _ _ _ _ _ _ g)
abbrev fF_292 : List (Nat × Nat) := [(117, 58), (117, 64), (117, 65)]
abbrev fL_292 : List (Nat × Nat) := []
abbrev fA_292 : List Nat := [143, 147]
theorem gfl_292 (p1 : Int32) : ∀ (n l : Nat) (is : List Int32) (ls : List Int64) (rs : List Nat) (X : fx_X) (v : Unit) (X' : fx_X), gxF_292 p1 n l is ls rs X v X' → fy fF_292 fL_292 fA_292 X X' := by
  intro n
  induction n with
  | zero => intro l is ls rs X v X' g; exact g.elim
  | succ n ih =>
    intro l is ls rs X v X' g
    rcases g with ⟨-, y2, y3, -, -, -, g⟩ | ⟨-, y2, y3, y4, y5, -, -, -, g⟩
    · unfold gxT_292_30 at g
      rcases fy_if g with g | g
      · skip
        exact fy_tr (fy_rf (X := X)) (ih _ _ _ _ _ _ _ g)
      · skip
        rw [g]; exact (fy_rf (X := X))
    · unfold gxT_292_41 at g
      replace g := g.2
      rcases fy_if g with g | g
      · skip
        rcases fy_if g with g | g
        · skip
          rcases fy_if g with g | g
          · skip
            obtain ⟨x30, -, g⟩ := g
            exact fy_tr (fy_rf (X := X)) (ih _ _ _ _ _ _ _ g)
          · skip
            replace g := g.2
            replace g := g.2
            obtain ⟨X36, eX36, g⟩ := g
            have fX36 : fy fF_292 fL_292 fA_292 X X36 := by rw [eX36]; exact fy_a (fy_rf (X := X)) (by decide)
            obtain ⟨X37, eX37, g⟩ := g
            have fX37 : fy fF_292 fL_292 fA_292 X X37 := by rw [eX37]; exact fy_f fX36 (by decide)
            obtain ⟨x38, -, g⟩ := g
            exact fy_tr fX37 (ih _ _ _ _ _ _ _ g)
        · skip
          obtain ⟨w41, X40, rX40, g⟩ := g
          have fX40 : fy fF_292 fL_292 fA_292 X X40 := fy_z (fy_rf (X := X)) (gf_247 rX40)
          rcases fy_if g with g | g
          · skip
            obtain ⟨x44, -, g⟩ := g
            exact fy_tr fX40 (ih _ _ _ _ _ _ _ g)
          · skip
            replace g := g.2
            obtain ⟨w49, X48, rX48, g⟩ := g
            have fX48 : fy fF_292 fL_292 fA_292 X X48 := fy_z fX40 (gf_293 rX48)
            rcases fy_if g with g | g
            · skip
              obtain ⟨x52, -, g⟩ := g
              exact fy_tr fX48 (ih _ _ _ _ _ _ _ g)
            · skip
              obtain ⟨x55, -, g⟩ := g
              exact fy_tr fX48 (ih _ _ _ _ _ _ _ g)
      · skip
        rcases fy_if g with g | g
        · skip
          obtain ⟨x18, -, g⟩ := g
          exact fy_tr (fy_rf (X := X)) (ih _ _ _ _ _ _ _ g)
        · skip
          replace g := g.2
          replace g := g.2
          obtain ⟨X24, eX24, g⟩ := g
          have fX24 : fy fF_292 fL_292 fA_292 X X24 := by rw [eX24]; exact fy_a (fy_rf (X := X)) (by decide)
          obtain ⟨X25, eX25, g⟩ := g
          have fX25 : fy fF_292 fL_292 fA_292 X X25 := by rw [eX25]; exact fy_f fX24 (by decide)
          obtain ⟨x26, -, g⟩ := g
          exact fy_tr fX25 (ih _ _ _ _ _ _ _ g)
theorem gf_292 {p1 : Int32} {X : fx_X} {v : Unit} {X' : fx_X} (g : gx_292 p1 X v X') : fy fF_292 fL_292 fA_292 X X' := by
  obtain ⟨n, g⟩ := g
  unfold gxE_292 at g
  obtain ⟨w3, X2, rX2, g⟩ := g
  have fX2 : fy fF_292 fL_292 fA_292 X X2 := fy_z (fy_rf (X := X)) (gf_289 rX2)
  obtain ⟨X4, eX4, g⟩ := g
  have fX4 : fy fF_292 fL_292 fA_292 X X4 := by rw [eX4]; exact fy_f fX2 (by decide)
  obtain ⟨X5, eX5, g⟩ := g
  have fX5 : fy fF_292 fL_292 fA_292 X X5 := by rw [eX5]; exact fy_f fX4 (by decide)
  obtain ⟨w7, X6, rX6, g⟩ := g
  have fX6 : fy fF_292 fL_292 fA_292 X X6 := fy_tr fX5 (fy_sub (gf_266 rX6) (by decide) (by decide) (by decide))
  obtain ⟨x8, -, g⟩ := g
  exact fy_tr fX6 (gfl_292 _ n _ _ _ _ _ _ _ g)
abbrev fF_290 : List (Nat × Nat) := [(117, 58), (117, 64), (117, 65), (117, 67), (117, 70)]
abbrev fL_290 : List (Nat × Nat) := [(117, 69)]
abbrev fA_290 : List Nat := [143, 147, 148]
theorem gfl_290 (p1 : Int32) (p2 : Int32) : ∀ (n l : Nat) (is : List Int32) (ls : List Int64) (rs : List Nat) (X : fx_X) (v : Int32) (X' : fx_X), gxF_290 p1 p2 n l is ls rs X v X' → fy fF_290 fL_290 fA_290 X X' := by
  intro n
  induction n with
  | zero => intro l is ls rs X v X' g; exact g.elim
  | succ n ih =>
    intro l is ls rs X v X' g
    rcases g with ⟨-, y3, y4, y5, -, -, -, g⟩
    · unfold gxT_290_124 at g
      replace g := g.2
      rcases fy_if g with g | g
      · skip
        obtain ⟨w34, X33, rX33, g⟩ := g
        have fX33 : fy fF_290 fL_290 fA_290 X X33 := fy_z (fy_rf (X := X)) (gf_247 rX33)
        rcases fy_if g with g | g
        · skip
          obtain ⟨x36, -, g⟩ := g
          exact fy_tr fX33 (ih _ _ _ _ _ _ _ g)
        · skip
          obtain ⟨w39, X38, rX38, g⟩ := g
          have fX38 : fy fF_290 fL_290 fA_290 X X38 := fy_tr fX33 (fy_sub (gf_266 rX38) (by decide) (by decide) (by decide))
          rcases fy_if g with g | g
          · skip
            rcases fy_if g with g | g
            · skip
              obtain ⟨x53, -, g⟩ := g
              obtain ⟨x55, -, g⟩ := g
              exact fy_tr fX38 (ih _ _ _ _ _ _ _ g)
            · skip
              obtain ⟨x51, -, g⟩ := g
              exact fy_tr fX38 (ih _ _ _ _ _ _ _ g)
          · skip
            rcases fy_if g with g | g
            · skip
              obtain ⟨x45, -, g⟩ := g
              obtain ⟨x47, -, g⟩ := g
              exact fy_tr fX38 (ih _ _ _ _ _ _ _ g)
            · skip
              obtain ⟨x43, -, g⟩ := g
              exact fy_tr fX38 (ih _ _ _ _ _ _ _ g)
      · skip
        rw [g.2]; exact (fy_rf (X := X))
theorem gf_290 {p1 : Int32} {p2 : Int32} {X : fx_X} {v : Int32} {X' : fx_X} (g : gx_290 p1 p2 X v X') : fy fF_290 fL_290 fA_290 X X' := by
  obtain ⟨n, g⟩ := g
  unfold gxE_290 at g
  obtain ⟨w3, X2, rX2, g⟩ := g
  have fX2 : fy fF_290 fL_290 fA_290 X X2 := fy_z (fy_rf (X := X)) (gf_291 rX2)
  rcases fy_if g with g | g
  · skip
    rw [g.2]; exact fX2
  · skip
    rcases fy_if g with g | g
    · skip
      rw [g.2]; exact fX2
    · skip
      rcases fy_if g with g | g
      · skip
        rw [g.2]; exact fX2
      · skip
        obtain ⟨x7, -, g⟩ := g
        rcases fy_if g with g | g
        · skip
          rcases fy_if g with g | g
          · skip
            replace g := g.2
            rw [g.2]; exact fX2
          · skip
            rcases fy_if g with g | g
            · skip
              replace g := g.2
              rw [g.2]; exact fX2
            · skip
              replace g := g.2
              rcases fy_if g with g | g
              · skip
                rw [g.2]; exact fX2
              · skip
                rw [g.2]; exact fX2
        · skip
          rcases fy_if g with g | g
          · skip
            obtain ⟨w20, X19, rX19, g⟩ := g
            have fX19 : fy fF_290 fL_290 fA_290 X X19 := fy_tr fX2 (fy_sub (gf_292 rX19) (by decide) (by decide) (by decide))
            rw [g.2]; exact fX19
          · skip
            rcases fy_if g with g | g
            · skip
              obtain ⟨w18, X17, rX17, g⟩ := g
              have fX17 : fy fF_290 fL_290 fA_290 X X17 := fy_tr fX2 (fy_sub (gf_294 rX17) (by decide) (by decide) (by decide))
              rw [g.2]; exact fX17
            · skip
              rcases fy_if g with g | g
              · skip
                exact fy_tr fX2 (gfl_290 _ _ n _ _ _ _ _ _ _ g)
              · skip
                exact fy_tr fX2 (gfl_290 _ _ n _ _ _ _ _ _ _ g)
theorem gf_298 {p1 : Int32} {p2 : Int32} {X : fx_X} {v : Int32} {X' : fx_X} (g : gx_298 p1 p2 X v X') : fy [] [] [] X X' := by
  unfold gx_298 at g
  obtain ⟨w3, X2, rX2, g⟩ := g
  have fX2 : fy [] [] [] X X2 := fy_z (fy_rf (X := X)) (gf_291 rX2)
  rcases fy_if g with g | g
  · skip
    rw [g.2]; exact fX2
  · skip
    rcases fy_if g with g | g
    · skip
      rw [g.2]; exact fX2
    · skip
      replace g := g.2
      rcases fy_if g with g | g
      · skip
        rw [g.2]; exact fX2
      · skip
        rw [g.2]; exact fX2
theorem gf_297 {p1 : Int32} {p2 : Int32} {p3 : Int32} {p4 : Int32} {X : fx_X} {v : Int32} {X' : fx_X} (g : gx_297 p1 p2 p3 p4 X v X') : fy [] [] [] X X' := by
  unfold gx_297 at g
  obtain ⟨w3, X2, rX2, g⟩ := g
  have fX2 : fy [] [] [] X X2 := fy_z (fy_rf (X := X)) (gf_298 rX2)
  rcases fy_if g with g | g
  · skip
    rw [g.2]; exact fX2
  · skip
    rcases fy_if g with g | g
    · skip
      rw [g.2]; exact fX2
    · skip
      replace g := g.2
      rcases fy_if g with g | g
      · skip
        rcases fy_if g with g | g
        · skip
          rw [g.2]; exact fX2
        · skip
          rcases fy_if g with g | g
          · skip
            rw [g.2]; exact fX2
          · skip
            obtain ⟨w12, X11, rX11, g⟩ := g
            have fX11 : fy [] [] [] X X11 := fy_z fX2 (gf_236 rX11)
            rcases fy_if g with g | g
            · skip
              replace g := g.2
              rw [g.2]; exact fX11
            · skip
              replace g := g.2
              rw [g.2]; exact fX11
      · skip
        rw [g.2]; exact fX2
theorem gfl_299 (p1 : Int32) (p2 : Int32) : ∀ (n l : Nat) (is : List Int32) (ls : List Int64) (rs : List Nat) (X : fx_X) (v : Int32) (X' : fx_X), gxF_299 p1 p2 n l is ls rs X v X' → fy [] [] [] X X' := by
  intro n
  induction n with
  | zero => intro l is ls rs X v X' g; exact g.elim
  | succ n ih =>
    intro l is ls rs X v X' g
    rcases g with ⟨-, y3, y4, -, -, -, g⟩
    · unfold gxT_299_16 at g
      replace g := g.2
      rcases fy_if g with g | g
      · skip
        obtain ⟨w11, X10, rX10, g⟩ := g
        have fX10 : fy [] [] [] X X10 := fy_z (fy_rf (X := X)) (gf_247 rX10)
        rcases fy_if g with g | g
        · skip
          obtain ⟨x14, -, g⟩ := g
          exact fy_tr fX10 (ih _ _ _ _ _ _ _ g)
        · skip
          obtain ⟨w18, X17, rX17, g⟩ := g
          have fX17 : fy [] [] [] X X17 := fy_z fX10 (gf_225 rX17)
          obtain ⟨w20, X19, rX19, g⟩ := g
          have fX19 : fy [] [] [] X X19 := fy_z fX17 (gf_227 rX19)
          rcases fy_if g with g | g
          · skip
            obtain ⟨x23, -, g⟩ := g
            exact fy_tr fX19 (ih _ _ _ _ _ _ _ g)
          · skip
            obtain ⟨x25, -, g⟩ := g
            obtain ⟨x27, -, g⟩ := g
            exact fy_tr fX19 (ih _ _ _ _ _ _ _ g)
      · skip
        rw [g.2]; exact (fy_rf (X := X))
theorem gf_299 {p1 : Int32} {p2 : Int32} {X : fx_X} {v : Int32} {X' : fx_X} (g : gx_299 p1 p2 X v X') : fy [] [] [] X X' := by
  obtain ⟨n, g⟩ := g
  unfold gxE_299 at g
  obtain ⟨w3, X2, rX2, g⟩ := g
  have fX2 : fy [] [] [] X X2 := fy_z (fy_rf (X := X)) (gf_298 rX2)
  rcases fy_if g with g | g
  · skip
    rw [g.2]; exact fX2
  · skip
    exact fy_tr fX2 (gfl_299 _ _ n _ _ _ _ _ _ _ g)
theorem gf_300 {p1 : Int32} {p2 : Int32} {p3 : Int32} {X : fx_X} {v : Int32} {X' : fx_X} (g : gx_300 p1 p2 p3 X v X') : fy [] [] [] X X' := by
  unfold gx_300 at g
  obtain ⟨w3, X2, rX2, g⟩ := g
  have fX2 : fy [] [] [] X X2 := fy_z (fy_rf (X := X)) (gf_298 rX2)
  rcases fy_if g with g | g
  · skip
    rw [g.2]; exact fX2
  · skip
    rcases fy_if g with g | g
    · skip
      rw [g.2]; exact fX2
    · skip
      obtain ⟨w9, X8, rX8, g⟩ := g
      have fX8 : fy [] [] [] X X8 := fy_z fX2 (gf_289 rX8)
      rcases fy_if g with g | g
      · skip
        rw [g.2]; exact fX8
      · skip
        obtain ⟨w14, X13, rX13, g⟩ := g
        have fX13 : fy [] [] [] X X13 := fy_z fX8 (gf_225 rX13)
        obtain ⟨w16, X15, rX15, g⟩ := g
        have fX15 : fy [] [] [] X X15 := fy_z fX13 (gf_227 rX15)
        rcases fy_if g with g | g
        · skip
          rw [g.2]; exact fX15
        · skip
          rw [g.2]; exact fX15
abbrev fF_301 : List (Nat × Nat) := [(117, 58)]
abbrev fL_301 : List (Nat × Nat) := []
abbrev fA_301 : List Nat := [143]
theorem gf_301 {p1 : Int32} {p2 : Int32} {X : fx_X} {v : Int32} {X' : fx_X} (g : gx_301 p1 p2 X v X') : fy fF_301 fL_301 fA_301 X X' := by
  unfold gx_301 at g
  obtain ⟨w3, X2, rX2, g⟩ := g
  have fX2 : fy fF_301 fL_301 fA_301 X X2 := fy_z (fy_rf (X := X)) (gf_291 rX2)
  rcases fy_if g with g | g
  · skip
    rw [g.2]; exact fX2
  · skip
    rcases fy_if g with g | g
    · skip
      rw [g.2]; exact fX2
    · skip
      obtain ⟨w9, X8, rX8, g⟩ := g
      have fX8 : fy fF_301 fL_301 fA_301 X X8 := fy_z fX2 (gf_289 rX8)
      rcases fy_if g with g | g
      · skip
        rw [g.2]; exact fX8
      · skip
        obtain ⟨w13, X12, rX12, g⟩ := g
        have fX12 : fy fF_301 fL_301 fA_301 X X12 := fy_tr fX8 (fy_sub (gf_266 rX12) (by decide) (by decide) (by decide))
        rw [g.2]; exact fX12
abbrev fF_302 : List (Nat × Nat) := [(117, 58)]
abbrev fL_302 : List (Nat × Nat) := []
abbrev fA_302 : List Nat := [143]
theorem gf_302 {p1 : Int32} {p2 : Int32} {p3 : Int32} {p4 : Int32} {X : fx_X} {v : Int32} {X' : fx_X} (g : gx_302 p1 p2 p3 p4 X v X') : fy fF_302 fL_302 fA_302 X X' := by
  unfold gx_302 at g
  obtain ⟨w3, X2, rX2, g⟩ := g
  have fX2 : fy fF_302 fL_302 fA_302 X X2 := fy_z (fy_rf (X := X)) (gf_291 rX2)
  rcases fy_if g with g | g
  · skip
    rw [g.2]; exact fX2
  · skip
    rcases fy_if g with g | g
    · skip
      rw [g.2]; exact fX2
    · skip
      rcases fy_if g with g | g
      · skip
        rw [g.2]; exact fX2
      · skip
        obtain ⟨w12, X11, rX11, g⟩ := g
        have fX11 : fy fF_302 fL_302 fA_302 X X11 := fy_z fX2 (gf_289 rX11)
        rcases fy_if g with g | g
        · skip
          rw [g.2]; exact fX11
        · skip
          rcases fy_if g with g | g
          · skip
            rw [g.2]; exact fX11
          · skip
            replace g := g.2
            rcases fy_if g with g | g
            · skip
              obtain ⟨w20, X19, rX19, g⟩ := g
              have fX19 : fy fF_302 fL_302 fA_302 X X19 := fy_tr fX11 (fy_sub (gf_266 rX19) (by decide) (by decide) (by decide))
              rcases fy_if g with g | g
              · skip
                replace g := g.2
                obtain ⟨w25, X24, rX24, g⟩ := g
                have fX24 : fy fF_302 fL_302 fA_302 X X24 := fy_z fX19 (gf_258 rX24)
                rw [g.2]; exact fX24
              · skip
                rw [g.2]; exact fX19
            · skip
              rw [g.2]; exact fX11
abbrev fF_303 : List (Nat × Nat) := [(117, 58), (117, 64), (117, 65)]
abbrev fL_303 : List (Nat × Nat) := []
abbrev fA_303 : List Nat := [143, 147]
theorem gf_303 {p1 : Int32} {p2 : Int32} {p3 : Int32} {X : fx_X} {v : Int32} {X' : fx_X} (g : gx_303 p1 p2 p3 X v X') : fy fF_303 fL_303 fA_303 X X' := by
  unfold gx_303 at g
  obtain ⟨w3, X2, rX2, g⟩ := g
  have fX2 : fy fF_303 fL_303 fA_303 X X2 := fy_z (fy_rf (X := X)) (gf_291 rX2)
  rcases fy_if g with g | g
  · skip
    rw [g.2]; exact fX2
  · skip
    rcases fy_if g with g | g
    · skip
      rw [g.2]; exact fX2
    · skip
      rcases fy_if g with g | g
      · skip
        rw [g.2]; exact fX2
      · skip
        replace g := g.2
        rcases fy_if g with g | g
        · skip
          obtain ⟨w11, X10, rX10, g⟩ := g
          have fX10 : fy fF_303 fL_303 fA_303 X X10 := fy_tr fX2 (fy_sub (gf_292 rX10) (by decide) (by decide) (by decide))
          rcases fy_if g with g | g
          · skip
            replace g := g.2
            obtain ⟨w16, X15, rX15, g⟩ := g
            have fX15 : fy fF_303 fL_303 fA_303 X X15 := fy_z fX10 (gf_258 rX15)
            rw [g.2]; exact fX15
          · skip
            rw [g.2]; exact fX10
        · skip
          rw [g.2]; exact fX2
abbrev fF_304 : List (Nat × Nat) := [(117, 58), (117, 67), (117, 70)]
abbrev fL_304 : List (Nat × Nat) := [(117, 69)]
abbrev fA_304 : List Nat := [143, 148]
theorem gf_304 {p1 : Int32} {p2 : Int32} {p3 : Int32} {X : fx_X} {v : Int32} {X' : fx_X} (g : gx_304 p1 p2 p3 X v X') : fy fF_304 fL_304 fA_304 X X' := by
  unfold gx_304 at g
  obtain ⟨w3, X2, rX2, g⟩ := g
  have fX2 : fy fF_304 fL_304 fA_304 X X2 := fy_z (fy_rf (X := X)) (gf_291 rX2)
  rcases fy_if g with g | g
  · skip
    rw [g.2]; exact fX2
  · skip
    rcases fy_if g with g | g
    · skip
      rw [g.2]; exact fX2
    · skip
      rcases fy_if g with g | g
      · skip
        rw [g.2]; exact fX2
      · skip
        replace g := g.2
        rcases fy_if g with g | g
        · skip
          obtain ⟨w11, X10, rX10, g⟩ := g
          have fX10 : fy fF_304 fL_304 fA_304 X X10 := fy_tr fX2 (fy_sub (gf_294 rX10) (by decide) (by decide) (by decide))
          rcases fy_if g with g | g
          · skip
            replace g := g.2
            replace g := g.2
            obtain ⟨w18, X17, rX17, g⟩ := g
            have fX17 : fy fF_304 fL_304 fA_304 X X17 := fy_z fX10 (gf_258 rX17)
            rw [g.2]; exact fX17
          · skip
            rw [g.2]; exact fX10
        · skip
          rw [g.2]; exact fX2
abbrev fF_305 : List (Nat × Nat) := [(117, 58), (117, 67), (117, 70)]
abbrev fL_305 : List (Nat × Nat) := [(117, 69)]
abbrev fA_305 : List Nat := [143, 148]
theorem gfl_305 (p1 : Int32) (p2 : Int32) : ∀ (n l : Nat) (is : List Int32) (ls : List Int64) (rs : List Nat) (X : fx_X) (v : Int32) (X' : fx_X), gxF_305 p1 p2 n l is ls rs X v X' → fy fF_305 fL_305 fA_305 X X' := by
  intro n
  induction n with
  | zero => intro l is ls rs X v X' g; exact g.elim
  | succ n ih =>
    intro l is ls rs X v X' g
    rcases g with ⟨-, y3, y4, y5, -, -, -, g⟩
    · unfold gxT_305_45 at g
      replace g := g.2
      rcases fy_if g with g | g
      · skip
        obtain ⟨w17, X16, rX16, g⟩ := g
        have fX16 : fy fF_305 fL_305 fA_305 X X16 := fy_z (fy_rf (X := X)) (gf_247 rX16)
        rcases fy_if g with g | g
        · skip
          obtain ⟨x20, -, g⟩ := g
          exact fy_tr fX16 (ih _ _ _ _ _ _ _ g)
        · skip
          replace g := g.2
          replace g := g.2
          obtain ⟨w27, X26, rX26, g⟩ := g
          have fX26 : fy fF_305 fL_305 fA_305 X X26 := fy_z fX16 (gf_293 rX26)
          rcases fy_if g with g | g
          · skip
            obtain ⟨x30, -, g⟩ := g
            exact fy_tr fX26 (ih _ _ _ _ _ _ _ g)
          · skip
            obtain ⟨x32, -, g⟩ := g
            obtain ⟨x34, -, g⟩ := g
            exact fy_tr fX26 (ih _ _ _ _ _ _ _ g)
      · skip
        rw [g.2]; exact (fy_rf (X := X))
theorem gf_305 {p1 : Int32} {p2 : Int32} {X : fx_X} {v : Int32} {X' : fx_X} (g : gx_305 p1 p2 X v X') : fy fF_305 fL_305 fA_305 X X' := by
  obtain ⟨n, g⟩ := g
  unfold gxE_305 at g
  obtain ⟨w3, X2, rX2, g⟩ := g
  have fX2 : fy fF_305 fL_305 fA_305 X X2 := fy_z (fy_rf (X := X)) (gf_291 rX2)
  rcases fy_if g with g | g
  · skip
    rw [g.2]; exact fX2
  · skip
    rcases fy_if g with g | g
    · skip
      rw [g.2]; exact fX2
    · skip
      obtain ⟨w7, X6, rX6, g⟩ := g
      have fX6 : fy fF_305 fL_305 fA_305 X X6 := fy_tr fX2 (fy_sub (gf_294 rX6) (by decide) (by decide) (by decide))
      rcases fy_if g with g | g
      · skip
        obtain ⟨x9, -, g⟩ := g
        exact fy_tr fX6 (gfl_305 _ _ n _ _ _ _ _ _ _ g)
      · skip
        rw [g.2]; exact fX6
abbrev fF_307 : List (Nat × Nat) := [(117, 58)]
abbrev fL_307 : List (Nat × Nat) := []
abbrev fA_307 : List Nat := [143, 149]
theorem gfl_307 (p1 : Int32) (p2 : Int32) (p3 : Int32) : ∀ (n l : Nat) (is : List Int32) (ls : List Int64) (rs : List Nat) (X : fx_X) (v : Int32) (X' : fx_X), gxF_307 p1 p2 p3 n l is ls rs X v X' → fy fF_307 fL_307 fA_307 X X' := by
  intro n
  induction n with
  | zero => intro l is ls rs X v X' g; exact g.elim
  | succ n ih =>
    intro l is ls rs X v X' g
    rcases g with ⟨-, y4, y5, -, -, -, g⟩ | ⟨-, y4, y5, -, -, -, g⟩ | ⟨-, y4, y5, y6, -, -, -, g⟩
    · unfold gxT_307_15 at g
      rcases fy_if g with g | g
      · skip
        replace g := g.2
        replace g := g.2
        obtain ⟨X16, eX16, g⟩ := g
        have fX16 : fy fF_307 fL_307 fA_307 X X16 := by rw [eX16]; exact fy_a (fy_rf (X := X)) (by decide)
        obtain ⟨x17, -, g⟩ := g
        exact fy_tr fX16 (ih _ _ _ _ _ _ _ g)
      · skip
        obtain ⟨w9, X8, rX8, g⟩ := g
        have fX8 : fy fF_307 fL_307 fA_307 X X8 := fy_tr (fy_rf (X := X)) (fy_sub (gf_266 rX8) (by decide) (by decide) (by decide))
        rcases fy_if g with g | g
        · skip
          exact fy_tr fX8 (ih _ _ _ _ _ _ _ g)
        · skip
          rw [g.2]; exact fX8
    · unfold gxT_307_62 at g
      rcases fy_if g with g | g
      · skip
        exact fy_tr (fy_rf (X := X)) (ih _ _ _ _ _ _ _ g)
      · skip
        rw [g.2]; exact (fy_rf (X := X))
    · unfold gxT_307_72 at g
      replace g := g.2
      rcases fy_if g with g | g
      · skip
        replace g := g.2
        obtain ⟨w29, X28, rX28, g⟩ := g
        have fX28 : fy fF_307 fL_307 fA_307 X X28 := fy_z (fy_rf (X := X)) (gf_258 rX28)
        replace g := g.2
        obtain ⟨w33, X32, rX32, g⟩ := g
        have fX32 : fy fF_307 fL_307 fA_307 X X32 := fy_z fX28 (gf_258 rX32)
        rcases fy_if g with g | g
        · skip
          obtain ⟨x35, -, g⟩ := g
          exact fy_tr fX32 (ih _ _ _ _ _ _ _ g)
        · skip
          rw [g.2]; exact fX32
      · skip
        obtain ⟨x24, -, g⟩ := g
        exact fy_tr (fy_rf (X := X)) (ih _ _ _ _ _ _ _ g)
theorem gf_307 {p1 : Int32} {p2 : Int32} {p3 : Int32} {X : fx_X} {v : Int32} {X' : fx_X} (g : gx_307 p1 p2 p3 X v X') : fy fF_307 fL_307 fA_307 X X' := by
  obtain ⟨n, g⟩ := g
  unfold gxE_307 at g
  obtain ⟨w3, X2, rX2, g⟩ := g
  have fX2 : fy fF_307 fL_307 fA_307 X X2 := fy_tr (fy_rf (X := X)) (fy_sub (gf_266 rX2) (by decide) (by decide) (by decide))
  obtain ⟨x4, -, g⟩ := g
  exact fy_tr fX2 (gfl_307 _ _ _ n _ _ _ _ _ _ _ g)
abbrev fF_306 : List (Nat × Nat) := [(117, 58)]
abbrev fL_306 : List (Nat × Nat) := []
abbrev fA_306 : List Nat := [143, 149]
theorem gfl_306 (p1 : Int32) (p2 : Int32) : ∀ (n l : Nat) (is : List Int32) (ls : List Int64) (rs : List Nat) (X : fx_X) (v : Int32) (X' : fx_X), gxF_306 p1 p2 n l is ls rs X v X' → fy fF_306 fL_306 fA_306 X X' := by
  intro n
  induction n with
  | zero => intro l is ls rs X v X' g; exact g.elim
  | succ n ih =>
    intro l is ls rs X v X' g
    rcases g with ⟨-, y3, y4, y5, y6, -, -, -, g⟩
    · unfold gxT_306_77 at g
      replace g := g.2
      rcases fy_if g with g | g
      · skip
        obtain ⟨w23, X22, rX22, g⟩ := g
        have fX22 : fy fF_306 fL_306 fA_306 X X22 := fy_z (fy_rf (X := X)) (gf_247 rX22)
        rcases fy_if g with g | g
        · skip
          obtain ⟨x25, -, g⟩ := g
          exact fy_tr fX22 (ih _ _ _ _ _ _ _ g)
        · skip
          obtain ⟨w28, X27, rX27, g⟩ := g
          have fX27 : fy fF_306 fL_306 fA_306 X X27 := fy_tr fX22 (fy_sub (gf_307 rX27) (by decide) (by decide) (by decide))
          rcases fy_if g with g | g
          · skip
            rw [g.2]; exact fX27
          · skip
            obtain ⟨x30, -, g⟩ := g
            obtain ⟨x32, -, g⟩ := g
            exact fy_tr fX27 (ih _ _ _ _ _ _ _ g)
      · skip
        rw [g.2]; exact (fy_rf (X := X))
theorem gf_306 {p1 : Int32} {p2 : Int32} {X : fx_X} {v : Int32} {X' : fx_X} (g : gx_306 p1 p2 X v X') : fy fF_306 fL_306 fA_306 X X' := by
  obtain ⟨n, g⟩ := g
  unfold gxE_306 at g
  obtain ⟨w3, X2, rX2, g⟩ := g
  have fX2 : fy fF_306 fL_306 fA_306 X X2 := fy_z (fy_rf (X := X)) (gf_291 rX2)
  rcases fy_if g with g | g
  · skip
    rw [g.2]; exact fX2
  · skip
    obtain ⟨w6, X5, rX5, g⟩ := g
    have fX5 : fy fF_306 fL_306 fA_306 X X5 := fy_z fX2 (gf_291 rX5)
    rcases fy_if g with g | g
    · skip
      rw [g.2]; exact fX5
    · skip
      replace g := g.2
      replace g := g.2
      rcases fy_if g with g | g
      · skip
        obtain ⟨x13, -, g⟩ := g
        obtain ⟨x15, -, g⟩ := g
        exact fy_tr fX5 (gfl_306 _ _ n _ _ _ _ _ _ _ g)
      · skip
        rw [g.2]; exact fX5
theorem gfl_309 : ∀ (n l : Nat) (is : List Int32) (ls : List Int64) (rs : List Nat) (X : fx_X) (v : Int32) (X' : fx_X), gxF_309 n l is ls rs X v X' → fy [] [] [] X X' := by
  intro n
  induction n with
  | zero => intro l is ls rs X v X' g; exact g.elim
  | succ n ih =>
    intro l is ls rs X v X' g
    rcases g with ⟨-, y1, y2, -, -, -, g⟩
    · unfold gxT_309_4 at g
      replace g := g.2
      rcases fy_if g with g | g
      · skip
        obtain ⟨w8, X7, rX7, g⟩ := g
        have fX7 : fy [] [] [] X X7 := fy_z (fy_rf (X := X)) (gf_247 rX7)
        rcases fy_if g with g | g
        · skip
          obtain ⟨x11, -, g⟩ := g
          exact fy_tr fX7 (ih _ _ _ _ _ _ _ g)
        · skip
          obtain ⟨x13, -, g⟩ := g
          obtain ⟨x15, -, g⟩ := g
          exact fy_tr fX7 (ih _ _ _ _ _ _ _ g)
      · skip
        rw [g.2]; exact (fy_rf (X := X))
theorem gf_309 {X : fx_X} {v : Int32} {X' : fx_X} (g : gx_309 X v X') : fy [] [] [] X X' := by
  obtain ⟨n, g⟩ := g
  unfold gxE_309 at g
  exact fy_tr (fy_rf (X := X)) (gfl_309 n _ _ _ _ _ _ _ g)
theorem gf_308 {p1 : Int32} {X : fx_X} {v : Int32} {X' : fx_X} (g : gx_308 p1 X v X') : fy [] [] [] X X' := by
  unfold gx_308 at g
  rcases fy_if g with g | g
  · skip
    obtain ⟨w5, X4, rX4, g⟩ := g
    have fX4 : fy [] [] [] X X4 := fy_z (fy_rf (X := X)) (gf_309 rX4)
    rw [g.2]; exact fX4
  · skip
    rcases fy_if g with g | g
    · skip
      replace g := g.2
      rw [g.2]; exact (fy_rf (X := X))
    · skip
      rcases fy_if g with g | g
      · skip
        replace g := g.2
        rw [g.2]; exact (fy_rf (X := X))
      · skip
        rcases fy_if g with g | g
        · skip
          replace g := g.2
          rw [g.2]; exact (fy_rf (X := X))
        · skip
          rcases fy_if g with g | g
          · skip
            replace g := g.2
            rw [g.2]; exact (fy_rf (X := X))
          · skip
            rcases fy_if g with g | g
            · skip
              replace g := g.2
              rw [g.2]; exact (fy_rf (X := X))
            · skip
              rcases fy_if g with g | g
              · skip
                rw [g.2]; exact (fy_rf (X := X))
              · skip
                rw [g.2]; exact (fy_rf (X := X))
