/-! A KEPT FAULT STAYS; BOOLEANS ARE 0 OR 1 (printed by wip/p7/gen_gb.py) -/
section GBB
variable {P : md_P} {X X' : fx_X} {v p1 p2 p : Int32} {u : Unit} {r k : Nat}
theorem rx_B_w (h : rx_B P X) (hk : r ≠ 117 ∨ (k ≠ 24 ∧ k ≠ 32)) : rx_B P (fx_wI X r k p) := by
  refine ⟨h.1, ?_, ?_⟩
  · rw [fx_rI, if_neg (by omega)]; exact h.2.1
  · rw [fx_rI, if_neg (by omega)]; exact h.2.2
theorem rx_B_215 (h : rx_B P X) (hp : p1.toInt ≠ 0) (g : gx_215 p1 p2 X v X') : rx_B P X' := by
  obtain ⟨X2, rfl, X3, rfl, X4, rfl, rfl, rfl⟩ := g
  exact ⟨h.1, by rw [fx_rIk (by decide), fx_rIk (by decide), fx_rIe]; exact hp, by rw [fx_rIk (by decide), fx_rIk (by decide), fx_rIk (by decide)]; exact h.2.2⟩
theorem rx_B_218 (h : rx_B P X) (hp : p1.toInt ≠ 0) (g : gx_218 p1 p2 X u X') : rx_B P X' := ⟨h.1, rx_218 h.2.2 hp g⟩
end GBB
theorem gb_214 {P : md_P} {X : fx_X} {v : Int32} {X' : fx_X} (h : rx_B P X) (g : gx_214 X v X') : rx_B P X' := by
  unfold gx_214 at g
  rcases fy_if g with g | g
  · skip
    obtain ⟨w7, X6, rX6, g⟩ := g
    have hX6 : rx_B P X6 := rx_B_215 h (by decide) rX6
    rw [g.2]; exact hX6
  · skip
    obtain ⟨X3, eX3, g⟩ := g
    have hX3 : rx_B P X3 := by rw [eX3]; exact rx_B_w h (Or.inr (by decide))
    obtain ⟨w5, X4, rX4, g⟩ := g
    have hX4 : rx_B P X4 := rx_B_fr hX3 (gf_206 rX4) (by decide) (by decide)
    rw [g.2]; exact hX4
theorem gb_216 {P : md_P} {X : fx_X} {v : Int32} {X' : fx_X} (h : rx_B P X) (g : gx_216 X v X') : rx_B P X' := by
  unfold gx_216 at g
  rcases fy_if g with g | g
  · skip
    obtain ⟨w4, X3, rX3, g⟩ := g
    have hX3 : rx_B P X3 := rx_B_fr h (gf_210 rX3) (by decide) (by decide)
    obtain ⟨X5, eX5, g⟩ := g
    have hX5 : rx_B P X5 := by rw [eX5]; exact hX3
    obtain ⟨X6, eX6, g⟩ := g
    have hX6 : rx_B P X6 := by rw [eX6]; exact rx_B_w hX5 (Or.inr (by decide))
    obtain ⟨w8, X7, rX7, g⟩ := g
    have hX7 : rx_B P X7 := gb_214 hX6 rX7
    rw [g.2]; exact hX7
  · skip
    obtain ⟨w10, X9, rX9, g⟩ := g
    have hX9 : rx_B P X9 := rx_B_215 h (by decide) rX9
    rw [g.2]; exact hX9
theorem gb_230 {P : md_P} {p1 : Int32} {X : fx_X} {v : Int32} {X' : fx_X} (h : rx_B P X) (g : gx_230 p1 X v X') : rx_B P X' := by
  unfold gx_230 at g
  obtain ⟨w3, X2, rX2, g⟩ := g
  have hX2 : rx_B P X2 := gb_214 h rX2
  rcases fy_if g with g | g
  · skip
    rw [g.2]; exact hX2
  · skip
    rcases fy_if g with g | g
    · skip
      replace g := g.2
      rcases fy_if g with g | g
      · skip
        obtain ⟨w78, X77, rX77, g⟩ := g
        have hX77 : rx_B P X77 := rx_B_215 hX2 (by decide) rX77
        rw [g.2]; exact hX77
      · skip
        obtain ⟨w44, X43, rX43, g⟩ := g
        have hX43 : rx_B P X43 := gb_216 hX2 rX43
        rcases fy_if g with g | g
        · skip
          rw [g.2]; exact hX43
        · skip
          obtain ⟨w47, X46, rX46, g⟩ := g
          have hX46 : rx_B P X46 := rx_B_fr hX43 (gf_231 rX46) (by decide) (by decide)
          rcases fy_if g with g | g
          · skip
            replace g := g.2
            replace g := g.2
            obtain ⟨X53, eX53, g⟩ := g
            have hX53 : rx_B P X53 := by rw [eX53]; exact hX46
            replace g := g.2
            rcases fy_if g with g | g
            · skip
              replace g := g.2
              obtain ⟨X61, eX61, g⟩ := g
              have hX61 : rx_B P X61 := by rw [eX61]; exact rx_B_w hX53 (Or.inl (by decide))
              rw [g.2]; exact hX61
            · skip
              replace g := g.2
              obtain ⟨X59, eX59, g⟩ := g
              have hX59 : rx_B P X59 := by rw [eX59]; exact rx_B_w hX53 (Or.inl (by decide))
              rw [g.2]; exact hX59
          · skip
            obtain ⟨w63, X62, rX62, g⟩ := g
            have hX62 : rx_B P X62 := rx_B_218 hX46 (by decide) rX62
            replace g := g.2
            replace g := g.2
            obtain ⟨X68, eX68, g⟩ := g
            have hX68 : rx_B P X68 := by rw [eX68]; exact hX62
            replace g := g.2
            rcases fy_if g with g | g
            · skip
              replace g := g.2
              obtain ⟨X76, eX76, g⟩ := g
              have hX76 : rx_B P X76 := by rw [eX76]; exact rx_B_w hX68 (Or.inl (by decide))
              rw [g.2]; exact hX76
            · skip
              replace g := g.2
              obtain ⟨X74, eX74, g⟩ := g
              have hX74 : rx_B P X74 := by rw [eX74]; exact rx_B_w hX68 (Or.inl (by decide))
              rw [g.2]; exact hX74
    · skip
      obtain ⟨w7, X6, rX6, g⟩ := g
      have hX6 : rx_B P X6 := gb_216 hX2 rX6
      rcases fy_if g with g | g
      · skip
        rw [g.2]; exact hX6
      · skip
        obtain ⟨w10, X9, rX9, g⟩ := g
        have hX9 : rx_B P X9 := rx_B_fr hX6 (gf_231 rX9) (by decide) (by decide)
        rcases fy_if g with g | g
        · skip
          replace g := g.2
          replace g := g.2
          obtain ⟨X16, eX16, g⟩ := g
          have hX16 : rx_B P X16 := by rw [eX16]; exact hX9
          replace g := g.2
          rcases fy_if g with g | g
          · skip
            replace g := g.2
            obtain ⟨X24, eX24, g⟩ := g
            have hX24 : rx_B P X24 := by rw [eX24]; exact rx_B_w hX16 (Or.inl (by decide))
            rw [g.2]; exact hX24
          · skip
            replace g := g.2
            obtain ⟨X22, eX22, g⟩ := g
            have hX22 : rx_B P X22 := by rw [eX22]; exact rx_B_w hX16 (Or.inl (by decide))
            rw [g.2]; exact hX22
        · skip
          obtain ⟨w26, X25, rX25, g⟩ := g
          have hX25 : rx_B P X25 := rx_B_218 hX9 (by decide) rX25
          replace g := g.2
          replace g := g.2
          obtain ⟨X31, eX31, g⟩ := g
          have hX31 : rx_B P X31 := by rw [eX31]; exact hX25
          replace g := g.2
          rcases fy_if g with g | g
          · skip
            replace g := g.2
            obtain ⟨X39, eX39, g⟩ := g
            have hX39 : rx_B P X39 := by rw [eX39]; exact rx_B_w hX31 (Or.inl (by decide))
            rw [g.2]; exact hX39
          · skip
            replace g := g.2
            obtain ⟨X37, eX37, g⟩ := g
            have hX37 : rx_B P X37 := by rw [eX37]; exact rx_B_w hX31 (Or.inl (by decide))
            rw [g.2]; exact hX37
theorem gb_219 {P : md_P} {p1 : Int32} {X : fx_X} {v : Int32} {X' : fx_X} (h : rx_B P X) (g : gx_219 p1 X v X') : rx_B P X' := by
  unfold gx_219 at g
  obtain ⟨w3, X2, rX2, g⟩ := g
  have hX2 : rx_B P X2 := rx_B_fr h (gf_220 rX2) (by decide) (by decide)
  rcases fy_if g with g | g
  · skip
    obtain ⟨w6, X5, rX5, g⟩ := g
    have hX5 : rx_B P X5 := rx_B_215 hX2 (by decide) rX5
    rw [g.2]; exact hX5
  · skip
    obtain ⟨w8, X7, rX7, g⟩ := g
    have hX7 : rx_B P X7 := gb_214 hX2 rX7
    rw [g.2]; exact hX7
theorem gb_250 {P : md_P} {p1 : Int32} {X : fx_X} {v : Int32} {X' : fx_X} (h : rx_B P X) (g : gx_250 p1 X v X') : rx_B P X' := by
  unfold gx_250 at g
  obtain ⟨w3, X2, rX2, g⟩ := g
  have hX2 : rx_B P X2 := gb_216 h rX2
  rcases fy_if g with g | g
  · skip
    rw [g.2]; exact hX2
  · skip
    obtain ⟨w6, X5, rX5, g⟩ := g
    have hX5 : rx_B P X5 := rx_B_fr hX2 (gf_231 rX5) (by decide) (by decide)
    rcases fy_if g with g | g
    · skip
      obtain ⟨w12, X11, rX11, g⟩ := g
      have hX11 : rx_B P X11 := rx_B_218 hX5 (by decide) rX11
      replace g := g.2
      obtain ⟨X15, eX15, g⟩ := g
      have hX15 : rx_B P X15 := by rw [eX15]; exact rx_B_w hX11 (Or.inl (by decide))
      replace g := g.2
      obtain ⟨X18, eX18, g⟩ := g
      have hX18 : rx_B P X18 := by rw [eX18]; exact rx_B_w hX15 (Or.inl (by decide))
      rw [g.2]; exact hX18
    · skip
      obtain ⟨w10, X9, rX9, g⟩ := g
      have hX9 : rx_B P X9 := rx_B_fr hX5 (gf_251 rX9) (by decide) (by decide)
      rw [g.2]; exact hX9
theorem gb_264 {P : md_P} {X : fx_X} {v : Int32} {X' : fx_X} (h : rx_B P X) (g : gx_264 X v X') : rx_B P X' := by
  unfold gx_264 at g
  rcases fy_if g with g | g
  · skip
    obtain ⟨w7, X6, rX6, g⟩ := g
    have hX6 : rx_B P X6 := rx_B_215 h (by decide) rX6
    rw [g.2]; exact hX6
  · skip
    obtain ⟨X3, eX3, g⟩ := g
    have hX3 : rx_B P X3 := by rw [eX3]; exact rx_B_w h (Or.inr (by decide))
    obtain ⟨w5, X4, rX4, g⟩ := g
    have hX4 : rx_B P X4 := gb_214 hX3 rX4
    rw [g.2]; exact hX4
theorem gb_256 {P : md_P} {p1 : Int32} {X : fx_X} {v : Int32} {X' : fx_X} (h : rx_B P X) (g : gx_256 p1 X v X') : rx_B P X' := by
  unfold gx_256 at g
  replace g := g.2
  rcases fy_if g with g | g
  · skip
    rw [g.2]; exact h
  · skip
    obtain ⟨w6, X5, rX5, g⟩ := g
    have hX5 : rx_B P X5 := rx_B_fr h (gf_233 rX5) (by decide) (by decide)
    rcases fy_if g with g | g
    · skip
      obtain ⟨w10, X9, rX9, g⟩ := g
      have hX9 : rx_B P X9 := rx_B_218 hX5 (by decide) rX9
      rw [g.2]; exact hX9
    · skip
      rw [g.2]; exact hX5
theorem gbl_261 {P : md_P} (p1 : Int32) (p2 : Int32) : ∀ (n l : Nat) (is : List Int32) (ls : List Int64) (rs : List Nat) (X : fx_X) (v : Int32) (X' : fx_X), rx_B P X → gxF_261 p1 p2 n l is ls rs X v X' → rx_B P X' := by
  intro n
  induction n with
  | zero => intro l is ls rs X v X' h g; exact g.elim
  | succ n ih =>
    intro l is ls rs X v X' h g
    rcases g with ⟨-, y3, y4, -, -, -, g⟩ | ⟨-, y3, y5, y6, -, -, -, g⟩
    · unfold gxT_261_51 at g
      rcases fy_if g with g | g
      · skip
        rcases fy_if g with g | g
        · skip
          obtain ⟨w31, X30, rX30, g⟩ := g
          have hX30 : rx_B P X30 := gb_219 h rX30
          rw [g.2]; exact hX30
        · skip
          replace g := g.2
          obtain ⟨X34, eX34, g⟩ := g
          have hX34 : rx_B P X34 := by rw [eX34]; exact rx_B_w h (Or.inl (by decide))
          obtain ⟨w36, X35, rX35, g⟩ := g
          have hX35 : rx_B P X35 := gb_219 hX34 rX35
          rw [g.2]; exact hX35
      · skip
        obtain ⟨w38, X37, rX37, g⟩ := g
        have hX37 : rx_B P X37 := gb_216 h rX37
        rcases fy_if g with g | g
        · skip
          rw [g.2]; exact hX37
        · skip
          obtain ⟨w41, X40, rX40, g⟩ := g
          have hX40 : rx_B P X40 := gb_256 hX37 rX40
          exact ih _ _ _ _ _ _ _ hX40 g
    · unfold gxT_261_75 at g
      rcases fy_if g with g | g
      · skip
        rcases fy_if g with g | g
        · skip
          obtain ⟨x79, -, g⟩ := g
          exact ih _ _ _ _ _ _ _ h g
        · skip
          replace g := g.2
          rcases fy_if g with g | g
          · skip
            obtain ⟨w87, X86, rX86, g⟩ := g
            have hX86 : rx_B P X86 := rx_B_218 h (by decide) rX86
            obtain ⟨x89, -, g⟩ := g
            exact ih _ _ _ _ _ _ _ hX86 g
          · skip
            obtain ⟨x84, -, g⟩ := g
            exact ih _ _ _ _ _ _ _ h g
      · skip
        rcases fy_if g with g | g
        · skip
          rcases fy_if g with g | g
          · skip
            obtain ⟨w72, X71, rX71, g⟩ := g
            have hX71 : rx_B P X71 := rx_B_fr h (gf_220 rX71) (by decide) (by decide)
            rcases fy_if g with g | g
            · skip
              exact ih _ _ _ _ _ _ _ hX71 g
            · skip
              obtain ⟨w76, X75, rX75, g⟩ := g
              have hX75 : rx_B P X75 := gb_214 hX71 rX75
              rcases fy_if g with g | g
              · skip
                rw [g.2]; exact hX75
              · skip
                exact ih _ _ _ _ _ _ _ hX75 g
          · skip
            replace g := g.2
            obtain ⟨X60, eX60, g⟩ := g
            have hX60 : rx_B P X60 := by rw [eX60]; exact rx_B_w h (Or.inl (by decide))
            obtain ⟨X61, eX61, g⟩ := g
            have hX61 : rx_B P X61 := by rw [eX61]; exact rx_B_w hX60 (Or.inr (by decide))
            obtain ⟨w63, X62, rX62, g⟩ := g
            have hX62 : rx_B P X62 := rx_B_fr hX61 (gf_220 rX62) (by decide) (by decide)
            rcases fy_if g with g | g
            · skip
              exact ih _ _ _ _ _ _ _ hX62 g
            · skip
              obtain ⟨w67, X66, rX66, g⟩ := g
              have hX66 : rx_B P X66 := gb_214 hX62 rX66
              rcases fy_if g with g | g
              · skip
                rw [g.2]; exact hX66
              · skip
                exact ih _ _ _ _ _ _ _ hX66 g
        · skip
          obtain ⟨w49, X48, rX48, g⟩ := g
          have hX48 : rx_B P X48 := rx_B_fr h (gf_220 rX48) (by decide) (by decide)
          rcases fy_if g with g | g
          · skip
            exact ih _ _ _ _ _ _ _ hX48 g
          · skip
            obtain ⟨w53, X52, rX52, g⟩ := g
            have hX52 : rx_B P X52 := gb_214 hX48 rX52
            rcases fy_if g with g | g
            · skip
              rw [g.2]; exact hX52
            · skip
              exact ih _ _ _ _ _ _ _ hX52 g
theorem gb_261 {P : md_P} {p1 : Int32} {p2 : Int32} {X : fx_X} {v : Int32} {X' : fx_X} (h : rx_B P X) (g : gx_261 p1 p2 X v X') : rx_B P X' := by
  obtain ⟨n, g⟩ := g
  unfold gxE_261 at g
  obtain ⟨X2, eX2, g⟩ := g
  have hX2 : rx_B P X2 := by rw [eX2]; exact rx_B_w h (Or.inr (by decide))
  replace g := g.2
  rcases fy_if g with g | g
  · skip
    obtain ⟨w19, X18, rX18, g⟩ := g
    have hX18 : rx_B P X18 := gb_219 hX2 rX18
    rcases fy_if g with g | g
    · skip
      rw [g.2]; exact hX18
    · skip
      rcases fy_if g with g | g
      · skip
        exact gbl_261 _ _ n _ _ _ _ _ _ _ hX18 g
      · skip
        obtain ⟨w24, X23, rX23, g⟩ := g
        have hX23 : rx_B P X23 := rx_B_fr hX18 (gf_220 rX23) (by decide) (by decide)
        rcases fy_if g with g | g
        · skip
          exact gbl_261 _ _ n _ _ _ _ _ _ _ hX23 g
        · skip
          exact gbl_261 _ _ n _ _ _ _ _ _ _ hX23 g
  · skip
    obtain ⟨w8, X7, rX7, g⟩ := g
    have hX7 : rx_B P X7 := gb_219 hX2 rX7
    rcases fy_if g with g | g
    · skip
      rw [g.2]; exact hX7
    · skip
      rcases fy_if g with g | g
      · skip
        exact gbl_261 _ _ n _ _ _ _ _ _ _ hX7 g
      · skip
        obtain ⟨w13, X12, rX12, g⟩ := g
        have hX12 : rx_B P X12 := rx_B_fr hX7 (gf_220 rX12) (by decide) (by decide)
        rcases fy_if g with g | g
        · skip
          exact gbl_261 _ _ n _ _ _ _ _ _ _ hX12 g
        · skip
          exact gbl_261 _ _ n _ _ _ _ _ _ _ hX12 g
theorem gbl_265 {P : md_P} (p1 : Int32) (p2 : Int32) (p3 : Int32) (p4 : Int32) : ∀ (n l : Nat) (is : List Int32) (ls : List Int64) (rs : List Nat) (X : fx_X) (v : Int32) (X' : fx_X), rx_B P X → gxF_265 p1 p2 p3 p4 n l is ls rs X v X' → rx_B P X' := by
  intro n
  induction n with
  | zero => intro l is ls rs X v X' h g; exact g.elim
  | succ n ih =>
    intro l is ls rs X v X' h g
    rcases g with ⟨-, y5, y6, -, -, -, g⟩ | ⟨-, y5, y6, -, -, -, g⟩ | ⟨-, y5, y6, y7, -, -, -, g⟩
    · unfold gxT_265_28 at g
      rcases fy_if g with g | g
      · skip
        replace g := g.2
        replace g := g.2
        replace g := g.2
        obtain ⟨X22, eX22, g⟩ := g
        have hX22 : rx_B P X22 := by rw [eX22]; exact h
        obtain ⟨x23, -, g⟩ := g
        exact ih _ _ _ _ _ _ _ hX22 g
      · skip
        replace g := g.2
        obtain ⟨X14, eX14, g⟩ := g
        have hX14 : rx_B P X14 := by rw [eX14]; exact h
        exact ih _ _ _ _ _ _ _ hX14 g
    · unfold gxT_265_91 at g
      rcases fy_if g with g | g
      · skip
        obtain ⟨w27, X26, rX26, g⟩ := g
        have hX26 : rx_B P X26 := rx_B_fr h (gf_251 rX26) (by decide) (by decide)
        rw [g.2]; exact hX26
      · skip
        replace g := g.2
        rcases fy_if g with g | g
        · skip
          obtain ⟨w34, X33, rX33, g⟩ := g
          have hX33 : rx_B P X33 := rx_B_fr h (gf_266 rX33) (by decide) (by decide)
          exact ih _ _ _ _ _ _ _ hX33 g
        · skip
          obtain ⟨w32, X31, rX31, g⟩ := g
          have hX31 : rx_B P X31 := rx_B_fr h (gf_251 rX31) (by decide) (by decide)
          rw [g.2]; exact hX31
    · unfold gxT_265_122 at g
      rcases fy_if g with g | g
      · skip
        obtain ⟨w40, X39, rX39, g⟩ := g
        have hX39 : rx_B P X39 := rx_B_fr h (gf_268 rX39) (by decide) (by decide)
        rcases fy_if g with g | g
        · skip
          obtain ⟨x42, -, g⟩ := g
          exact ih _ _ _ _ _ _ _ hX39 g
        · skip
          obtain ⟨w45, X44, rX44, g⟩ := g
          have hX44 : rx_B P X44 := rx_B_fr hX39 (gf_270 rX44) (by decide) (by decide)
          obtain ⟨w47, X46, rX46, g⟩ := g
          have hX46 : rx_B P X46 := rx_B_fr hX44 (gf_271 rX46) (by decide) (by decide)
          rcases fy_if g with g | g
          · skip
            obtain ⟨w52, X51, rX51, g⟩ := g
            have hX51 : rx_B P X51 := rx_B_215 hX46 (by decide) rX51
            rw [g.2]; exact hX51
          · skip
            obtain ⟨x49, -, g⟩ := g
            exact ih _ _ _ _ _ _ _ hX46 g
      · skip
        obtain ⟨x37, -, g⟩ := g
        exact ih _ _ _ _ _ _ _ h g
theorem gb_265 {P : md_P} {p1 : Int32} {p2 : Int32} {p3 : Int32} {p4 : Int32} {X : fx_X} {v : Int32} {X' : fx_X} (h : rx_B P X) (g : gx_265 p1 p2 p3 p4 X v X') : rx_B P X' := by
  obtain ⟨n, g⟩ := g
  unfold gxE_265 at g
  obtain ⟨x2, -, g⟩ := g
  obtain ⟨X6, eX6, g⟩ := g
  have hX6 : rx_B P X6 := by rw [eX6]; exact rx_B_w h (Or.inl (by decide))
  obtain ⟨X9, eX9, g⟩ := g
  have hX9 : rx_B P X9 := by rw [eX9]; exact rx_B_w hX6 (Or.inl (by decide))
  exact gbl_265 _ _ _ _ n _ _ _ _ _ _ _ hX9 g
theorem gbl_263 {P : md_P} (p1 : Int32) : ∀ (n l : Nat) (is : List Int32) (ls : List Int64) (rs : List Nat) (X : fx_X) (v : Int32) (X' : fx_X), rx_B P X → gxF_263 p1 n l is ls rs X v X' → rx_B P X' := by
  intro n
  induction n with
  | zero => intro l is ls rs X v X' h g; exact g.elim
  | succ n ih =>
    intro l is ls rs X v X' h g
    rcases g with ⟨-, y2, -, -, -, g⟩ | ⟨-, y2, y3, y4, y5, y6, -, -, -, g⟩ | ⟨-, y2, y3, y4, y5, y6, y7, -, -, -, g⟩
    · unfold gxT_263_47 at g
      obtain ⟨w40, X39, rX39, g⟩ := g
      have hX39 : rx_B P X39 := rx_B_215 h (by decide) rX39
      rw [g.2]; exact hX39
    · unfold gxT_263_123 at g
      rcases fy_if g with g | g
      · skip
        obtain ⟨w47, X46, rX46, g⟩ := g
        have hX46 : rx_B P X46 := gb_216 h rX46
        rcases fy_if g with g | g
        · skip
          rw [g.2]; exact hX46
        · skip
          rcases fy_if g with g | g
          · skip
            obtain ⟨w51, X50, rX50, g⟩ := g
            have hX50 : rx_B P X50 := gb_256 hX46 rX50
            rcases fy_if g with g | g
            · skip
              rcases fy_if g with g | g
              · skip
                obtain ⟨w67, X66, rX66, g⟩ := g
                have hX66 : rx_B P X66 := gb_216 hX50 rX66
                rcases fy_if g with g | g
                · skip
                  rw [g.2]; exact hX66
                · skip
                  exact ih _ _ _ _ _ _ _ hX66 g
              · skip
                obtain ⟨w62, X61, rX61, g⟩ := g
                have hX61 : rx_B P X61 := gb_216 hX50 rX61
                rcases fy_if g with g | g
                · skip
                  rw [g.2]; exact hX61
                · skip
                  exact ih _ _ _ _ _ _ _ hX61 g
            · skip
              obtain ⟨w56, X55, rX55, g⟩ := g
              have hX55 : rx_B P X55 := gb_216 hX50 rX55
              rcases fy_if g with g | g
              · skip
                rw [g.2]; exact hX55
              · skip
                exact ih _ _ _ _ _ _ _ hX55 g
          · skip
            rcases fy_if g with g | g
            · skip
              obtain ⟨w80, X79, rX79, g⟩ := g
              have hX79 : rx_B P X79 := gb_216 hX46 rX79
              rcases fy_if g with g | g
              · skip
                rw [g.2]; exact hX79
              · skip
                exact ih _ _ _ _ _ _ _ hX79 g
            · skip
              obtain ⟨w74, X73, rX73, g⟩ := g
              have hX73 : rx_B P X73 := gb_216 hX46 rX73
              rcases fy_if g with g | g
              · skip
                rw [g.2]; exact hX73
              · skip
                exact ih _ _ _ _ _ _ _ hX73 g
      · skip
        obtain ⟨w43, X42, rX42, g⟩ := g
        have hX42 : rx_B P X42 := gb_216 h rX42
        rcases fy_if g with g | g
        · skip
          rw [g.2]; exact hX42
        · skip
          exact ih _ _ _ _ _ _ _ hX42 g
    · unfold gxT_263_183 at g
      rcases fy_if g with g | g
      · skip
        rcases fy_if g with g | g
        · skip
          replace g := g.2
          replace g := g.2
          rcases fy_if g with g | g
          · skip
            obtain ⟨w113, X112, rX112, g⟩ := g
            have hX112 : rx_B P X112 := rx_B_218 h (by decide) rX112
            obtain ⟨x115, -, g⟩ := g
            exact ih _ _ _ _ _ _ _ hX112 g
          · skip
            obtain ⟨x110, -, g⟩ := g
            exact ih _ _ _ _ _ _ _ h g
        · skip
          rcases fy_if g with g | g
          · skip
            rcases fy_if g with g | g
            · skip
              obtain ⟨w101, X100, rX100, g⟩ := g
              have hX100 : rx_B P X100 := gb_265 h rX100
              rw [g.2]; exact hX100
            · skip
              replace g := g.2
              obtain ⟨X104, eX104, g⟩ := g
              have hX104 : rx_B P X104 := by rw [eX104]; exact rx_B_w h (Or.inl (by decide))
              rw [g.2]; exact hX104
          · skip
            replace g := g.2
            obtain ⟨X98, eX98, g⟩ := g
            have hX98 : rx_B P X98 := by rw [eX98]; exact rx_B_w h (Or.inl (by decide))
            rw [g.2]; exact hX98
      · skip
        rcases fy_if g with g | g
        · skip
          rcases fy_if g with g | g
          · skip
            obtain ⟨w90, X89, rX89, g⟩ := g
            have hX89 : rx_B P X89 := gb_265 h rX89
            rw [g.2]; exact hX89
          · skip
            replace g := g.2
            obtain ⟨X93, eX93, g⟩ := g
            have hX93 : rx_B P X93 := by rw [eX93]; exact rx_B_w h (Or.inl (by decide))
            rw [g.2]; exact hX93
        · skip
          replace g := g.2
          obtain ⟨X87, eX87, g⟩ := g
          have hX87 : rx_B P X87 := by rw [eX87]; exact rx_B_w h (Or.inl (by decide))
          rw [g.2]; exact hX87
theorem gb_263 {P : md_P} {p1 : Int32} {X : fx_X} {v : Int32} {X' : fx_X} (h : rx_B P X) (g : gx_263 p1 X v X') : rx_B P X' := by
  obtain ⟨n, g⟩ := g
  unfold gxE_263 at g
  obtain ⟨x2, -, g⟩ := g
  obtain ⟨w5, X4, rX4, g⟩ := g
  have hX4 : rx_B P X4 := gb_264 h rX4
  rcases fy_if g with g | g
  · skip
    rw [g.2]; exact hX4
  · skip
    obtain ⟨w8, X7, rX7, g⟩ := g
    have hX7 : rx_B P X7 := gb_261 hX4 rX7
    rcases fy_if g with g | g
    · skip
      rw [g.2]; exact hX7
    · skip
      rcases fy_if g with g | g
      · skip
        rcases fy_if g with g | g
        · skip
          exact gbl_263 _ n _ _ _ _ _ _ _ hX7 g
        · skip
          obtain ⟨x12, -, g⟩ := g
          rcases fy_if g with g | g
          · skip
            obtain ⟨w36, X35, rX35, g⟩ := g
            have hX35 : rx_B P X35 := rx_B_215 hX7 (by decide) rX35
            rw [g.2]; exact hX35
          · skip
            obtain ⟨w16, X15, rX15, g⟩ := g
            have hX15 : rx_B P X15 := gb_214 hX7 rX15
            rcases fy_if g with g | g
            · skip
              rw [g.2]; exact hX15
            · skip
              replace g := g.2
              rcases fy_if g with g | g
              · skip
                exact gbl_263 _ n _ _ _ _ _ _ _ hX15 g
              · skip
                rcases fy_if g with g | g
                · skip
                  obtain ⟨w30, X29, rX29, g⟩ := g
                  have hX29 : rx_B P X29 := rx_B_218 hX15 (by decide) rX29
                  exact gbl_263 _ n _ _ _ _ _ _ _ hX29 g
                · skip
                  exact gbl_263 _ n _ _ _ _ _ _ _ hX15 g
      · skip
        exact gbl_263 _ n _ _ _ _ _ _ _ hX7 g
theorem gbl_262 {P : md_P} (p1 : Int32) : ∀ (n l : Nat) (is : List Int32) (ls : List Int64) (rs : List Nat) (X : fx_X) (v : Int32) (X' : fx_X), rx_B P X → gxF_262 p1 n l is ls rs X v X' → rx_B P X' := by
  intro n
  induction n with
  | zero => intro l is ls rs X v X' h g; exact g.elim
  | succ n ih =>
    intro l is ls rs X v X' h g
    rcases g with ⟨-, y2, y4, -, -, -, g⟩
    · unfold gxT_262_63 at g
      obtain ⟨w24, X23, rX23, g⟩ := g
      have hX23 : rx_B P X23 := gb_219 h rX23
      rcases fy_if g with g | g
      · skip
        rw [g.2]; exact hX23
      · skip
        obtain ⟨w27, X26, rX26, g⟩ := g
        have hX26 : rx_B P X26 := gb_216 hX23 rX26
        rcases fy_if g with g | g
        · skip
          rw [g.2]; exact hX26
        · skip
          rcases fy_if g with g | g
          · skip
            obtain ⟨w31, X30, rX30, g⟩ := g
            have hX30 : rx_B P X30 := gb_256 hX26 rX30
            rcases fy_if g with g | g
            · skip
              replace g := g.2
              obtain ⟨X41, eX41, g⟩ := g
              have hX41 : rx_B P X41 := by rw [eX41]; exact rx_B_w hX30 (Or.inl (by decide))
              obtain ⟨w43, X42, rX42, g⟩ := g
              have hX42 : rx_B P X42 := gb_219 hX41 rX42
              rw [g.2]; exact hX42
            · skip
              replace g := g.2
              obtain ⟨X36, eX36, g⟩ := g
              have hX36 : rx_B P X36 := by rw [eX36]; exact hX30
              obtain ⟨w38, X37, rX37, g⟩ := g
              have hX37 : rx_B P X37 := gb_219 hX36 rX37
              rw [g.2]; exact hX37
          · skip
            replace g := g.2
            obtain ⟨X48, eX48, g⟩ := g
            have hX48 : rx_B P X48 := by rw [eX48]; exact rx_B_w hX26 (Or.inl (by decide))
            obtain ⟨w50, X49, rX49, g⟩ := g
            have hX49 : rx_B P X49 := gb_219 hX48 rX49
            rw [g.2]; exact hX49
theorem gb_262 {P : md_P} {p1 : Int32} {X : fx_X} {v : Int32} {X' : fx_X} (h : rx_B P X) (g : gx_262 p1 X v X') : rx_B P X' := by
  obtain ⟨n, g⟩ := g
  unfold gxE_262 at g
  obtain ⟨w3, X2, rX2, g⟩ := g
  have hX2 : rx_B P X2 := gb_214 h rX2
  rcases fy_if g with g | g
  · skip
    rw [g.2]; exact hX2
  · skip
    obtain ⟨w6, X5, rX5, g⟩ := g
    have hX5 : rx_B P X5 := gb_216 hX2 rX5
    rcases fy_if g with g | g
    · skip
      rw [g.2]; exact hX5
    · skip
      obtain ⟨x8, -, g⟩ := g
      replace g := g.2
      rcases fy_if g with g | g
      · skip
        exact gbl_262 _ n _ _ _ _ _ _ _ hX5 g
      · skip
        obtain ⟨w16, X15, rX15, g⟩ := g
        have hX15 : rx_B P X15 := rx_B_fr hX5 (gf_233 rX15) (by decide) (by decide)
        rcases fy_if g with g | g
        · skip
          exact gbl_262 _ n _ _ _ _ _ _ _ hX15 g
        · skip
          obtain ⟨w19, X18, rX18, g⟩ := g
          have hX18 : rx_B P X18 := rx_B_218 hX15 (by decide) rX18
          exact gbl_262 _ n _ _ _ _ _ _ _ hX18 g
theorem gbl_260 {P : md_P} (p1 : Int32) : ∀ (n l : Nat) (is : List Int32) (ls : List Int64) (rs : List Nat) (X : fx_X) (v : Int32) (X' : fx_X), rx_B P X → gxF_260 p1 n l is ls rs X v X' → rx_B P X' := by
  intro n
  induction n with
  | zero => intro l is ls rs X v X' h g; exact g.elim
  | succ n ih =>
    intro l is ls rs X v X' h g
    rcases g with ⟨-, y2, -, -, -, g⟩ | ⟨-, y2, y3, -, -, -, g⟩
    · unfold gxT_260_36 at g
      rcases fy_if g with g | g
      · skip
        replace g := g.2
        replace g := g.2
        replace g := g.2
        obtain ⟨X24, eX24, g⟩ := g
        have hX24 : rx_B P X24 := by rw [eX24]; exact h
        exact ih _ _ _ _ _ _ _ hX24 g
      · skip
        replace g := g.2
        obtain ⟨X17, eX17, g⟩ := g
        have hX17 : rx_B P X17 := by rw [eX17]; exact rx_B_w h (Or.inl (by decide))
        rw [g.2]; exact hX17
    · unfold gxT_260_72 at g
      rcases fy_if g with g | g
      · skip
        obtain ⟨x27, -, g⟩ := g
        exact ih _ _ _ _ _ _ _ h g
      · skip
        replace g := g.2
        rcases fy_if g with g | g
        · skip
          obtain ⟨w36, X35, rX35, g⟩ := g
          have hX35 : rx_B P X35 := rx_B_fr h (gf_236 rX35) (by decide) (by decide)
          replace g := g.2
          obtain ⟨w41, X40, rX40, g⟩ := g
          have hX40 : rx_B P X40 := rx_B_fr hX35 (gf_236 rX40) (by decide) (by decide)
          replace g := g.2
          replace g := g.2
          obtain ⟨X44, eX44, g⟩ := g
          have hX44 : rx_B P X44 := by rw [eX44]; exact rx_B_w hX40 (Or.inl (by decide))
          obtain ⟨w47, X46, rX46, g⟩ := g
          have hX46 : rx_B P X46 := rx_B_fr hX44 (gf_236 rX46) (by decide) (by decide)
          replace g := g.2
          obtain ⟨w52, X51, rX51, g⟩ := g
          have hX51 : rx_B P X51 := rx_B_fr hX46 (gf_236 rX51) (by decide) (by decide)
          replace g := g.2
          replace g := g.2
          obtain ⟨X55, eX55, g⟩ := g
          have hX55 : rx_B P X55 := by rw [eX55]; exact rx_B_w hX51 (Or.inl (by decide))
          obtain ⟨x56, -, g⟩ := g
          exact ih _ _ _ _ _ _ _ hX55 g
        · skip
          obtain ⟨x32, -, g⟩ := g
          exact ih _ _ _ _ _ _ _ h g
theorem gb_260 {P : md_P} {p1 : Int32} {X : fx_X} {v : Int32} {X' : fx_X} (h : rx_B P X) (g : gx_260 p1 X v X') : rx_B P X' := by
  obtain ⟨n, g⟩ := g
  unfold gxE_260 at g
  obtain ⟨w3, X2, rX2, g⟩ := g
  have hX2 : rx_B P X2 := gb_214 h rX2
  rcases fy_if g with g | g
  · skip
    rw [g.2]; exact hX2
  · skip
    obtain ⟨w6, X5, rX5, g⟩ := g
    have hX5 : rx_B P X5 := gb_261 hX2 rX5
    rcases fy_if g with g | g
    · skip
      rw [g.2]; exact hX5
    · skip
      replace g := g.2
      rcases fy_if g with g | g
      · skip
        rw [g.2]; exact hX5
      · skip
        obtain ⟨w12, X11, rX11, g⟩ := g
        have hX11 : rx_B P X11 := rx_B_fr hX5 (gf_251 rX11) (by decide) (by decide)
        exact gbl_260 _ n _ _ _ _ _ _ _ hX11 g
theorem gbl_221 {P : md_P} : ∀ (n l : Nat) (is : List Int32) (ls : List Int64) (rs : List Nat) (X : fx_X) (v : Int32) (X' : fx_X), rx_B P X → gxF_221 n l is ls rs X v X' → rx_B P X' := by
  intro n
  induction n with
  | zero => intro l is ls rs X v X' h g; exact g.elim
  | succ n ih =>
    intro l is ls rs X v X' h g
    rcases g with ⟨-, y1, y2, y3, -, -, -, g⟩
    · unfold gxT_221_55 at g
      rcases fy_if g with g | g
      · skip
        replace g := g.2
        obtain ⟨x29, -, g⟩ := g
        obtain ⟨x31, -, g⟩ := g
        exact ih _ _ _ _ _ _ _ h g
      · skip
        obtain ⟨X24, eX24, g⟩ := g
        have hX24 : rx_B P X24 := by rw [eX24]; exact rx_B_w h (Or.inr (by decide))
        obtain ⟨w26, X25, rX25, g⟩ := g
        have hX25 : rx_B P X25 := gb_214 hX24 rX25
        rw [g.2]; exact hX25
theorem gb_221 {P : md_P} {X : fx_X} {v : Int32} {X' : fx_X} (h : rx_B P X) (g : gx_221 X v X') : rx_B P X' := by
  obtain ⟨n, g⟩ := g
  unfold gxE_221 at g
  obtain ⟨X2, eX2, g⟩ := g
  have hX2 : rx_B P X2 := by rw [eX2]; exact rx_B_w h (Or.inr (by decide))
  obtain ⟨w5, X4, rX4, g⟩ := g
  have hX4 : rx_B P X4 := rx_B_fr hX2 (gf_220 rX4) (by decide) (by decide)
  rcases fy_if g with g | g
  · skip
    rcases fy_if g with g | g
    · skip
      obtain ⟨x9, -, g⟩ := g
      exact gbl_221 n _ _ _ _ _ _ _ hX4 g
    · skip
      obtain ⟨w12, X11, rX11, g⟩ := g
      have hX11 : rx_B P X11 := rx_B_215 hX4 (by decide) rX11
      rw [g.2]; exact hX11
  · skip
    obtain ⟨w15, X14, rX14, g⟩ := g
    have hX14 : rx_B P X14 := gb_214 hX4 rX14
    rcases fy_if g with g | g
    · skip
      rw [g.2]; exact hX14
    · skip
      rcases fy_if g with g | g
      · skip
        obtain ⟨x19, -, g⟩ := g
        exact gbl_221 n _ _ _ _ _ _ _ hX14 g
      · skip
        obtain ⟨w22, X21, rX21, g⟩ := g
        have hX21 : rx_B P X21 := rx_B_215 hX14 (by decide) rX21
        rw [g.2]; exact hX21
theorem gb_235 {P : md_P} {X : fx_X} {v : Int32} {X' : fx_X} (h : rx_B P X) (g : gx_235 X v X') : rx_B P X' := by
  unfold gx_235 at g
  obtain ⟨w3, X2, rX2, g⟩ := g
  have hX2 : rx_B P X2 := rx_B_fr h (gf_220 rX2) (by decide) (by decide)
  rcases fy_if g with g | g
  · skip
    obtain ⟨X18, eX18, g⟩ := g
    have hX18 : rx_B P X18 := by rw [eX18]; exact rx_B_w hX2 (Or.inr (by decide))
    obtain ⟨w20, X19, rX19, g⟩ := g
    have hX19 : rx_B P X19 := gb_221 hX18 rX19
    rcases fy_if g with g | g
    · skip
      rw [g.2]; exact hX19
    · skip
      obtain ⟨X22, eX22, g⟩ := g
      have hX22 : rx_B P X22 := by rw [eX22]; exact rx_B_w hX19 (Or.inr (by decide))
      rw [g.2]; exact hX22
  · skip
    obtain ⟨w6, X5, rX5, g⟩ := g
    have hX5 : rx_B P X5 := gb_214 hX2 rX5
    rcases fy_if g with g | g
    · skip
      rw [g.2]; exact hX5
    · skip
      obtain ⟨w9, X8, rX8, g⟩ := g
      have hX8 : rx_B P X8 := gb_216 hX5 rX8
      rcases fy_if g with g | g
      · skip
        rw [g.2]; exact hX8
      · skip
        obtain ⟨X11, eX11, g⟩ := g
        have hX11 : rx_B P X11 := by rw [eX11]; exact rx_B_w hX8 (Or.inr (by decide))
        obtain ⟨w13, X12, rX12, g⟩ := g
        have hX12 : rx_B P X12 := rx_B_fr hX11 (gf_217 rX12) (by decide) (by decide)
        obtain ⟨X14, eX14, g⟩ := g
        have hX14 : rx_B P X14 := by rw [eX14]; exact rx_B_w hX12 (Or.inr (by decide))
        rcases fy_if g with g | g
        · skip
          obtain ⟨w17, X16, rX16, g⟩ := g
          have hX16 : rx_B P X16 := rx_B_218 hX14 (by decide) rX16
          rw [g.2]; exact hX16
        · skip
          rw [g.2]; exact hX14
theorem gb_255 {P : md_P} {p1 : Int32} {X : fx_X} {v : Int32} {X' : fx_X} (h : rx_B P X) (g : gx_255 p1 X v X') : rx_B P X' := by
  unfold gx_255 at g
  rcases fy_if g with g | g
  · skip
    obtain ⟨w49, X48, rX48, g⟩ := g
    have hX48 : rx_B P X48 := gb_216 h rX48
    rcases fy_if g with g | g
    · skip
      rw [g.2]; exact hX48
    · skip
      obtain ⟨X51, eX51, g⟩ := g
      have hX51 : rx_B P X51 := by rw [eX51]; exact rx_B_w hX48 (Or.inr (by decide))
      obtain ⟨w53, X52, rX52, g⟩ := g
      have hX52 : rx_B P X52 := gb_256 hX51 rX52
      obtain ⟨X54, eX54, g⟩ := g
      have hX54 : rx_B P X54 := by rw [eX54]; exact rx_B_w hX52 (Or.inr (by decide))
      rcases fy_if g with g | g
      · skip
        rcases fy_if g with g | g
        · skip
          obtain ⟨X59, eX59, g⟩ := g
          have hX59 : rx_B P X59 := by rw [eX59]; exact rx_B_w hX54 (Or.inr (by decide))
          rw [g.2]; exact hX59
        · skip
          obtain ⟨X58, eX58, g⟩ := g
          have hX58 : rx_B P X58 := by rw [eX58]; exact rx_B_w hX54 (Or.inr (by decide))
          rw [g.2]; exact hX58
      · skip
        obtain ⟨X56, eX56, g⟩ := g
        have hX56 : rx_B P X56 := by rw [eX56]; exact rx_B_w hX54 (Or.inr (by decide))
        rw [g.2]; exact hX56
  · skip
    rcases fy_if g with g | g
    · skip
      obtain ⟨w5, X4, rX4, g⟩ := g
      have hX4 : rx_B P X4 := gb_235 h rX4
      rcases fy_if g with g | g
      · skip
        rw [g.2]; exact hX4
      · skip
        obtain ⟨X7, eX7, g⟩ := g
        have hX7 : rx_B P X7 := by rw [eX7]; exact rx_B_w hX4 (Or.inr (by decide))
        obtain ⟨X8, eX8, g⟩ := g
        have hX8 : rx_B P X8 := by rw [eX8]; exact rx_B_w hX7 (Or.inr (by decide))
        rcases fy_if g with g | g
        · skip
          rcases fy_if g with g | g
          · skip
            rcases fy_if g with g | g
            · skip
              obtain ⟨X15, eX15, g⟩ := g
              have hX15 : rx_B P X15 := by rw [eX15]; exact rx_B_w hX8 (Or.inr (by decide))
              rw [g.2]; exact hX15
            · skip
              obtain ⟨X14, eX14, g⟩ := g
              have hX14 : rx_B P X14 := by rw [eX14]; exact rx_B_w hX8 (Or.inr (by decide))
              rw [g.2]; exact hX14
          · skip
            obtain ⟨X12, eX12, g⟩ := g
            have hX12 : rx_B P X12 := by rw [eX12]; exact rx_B_w hX8 (Or.inr (by decide))
            rw [g.2]; exact hX12
        · skip
          obtain ⟨X10, eX10, g⟩ := g
          have hX10 : rx_B P X10 := by rw [eX10]; exact rx_B_w hX8 (Or.inr (by decide))
          rw [g.2]; exact hX10
    · skip
      obtain ⟨w17, X16, rX16, g⟩ := g
      have hX16 : rx_B P X16 := rx_B_fr h (gf_220 rX16) (by decide) (by decide)
      rcases fy_if g with g | g
      · skip
        obtain ⟨w32, X31, rX31, g⟩ := g
        have hX31 : rx_B P X31 := rx_B_fr hX16 (gf_220 rX31) (by decide) (by decide)
        rcases fy_if g with g | g
        · skip
          obtain ⟨w47, X46, rX46, g⟩ := g
          have hX46 : rx_B P X46 := rx_B_215 hX31 (by decide) rX46
          rw [g.2]; exact hX46
        · skip
          obtain ⟨w35, X34, rX34, g⟩ := g
          have hX34 : rx_B P X34 := gb_235 hX31 rX34
          rcases fy_if g with g | g
          · skip
            rw [g.2]; exact hX34
          · skip
            obtain ⟨X37, eX37, g⟩ := g
            have hX37 : rx_B P X37 := by rw [eX37]; exact rx_B_w hX34 (Or.inr (by decide))
            obtain ⟨X38, eX38, g⟩ := g
            have hX38 : rx_B P X38 := by rw [eX38]; exact rx_B_w hX37 (Or.inr (by decide))
            rcases fy_if g with g | g
            · skip
              rcases fy_if g with g | g
              · skip
                rcases fy_if g with g | g
                · skip
                  obtain ⟨X45, eX45, g⟩ := g
                  have hX45 : rx_B P X45 := by rw [eX45]; exact rx_B_w hX38 (Or.inr (by decide))
                  rw [g.2]; exact hX45
                · skip
                  obtain ⟨X44, eX44, g⟩ := g
                  have hX44 : rx_B P X44 := by rw [eX44]; exact rx_B_w hX38 (Or.inr (by decide))
                  rw [g.2]; exact hX44
              · skip
                obtain ⟨X42, eX42, g⟩ := g
                have hX42 : rx_B P X42 := by rw [eX42]; exact rx_B_w hX38 (Or.inr (by decide))
                rw [g.2]; exact hX42
            · skip
              obtain ⟨X40, eX40, g⟩ := g
              have hX40 : rx_B P X40 := by rw [eX40]; exact rx_B_w hX38 (Or.inr (by decide))
              rw [g.2]; exact hX40
      · skip
        obtain ⟨w20, X19, rX19, g⟩ := g
        have hX19 : rx_B P X19 := gb_235 hX16 rX19
        rcases fy_if g with g | g
        · skip
          rw [g.2]; exact hX19
        · skip
          obtain ⟨X22, eX22, g⟩ := g
          have hX22 : rx_B P X22 := by rw [eX22]; exact rx_B_w hX19 (Or.inr (by decide))
          obtain ⟨X23, eX23, g⟩ := g
          have hX23 : rx_B P X23 := by rw [eX23]; exact rx_B_w hX22 (Or.inr (by decide))
          rcases fy_if g with g | g
          · skip
            rcases fy_if g with g | g
            · skip
              rcases fy_if g with g | g
              · skip
                obtain ⟨X30, eX30, g⟩ := g
                have hX30 : rx_B P X30 := by rw [eX30]; exact rx_B_w hX23 (Or.inr (by decide))
                rw [g.2]; exact hX30
              · skip
                obtain ⟨X29, eX29, g⟩ := g
                have hX29 : rx_B P X29 := by rw [eX29]; exact rx_B_w hX23 (Or.inr (by decide))
                rw [g.2]; exact hX29
            · skip
              obtain ⟨X27, eX27, g⟩ := g
              have hX27 : rx_B P X27 := by rw [eX27]; exact rx_B_w hX23 (Or.inr (by decide))
              rw [g.2]; exact hX27
          · skip
            obtain ⟨X25, eX25, g⟩ := g
            have hX25 : rx_B P X25 := by rw [eX25]; exact rx_B_w hX23 (Or.inr (by decide))
            rw [g.2]; exact hX25
theorem gb_239 {P : md_P} {X : fx_X} {v : Int32} {X' : fx_X} (h : rx_B P X) (g : gx_239 X v X') : rx_B P X' := by
  unfold gx_239 at g
  rcases fy_if g with g | g
  · skip
    rcases fy_if g with g | g
    · skip
      obtain ⟨X6, eX6, g⟩ := g
      have hX6 : rx_B P X6 := by rw [eX6]; exact rx_B_w h (Or.inr (by decide))
      obtain ⟨w8, X7, rX7, g⟩ := g
      have hX7 : rx_B P X7 := gb_214 hX6 rX7
      rw [g.2]; exact hX7
    · skip
      rcases fy_if g with g | g
      · skip
        obtain ⟨X10, eX10, g⟩ := g
        have hX10 : rx_B P X10 := by rw [eX10]; exact rx_B_w h (Or.inr (by decide))
        obtain ⟨w12, X11, rX11, g⟩ := g
        have hX11 : rx_B P X11 := gb_214 hX10 rX11
        rw [g.2]; exact hX11
      · skip
        rcases fy_if g with g | g
        · skip
          obtain ⟨X14, eX14, g⟩ := g
          have hX14 : rx_B P X14 := by rw [eX14]; exact rx_B_w h (Or.inr (by decide))
          obtain ⟨w16, X15, rX15, g⟩ := g
          have hX15 : rx_B P X15 := gb_214 hX14 rX15
          rw [g.2]; exact hX15
        · skip
          rcases fy_if g with g | g
          · skip
            obtain ⟨X18, eX18, g⟩ := g
            have hX18 : rx_B P X18 := by rw [eX18]; exact rx_B_w h (Or.inr (by decide))
            obtain ⟨w20, X19, rX19, g⟩ := g
            have hX19 : rx_B P X19 := gb_214 hX18 rX19
            rw [g.2]; exact hX19
          · skip
            obtain ⟨w22, X21, rX21, g⟩ := g
            have hX21 : rx_B P X21 := rx_B_215 h (by decide) rX21
            rw [g.2]; exact hX21
  · skip
    obtain ⟨w4, X3, rX3, g⟩ := g
    have hX3 : rx_B P X3 := rx_B_215 h (by decide) rX3
    rw [g.2]; exact hX3
theorem gbl_254 {P : md_P} (p1 : Int32) : ∀ (n l : Nat) (is : List Int32) (ls : List Int64) (rs : List Nat) (X : fx_X) (v : Int32) (X' : fx_X), rx_B P X → gxF_254 p1 n l is ls rs X v X' → rx_B P X' := by
  intro n
  induction n with
  | zero => intro l is ls rs X v X' h g; exact g.elim
  | succ n ih =>
    intro l is ls rs X v X' h g
    rcases g with ⟨-, y2, -, -, -, g⟩ | ⟨-, y3, y4, y5, y6, -, -, -, g⟩ | ⟨-, y3, y4, y5, y6, y7, -, -, -, g⟩
    · unfold gxT_254_7 at g
      rcases fy_if g with g | g
      · skip
        rcases fy_if g with g | g
        · skip
          obtain ⟨w7, X6, rX6, g⟩ := g
          have hX6 : rx_B P X6 := gb_219 h rX6
          rw [g.2]; exact hX6
        · skip
          replace g := g.2
          obtain ⟨X10, eX10, g⟩ := g
          have hX10 : rx_B P X10 := by rw [eX10]; exact rx_B_w h (Or.inl (by decide))
          obtain ⟨w12, X11, rX11, g⟩ := g
          have hX11 : rx_B P X11 := gb_219 hX10 rX11
          rw [g.2]; exact hX11
      · skip
        obtain ⟨w14, X13, rX13, g⟩ := g
        have hX13 : rx_B P X13 := gb_214 h rX13
        rcases fy_if g with g | g
        · skip
          rw [g.2]; exact hX13
        · skip
          obtain ⟨w17, X16, rX16, g⟩ := g
          have hX16 : rx_B P X16 := gb_255 hX13 rX16
          rcases fy_if g with g | g
          · skip
            rw [g.2]; exact hX16
          · skip
            obtain ⟨x19, -, g⟩ := g
            obtain ⟨x21, -, g⟩ := g
            obtain ⟨w24, X23, rX23, g⟩ := g
            have hX23 : rx_B P X23 := gb_239 hX16 rX23
            rcases fy_if g with g | g
            · skip
              rw [g.2]; exact hX23
            · skip
              obtain ⟨x26, -, g⟩ := g
              obtain ⟨w29, X28, rX28, g⟩ := g
              have hX28 : rx_B P X28 := gb_255 hX23 rX28
              rcases fy_if g with g | g
              · skip
                rw [g.2]; exact hX28
              · skip
                exact ih _ _ _ _ _ _ _ hX28 g
    · unfold gxT_254_67 at g
      rcases fy_if g with g | g
      · skip
        obtain ⟨w34, X33, rX33, g⟩ := g
        have hX33 : rx_B P X33 := rx_B_fr h (gf_220 rX33) (by decide) (by decide)
        exact ih _ _ _ _ _ _ _ hX33 g
      · skip
        replace g := g.2
        rcases fy_if g with g | g
        · skip
          exact ih _ _ _ _ _ _ _ h g
        · skip
          obtain ⟨w40, X39, rX39, g⟩ := g
          have hX39 : rx_B P X39 := rx_B_fr h (gf_220 rX39) (by decide) (by decide)
          exact ih _ _ _ _ _ _ _ hX39 g
    · unfold gxT_254_88 at g
      replace g := g.2
      rcases fy_if g with g | g
      · skip
        obtain ⟨w49, X48, rX48, g⟩ := g
        have hX48 : rx_B P X48 := rx_B_fr h (gf_257 rX48) (by decide) (by decide)
        obtain ⟨w51, X50, rX50, g⟩ := g
        have hX50 : rx_B P X50 := rx_B_fr hX48 (gf_257 rX50) (by decide) (by decide)
        obtain ⟨w53, X52, rX52, g⟩ := g
        have hX52 : rx_B P X52 := rx_B_fr hX50 (gf_242 rX52) (by decide) (by decide)
        rcases fy_if g with g | g
        · skip
          obtain ⟨w59, X58, rX58, g⟩ := g
          have hX58 : rx_B P X58 := rx_B_fr hX52 (gf_225 rX58) (by decide) (by decide)
          obtain ⟨w61, X60, rX60, g⟩ := g
          have hX60 : rx_B P X60 := rx_B_fr hX58 (gf_228 rX60) (by decide) (by decide)
          obtain ⟨x62, -, g⟩ := g
          exact ih _ _ _ _ _ _ _ hX60 g
        · skip
          obtain ⟨x55, -, g⟩ := g
          exact ih _ _ _ _ _ _ _ hX52 g
      · skip
        obtain ⟨x46, -, g⟩ := g
        exact ih _ _ _ _ _ _ _ h g
theorem gb_254 {P : md_P} {p1 : Int32} {X : fx_X} {v : Int32} {X' : fx_X} (h : rx_B P X) (g : gx_254 p1 X v X') : rx_B P X' := by
  obtain ⟨n, g⟩ := g
  unfold gxE_254 at g
  obtain ⟨X2, eX2, g⟩ := g
  have hX2 : rx_B P X2 := by rw [eX2]; exact rx_B_w h (Or.inr (by decide))
  exact gbl_254 _ n _ _ _ _ _ _ _ hX2 g
theorem gbl_253 {P : md_P} (p1 : Int32) : ∀ (n l : Nat) (is : List Int32) (ls : List Int64) (rs : List Nat) (X : fx_X) (v : Int32) (X' : fx_X), rx_B P X → gxF_253 p1 n l is ls rs X v X' → rx_B P X' := by
  intro n
  induction n with
  | zero => intro l is ls rs X v X' h g; exact g.elim
  | succ n ih =>
    intro l is ls rs X v X' h g
    rcases g with ⟨-, y2, -, -, -, g⟩
    · unfold gxT_253_2 at g
      rcases fy_if g with g | g
      · skip
        rw [g.2]; exact h
      · skip
        obtain ⟨w5, X4, rX4, g⟩ := g
        have hX4 : rx_B P X4 := rx_B_fr h (gf_220 rX4) (by decide) (by decide)
        rcases fy_if g with g | g
        · skip
          obtain ⟨w29, X28, rX28, g⟩ := g
          have hX28 : rx_B P X28 := rx_B_fr hX4 (gf_220 rX28) (by decide) (by decide)
          rcases fy_if g with g | g
          · skip
            obtain ⟨w53, X52, rX52, g⟩ := g
            have hX52 : rx_B P X52 := rx_B_fr hX28 (gf_220 rX52) (by decide) (by decide)
            rcases fy_if g with g | g
            · skip
              obtain ⟨w77, X76, rX76, g⟩ := g
              have hX76 : rx_B P X76 := rx_B_fr hX52 (gf_220 rX76) (by decide) (by decide)
              rcases fy_if g with g | g
              · skip
                rw [g.2]; exact hX76
              · skip
                obtain ⟨w80, X79, rX79, g⟩ := g
                have hX79 : rx_B P X79 := rx_B_fr hX76 (gf_220 rX79) (by decide) (by decide)
                rcases fy_if g with g | g
                · skip
                  obtain ⟨w83, X82, rX82, g⟩ := g
                  have hX82 : rx_B P X82 := rx_B_fr hX79 (gf_220 rX82) (by decide) (by decide)
                  rcases fy_if g with g | g
                  · skip
                    obtain ⟨w86, X85, rX85, g⟩ := g
                    have hX85 : rx_B P X85 := rx_B_fr hX82 (gf_220 rX85) (by decide) (by decide)
                    rcases fy_if g with g | g
                    · skip
                      obtain ⟨w89, X88, rX88, g⟩ := g
                      have hX88 : rx_B P X88 := gb_263 hX85 rX88
                      exact ih _ _ _ _ _ _ _ hX88 g
                    · skip
                      obtain ⟨w92, X91, rX91, g⟩ := g
                      have hX91 : rx_B P X91 := gb_262 hX85 rX91
                      exact ih _ _ _ _ _ _ _ hX91 g
                  · skip
                    obtain ⟨w95, X94, rX94, g⟩ := g
                    have hX94 : rx_B P X94 := gb_260 hX82 rX94
                    exact ih _ _ _ _ _ _ _ hX94 g
                · skip
                  obtain ⟨w98, X97, rX97, g⟩ := g
                  have hX97 : rx_B P X97 := gb_254 hX79 rX97
                  exact ih _ _ _ _ _ _ _ hX97 g
            · skip
              obtain ⟨w56, X55, rX55, g⟩ := g
              have hX55 : rx_B P X55 := rx_B_fr hX52 (gf_220 rX55) (by decide) (by decide)
              rcases fy_if g with g | g
              · skip
                obtain ⟨w59, X58, rX58, g⟩ := g
                have hX58 : rx_B P X58 := rx_B_fr hX55 (gf_220 rX58) (by decide) (by decide)
                rcases fy_if g with g | g
                · skip
                  obtain ⟨w62, X61, rX61, g⟩ := g
                  have hX61 : rx_B P X61 := rx_B_fr hX58 (gf_220 rX61) (by decide) (by decide)
                  rcases fy_if g with g | g
                  · skip
                    obtain ⟨w65, X64, rX64, g⟩ := g
                    have hX64 : rx_B P X64 := gb_263 hX61 rX64
                    exact ih _ _ _ _ _ _ _ hX64 g
                  · skip
                    obtain ⟨w68, X67, rX67, g⟩ := g
                    have hX67 : rx_B P X67 := gb_262 hX61 rX67
                    exact ih _ _ _ _ _ _ _ hX67 g
                · skip
                  obtain ⟨w71, X70, rX70, g⟩ := g
                  have hX70 : rx_B P X70 := gb_260 hX58 rX70
                  exact ih _ _ _ _ _ _ _ hX70 g
              · skip
                obtain ⟨w74, X73, rX73, g⟩ := g
                have hX73 : rx_B P X73 := gb_254 hX55 rX73
                exact ih _ _ _ _ _ _ _ hX73 g
          · skip
            obtain ⟨w32, X31, rX31, g⟩ := g
            have hX31 : rx_B P X31 := rx_B_fr hX28 (gf_220 rX31) (by decide) (by decide)
            rcases fy_if g with g | g
            · skip
              obtain ⟨w35, X34, rX34, g⟩ := g
              have hX34 : rx_B P X34 := rx_B_fr hX31 (gf_220 rX34) (by decide) (by decide)
              rcases fy_if g with g | g
              · skip
                obtain ⟨w38, X37, rX37, g⟩ := g
                have hX37 : rx_B P X37 := rx_B_fr hX34 (gf_220 rX37) (by decide) (by decide)
                rcases fy_if g with g | g
                · skip
                  obtain ⟨w41, X40, rX40, g⟩ := g
                  have hX40 : rx_B P X40 := gb_263 hX37 rX40
                  exact ih _ _ _ _ _ _ _ hX40 g
                · skip
                  obtain ⟨w44, X43, rX43, g⟩ := g
                  have hX43 : rx_B P X43 := gb_262 hX37 rX43
                  exact ih _ _ _ _ _ _ _ hX43 g
              · skip
                obtain ⟨w47, X46, rX46, g⟩ := g
                have hX46 : rx_B P X46 := gb_260 hX34 rX46
                exact ih _ _ _ _ _ _ _ hX46 g
            · skip
              obtain ⟨w50, X49, rX49, g⟩ := g
              have hX49 : rx_B P X49 := gb_254 hX31 rX49
              exact ih _ _ _ _ _ _ _ hX49 g
        · skip
          obtain ⟨w8, X7, rX7, g⟩ := g
          have hX7 : rx_B P X7 := rx_B_fr hX4 (gf_220 rX7) (by decide) (by decide)
          rcases fy_if g with g | g
          · skip
            obtain ⟨w11, X10, rX10, g⟩ := g
            have hX10 : rx_B P X10 := rx_B_fr hX7 (gf_220 rX10) (by decide) (by decide)
            rcases fy_if g with g | g
            · skip
              obtain ⟨w14, X13, rX13, g⟩ := g
              have hX13 : rx_B P X13 := rx_B_fr hX10 (gf_220 rX13) (by decide) (by decide)
              rcases fy_if g with g | g
              · skip
                obtain ⟨w17, X16, rX16, g⟩ := g
                have hX16 : rx_B P X16 := gb_263 hX13 rX16
                exact ih _ _ _ _ _ _ _ hX16 g
              · skip
                obtain ⟨w20, X19, rX19, g⟩ := g
                have hX19 : rx_B P X19 := gb_262 hX13 rX19
                exact ih _ _ _ _ _ _ _ hX19 g
            · skip
              obtain ⟨w23, X22, rX22, g⟩ := g
              have hX22 : rx_B P X22 := gb_260 hX10 rX22
              exact ih _ _ _ _ _ _ _ hX22 g
          · skip
            obtain ⟨w26, X25, rX25, g⟩ := g
            have hX25 : rx_B P X25 := gb_254 hX7 rX25
            exact ih _ _ _ _ _ _ _ hX25 g
theorem gb_253 {P : md_P} {p1 : Int32} {X : fx_X} {v : Int32} {X' : fx_X} (h : rx_B P X) (g : gx_253 p1 X v X') : rx_B P X' := by
  obtain ⟨n, g⟩ := g
  unfold gxE_253 at g
  exact gbl_253 _ n _ _ _ _ _ _ _ h g
theorem gbl_276 {P : md_P} (p1 : Int32) (p2 : Int32) : ∀ (n l : Nat) (is : List Int32) (ls : List Int64) (rs : List Nat) (X : fx_X) (v : Int32) (X' : fx_X), rx_B P X → gxF_276 p1 p2 n l is ls rs X v X' → rx_B P X' := by
  intro n
  induction n with
  | zero => intro l is ls rs X v X' h g; exact g.elim
  | succ n ih =>
    intro l is ls rs X v X' h g
    rcases g with ⟨-, y3, y4, y5, -, -, -, g⟩ | ⟨-, y3, y4, y5, -, -, -, g⟩ | ⟨-, y3, y4, y5, -, -, -, g⟩ | ⟨-, y3, y4, y5, y6, y7, -, -, -, g⟩ | ⟨-, y3, y4, y5, y6, y7, y8, y9, -, -, -, g⟩ | ⟨-, y3, y4, y5, -, -, -, g⟩ | ⟨-, y3, y4, y5, y6, -, -, -, g⟩
    · unfold gxT_276_88 at g
      rcases fy_if g with g | g
      · skip
        replace g := g.2
        replace g := g.2
        obtain ⟨X56, eX56, g⟩ := g
        have hX56 : rx_B P X56 := by rw [eX56]; exact h
        obtain ⟨x57, -, g⟩ := g
        exact ih _ _ _ _ _ _ _ hX56 g
      · skip
        exact ih _ _ _ _ _ _ _ h g
    · unfold gxT_276_127 at g
      rcases fy_if g with g | g
      · skip
        replace g := g.2
        replace g := g.2
        obtain ⟨w67, X66, rX66, g⟩ := g
        have hX66 : rx_B P X66 := rx_B_fr h (gf_252 rX66) (by decide) (by decide)
        obtain ⟨x68, -, g⟩ := g
        exact ih _ _ _ _ _ _ _ hX66 g
      · skip
        exact ih _ _ _ _ _ _ _ h g
    · unfold gxT_276_166 at g
      replace g := g.2
      rcases fy_if g with g | g
      · skip
        replace g := g.2
        obtain ⟨w77, X76, rX76, g⟩ := g
        have hX76 : rx_B P X76 := rx_B_fr h (gf_233 rX76) (by decide) (by decide)
        exact ih _ _ _ _ _ _ _ hX76 g
      · skip
        exact ih _ _ _ _ _ _ _ h g
    · unfold gxT_276_199 at g
      rcases fy_if g with g | g
      · skip
        replace g := g.2
        replace g := g.2
        obtain ⟨x107, -, g⟩ := g
        exact ih _ _ _ _ _ _ _ h g
      · skip
        rcases fy_if g with g | g
        · skip
          replace g := g.2
          replace g := g.2
          obtain ⟨X99, eX99, g⟩ := g
          have hX99 : rx_B P X99 := by rw [eX99]; exact h
          obtain ⟨x100, -, g⟩ := g
          obtain ⟨x102, -, g⟩ := g
          exact ih _ _ _ _ _ _ _ hX99 g
        · skip
          obtain ⟨x93, -, g⟩ := g
          exact ih _ _ _ _ _ _ _ h g
    · unfold gxT_276_225 at g
      replace g := g.2
      rcases fy_if g with g | g
      · skip
        rcases fy_if g with g | g
        · skip
          rcases fy_if g with g | g
          · skip
            obtain ⟨w160, X159, rX159, g⟩ := g
            have hX159 : rx_B P X159 := rx_B_fr h (gf_236 rX159) (by decide) (by decide)
            obtain ⟨w163, X162, rX162, g⟩ := g
            have hX162 : rx_B P X162 := rx_B_fr hX159 (gf_236 rX162) (by decide) (by decide)
            replace g := g.2
            replace g := g.2
            obtain ⟨X166, eX166, g⟩ := g
            have hX166 : rx_B P X166 := by rw [eX166]; exact rx_B_w hX162 (Or.inl (by decide))
            obtain ⟨w169, X168, rX168, g⟩ := g
            have hX168 : rx_B P X168 := rx_B_fr hX166 (gf_236 rX168) (by decide) (by decide)
            obtain ⟨w172, X171, rX171, g⟩ := g
            have hX171 : rx_B P X171 := rx_B_fr hX168 (gf_236 rX171) (by decide) (by decide)
            replace g := g.2
            replace g := g.2
            obtain ⟨X175, eX175, g⟩ := g
            have hX175 : rx_B P X175 := by rw [eX175]; exact rx_B_w hX171 (Or.inl (by decide))
            obtain ⟨x176, -, g⟩ := g
            exact ih _ _ _ _ _ _ _ hX175 g
          · skip
            obtain ⟨x156, -, g⟩ := g
            exact ih _ _ _ _ _ _ _ h g
        · skip
          replace g := g.2
          replace g := g.2
          obtain ⟨w182, X181, rX181, g⟩ := g
          have hX181 : rx_B P X181 := rx_B_fr h (gf_258 rX181) (by decide) (by decide)
          obtain ⟨w184, X183, rX183, g⟩ := g
          have hX183 : rx_B P X183 := rx_B_fr hX181 (gf_258 rX183) (by decide) (by decide)
          rcases fy_if g with g | g
          · skip
            obtain ⟨x186, -, g⟩ := g
            exact ih _ _ _ _ _ _ _ hX183 g
          · skip
            obtain ⟨w190, X189, rX189, g⟩ := g
            have hX189 : rx_B P X189 := rx_B_fr hX183 (gf_225 rX189) (by decide) (by decide)
            obtain ⟨w192, X191, rX191, g⟩ := g
            have hX191 : rx_B P X191 := rx_B_fr hX189 (gf_228 rX191) (by decide) (by decide)
            obtain ⟨x193, -, g⟩ := g
            exact ih _ _ _ _ _ _ _ hX191 g
      · skip
        rcases fy_if g with g | g
        · skip
          obtain ⟨w136, X135, rX135, g⟩ := g
          have hX135 : rx_B P X135 := rx_B_fr h (gf_236 rX135) (by decide) (by decide)
          obtain ⟨w139, X138, rX138, g⟩ := g
          have hX138 : rx_B P X138 := rx_B_fr hX135 (gf_236 rX138) (by decide) (by decide)
          replace g := g.2
          replace g := g.2
          obtain ⟨X142, eX142, g⟩ := g
          have hX142 : rx_B P X142 := by rw [eX142]; exact rx_B_w hX138 (Or.inl (by decide))
          obtain ⟨w145, X144, rX144, g⟩ := g
          have hX144 : rx_B P X144 := rx_B_fr hX142 (gf_236 rX144) (by decide) (by decide)
          obtain ⟨w148, X147, rX147, g⟩ := g
          have hX147 : rx_B P X147 := rx_B_fr hX144 (gf_236 rX147) (by decide) (by decide)
          replace g := g.2
          replace g := g.2
          obtain ⟨X151, eX151, g⟩ := g
          have hX151 : rx_B P X151 := by rw [eX151]; exact rx_B_w hX147 (Or.inl (by decide))
          obtain ⟨x152, -, g⟩ := g
          exact ih _ _ _ _ _ _ _ hX151 g
        · skip
          obtain ⟨x132, -, g⟩ := g
          exact ih _ _ _ _ _ _ _ h g
    · unfold gxT_276_405 at g
      rcases fy_if g with g | g
      · skip
        exact ih _ _ _ _ _ _ _ h g
      · skip
        obtain ⟨X85, eX85, g⟩ := g
        have hX85 : rx_B P X85 := by rw [eX85]; exact rx_B_w h (Or.inl (by decide))
        obtain ⟨w87, X86, rX86, g⟩ := g
        have hX86 : rx_B P X86 := rx_B_fr hX85 (gf_251 rX86) (by decide) (by decide)
        rw [g.2]; exact hX86
    · unfold gxT_276_420 at g
      rcases fy_if g with g | g
      · skip
        obtain ⟨w115, X114, rX114, g⟩ := g
        have hX114 : rx_B P X114 := rx_B_fr h (gf_225 rX114) (by decide) (by decide)
        replace g := g.2
        replace g := g.2
        replace g := g.2
        obtain ⟨w122, X121, rX121, g⟩ := g
        have hX121 : rx_B P X121 := rx_B_fr hX114 (gf_225 rX121) (by decide) (by decide)
        replace g := g.2
        replace g := g.2
        obtain ⟨X125, eX125, g⟩ := g
        have hX125 : rx_B P X125 := by rw [eX125]; exact rx_B_w hX121 (Or.inl (by decide))
        obtain ⟨x126, -, g⟩ := g
        exact ih _ _ _ _ _ _ _ hX125 g
      · skip
        obtain ⟨x111, -, g⟩ := g
        exact ih _ _ _ _ _ _ _ h g
theorem gb_276 {P : md_P} {p1 : Int32} {p2 : Int32} {X : fx_X} {v : Int32} {X' : fx_X} (h : rx_B P X) (g : gx_276 p1 p2 X v X') : rx_B P X' := by
  obtain ⟨n, g⟩ := g
  unfold gxE_276 at g
  obtain ⟨x2, -, g⟩ := g
  rcases fy_if g with g | g
  · skip
    replace g := g.2
    obtain ⟨x7, -, g⟩ := g
    obtain ⟨X11, eX11, g⟩ := g
    have hX11 : rx_B P X11 := by rw [eX11]; exact rx_B_w h (Or.inl (by decide))
    rcases fy_if g with g | g
    · skip
      obtain ⟨X15, eX15, g⟩ := g
      have hX15 : rx_B P X15 := by rw [eX15]; exact rx_B_w hX11 (Or.inl (by decide))
      exact gbl_276 _ _ n _ _ _ _ _ _ _ hX15 g
    · skip
      replace g := g.2
      replace g := g.2
      obtain ⟨X22, eX22, g⟩ := g
      have hX22 : rx_B P X22 := by rw [eX22]; exact rx_B_w hX11 (Or.inl (by decide))
      exact gbl_276 _ _ n _ _ _ _ _ _ _ hX22 g
  · skip
    replace g := g.2
    replace g := g.2
    rcases fy_if g with g | g
    · skip
      obtain ⟨w49, X48, rX48, g⟩ := g
      have hX48 : rx_B P X48 := rx_B_215 h (by decide) rX48
      rw [g.2]; exact hX48
    · skip
      replace g := g.2
      obtain ⟨x31, -, g⟩ := g
      obtain ⟨X35, eX35, g⟩ := g
      have hX35 : rx_B P X35 := by rw [eX35]; exact rx_B_w h (Or.inl (by decide))
      rcases fy_if g with g | g
      · skip
        obtain ⟨X39, eX39, g⟩ := g
        have hX39 : rx_B P X39 := by rw [eX39]; exact rx_B_w hX35 (Or.inl (by decide))
        exact gbl_276 _ _ n _ _ _ _ _ _ _ hX39 g
      · skip
        replace g := g.2
        replace g := g.2
        obtain ⟨X46, eX46, g⟩ := g
        have hX46 : rx_B P X46 := by rw [eX46]; exact rx_B_w hX35 (Or.inl (by decide))
        exact gbl_276 _ _ n _ _ _ _ _ _ _ hX46 g
theorem gbl_275 {P : md_P} (p1 : Int32) (p2 : Int32) : ∀ (n l : Nat) (is : List Int32) (ls : List Int64) (rs : List Nat) (X : fx_X) (v : Int32) (X' : fx_X), rx_B P X → gxF_275 p1 p2 n l is ls rs X v X' → rx_B P X' := by
  intro n
  induction n with
  | zero => intro l is ls rs X v X' h g; exact g.elim
  | succ n ih =>
    intro l is ls rs X v X' h g
    rcases g with ⟨-, y3, y4, -, -, -, g⟩
    · unfold gxT_275_34 at g
      rcases fy_if g with g | g
      · skip
        rcases fy_if g with g | g
        · skip
          obtain ⟨w26, X25, rX25, g⟩ := g
          have hX25 : rx_B P X25 := rx_B_218 h (by decide) rX25
          replace g := g.2
          obtain ⟨X31, eX31, g⟩ := g
          have hX31 : rx_B P X31 := by rw [eX31]; exact rx_B_w hX25 (Or.inl (by decide))
          rw [g.2]; exact hX31
        · skip
          rcases fy_if g with g | g
          · skip
            replace g := g.2
            obtain ⟨X24, eX24, g⟩ := g
            have hX24 : rx_B P X24 := by rw [eX24]; exact rx_B_w h (Or.inl (by decide))
            rw [g.2]; exact hX24
          · skip
            obtain ⟨w21, X20, rX20, g⟩ := g
            have hX20 : rx_B P X20 := gb_276 h rX20
            rw [g.2]; exact hX20
      · skip
        replace g := g.2
        rcases fy_if g with g | g
        · skip
          replace g := g.2
          obtain ⟨w52, X51, rX51, g⟩ := g
          have hX51 : rx_B P X51 := rx_B_fr h (gf_233 rX51) (by decide) (by decide)
          rcases fy_if g with g | g
          · skip
            obtain ⟨x56, -, g⟩ := g
            obtain ⟨x58, -, g⟩ := g
            exact ih _ _ _ _ _ _ _ hX51 g
          · skip
            obtain ⟨x54, -, g⟩ := g
            exact ih _ _ _ _ _ _ _ hX51 g
        · skip
          rcases fy_if g with g | g
          · skip
            obtain ⟨w43, X42, rX42, g⟩ := g
            have hX42 : rx_B P X42 := rx_B_218 h (by decide) rX42
            replace g := g.2
            obtain ⟨X48, eX48, g⟩ := g
            have hX48 : rx_B P X48 := by rw [eX48]; exact rx_B_w hX42 (Or.inl (by decide))
            rw [g.2]; exact hX48
          · skip
            rcases fy_if g with g | g
            · skip
              replace g := g.2
              obtain ⟨X41, eX41, g⟩ := g
              have hX41 : rx_B P X41 := by rw [eX41]; exact rx_B_w h (Or.inl (by decide))
              rw [g.2]; exact hX41
            · skip
              obtain ⟨w38, X37, rX37, g⟩ := g
              have hX37 : rx_B P X37 := gb_276 h rX37
              rw [g.2]; exact hX37
theorem gb_275 {P : md_P} {p1 : Int32} {p2 : Int32} {X : fx_X} {v : Int32} {X' : fx_X} (h : rx_B P X) (g : gx_275 p1 p2 X v X') : rx_B P X' := by
  obtain ⟨n, g⟩ := g
  unfold gxE_275 at g
  replace g := g.2
  rcases fy_if g with g | g
  · skip
    exact gbl_275 _ _ n _ _ _ _ _ _ _ h g
  · skip
    replace g := g.2
    rcases fy_if g with g | g
    · skip
      exact gbl_275 _ _ n _ _ _ _ _ _ _ h g
    · skip
      replace g := g.2
      obtain ⟨x12, -, g⟩ := g
      exact gbl_275 _ _ n _ _ _ _ _ _ _ h g
theorem gbl_278 {P : md_P} (p1 : Int32) (p2 : Int32) : ∀ (n l : Nat) (is : List Int32) (ls : List Int64) (rs : List Nat) (X : fx_X) (v : Int32) (X' : fx_X), rx_B P X → gxF_278 p1 p2 n l is ls rs X v X' → rx_B P X' := by
  intro n
  induction n with
  | zero => intro l is ls rs X v X' h g; exact g.elim
  | succ n ih =>
    intro l is ls rs X v X' h g
    rcases g with ⟨-, y3, -, -, -, g⟩
    · unfold gxT_278_30 at g
      replace g := g.2
      rcases fy_if g with g | g
      · skip
        replace g := g.2
        obtain ⟨w22, X21, rX21, g⟩ := g
        have hX21 : rx_B P X21 := rx_B_fr h (gf_252 rX21) (by decide) (by decide)
        obtain ⟨x23, -, g⟩ := g
        exact ih _ _ _ _ _ _ _ hX21 g
      · skip
        replace g := g.2
        replace g := g.2
        replace g := g.2
        obtain ⟨X18, eX18, g⟩ := g
        have hX18 : rx_B P X18 := by rw [eX18]; exact rx_B_w h (Or.inl (by decide))
        rw [g.2]; exact hX18
theorem gb_278 {P : md_P} {p1 : Int32} {p2 : Int32} {X : fx_X} {v : Int32} {X' : fx_X} (h : rx_B P X) (g : gx_278 p1 p2 X v X') : rx_B P X' := by
  obtain ⟨n, g⟩ := g
  unfold gxE_278 at g
  replace g := g.2
  replace g := g.2
  rcases fy_if g with g | g
  · skip
    obtain ⟨w9, X8, rX8, g⟩ := g
    have hX8 : rx_B P X8 := rx_B_215 h (by decide) rX8
    rw [g.2]; exact hX8
  · skip
    exact gbl_278 _ _ n _ _ _ _ _ _ _ h g
theorem gbl_274 {P : md_P} : ∀ (n l : Nat) (is : List Int32) (ls : List Int64) (rs : List Nat) (X : fx_X) (v : Int32) (X' : fx_X), rx_B P X → gxF_274 n l is ls rs X v X' → rx_B P X' := by
  intro n
  induction n with
  | zero => intro l is ls rs X v X' h g; exact g.elim
  | succ n ih =>
    intro l is ls rs X v X' h g
    rcases g with ⟨-, y1, y2, y3, y4, -, -, -, g⟩
    · unfold gxT_274_109 at g
      rcases fy_if g with g | g
      · skip
        replace g := g.2
        obtain ⟨X37, eX37, g⟩ := g
        have hX37 : rx_B P X37 := by rw [eX37]; exact rx_B_w h (Or.inl (by decide))
        rw [g.2]; exact hX37
      · skip
        obtain ⟨w39, X38, rX38, g⟩ := g
        have hX38 : rx_B P X38 := rx_B_fr h (gf_277 rX38) (by decide) (by decide)
        rcases fy_if g with g | g
        · skip
          replace g := g.2
          obtain ⟨X51, eX51, g⟩ := g
          have hX51 : rx_B P X51 := by rw [eX51]; exact rx_B_w hX38 (Or.inl (by decide))
          rw [g.2]; exact hX51
        · skip
          rcases fy_if g with g | g
          · skip
            rw [g.2]; exact hX38
          · skip
            rcases fy_if g with g | g
            · skip
              obtain ⟨w47, X46, rX46, g⟩ := g
              have hX46 : rx_B P X46 := gb_278 hX38 rX46
              rcases fy_if g with g | g
              · skip
                rw [g.2]; exact hX46
              · skip
                rw [g.2]; exact hX46
            · skip
              obtain ⟨w44, X43, rX43, g⟩ := g
              have hX43 : rx_B P X43 := rx_B_fr hX38 (gf_279 rX43) (by decide) (by decide)
              rcases fy_if g with g | g
              · skip
                rw [g.2]; exact hX43
              · skip
                rw [g.2]; exact hX43
theorem gb_274 {P : md_P} {X : fx_X} {v : Int32} {X' : fx_X} (h : rx_B P X) (g : gx_274 X v X') : rx_B P X' := by
  obtain ⟨n, g⟩ := g
  unfold gxE_274 at g
  obtain ⟨X2, eX2, g⟩ := g
  have hX2 : rx_B P X2 := by rw [eX2]; exact rx_B_w h (Or.inr (by decide))
  replace g := g.2
  obtain ⟨x5, -, g⟩ := g
  replace g := g.2
  obtain ⟨x9, -, g⟩ := g
  obtain ⟨X11, eX11, g⟩ := g
  have hX11 : rx_B P X11 := by rw [eX11]; exact rx_B_w hX2 (Or.inr (by decide))
  obtain ⟨x12, -, g⟩ := g
  rcases fy_if g with g | g
  · skip
    obtain ⟨w33, X32, rX32, g⟩ := g
    have hX32 : rx_B P X32 := gb_275 hX11 rX32
    rw [g.2]; exact hX32
  · skip
    replace g := g.2
    rcases fy_if g with g | g
    · skip
      exact gbl_274 n _ _ _ _ _ _ _ hX11 g
    · skip
      replace g := g.2
      rcases fy_if g with g | g
      · skip
        exact gbl_274 n _ _ _ _ _ _ _ hX11 g
      · skip
        obtain ⟨w28, X27, rX27, g⟩ := g
        have hX27 : rx_B P X27 := rx_B_fr hX11 (gf_277 rX27) (by decide) (by decide)
        rcases fy_if g with g | g
        · skip
          obtain ⟨w31, X30, rX30, g⟩ := g
          have hX30 : rx_B P X30 := rx_B_218 hX27 (by decide) rX30
          exact gbl_274 n _ _ _ _ _ _ _ hX30 g
        · skip
          exact gbl_274 n _ _ _ _ _ _ _ hX27 g
theorem gbl_249 {P : md_P} : ∀ (n l : Nat) (is : List Int32) (ls : List Int64) (rs : List Nat) (X : fx_X) (v : Int32) (X' : fx_X), rx_B P X → gxF_249 n l is ls rs X v X' → rx_B P X' := by
  intro n
  induction n with
  | zero => intro l is ls rs X v X' h g; exact g.elim
  | succ n ih =>
    intro l is ls rs X v X' h g
    rcases g with ⟨-, y1, -, -, -, g⟩ | ⟨-, -, -, -, g⟩ | ⟨-, -, -, -, g⟩ | ⟨-, -, -, -, g⟩ | ⟨-, y1, -, -, -, g⟩ | ⟨-, -, -, -, g⟩
    · unfold gxT_249_18 at g
      rcases fy_if g with g | g
      · skip
        rcases fy_if g with g | g
        · skip
          obtain ⟨w9, X8, rX8, g⟩ := g
          have hX8 : rx_B P X8 := rx_B_215 h (by decide) rX8
          rw [g.2]; exact hX8
        · skip
          exact ih _ _ _ _ _ _ _ h g
      · skip
        exact ih _ _ _ _ _ _ _ h g
    · unfold gxT_249_22 at g
      obtain ⟨w15, X14, rX14, g⟩ := g
      have hX14 : rx_B P X14 := rx_B_fr h (gf_220 rX14) (by decide) (by decide)
      rcases fy_if g with g | g
      · skip
        obtain ⟨w18, X17, rX17, g⟩ := g
        have hX17 : rx_B P X17 := gb_250 hX14 rX17
        rcases fy_if g with g | g
        · skip
          rw [g.2]; exact hX17
        · skip
          obtain ⟨X20, eX20, g⟩ := g
          have hX20 : rx_B P X20 := by rw [eX20]; exact rx_B_w hX17 (Or.inr (by decide))
          obtain ⟨w22, X21, rX21, g⟩ := g
          have hX21 : rx_B P X21 := gb_253 hX20 rX21
          rcases fy_if g with g | g
          · skip
            rw [g.2]; exact hX21
          · skip
            exact ih _ _ _ _ _ _ _ hX21 g
      · skip
        rcases fy_if g with g | g
        · skip
          obtain ⟨w34, X33, rX33, g⟩ := g
          have hX33 : rx_B P X33 := rx_B_215 hX14 (by decide) rX33
          rw [g.2]; exact hX33
        · skip
          obtain ⟨X25, eX25, g⟩ := g
          have hX25 : rx_B P X25 := by rw [eX25]; exact rx_B_w hX14 (Or.inr (by decide))
          replace g := g.2
          obtain ⟨X28, eX28, g⟩ := g
          have hX28 : rx_B P X28 := by rw [eX28]; exact rx_B_w hX25 (Or.inl (by decide))
          obtain ⟨X29, eX29, g⟩ := g
          have hX29 : rx_B P X29 := by rw [eX29]; exact rx_B_w hX28 (Or.inr (by decide))
          obtain ⟨w31, X30, rX30, g⟩ := g
          have hX30 : rx_B P X30 := gb_214 hX29 rX30
          rcases fy_if g with g | g
          · skip
            rw [g.2]; exact hX30
          · skip
            exact ih _ _ _ _ _ _ _ hX30 g
    · unfold gxT_249_128 at g
      rcases fy_if g with g | g
      · skip
        obtain ⟨w54, X53, rX53, g⟩ := g
        have hX53 : rx_B P X53 := rx_B_fr h (gf_220 rX53) (by decide) (by decide)
        rcases fy_if g with g | g
        · skip
          obtain ⟨w57, X56, rX56, g⟩ := g
          have hX56 : rx_B P X56 := rx_B_fr hX53 (gf_220 rX56) (by decide) (by decide)
          rcases fy_if g with g | g
          · skip
            obtain ⟨w62, X61, rX61, g⟩ := g
            have hX61 : rx_B P X61 := rx_B_fr hX56 (gf_220 rX61) (by decide) (by decide)
            rcases fy_if g with g | g
            · skip
              obtain ⟨w67, X66, rX66, g⟩ := g
              have hX66 : rx_B P X66 := rx_B_fr hX61 (gf_220 rX66) (by decide) (by decide)
              rcases fy_if g with g | g
              · skip
                exact ih _ _ _ _ _ _ _ hX66 g
              · skip
                exact ih _ _ _ _ _ _ _ hX66 g
            · skip
              exact ih _ _ _ _ _ _ _ hX61 g
          · skip
            exact ih _ _ _ _ _ _ _ hX56 g
        · skip
          exact ih _ _ _ _ _ _ _ hX53 g
      · skip
        obtain ⟨w37, X36, rX36, g⟩ := g
        have hX36 : rx_B P X36 := rx_B_fr h (gf_220 rX36) (by decide) (by decide)
        rcases fy_if g with g | g
        · skip
          obtain ⟨w42, X41, rX41, g⟩ := g
          have hX41 : rx_B P X41 := rx_B_fr hX36 (gf_220 rX41) (by decide) (by decide)
          rcases fy_if g with g | g
          · skip
            obtain ⟨w47, X46, rX46, g⟩ := g
            have hX46 : rx_B P X46 := rx_B_fr hX41 (gf_220 rX46) (by decide) (by decide)
            rcases fy_if g with g | g
            · skip
              exact ih _ _ _ _ _ _ _ hX46 g
            · skip
              exact ih _ _ _ _ _ _ _ hX46 g
          · skip
            exact ih _ _ _ _ _ _ _ hX41 g
        · skip
          exact ih _ _ _ _ _ _ _ hX36 g
    · unfold gxT_249_144 at g
      obtain ⟨w115, X114, rX114, g⟩ := g
      have hX114 : rx_B P X114 := rx_B_fr h (gf_273 rX114) (by decide) (by decide)
      rcases fy_if g with g | g
      · skip
        obtain ⟨w126, X125, rX125, g⟩ := g
        have hX125 : rx_B P X125 := gb_274 hX114 rX125
        rcases fy_if g with g | g
        · skip
          rw [g.2]; exact hX125
        · skip
          exact ih _ _ _ _ _ _ _ hX125 g
      · skip
        obtain ⟨X117, eX117, g⟩ := g
        have hX117 : rx_B P X117 := by rw [eX117]; exact rx_B_w hX114 (Or.inr (by decide))
        obtain ⟨X118, eX118, g⟩ := g
        have hX118 : rx_B P X118 := by rw [eX118]; exact rx_B_w hX117 (Or.inr (by decide))
        obtain ⟨w120, X119, rX119, g⟩ := g
        have hX119 : rx_B P X119 := gb_214 hX118 rX119
        rcases fy_if g with g | g
        · skip
          rw [g.2]; exact hX119
        · skip
          obtain ⟨w123, X122, rX122, g⟩ := g
          have hX122 : rx_B P X122 := gb_253 hX119 rX122
          rcases fy_if g with g | g
          · skip
            rw [g.2]; exact hX122
          · skip
            exact ih _ _ _ _ _ _ _ hX122 g
    · unfold gxT_249_241 at g
      obtain ⟨w74, X73, rX73, g⟩ := g
      have hX73 : rx_B P X73 := rx_B_fr h (gf_273 rX73) (by decide) (by decide)
      rcases fy_if g with g | g
      · skip
        obtain ⟨w80, X79, rX79, g⟩ := g
        have hX79 : rx_B P X79 := rx_B_fr hX73 (gf_220 rX79) (by decide) (by decide)
        rcases fy_if g with g | g
        · skip
          obtain ⟨w93, X92, rX92, g⟩ := g
          have hX92 : rx_B P X92 := rx_B_fr hX79 (gf_273 rX92) (by decide) (by decide)
          rcases fy_if g with g | g
          · skip
            obtain ⟨w99, X98, rX98, g⟩ := g
            have hX98 : rx_B P X98 := rx_B_fr hX92 (gf_273 rX98) (by decide) (by decide)
            rcases fy_if g with g | g
            · skip
              replace g := g.2
              obtain ⟨X103, eX103, g⟩ := g
              have hX103 : rx_B P X103 := by rw [eX103]; exact rx_B_w hX98 (Or.inl (by decide))
              replace g := g.2
              obtain ⟨X106, eX106, g⟩ := g
              have hX106 : rx_B P X106 := by rw [eX106]; exact rx_B_w hX103 (Or.inl (by decide))
              obtain ⟨X107, eX107, g⟩ := g
              have hX107 : rx_B P X107 := by rw [eX107]; exact rx_B_w hX106 (Or.inr (by decide))
              obtain ⟨w109, X108, rX108, g⟩ := g
              have hX108 : rx_B P X108 := gb_264 hX107 rX108
              rcases fy_if g with g | g
              · skip
                rw [g.2]; exact hX108
              · skip
                exact ih _ _ _ _ _ _ _ hX108 g
            · skip
              obtain ⟨w112, X111, rX111, g⟩ := g
              have hX111 : rx_B P X111 := gb_274 hX98 rX111
              rcases fy_if g with g | g
              · skip
                rw [g.2]; exact hX111
              · skip
                exact ih _ _ _ _ _ _ _ hX111 g
          · skip
            obtain ⟨w96, X95, rX95, g⟩ := g
            have hX95 : rx_B P X95 := gb_274 hX92 rX95
            rcases fy_if g with g | g
            · skip
              rw [g.2]; exact hX95
            · skip
              exact ih _ _ _ _ _ _ _ hX95 g
        · skip
          replace g := g.2
          obtain ⟨X84, eX84, g⟩ := g
          have hX84 : rx_B P X84 := by rw [eX84]; exact rx_B_w hX79 (Or.inl (by decide))
          replace g := g.2
          obtain ⟨X87, eX87, g⟩ := g
          have hX87 : rx_B P X87 := by rw [eX87]; exact rx_B_w hX84 (Or.inl (by decide))
          obtain ⟨X88, eX88, g⟩ := g
          have hX88 : rx_B P X88 := by rw [eX88]; exact rx_B_w hX87 (Or.inr (by decide))
          obtain ⟨w90, X89, rX89, g⟩ := g
          have hX89 : rx_B P X89 := gb_264 hX88 rX89
          rcases fy_if g with g | g
          · skip
            rw [g.2]; exact hX89
          · skip
            exact ih _ _ _ _ _ _ _ hX89 g
      · skip
        obtain ⟨w77, X76, rX76, g⟩ := g
        have hX76 : rx_B P X76 := gb_274 hX73 rX76
        rcases fy_if g with g | g
        · skip
          rw [g.2]; exact hX76
        · skip
          exact ih _ _ _ _ _ _ _ hX76 g
    · unfold gxT_249_348 at g
      rcases fy_if g with g | g
      · skip
        obtain ⟨w12, X11, rX11, g⟩ := g
        have hX11 : rx_B P X11 := gb_274 h rX11
        rcases fy_if g with g | g
        · skip
          rw [g.2]; exact hX11
        · skip
          exact ih _ _ _ _ _ _ _ hX11 g
      · skip
        rw [g.2]; exact h
theorem gb_249 {P : md_P} {X : fx_X} {v : Int32} {X' : fx_X} (h : rx_B P X) (g : gx_249 X v X') : rx_B P X' := by
  obtain ⟨n, g⟩ := g
  unfold gxE_249 at g
  obtain ⟨X2, eX2, g⟩ := g
  have hX2 : rx_B P X2 := by rw [eX2]; exact rx_B_w h (Or.inr (by decide))
  obtain ⟨X3, eX3, g⟩ := g
  have hX3 : rx_B P X3 := by rw [eX3]; exact rx_B_w hX2 (Or.inr (by decide))
  obtain ⟨X4, eX4, g⟩ := g
  have hX4 : rx_B P X4 := by rw [eX4]; exact rx_B_w hX3 (Or.inr (by decide))
  exact gbl_249 n _ _ _ _ _ _ _ hX4 g
theorem gb_248 {P : md_P} {X : fx_X} {v : Int32} {X' : fx_X} (h : rx_B P X) (g : gx_248 X v X') : rx_B P X' := by
  unfold gx_248 at g
  obtain ⟨w3, X2, rX2, g⟩ := g
  have hX2 : rx_B P X2 := gb_230 h rX2
  rcases fy_if g with g | g
  · skip
    rw [g.2]; exact hX2
  · skip
    obtain ⟨x5, -, g⟩ := g
    obtain ⟨w8, X7, rX7, g⟩ := g
    have hX7 : rx_B P X7 := gb_219 hX2 rX7
    rcases fy_if g with g | g
    · skip
      rw [g.2]; exact hX7
    · skip
      obtain ⟨w11, X10, rX10, g⟩ := g
      have hX10 : rx_B P X10 := gb_249 hX7 rX10
      rcases fy_if g with g | g
      · skip
        rw [g.2]; exact hX10
      · skip
        obtain ⟨w14, X13, rX13, g⟩ := g
        have hX13 : rx_B P X13 := gb_219 hX10 rX13
        rcases fy_if g with g | g
        · skip
          rw [g.2]; exact hX13
        · skip
          replace g := g.2
          obtain ⟨x18, -, g⟩ := g
          obtain ⟨w21, X20, rX20, g⟩ := g
          have hX20 : rx_B P X20 := rx_B_fr hX13 (gf_251 rX20) (by decide) (by decide)
          replace g := g.2
          replace g := g.2
          obtain ⟨X25, eX25, g⟩ := g
          have hX25 : rx_B P X25 := by rw [eX25]; exact rx_B_w hX20 (Or.inl (by decide))
          rw [g.2]; exact hX25
theorem gbl_238 {P : md_P} : ∀ (n l : Nat) (is : List Int32) (ls : List Int64) (rs : List Nat) (X : fx_X) (v : Int32) (X' : fx_X), rx_B P X → gxF_238 n l is ls rs X v X' → rx_B P X' := by
  intro n
  induction n with
  | zero => intro l is ls rs X v X' h g; exact g.elim
  | succ n ih =>
    intro l is ls rs X v X' h g
    rcases g with ⟨-, y1, y2, y3, y4, -, -, -, g⟩
    · unfold gxT_238_81 at g
      rcases fy_if g with g | g
      · skip
        obtain ⟨X60, eX60, g⟩ := g
        have hX60 : rx_B P X60 := by rw [eX60]; exact rx_B_w h (Or.inr (by decide))
        rw [g.2]; exact hX60
      · skip
        replace g := g.2
        rcases fy_if g with g | g
        · skip
          obtain ⟨w67, X66, rX66, g⟩ := g
          have hX66 : rx_B P X66 := rx_B_fr h (gf_240 rX66) (by decide) (by decide)
          obtain ⟨w69, X68, rX68, g⟩ := g
          have hX68 : rx_B P X68 := rx_B_fr hX66 (gf_240 rX68) (by decide) (by decide)
          obtain ⟨w71, X70, rX70, g⟩ := g
          have hX70 : rx_B P X70 := rx_B_fr hX68 (gf_242 rX70) (by decide) (by decide)
          obtain ⟨w73, X72, rX72, g⟩ := g
          have hX72 : rx_B P X72 := rx_B_fr hX70 (gf_228 rX72) (by decide) (by decide)
          obtain ⟨x74, -, g⟩ := g
          exact ih _ _ _ _ _ _ _ hX72 g
        · skip
          obtain ⟨X64, eX64, g⟩ := g
          have hX64 : rx_B P X64 := by rw [eX64]; exact rx_B_w h (Or.inr (by decide))
          rw [g.2]; exact hX64
theorem gb_238 {P : md_P} {X : fx_X} {v : Int32} {X' : fx_X} (h : rx_B P X) (g : gx_238 X v X') : rx_B P X' := by
  obtain ⟨n, g⟩ := g
  unfold gxE_238 at g
  rcases fy_if g with g | g
  · skip
    obtain ⟨w4, X3, rX3, g⟩ := g
    have hX3 : rx_B P X3 := gb_235 h rX3
    rcases fy_if g with g | g
    · skip
      rw [g.2]; exact hX3
    · skip
      obtain ⟨x6, -, g⟩ := g
      obtain ⟨x8, -, g⟩ := g
      obtain ⟨w11, X10, rX10, g⟩ := g
      have hX10 : rx_B P X10 := gb_239 hX3 rX10
      rcases fy_if g with g | g
      · skip
        rw [g.2]; exact hX10
      · skip
        obtain ⟨x13, -, g⟩ := g
        obtain ⟨w16, X15, rX15, g⟩ := g
        have hX15 : rx_B P X15 := gb_235 hX10 rX15
        rcases fy_if g with g | g
        · skip
          rw [g.2]; exact hX15
        · skip
          exact gbl_238 n _ _ _ _ _ _ _ hX15 g
  · skip
    obtain ⟨w20, X19, rX19, g⟩ := g
    have hX19 : rx_B P X19 := rx_B_fr h (gf_220 rX19) (by decide) (by decide)
    rcases fy_if g with g | g
    · skip
      obtain ⟨w39, X38, rX38, g⟩ := g
      have hX38 : rx_B P X38 := rx_B_fr hX19 (gf_220 rX38) (by decide) (by decide)
      rcases fy_if g with g | g
      · skip
        obtain ⟨w58, X57, rX57, g⟩ := g
        have hX57 : rx_B P X57 := rx_B_215 hX38 (by decide) rX57
        rw [g.2]; exact hX57
      · skip
        obtain ⟨w42, X41, rX41, g⟩ := g
        have hX41 : rx_B P X41 := gb_235 hX38 rX41
        rcases fy_if g with g | g
        · skip
          rw [g.2]; exact hX41
        · skip
          obtain ⟨x44, -, g⟩ := g
          obtain ⟨x46, -, g⟩ := g
          obtain ⟨w49, X48, rX48, g⟩ := g
          have hX48 : rx_B P X48 := gb_239 hX41 rX48
          rcases fy_if g with g | g
          · skip
            rw [g.2]; exact hX48
          · skip
            obtain ⟨x51, -, g⟩ := g
            obtain ⟨w54, X53, rX53, g⟩ := g
            have hX53 : rx_B P X53 := gb_235 hX48 rX53
            rcases fy_if g with g | g
            · skip
              rw [g.2]; exact hX53
            · skip
              exact gbl_238 n _ _ _ _ _ _ _ hX53 g
    · skip
      obtain ⟨w23, X22, rX22, g⟩ := g
      have hX22 : rx_B P X22 := gb_235 hX19 rX22
      rcases fy_if g with g | g
      · skip
        rw [g.2]; exact hX22
      · skip
        obtain ⟨x25, -, g⟩ := g
        obtain ⟨x27, -, g⟩ := g
        obtain ⟨w30, X29, rX29, g⟩ := g
        have hX29 : rx_B P X29 := gb_239 hX22 rX29
        rcases fy_if g with g | g
        · skip
          rw [g.2]; exact hX29
        · skip
          obtain ⟨x32, -, g⟩ := g
          obtain ⟨w35, X34, rX34, g⟩ := g
          have hX34 : rx_B P X34 := gb_235 hX29 rX34
          rcases fy_if g with g | g
          · skip
            rw [g.2]; exact hX34
          · skip
            exact gbl_238 n _ _ _ _ _ _ _ hX34 g
theorem gbl_237 {P : md_P} : ∀ (n l : Nat) (is : List Int32) (ls : List Int64) (rs : List Nat) (X : fx_X) (v : Int32) (X' : fx_X), rx_B P X → gxF_237 n l is ls rs X v X' → rx_B P X' := by
  intro n
  induction n with
  | zero => intro l is ls rs X v X' h g; exact g.elim
  | succ n ih =>
    intro l is ls rs X v X' h g
    rcases g with ⟨-, y1, y2, -, -, -, g⟩ | ⟨-, y1, -, -, -, g⟩ | ⟨-, y1, -, -, -, g⟩ | ⟨-, y1, -, -, -, g⟩ | ⟨-, y1, -, -, -, g⟩ | ⟨-, y1, -, -, -, g⟩ | ⟨-, y1, y2, -, -, -, g⟩ | ⟨-, -, -, -, g⟩
    · unfold gxT_237_19 at g
      rcases fy_if g with g | g
      · skip
        rcases fy_if g with g | g
        · skip
          obtain ⟨w10, X9, rX9, g⟩ := g
          have hX9 : rx_B P X9 := rx_B_215 h (by decide) rX9
          rw [g.2]; exact hX9
        · skip
          exact ih _ _ _ _ _ _ _ h g
      · skip
        exact ih _ _ _ _ _ _ _ h g
    · unfold gxT_237_23 at g
      obtain ⟨w15, X14, rX14, g⟩ := g
      have hX14 : rx_B P X14 := rx_B_fr h (gf_220 rX14) (by decide) (by decide)
      rcases fy_if g with g | g
      · skip
        obtain ⟨w36, X35, rX35, g⟩ := g
        have hX35 : rx_B P X35 := rx_B_fr hX14 (gf_220 rX35) (by decide) (by decide)
        rcases fy_if g with g | g
        · skip
          obtain ⟨w39, X38, rX38, g⟩ := g
          have hX38 : rx_B P X38 := gb_238 hX35 rX38
          rcases fy_if g with g | g
          · skip
            rw [g.2]; exact hX38
          · skip
            exact ih _ _ _ _ _ _ _ hX38 g
        · skip
          rcases fy_if g with g | g
          · skip
            obtain ⟨w58, X57, rX57, g⟩ := g
            have hX57 : rx_B P X57 := rx_B_215 hX35 (by decide) rX57
            rw [g.2]; exact hX57
          · skip
            obtain ⟨X42, eX42, g⟩ := g
            have hX42 : rx_B P X42 := by rw [eX42]; exact rx_B_w hX35 (Or.inr (by decide))
            replace g := g.2
            obtain ⟨X45, eX45, g⟩ := g
            have hX45 : rx_B P X45 := by rw [eX45]; exact rx_B_w hX42 (Or.inl (by decide))
            obtain ⟨X46, eX46, g⟩ := g
            have hX46 : rx_B P X46 := by rw [eX46]; exact rx_B_w hX45 (Or.inr (by decide))
            rcases fy_if g with g | g
            · skip
              obtain ⟨x52, -, g⟩ := g
              obtain ⟨w55, X54, rX54, g⟩ := g
              have hX54 : rx_B P X54 := gb_214 hX46 rX54
              rcases fy_if g with g | g
              · skip
                rw [g.2]; exact hX54
              · skip
                exact ih _ _ _ _ _ _ _ hX54 g
            · skip
              obtain ⟨w50, X49, rX49, g⟩ := g
              have hX49 : rx_B P X49 := gb_214 hX46 rX49
              rcases fy_if g with g | g
              · skip
                rw [g.2]; exact hX49
              · skip
                exact ih _ _ _ _ _ _ _ hX49 g
      · skip
        rcases fy_if g with g | g
        · skip
          obtain ⟨w34, X33, rX33, g⟩ := g
          have hX33 : rx_B P X33 := rx_B_215 hX14 (by decide) rX33
          rw [g.2]; exact hX33
        · skip
          obtain ⟨X18, eX18, g⟩ := g
          have hX18 : rx_B P X18 := by rw [eX18]; exact rx_B_w hX14 (Or.inr (by decide))
          replace g := g.2
          obtain ⟨X21, eX21, g⟩ := g
          have hX21 : rx_B P X21 := by rw [eX21]; exact rx_B_w hX18 (Or.inl (by decide))
          obtain ⟨X22, eX22, g⟩ := g
          have hX22 : rx_B P X22 := by rw [eX22]; exact rx_B_w hX21 (Or.inr (by decide))
          rcases fy_if g with g | g
          · skip
            obtain ⟨x28, -, g⟩ := g
            obtain ⟨w31, X30, rX30, g⟩ := g
            have hX30 : rx_B P X30 := gb_214 hX22 rX30
            rcases fy_if g with g | g
            · skip
              rw [g.2]; exact hX30
            · skip
              exact ih _ _ _ _ _ _ _ hX30 g
          · skip
            obtain ⟨w26, X25, rX25, g⟩ := g
            have hX25 : rx_B P X25 := gb_214 hX22 rX25
            rcases fy_if g with g | g
            · skip
              rw [g.2]; exact hX25
            · skip
              exact ih _ _ _ _ _ _ _ hX25 g
    · unfold gxT_237_128 at g
      obtain ⟨w60, X59, rX59, g⟩ := g
      have hX59 : rx_B P X59 := rx_B_fr h (gf_243 rX59) (by decide) (by decide)
      rcases fy_if g with g | g
      · skip
        exact ih _ _ _ _ _ _ _ hX59 g
      · skip
        obtain ⟨w63, X62, rX62, g⟩ := g
        have hX62 : rx_B P X62 := rx_B_fr hX59 (gf_244 rX62) (by decide) (by decide)
        exact ih _ _ _ _ _ _ _ hX62 g
    · unfold gxT_237_144 at g
      rcases fy_if g with g | g
      · skip
        obtain ⟨w78, X77, rX77, g⟩ := g
        have hX77 : rx_B P X77 := rx_B_fr h (gf_220 rX77) (by decide) (by decide)
        rcases fy_if g with g | g
        · skip
          obtain ⟨w81, X80, rX80, g⟩ := g
          have hX80 : rx_B P X80 := rx_B_fr hX77 (gf_220 rX80) (by decide) (by decide)
          rcases fy_if g with g | g
          · skip
            obtain ⟨w86, X85, rX85, g⟩ := g
            have hX85 : rx_B P X85 := rx_B_fr hX80 (gf_220 rX85) (by decide) (by decide)
            rcases fy_if g with g | g
            · skip
              exact ih _ _ _ _ _ _ _ hX85 g
            · skip
              exact ih _ _ _ _ _ _ _ hX85 g
          · skip
            exact ih _ _ _ _ _ _ _ hX80 g
        · skip
          exact ih _ _ _ _ _ _ _ hX77 g
      · skip
        obtain ⟨w66, X65, rX65, g⟩ := g
        have hX65 : rx_B P X65 := rx_B_fr h (gf_220 rX65) (by decide) (by decide)
        rcases fy_if g with g | g
        · skip
          obtain ⟨w71, X70, rX70, g⟩ := g
          have hX70 : rx_B P X70 := rx_B_fr hX65 (gf_220 rX70) (by decide) (by decide)
          rcases fy_if g with g | g
          · skip
            exact ih _ _ _ _ _ _ _ hX70 g
          · skip
            exact ih _ _ _ _ _ _ _ hX70 g
        · skip
          exact ih _ _ _ _ _ _ _ hX65 g
    · unfold gxT_237_157 at g
      obtain ⟨w120, X119, rX119, g⟩ := g
      have hX119 : rx_B P X119 := rx_B_fr h (gf_243 rX119) (by decide) (by decide)
      rcases fy_if g with g | g
      · skip
        obtain ⟨w130, X129, rX129, g⟩ := g
        have hX129 : rx_B P X129 := rx_B_fr hX119 (gf_244 rX129) (by decide) (by decide)
        exact ih _ _ _ _ _ _ _ hX129 g
      · skip
        obtain ⟨X122, eX122, g⟩ := g
        have hX122 : rx_B P X122 := by rw [eX122]; exact rx_B_w hX119 (Or.inr (by decide))
        obtain ⟨x123, -, g⟩ := g
        obtain ⟨X125, eX125, g⟩ := g
        have hX125 : rx_B P X125 := by rw [eX125]; exact rx_B_w hX122 (Or.inr (by decide))
        obtain ⟨w127, X126, rX126, g⟩ := g
        have hX126 : rx_B P X126 := gb_214 hX125 rX126
        rcases fy_if g with g | g
        · skip
          rw [g.2]; exact hX126
        · skip
          exact ih _ _ _ _ _ _ _ hX126 g
    · unfold gxT_237_205 at g
      obtain ⟨w132, X131, rX131, g⟩ := g
      have hX131 : rx_B P X131 := rx_B_fr h (gf_243 rX131) (by decide) (by decide)
      rcases fy_if g with g | g
      · skip
        exact ih _ _ _ _ _ _ _ hX131 g
      · skip
        obtain ⟨w135, X134, rX134, g⟩ := g
        have hX134 : rx_B P X134 := rx_B_fr hX131 (gf_244 rX134) (by decide) (by decide)
        exact ih _ _ _ _ _ _ _ hX134 g
    · unfold gxT_237_249 at g
      obtain ⟨w93, X92, rX92, g⟩ := g
      have hX92 : rx_B P X92 := rx_B_fr h (gf_243 rX92) (by decide) (by decide)
      rcases fy_if g with g | g
      · skip
        obtain ⟨w98, X97, rX97, g⟩ := g
        have hX97 : rx_B P X97 := rx_B_fr hX92 (gf_220 rX97) (by decide) (by decide)
        rcases fy_if g with g | g
        · skip
          replace g := g.2
          obtain ⟨X102, eX102, g⟩ := g
          have hX102 : rx_B P X102 := by rw [eX102]; exact rx_B_w hX97 (Or.inl (by decide))
          obtain ⟨X103, eX103, g⟩ := g
          have hX103 : rx_B P X103 := by rw [eX103]; exact rx_B_w hX102 (Or.inr (by decide))
          obtain ⟨w105, X104, rX104, g⟩ := g
          have hX104 : rx_B P X104 := gb_214 hX103 rX104
          rcases fy_if g with g | g
          · skip
            rw [g.2]; exact hX104
          · skip
            exact ih _ _ _ _ _ _ _ hX104 g
        · skip
          obtain ⟨w108, X107, rX107, g⟩ := g
          have hX107 : rx_B P X107 := rx_B_fr hX97 (gf_243 rX107) (by decide) (by decide)
          rcases fy_if g with g | g
          · skip
            replace g := g.2
            obtain ⟨X112, eX112, g⟩ := g
            have hX112 : rx_B P X112 := by rw [eX112]; exact rx_B_w hX107 (Or.inl (by decide))
            obtain ⟨X113, eX113, g⟩ := g
            have hX113 : rx_B P X113 := by rw [eX113]; exact rx_B_w hX112 (Or.inr (by decide))
            obtain ⟨w115, X114, rX114, g⟩ := g
            have hX114 : rx_B P X114 := gb_214 hX113 rX114
            rcases fy_if g with g | g
            · skip
              rw [g.2]; exact hX114
            · skip
              exact ih _ _ _ _ _ _ _ hX114 g
          · skip
            obtain ⟨w118, X117, rX117, g⟩ := g
            have hX117 : rx_B P X117 := rx_B_fr hX107 (gf_244 rX117) (by decide) (by decide)
            exact ih _ _ _ _ _ _ _ hX117 g
      · skip
        obtain ⟨w96, X95, rX95, g⟩ := g
        have hX95 : rx_B P X95 := rx_B_fr hX92 (gf_244 rX95) (by decide) (by decide)
        exact ih _ _ _ _ _ _ _ hX95 g
    · unfold gxT_237_329 at g
      rcases fy_if g with g | g
      · skip
        obtain ⟨w13, X12, rX12, g⟩ := g
        have hX12 : rx_B P X12 := rx_B_fr h (gf_244 rX12) (by decide) (by decide)
        exact ih _ _ _ _ _ _ _ hX12 g
      · skip
        rw [g.2]; exact h
theorem gb_237 {P : md_P} {X : fx_X} {v : Int32} {X' : fx_X} (h : rx_B P X) (g : gx_237 X v X') : rx_B P X' := by
  obtain ⟨n, g⟩ := g
  unfold gxE_237 at g
  obtain ⟨X2, eX2, g⟩ := g
  have hX2 : rx_B P X2 := by rw [eX2]; exact rx_B_w h (Or.inr (by decide))
  obtain ⟨X3, eX3, g⟩ := g
  have hX3 : rx_B P X3 := by rw [eX3]; exact rx_B_w hX2 (Or.inr (by decide))
  obtain ⟨X4, eX4, g⟩ := g
  have hX4 : rx_B P X4 := by rw [eX4]; exact rx_B_w hX3 (Or.inr (by decide))
  exact gbl_237 n _ _ _ _ _ _ _ hX4 g
theorem gbl_246 {P : md_P} : ∀ (n l : Nat) (is : List Int32) (ls : List Int64) (rs : List Nat) (X : fx_X) (v : Int32) (X' : fx_X), rx_B P X → gxF_246 n l is ls rs X v X' → rx_B P X' := by
  intro n
  induction n with
  | zero => intro l is ls rs X v X' h g; exact g.elim
  | succ n ih =>
    intro l is ls rs X v X' h g
    rcases g with ⟨-, y1, y2, y3, y4, -, -, -, g⟩ | ⟨-, y1, y3, y4, -, -, -, g⟩
    · unfold gxT_246_91 at g
      replace g := g.2
      rcases fy_if g with g | g
      · skip
        obtain ⟨w35, X34, rX34, g⟩ := g
        have hX34 : rx_B P X34 := rx_B_fr h (gf_227 rX34) (by decide) (by decide)
        obtain ⟨w37, X36, rX36, g⟩ := g
        have hX36 : rx_B P X36 := rx_B_fr hX34 (gf_228 rX36) (by decide) (by decide)
        obtain ⟨x38, -, g⟩ := g
        exact ih _ _ _ _ _ _ _ hX36 g
      · skip
        replace g := g.2
        replace g := g.2
        obtain ⟨X30, eX30, g⟩ := g
        have hX30 : rx_B P X30 := by rw [eX30]; exact rx_B_w h (Or.inl (by decide))
        exact ih _ _ _ _ _ _ _ hX30 g
    · unfold gxT_246_147 at g
      replace g := g.2
      rcases fy_if g with g | g
      · skip
        rcases fy_if g with g | g
        · skip
          obtain ⟨w52, X51, rX51, g⟩ := g
          have hX51 : rx_B P X51 := rx_B_fr h (gf_247 rX51) (by decide) (by decide)
          rcases fy_if g with g | g
          · skip
            obtain ⟨x55, -, g⟩ := g
            exact ih _ _ _ _ _ _ _ hX51 g
          · skip
            obtain ⟨x58, -, g⟩ := g
            exact ih _ _ _ _ _ _ _ hX51 g
        · skip
          obtain ⟨x49, -, g⟩ := g
          exact ih _ _ _ _ _ _ _ h g
      · skip
        rcases fy_if g with g | g
        · skip
          obtain ⟨w45, X44, rX44, g⟩ := g
          have hX44 : rx_B P X44 := rx_B_215 h (by decide) rX44
          rcases fy_if g with g | g
          · skip
            rw [g.2]; exact hX44
          · skip
            rw [g.2]; exact hX44
        · skip
          rw [g.2]; exact h
theorem gb_246 {P : md_P} {X : fx_X} {v : Int32} {X' : fx_X} (h : rx_B P X) (g : gx_246 X v X') : rx_B P X' := by
  obtain ⟨n, g⟩ := g
  unfold gxE_246 at g
  obtain ⟨x2, -, g⟩ := g
  rcases fy_if g with g | g
  · skip
    obtain ⟨w23, X22, rX22, g⟩ := g
    have hX22 : rx_B P X22 := rx_B_215 h (by decide) rX22
    rw [g.2]; exact hX22
  · skip
    obtain ⟨X5, eX5, g⟩ := g
    have hX5 : rx_B P X5 := by rw [eX5]; exact rx_B_w h (Or.inr (by decide))
    obtain ⟨w7, X6, rX6, g⟩ := g
    have hX6 : rx_B P X6 := gb_214 hX5 rX6
    rcases fy_if g with g | g
    · skip
      rw [g.2]; exact hX6
    · skip
      obtain ⟨w10, X9, rX9, g⟩ := g
      have hX9 : rx_B P X9 := gb_237 hX6 rX9
      rcases fy_if g with g | g
      · skip
        rw [g.2]; exact hX9
      · skip
        obtain ⟨w13, X12, rX12, g⟩ := g
        have hX12 : rx_B P X12 := gb_219 hX9 rX12
        rcases fy_if g with g | g
        · skip
          rw [g.2]; exact hX12
        · skip
          rcases fy_if g with g | g
          · skip
            rw [g.2]; exact hX12
          · skip
            replace g := g.2
            obtain ⟨x18, -, g⟩ := g
            exact gbl_246 n _ _ _ _ _ _ _ hX12 g
theorem gbl_234 {P : md_P} : ∀ (n l : Nat) (is : List Int32) (ls : List Int64) (rs : List Nat) (X : fx_X) (v : Int32) (X' : fx_X), rx_B P X → gxF_234 n l is ls rs X v X' → rx_B P X' := by
  intro n
  induction n with
  | zero => intro l is ls rs X v X' h g; exact g.elim
  | succ n ih =>
    intro l is ls rs X v X' h g
    rcases g with ⟨-, y1, y2, -, -, -, g⟩ | ⟨-, y1, y2, y3, -, -, -, g⟩ | ⟨-, y1, y2, y3, y4, y5, -, -, -, g⟩ | ⟨-, y1, y2, y3, y4, -, -, -, g⟩ | ⟨-, y1, y2, -, -, -, g⟩ | ⟨-, y1, y2, y6, -, -, -, g⟩ | ⟨-, y1, y2, y6, y7, -, -, -, g⟩ | ⟨-, y1, y2, -, -, -, g⟩
    · unfold gxT_234_86 at g
      obtain ⟨w27, X26, rX26, g⟩ := g
      have hX26 : rx_B P X26 := gb_216 h rX26
      rcases fy_if g with g | g
      · skip
        rw [g.2]; exact hX26
      · skip
        obtain ⟨x29, -, g⟩ := g
        rcases fy_if g with g | g
        · skip
          obtain ⟨w38, X37, rX37, g⟩ := g
          have hX37 : rx_B P X37 := rx_B_218 hX26 (by decide) rX37
          exact ih _ _ _ _ _ _ _ hX37 g
        · skip
          replace g := g.2
          rcases fy_if g with g | g
          · skip
            exact ih _ _ _ _ _ _ _ hX26 g
          · skip
            obtain ⟨w36, X35, rX35, g⟩ := g
            have hX35 : rx_B P X35 := rx_B_218 hX26 (by decide) rX35
            exact ih _ _ _ _ _ _ _ hX35 g
    · unfold gxT_234_128 at g
      obtain ⟨w40, X39, rX39, g⟩ := g
      have hX39 : rx_B P X39 := gb_219 h rX39
      rcases fy_if g with g | g
      · skip
        rw [g.2]; exact hX39
      · skip
        exact ih _ _ _ _ _ _ _ hX39 g
    · unfold gxT_234_145 at g
      rcases fy_if g with g | g
      · skip
        obtain ⟨w46, X45, rX45, g⟩ := g
        have hX45 : rx_B P X45 := gb_219 h rX45
        rcases fy_if g with g | g
        · skip
          rw [g.2]; exact hX45
        · skip
          rcases fy_if g with g | g
          · skip
            exact ih _ _ _ _ _ _ _ hX45 g
          · skip
            replace g := g.2
            rcases fy_if g with g | g
            · skip
              replace g := g.2
              rcases fy_if g with g | g
              · skip
                exact ih _ _ _ _ _ _ _ hX45 g
              · skip
                obtain ⟨w56, X55, rX55, g⟩ := g
                have hX55 : rx_B P X55 := rx_B_218 hX45 (by decide) rX55
                exact ih _ _ _ _ _ _ _ hX55 g
            · skip
              exact ih _ _ _ _ _ _ _ hX45 g
      · skip
        rcases fy_if g with g | g
        · skip
          obtain ⟨w59, X58, rX58, g⟩ := g
          have hX58 : rx_B P X58 := gb_235 h rX58
          rcases fy_if g with g | g
          · skip
            rw [g.2]; exact hX58
          · skip
            rcases fy_if g with g | g
            · skip
              exact ih _ _ _ _ _ _ _ hX58 g
            · skip
              replace g := g.2
              obtain ⟨w66, X65, rX65, g⟩ := g
              have hX65 : rx_B P X65 := rx_B_fr hX58 (gf_236 rX65) (by decide) (by decide)
              replace g := g.2
              obtain ⟨X68, eX68, g⟩ := g
              have hX68 : rx_B P X68 := by rw [eX68]; exact rx_B_w hX65 (Or.inl (by decide))
              replace g := g.2
              obtain ⟨w73, X72, rX72, g⟩ := g
              have hX72 : rx_B P X72 := rx_B_fr hX68 (gf_236 rX72) (by decide) (by decide)
              replace g := g.2
              obtain ⟨X75, eX75, g⟩ := g
              have hX75 : rx_B P X75 := by rw [eX75]; exact rx_B_w hX72 (Or.inl (by decide))
              exact ih _ _ _ _ _ _ _ hX75 g
        · skip
          obtain ⟨w77, X76, rX76, g⟩ := g
          have hX76 : rx_B P X76 := rx_B_fr h (gf_220 rX76) (by decide) (by decide)
          rcases fy_if g with g | g
          · skip
            obtain ⟨w98, X97, rX97, g⟩ := g
            have hX97 : rx_B P X97 := rx_B_fr hX76 (gf_220 rX97) (by decide) (by decide)
            rcases fy_if g with g | g
            · skip
              obtain ⟨w119, X118, rX118, g⟩ := g
              have hX118 : rx_B P X118 := rx_B_215 hX97 (by decide) rX118
              rw [g.2]; exact hX118
            · skip
              obtain ⟨w101, X100, rX100, g⟩ := g
              have hX100 : rx_B P X100 := gb_235 hX97 rX100
              rcases fy_if g with g | g
              · skip
                rw [g.2]; exact hX100
              · skip
                rcases fy_if g with g | g
                · skip
                  exact ih _ _ _ _ _ _ _ hX100 g
                · skip
                  replace g := g.2
                  obtain ⟨w108, X107, rX107, g⟩ := g
                  have hX107 : rx_B P X107 := rx_B_fr hX100 (gf_236 rX107) (by decide) (by decide)
                  replace g := g.2
                  obtain ⟨X110, eX110, g⟩ := g
                  have hX110 : rx_B P X110 := by rw [eX110]; exact rx_B_w hX107 (Or.inl (by decide))
                  replace g := g.2
                  obtain ⟨w115, X114, rX114, g⟩ := g
                  have hX114 : rx_B P X114 := rx_B_fr hX110 (gf_236 rX114) (by decide) (by decide)
                  replace g := g.2
                  obtain ⟨X117, eX117, g⟩ := g
                  have hX117 : rx_B P X117 := by rw [eX117]; exact rx_B_w hX114 (Or.inl (by decide))
                  exact ih _ _ _ _ _ _ _ hX117 g
          · skip
            obtain ⟨w80, X79, rX79, g⟩ := g
            have hX79 : rx_B P X79 := gb_235 hX76 rX79
            rcases fy_if g with g | g
            · skip
              rw [g.2]; exact hX79
            · skip
              rcases fy_if g with g | g
              · skip
                exact ih _ _ _ _ _ _ _ hX79 g
              · skip
                replace g := g.2
                obtain ⟨w87, X86, rX86, g⟩ := g
                have hX86 : rx_B P X86 := rx_B_fr hX79 (gf_236 rX86) (by decide) (by decide)
                replace g := g.2
                obtain ⟨X89, eX89, g⟩ := g
                have hX89 : rx_B P X89 := by rw [eX89]; exact rx_B_w hX86 (Or.inl (by decide))
                replace g := g.2
                obtain ⟨w94, X93, rX93, g⟩ := g
                have hX93 : rx_B P X93 := rx_B_fr hX89 (gf_236 rX93) (by decide) (by decide)
                replace g := g.2
                obtain ⟨X96, eX96, g⟩ := g
                have hX96 : rx_B P X96 := by rw [eX96]; exact rx_B_w hX93 (Or.inl (by decide))
                exact ih _ _ _ _ _ _ _ hX96 g
    · unfold gxT_234_245 at g
      obtain ⟨x130, -, g⟩ := g
      obtain ⟨w133, X132, rX132, g⟩ := g
      have hX132 : rx_B P X132 := rx_B_fr h (gf_220 rX132) (by decide) (by decide)
      rcases fy_if g with g | g
      · skip
        exact ih _ _ _ _ _ _ _ hX132 g
      · skip
        obtain ⟨w137, X136, rX136, g⟩ := g
        have hX136 : rx_B P X136 := gb_214 hX132 rX136
        rcases fy_if g with g | g
        · skip
          rw [g.2]; exact hX136
        · skip
          exact ih _ _ _ _ _ _ _ hX136 g
    · unfold gxT_234_311 at g
      obtain ⟨w121, X120, rX120, g⟩ := g
      have hX120 : rx_B P X120 := rx_B_fr h (gf_212 rX120) (by decide) (by decide)
      rcases fy_if g with g | g
      · skip
        exact ih _ _ _ _ _ _ _ hX120 g
      · skip
        obtain ⟨w125, X124, rX124, g⟩ := g
        have hX124 : rx_B P X124 := gb_214 hX120 rX124
        rcases fy_if g with g | g
        · skip
          rw [g.2]; exact hX124
        · skip
          obtain ⟨w128, X127, rX127, g⟩ := g
          have hX127 : rx_B P X127 := gb_237 hX124 rX127
          rcases fy_if g with g | g
          · skip
            rw [g.2]; exact hX127
          · skip
            exact ih _ _ _ _ _ _ _ hX127 g
    · unfold gxT_234_339 at g
      obtain ⟨w140, X139, rX139, g⟩ := g
      have hX139 : rx_B P X139 := gb_219 h rX139
      rcases fy_if g with g | g
      · skip
        rw [g.2]; exact hX139
      · skip
        exact ih _ _ _ _ _ _ _ hX139 g
    · unfold gxT_234_353 at g
      rcases fy_if g with g | g
      · skip
        exact ih _ _ _ _ _ _ _ h g
      · skip
        replace g := g.2
        rcases fy_if g with g | g
        · skip
          replace g := g.2
          obtain ⟨w151, X150, rX150, g⟩ := g
          have hX150 : rx_B P X150 := rx_B_fr h (gf_225 rX150) (by decide) (by decide)
          rcases fy_if g with g | g
          · skip
            obtain ⟨w154, X153, rX153, g⟩ := g
            have hX153 : rx_B P X153 := rx_B_fr hX150 (gf_228 rX153) (by decide) (by decide)
            obtain ⟨x155, -, g⟩ := g
            exact ih _ _ _ _ _ _ _ hX153 g
          · skip
            obtain ⟨w159, X158, rX158, g⟩ := g
            have hX158 : rx_B P X158 := rx_B_fr hX150 (gf_227 rX158) (by decide) (by decide)
            rcases fy_if g with g | g
            · skip
              obtain ⟨w162, X161, rX161, g⟩ := g
              have hX161 : rx_B P X161 := rx_B_fr hX158 (gf_228 rX161) (by decide) (by decide)
              obtain ⟨x163, -, g⟩ := g
              exact ih _ _ _ _ _ _ _ hX161 g
            · skip
              obtain ⟨w166, X165, rX165, g⟩ := g
              have hX165 : rx_B P X165 := rx_B_fr hX158 (gf_228 rX165) (by decide) (by decide)
              obtain ⟨x167, -, g⟩ := g
              exact ih _ _ _ _ _ _ _ hX165 g
        · skip
          exact ih _ _ _ _ _ _ _ h g
    · unfold gxT_234_423 at g
      rcases fy_if g with g | g
      · skip
        rw [g.2]; exact h
      · skip
        replace g := g.2
        rcases fy_if g with g | g
        · skip
          replace g := g.2
          replace g := g.2
          obtain ⟨X176, eX176, g⟩ := g
          have hX176 : rx_B P X176 := by rw [eX176]; exact rx_B_w h (Or.inl (by decide))
          rw [g.2]; exact hX176
        · skip
          rw [g.2]; exact h
theorem gb_234 {P : md_P} {X : fx_X} {v : Int32} {X' : fx_X} (h : rx_B P X) (g : gx_234 X v X') : rx_B P X' := by
  obtain ⟨n, g⟩ := g
  unfold gxE_234 at g
  obtain ⟨w3, X2, rX2, g⟩ := g
  have hX2 : rx_B P X2 := gb_214 h rX2
  rcases fy_if g with g | g
  · skip
    rw [g.2]; exact hX2
  · skip
    rcases fy_if g with g | g
    · skip
      obtain ⟨w11, X10, rX10, g⟩ := g
      have hX10 : rx_B P X10 := rx_B_fr hX2 (gf_210 rX10) (by decide) (by decide)
      obtain ⟨w13, X12, rX12, g⟩ := g
      have hX12 : rx_B P X12 := rx_B_fr hX10 (gf_231 rX12) (by decide) (by decide)
      obtain ⟨x15, -, g⟩ := g
      rcases fy_if g with g | g
      · skip
        exact gbl_234 n _ _ _ _ _ _ _ hX12 g
      · skip
        replace g := g.2
        rcases fy_if g with g | g
        · skip
          replace g := g.2
          rcases fy_if g with g | g
          · skip
            obtain ⟨w25, X24, rX24, g⟩ := g
            have hX24 : rx_B P X24 := rx_B_215 hX12 (by decide) rX24
            rw [g.2]; exact hX24
          · skip
            exact gbl_234 n _ _ _ _ _ _ _ hX12 g
        · skip
          exact gbl_234 n _ _ _ _ _ _ _ hX12 g
    · skip
      obtain ⟨x7, -, g⟩ := g
      exact gbl_234 n _ _ _ _ _ _ _ hX2 g
theorem gb_232 {P : md_P} {p1 : Int32} {X : fx_X} {v : Int32} {X' : fx_X} (h : rx_B P X) (g : gx_232 p1 X v X') : rx_B P X' := by
  unfold gx_232 at g
  rcases fy_if g with g | g
  · skip
    replace g := g.2
    rcases fy_if g with g | g
    · skip
      obtain ⟨w59, X58, rX58, g⟩ := g
      have hX58 : rx_B P X58 := rx_B_215 h (by decide) rX58
      rw [g.2]; exact hX58
    · skip
      obtain ⟨w33, X32, rX32, g⟩ := g
      have hX32 : rx_B P X32 := gb_216 h rX32
      rcases fy_if g with g | g
      · skip
        rw [g.2]; exact hX32
      · skip
        obtain ⟨w36, X35, rX35, g⟩ := g
        have hX35 : rx_B P X35 := rx_B_fr hX32 (gf_233 rX35) (by decide) (by decide)
        rcases fy_if g with g | g
        · skip
          replace g := g.2
          replace g := g.2
          obtain ⟨X42, eX42, g⟩ := g
          have hX42 : rx_B P X42 := by rw [eX42]; exact hX35
          replace g := g.2
          replace g := g.2
          obtain ⟨X46, eX46, g⟩ := g
          have hX46 : rx_B P X46 := by rw [eX46]; exact rx_B_w hX42 (Or.inl (by decide))
          rw [g.2]; exact hX46
        · skip
          obtain ⟨w48, X47, rX47, g⟩ := g
          have hX47 : rx_B P X47 := rx_B_218 hX35 (by decide) rX47
          replace g := g.2
          replace g := g.2
          obtain ⟨X53, eX53, g⟩ := g
          have hX53 : rx_B P X53 := by rw [eX53]; exact hX47
          replace g := g.2
          replace g := g.2
          obtain ⟨X57, eX57, g⟩ := g
          have hX57 : rx_B P X57 := by rw [eX57]; exact rx_B_w hX53 (Or.inl (by decide))
          rw [g.2]; exact hX57
  · skip
    obtain ⟨w4, X3, rX3, g⟩ := g
    have hX3 : rx_B P X3 := gb_216 h rX3
    rcases fy_if g with g | g
    · skip
      rw [g.2]; exact hX3
    · skip
      obtain ⟨w7, X6, rX6, g⟩ := g
      have hX6 : rx_B P X6 := rx_B_fr hX3 (gf_233 rX6) (by decide) (by decide)
      rcases fy_if g with g | g
      · skip
        replace g := g.2
        replace g := g.2
        obtain ⟨X13, eX13, g⟩ := g
        have hX13 : rx_B P X13 := by rw [eX13]; exact hX6
        replace g := g.2
        replace g := g.2
        obtain ⟨X17, eX17, g⟩ := g
        have hX17 : rx_B P X17 := by rw [eX17]; exact rx_B_w hX13 (Or.inl (by decide))
        rw [g.2]; exact hX17
      · skip
        obtain ⟨w19, X18, rX18, g⟩ := g
        have hX18 : rx_B P X18 := rx_B_218 hX6 (by decide) rX18
        replace g := g.2
        replace g := g.2
        obtain ⟨X24, eX24, g⟩ := g
        have hX24 : rx_B P X24 := by rw [eX24]; exact hX18
        replace g := g.2
        replace g := g.2
        obtain ⟨X28, eX28, g⟩ := g
        have hX28 : rx_B P X28 := by rw [eX28]; exact rx_B_w hX24 (Or.inl (by decide))
        rw [g.2]; exact hX28
theorem gbl_229 {P : md_P} : ∀ (n l : Nat) (is : List Int32) (ls : List Int64) (rs : List Nat) (X : fx_X) (v : Int32) (X' : fx_X), rx_B P X → gxF_229 n l is ls rs X v X' → rx_B P X' := by
  intro n
  induction n with
  | zero => intro l is ls rs X v X' h g; exact g.elim
  | succ n ih =>
    intro l is ls rs X v X' h g
    rcases g with ⟨-, y1, -, -, -, g⟩
    · unfold gxT_229_61 at g
      obtain ⟨w22, X21, rX21, g⟩ := g
      have hX21 : rx_B P X21 := rx_B_fr h (gf_220 rX21) (by decide) (by decide)
      rcases fy_if g with g | g
      · skip
        obtain ⟨w25, X24, rX24, g⟩ := g
        have hX24 : rx_B P X24 := gb_219 hX21 rX24
        rcases fy_if g with g | g
        · skip
          rw [g.2]; exact hX24
        · skip
          obtain ⟨w28, X27, rX27, g⟩ := g
          have hX27 : rx_B P X27 := gb_219 hX24 rX27
          rcases fy_if g with g | g
          · skip
            rw [g.2]; exact hX27
          · skip
            replace g := g.2
            replace g := g.2
            obtain ⟨X33, eX33, g⟩ := g
            have hX33 : rx_B P X33 := by rw [eX33]; exact rx_B_w hX27 (Or.inl (by decide))
            rw [g.2]; exact hX33
      · skip
        obtain ⟨w35, X34, rX34, g⟩ := g
        have hX34 : rx_B P X34 := gb_214 hX21 rX34
        rcases fy_if g with g | g
        · skip
          rw [g.2]; exact hX34
        · skip
          obtain ⟨w38, X37, rX37, g⟩ := g
          have hX37 : rx_B P X37 := gb_232 hX34 rX37
          rcases fy_if g with g | g
          · skip
            rw [g.2]; exact hX37
          · skip
            exact ih _ _ _ _ _ _ _ hX37 g
theorem gb_229 {P : md_P} {X : fx_X} {v : Int32} {X' : fx_X} (h : rx_B P X) (g : gx_229 X v X') : rx_B P X' := by
  obtain ⟨n, g⟩ := g
  unfold gxE_229 at g
  obtain ⟨w3, X2, rX2, g⟩ := g
  have hX2 : rx_B P X2 := gb_230 h rX2
  rcases fy_if g with g | g
  · skip
    rw [g.2]; exact hX2
  · skip
    replace g := g.2
    obtain ⟨x7, -, g⟩ := g
    replace g := g.2
    obtain ⟨X11, eX11, g⟩ := g
    have hX11 : rx_B P X11 := by rw [eX11]; exact rx_B_w hX2 (Or.inl (by decide))
    replace g := g.2
    obtain ⟨X14, eX14, g⟩ := g
    have hX14 : rx_B P X14 := by rw [eX14]; exact rx_B_w hX11 (Or.inl (by decide))
    obtain ⟨w16, X15, rX15, g⟩ := g
    have hX15 : rx_B P X15 := gb_219 hX14 rX15
    rcases fy_if g with g | g
    · skip
      rw [g.2]; exact hX15
    · skip
      obtain ⟨w19, X18, rX18, g⟩ := g
      have hX18 : rx_B P X18 := gb_232 hX15 rX18
      rcases fy_if g with g | g
      · skip
        rw [g.2]; exact hX18
      · skip
        exact gbl_229 n _ _ _ _ _ _ _ hX18 g
theorem gbl_223 {P : md_P} (p1 : Int32) : ∀ (n l : Nat) (is : List Int32) (ls : List Int64) (rs : List Nat) (X : fx_X) (v : Int32) (X' : fx_X), rx_B P X → gxF_223 p1 n l is ls rs X v X' → rx_B P X' := by
  intro n
  induction n with
  | zero => intro l is ls rs X v X' h g; exact g.elim
  | succ n ih =>
    intro l is ls rs X v X' h g
    rcases g with ⟨-, -, -, -, g⟩ | ⟨-, y2, -, -, -, g⟩
    · unfold gxT_223_0 at g
      obtain ⟨w49, X48, rX48, g⟩ := g
      have hX48 : rx_B P X48 := rx_B_fr h (gf_220 rX48) (by decide) (by decide)
      rcases fy_if g with g | g
      · skip
        rw [g.2]; exact hX48
      · skip
        obtain ⟨w52, X51, rX51, g⟩ := g
        have hX51 : rx_B P X51 := gb_214 hX48 rX51
        rcases fy_if g with g | g
        · skip
          rw [g.2]; exact hX51
        · skip
          replace g := g.2
          rcases fy_if g with g | g
          · skip
            rcases fy_if g with g | g
            · skip
              obtain ⟨w63, X62, rX62, g⟩ := g
              have hX62 : rx_B P X62 := rx_B_215 hX51 (by decide) rX62
              rw [g.2]; exact hX62
            · skip
              obtain ⟨w65, X64, rX64, g⟩ := g
              have hX64 : rx_B P X64 := rx_B_fr hX51 (gf_220 rX64) (by decide) (by decide)
              rcases fy_if g with g | g
              · skip
                obtain ⟨w68, X67, rX67, g⟩ := g
                have hX67 : rx_B P X67 := gb_221 hX64 rX67
                rcases fy_if g with g | g
                · skip
                  rw [g.2]; exact hX67
                · skip
                  exact ih _ _ _ _ _ _ _ hX67 g
              · skip
                obtain ⟨w72, X71, rX71, g⟩ := g
                have hX71 : rx_B P X71 := rx_B_215 hX64 (by decide) rX71
                rw [g.2]; exact hX71
          · skip
            obtain ⟨w58, X57, rX57, g⟩ := g
            have hX57 : rx_B P X57 := gb_221 hX51 rX57
            rcases fy_if g with g | g
            · skip
              rw [g.2]; exact hX57
            · skip
              exact ih _ _ _ _ _ _ _ hX57 g
    · unfold gxT_223_67 at g
      replace g := g.2
      rcases fy_if g with g | g
      · skip
        replace g := g.2
        rcases fy_if g with g | g
        · skip
          obtain ⟨w45, X44, rX44, g⟩ := g
          have hX44 : rx_B P X44 := rx_B_218 h (by decide) rX44
          obtain ⟨x46, -, g⟩ := g
          exact ih _ _ _ _ _ _ _ hX44 g
        · skip
          obtain ⟨x42, -, g⟩ := g
          exact ih _ _ _ _ _ _ _ h g
      · skip
        replace g := g.2
        replace g := g.2
        obtain ⟨X34, eX34, g⟩ := g
        have hX34 : rx_B P X34 := by rw [eX34]; exact rx_B_w h (Or.inl (by decide))
        replace g := g.2
        replace g := g.2
        obtain ⟨X38, eX38, g⟩ := g
        have hX38 : rx_B P X38 := by rw [eX38]; exact rx_B_w hX34 (Or.inl (by decide))
        exact ih _ _ _ _ _ _ _ hX38 g
theorem gb_223 {P : md_P} {p1 : Int32} {X : fx_X} {v : Int32} {X' : fx_X} (h : rx_B P X) (g : gx_223 p1 X v X') : rx_B P X' := by
  obtain ⟨n, g⟩ := g
  unfold gxE_223 at g
  obtain ⟨w3, X2, rX2, g⟩ := g
  have hX2 : rx_B P X2 := rx_B_fr h (gf_220 rX2) (by decide) (by decide)
  rcases fy_if g with g | g
  · skip
    rw [g.2]; exact hX2
  · skip
    obtain ⟨w6, X5, rX5, g⟩ := g
    have hX5 : rx_B P X5 := gb_214 hX2 rX5
    rcases fy_if g with g | g
    · skip
      rw [g.2]; exact hX5
    · skip
      replace g := g.2
      rcases fy_if g with g | g
      · skip
        rcases fy_if g with g | g
        · skip
          obtain ⟨w17, X16, rX16, g⟩ := g
          have hX16 : rx_B P X16 := rx_B_215 hX5 (by decide) rX16
          rw [g.2]; exact hX16
        · skip
          obtain ⟨w19, X18, rX18, g⟩ := g
          have hX18 : rx_B P X18 := rx_B_fr hX5 (gf_220 rX18) (by decide) (by decide)
          rcases fy_if g with g | g
          · skip
            obtain ⟨w22, X21, rX21, g⟩ := g
            have hX21 : rx_B P X21 := gb_221 hX18 rX21
            rcases fy_if g with g | g
            · skip
              rw [g.2]; exact hX21
            · skip
              exact gbl_223 _ n _ _ _ _ _ _ _ hX21 g
          · skip
            obtain ⟨w26, X25, rX25, g⟩ := g
            have hX25 : rx_B P X25 := rx_B_215 hX18 (by decide) rX25
            rw [g.2]; exact hX25
      · skip
        obtain ⟨w12, X11, rX11, g⟩ := g
        have hX11 : rx_B P X11 := gb_221 hX5 rX11
        rcases fy_if g with g | g
        · skip
          rw [g.2]; exact hX11
        · skip
          exact gbl_223 _ n _ _ _ _ _ _ _ hX11 g
theorem gbl_222 {P : md_P} (p1 : Int32) : ∀ (n l : Nat) (is : List Int32) (ls : List Int64) (rs : List Nat) (X : fx_X) (v : Int32) (X' : fx_X), rx_B P X → gxF_222 p1 n l is ls rs X v X' → rx_B P X' := by
  intro n
  induction n with
  | zero => intro l is ls rs X v X' h g; exact g.elim
  | succ n ih =>
    intro l is ls rs X v X' h g
    rcases g with ⟨-, y2, y3, -, -, -, g⟩
    · unfold gxT_222_72 at g
      replace g := g.2
      rcases fy_if g with g | g
      · skip
        replace g := g.2
        obtain ⟨X27, eX27, g⟩ := g
        have hX27 : rx_B P X27 := by rw [eX27]; exact rx_B_w h (Or.inl (by decide))
        obtain ⟨x28, -, g⟩ := g
        exact ih _ _ _ _ _ _ _ hX27 g
      · skip
        rw [g.2]; exact h
theorem gb_222 {P : md_P} {p1 : Int32} {X : fx_X} {v : Int32} {X' : fx_X} (h : rx_B P X) (g : gx_222 p1 X v X') : rx_B P X' := by
  obtain ⟨n, g⟩ := g
  unfold gxE_222 at g
  obtain ⟨w3, X2, rX2, g⟩ := g
  have hX2 : rx_B P X2 := gb_214 h rX2
  rcases fy_if g with g | g
  · skip
    rw [g.2]; exact hX2
  · skip
    obtain ⟨w6, X5, rX5, g⟩ := g
    have hX5 : rx_B P X5 := gb_221 hX2 rX5
    rcases fy_if g with g | g
    · skip
      rw [g.2]; exact hX5
    · skip
      replace g := g.2
      obtain ⟨x10, -, g⟩ := g
      rcases fy_if g with g | g
      · skip
        obtain ⟨w14, X13, rX13, g⟩ := g
        have hX13 : rx_B P X13 := rx_B_218 hX5 (by decide) rX13
        rw [g.2]; exact hX13
      · skip
        rcases fy_if g with g | g
        · skip
          obtain ⟨w21, X20, rX20, g⟩ := g
          have hX20 : rx_B P X20 := rx_B_218 hX5 (by decide) rX20
          rw [g.2]; exact hX20
        · skip
          replace g := g.2
          obtain ⟨X18, eX18, g⟩ := g
          have hX18 : rx_B P X18 := by rw [eX18]; exact rx_B_w hX5 (Or.inl (by decide))
          exact gbl_222 _ n _ _ _ _ _ _ _ hX18 g
theorem gbl_213 {P : md_P} : ∀ (n l : Nat) (is : List Int32) (ls : List Int64) (rs : List Nat) (X : fx_X) (v : Int32) (X' : fx_X), rx_B P X → gxF_213 n l is ls rs X v X' → rx_B P X' := by
  intro n
  induction n with
  | zero => intro l is ls rs X v X' h g; exact g.elim
  | succ n ih =>
    intro l is ls rs X v X' h g
    rcases g with ⟨-, y1, y2, -, -, -, g⟩ | ⟨-, y1, y2, y5, -, -, -, g⟩
    · unfold gxT_213_94 at g
      obtain ⟨w40, X39, rX39, g⟩ := g
      have hX39 : rx_B P X39 := gb_219 h rX39
      rcases fy_if g with g | g
      · skip
        rw [g.2]; exact hX39
      · skip
        obtain ⟨w43, X42, rX42, g⟩ := g
        have hX42 : rx_B P X42 := gb_221 hX39 rX42
        rcases fy_if g with g | g
        · skip
          rw [g.2]; exact hX42
        · skip
          replace g := g.2
          obtain ⟨X47, eX47, g⟩ := g
          have hX47 : rx_B P X47 := by rw [eX47]; exact rx_B_w hX42 (Or.inl (by decide))
          replace g := g.2
          obtain ⟨X50, eX50, g⟩ := g
          have hX50 : rx_B P X50 := by rw [eX50]; exact rx_B_w hX47 (Or.inl (by decide))
          obtain ⟨w52, X51, rX51, g⟩ := g
          have hX51 : rx_B P X51 := rx_B_fr hX50 (gf_220 rX51) (by decide) (by decide)
          rcases fy_if g with g | g
          · skip
            obtain ⟨w55, X54, rX54, g⟩ := g
            have hX54 : rx_B P X54 := gb_223 hX51 rX54
            rcases fy_if g with g | g
            · skip
              rw [g.2]; exact hX54
            · skip
              replace g := g.2
              replace g := g.2
              obtain ⟨x62, -, g⟩ := g
              obtain ⟨w65, X64, rX64, g⟩ := g
              have hX64 : rx_B P X64 := rx_B_fr hX54 (gf_220 rX64) (by decide) (by decide)
              rcases fy_if g with g | g
              · skip
                exact ih _ _ _ _ _ _ _ hX64 g
              · skip
                rcases fy_if g with g | g
                · skip
                  obtain ⟨w69, X68, rX68, g⟩ := g
                  have hX68 : rx_B P X68 := rx_B_218 hX64 (by decide) rX68
                  exact ih _ _ _ _ _ _ _ hX68 g
                · skip
                  exact ih _ _ _ _ _ _ _ hX64 g
          · skip
            obtain ⟨w71, X70, rX70, g⟩ := g
            have hX70 : rx_B P X70 := gb_222 hX51 rX70
            rcases fy_if g with g | g
            · skip
              rw [g.2]; exact hX70
            · skip
              replace g := g.2
              replace g := g.2
              obtain ⟨x78, -, g⟩ := g
              obtain ⟨w81, X80, rX80, g⟩ := g
              have hX80 : rx_B P X80 := rx_B_fr hX70 (gf_220 rX80) (by decide) (by decide)
              rcases fy_if g with g | g
              · skip
                exact ih _ _ _ _ _ _ _ hX80 g
              · skip
                rcases fy_if g with g | g
                · skip
                  obtain ⟨w85, X84, rX84, g⟩ := g
                  have hX84 : rx_B P X84 := rx_B_218 hX80 (by decide) rX84
                  exact ih _ _ _ _ _ _ _ hX84 g
                · skip
                  exact ih _ _ _ _ _ _ _ hX80 g
    · unfold gxT_213_208 at g
      obtain ⟨w87, X86, rX86, g⟩ := g
      have hX86 : rx_B P X86 := gb_219 h rX86
      rcases fy_if g with g | g
      · skip
        rw [g.2]; exact hX86
      · skip
        replace g := g.2
        obtain ⟨X91, eX91, g⟩ := g
        have hX91 : rx_B P X91 := by rw [eX91]; exact hX86
        replace g := g.2
        replace g := g.2
        obtain ⟨X95, eX95, g⟩ := g
        have hX95 : rx_B P X95 := by rw [eX95]; exact rx_B_w hX91 (Or.inl (by decide))
        rcases fy_if g with g | g
        · skip
          replace g := g.2
          obtain ⟨X104, eX104, g⟩ := g
          have hX104 : rx_B P X104 := by rw [eX104]; exact rx_B_w hX95 (Or.inl (by decide))
          rcases fy_if g with g | g
          · skip
            rw [g.2]; exact hX104
          · skip
            obtain ⟨w107, X106, rX106, g⟩ := g
            have hX106 : rx_B P X106 := rx_B_fr hX104 (gf_224 rX106) (by decide) (by decide)
            rw [g.2]; exact hX106
        · skip
          replace g := g.2
          obtain ⟨X99, eX99, g⟩ := g
          have hX99 : rx_B P X99 := by rw [eX99]; exact rx_B_w hX95 (Or.inl (by decide))
          rcases fy_if g with g | g
          · skip
            rw [g.2]; exact hX99
          · skip
            obtain ⟨w102, X101, rX101, g⟩ := g
            have hX101 : rx_B P X101 := rx_B_fr hX99 (gf_224 rX101) (by decide) (by decide)
            rw [g.2]; exact hX101
theorem gb_213 {P : md_P} {X : fx_X} {v : Int32} {X' : fx_X} (h : rx_B P X) (g : gx_213 X v X') : rx_B P X' := by
  obtain ⟨n, g⟩ := g
  unfold gxE_213 at g
  obtain ⟨w3, X2, rX2, g⟩ := g
  have hX2 : rx_B P X2 := gb_214 h rX2
  rcases fy_if g with g | g
  · skip
    rw [g.2]; exact hX2
  · skip
    rcases fy_if g with g | g
    · skip
      replace g := g.2
      rcases fy_if g with g | g
      · skip
        obtain ⟨w38, X37, rX37, g⟩ := g
        have hX37 : rx_B P X37 := rx_B_215 hX2 (by decide) rX37
        rw [g.2]; exact hX37
      · skip
        obtain ⟨w24, X23, rX23, g⟩ := g
        have hX23 : rx_B P X23 := gb_216 hX2 rX23
        rcases fy_if g with g | g
        · skip
          rw [g.2]; exact hX23
        · skip
          replace g := g.2
          obtain ⟨x28, -, g⟩ := g
          obtain ⟨x30, -, g⟩ := g
          obtain ⟨w33, X32, rX32, g⟩ := g
          have hX32 : rx_B P X32 := rx_B_fr hX23 (gf_217 rX32) (by decide) (by decide)
          rcases fy_if g with g | g
          · skip
            exact gbl_213 n _ _ _ _ _ _ _ hX32 g
          · skip
            obtain ⟨w36, X35, rX35, g⟩ := g
            have hX35 : rx_B P X35 := rx_B_218 hX32 (by decide) rX35
            exact gbl_213 n _ _ _ _ _ _ _ hX35 g
    · skip
      obtain ⟨w7, X6, rX6, g⟩ := g
      have hX6 : rx_B P X6 := gb_216 hX2 rX6
      rcases fy_if g with g | g
      · skip
        rw [g.2]; exact hX6
      · skip
        replace g := g.2
        obtain ⟨x11, -, g⟩ := g
        obtain ⟨x13, -, g⟩ := g
        obtain ⟨w16, X15, rX15, g⟩ := g
        have hX15 : rx_B P X15 := rx_B_fr hX6 (gf_217 rX15) (by decide) (by decide)
        rcases fy_if g with g | g
        · skip
          exact gbl_213 n _ _ _ _ _ _ _ hX15 g
        · skip
          obtain ⟨w19, X18, rX18, g⟩ := g
          have hX18 : rx_B P X18 := rx_B_218 hX15 (by decide) rX18
          exact gbl_213 n _ _ _ _ _ _ _ hX18 g
theorem gbl_204 {P : md_P} : ∀ (n l : Nat) (is : List Int32) (ls : List Int64) (rs : List Nat) (X : fx_X) (v : Int32) (X' : fx_X), rx_B P X → gxF_204 n l is ls rs X v X' → rx_B P X' := by
  intro n
  induction n with
  | zero => intro l is ls rs X v X' h g; exact g.elim
  | succ n ih =>
    intro l is ls rs X v X' h g
    rcases g with ⟨-, -, -, -, g⟩
    · unfold gxT_204_54 at g
      rcases fy_if g with g | g
      · skip
        rcases fy_if g with g | g
        · skip
          rcases fy_if g with g | g
          · skip
            rw [g.2]; exact h
          · skip
            rw [g.2]; exact h
        · skip
          obtain ⟨w24, X23, rX23, g⟩ := g
          have hX23 : rx_B P X23 := rx_B_fr h (gf_212 rX23) (by decide) (by decide)
          rcases fy_if g with g | g
          · skip
            obtain ⟨w27, X26, rX26, g⟩ := g
            have hX26 : rx_B P X26 := rx_B_fr hX23 (gf_212 rX26) (by decide) (by decide)
            rcases fy_if g with g | g
            · skip
              obtain ⟨w30, X29, rX29, g⟩ := g
              have hX29 : rx_B P X29 := rx_B_fr hX26 (gf_212 rX29) (by decide) (by decide)
              rcases fy_if g with g | g
              · skip
                obtain ⟨w33, X32, rX32, g⟩ := g
                have hX32 : rx_B P X32 := rx_B_fr hX29 (gf_212 rX32) (by decide) (by decide)
                rcases fy_if g with g | g
                · skip
                  obtain ⟨w36, X35, rX35, g⟩ := g
                  have hX35 : rx_B P X35 := rx_B_fr hX32 (gf_212 rX35) (by decide) (by decide)
                  rcases fy_if g with g | g
                  · skip
                    obtain ⟨w39, X38, rX38, g⟩ := g
                    have hX38 : rx_B P X38 := rx_B_215 hX35 (by decide) rX38
                    rcases fy_if g with g | g
                    · skip
                      rw [g.2]; exact hX38
                    · skip
                      exact ih _ _ _ _ _ _ _ hX38 g
                  · skip
                    obtain ⟨w43, X42, rX42, g⟩ := g
                    have hX42 : rx_B P X42 := gb_248 hX35 rX42
                    rcases fy_if g with g | g
                    · skip
                      rw [g.2]; exact hX42
                    · skip
                      exact ih _ _ _ _ _ _ _ hX42 g
                · skip
                  obtain ⟨w47, X46, rX46, g⟩ := g
                  have hX46 : rx_B P X46 := gb_246 hX32 rX46
                  rcases fy_if g with g | g
                  · skip
                    rw [g.2]; exact hX46
                  · skip
                    exact ih _ _ _ _ _ _ _ hX46 g
              · skip
                obtain ⟨w51, X50, rX50, g⟩ := g
                have hX50 : rx_B P X50 := gb_234 hX29 rX50
                rcases fy_if g with g | g
                · skip
                  rw [g.2]; exact hX50
                · skip
                  exact ih _ _ _ _ _ _ _ hX50 g
            · skip
              obtain ⟨w55, X54, rX54, g⟩ := g
              have hX54 : rx_B P X54 := gb_229 hX26 rX54
              rcases fy_if g with g | g
              · skip
                rw [g.2]; exact hX54
              · skip
                exact ih _ _ _ _ _ _ _ hX54 g
          · skip
            obtain ⟨w59, X58, rX58, g⟩ := g
            have hX58 : rx_B P X58 := gb_213 hX23 rX58
            rcases fy_if g with g | g
            · skip
              rw [g.2]; exact hX58
            · skip
              exact ih _ _ _ _ _ _ _ hX58 g
      · skip
        rcases fy_if g with g | g
        · skip
          rw [g.2]; exact h
        · skip
          rw [g.2]; exact h
theorem gb_204 {P : md_P} {X : fx_X} {v : Int32} {X' : fx_X} (h : rx_B P X) (g : gx_204 X v X') : rx_B P X' := by
  obtain ⟨n, g⟩ := g
  unfold gxE_204 at g
  replace g := g.2
  obtain ⟨X4, eX4, g⟩ := g
  have hX4 : rx_B P X4 := by rw [eX4]; exact rx_B_w h (Or.inl (by decide))
  replace g := g.2
  obtain ⟨X7, eX7, g⟩ := g
  have hX7 : rx_B P X7 := by rw [eX7]; exact rx_B_w hX4 (Or.inl (by decide))
  replace g := g.2
  obtain ⟨X10, eX10, g⟩ := g
  have hX10 : rx_B P X10 := by rw [eX10]; exact rx_B_w hX7 (Or.inl (by decide))
  replace g := g.2
  obtain ⟨X13, eX13, g⟩ := g
  have hX13 : rx_B P X13 := by rw [eX13]; exact rx_B_w hX10 (Or.inl (by decide))
  replace g := g.2
  obtain ⟨X16, eX16, g⟩ := g
  have hX16 : rx_B P X16 := by rw [eX16]; exact rx_B_w hX13 (Or.inl (by decide))
  obtain ⟨w18, X17, rX17, g⟩ := g
  have hX17 : rx_B P X17 := rx_B_fr hX16 (gf_205 rX17) (by decide) (by decide)
  exact gbl_204 n _ _ _ _ _ _ _ hX17 g
theorem gv_215 {p1 : Int32} {p2 : Int32} {X : fx_X} {v : Int32} {X' : fx_X} (g : gx_215 p1 p2 X v X') : v = Int32.ofInt 0 ∨ v = Int32.ofInt 1 := by
  unfold gx_215 at g
  obtain ⟨X2, -, g⟩ := g
  obtain ⟨X3, -, g⟩ := g
  obtain ⟨X4, -, g⟩ := g
  exact Or.inl g.1
theorem gv_208 {p1 : Int32} {X : fx_X} {v : Int32} {X' : fx_X} (g : gx_208 p1 X v X') : v = Int32.ofInt 0 ∨ v = Int32.ofInt 1 := by
  unfold gx_208 at g
  obtain ⟨w3, X2, rX2, g⟩ := g
  rcases fy_if g with g | g
  · skip
    exact Or.inl g.1
  · skip
    obtain ⟨w6, X5, rX5, g⟩ := g
    rcases fy_if g with g | g
    · skip
      exact Or.inl g.1
    · skip
      exact Or.inr g.1
theorem gv_209 {p1 : Int32} {X : fx_X} {v : Int32} {X' : fx_X} (g : gx_209 p1 X v X') : v = Int32.ofInt 0 ∨ v = Int32.ofInt 1 := by
  unfold gx_209 at g
  obtain ⟨w3, X2, rX2, g⟩ := g
  rcases fy_if g with g | g
  · skip
    exact Or.inl g.1
  · skip
    obtain ⟨w6, X5, rX5, g⟩ := g
    rcases fy_if g with g | g
    · skip
      exact Or.inl g.1
    · skip
      exact Or.inr g.1
theorem gv_214 {X : fx_X} {v : Int32} {X' : fx_X} (g : gx_214 X v X') : v = Int32.ofInt 0 ∨ v = Int32.ofInt 1 := by
  unfold gx_214 at g
  rcases fy_if g with g | g
  · skip
    obtain ⟨w7, X6, rX6, g⟩ := g
    rw [g.1]; exact gv_215 rX6
  · skip
    obtain ⟨X3, -, g⟩ := g
    obtain ⟨w5, X4, rX4, g⟩ := g
    exact Or.inr g.1
theorem gv_216 {X : fx_X} {v : Int32} {X' : fx_X} (g : gx_216 X v X') : v = Int32.ofInt 0 ∨ v = Int32.ofInt 1 := by
  unfold gx_216 at g
  rcases fy_if g with g | g
  · skip
    obtain ⟨w4, X3, rX3, g⟩ := g
    obtain ⟨X5, -, g⟩ := g
    obtain ⟨X6, -, g⟩ := g
    obtain ⟨w8, X7, rX7, g⟩ := g
    rw [g.1]; exact gv_214 rX7
  · skip
    obtain ⟨w10, X9, rX9, g⟩ := g
    rw [g.1]; exact gv_215 rX9
theorem gv_230 {p1 : Int32} {X : fx_X} {v : Int32} {X' : fx_X} (g : gx_230 p1 X v X') : v = Int32.ofInt 0 ∨ v = Int32.ofInt 1 := by
  unfold gx_230 at g
  obtain ⟨w3, X2, rX2, g⟩ := g
  rcases fy_if g with g | g
  · skip
    exact Or.inl g.1
  · skip
    rcases fy_if g with g | g
    · skip
      replace g := g.2
      rcases fy_if g with g | g
      · skip
        obtain ⟨w78, X77, rX77, g⟩ := g
        rw [g.1]; exact gv_215 rX77
      · skip
        obtain ⟨w44, X43, rX43, g⟩ := g
        rcases fy_if g with g | g
        · skip
          exact Or.inl g.1
        · skip
          obtain ⟨w47, X46, rX46, g⟩ := g
          rcases fy_if g with g | g
          · skip
            replace g := g.2
            replace g := g.2
            obtain ⟨X53, -, g⟩ := g
            replace g := g.2
            rcases fy_if g with g | g
            · skip
              replace g := g.2
              obtain ⟨X61, -, g⟩ := g
              exact Or.inr g.1
            · skip
              replace g := g.2
              obtain ⟨X59, -, g⟩ := g
              exact Or.inr g.1
          · skip
            obtain ⟨w63, X62, rX62, g⟩ := g
            replace g := g.2
            replace g := g.2
            obtain ⟨X68, -, g⟩ := g
            replace g := g.2
            rcases fy_if g with g | g
            · skip
              replace g := g.2
              obtain ⟨X76, -, g⟩ := g
              exact Or.inr g.1
            · skip
              replace g := g.2
              obtain ⟨X74, -, g⟩ := g
              exact Or.inr g.1
    · skip
      obtain ⟨w7, X6, rX6, g⟩ := g
      rcases fy_if g with g | g
      · skip
        exact Or.inl g.1
      · skip
        obtain ⟨w10, X9, rX9, g⟩ := g
        rcases fy_if g with g | g
        · skip
          replace g := g.2
          replace g := g.2
          obtain ⟨X16, -, g⟩ := g
          replace g := g.2
          rcases fy_if g with g | g
          · skip
            replace g := g.2
            obtain ⟨X24, -, g⟩ := g
            exact Or.inr g.1
          · skip
            replace g := g.2
            obtain ⟨X22, -, g⟩ := g
            exact Or.inr g.1
        · skip
          obtain ⟨w26, X25, rX25, g⟩ := g
          replace g := g.2
          replace g := g.2
          obtain ⟨X31, -, g⟩ := g
          replace g := g.2
          rcases fy_if g with g | g
          · skip
            replace g := g.2
            obtain ⟨X39, -, g⟩ := g
            exact Or.inr g.1
          · skip
            replace g := g.2
            obtain ⟨X37, -, g⟩ := g
            exact Or.inr g.1
theorem gv_220 {p1 : Int32} {X : fx_X} {v : Int32} {X' : fx_X} (g : gx_220 p1 X v X') : v = Int32.ofInt 0 ∨ v = Int32.ofInt 1 := by
  unfold gx_220 at g
  rcases fy_if g with g | g
  · skip
    rcases fy_if g with g | g
    · skip
      exact Or.inr g.1
    · skip
      exact Or.inl g.1
  · skip
    exact Or.inl g.1
theorem gv_219 {p1 : Int32} {X : fx_X} {v : Int32} {X' : fx_X} (g : gx_219 p1 X v X') : v = Int32.ofInt 0 ∨ v = Int32.ofInt 1 := by
  unfold gx_219 at g
  obtain ⟨w3, X2, rX2, g⟩ := g
  rcases fy_if g with g | g
  · skip
    obtain ⟨w6, X5, rX5, g⟩ := g
    rw [g.1]; exact gv_215 rX5
  · skip
    obtain ⟨w8, X7, rX7, g⟩ := g
    rw [g.1]; exact gv_214 rX7
theorem gv_250 {p1 : Int32} {X : fx_X} {v : Int32} {X' : fx_X} (g : gx_250 p1 X v X') : v = Int32.ofInt 0 ∨ v = Int32.ofInt 1 := by
  unfold gx_250 at g
  obtain ⟨w3, X2, rX2, g⟩ := g
  rcases fy_if g with g | g
  · skip
    exact Or.inl g.1
  · skip
    obtain ⟨w6, X5, rX5, g⟩ := g
    rcases fy_if g with g | g
    · skip
      obtain ⟨w12, X11, rX11, g⟩ := g
      replace g := g.2
      obtain ⟨X15, -, g⟩ := g
      replace g := g.2
      obtain ⟨X18, -, g⟩ := g
      exact Or.inr g.1
    · skip
      obtain ⟨w10, X9, rX9, g⟩ := g
      exact Or.inr g.1
theorem gv_264 {X : fx_X} {v : Int32} {X' : fx_X} (g : gx_264 X v X') : v = Int32.ofInt 0 ∨ v = Int32.ofInt 1 := by
  unfold gx_264 at g
  rcases fy_if g with g | g
  · skip
    obtain ⟨w7, X6, rX6, g⟩ := g
    rw [g.1]; exact gv_215 rX6
  · skip
    obtain ⟨X3, -, g⟩ := g
    obtain ⟨w5, X4, rX4, g⟩ := g
    rw [g.1]; exact gv_214 rX4
theorem gvl_261 (p1 : Int32) (p2 : Int32) : ∀ (n l : Nat) (is : List Int32) (ls : List Int64) (rs : List Nat) (X : fx_X) (v : Int32) (X' : fx_X), gxF_261 p1 p2 n l is ls rs X v X' → v = Int32.ofInt 0 ∨ v = Int32.ofInt 1 := by
  intro n
  induction n with
  | zero => intro l is ls rs X v X' g; exact g.elim
  | succ n ih =>
    intro l is ls rs X v X' g
    rcases g with ⟨-, y3, y4, -, -, -, g⟩ | ⟨-, y3, y5, y6, -, -, -, g⟩
    · unfold gxT_261_51 at g
      rcases fy_if g with g | g
      · skip
        rcases fy_if g with g | g
        · skip
          obtain ⟨w31, X30, rX30, g⟩ := g
          rw [g.1]; exact gv_219 rX30
        · skip
          replace g := g.2
          obtain ⟨X34, -, g⟩ := g
          obtain ⟨w36, X35, rX35, g⟩ := g
          rw [g.1]; exact gv_219 rX35
      · skip
        obtain ⟨w38, X37, rX37, g⟩ := g
        rcases fy_if g with g | g
        · skip
          exact Or.inl g.1
        · skip
          obtain ⟨w41, X40, rX40, g⟩ := g
          exact ih _ _ _ _ _ _ _ g
    · unfold gxT_261_75 at g
      rcases fy_if g with g | g
      · skip
        rcases fy_if g with g | g
        · skip
          obtain ⟨x79, -, g⟩ := g
          exact ih _ _ _ _ _ _ _ g
        · skip
          replace g := g.2
          rcases fy_if g with g | g
          · skip
            obtain ⟨w87, X86, rX86, g⟩ := g
            obtain ⟨x89, -, g⟩ := g
            exact ih _ _ _ _ _ _ _ g
          · skip
            obtain ⟨x84, -, g⟩ := g
            exact ih _ _ _ _ _ _ _ g
      · skip
        rcases fy_if g with g | g
        · skip
          rcases fy_if g with g | g
          · skip
            obtain ⟨w72, X71, rX71, g⟩ := g
            rcases fy_if g with g | g
            · skip
              exact ih _ _ _ _ _ _ _ g
            · skip
              obtain ⟨w76, X75, rX75, g⟩ := g
              rcases fy_if g with g | g
              · skip
                exact Or.inl g.1
              · skip
                exact ih _ _ _ _ _ _ _ g
          · skip
            replace g := g.2
            obtain ⟨X60, -, g⟩ := g
            obtain ⟨X61, -, g⟩ := g
            obtain ⟨w63, X62, rX62, g⟩ := g
            rcases fy_if g with g | g
            · skip
              exact ih _ _ _ _ _ _ _ g
            · skip
              obtain ⟨w67, X66, rX66, g⟩ := g
              rcases fy_if g with g | g
              · skip
                exact Or.inl g.1
              · skip
                exact ih _ _ _ _ _ _ _ g
        · skip
          obtain ⟨w49, X48, rX48, g⟩ := g
          rcases fy_if g with g | g
          · skip
            exact ih _ _ _ _ _ _ _ g
          · skip
            obtain ⟨w53, X52, rX52, g⟩ := g
            rcases fy_if g with g | g
            · skip
              exact Or.inl g.1
            · skip
              exact ih _ _ _ _ _ _ _ g
theorem gv_261 {p1 : Int32} {p2 : Int32} {X : fx_X} {v : Int32} {X' : fx_X} (g : gx_261 p1 p2 X v X') : v = Int32.ofInt 0 ∨ v = Int32.ofInt 1 := by
  obtain ⟨n, g⟩ := g
  unfold gxE_261 at g
  obtain ⟨X2, -, g⟩ := g
  replace g := g.2
  rcases fy_if g with g | g
  · skip
    obtain ⟨w19, X18, rX18, g⟩ := g
    rcases fy_if g with g | g
    · skip
      exact Or.inl g.1
    · skip
      rcases fy_if g with g | g
      · skip
        exact gvl_261 _ _ n _ _ _ _ _ _ _ g
      · skip
        obtain ⟨w24, X23, rX23, g⟩ := g
        rcases fy_if g with g | g
        · skip
          exact gvl_261 _ _ n _ _ _ _ _ _ _ g
        · skip
          exact gvl_261 _ _ n _ _ _ _ _ _ _ g
  · skip
    obtain ⟨w8, X7, rX7, g⟩ := g
    rcases fy_if g with g | g
    · skip
      exact Or.inl g.1
    · skip
      rcases fy_if g with g | g
      · skip
        exact gvl_261 _ _ n _ _ _ _ _ _ _ g
      · skip
        obtain ⟨w13, X12, rX12, g⟩ := g
        rcases fy_if g with g | g
        · skip
          exact gvl_261 _ _ n _ _ _ _ _ _ _ g
        · skip
          exact gvl_261 _ _ n _ _ _ _ _ _ _ g
theorem gv_227 {p0 : Nat} {p1 : Int32} {p2 : Int32} {X : fx_X} {v : Int32} {X' : fx_X} (g : gx_227 p0 p1 p2 X v X') : v = Int32.ofInt 0 ∨ v = Int32.ofInt 1 := by
  unfold gx_227 at g
  replace g := g.2
  rcases fy_if g with g | g
  · skip
    exact Or.inr g.1
  · skip
    exact Or.inl g.1
theorem gvl_269 (p1 : Int32) (p2 : Int32) (p3 : Int32) (p4 : Int32) : ∀ (n l : Nat) (is : List Int32) (ls : List Int64) (rs : List Nat) (X : fx_X) (v : Int32) (X' : fx_X), gxF_269 p1 p2 p3 p4 n l is ls rs X v X' → v = Int32.ofInt 0 ∨ v = Int32.ofInt 1 := by
  intro n
  induction n with
  | zero => intro l is ls rs X v X' g; exact g.elim
  | succ n ih =>
    intro l is ls rs X v X' g
    rcases g with ⟨-, y5, -, -, -, g⟩
    · unfold gxT_269_3 at g
      rcases fy_if g with g | g
      · skip
        replace g := g.2
        obtain ⟨w7, X6, rX6, g⟩ := g
        replace g := g.2
        obtain ⟨w11, X10, rX10, g⟩ := g
        rcases fy_if g with g | g
        · skip
          obtain ⟨x13, -, g⟩ := g
          exact ih _ _ _ _ _ _ _ g
        · skip
          exact Or.inl g.1
      · skip
        exact Or.inr g.1
theorem gv_269 {p1 : Int32} {p2 : Int32} {p3 : Int32} {p4 : Int32} {X : fx_X} {v : Int32} {X' : fx_X} (g : gx_269 p1 p2 p3 p4 X v X') : v = Int32.ofInt 0 ∨ v = Int32.ofInt 1 := by
  obtain ⟨n, g⟩ := g
  unfold gxE_269 at g
  exact gvl_269 _ _ _ _ n _ _ _ _ _ _ _ g
theorem gvl_268 (p1 : Int32) (p2 : Int32) (p3 : Int32) : ∀ (n l : Nat) (is : List Int32) (ls : List Int64) (rs : List Nat) (X : fx_X) (v : Int32) (X' : fx_X), gxF_268 p1 p2 p3 n l is ls rs X v X' → v = Int32.ofInt 0 ∨ v = Int32.ofInt 1 := by
  intro n
  induction n with
  | zero => intro l is ls rs X v X' g; exact g.elim
  | succ n ih =>
    intro l is ls rs X v X' g
    rcases g with ⟨-, y4, -, -, -, g⟩
    · unfold gxT_268_3 at g
      rcases fy_if g with g | g
      · skip
        replace g := g.2
        replace g := g.2
        obtain ⟨w9, X8, rX8, g⟩ := g
        rcases fy_if g with g | g
        · skip
          obtain ⟨x11, -, g⟩ := g
          exact ih _ _ _ _ _ _ _ g
        · skip
          exact Or.inl g.1
      · skip
        exact Or.inr g.1
theorem gv_268 {p1 : Int32} {p2 : Int32} {p3 : Int32} {X : fx_X} {v : Int32} {X' : fx_X} (g : gx_268 p1 p2 p3 X v X') : v = Int32.ofInt 0 ∨ v = Int32.ofInt 1 := by
  obtain ⟨n, g⟩ := g
  unfold gxE_268 at g
  exact gvl_268 _ _ _ n _ _ _ _ _ _ _ g
theorem gvl_271 (p1 : Int32) (p2 : Int32) : ∀ (n l : Nat) (is : List Int32) (ls : List Int64) (rs : List Nat) (X : fx_X) (v : Int32) (X' : fx_X), gxF_271 p1 p2 n l is ls rs X v X' → v = Int32.ofInt 0 ∨ v = Int32.ofInt 1 := by
  intro n
  induction n with
  | zero => intro l is ls rs X v X' g; exact g.elim
  | succ n ih =>
    intro l is ls rs X v X' g
    rcases g with ⟨-, y3, y4, -, -, -, g⟩ | ⟨-, y3, y5, -, -, -, g⟩ | ⟨-, y3, y5, -, -, -, g⟩ | ⟨-, y3, y5, -, -, -, g⟩
    · unfold gxT_271_5 at g
      rcases fy_if g with g | g
      · skip
        rcases fy_if g with g | g
        · skip
          obtain ⟨w55, X54, rX54, g⟩ := g
          rcases fy_if g with g | g
          · skip
            obtain ⟨x58, -, g⟩ := g
            exact ih _ _ _ _ _ _ _ g
          · skip
            exact ih _ _ _ _ _ _ _ g
        · skip
          rcases fy_if g with g | g
          · skip
            rcases fy_if g with g | g
            · skip
              exact Or.inl g.1
            · skip
              obtain ⟨x39, -, g⟩ := g
              exact ih _ _ _ _ _ _ _ g
          · skip
            rcases fy_if g with g | g
            · skip
              rcases fy_if g with g | g
              · skip
                exact Or.inl g.1
              · skip
                obtain ⟨x52, -, g⟩ := g
                exact ih _ _ _ _ _ _ _ g
            · skip
              obtain ⟨w44, X43, rX43, g⟩ := g
              obtain ⟨w46, X45, rX45, g⟩ := g
              exact Or.inr g.1
      · skip
        rcases fy_if g with g | g
        · skip
          rcases fy_if g with g | g
          · skip
            exact Or.inl g.1
          · skip
            obtain ⟨x15, -, g⟩ := g
            exact ih _ _ _ _ _ _ _ g
        · skip
          rcases fy_if g with g | g
          · skip
            rcases fy_if g with g | g
            · skip
              exact Or.inl g.1
            · skip
              obtain ⟨x28, -, g⟩ := g
              exact ih _ _ _ _ _ _ _ g
          · skip
            obtain ⟨w20, X19, rX19, g⟩ := g
            obtain ⟨w22, X21, rX21, g⟩ := g
            exact Or.inr g.1
    · unfold gxT_271_79 at g
      rcases fy_if g with g | g
      · skip
        obtain ⟨w67, X66, rX66, g⟩ := g
        obtain ⟨x68, -, g⟩ := g
        exact ih _ _ _ _ _ _ _ g
      · skip
        obtain ⟨X64, -, g⟩ := g
        exact ih _ _ _ _ _ _ _ g
    · unfold gxT_271_119 at g
      rcases fy_if g with g | g
      · skip
        obtain ⟨w74, X73, rX73, g⟩ := g
        replace g := g.2
        obtain ⟨X76, -, g⟩ := g
        obtain ⟨w79, X78, rX78, g⟩ := g
        replace g := g.2
        replace g := g.2
        obtain ⟨X83, -, g⟩ := g
        obtain ⟨x84, -, g⟩ := g
        exact ih _ _ _ _ _ _ _ g
      · skip
        exact ih _ _ _ _ _ _ _ g
    · unfold gxT_271_168 at g
      rcases fy_if g with g | g
      · skip
        obtain ⟨w94, X93, rX93, g⟩ := g
        replace g := g.2
        obtain ⟨X96, -, g⟩ := g
        obtain ⟨x97, -, g⟩ := g
        exact ih _ _ _ _ _ _ _ g
      · skip
        obtain ⟨w89, X88, rX88, g⟩ := g
        obtain ⟨w91, X90, rX90, g⟩ := g
        exact Or.inr g.1
theorem gv_271 {p1 : Int32} {p2 : Int32} {X : fx_X} {v : Int32} {X' : fx_X} (g : gx_271 p1 p2 X v X') : v = Int32.ofInt 0 ∨ v = Int32.ofInt 1 := by
  obtain ⟨n, g⟩ := g
  unfold gxE_271 at g
  exact gvl_271 _ _ n _ _ _ _ _ _ _ g
theorem gvl_265 (p1 : Int32) (p2 : Int32) (p3 : Int32) (p4 : Int32) : ∀ (n l : Nat) (is : List Int32) (ls : List Int64) (rs : List Nat) (X : fx_X) (v : Int32) (X' : fx_X), gxF_265 p1 p2 p3 p4 n l is ls rs X v X' → v = Int32.ofInt 0 ∨ v = Int32.ofInt 1 := by
  intro n
  induction n with
  | zero => intro l is ls rs X v X' g; exact g.elim
  | succ n ih =>
    intro l is ls rs X v X' g
    rcases g with ⟨-, y5, y6, -, -, -, g⟩ | ⟨-, y5, y6, -, -, -, g⟩ | ⟨-, y5, y6, y7, -, -, -, g⟩
    · unfold gxT_265_28 at g
      rcases fy_if g with g | g
      · skip
        replace g := g.2
        replace g := g.2
        replace g := g.2
        obtain ⟨X22, -, g⟩ := g
        obtain ⟨x23, -, g⟩ := g
        exact ih _ _ _ _ _ _ _ g
      · skip
        replace g := g.2
        obtain ⟨X14, -, g⟩ := g
        exact ih _ _ _ _ _ _ _ g
    · unfold gxT_265_91 at g
      rcases fy_if g with g | g
      · skip
        obtain ⟨w27, X26, rX26, g⟩ := g
        exact Or.inr g.1
      · skip
        replace g := g.2
        rcases fy_if g with g | g
        · skip
          obtain ⟨w34, X33, rX33, g⟩ := g
          exact ih _ _ _ _ _ _ _ g
        · skip
          obtain ⟨w32, X31, rX31, g⟩ := g
          exact Or.inr g.1
    · unfold gxT_265_122 at g
      rcases fy_if g with g | g
      · skip
        obtain ⟨w40, X39, rX39, g⟩ := g
        rcases fy_if g with g | g
        · skip
          obtain ⟨x42, -, g⟩ := g
          exact ih _ _ _ _ _ _ _ g
        · skip
          obtain ⟨w45, X44, rX44, g⟩ := g
          obtain ⟨w47, X46, rX46, g⟩ := g
          rcases fy_if g with g | g
          · skip
            obtain ⟨w52, X51, rX51, g⟩ := g
            rw [g.1]; exact gv_215 rX51
          · skip
            obtain ⟨x49, -, g⟩ := g
            exact ih _ _ _ _ _ _ _ g
      · skip
        obtain ⟨x37, -, g⟩ := g
        exact ih _ _ _ _ _ _ _ g
theorem gv_265 {p1 : Int32} {p2 : Int32} {p3 : Int32} {p4 : Int32} {X : fx_X} {v : Int32} {X' : fx_X} (g : gx_265 p1 p2 p3 p4 X v X') : v = Int32.ofInt 0 ∨ v = Int32.ofInt 1 := by
  obtain ⟨n, g⟩ := g
  unfold gxE_265 at g
  obtain ⟨x2, -, g⟩ := g
  obtain ⟨X6, -, g⟩ := g
  obtain ⟨X9, -, g⟩ := g
  exact gvl_265 _ _ _ _ n _ _ _ _ _ _ _ g
theorem gvl_263 (p1 : Int32) : ∀ (n l : Nat) (is : List Int32) (ls : List Int64) (rs : List Nat) (X : fx_X) (v : Int32) (X' : fx_X), gxF_263 p1 n l is ls rs X v X' → v = Int32.ofInt 0 ∨ v = Int32.ofInt 1 := by
  intro n
  induction n with
  | zero => intro l is ls rs X v X' g; exact g.elim
  | succ n ih =>
    intro l is ls rs X v X' g
    rcases g with ⟨-, y2, -, -, -, g⟩ | ⟨-, y2, y3, y4, y5, y6, -, -, -, g⟩ | ⟨-, y2, y3, y4, y5, y6, y7, -, -, -, g⟩
    · unfold gxT_263_47 at g
      obtain ⟨w40, X39, rX39, g⟩ := g
      rw [g.1]; exact gv_215 rX39
    · unfold gxT_263_123 at g
      rcases fy_if g with g | g
      · skip
        obtain ⟨w47, X46, rX46, g⟩ := g
        rcases fy_if g with g | g
        · skip
          exact Or.inl g.1
        · skip
          rcases fy_if g with g | g
          · skip
            obtain ⟨w51, X50, rX50, g⟩ := g
            rcases fy_if g with g | g
            · skip
              rcases fy_if g with g | g
              · skip
                obtain ⟨w67, X66, rX66, g⟩ := g
                rcases fy_if g with g | g
                · skip
                  exact Or.inl g.1
                · skip
                  exact ih _ _ _ _ _ _ _ g
              · skip
                obtain ⟨w62, X61, rX61, g⟩ := g
                rcases fy_if g with g | g
                · skip
                  exact Or.inl g.1
                · skip
                  exact ih _ _ _ _ _ _ _ g
            · skip
              obtain ⟨w56, X55, rX55, g⟩ := g
              rcases fy_if g with g | g
              · skip
                exact Or.inl g.1
              · skip
                exact ih _ _ _ _ _ _ _ g
          · skip
            rcases fy_if g with g | g
            · skip
              obtain ⟨w80, X79, rX79, g⟩ := g
              rcases fy_if g with g | g
              · skip
                exact Or.inl g.1
              · skip
                exact ih _ _ _ _ _ _ _ g
            · skip
              obtain ⟨w74, X73, rX73, g⟩ := g
              rcases fy_if g with g | g
              · skip
                exact Or.inl g.1
              · skip
                exact ih _ _ _ _ _ _ _ g
      · skip
        obtain ⟨w43, X42, rX42, g⟩ := g
        rcases fy_if g with g | g
        · skip
          exact Or.inl g.1
        · skip
          exact ih _ _ _ _ _ _ _ g
    · unfold gxT_263_183 at g
      rcases fy_if g with g | g
      · skip
        rcases fy_if g with g | g
        · skip
          replace g := g.2
          replace g := g.2
          rcases fy_if g with g | g
          · skip
            obtain ⟨w113, X112, rX112, g⟩ := g
            obtain ⟨x115, -, g⟩ := g
            exact ih _ _ _ _ _ _ _ g
          · skip
            obtain ⟨x110, -, g⟩ := g
            exact ih _ _ _ _ _ _ _ g
        · skip
          rcases fy_if g with g | g
          · skip
            rcases fy_if g with g | g
            · skip
              obtain ⟨w101, X100, rX100, g⟩ := g
              rw [g.1]; exact gv_265 rX100
            · skip
              replace g := g.2
              obtain ⟨X104, -, g⟩ := g
              exact Or.inr g.1
          · skip
            replace g := g.2
            obtain ⟨X98, -, g⟩ := g
            exact Or.inr g.1
      · skip
        rcases fy_if g with g | g
        · skip
          rcases fy_if g with g | g
          · skip
            obtain ⟨w90, X89, rX89, g⟩ := g
            rw [g.1]; exact gv_265 rX89
          · skip
            replace g := g.2
            obtain ⟨X93, -, g⟩ := g
            exact Or.inr g.1
        · skip
          replace g := g.2
          obtain ⟨X87, -, g⟩ := g
          exact Or.inr g.1
theorem gv_263 {p1 : Int32} {X : fx_X} {v : Int32} {X' : fx_X} (g : gx_263 p1 X v X') : v = Int32.ofInt 0 ∨ v = Int32.ofInt 1 := by
  obtain ⟨n, g⟩ := g
  unfold gxE_263 at g
  obtain ⟨x2, -, g⟩ := g
  obtain ⟨w5, X4, rX4, g⟩ := g
  rcases fy_if g with g | g
  · skip
    exact Or.inl g.1
  · skip
    obtain ⟨w8, X7, rX7, g⟩ := g
    rcases fy_if g with g | g
    · skip
      exact Or.inl g.1
    · skip
      rcases fy_if g with g | g
      · skip
        rcases fy_if g with g | g
        · skip
          exact gvl_263 _ n _ _ _ _ _ _ _ g
        · skip
          obtain ⟨x12, -, g⟩ := g
          rcases fy_if g with g | g
          · skip
            obtain ⟨w36, X35, rX35, g⟩ := g
            rw [g.1]; exact gv_215 rX35
          · skip
            obtain ⟨w16, X15, rX15, g⟩ := g
            rcases fy_if g with g | g
            · skip
              exact Or.inl g.1
            · skip
              replace g := g.2
              rcases fy_if g with g | g
              · skip
                exact gvl_263 _ n _ _ _ _ _ _ _ g
              · skip
                rcases fy_if g with g | g
                · skip
                  obtain ⟨w30, X29, rX29, g⟩ := g
                  exact gvl_263 _ n _ _ _ _ _ _ _ g
                · skip
                  exact gvl_263 _ n _ _ _ _ _ _ _ g
      · skip
        exact gvl_263 _ n _ _ _ _ _ _ _ g
theorem gvl_262 (p1 : Int32) : ∀ (n l : Nat) (is : List Int32) (ls : List Int64) (rs : List Nat) (X : fx_X) (v : Int32) (X' : fx_X), gxF_262 p1 n l is ls rs X v X' → v = Int32.ofInt 0 ∨ v = Int32.ofInt 1 := by
  intro n
  induction n with
  | zero => intro l is ls rs X v X' g; exact g.elim
  | succ n ih =>
    intro l is ls rs X v X' g
    rcases g with ⟨-, y2, y4, -, -, -, g⟩
    · unfold gxT_262_63 at g
      obtain ⟨w24, X23, rX23, g⟩ := g
      rcases fy_if g with g | g
      · skip
        exact Or.inl g.1
      · skip
        obtain ⟨w27, X26, rX26, g⟩ := g
        rcases fy_if g with g | g
        · skip
          exact Or.inl g.1
        · skip
          rcases fy_if g with g | g
          · skip
            obtain ⟨w31, X30, rX30, g⟩ := g
            rcases fy_if g with g | g
            · skip
              replace g := g.2
              obtain ⟨X41, -, g⟩ := g
              obtain ⟨w43, X42, rX42, g⟩ := g
              rw [g.1]; exact gv_219 rX42
            · skip
              replace g := g.2
              obtain ⟨X36, -, g⟩ := g
              obtain ⟨w38, X37, rX37, g⟩ := g
              rw [g.1]; exact gv_219 rX37
          · skip
            replace g := g.2
            obtain ⟨X48, -, g⟩ := g
            obtain ⟨w50, X49, rX49, g⟩ := g
            rw [g.1]; exact gv_219 rX49
theorem gv_262 {p1 : Int32} {X : fx_X} {v : Int32} {X' : fx_X} (g : gx_262 p1 X v X') : v = Int32.ofInt 0 ∨ v = Int32.ofInt 1 := by
  obtain ⟨n, g⟩ := g
  unfold gxE_262 at g
  obtain ⟨w3, X2, rX2, g⟩ := g
  rcases fy_if g with g | g
  · skip
    exact Or.inl g.1
  · skip
    obtain ⟨w6, X5, rX5, g⟩ := g
    rcases fy_if g with g | g
    · skip
      exact Or.inl g.1
    · skip
      obtain ⟨x8, -, g⟩ := g
      replace g := g.2
      rcases fy_if g with g | g
      · skip
        exact gvl_262 _ n _ _ _ _ _ _ _ g
      · skip
        obtain ⟨w16, X15, rX15, g⟩ := g
        rcases fy_if g with g | g
        · skip
          exact gvl_262 _ n _ _ _ _ _ _ _ g
        · skip
          obtain ⟨w19, X18, rX18, g⟩ := g
          exact gvl_262 _ n _ _ _ _ _ _ _ g
theorem gvl_260 (p1 : Int32) : ∀ (n l : Nat) (is : List Int32) (ls : List Int64) (rs : List Nat) (X : fx_X) (v : Int32) (X' : fx_X), gxF_260 p1 n l is ls rs X v X' → v = Int32.ofInt 0 ∨ v = Int32.ofInt 1 := by
  intro n
  induction n with
  | zero => intro l is ls rs X v X' g; exact g.elim
  | succ n ih =>
    intro l is ls rs X v X' g
    rcases g with ⟨-, y2, -, -, -, g⟩ | ⟨-, y2, y3, -, -, -, g⟩
    · unfold gxT_260_36 at g
      rcases fy_if g with g | g
      · skip
        replace g := g.2
        replace g := g.2
        replace g := g.2
        obtain ⟨X24, -, g⟩ := g
        exact ih _ _ _ _ _ _ _ g
      · skip
        replace g := g.2
        obtain ⟨X17, -, g⟩ := g
        exact Or.inr g.1
    · unfold gxT_260_72 at g
      rcases fy_if g with g | g
      · skip
        obtain ⟨x27, -, g⟩ := g
        exact ih _ _ _ _ _ _ _ g
      · skip
        replace g := g.2
        rcases fy_if g with g | g
        · skip
          obtain ⟨w36, X35, rX35, g⟩ := g
          replace g := g.2
          obtain ⟨w41, X40, rX40, g⟩ := g
          replace g := g.2
          replace g := g.2
          obtain ⟨X44, -, g⟩ := g
          obtain ⟨w47, X46, rX46, g⟩ := g
          replace g := g.2
          obtain ⟨w52, X51, rX51, g⟩ := g
          replace g := g.2
          replace g := g.2
          obtain ⟨X55, -, g⟩ := g
          obtain ⟨x56, -, g⟩ := g
          exact ih _ _ _ _ _ _ _ g
        · skip
          obtain ⟨x32, -, g⟩ := g
          exact ih _ _ _ _ _ _ _ g
theorem gv_260 {p1 : Int32} {X : fx_X} {v : Int32} {X' : fx_X} (g : gx_260 p1 X v X') : v = Int32.ofInt 0 ∨ v = Int32.ofInt 1 := by
  obtain ⟨n, g⟩ := g
  unfold gxE_260 at g
  obtain ⟨w3, X2, rX2, g⟩ := g
  rcases fy_if g with g | g
  · skip
    exact Or.inl g.1
  · skip
    obtain ⟨w6, X5, rX5, g⟩ := g
    rcases fy_if g with g | g
    · skip
      exact Or.inl g.1
    · skip
      replace g := g.2
      rcases fy_if g with g | g
      · skip
        exact Or.inr g.1
      · skip
        obtain ⟨w12, X11, rX11, g⟩ := g
        exact gvl_260 _ n _ _ _ _ _ _ _ g
theorem gvl_221 : ∀ (n l : Nat) (is : List Int32) (ls : List Int64) (rs : List Nat) (X : fx_X) (v : Int32) (X' : fx_X), gxF_221 n l is ls rs X v X' → v = Int32.ofInt 0 ∨ v = Int32.ofInt 1 := by
  intro n
  induction n with
  | zero => intro l is ls rs X v X' g; exact g.elim
  | succ n ih =>
    intro l is ls rs X v X' g
    rcases g with ⟨-, y1, y2, y3, -, -, -, g⟩
    · unfold gxT_221_55 at g
      rcases fy_if g with g | g
      · skip
        replace g := g.2
        obtain ⟨x29, -, g⟩ := g
        obtain ⟨x31, -, g⟩ := g
        exact ih _ _ _ _ _ _ _ g
      · skip
        obtain ⟨X24, -, g⟩ := g
        obtain ⟨w26, X25, rX25, g⟩ := g
        rw [g.1]; exact gv_214 rX25
theorem gv_221 {X : fx_X} {v : Int32} {X' : fx_X} (g : gx_221 X v X') : v = Int32.ofInt 0 ∨ v = Int32.ofInt 1 := by
  obtain ⟨n, g⟩ := g
  unfold gxE_221 at g
  obtain ⟨X2, -, g⟩ := g
  obtain ⟨w5, X4, rX4, g⟩ := g
  rcases fy_if g with g | g
  · skip
    rcases fy_if g with g | g
    · skip
      obtain ⟨x9, -, g⟩ := g
      exact gvl_221 n _ _ _ _ _ _ _ g
    · skip
      obtain ⟨w12, X11, rX11, g⟩ := g
      rw [g.1]; exact gv_215 rX11
  · skip
    obtain ⟨w15, X14, rX14, g⟩ := g
    rcases fy_if g with g | g
    · skip
      exact Or.inl g.1
    · skip
      rcases fy_if g with g | g
      · skip
        obtain ⟨x19, -, g⟩ := g
        exact gvl_221 n _ _ _ _ _ _ _ g
      · skip
        obtain ⟨w22, X21, rX21, g⟩ := g
        rw [g.1]; exact gv_215 rX21
theorem gv_235 {X : fx_X} {v : Int32} {X' : fx_X} (g : gx_235 X v X') : v = Int32.ofInt 0 ∨ v = Int32.ofInt 1 := by
  unfold gx_235 at g
  obtain ⟨w3, X2, rX2, g⟩ := g
  rcases fy_if g with g | g
  · skip
    obtain ⟨X18, -, g⟩ := g
    obtain ⟨w20, X19, rX19, g⟩ := g
    rcases fy_if g with g | g
    · skip
      exact Or.inl g.1
    · skip
      obtain ⟨X22, -, g⟩ := g
      exact Or.inr g.1
  · skip
    obtain ⟨w6, X5, rX5, g⟩ := g
    rcases fy_if g with g | g
    · skip
      exact Or.inl g.1
    · skip
      obtain ⟨w9, X8, rX8, g⟩ := g
      rcases fy_if g with g | g
      · skip
        exact Or.inl g.1
      · skip
        obtain ⟨X11, -, g⟩ := g
        obtain ⟨w13, X12, rX12, g⟩ := g
        obtain ⟨X14, -, g⟩ := g
        rcases fy_if g with g | g
        · skip
          obtain ⟨w17, X16, rX16, g⟩ := g
          exact Or.inr g.1
        · skip
          exact Or.inr g.1
theorem gv_255 {p1 : Int32} {X : fx_X} {v : Int32} {X' : fx_X} (g : gx_255 p1 X v X') : v = Int32.ofInt 0 ∨ v = Int32.ofInt 1 := by
  unfold gx_255 at g
  rcases fy_if g with g | g
  · skip
    obtain ⟨w49, X48, rX48, g⟩ := g
    rcases fy_if g with g | g
    · skip
      exact Or.inl g.1
    · skip
      obtain ⟨X51, -, g⟩ := g
      obtain ⟨w53, X52, rX52, g⟩ := g
      obtain ⟨X54, -, g⟩ := g
      rcases fy_if g with g | g
      · skip
        rcases fy_if g with g | g
        · skip
          obtain ⟨X59, -, g⟩ := g
          exact Or.inr g.1
        · skip
          obtain ⟨X58, -, g⟩ := g
          exact Or.inr g.1
      · skip
        obtain ⟨X56, -, g⟩ := g
        exact Or.inr g.1
  · skip
    rcases fy_if g with g | g
    · skip
      obtain ⟨w5, X4, rX4, g⟩ := g
      rcases fy_if g with g | g
      · skip
        exact Or.inl g.1
      · skip
        obtain ⟨X7, -, g⟩ := g
        obtain ⟨X8, -, g⟩ := g
        rcases fy_if g with g | g
        · skip
          rcases fy_if g with g | g
          · skip
            rcases fy_if g with g | g
            · skip
              obtain ⟨X15, -, g⟩ := g
              exact Or.inr g.1
            · skip
              obtain ⟨X14, -, g⟩ := g
              exact Or.inr g.1
          · skip
            obtain ⟨X12, -, g⟩ := g
            exact Or.inr g.1
        · skip
          obtain ⟨X10, -, g⟩ := g
          exact Or.inr g.1
    · skip
      obtain ⟨w17, X16, rX16, g⟩ := g
      rcases fy_if g with g | g
      · skip
        obtain ⟨w32, X31, rX31, g⟩ := g
        rcases fy_if g with g | g
        · skip
          obtain ⟨w47, X46, rX46, g⟩ := g
          rw [g.1]; exact gv_215 rX46
        · skip
          obtain ⟨w35, X34, rX34, g⟩ := g
          rcases fy_if g with g | g
          · skip
            exact Or.inl g.1
          · skip
            obtain ⟨X37, -, g⟩ := g
            obtain ⟨X38, -, g⟩ := g
            rcases fy_if g with g | g
            · skip
              rcases fy_if g with g | g
              · skip
                rcases fy_if g with g | g
                · skip
                  obtain ⟨X45, -, g⟩ := g
                  exact Or.inr g.1
                · skip
                  obtain ⟨X44, -, g⟩ := g
                  exact Or.inr g.1
              · skip
                obtain ⟨X42, -, g⟩ := g
                exact Or.inr g.1
            · skip
              obtain ⟨X40, -, g⟩ := g
              exact Or.inr g.1
      · skip
        obtain ⟨w20, X19, rX19, g⟩ := g
        rcases fy_if g with g | g
        · skip
          exact Or.inl g.1
        · skip
          obtain ⟨X22, -, g⟩ := g
          obtain ⟨X23, -, g⟩ := g
          rcases fy_if g with g | g
          · skip
            rcases fy_if g with g | g
            · skip
              rcases fy_if g with g | g
              · skip
                obtain ⟨X30, -, g⟩ := g
                exact Or.inr g.1
              · skip
                obtain ⟨X29, -, g⟩ := g
                exact Or.inr g.1
            · skip
              obtain ⟨X27, -, g⟩ := g
              exact Or.inr g.1
          · skip
            obtain ⟨X25, -, g⟩ := g
            exact Or.inr g.1
theorem gv_239 {X : fx_X} {v : Int32} {X' : fx_X} (g : gx_239 X v X') : v = Int32.ofInt 0 ∨ v = Int32.ofInt 1 := by
  unfold gx_239 at g
  rcases fy_if g with g | g
  · skip
    rcases fy_if g with g | g
    · skip
      obtain ⟨X6, -, g⟩ := g
      obtain ⟨w8, X7, rX7, g⟩ := g
      rw [g.1]; exact gv_214 rX7
    · skip
      rcases fy_if g with g | g
      · skip
        obtain ⟨X10, -, g⟩ := g
        obtain ⟨w12, X11, rX11, g⟩ := g
        rw [g.1]; exact gv_214 rX11
      · skip
        rcases fy_if g with g | g
        · skip
          obtain ⟨X14, -, g⟩ := g
          obtain ⟨w16, X15, rX15, g⟩ := g
          rw [g.1]; exact gv_214 rX15
        · skip
          rcases fy_if g with g | g
          · skip
            obtain ⟨X18, -, g⟩ := g
            obtain ⟨w20, X19, rX19, g⟩ := g
            rw [g.1]; exact gv_214 rX19
          · skip
            obtain ⟨w22, X21, rX21, g⟩ := g
            rw [g.1]; exact gv_215 rX21
  · skip
    obtain ⟨w4, X3, rX3, g⟩ := g
    rw [g.1]; exact gv_215 rX3
theorem gv_242 {p0 : Int32} {p1 : Int32} {p2 : Int32} {X : fx_X} {v : Int32} {X' : fx_X} (g : gx_242 p0 p1 p2 X v X') : v = Int32.ofInt 0 ∨ v = Int32.ofInt 1 := by
  unfold gx_242 at g
  rcases fy_if g with g | g
  · skip
    rcases fy_if g with g | g
    · skip
      exact Or.inr g.1
    · skip
      exact Or.inl g.1
  · skip
    rcases fy_if g with g | g
    · skip
      rcases fy_if g with g | g
      · skip
        exact Or.inl g.1
      · skip
        exact Or.inr g.1
    · skip
      rcases fy_if g with g | g
      · skip
        rcases fy_if g with g | g
        · skip
          exact Or.inr g.1
        · skip
          exact Or.inl g.1
      · skip
        rcases fy_if g with g | g
        · skip
          exact Or.inl g.1
        · skip
          exact Or.inr g.1
theorem gvl_254 (p1 : Int32) : ∀ (n l : Nat) (is : List Int32) (ls : List Int64) (rs : List Nat) (X : fx_X) (v : Int32) (X' : fx_X), gxF_254 p1 n l is ls rs X v X' → v = Int32.ofInt 0 ∨ v = Int32.ofInt 1 := by
  intro n
  induction n with
  | zero => intro l is ls rs X v X' g; exact g.elim
  | succ n ih =>
    intro l is ls rs X v X' g
    rcases g with ⟨-, y2, -, -, -, g⟩ | ⟨-, y3, y4, y5, y6, -, -, -, g⟩ | ⟨-, y3, y4, y5, y6, y7, -, -, -, g⟩
    · unfold gxT_254_7 at g
      rcases fy_if g with g | g
      · skip
        rcases fy_if g with g | g
        · skip
          obtain ⟨w7, X6, rX6, g⟩ := g
          rw [g.1]; exact gv_219 rX6
        · skip
          replace g := g.2
          obtain ⟨X10, -, g⟩ := g
          obtain ⟨w12, X11, rX11, g⟩ := g
          rw [g.1]; exact gv_219 rX11
      · skip
        obtain ⟨w14, X13, rX13, g⟩ := g
        rcases fy_if g with g | g
        · skip
          exact Or.inl g.1
        · skip
          obtain ⟨w17, X16, rX16, g⟩ := g
          rcases fy_if g with g | g
          · skip
            exact Or.inl g.1
          · skip
            obtain ⟨x19, -, g⟩ := g
            obtain ⟨x21, -, g⟩ := g
            obtain ⟨w24, X23, rX23, g⟩ := g
            rcases fy_if g with g | g
            · skip
              exact Or.inl g.1
            · skip
              obtain ⟨x26, -, g⟩ := g
              obtain ⟨w29, X28, rX28, g⟩ := g
              rcases fy_if g with g | g
              · skip
                exact Or.inl g.1
              · skip
                exact ih _ _ _ _ _ _ _ g
    · unfold gxT_254_67 at g
      rcases fy_if g with g | g
      · skip
        obtain ⟨w34, X33, rX33, g⟩ := g
        exact ih _ _ _ _ _ _ _ g
      · skip
        replace g := g.2
        rcases fy_if g with g | g
        · skip
          exact ih _ _ _ _ _ _ _ g
        · skip
          obtain ⟨w40, X39, rX39, g⟩ := g
          exact ih _ _ _ _ _ _ _ g
    · unfold gxT_254_88 at g
      replace g := g.2
      rcases fy_if g with g | g
      · skip
        obtain ⟨w49, X48, rX48, g⟩ := g
        obtain ⟨w51, X50, rX50, g⟩ := g
        obtain ⟨w53, X52, rX52, g⟩ := g
        rcases fy_if g with g | g
        · skip
          obtain ⟨w59, X58, rX58, g⟩ := g
          obtain ⟨w61, X60, rX60, g⟩ := g
          obtain ⟨x62, -, g⟩ := g
          exact ih _ _ _ _ _ _ _ g
        · skip
          obtain ⟨x55, -, g⟩ := g
          exact ih _ _ _ _ _ _ _ g
      · skip
        obtain ⟨x46, -, g⟩ := g
        exact ih _ _ _ _ _ _ _ g
theorem gv_254 {p1 : Int32} {X : fx_X} {v : Int32} {X' : fx_X} (g : gx_254 p1 X v X') : v = Int32.ofInt 0 ∨ v = Int32.ofInt 1 := by
  obtain ⟨n, g⟩ := g
  unfold gxE_254 at g
  obtain ⟨X2, -, g⟩ := g
  exact gvl_254 _ n _ _ _ _ _ _ _ g
theorem gvl_276 (p1 : Int32) (p2 : Int32) : ∀ (n l : Nat) (is : List Int32) (ls : List Int64) (rs : List Nat) (X : fx_X) (v : Int32) (X' : fx_X), gxF_276 p1 p2 n l is ls rs X v X' → v = Int32.ofInt 0 ∨ v = Int32.ofInt 1 := by
  intro n
  induction n with
  | zero => intro l is ls rs X v X' g; exact g.elim
  | succ n ih =>
    intro l is ls rs X v X' g
    rcases g with ⟨-, y3, y4, y5, -, -, -, g⟩ | ⟨-, y3, y4, y5, -, -, -, g⟩ | ⟨-, y3, y4, y5, -, -, -, g⟩ | ⟨-, y3, y4, y5, y6, y7, -, -, -, g⟩ | ⟨-, y3, y4, y5, y6, y7, y8, y9, -, -, -, g⟩ | ⟨-, y3, y4, y5, -, -, -, g⟩ | ⟨-, y3, y4, y5, y6, -, -, -, g⟩
    · unfold gxT_276_88 at g
      rcases fy_if g with g | g
      · skip
        replace g := g.2
        replace g := g.2
        obtain ⟨X56, -, g⟩ := g
        obtain ⟨x57, -, g⟩ := g
        exact ih _ _ _ _ _ _ _ g
      · skip
        exact ih _ _ _ _ _ _ _ g
    · unfold gxT_276_127 at g
      rcases fy_if g with g | g
      · skip
        replace g := g.2
        replace g := g.2
        obtain ⟨w67, X66, rX66, g⟩ := g
        obtain ⟨x68, -, g⟩ := g
        exact ih _ _ _ _ _ _ _ g
      · skip
        exact ih _ _ _ _ _ _ _ g
    · unfold gxT_276_166 at g
      replace g := g.2
      rcases fy_if g with g | g
      · skip
        replace g := g.2
        obtain ⟨w77, X76, rX76, g⟩ := g
        exact ih _ _ _ _ _ _ _ g
      · skip
        exact ih _ _ _ _ _ _ _ g
    · unfold gxT_276_199 at g
      rcases fy_if g with g | g
      · skip
        replace g := g.2
        replace g := g.2
        obtain ⟨x107, -, g⟩ := g
        exact ih _ _ _ _ _ _ _ g
      · skip
        rcases fy_if g with g | g
        · skip
          replace g := g.2
          replace g := g.2
          obtain ⟨X99, -, g⟩ := g
          obtain ⟨x100, -, g⟩ := g
          obtain ⟨x102, -, g⟩ := g
          exact ih _ _ _ _ _ _ _ g
        · skip
          obtain ⟨x93, -, g⟩ := g
          exact ih _ _ _ _ _ _ _ g
    · unfold gxT_276_225 at g
      replace g := g.2
      rcases fy_if g with g | g
      · skip
        rcases fy_if g with g | g
        · skip
          rcases fy_if g with g | g
          · skip
            obtain ⟨w160, X159, rX159, g⟩ := g
            obtain ⟨w163, X162, rX162, g⟩ := g
            replace g := g.2
            replace g := g.2
            obtain ⟨X166, -, g⟩ := g
            obtain ⟨w169, X168, rX168, g⟩ := g
            obtain ⟨w172, X171, rX171, g⟩ := g
            replace g := g.2
            replace g := g.2
            obtain ⟨X175, -, g⟩ := g
            obtain ⟨x176, -, g⟩ := g
            exact ih _ _ _ _ _ _ _ g
          · skip
            obtain ⟨x156, -, g⟩ := g
            exact ih _ _ _ _ _ _ _ g
        · skip
          replace g := g.2
          replace g := g.2
          obtain ⟨w182, X181, rX181, g⟩ := g
          obtain ⟨w184, X183, rX183, g⟩ := g
          rcases fy_if g with g | g
          · skip
            obtain ⟨x186, -, g⟩ := g
            exact ih _ _ _ _ _ _ _ g
          · skip
            obtain ⟨w190, X189, rX189, g⟩ := g
            obtain ⟨w192, X191, rX191, g⟩ := g
            obtain ⟨x193, -, g⟩ := g
            exact ih _ _ _ _ _ _ _ g
      · skip
        rcases fy_if g with g | g
        · skip
          obtain ⟨w136, X135, rX135, g⟩ := g
          obtain ⟨w139, X138, rX138, g⟩ := g
          replace g := g.2
          replace g := g.2
          obtain ⟨X142, -, g⟩ := g
          obtain ⟨w145, X144, rX144, g⟩ := g
          obtain ⟨w148, X147, rX147, g⟩ := g
          replace g := g.2
          replace g := g.2
          obtain ⟨X151, -, g⟩ := g
          obtain ⟨x152, -, g⟩ := g
          exact ih _ _ _ _ _ _ _ g
        · skip
          obtain ⟨x132, -, g⟩ := g
          exact ih _ _ _ _ _ _ _ g
    · unfold gxT_276_405 at g
      rcases fy_if g with g | g
      · skip
        exact ih _ _ _ _ _ _ _ g
      · skip
        obtain ⟨X85, -, g⟩ := g
        obtain ⟨w87, X86, rX86, g⟩ := g
        exact Or.inr g.1
    · unfold gxT_276_420 at g
      rcases fy_if g with g | g
      · skip
        obtain ⟨w115, X114, rX114, g⟩ := g
        replace g := g.2
        replace g := g.2
        replace g := g.2
        obtain ⟨w122, X121, rX121, g⟩ := g
        replace g := g.2
        replace g := g.2
        obtain ⟨X125, -, g⟩ := g
        obtain ⟨x126, -, g⟩ := g
        exact ih _ _ _ _ _ _ _ g
      · skip
        obtain ⟨x111, -, g⟩ := g
        exact ih _ _ _ _ _ _ _ g
theorem gv_276 {p1 : Int32} {p2 : Int32} {X : fx_X} {v : Int32} {X' : fx_X} (g : gx_276 p1 p2 X v X') : v = Int32.ofInt 0 ∨ v = Int32.ofInt 1 := by
  obtain ⟨n, g⟩ := g
  unfold gxE_276 at g
  obtain ⟨x2, -, g⟩ := g
  rcases fy_if g with g | g
  · skip
    replace g := g.2
    obtain ⟨x7, -, g⟩ := g
    obtain ⟨X11, -, g⟩ := g
    rcases fy_if g with g | g
    · skip
      obtain ⟨X15, -, g⟩ := g
      exact gvl_276 _ _ n _ _ _ _ _ _ _ g
    · skip
      replace g := g.2
      replace g := g.2
      obtain ⟨X22, -, g⟩ := g
      exact gvl_276 _ _ n _ _ _ _ _ _ _ g
  · skip
    replace g := g.2
    replace g := g.2
    rcases fy_if g with g | g
    · skip
      obtain ⟨w49, X48, rX48, g⟩ := g
      rw [g.1]; exact gv_215 rX48
    · skip
      replace g := g.2
      obtain ⟨x31, -, g⟩ := g
      obtain ⟨X35, -, g⟩ := g
      rcases fy_if g with g | g
      · skip
        obtain ⟨X39, -, g⟩ := g
        exact gvl_276 _ _ n _ _ _ _ _ _ _ g
      · skip
        replace g := g.2
        replace g := g.2
        obtain ⟨X46, -, g⟩ := g
        exact gvl_276 _ _ n _ _ _ _ _ _ _ g
theorem gvl_275 (p1 : Int32) (p2 : Int32) : ∀ (n l : Nat) (is : List Int32) (ls : List Int64) (rs : List Nat) (X : fx_X) (v : Int32) (X' : fx_X), gxF_275 p1 p2 n l is ls rs X v X' → v = Int32.ofInt 0 ∨ v = Int32.ofInt 1 := by
  intro n
  induction n with
  | zero => intro l is ls rs X v X' g; exact g.elim
  | succ n ih =>
    intro l is ls rs X v X' g
    rcases g with ⟨-, y3, y4, -, -, -, g⟩
    · unfold gxT_275_34 at g
      rcases fy_if g with g | g
      · skip
        rcases fy_if g with g | g
        · skip
          obtain ⟨w26, X25, rX25, g⟩ := g
          replace g := g.2
          obtain ⟨X31, -, g⟩ := g
          exact Or.inr g.1
        · skip
          rcases fy_if g with g | g
          · skip
            replace g := g.2
            obtain ⟨X24, -, g⟩ := g
            exact Or.inr g.1
          · skip
            obtain ⟨w21, X20, rX20, g⟩ := g
            rw [g.1]; exact gv_276 rX20
      · skip
        replace g := g.2
        rcases fy_if g with g | g
        · skip
          replace g := g.2
          obtain ⟨w52, X51, rX51, g⟩ := g
          rcases fy_if g with g | g
          · skip
            obtain ⟨x56, -, g⟩ := g
            obtain ⟨x58, -, g⟩ := g
            exact ih _ _ _ _ _ _ _ g
          · skip
            obtain ⟨x54, -, g⟩ := g
            exact ih _ _ _ _ _ _ _ g
        · skip
          rcases fy_if g with g | g
          · skip
            obtain ⟨w43, X42, rX42, g⟩ := g
            replace g := g.2
            obtain ⟨X48, -, g⟩ := g
            exact Or.inr g.1
          · skip
            rcases fy_if g with g | g
            · skip
              replace g := g.2
              obtain ⟨X41, -, g⟩ := g
              exact Or.inr g.1
            · skip
              obtain ⟨w38, X37, rX37, g⟩ := g
              rw [g.1]; exact gv_276 rX37
theorem gv_275 {p1 : Int32} {p2 : Int32} {X : fx_X} {v : Int32} {X' : fx_X} (g : gx_275 p1 p2 X v X') : v = Int32.ofInt 0 ∨ v = Int32.ofInt 1 := by
  obtain ⟨n, g⟩ := g
  unfold gxE_275 at g
  replace g := g.2
  rcases fy_if g with g | g
  · skip
    exact gvl_275 _ _ n _ _ _ _ _ _ _ g
  · skip
    replace g := g.2
    rcases fy_if g with g | g
    · skip
      exact gvl_275 _ _ n _ _ _ _ _ _ _ g
    · skip
      replace g := g.2
      obtain ⟨x12, -, g⟩ := g
      exact gvl_275 _ _ n _ _ _ _ _ _ _ g
theorem gvl_278 (p1 : Int32) (p2 : Int32) : ∀ (n l : Nat) (is : List Int32) (ls : List Int64) (rs : List Nat) (X : fx_X) (v : Int32) (X' : fx_X), gxF_278 p1 p2 n l is ls rs X v X' → v = Int32.ofInt 0 ∨ v = Int32.ofInt 1 := by
  intro n
  induction n with
  | zero => intro l is ls rs X v X' g; exact g.elim
  | succ n ih =>
    intro l is ls rs X v X' g
    rcases g with ⟨-, y3, -, -, -, g⟩
    · unfold gxT_278_30 at g
      replace g := g.2
      rcases fy_if g with g | g
      · skip
        replace g := g.2
        obtain ⟨w22, X21, rX21, g⟩ := g
        obtain ⟨x23, -, g⟩ := g
        exact ih _ _ _ _ _ _ _ g
      · skip
        replace g := g.2
        replace g := g.2
        replace g := g.2
        obtain ⟨X18, -, g⟩ := g
        exact Or.inr g.1
theorem gv_278 {p1 : Int32} {p2 : Int32} {X : fx_X} {v : Int32} {X' : fx_X} (g : gx_278 p1 p2 X v X') : v = Int32.ofInt 0 ∨ v = Int32.ofInt 1 := by
  obtain ⟨n, g⟩ := g
  unfold gxE_278 at g
  replace g := g.2
  replace g := g.2
  rcases fy_if g with g | g
  · skip
    obtain ⟨w9, X8, rX8, g⟩ := g
    rw [g.1]; exact gv_215 rX8
  · skip
    exact gvl_278 _ _ n _ _ _ _ _ _ _ g
theorem gvl_277 (p1 : Int32) (p2 : Int32) : ∀ (n l : Nat) (is : List Int32) (ls : List Int64) (rs : List Nat) (X : fx_X) (v : Int32) (X' : fx_X), gxF_277 p1 p2 n l is ls rs X v X' → v = Int32.ofInt 0 ∨ v = Int32.ofInt 1 := by
  intro n
  induction n with
  | zero => intro l is ls rs X v X' g; exact g.elim
  | succ n ih =>
    intro l is ls rs X v X' g
    rcases g with ⟨-, y3, -, -, -, g⟩
    · unfold gxT_277_19 at g
      replace g := g.2
      rcases fy_if g with g | g
      · skip
        replace g := g.2
        replace g := g.2
        rcases fy_if g with g | g
        · skip
          obtain ⟨x16, -, g⟩ := g
          exact ih _ _ _ _ _ _ _ g
        · skip
          exact Or.inl g.1
      · skip
        exact Or.inr g.1
theorem gv_277 {p1 : Int32} {p2 : Int32} {X : fx_X} {v : Int32} {X' : fx_X} (g : gx_277 p1 p2 X v X') : v = Int32.ofInt 0 ∨ v = Int32.ofInt 1 := by
  obtain ⟨n, g⟩ := g
  unfold gxE_277 at g
  replace g := g.2
  replace g := g.2
  rcases fy_if g with g | g
  · skip
    exact gvl_277 _ _ n _ _ _ _ _ _ _ g
  · skip
    exact Or.inl g.1
theorem gvl_279 (p1 : Int32) : ∀ (n l : Nat) (is : List Int32) (ls : List Int64) (rs : List Nat) (X : fx_X) (v : Int32) (X' : fx_X), gxF_279 p1 n l is ls rs X v X' → v = Int32.ofInt 0 ∨ v = Int32.ofInt 1 := by
  intro n
  induction n with
  | zero => intro l is ls rs X v X' g; exact g.elim
  | succ n ih =>
    intro l is ls rs X v X' g
    rcases g with ⟨-, y2, -, -, -, g⟩ | ⟨-, y2, y3, -, -, -, g⟩ | ⟨-, y2, y3, y4, -, -, -, g⟩ | ⟨-, y2, y3, y4, y5, y6, -, -, -, g⟩
    · unfold gxT_279_2 at g
      replace g := g.2
      rcases fy_if g with g | g
      · skip
        exact ih _ _ _ _ _ _ _ g
      · skip
        exact Or.inr g.1
    · unfold gxT_279_17 at g
      replace g := g.2
      rcases fy_if g with g | g
      · skip
        exact ih _ _ _ _ _ _ _ g
      · skip
        obtain ⟨x10, -, g⟩ := g
        exact ih _ _ _ _ _ _ _ g
    · unfold gxT_279_30 at g
      replace g := g.2
      rcases fy_if g with g | g
      · skip
        obtain ⟨w20, X19, rX19, g⟩ := g
        obtain ⟨w22, X21, rX21, g⟩ := g
        rcases fy_if g with g | g
        · skip
          obtain ⟨x24, -, g⟩ := g
          exact ih _ _ _ _ _ _ _ g
        · skip
          obtain ⟨w28, X27, rX27, g⟩ := g
          obtain ⟨w30, X29, rX29, g⟩ := g
          exact ih _ _ _ _ _ _ _ g
      · skip
        obtain ⟨x16, -, g⟩ := g
        exact ih _ _ _ _ _ _ _ g
    · unfold gxT_279_82 at g
      replace g := g.2
      rcases fy_if g with g | g
      · skip
        rcases fy_if g with g | g
        · skip
          rcases fy_if g with g | g
          · skip
            obtain ⟨x48, -, g⟩ := g
            exact ih _ _ _ _ _ _ _ g
          · skip
            obtain ⟨w52, X51, rX51, g⟩ := g
            obtain ⟨w54, X53, rX53, g⟩ := g
            obtain ⟨x55, -, g⟩ := g
            exact ih _ _ _ _ _ _ _ g
        · skip
          obtain ⟨w58, X57, rX57, g⟩ := g
          obtain ⟨w60, X59, rX59, g⟩ := g
          rcases fy_if g with g | g
          · skip
            obtain ⟨x66, -, g⟩ := g
            exact ih _ _ _ _ _ _ _ g
          · skip
            obtain ⟨x63, -, g⟩ := g
            exact ih _ _ _ _ _ _ _ g
      · skip
        rcases fy_if g with g | g
        · skip
          obtain ⟨x37, -, g⟩ := g
          exact ih _ _ _ _ _ _ _ g
        · skip
          obtain ⟨w41, X40, rX40, g⟩ := g
          obtain ⟨w43, X42, rX42, g⟩ := g
          obtain ⟨x44, -, g⟩ := g
          exact ih _ _ _ _ _ _ _ g
theorem gv_279 {p1 : Int32} {X : fx_X} {v : Int32} {X' : fx_X} (g : gx_279 p1 X v X') : v = Int32.ofInt 0 ∨ v = Int32.ofInt 1 := by
  obtain ⟨n, g⟩ := g
  unfold gxE_279 at g
  exact gvl_279 _ n _ _ _ _ _ _ _ g
theorem gvl_274 : ∀ (n l : Nat) (is : List Int32) (ls : List Int64) (rs : List Nat) (X : fx_X) (v : Int32) (X' : fx_X), gxF_274 n l is ls rs X v X' → v = Int32.ofInt 0 ∨ v = Int32.ofInt 1 := by
  intro n
  induction n with
  | zero => intro l is ls rs X v X' g; exact g.elim
  | succ n ih =>
    intro l is ls rs X v X' g
    rcases g with ⟨-, y1, y2, y3, y4, -, -, -, g⟩
    · unfold gxT_274_109 at g
      rcases fy_if g with g | g
      · skip
        replace g := g.2
        obtain ⟨X37, -, g⟩ := g
        exact Or.inr g.1
      · skip
        obtain ⟨w39, X38, rX38, g⟩ := g
        rcases fy_if g with g | g
        · skip
          replace g := g.2
          obtain ⟨X51, -, g⟩ := g
          exact Or.inr g.1
        · skip
          rcases fy_if g with g | g
          · skip
            exact Or.inr g.1
          · skip
            rcases fy_if g with g | g
            · skip
              obtain ⟨w47, X46, rX46, g⟩ := g
              rcases fy_if g with g | g
              · skip
                exact Or.inl g.1
              · skip
                exact Or.inr g.1
            · skip
              obtain ⟨w44, X43, rX43, g⟩ := g
              rcases fy_if g with g | g
              · skip
                exact Or.inl g.1
              · skip
                exact Or.inr g.1
theorem gv_274 {X : fx_X} {v : Int32} {X' : fx_X} (g : gx_274 X v X') : v = Int32.ofInt 0 ∨ v = Int32.ofInt 1 := by
  obtain ⟨n, g⟩ := g
  unfold gxE_274 at g
  obtain ⟨X2, -, g⟩ := g
  replace g := g.2
  obtain ⟨x5, -, g⟩ := g
  replace g := g.2
  obtain ⟨x9, -, g⟩ := g
  obtain ⟨X11, -, g⟩ := g
  obtain ⟨x12, -, g⟩ := g
  rcases fy_if g with g | g
  · skip
    obtain ⟨w33, X32, rX32, g⟩ := g
    rw [g.1]; exact gv_275 rX32
  · skip
    replace g := g.2
    rcases fy_if g with g | g
    · skip
      exact gvl_274 n _ _ _ _ _ _ _ g
    · skip
      replace g := g.2
      rcases fy_if g with g | g
      · skip
        exact gvl_274 n _ _ _ _ _ _ _ g
      · skip
        obtain ⟨w28, X27, rX27, g⟩ := g
        rcases fy_if g with g | g
        · skip
          obtain ⟨w31, X30, rX30, g⟩ := g
          exact gvl_274 n _ _ _ _ _ _ _ g
        · skip
          exact gvl_274 n _ _ _ _ _ _ _ g
theorem gv_273 {p1 : Int32} {X : fx_X} {v : Int32} {X' : fx_X} (g : gx_273 p1 X v X') : v = Int32.ofInt 0 ∨ v = Int32.ofInt 1 := by
  unfold gx_273 at g
  rcases fy_if g with g | g
  · skip
    replace g := g.2
    rcases fy_if g with g | g
    · skip
      exact Or.inr g.1
    · skip
      exact Or.inl g.1
  · skip
    exact Or.inl g.1
theorem gvl_249 : ∀ (n l : Nat) (is : List Int32) (ls : List Int64) (rs : List Nat) (X : fx_X) (v : Int32) (X' : fx_X), gxF_249 n l is ls rs X v X' → v = Int32.ofInt 0 ∨ v = Int32.ofInt 1 := by
  intro n
  induction n with
  | zero => intro l is ls rs X v X' g; exact g.elim
  | succ n ih =>
    intro l is ls rs X v X' g
    rcases g with ⟨-, y1, -, -, -, g⟩ | ⟨-, -, -, -, g⟩ | ⟨-, -, -, -, g⟩ | ⟨-, -, -, -, g⟩ | ⟨-, y1, -, -, -, g⟩ | ⟨-, -, -, -, g⟩
    · unfold gxT_249_18 at g
      rcases fy_if g with g | g
      · skip
        rcases fy_if g with g | g
        · skip
          obtain ⟨w9, X8, rX8, g⟩ := g
          rw [g.1]; exact gv_215 rX8
        · skip
          exact ih _ _ _ _ _ _ _ g
      · skip
        exact ih _ _ _ _ _ _ _ g
    · unfold gxT_249_22 at g
      obtain ⟨w15, X14, rX14, g⟩ := g
      rcases fy_if g with g | g
      · skip
        obtain ⟨w18, X17, rX17, g⟩ := g
        rcases fy_if g with g | g
        · skip
          exact Or.inl g.1
        · skip
          obtain ⟨X20, -, g⟩ := g
          obtain ⟨w22, X21, rX21, g⟩ := g
          rcases fy_if g with g | g
          · skip
            exact Or.inl g.1
          · skip
            exact ih _ _ _ _ _ _ _ g
      · skip
        rcases fy_if g with g | g
        · skip
          obtain ⟨w34, X33, rX33, g⟩ := g
          rw [g.1]; exact gv_215 rX33
        · skip
          obtain ⟨X25, -, g⟩ := g
          replace g := g.2
          obtain ⟨X28, -, g⟩ := g
          obtain ⟨X29, -, g⟩ := g
          obtain ⟨w31, X30, rX30, g⟩ := g
          rcases fy_if g with g | g
          · skip
            exact Or.inl g.1
          · skip
            exact ih _ _ _ _ _ _ _ g
    · unfold gxT_249_128 at g
      rcases fy_if g with g | g
      · skip
        obtain ⟨w54, X53, rX53, g⟩ := g
        rcases fy_if g with g | g
        · skip
          obtain ⟨w57, X56, rX56, g⟩ := g
          rcases fy_if g with g | g
          · skip
            obtain ⟨w62, X61, rX61, g⟩ := g
            rcases fy_if g with g | g
            · skip
              obtain ⟨w67, X66, rX66, g⟩ := g
              rcases fy_if g with g | g
              · skip
                exact ih _ _ _ _ _ _ _ g
              · skip
                exact ih _ _ _ _ _ _ _ g
            · skip
              exact ih _ _ _ _ _ _ _ g
          · skip
            exact ih _ _ _ _ _ _ _ g
        · skip
          exact ih _ _ _ _ _ _ _ g
      · skip
        obtain ⟨w37, X36, rX36, g⟩ := g
        rcases fy_if g with g | g
        · skip
          obtain ⟨w42, X41, rX41, g⟩ := g
          rcases fy_if g with g | g
          · skip
            obtain ⟨w47, X46, rX46, g⟩ := g
            rcases fy_if g with g | g
            · skip
              exact ih _ _ _ _ _ _ _ g
            · skip
              exact ih _ _ _ _ _ _ _ g
          · skip
            exact ih _ _ _ _ _ _ _ g
        · skip
          exact ih _ _ _ _ _ _ _ g
    · unfold gxT_249_144 at g
      obtain ⟨w115, X114, rX114, g⟩ := g
      rcases fy_if g with g | g
      · skip
        obtain ⟨w126, X125, rX125, g⟩ := g
        rcases fy_if g with g | g
        · skip
          exact Or.inl g.1
        · skip
          exact ih _ _ _ _ _ _ _ g
      · skip
        obtain ⟨X117, -, g⟩ := g
        obtain ⟨X118, -, g⟩ := g
        obtain ⟨w120, X119, rX119, g⟩ := g
        rcases fy_if g with g | g
        · skip
          exact Or.inl g.1
        · skip
          obtain ⟨w123, X122, rX122, g⟩ := g
          rcases fy_if g with g | g
          · skip
            exact Or.inl g.1
          · skip
            exact ih _ _ _ _ _ _ _ g
    · unfold gxT_249_241 at g
      obtain ⟨w74, X73, rX73, g⟩ := g
      rcases fy_if g with g | g
      · skip
        obtain ⟨w80, X79, rX79, g⟩ := g
        rcases fy_if g with g | g
        · skip
          obtain ⟨w93, X92, rX92, g⟩ := g
          rcases fy_if g with g | g
          · skip
            obtain ⟨w99, X98, rX98, g⟩ := g
            rcases fy_if g with g | g
            · skip
              replace g := g.2
              obtain ⟨X103, -, g⟩ := g
              replace g := g.2
              obtain ⟨X106, -, g⟩ := g
              obtain ⟨X107, -, g⟩ := g
              obtain ⟨w109, X108, rX108, g⟩ := g
              rcases fy_if g with g | g
              · skip
                exact Or.inl g.1
              · skip
                exact ih _ _ _ _ _ _ _ g
            · skip
              obtain ⟨w112, X111, rX111, g⟩ := g
              rcases fy_if g with g | g
              · skip
                exact Or.inl g.1
              · skip
                exact ih _ _ _ _ _ _ _ g
          · skip
            obtain ⟨w96, X95, rX95, g⟩ := g
            rcases fy_if g with g | g
            · skip
              exact Or.inl g.1
            · skip
              exact ih _ _ _ _ _ _ _ g
        · skip
          replace g := g.2
          obtain ⟨X84, -, g⟩ := g
          replace g := g.2
          obtain ⟨X87, -, g⟩ := g
          obtain ⟨X88, -, g⟩ := g
          obtain ⟨w90, X89, rX89, g⟩ := g
          rcases fy_if g with g | g
          · skip
            exact Or.inl g.1
          · skip
            exact ih _ _ _ _ _ _ _ g
      · skip
        obtain ⟨w77, X76, rX76, g⟩ := g
        rcases fy_if g with g | g
        · skip
          exact Or.inl g.1
        · skip
          exact ih _ _ _ _ _ _ _ g
    · unfold gxT_249_348 at g
      rcases fy_if g with g | g
      · skip
        obtain ⟨w12, X11, rX11, g⟩ := g
        rcases fy_if g with g | g
        · skip
          exact Or.inl g.1
        · skip
          exact ih _ _ _ _ _ _ _ g
      · skip
        exact Or.inr g.1
theorem gv_249 {X : fx_X} {v : Int32} {X' : fx_X} (g : gx_249 X v X') : v = Int32.ofInt 0 ∨ v = Int32.ofInt 1 := by
  obtain ⟨n, g⟩ := g
  unfold gxE_249 at g
  obtain ⟨X2, -, g⟩ := g
  obtain ⟨X3, -, g⟩ := g
  obtain ⟨X4, -, g⟩ := g
  exact gvl_249 n _ _ _ _ _ _ _ g
theorem gv_248 {X : fx_X} {v : Int32} {X' : fx_X} (g : gx_248 X v X') : v = Int32.ofInt 0 ∨ v = Int32.ofInt 1 := by
  unfold gx_248 at g
  obtain ⟨w3, X2, rX2, g⟩ := g
  rcases fy_if g with g | g
  · skip
    exact Or.inl g.1
  · skip
    obtain ⟨x5, -, g⟩ := g
    obtain ⟨w8, X7, rX7, g⟩ := g
    rcases fy_if g with g | g
    · skip
      exact Or.inl g.1
    · skip
      obtain ⟨w11, X10, rX10, g⟩ := g
      rcases fy_if g with g | g
      · skip
        exact Or.inl g.1
      · skip
        obtain ⟨w14, X13, rX13, g⟩ := g
        rcases fy_if g with g | g
        · skip
          exact Or.inl g.1
        · skip
          replace g := g.2
          obtain ⟨x18, -, g⟩ := g
          obtain ⟨w21, X20, rX20, g⟩ := g
          replace g := g.2
          replace g := g.2
          obtain ⟨X25, -, g⟩ := g
          exact Or.inr g.1
theorem gvl_238 : ∀ (n l : Nat) (is : List Int32) (ls : List Int64) (rs : List Nat) (X : fx_X) (v : Int32) (X' : fx_X), gxF_238 n l is ls rs X v X' → v = Int32.ofInt 0 ∨ v = Int32.ofInt 1 := by
  intro n
  induction n with
  | zero => intro l is ls rs X v X' g; exact g.elim
  | succ n ih =>
    intro l is ls rs X v X' g
    rcases g with ⟨-, y1, y2, y3, y4, -, -, -, g⟩
    · unfold gxT_238_81 at g
      rcases fy_if g with g | g
      · skip
        obtain ⟨X60, -, g⟩ := g
        exact Or.inr g.1
      · skip
        replace g := g.2
        rcases fy_if g with g | g
        · skip
          obtain ⟨w67, X66, rX66, g⟩ := g
          obtain ⟨w69, X68, rX68, g⟩ := g
          obtain ⟨w71, X70, rX70, g⟩ := g
          obtain ⟨w73, X72, rX72, g⟩ := g
          obtain ⟨x74, -, g⟩ := g
          exact ih _ _ _ _ _ _ _ g
        · skip
          obtain ⟨X64, -, g⟩ := g
          exact Or.inr g.1
theorem gv_238 {X : fx_X} {v : Int32} {X' : fx_X} (g : gx_238 X v X') : v = Int32.ofInt 0 ∨ v = Int32.ofInt 1 := by
  obtain ⟨n, g⟩ := g
  unfold gxE_238 at g
  rcases fy_if g with g | g
  · skip
    obtain ⟨w4, X3, rX3, g⟩ := g
    rcases fy_if g with g | g
    · skip
      exact Or.inl g.1
    · skip
      obtain ⟨x6, -, g⟩ := g
      obtain ⟨x8, -, g⟩ := g
      obtain ⟨w11, X10, rX10, g⟩ := g
      rcases fy_if g with g | g
      · skip
        exact Or.inl g.1
      · skip
        obtain ⟨x13, -, g⟩ := g
        obtain ⟨w16, X15, rX15, g⟩ := g
        rcases fy_if g with g | g
        · skip
          exact Or.inl g.1
        · skip
          exact gvl_238 n _ _ _ _ _ _ _ g
  · skip
    obtain ⟨w20, X19, rX19, g⟩ := g
    rcases fy_if g with g | g
    · skip
      obtain ⟨w39, X38, rX38, g⟩ := g
      rcases fy_if g with g | g
      · skip
        obtain ⟨w58, X57, rX57, g⟩ := g
        rw [g.1]; exact gv_215 rX57
      · skip
        obtain ⟨w42, X41, rX41, g⟩ := g
        rcases fy_if g with g | g
        · skip
          exact Or.inl g.1
        · skip
          obtain ⟨x44, -, g⟩ := g
          obtain ⟨x46, -, g⟩ := g
          obtain ⟨w49, X48, rX48, g⟩ := g
          rcases fy_if g with g | g
          · skip
            exact Or.inl g.1
          · skip
            obtain ⟨x51, -, g⟩ := g
            obtain ⟨w54, X53, rX53, g⟩ := g
            rcases fy_if g with g | g
            · skip
              exact Or.inl g.1
            · skip
              exact gvl_238 n _ _ _ _ _ _ _ g
    · skip
      obtain ⟨w23, X22, rX22, g⟩ := g
      rcases fy_if g with g | g
      · skip
        exact Or.inl g.1
      · skip
        obtain ⟨x25, -, g⟩ := g
        obtain ⟨x27, -, g⟩ := g
        obtain ⟨w30, X29, rX29, g⟩ := g
        rcases fy_if g with g | g
        · skip
          exact Or.inl g.1
        · skip
          obtain ⟨x32, -, g⟩ := g
          obtain ⟨w35, X34, rX34, g⟩ := g
          rcases fy_if g with g | g
          · skip
            exact Or.inl g.1
          · skip
            exact gvl_238 n _ _ _ _ _ _ _ g
theorem gv_243 {p1 : Int32} {X : fx_X} {v : Int32} {X' : fx_X} (g : gx_243 p1 X v X') : v = Int32.ofInt 0 ∨ v = Int32.ofInt 1 := by
  unfold gx_243 at g
  rcases fy_if g with g | g
  · skip
    replace g := g.2
    rcases fy_if g with g | g
    · skip
      exact Or.inr g.1
    · skip
      exact Or.inl g.1
  · skip
    exact Or.inl g.1
theorem gvl_237 : ∀ (n l : Nat) (is : List Int32) (ls : List Int64) (rs : List Nat) (X : fx_X) (v : Int32) (X' : fx_X), gxF_237 n l is ls rs X v X' → v = Int32.ofInt 0 ∨ v = Int32.ofInt 1 := by
  intro n
  induction n with
  | zero => intro l is ls rs X v X' g; exact g.elim
  | succ n ih =>
    intro l is ls rs X v X' g
    rcases g with ⟨-, y1, y2, -, -, -, g⟩ | ⟨-, y1, -, -, -, g⟩ | ⟨-, y1, -, -, -, g⟩ | ⟨-, y1, -, -, -, g⟩ | ⟨-, y1, -, -, -, g⟩ | ⟨-, y1, -, -, -, g⟩ | ⟨-, y1, y2, -, -, -, g⟩ | ⟨-, -, -, -, g⟩
    · unfold gxT_237_19 at g
      rcases fy_if g with g | g
      · skip
        rcases fy_if g with g | g
        · skip
          obtain ⟨w10, X9, rX9, g⟩ := g
          rw [g.1]; exact gv_215 rX9
        · skip
          exact ih _ _ _ _ _ _ _ g
      · skip
        exact ih _ _ _ _ _ _ _ g
    · unfold gxT_237_23 at g
      obtain ⟨w15, X14, rX14, g⟩ := g
      rcases fy_if g with g | g
      · skip
        obtain ⟨w36, X35, rX35, g⟩ := g
        rcases fy_if g with g | g
        · skip
          obtain ⟨w39, X38, rX38, g⟩ := g
          rcases fy_if g with g | g
          · skip
            exact Or.inl g.1
          · skip
            exact ih _ _ _ _ _ _ _ g
        · skip
          rcases fy_if g with g | g
          · skip
            obtain ⟨w58, X57, rX57, g⟩ := g
            rw [g.1]; exact gv_215 rX57
          · skip
            obtain ⟨X42, -, g⟩ := g
            replace g := g.2
            obtain ⟨X45, -, g⟩ := g
            obtain ⟨X46, -, g⟩ := g
            rcases fy_if g with g | g
            · skip
              obtain ⟨x52, -, g⟩ := g
              obtain ⟨w55, X54, rX54, g⟩ := g
              rcases fy_if g with g | g
              · skip
                exact Or.inl g.1
              · skip
                exact ih _ _ _ _ _ _ _ g
            · skip
              obtain ⟨w50, X49, rX49, g⟩ := g
              rcases fy_if g with g | g
              · skip
                exact Or.inl g.1
              · skip
                exact ih _ _ _ _ _ _ _ g
      · skip
        rcases fy_if g with g | g
        · skip
          obtain ⟨w34, X33, rX33, g⟩ := g
          rw [g.1]; exact gv_215 rX33
        · skip
          obtain ⟨X18, -, g⟩ := g
          replace g := g.2
          obtain ⟨X21, -, g⟩ := g
          obtain ⟨X22, -, g⟩ := g
          rcases fy_if g with g | g
          · skip
            obtain ⟨x28, -, g⟩ := g
            obtain ⟨w31, X30, rX30, g⟩ := g
            rcases fy_if g with g | g
            · skip
              exact Or.inl g.1
            · skip
              exact ih _ _ _ _ _ _ _ g
          · skip
            obtain ⟨w26, X25, rX25, g⟩ := g
            rcases fy_if g with g | g
            · skip
              exact Or.inl g.1
            · skip
              exact ih _ _ _ _ _ _ _ g
    · unfold gxT_237_128 at g
      obtain ⟨w60, X59, rX59, g⟩ := g
      rcases fy_if g with g | g
      · skip
        exact ih _ _ _ _ _ _ _ g
      · skip
        obtain ⟨w63, X62, rX62, g⟩ := g
        exact ih _ _ _ _ _ _ _ g
    · unfold gxT_237_144 at g
      rcases fy_if g with g | g
      · skip
        obtain ⟨w78, X77, rX77, g⟩ := g
        rcases fy_if g with g | g
        · skip
          obtain ⟨w81, X80, rX80, g⟩ := g
          rcases fy_if g with g | g
          · skip
            obtain ⟨w86, X85, rX85, g⟩ := g
            rcases fy_if g with g | g
            · skip
              exact ih _ _ _ _ _ _ _ g
            · skip
              exact ih _ _ _ _ _ _ _ g
          · skip
            exact ih _ _ _ _ _ _ _ g
        · skip
          exact ih _ _ _ _ _ _ _ g
      · skip
        obtain ⟨w66, X65, rX65, g⟩ := g
        rcases fy_if g with g | g
        · skip
          obtain ⟨w71, X70, rX70, g⟩ := g
          rcases fy_if g with g | g
          · skip
            exact ih _ _ _ _ _ _ _ g
          · skip
            exact ih _ _ _ _ _ _ _ g
        · skip
          exact ih _ _ _ _ _ _ _ g
    · unfold gxT_237_157 at g
      obtain ⟨w120, X119, rX119, g⟩ := g
      rcases fy_if g with g | g
      · skip
        obtain ⟨w130, X129, rX129, g⟩ := g
        exact ih _ _ _ _ _ _ _ g
      · skip
        obtain ⟨X122, -, g⟩ := g
        obtain ⟨x123, -, g⟩ := g
        obtain ⟨X125, -, g⟩ := g
        obtain ⟨w127, X126, rX126, g⟩ := g
        rcases fy_if g with g | g
        · skip
          exact Or.inl g.1
        · skip
          exact ih _ _ _ _ _ _ _ g
    · unfold gxT_237_205 at g
      obtain ⟨w132, X131, rX131, g⟩ := g
      rcases fy_if g with g | g
      · skip
        exact ih _ _ _ _ _ _ _ g
      · skip
        obtain ⟨w135, X134, rX134, g⟩ := g
        exact ih _ _ _ _ _ _ _ g
    · unfold gxT_237_249 at g
      obtain ⟨w93, X92, rX92, g⟩ := g
      rcases fy_if g with g | g
      · skip
        obtain ⟨w98, X97, rX97, g⟩ := g
        rcases fy_if g with g | g
        · skip
          replace g := g.2
          obtain ⟨X102, -, g⟩ := g
          obtain ⟨X103, -, g⟩ := g
          obtain ⟨w105, X104, rX104, g⟩ := g
          rcases fy_if g with g | g
          · skip
            exact Or.inl g.1
          · skip
            exact ih _ _ _ _ _ _ _ g
        · skip
          obtain ⟨w108, X107, rX107, g⟩ := g
          rcases fy_if g with g | g
          · skip
            replace g := g.2
            obtain ⟨X112, -, g⟩ := g
            obtain ⟨X113, -, g⟩ := g
            obtain ⟨w115, X114, rX114, g⟩ := g
            rcases fy_if g with g | g
            · skip
              exact Or.inl g.1
            · skip
              exact ih _ _ _ _ _ _ _ g
          · skip
            obtain ⟨w118, X117, rX117, g⟩ := g
            exact ih _ _ _ _ _ _ _ g
      · skip
        obtain ⟨w96, X95, rX95, g⟩ := g
        exact ih _ _ _ _ _ _ _ g
    · unfold gxT_237_329 at g
      rcases fy_if g with g | g
      · skip
        obtain ⟨w13, X12, rX12, g⟩ := g
        exact ih _ _ _ _ _ _ _ g
      · skip
        exact Or.inr g.1
theorem gv_237 {X : fx_X} {v : Int32} {X' : fx_X} (g : gx_237 X v X') : v = Int32.ofInt 0 ∨ v = Int32.ofInt 1 := by
  obtain ⟨n, g⟩ := g
  unfold gxE_237 at g
  obtain ⟨X2, -, g⟩ := g
  obtain ⟨X3, -, g⟩ := g
  obtain ⟨X4, -, g⟩ := g
  exact gvl_237 n _ _ _ _ _ _ _ g
theorem gvl_247 (p1 : Int32) (p2 : Int32) : ∀ (n l : Nat) (is : List Int32) (ls : List Int64) (rs : List Nat) (X : fx_X) (v : Int32) (X' : fx_X), gxF_247 p1 p2 n l is ls rs X v X' → v = Int32.ofInt 0 ∨ v = Int32.ofInt 1 := by
  intro n
  induction n with
  | zero => intro l is ls rs X v X' g; exact g.elim
  | succ n ih =>
    intro l is ls rs X v X' g
    rcases g with ⟨-, y3, -, -, -, g⟩
    · unfold gxT_247_2 at g
      replace g := g.2
      rcases fy_if g with g | g
      · skip
        obtain ⟨w8, X7, rX7, g⟩ := g
        rcases fy_if g with g | g
        · skip
          exact Or.inl g.1
        · skip
          obtain ⟨x10, -, g⟩ := g
          exact ih _ _ _ _ _ _ _ g
      · skip
        exact Or.inr g.1
theorem gv_247 {p1 : Int32} {p2 : Int32} {X : fx_X} {v : Int32} {X' : fx_X} (g : gx_247 p1 p2 X v X') : v = Int32.ofInt 0 ∨ v = Int32.ofInt 1 := by
  obtain ⟨n, g⟩ := g
  unfold gxE_247 at g
  exact gvl_247 _ _ n _ _ _ _ _ _ _ g
theorem gvl_246 : ∀ (n l : Nat) (is : List Int32) (ls : List Int64) (rs : List Nat) (X : fx_X) (v : Int32) (X' : fx_X), gxF_246 n l is ls rs X v X' → v = Int32.ofInt 0 ∨ v = Int32.ofInt 1 := by
  intro n
  induction n with
  | zero => intro l is ls rs X v X' g; exact g.elim
  | succ n ih =>
    intro l is ls rs X v X' g
    rcases g with ⟨-, y1, y2, y3, y4, -, -, -, g⟩ | ⟨-, y1, y3, y4, -, -, -, g⟩
    · unfold gxT_246_91 at g
      replace g := g.2
      rcases fy_if g with g | g
      · skip
        obtain ⟨w35, X34, rX34, g⟩ := g
        obtain ⟨w37, X36, rX36, g⟩ := g
        obtain ⟨x38, -, g⟩ := g
        exact ih _ _ _ _ _ _ _ g
      · skip
        replace g := g.2
        replace g := g.2
        obtain ⟨X30, -, g⟩ := g
        exact ih _ _ _ _ _ _ _ g
    · unfold gxT_246_147 at g
      replace g := g.2
      rcases fy_if g with g | g
      · skip
        rcases fy_if g with g | g
        · skip
          obtain ⟨w52, X51, rX51, g⟩ := g
          rcases fy_if g with g | g
          · skip
            obtain ⟨x55, -, g⟩ := g
            exact ih _ _ _ _ _ _ _ g
          · skip
            obtain ⟨x58, -, g⟩ := g
            exact ih _ _ _ _ _ _ _ g
        · skip
          obtain ⟨x49, -, g⟩ := g
          exact ih _ _ _ _ _ _ _ g
      · skip
        rcases fy_if g with g | g
        · skip
          obtain ⟨w45, X44, rX44, g⟩ := g
          rcases fy_if g with g | g
          · skip
            exact Or.inl g.1
          · skip
            exact Or.inr g.1
        · skip
          exact Or.inr g.1
theorem gv_246 {X : fx_X} {v : Int32} {X' : fx_X} (g : gx_246 X v X') : v = Int32.ofInt 0 ∨ v = Int32.ofInt 1 := by
  obtain ⟨n, g⟩ := g
  unfold gxE_246 at g
  obtain ⟨x2, -, g⟩ := g
  rcases fy_if g with g | g
  · skip
    obtain ⟨w23, X22, rX22, g⟩ := g
    rw [g.1]; exact gv_215 rX22
  · skip
    obtain ⟨X5, -, g⟩ := g
    obtain ⟨w7, X6, rX6, g⟩ := g
    rcases fy_if g with g | g
    · skip
      exact Or.inl g.1
    · skip
      obtain ⟨w10, X9, rX9, g⟩ := g
      rcases fy_if g with g | g
      · skip
        exact Or.inl g.1
      · skip
        obtain ⟨w13, X12, rX12, g⟩ := g
        rcases fy_if g with g | g
        · skip
          exact Or.inl g.1
        · skip
          rcases fy_if g with g | g
          · skip
            exact Or.inr g.1
          · skip
            replace g := g.2
            obtain ⟨x18, -, g⟩ := g
            exact gvl_246 n _ _ _ _ _ _ _ g
theorem gv_212 {p1 : Int32} {X : fx_X} {v : Int32} {X' : fx_X} (g : gx_212 p1 X v X') : v = Int32.ofInt 0 ∨ v = Int32.ofInt 1 := by
  unfold gx_212 at g
  rcases fy_if g with g | g
  · skip
    rcases fy_if g with g | g
    · skip
      exact Or.inr g.1
    · skip
      exact Or.inl g.1
  · skip
    exact Or.inl g.1
theorem gvl_234 : ∀ (n l : Nat) (is : List Int32) (ls : List Int64) (rs : List Nat) (X : fx_X) (v : Int32) (X' : fx_X), gxF_234 n l is ls rs X v X' → v = Int32.ofInt 0 ∨ v = Int32.ofInt 1 := by
  intro n
  induction n with
  | zero => intro l is ls rs X v X' g; exact g.elim
  | succ n ih =>
    intro l is ls rs X v X' g
    rcases g with ⟨-, y1, y2, -, -, -, g⟩ | ⟨-, y1, y2, y3, -, -, -, g⟩ | ⟨-, y1, y2, y3, y4, y5, -, -, -, g⟩ | ⟨-, y1, y2, y3, y4, -, -, -, g⟩ | ⟨-, y1, y2, -, -, -, g⟩ | ⟨-, y1, y2, y6, -, -, -, g⟩ | ⟨-, y1, y2, y6, y7, -, -, -, g⟩ | ⟨-, y1, y2, -, -, -, g⟩
    · unfold gxT_234_86 at g
      obtain ⟨w27, X26, rX26, g⟩ := g
      rcases fy_if g with g | g
      · skip
        exact Or.inl g.1
      · skip
        obtain ⟨x29, -, g⟩ := g
        rcases fy_if g with g | g
        · skip
          obtain ⟨w38, X37, rX37, g⟩ := g
          exact ih _ _ _ _ _ _ _ g
        · skip
          replace g := g.2
          rcases fy_if g with g | g
          · skip
            exact ih _ _ _ _ _ _ _ g
          · skip
            obtain ⟨w36, X35, rX35, g⟩ := g
            exact ih _ _ _ _ _ _ _ g
    · unfold gxT_234_128 at g
      obtain ⟨w40, X39, rX39, g⟩ := g
      rcases fy_if g with g | g
      · skip
        exact Or.inl g.1
      · skip
        exact ih _ _ _ _ _ _ _ g
    · unfold gxT_234_145 at g
      rcases fy_if g with g | g
      · skip
        obtain ⟨w46, X45, rX45, g⟩ := g
        rcases fy_if g with g | g
        · skip
          exact Or.inl g.1
        · skip
          rcases fy_if g with g | g
          · skip
            exact ih _ _ _ _ _ _ _ g
          · skip
            replace g := g.2
            rcases fy_if g with g | g
            · skip
              replace g := g.2
              rcases fy_if g with g | g
              · skip
                exact ih _ _ _ _ _ _ _ g
              · skip
                obtain ⟨w56, X55, rX55, g⟩ := g
                exact ih _ _ _ _ _ _ _ g
            · skip
              exact ih _ _ _ _ _ _ _ g
      · skip
        rcases fy_if g with g | g
        · skip
          obtain ⟨w59, X58, rX58, g⟩ := g
          rcases fy_if g with g | g
          · skip
            exact Or.inl g.1
          · skip
            rcases fy_if g with g | g
            · skip
              exact ih _ _ _ _ _ _ _ g
            · skip
              replace g := g.2
              obtain ⟨w66, X65, rX65, g⟩ := g
              replace g := g.2
              obtain ⟨X68, -, g⟩ := g
              replace g := g.2
              obtain ⟨w73, X72, rX72, g⟩ := g
              replace g := g.2
              obtain ⟨X75, -, g⟩ := g
              exact ih _ _ _ _ _ _ _ g
        · skip
          obtain ⟨w77, X76, rX76, g⟩ := g
          rcases fy_if g with g | g
          · skip
            obtain ⟨w98, X97, rX97, g⟩ := g
            rcases fy_if g with g | g
            · skip
              obtain ⟨w119, X118, rX118, g⟩ := g
              rw [g.1]; exact gv_215 rX118
            · skip
              obtain ⟨w101, X100, rX100, g⟩ := g
              rcases fy_if g with g | g
              · skip
                exact Or.inl g.1
              · skip
                rcases fy_if g with g | g
                · skip
                  exact ih _ _ _ _ _ _ _ g
                · skip
                  replace g := g.2
                  obtain ⟨w108, X107, rX107, g⟩ := g
                  replace g := g.2
                  obtain ⟨X110, -, g⟩ := g
                  replace g := g.2
                  obtain ⟨w115, X114, rX114, g⟩ := g
                  replace g := g.2
                  obtain ⟨X117, -, g⟩ := g
                  exact ih _ _ _ _ _ _ _ g
          · skip
            obtain ⟨w80, X79, rX79, g⟩ := g
            rcases fy_if g with g | g
            · skip
              exact Or.inl g.1
            · skip
              rcases fy_if g with g | g
              · skip
                exact ih _ _ _ _ _ _ _ g
              · skip
                replace g := g.2
                obtain ⟨w87, X86, rX86, g⟩ := g
                replace g := g.2
                obtain ⟨X89, -, g⟩ := g
                replace g := g.2
                obtain ⟨w94, X93, rX93, g⟩ := g
                replace g := g.2
                obtain ⟨X96, -, g⟩ := g
                exact ih _ _ _ _ _ _ _ g
    · unfold gxT_234_245 at g
      obtain ⟨x130, -, g⟩ := g
      obtain ⟨w133, X132, rX132, g⟩ := g
      rcases fy_if g with g | g
      · skip
        exact ih _ _ _ _ _ _ _ g
      · skip
        obtain ⟨w137, X136, rX136, g⟩ := g
        rcases fy_if g with g | g
        · skip
          exact Or.inl g.1
        · skip
          exact ih _ _ _ _ _ _ _ g
    · unfold gxT_234_311 at g
      obtain ⟨w121, X120, rX120, g⟩ := g
      rcases fy_if g with g | g
      · skip
        exact ih _ _ _ _ _ _ _ g
      · skip
        obtain ⟨w125, X124, rX124, g⟩ := g
        rcases fy_if g with g | g
        · skip
          exact Or.inl g.1
        · skip
          obtain ⟨w128, X127, rX127, g⟩ := g
          rcases fy_if g with g | g
          · skip
            exact Or.inl g.1
          · skip
            exact ih _ _ _ _ _ _ _ g
    · unfold gxT_234_339 at g
      obtain ⟨w140, X139, rX139, g⟩ := g
      rcases fy_if g with g | g
      · skip
        exact Or.inl g.1
      · skip
        exact ih _ _ _ _ _ _ _ g
    · unfold gxT_234_353 at g
      rcases fy_if g with g | g
      · skip
        exact ih _ _ _ _ _ _ _ g
      · skip
        replace g := g.2
        rcases fy_if g with g | g
        · skip
          replace g := g.2
          obtain ⟨w151, X150, rX150, g⟩ := g
          rcases fy_if g with g | g
          · skip
            obtain ⟨w154, X153, rX153, g⟩ := g
            obtain ⟨x155, -, g⟩ := g
            exact ih _ _ _ _ _ _ _ g
          · skip
            obtain ⟨w159, X158, rX158, g⟩ := g
            rcases fy_if g with g | g
            · skip
              obtain ⟨w162, X161, rX161, g⟩ := g
              obtain ⟨x163, -, g⟩ := g
              exact ih _ _ _ _ _ _ _ g
            · skip
              obtain ⟨w166, X165, rX165, g⟩ := g
              obtain ⟨x167, -, g⟩ := g
              exact ih _ _ _ _ _ _ _ g
        · skip
          exact ih _ _ _ _ _ _ _ g
    · unfold gxT_234_423 at g
      rcases fy_if g with g | g
      · skip
        exact Or.inr g.1
      · skip
        replace g := g.2
        rcases fy_if g with g | g
        · skip
          replace g := g.2
          replace g := g.2
          obtain ⟨X176, -, g⟩ := g
          exact Or.inr g.1
        · skip
          exact Or.inr g.1
theorem gv_234 {X : fx_X} {v : Int32} {X' : fx_X} (g : gx_234 X v X') : v = Int32.ofInt 0 ∨ v = Int32.ofInt 1 := by
  obtain ⟨n, g⟩ := g
  unfold gxE_234 at g
  obtain ⟨w3, X2, rX2, g⟩ := g
  rcases fy_if g with g | g
  · skip
    exact Or.inl g.1
  · skip
    rcases fy_if g with g | g
    · skip
      obtain ⟨w11, X10, rX10, g⟩ := g
      obtain ⟨w13, X12, rX12, g⟩ := g
      obtain ⟨x15, -, g⟩ := g
      rcases fy_if g with g | g
      · skip
        exact gvl_234 n _ _ _ _ _ _ _ g
      · skip
        replace g := g.2
        rcases fy_if g with g | g
        · skip
          replace g := g.2
          rcases fy_if g with g | g
          · skip
            obtain ⟨w25, X24, rX24, g⟩ := g
            rw [g.1]; exact gv_215 rX24
          · skip
            exact gvl_234 n _ _ _ _ _ _ _ g
        · skip
          exact gvl_234 n _ _ _ _ _ _ _ g
    · skip
      obtain ⟨x7, -, g⟩ := g
      exact gvl_234 n _ _ _ _ _ _ _ g
theorem gv_232 {p1 : Int32} {X : fx_X} {v : Int32} {X' : fx_X} (g : gx_232 p1 X v X') : v = Int32.ofInt 0 ∨ v = Int32.ofInt 1 := by
  unfold gx_232 at g
  rcases fy_if g with g | g
  · skip
    replace g := g.2
    rcases fy_if g with g | g
    · skip
      obtain ⟨w59, X58, rX58, g⟩ := g
      rw [g.1]; exact gv_215 rX58
    · skip
      obtain ⟨w33, X32, rX32, g⟩ := g
      rcases fy_if g with g | g
      · skip
        exact Or.inl g.1
      · skip
        obtain ⟨w36, X35, rX35, g⟩ := g
        rcases fy_if g with g | g
        · skip
          replace g := g.2
          replace g := g.2
          obtain ⟨X42, -, g⟩ := g
          replace g := g.2
          replace g := g.2
          obtain ⟨X46, -, g⟩ := g
          exact Or.inr g.1
        · skip
          obtain ⟨w48, X47, rX47, g⟩ := g
          replace g := g.2
          replace g := g.2
          obtain ⟨X53, -, g⟩ := g
          replace g := g.2
          replace g := g.2
          obtain ⟨X57, -, g⟩ := g
          exact Or.inr g.1
  · skip
    obtain ⟨w4, X3, rX3, g⟩ := g
    rcases fy_if g with g | g
    · skip
      exact Or.inl g.1
    · skip
      obtain ⟨w7, X6, rX6, g⟩ := g
      rcases fy_if g with g | g
      · skip
        replace g := g.2
        replace g := g.2
        obtain ⟨X13, -, g⟩ := g
        replace g := g.2
        replace g := g.2
        obtain ⟨X17, -, g⟩ := g
        exact Or.inr g.1
      · skip
        obtain ⟨w19, X18, rX18, g⟩ := g
        replace g := g.2
        replace g := g.2
        obtain ⟨X24, -, g⟩ := g
        replace g := g.2
        replace g := g.2
        obtain ⟨X28, -, g⟩ := g
        exact Or.inr g.1
theorem gvl_229 : ∀ (n l : Nat) (is : List Int32) (ls : List Int64) (rs : List Nat) (X : fx_X) (v : Int32) (X' : fx_X), gxF_229 n l is ls rs X v X' → v = Int32.ofInt 0 ∨ v = Int32.ofInt 1 := by
  intro n
  induction n with
  | zero => intro l is ls rs X v X' g; exact g.elim
  | succ n ih =>
    intro l is ls rs X v X' g
    rcases g with ⟨-, y1, -, -, -, g⟩
    · unfold gxT_229_61 at g
      obtain ⟨w22, X21, rX21, g⟩ := g
      rcases fy_if g with g | g
      · skip
        obtain ⟨w25, X24, rX24, g⟩ := g
        rcases fy_if g with g | g
        · skip
          exact Or.inl g.1
        · skip
          obtain ⟨w28, X27, rX27, g⟩ := g
          rcases fy_if g with g | g
          · skip
            exact Or.inl g.1
          · skip
            replace g := g.2
            replace g := g.2
            obtain ⟨X33, -, g⟩ := g
            exact Or.inr g.1
      · skip
        obtain ⟨w35, X34, rX34, g⟩ := g
        rcases fy_if g with g | g
        · skip
          exact Or.inl g.1
        · skip
          obtain ⟨w38, X37, rX37, g⟩ := g
          rcases fy_if g with g | g
          · skip
            exact Or.inl g.1
          · skip
            exact ih _ _ _ _ _ _ _ g
theorem gv_229 {X : fx_X} {v : Int32} {X' : fx_X} (g : gx_229 X v X') : v = Int32.ofInt 0 ∨ v = Int32.ofInt 1 := by
  obtain ⟨n, g⟩ := g
  unfold gxE_229 at g
  obtain ⟨w3, X2, rX2, g⟩ := g
  rcases fy_if g with g | g
  · skip
    exact Or.inl g.1
  · skip
    replace g := g.2
    obtain ⟨x7, -, g⟩ := g
    replace g := g.2
    obtain ⟨X11, -, g⟩ := g
    replace g := g.2
    obtain ⟨X14, -, g⟩ := g
    obtain ⟨w16, X15, rX15, g⟩ := g
    rcases fy_if g with g | g
    · skip
      exact Or.inl g.1
    · skip
      obtain ⟨w19, X18, rX18, g⟩ := g
      rcases fy_if g with g | g
      · skip
        exact Or.inl g.1
      · skip
        exact gvl_229 n _ _ _ _ _ _ _ g
theorem gvl_223 (p1 : Int32) : ∀ (n l : Nat) (is : List Int32) (ls : List Int64) (rs : List Nat) (X : fx_X) (v : Int32) (X' : fx_X), gxF_223 p1 n l is ls rs X v X' → v = Int32.ofInt 0 ∨ v = Int32.ofInt 1 := by
  intro n
  induction n with
  | zero => intro l is ls rs X v X' g; exact g.elim
  | succ n ih =>
    intro l is ls rs X v X' g
    rcases g with ⟨-, -, -, -, g⟩ | ⟨-, y2, -, -, -, g⟩
    · unfold gxT_223_0 at g
      obtain ⟨w49, X48, rX48, g⟩ := g
      rcases fy_if g with g | g
      · skip
        exact Or.inr g.1
      · skip
        obtain ⟨w52, X51, rX51, g⟩ := g
        rcases fy_if g with g | g
        · skip
          exact Or.inl g.1
        · skip
          replace g := g.2
          rcases fy_if g with g | g
          · skip
            rcases fy_if g with g | g
            · skip
              obtain ⟨w63, X62, rX62, g⟩ := g
              rw [g.1]; exact gv_215 rX62
            · skip
              obtain ⟨w65, X64, rX64, g⟩ := g
              rcases fy_if g with g | g
              · skip
                obtain ⟨w68, X67, rX67, g⟩ := g
                rcases fy_if g with g | g
                · skip
                  exact Or.inl g.1
                · skip
                  exact ih _ _ _ _ _ _ _ g
              · skip
                obtain ⟨w72, X71, rX71, g⟩ := g
                rw [g.1]; exact gv_215 rX71
          · skip
            obtain ⟨w58, X57, rX57, g⟩ := g
            rcases fy_if g with g | g
            · skip
              exact Or.inl g.1
            · skip
              exact ih _ _ _ _ _ _ _ g
    · unfold gxT_223_67 at g
      replace g := g.2
      rcases fy_if g with g | g
      · skip
        replace g := g.2
        rcases fy_if g with g | g
        · skip
          obtain ⟨w45, X44, rX44, g⟩ := g
          obtain ⟨x46, -, g⟩ := g
          exact ih _ _ _ _ _ _ _ g
        · skip
          obtain ⟨x42, -, g⟩ := g
          exact ih _ _ _ _ _ _ _ g
      · skip
        replace g := g.2
        replace g := g.2
        obtain ⟨X34, -, g⟩ := g
        replace g := g.2
        replace g := g.2
        obtain ⟨X38, -, g⟩ := g
        exact ih _ _ _ _ _ _ _ g
theorem gv_223 {p1 : Int32} {X : fx_X} {v : Int32} {X' : fx_X} (g : gx_223 p1 X v X') : v = Int32.ofInt 0 ∨ v = Int32.ofInt 1 := by
  obtain ⟨n, g⟩ := g
  unfold gxE_223 at g
  obtain ⟨w3, X2, rX2, g⟩ := g
  rcases fy_if g with g | g
  · skip
    exact Or.inr g.1
  · skip
    obtain ⟨w6, X5, rX5, g⟩ := g
    rcases fy_if g with g | g
    · skip
      exact Or.inl g.1
    · skip
      replace g := g.2
      rcases fy_if g with g | g
      · skip
        rcases fy_if g with g | g
        · skip
          obtain ⟨w17, X16, rX16, g⟩ := g
          rw [g.1]; exact gv_215 rX16
        · skip
          obtain ⟨w19, X18, rX18, g⟩ := g
          rcases fy_if g with g | g
          · skip
            obtain ⟨w22, X21, rX21, g⟩ := g
            rcases fy_if g with g | g
            · skip
              exact Or.inl g.1
            · skip
              exact gvl_223 _ n _ _ _ _ _ _ _ g
          · skip
            obtain ⟨w26, X25, rX25, g⟩ := g
            rw [g.1]; exact gv_215 rX25
      · skip
        obtain ⟨w12, X11, rX11, g⟩ := g
        rcases fy_if g with g | g
        · skip
          exact Or.inl g.1
        · skip
          exact gvl_223 _ n _ _ _ _ _ _ _ g
theorem gvl_222 (p1 : Int32) : ∀ (n l : Nat) (is : List Int32) (ls : List Int64) (rs : List Nat) (X : fx_X) (v : Int32) (X' : fx_X), gxF_222 p1 n l is ls rs X v X' → v = Int32.ofInt 0 ∨ v = Int32.ofInt 1 := by
  intro n
  induction n with
  | zero => intro l is ls rs X v X' g; exact g.elim
  | succ n ih =>
    intro l is ls rs X v X' g
    rcases g with ⟨-, y2, y3, -, -, -, g⟩
    · unfold gxT_222_72 at g
      replace g := g.2
      rcases fy_if g with g | g
      · skip
        replace g := g.2
        obtain ⟨X27, -, g⟩ := g
        obtain ⟨x28, -, g⟩ := g
        exact ih _ _ _ _ _ _ _ g
      · skip
        exact Or.inr g.1
theorem gv_222 {p1 : Int32} {X : fx_X} {v : Int32} {X' : fx_X} (g : gx_222 p1 X v X') : v = Int32.ofInt 0 ∨ v = Int32.ofInt 1 := by
  obtain ⟨n, g⟩ := g
  unfold gxE_222 at g
  obtain ⟨w3, X2, rX2, g⟩ := g
  rcases fy_if g with g | g
  · skip
    exact Or.inl g.1
  · skip
    obtain ⟨w6, X5, rX5, g⟩ := g
    rcases fy_if g with g | g
    · skip
      exact Or.inl g.1
    · skip
      replace g := g.2
      obtain ⟨x10, -, g⟩ := g
      rcases fy_if g with g | g
      · skip
        obtain ⟨w14, X13, rX13, g⟩ := g
        exact Or.inr g.1
      · skip
        rcases fy_if g with g | g
        · skip
          obtain ⟨w21, X20, rX20, g⟩ := g
          exact Or.inr g.1
        · skip
          replace g := g.2
          obtain ⟨X18, -, g⟩ := g
          exact gvl_222 _ n _ _ _ _ _ _ _ g
theorem gvl_213 : ∀ (n l : Nat) (is : List Int32) (ls : List Int64) (rs : List Nat) (X : fx_X) (v : Int32) (X' : fx_X), gxF_213 n l is ls rs X v X' → v = Int32.ofInt 0 ∨ v = Int32.ofInt 1 := by
  intro n
  induction n with
  | zero => intro l is ls rs X v X' g; exact g.elim
  | succ n ih =>
    intro l is ls rs X v X' g
    rcases g with ⟨-, y1, y2, -, -, -, g⟩ | ⟨-, y1, y2, y5, -, -, -, g⟩
    · unfold gxT_213_94 at g
      obtain ⟨w40, X39, rX39, g⟩ := g
      rcases fy_if g with g | g
      · skip
        exact Or.inl g.1
      · skip
        obtain ⟨w43, X42, rX42, g⟩ := g
        rcases fy_if g with g | g
        · skip
          exact Or.inl g.1
        · skip
          replace g := g.2
          obtain ⟨X47, -, g⟩ := g
          replace g := g.2
          obtain ⟨X50, -, g⟩ := g
          obtain ⟨w52, X51, rX51, g⟩ := g
          rcases fy_if g with g | g
          · skip
            obtain ⟨w55, X54, rX54, g⟩ := g
            rcases fy_if g with g | g
            · skip
              exact Or.inl g.1
            · skip
              replace g := g.2
              replace g := g.2
              obtain ⟨x62, -, g⟩ := g
              obtain ⟨w65, X64, rX64, g⟩ := g
              rcases fy_if g with g | g
              · skip
                exact ih _ _ _ _ _ _ _ g
              · skip
                rcases fy_if g with g | g
                · skip
                  obtain ⟨w69, X68, rX68, g⟩ := g
                  exact ih _ _ _ _ _ _ _ g
                · skip
                  exact ih _ _ _ _ _ _ _ g
          · skip
            obtain ⟨w71, X70, rX70, g⟩ := g
            rcases fy_if g with g | g
            · skip
              exact Or.inl g.1
            · skip
              replace g := g.2
              replace g := g.2
              obtain ⟨x78, -, g⟩ := g
              obtain ⟨w81, X80, rX80, g⟩ := g
              rcases fy_if g with g | g
              · skip
                exact ih _ _ _ _ _ _ _ g
              · skip
                rcases fy_if g with g | g
                · skip
                  obtain ⟨w85, X84, rX84, g⟩ := g
                  exact ih _ _ _ _ _ _ _ g
                · skip
                  exact ih _ _ _ _ _ _ _ g
    · unfold gxT_213_208 at g
      obtain ⟨w87, X86, rX86, g⟩ := g
      rcases fy_if g with g | g
      · skip
        exact Or.inl g.1
      · skip
        replace g := g.2
        obtain ⟨X91, -, g⟩ := g
        replace g := g.2
        replace g := g.2
        obtain ⟨X95, -, g⟩ := g
        rcases fy_if g with g | g
        · skip
          replace g := g.2
          obtain ⟨X104, -, g⟩ := g
          rcases fy_if g with g | g
          · skip
            exact Or.inr g.1
          · skip
            obtain ⟨w107, X106, rX106, g⟩ := g
            exact Or.inr g.1
        · skip
          replace g := g.2
          obtain ⟨X99, -, g⟩ := g
          rcases fy_if g with g | g
          · skip
            exact Or.inr g.1
          · skip
            obtain ⟨w102, X101, rX101, g⟩ := g
            exact Or.inr g.1
theorem gv_213 {X : fx_X} {v : Int32} {X' : fx_X} (g : gx_213 X v X') : v = Int32.ofInt 0 ∨ v = Int32.ofInt 1 := by
  obtain ⟨n, g⟩ := g
  unfold gxE_213 at g
  obtain ⟨w3, X2, rX2, g⟩ := g
  rcases fy_if g with g | g
  · skip
    exact Or.inl g.1
  · skip
    rcases fy_if g with g | g
    · skip
      replace g := g.2
      rcases fy_if g with g | g
      · skip
        obtain ⟨w38, X37, rX37, g⟩ := g
        rw [g.1]; exact gv_215 rX37
      · skip
        obtain ⟨w24, X23, rX23, g⟩ := g
        rcases fy_if g with g | g
        · skip
          exact Or.inl g.1
        · skip
          replace g := g.2
          obtain ⟨x28, -, g⟩ := g
          obtain ⟨x30, -, g⟩ := g
          obtain ⟨w33, X32, rX32, g⟩ := g
          rcases fy_if g with g | g
          · skip
            exact gvl_213 n _ _ _ _ _ _ _ g
          · skip
            obtain ⟨w36, X35, rX35, g⟩ := g
            exact gvl_213 n _ _ _ _ _ _ _ g
    · skip
      obtain ⟨w7, X6, rX6, g⟩ := g
      rcases fy_if g with g | g
      · skip
        exact Or.inl g.1
      · skip
        replace g := g.2
        obtain ⟨x11, -, g⟩ := g
        obtain ⟨x13, -, g⟩ := g
        obtain ⟨w16, X15, rX15, g⟩ := g
        rcases fy_if g with g | g
        · skip
          exact gvl_213 n _ _ _ _ _ _ _ g
        · skip
          obtain ⟨w19, X18, rX18, g⟩ := g
          exact gvl_213 n _ _ _ _ _ _ _ g
theorem gvl_204 : ∀ (n l : Nat) (is : List Int32) (ls : List Int64) (rs : List Nat) (X : fx_X) (v : Int32) (X' : fx_X), gxF_204 n l is ls rs X v X' → v = Int32.ofInt 0 ∨ v = Int32.ofInt 1 := by
  intro n
  induction n with
  | zero => intro l is ls rs X v X' g; exact g.elim
  | succ n ih =>
    intro l is ls rs X v X' g
    rcases g with ⟨-, -, -, -, g⟩
    · unfold gxT_204_54 at g
      rcases fy_if g with g | g
      · skip
        rcases fy_if g with g | g
        · skip
          rcases fy_if g with g | g
          · skip
            exact Or.inr g.1
          · skip
            exact Or.inl g.1
        · skip
          obtain ⟨w24, X23, rX23, g⟩ := g
          rcases fy_if g with g | g
          · skip
            obtain ⟨w27, X26, rX26, g⟩ := g
            rcases fy_if g with g | g
            · skip
              obtain ⟨w30, X29, rX29, g⟩ := g
              rcases fy_if g with g | g
              · skip
                obtain ⟨w33, X32, rX32, g⟩ := g
                rcases fy_if g with g | g
                · skip
                  obtain ⟨w36, X35, rX35, g⟩ := g
                  rcases fy_if g with g | g
                  · skip
                    obtain ⟨w39, X38, rX38, g⟩ := g
                    rcases fy_if g with g | g
                    · skip
                      exact Or.inl g.1
                    · skip
                      exact ih _ _ _ _ _ _ _ g
                  · skip
                    obtain ⟨w43, X42, rX42, g⟩ := g
                    rcases fy_if g with g | g
                    · skip
                      exact Or.inl g.1
                    · skip
                      exact ih _ _ _ _ _ _ _ g
                · skip
                  obtain ⟨w47, X46, rX46, g⟩ := g
                  rcases fy_if g with g | g
                  · skip
                    exact Or.inl g.1
                  · skip
                    exact ih _ _ _ _ _ _ _ g
              · skip
                obtain ⟨w51, X50, rX50, g⟩ := g
                rcases fy_if g with g | g
                · skip
                  exact Or.inl g.1
                · skip
                  exact ih _ _ _ _ _ _ _ g
            · skip
              obtain ⟨w55, X54, rX54, g⟩ := g
              rcases fy_if g with g | g
              · skip
                exact Or.inl g.1
              · skip
                exact ih _ _ _ _ _ _ _ g
          · skip
            obtain ⟨w59, X58, rX58, g⟩ := g
            rcases fy_if g with g | g
            · skip
              exact Or.inl g.1
            · skip
              exact ih _ _ _ _ _ _ _ g
      · skip
        rcases fy_if g with g | g
        · skip
          exact Or.inr g.1
        · skip
          exact Or.inl g.1
theorem gv_204 {X : fx_X} {v : Int32} {X' : fx_X} (g : gx_204 X v X') : v = Int32.ofInt 0 ∨ v = Int32.ofInt 1 := by
  obtain ⟨n, g⟩ := g
  unfold gxE_204 at g
  replace g := g.2
  obtain ⟨X4, -, g⟩ := g
  replace g := g.2
  obtain ⟨X7, -, g⟩ := g
  replace g := g.2
  obtain ⟨X10, -, g⟩ := g
  replace g := g.2
  obtain ⟨X13, -, g⟩ := g
  replace g := g.2
  obtain ⟨X16, -, g⟩ := g
  obtain ⟨w18, X17, rX17, g⟩ := g
  exact gvl_204 n _ _ _ _ _ _ _ g
section GBC
variable {P : md_P} {X : fx_X} {v : Int32}
/-- with a kept fault: the end, or on -/
theorem rx_BX {B : Prop} (h : rx_B P X) (hv : v = Int32.ofInt 0 ∨ v = Int32.ofInt 1) (hB : rx_B P X → B) : rx_X P v X ∨ (v = Int32.ofInt 1 ∧ B) := by
  rcases hv with hv | hv
  · exact Or.inl ⟨hv, h.1, h.2.1⟩
  · exact Or.inr ⟨hv, hB h⟩
end GBC
