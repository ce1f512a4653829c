/-! THE REFERENCE: the first pass, its statements -/
section DD73C
variable {P : md_P} {X X' X0 X1 X2 : fx_X} {n d k s h : Nat} {v w y1 y2 y3 p1 z : Int32} {z8 : Int64} {F Lf : List (Nat × Nat)} {A : List Nat}
/-- an UNKNOWN told -/
theorem rx_213t (hs : s < 8) (hp : y1.toInt = ((8 * h + s : Nat) : Int)) (hJ : rx_JO h X0 X) (h118 : (X.1 118 h).toInt = (s : Int)) (g : gxF_213 n 208 [y1, y3] [z8] [] X v X') : rx_JO h X0 X' := by
  cases n with
  | zero => exact g.elim
  | succ n =>
    replace g := gxO_213_208 g
    unfold gxT_213_208 at g
    obtain ⟨w87, X86, r1, g⟩ := g
    have hJ86 := rx_JO_fy hJ (gf_219 r1) (by decide) (by decide)
    rcases fy_ifd g with ⟨c, g1⟩ | ⟨c, g1⟩
    · rw [g1.2]; exact hJ86
    rw [fx_in hp] at g1
    obtain ⟨-, X91, e91, -, -, X95, e95, g2⟩ := g1
    obtain ⟨a1, ⟨a2, a3⟩, a4, a5⟩ := hJ86
    have k86 : (X86.1 118 h).toInt = (s : Int) := by rw [fy_ra (gf_219 r1) (by decide) (by decide)]; exact h118
    have i37 : (X91.1 117 37).toInt = (h : Int) := by rw [e91]; exact a2
    rw [fx_in i37] at e95
    have k91 : X91.1 = X86.1 := by rw [e91]; rfl
    have hO91 : rx_O7 h X0 X91 := by rw [e91]; exact rx_O7_tr a1 (rx_O7_O (rx_O_wL a3 (by omega)))
    have hO95 : rx_O7 h X0 X95 := by rw [e95]; exact rx_O7_tr hO91 (rx_O7_O (rx_O_w a3 (by omega)))
    have i95 : (X95.1 117 37).toInt = (h : Int) := by rw [e95, fx_rIn (by decide)]; exact i37
    have b95 : (X95.1 117 32).toInt = 0 := by rw [e95, fx_rIn (by decide), k91]; exact a4
    have s95 : (X95.1 118 h).toInt = ((s + 1 : Nat) : Int) := by
      rw [e95, fx_rIe, k91]
      exact cx_in1 k86 (by omega)
    have fin : ∀ {Y : fx_X} {q : Int32} {G : Prop}, Y = fx_wI X95 122 (X95.1 117 37).toInt.toNat q → (if (Y.1 117 32).toInt = 0 then (v = (Int32.ofInt 1) ∧ X' = Y) else G) → rx_JO h X0 X' := by
      intro Y q G eY gg
      rw [fx_in i95] at eY
      rw [if_pos (by rw [eY, fx_rIn (by decide)]; exact b95)] at gg
      rw [gg.2, eY]
      exact ⟨rx_O7_tr hO95 (rx_O7_O (rx_O_w a3 (by omega))), ⟨by rw [fx_rIn (by decide)]; exact i95, a3⟩, by rw [fx_rIn (by decide)]; exact b95, by rw [fx_rIn (by decide)]; omega⟩
    rcases fy_ifd g2 with ⟨c2, g3⟩ | ⟨c2, g3⟩
    · obtain ⟨-, X104, e104, g4⟩ := g3
      exact fin e104 g4
    · obtain ⟨-, X99, e99, g4⟩ := g3
      exact fin e99 g4
theorem rx_213w (hs : s < 8) (hp : y1.toInt = ((8 * h + s : Nat) : Int)) (hJ : rx_JO h X0 X) (h118 : (X.1 118 h).toInt = (s : Int)) (g : gxF_213 n 94 [y1] [z8] [] X v X') : rx_JO h X0 X' := by
  have hh := hJ.2.1.2
  cases n with
  | zero => exact g.elim
  | succ n =>
    replace g := gxO_213_94 g
    unfold gxT_213_94 at g
    obtain ⟨w40, X39, r1, g⟩ := g
    have hJ39 := rx_JO_fy hJ (gf_219 r1) (by decide) (by decide)
    have k39 : X39.1 118 = X.1 118 := fy_ra (gf_219 r1) (by decide) (by decide)
    rcases fy_ifd g with ⟨c, g1⟩ | ⟨c, g1⟩
    · rw [g1.2]; exact hJ39
    obtain ⟨w43, X42, r2, g2⟩ := g1
    have hJ42 := rx_JO_fy hJ39 (gf_221 r2) (by decide) (by decide)
    have k42 : X42.1 118 = X39.1 118 := fy_ra (gf_221 r2) (by decide) (by decide)
    rcases fy_ifd g2 with ⟨c2, g3⟩ | ⟨c2, g3⟩
    · rw [g3.2]; exact hJ42
    have e64 : (y1 * ((Int8.ofInt 64).toInt32)).toInt = (((8 * h + s) * 64 : Nat) : Int) := by
      have e0 : ((Int8.ofInt 64).toInt32).toInt = 64 := rfl
      rw [fx_mul (by rw [hp, e0]; omega) (by rw [hp, e0]; omega), hp, e0]; omega
    rw [fx_in e64, fx_in hp] at g3
    obtain ⟨-, X47, e47, -, X50, e50, w52, X51, r3, g4⟩ := g3
    obtain ⟨e51, -⟩ := rx_220 r3
    subst e51
    have hJ50 : rx_JO h X0 X51 := by rw [e50, e47]; exact rx_JO_w (rx_JO_w hJ42 (by omega)) (by omega)
    have k50 : (X51.1 118 h).toInt = (s : Int) := by rw [e50, fx_rIn (by decide), e47, fx_rIn (by decide), k42, k39]; exact h118
    have h120 : (X51.1 120 (8 * h + s)).toInt = 1 := by rw [e50, fx_rIe]; rfl
    have fin : ∀ {Y Y2 : fx_X} {w65 x : Int32}, rx_JO h X0 Y → (Y.1 118 h).toInt = (s : Int) → gx_220 ((Int8.ofInt 59).toInt32) Y w65 Y2 → (if (w65).toInt = 0 then (gxF_213 n 208 [y1, x] [z8] [] Y2 v X') else ((if 1024 < (x).toInt then (∃ (w69 : Unit) (X68 : fx_X), gx_218 (Int32.ofInt 5) (Y2.1 117 27) Y2 w69 X68 ∧ gxF_213 n 208 [y1, x] [z8] [] X68 v X') else (gxF_213 n 208 [y1, x] [z8] [] Y2 v X')))) → rx_JO h X0 X' := by
      intro Y Y2 w65 x hJY kY r gg
      obtain ⟨e, -⟩ := rx_220 r
      subst e
      rcases fy_ifd gg with ⟨c, g1⟩ | ⟨c, g1⟩
      · exact rx_213t hs hp hJY kY g1
      · rcases fy_ifd g1 with ⟨c2, g2⟩ | ⟨c2, g2⟩
        · obtain ⟨w69, X68, r5, g6⟩ := g2
          exact rx_213t hs hp (rx_JO_fy hJY (gf_218 r5) (by decide) (by decide)) (by rw [fy_ra (gf_218 r5) (by decide) (by decide)]; exact kY) g6
        · exact rx_213t hs hp hJY kY g2
    rcases fy_ifd g4 with ⟨c3, g5⟩ | ⟨c3, g5⟩
    · obtain ⟨w55, X54, r4, g6⟩ := g5
      have hJ54 := rx_223s hs hp hJ50 (by omega) r4
      have k54 : (X54.1 118 h).toInt = (s : Int) := by rw [fy_ra (gf_223 r4) (by decide) (by decide)]; exact k50
      rcases fy_ifd g6 with ⟨c4, g7⟩ | ⟨c4, g7⟩
      · rw [g7.2]; exact hJ54
      · obtain ⟨-, -, x62, -, w65, X64, r5, g8⟩ := g7
        exact fin hJ54 k54 r5 g8
    · obtain ⟨w71, X70, r4, g6⟩ := g5
      have hJ70 := rx_222s hs hp hJ50 r4
      have k70 : (X70.1 118 h).toInt = (s : Int) := by rw [fy_ra (gf_222 r4) (by decide) (by decide)]; exact k50
      rcases fy_ifd g6 with ⟨c4, g7⟩ | ⟨c4, g7⟩
      · rw [g7.2]; exact hJ70
      · obtain ⟨-, -, x78, -, w81, X80, r5, g8⟩ := g7
        exact fin hJ70 k70 r5 g8
theorem rx_213s (hJ : rx_JO h X0 X) (g : gx_213 X v X') : rx_JO h X0 X' := by
  obtain ⟨n, w3, X2, r1, g⟩ := g
  have hJ2 := rx_JO_fy hJ (gf_214 r1) (by decide) (by decide)
  rcases fy_ifd g with ⟨c, g1⟩ | ⟨c, g1⟩
  · rw [g1.2]; exact hJ2
  rcases fy_ifd g1 with ⟨c2, g2⟩ | ⟨c2, g2⟩
  · have hJ20 := hJ2
    obtain ⟨a1, ⟨a2, a3⟩, a4, a5⟩ := hJ20
    rw [fx_in a2] at g2
    replace g2 := g2.2
    rcases fy_ifd g2 with ⟨c3, g3⟩ | ⟨c3, g3⟩
    · obtain ⟨w38, X37, r2, -, e⟩ := g3
      rw [e]; exact rx_JO_fy hJ2 (gf_215 r2) (by decide) (by decide)
    · obtain ⟨w24, X23, r2, g4⟩ := g3
      have hJ23 := rx_JO_fy hJ2 (gf_216 r2) (by decide) (by decide)
      rcases fy_ifd g4 with ⟨c4, g5⟩ | ⟨c4, g5⟩
      · rw [g5.2]; exact hJ23
      · obtain ⟨s, hsn⟩ : ∃ s : Nat, (X2.1 118 h).toInt = (s : Int) := ⟨(X2.1 118 h).toInt.toNat, by omega⟩
        have hs8 : s < 8 := by omega
        have k23 : (X23.1 118 h).toInt = (s : Int) := by rw [fy_ra (gf_216 r2) (by decide) (by decide)]; exact hsn
        have i23 := hJ23.2.1.1
        rw [fx_in i23] at g5
        obtain ⟨-, x28, e28, x30, -, w33, X32, r3, g6⟩ := g5
        have i28 : x28.toInt = ((8 * h + s : Nat) : Int) := by
          rw [e28, show 8 * h + s = h * 8 + s by omega]
          exact rx_lin i23 rfl k23 (by omega)
        have e32 : X32 = X23 := fy_e (gf_217 r3)
        subst e32
        rcases fy_ifd g6 with ⟨c5, g7⟩ | ⟨c5, g7⟩
        · exact rx_213w hs8 i28 hJ23 k23 g7
        · obtain ⟨w36, X35, r4, g8⟩ := g7
          exact rx_213w hs8 i28 (rx_JO_fy hJ23 (gf_218 r4) (by decide) (by decide)) (by rw [fy_ra (gf_218 r4) (by decide) (by decide)]; exact k23) g8
  · obtain ⟨w7, X6, r2, g3⟩ := g2
    have hJ6 := rx_JO_fy hJ2 (gf_216 r2) (by decide) (by decide)
    rcases fy_ifd g3 with ⟨c4, g5⟩ | ⟨c4, g5⟩
    · rw [g5.2]; exact hJ6
    · exact absurd (rx_216_26 r2 c4) c2
/-- what is ALWAYS so: nothing is put in the first pass -/
theorem rx_246s (hJ : rx_JO h X0 X) (g : gx_246 X v X') : rx_JO h X0 X' := by
  obtain ⟨n, x2, e2, g⟩ := g
  rcases fy_ifd g with ⟨c, g1⟩ | ⟨c, g1⟩
  · obtain ⟨w23, X22, r, -, e⟩ := g1
    rw [e]; exact rx_JO_fy hJ (gf_215 r) (by decide) (by decide)
  obtain ⟨X5, e5, w7, X6, r1, g2⟩ := g1
  have f5 : fy [(117, 45)] [] [] X X5 := by rw [e5]; exact fy_f fy_rf (by decide)
  have hJ6 := rx_JO_fy (rx_JO_fy hJ f5 (by decide) (by decide)) (gf_214 r1) (by decide) (by decide)
  rcases fy_ifd g2 with ⟨c2, g3⟩ | ⟨c2, g3⟩
  · rw [g3.2]; exact hJ6
  obtain ⟨w10, X9, r2, g4⟩ := g3
  have hJ9 := rx_JO_fy hJ6 (gf_237 r2) (by decide) (by decide)
  rcases fy_ifd g4 with ⟨c3, g5⟩ | ⟨c3, g5⟩
  · rw [g5.2]; exact hJ9
  obtain ⟨w13, X12, r3, g6⟩ := g5
  have hJ12 := rx_JO_fy hJ9 (gf_219 r3) (by decide) (by decide)
  rcases fy_ifd g6 with ⟨c4, g7⟩ | ⟨c4, g7⟩
  · rw [g7.2]; exact hJ12
  rw [if_pos hJ12.2.2.1] at g7
  rw [g7.2]; exact hJ12
theorem rx_204_J : ∀ (n : Nat) (X : fx_X), rx_JO h X0 X → gxF_204 n 54 [] [] [] X v X' → rx_JO h X0 X' := by
  intro n
  induction n with
  | zero => intro X _ g; exact g.elim
  | succ n ih =>
    intro X hJ g
    replace g := gxO_204_54 g
    unfold gxT_204_54 at g
    have fin : ∀ {Y : fx_X} {w : Int32}, rx_JO h X0 Y → (if w.toInt = 0 then (v = Int32.ofInt 0 ∧ X' = Y) else gxF_204 n 54 [] [] [] Y v X') → rx_JO h X0 X' := by
      intro Y w hJY g2
      rcases fy_ifd g2 with ⟨-, g3⟩ | ⟨-, g3⟩
      · rw [g3.2]; exact hJY
      · exact ih Y hJY g3
    have t : ∀ {p w : Int32} {Y Z : fx_X}, rx_JO h X0 Y → gx_212 p Y w Z → rx_JO h X0 Z := by
      intro p w Y Z e r
      rw [(rx_212 r).1]
      exact e
    have last : (if ((X.1 117 31)).toInt = 0 then (v = (Int32.ofInt 1) ∧ X' = X) else (v = (Int32.ofInt 0) ∧ X' = X)) → rx_JO h X0 X' := fun g2 => by
      rcases fy_ifd g2 with ⟨-, g3⟩ | ⟨-, g3⟩ <;> (rw [g3.2]; exact hJ)
    rcases fy_ifd g with ⟨-, g1⟩ | ⟨-, g1⟩
    · rcases fy_ifd g1 with ⟨-, g2⟩ | ⟨-, g2⟩
      · exact last g2
      · obtain ⟨w24, X23, r1, g3⟩ := g2
        have e1 := t hJ r1
        rcases fy_ifd g3 with ⟨-, g4⟩ | ⟨-, g4⟩
        · obtain ⟨w27, X26, r2, g5⟩ := g4
          have e2 := t e1 r2
          rcases fy_ifd g5 with ⟨-, g6⟩ | ⟨-, g6⟩
          · obtain ⟨w30, X29, r3, g7⟩ := g6
            have e3 := t e2 r3
            rcases fy_ifd g7 with ⟨-, g8⟩ | ⟨-, g8⟩
            · obtain ⟨w33, X32, r4, g9⟩ := g8
              have e4 := t e3 r4
              rcases fy_ifd g9 with ⟨-, ga⟩ | ⟨-, ga⟩
              · obtain ⟨w36, X35, r5, gb⟩ := ga
                have e5 := t e4 r5
                rcases fy_ifd gb with ⟨-, gc⟩ | ⟨-, gc⟩
                · obtain ⟨w39, X38, r6, gd⟩ := gc
                  exact fin (rx_JO_fy e5 (gf_215 r6) (by decide) (by decide)) gd
                · obtain ⟨w39, X38, r6, gd⟩ := gc
                  exact fin (rx_JO_fy e5 (gf_248 r6) (by decide) (by decide)) gd
              · obtain ⟨w39, X38, r6, gd⟩ := ga
                exact fin (rx_246s e4 r6) gd
            · obtain ⟨w39, X38, r6, gd⟩ := g8
              exact fin (rx_JO_fy e3 (gf_234 r6) (by decide) (by decide)) gd
          · obtain ⟨w39, X38, r6, gd⟩ := g6
            exact fin (rx_JO_fy e2 (gf_229 r6) (by decide) (by decide)) gd
        · obtain ⟨w39, X38, r6, gd⟩ := g4
          exact fin (rx_213s e1 r6) gd
    · exact last g1
/-- in the first pass the other half keeps its UNKNOWNS and what is so -/
theorem rx_204_7 (h32 : (X.1 117 32).toInt = 0) (h37 : (X.1 117 37).toInt = (h : Int)) (hh : h ≤ 1) (g : gx_204 X v X') : rx_O7 h X X' := by
  obtain ⟨n, g⟩ := g
  unfold gxE_204 at g
  obtain ⟨-, X4, e4, -, X7, e7, -, X10, e10, -, X13, e13, -, X16, e16, w18, X17, r1, g⟩ := g
  have k4 : X4.1 117 = X.1 117 := by rw [e4, fx_rIn (by decide)]
  have k7 : X7.1 117 = X.1 117 := by rw [e7, fx_rIn (by decide), k4]
  have k10 : X10.1 117 = X.1 117 := by rw [e10, fx_rIn (by decide), k7]
  have k13 : X13.1 117 = X.1 117 := by rw [e13, fx_rIn (by decide), k10]
  have k16 : X16.1 117 = X.1 117 := by rw [e16, fx_rIn (by decide), k13]
  rw [fx_in h37] at e4
  rw [k4, fx_in h37] at e7
  rw [k7, fx_in h37] at e10
  rw [k10, fx_in h37] at e13
  rw [k13, fx_in h37] at e16
  have hO16 : rx_O h X X16 := by
    rw [e16, e13, e10, e7, e4]
    exact rx_O_tr (rx_O_tr (rx_O_tr (rx_O_tr (rx_O_w hh (by omega)) (rx_O_w hh (by omega))) (rx_O_w hh (by omega))) (rx_O_w hh (by omega))) (rx_O_w hh (by omega))
  have i118 : (X16.1 118 h).toInt = 0 := by
    rw [e16, fx_rIn (by decide), e13, fx_rIn (by decide), e10, fx_rIn (by decide), e7, fx_rIn (by decide), e4, fx_rIe]; rfl
  have hJ16 : rx_JO h X X16 := ⟨rx_O7_O hO16, ⟨by rw [k16]; exact h37, hh⟩, by rw [k16]; exact h32, by omega⟩
  exact (rx_204_J n X17 (rx_JO_fy hJ16 (gf_205 r1) (by decide) (by decide)) g).1
end DD73C
