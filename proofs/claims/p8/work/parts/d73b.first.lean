/-! THE REFERENCE: in the first pass the other half keeps its UNKNOWNS and what is so -/
def rx_O7 (h : Nat) (X0 X : fx_X) : Prop := (X.1 118 (1 - h) = X0.1 118 (1 - h) ∧ X.1 122 (1 - h) = X0.1 122 (1 - h) ∧ X.1 127 (1 - h) = X0.1 127 (1 - h) ∧ X.1 128 (1 - h) = X0.1 128 (1 - h)) ∧ (∀ u, u < 8 → X.2.1 119 (8 * (1 - h) + u) = X0.2.1 119 (8 * (1 - h) + u) ∧ X.1 120 (8 * (1 - h) + u) = X0.1 120 (8 * (1 - h) + u) ∧ (∀ i, i < 64 → X.1 121 (64 * (8 * (1 - h) + u) + i) = X0.1 121 (64 * (8 * (1 - h) + u) + i)) ∧ ∀ w, w < 1024 → X.1 123 ((8 * (1 - h) + u) * 1024 + w) = X0.1 123 ((8 * (1 - h) + u) * 1024 + w)) ∧ ∀ p, p < 20 → ∀ b, b < 1024 → fx_bt (X.1 129) (32 * (20 * (1 - h) + p)) b = fx_bt (X0.1 129) (32 * (20 * (1 - h) + p)) b
/-- that, and what the first pass stands on -/
def rx_JO (h : Nat) (X0 X : fx_X) : Prop := rx_O7 h X0 X ∧ ((X.1 117 37).toInt = (h : Int) ∧ h ≤ 1) ∧ (X.1 117 32).toInt = 0 ∧ (0 ≤ (X.1 118 h).toInt ∧ (X.1 118 h).toInt ≤ 8)
section DD76
variable {P : md_P} {X X' X0 X1 X2 : fx_X} {n d k s h : Nat} {v w y1 y2 y3 p1 z : Int32} {z8 : Int64} {F Lf : List (Nat × Nat)} {A : List Nat}
theorem rx_O7_O (hO : rx_O h X X') : rx_O7 h X X' := ⟨⟨hO.1.1, hO.1.2.1, hO.1.2.2.2.1, hO.1.2.2.2.2⟩, hO.2.1, hO.2.2.2⟩
theorem rx_O7_rf : rx_O7 h X X := rx_O7_O rx_O_rf
theorem rx_O7_tr (h1 : rx_O7 h X X1) (h2 : rx_O7 h X1 X2) : rx_O7 h X X2 := by
  obtain ⟨⟨a1, a2, a3, a4⟩, a5, a6⟩ := h1
  obtain ⟨⟨b1, b2, b3, b4⟩, b5, b6⟩ := h2
  refine ⟨⟨b1.trans a1, b2.trans a2, b3.trans a3, b4.trans a4⟩, fun u hu => ?_, fun p hp b hb => (b6 p hp b hb).trans (a6 p hp b hb)⟩
  obtain ⟨c1, c2, c3, c4⟩ := a5 u hu
  obtain ⟨d1, d2, d3, d4⟩ := b5 u hu
  exact ⟨d1.trans c1, d2.trans c2, fun i hi => (d3 i hi).trans (c3 i hi), fun w hw => (d4 w hw).trans (c4 w hw)⟩
theorem rx_O7_fy (hf : fy F Lf A X X') (hA : ∀ a, a ∈ A → a < 118 ∨ (124 ≤ a ∧ a < 127) ∨ 130 ≤ a) (hF : (∀ q, q ∈ F → q.1 < 118) ∧ ∀ q, q ∈ Lf → q.1 < 118) : rx_O7 h X X' := by
  have e : ∀ r, (118 ≤ r ∧ r < 124) ∨ (127 ≤ r ∧ r < 130) → X'.1 r = X.1 r := fun r h1 => fy_ra hf (fun z => by have := hA r z; omega) (fun q hq z => by have := hF.1 q hq; omega)
  have e2 : X'.2.1 119 = X.2.1 119 := fy_rl hf (fun z => by have := hA 119 z; omega) (fun q hq z => by have := hF.2 q hq; omega)
  refine ⟨⟨by rw [e 118 (by omega)], by rw [e 122 (by omega)], by rw [e 127 (by omega)], by rw [e 128 (by omega)]⟩, fun u _ => ⟨by rw [e2], by rw [e 120 (by omega)], fun i _ => by rw [e 121 (by omega)], fun w _ => by rw [e 123 (by omega)]⟩, fun p _ b _ => by rw [e 129 (by omega)]⟩
theorem rx_JO_fy (hJ : rx_JO h X0 X) (hf : fy F Lf A X X') (hA : ∀ a, a ∈ A → a < 117 ∨ (124 ≤ a ∧ a < 127) ∨ 130 ≤ a) (hF : (∀ q, q ∈ F → q.1 < 118 ∧ q ≠ (117, 37) ∧ q ≠ (117, 32)) ∧ ∀ q, q ∈ Lf → q.1 < 118) : rx_JO h X0 X' := by
  obtain ⟨a1, ⟨a2, a3⟩, a4, a5⟩ := hJ
  refine ⟨rx_O7_tr a1 (rx_O7_fy hf (fun a ha => by have := hA a ha; omega) ⟨fun q hq => (hF.1 q hq).1, hF.2⟩), ⟨?_, a3⟩, ?_, ?_⟩
  · rw [hf.2.2 117 37 (fun z => by have := hA 117 z; omega) (fun z => (hF.1 _ z).2.1 rfl)]; exact a2
  · rw [hf.2.2 117 32 (fun z => by have := hA 117 z; omega) (fun z => (hF.1 _ z).2.2 rfl)]; exact a4
  · rw [fy_ra hf (fun z => by have := hA 118 z; omega) (fun q hq z => by have := (hF.1 q hq).1; omega)]
    exact a5
theorem rx_JO_w {a : Nat} (hJ : rx_JO h X0 X) (hk : a = 120 ∧ 8 * h ≤ k ∧ k < 8 * h + 8 ∨ a = 121 ∧ 512 * h ≤ k ∧ k < 512 * h + 512) : rx_JO h X0 (fx_wI X a k z) := by
  obtain ⟨a1, ⟨a2, a3⟩, a4, a5⟩ := hJ
  refine ⟨rx_O7_tr a1 (rx_O7_O (rx_O_w a3 (by omega))), ⟨?_, a3⟩, ?_, ?_⟩
  · rw [fx_rIn (by omega)]; exact a2
  · rw [fx_rIn (by omega)]; exact a4
  · rw [fx_rIn (by omega)]; exact a5
theorem rx_221_26 (g : gx_221 X w X') (hw : w.toInt ≠ 0) : (X.1 117 26).toInt = 2 ∨ rx_sg X 45 := by
  obtain ⟨n, X2, e2, w5, X4, r, g⟩ := g
  obtain ⟨e4, h4⟩ := rx_220 r
  subst e4
  have k26 : X4.1 117 26 = X.1 117 26 := by rw [e2, fx_rIk (by decide)]
  have k29 : X4.1 117 29 = X.1 117 29 := by rw [e2, fx_rIk (by decide)]
  rcases fy_ifd g with ⟨c, g1⟩ | ⟨c, g1⟩
  · rcases fy_ifd g1 with ⟨c2, g2⟩ | ⟨c2, g2⟩
    · left; rw [← k26]; exact c2
    · obtain ⟨w12, X11, r2, e1, -⟩ := g2
      have := rx_215y (by decide) r2
      rw [e1, this.1] at hw
      exact absurd rfl hw
  · right
    rcases h4 with y | y
    · have y2 := y.2
      unfold rx_sg at y2 ⊢
      rw [← k26, ← k29]
      exact y2
    · omega
theorem rx_216_26 (g : gx_216 X w X') (hw : w.toInt ≠ 0) : (X.1 117 26).toInt = 1 := by
  unfold gx_216 at g
  rcases fy_ifd g with ⟨c, g1⟩ | ⟨c, g1⟩
  · exact c
  · obtain ⟨w12, X11, r2, e1, -⟩ := g1
    have := rx_215y (by decide) r2
    rw [e1, this.1] at hw
    exact absurd rfl hw
/-- .. of an UNKNOWN -/
theorem rx_222s (hs : s < 8) (hp : p1.toInt = ((8 * h + s : Nat) : Int)) (hJ : rx_JO h X0 X) (g : gx_222 p1 X v X') : rx_JO h X0 X' := by
  have hh := hJ.2.1.2
  have loop : ∀ (n k : Nat) (y2 y3 : Int32) (X : fx_X), y3.toInt = (k : Int) → rx_JO h X0 X → (X.1 120 (8 * h + s)).toInt ≤ 64 → gxF_222 p1 n 72 [y2, y3] [] [] X v X' → rx_JO h X0 X' := by
    intro n
    induction n with
    | zero => intro k y2 y3 X _ _ _ g; exact g.elim
    | succ n ih =>
      intro k y2 y3 X h3 hJ h64 g
      replace g := gxO_222_72 g
      unfold gxT_222_72 at g
      rw [fx_in hp] at g
      replace g := g.2
      rcases fy_ifd g with ⟨c, g1⟩ | ⟨c, g1⟩
      · have i1 : (p1 * ((Int8.ofInt 64).toInt32) + y3).toInt = (((8 * h + s) * 64 + k : Nat) : Int) := rx_lin hp rfl h3 (by omega)
        rw [fx_in i1] at g1
        obtain ⟨-, X27, e27, x28, e28, g2⟩ := g1
        refine ih (k + 1) y2 x28 X27 (by rw [e28]; exact cx_in1 h3 (by omega)) (by rw [e27]; exact rx_JO_w hJ (by omega)) (by rw [e27, fx_rIn (by decide)]; exact h64) g2
      · rw [g1.2]; exact hJ
  obtain ⟨n, w3, X2, r1, g⟩ := g
  have hJ2 := rx_JO_fy hJ (gf_214 r1) (by decide) (by decide)
  rcases fy_ifd g with ⟨c, g1⟩ | ⟨c, g1⟩
  · rw [g1.2]; exact hJ2
  obtain ⟨w6, X5, r2, g2⟩ := g1
  have hJ5 := rx_JO_fy hJ2 (gf_221 r2) (by decide) (by decide)
  rcases fy_ifd g2 with ⟨c2, g3⟩ | ⟨c2, g3⟩
  · rw [g3.2]; exact hJ5
  obtain ⟨-, x10, e10, g4⟩ := g3
  rcases fy_ifd g4 with ⟨c3, g5⟩ | ⟨c3, g5⟩
  · obtain ⟨w14, X13, r3, g6⟩ := g5
    rw [g6.2]; exact rx_JO_fy hJ5 (gf_218 r3) (by decide) (by decide)
  rcases fy_ifd g5 with ⟨c4, g6⟩ | ⟨c4, g6⟩
  · obtain ⟨w14, X13, r3, g7⟩ := g6
    rw [g7.2]; exact rx_JO_fy hJ5 (gf_218 r3) (by decide) (by decide)
  · rw [fx_in hp] at g6
    obtain ⟨-, X18, e18, g7⟩ := g6
    have e1' : (Int32.ofInt 1).toInt = 1 := rfl
    refine loop n 0 _ _ X18 rfl (by rw [e18]; exact rx_JO_w hJ5 (by omega)) ?_ g7
    rw [e18, fx_rIe]
    have l1 := Int32.le_toInt (X5.1 117 35 - x10)
    rw [fx_add (by omega) (by omega), e1']
    omega
/-- a list of values of an UNKNOWN -/
theorem rx_223b (hs : s < 8) (hp : p1.toInt = ((8 * h + s : Nat) : Int)) (hJ : rx_JO h X0 X) (h16 : 1 ≤ (X.1 120 (8 * h + s)).toInt ∧ (X.1 120 (8 * h + s)).toInt ≤ 16) (ih : ∀ X : fx_X, rx_JO h X0 X → (1 ≤ (X.1 120 (8 * h + s)).toInt ∧ (X.1 120 (8 * h + s)).toInt ≤ 15) → gxF_223 p1 n 67 [Int32.ofInt 0] [] [] X v X' → rx_JO h X0 X') (g : gxT_223_0 p1 (gxF_223 p1 n) X v X') : rx_JO h X0 X' := by
  unfold gxT_223_0 at g
  obtain ⟨w49, X48, r1, g⟩ := g
  obtain ⟨e48, -⟩ := rx_220 r1
  subst e48
  rcases fy_ifd g with ⟨c, g1⟩ | ⟨c, g1⟩
  · rw [g1.2]; exact hJ
  obtain ⟨w52, X51, r2, g2⟩ := g1
  have hJ51 := rx_JO_fy hJ (gf_214 r2) (by decide) (by decide)
  have k120 : X51.1 120 = X48.1 120 := fy_ra (gf_214 r2) (by decide) (by decide)
  rcases fy_ifd g2 with ⟨c2, g3⟩ | ⟨c2, g3⟩
  · rw [g3.2]; exact hJ51
  rw [fx_in hp] at g3
  replace g3 := g3.2
  rcases fy_ifd g3 with ⟨c3, g4⟩ | ⟨c3, g4⟩
  · rcases fy_ifd g4 with ⟨c4, g5⟩ | ⟨c4, g5⟩
    · obtain ⟨w63, X62, r3, -, e⟩ := g5
      rw [e]; exact rx_JO_fy hJ51 (gf_215 r3) (by decide) (by decide)
    · obtain ⟨w65, X64, r3, g6⟩ := g5
      obtain ⟨e64, h64⟩ := rx_220 r3
      subst e64
      rcases fy_ifd g6 with ⟨c5, g7⟩ | ⟨c5, g7⟩
      · obtain ⟨w68, X67, r4, g8⟩ := g7
        have hJ67 := rx_JO_fy hJ51 (gf_221 r4) (by decide) (by decide)
        rcases fy_ifd g8 with ⟨c6, g9⟩ | ⟨c6, g9⟩
        · rw [g9.2]; exact hJ67
        · exfalso
          rcases rx_221_26 r4 c6 with y | y
          · exact c4 y
          · rcases h64 with q | q
            · omega
            · exact q.2 y
      · obtain ⟨w72, X71, r4, -, e⟩ := g7
        rw [e]; exact rx_JO_fy hJ51 (gf_215 r4) (by decide) (by decide)
  · obtain ⟨w58, X57, r3, g5⟩ := g4
    have hJ57 := rx_JO_fy hJ51 (gf_221 r3) (by decide) (by decide)
    have k57 : X57.1 120 = X51.1 120 := fy_ra (gf_221 r3) (by decide) (by decide)
    rcases fy_ifd g5 with ⟨c4, g6⟩ | ⟨c4, g6⟩
    · rw [g6.2]; exact hJ57
    · rw [k120] at c3
      exact ih X57 hJ57 (by rw [k57, k120]; omega) g6
theorem rx_223s (hs : s < 8) (hp : p1.toInt = ((8 * h + s : Nat) : Int)) (hJ : rx_JO h X0 X) (h16 : 1 ≤ (X.1 120 (8 * h + s)).toInt ∧ (X.1 120 (8 * h + s)).toInt ≤ 16) (g : gx_223 p1 X v X') : rx_JO h X0 X' := by
  have hh := hJ.2.1.2
  have loop : ∀ n : Nat, (∀ X : fx_X, rx_JO h X0 X → (1 ≤ (X.1 120 (8 * h + s)).toInt ∧ (X.1 120 (8 * h + s)).toInt ≤ 16) → gxF_223 p1 n 0 [] [] [] X v X' → rx_JO h X0 X') ∧ (∀ (y2 : Int32) (X : fx_X), rx_JO h X0 X → (1 ≤ (X.1 120 (8 * h + s)).toInt ∧ (X.1 120 (8 * h + s)).toInt ≤ 15) → gxF_223 p1 n 67 [y2] [] [] X v X' → rx_JO h X0 X') := by
    intro n
    induction n with
    | zero => exact ⟨fun _ _ _ g => g.elim, fun _ _ _ _ g => g.elim⟩
    | succ n ih =>
      refine ⟨fun X hJ h16 g => rx_223b hs hp hJ h16 (fun X a b c => ih.2 _ X a b c) (gxO_223_0 g), fun y2 X hJ h15 g => ?_⟩
      replace g := gxO_223_67 g
      unfold gxT_223_67 at g
      rw [fx_in hp] at g
      replace g := g.2
      rcases fy_ifd g with ⟨c, g1⟩ | ⟨c, g1⟩
      · replace g1 := g1.2
        rcases fy_ifd g1 with ⟨c2, g2⟩ | ⟨c2, g2⟩
        · obtain ⟨w45, X44, r, x46, -, g3⟩ := g2
          exact ih.2 x46 X44 (rx_JO_fy hJ (gf_218 r) (by decide) (by decide)) (by rw [fy_ra (gf_218 r) (by decide) (by decide)]; exact h15) g3
        · obtain ⟨x42, -, g3⟩ := g2
          exact ih.2 x42 X hJ h15 g3
      · obtain ⟨q, hq⟩ : ∃ q : Nat, (X.1 120 (8 * h + s)).toInt = (q : Int) := ⟨(X.1 120 (8 * h + s)).toInt.toNat, by omega⟩
        have i1 : (p1 * ((Int8.ofInt 64).toInt32) + X.1 120 (8 * h + s)).toInt = (((8 * h + s) * 64 + q : Nat) : Int) := rx_lin hp rfl hq (by omega)
        rw [fx_in i1] at g1
        obtain ⟨-, -, X34, e34, -, -, X38, e38, g2⟩ := g1
        have k34 : X34.1 120 (8 * h + s) = X.1 120 (8 * h + s) := by rw [e34, fx_rIn (by decide)]
        rw [k34] at e38
        refine ih.1 X38 (by rw [e38, e34]; exact rx_JO_w (rx_JO_w hJ (by omega)) (by omega)) ?_ g2
        have := cx_in1 hq (by omega)
        rw [e38, fx_rIe, this]
        omega
  obtain ⟨n, g⟩ := g
  exact rx_223b hs hp hJ h16 (fun X a b c => (loop n).2 _ X a b c) g
end DD76
