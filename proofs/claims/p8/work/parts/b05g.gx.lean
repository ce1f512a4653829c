/-! METHODS LIFTED (printed by wip/p7/gx.py, parts.py) -/
def gxT_276_88 (p1 : Int32) (p2 : Int32) (P : Nat → List Int32 → List Int64 → List Nat → fx_X → Int32 → fx_X → Prop) (y3 : Int32) (y4 : Int32) (y5 : Int32) (X : fx_X) (v : Int32) (X' : fx_X) : Prop :=
  (if (y5).toInt < (y4).toInt then ((0 ≤ (((p1 * ((Int8.ofInt 8).toInt32)) + y5)).toInt ∧ (((p1 * ((Int8.ofInt 8).toInt32)) + y5)).toInt < ((400 : Nat) : Int)) ∧ (0 ≤ ((((Int16.ofInt 392).toInt32) + y5)).toInt ∧ ((((Int16.ofInt 392).toInt32) + y5)).toInt < ((400 : Nat) : Int)) ∧ ∃ X56 : fx_X, X56 = (fx_wL X 133 ((((Int16.ofInt 392).toInt32) + y5)).toInt.toNat (X.2.1 133 (((p1 * ((Int8.ofInt 8).toInt32)) + y5)).toInt.toNat)) ∧ ∃ x57 : Int32, x57 = y5 + Int32.ofInt 1 ∧ P 88 [y3, y4, x57] [] [] X56 v X') else (P 127 [y3, y4, (Int32.ofInt 0)] [] [] X v X'))
def gxT_276_127 (p1 : Int32) (p2 : Int32) (P : Nat → List Int32 → List Int64 → List Nat → fx_X → Int32 → fx_X → Prop) (y3 : Int32) (y4 : Int32) (y5 : Int32) (X : fx_X) (v : Int32) (X' : fx_X) : Prop :=
  (if (y5).toInt < ((X.1 131 49)).toInt then ((0 ≤ (y3).toInt ∧ (y3).toInt < ((50 : Nat) : Int)) ∧ (X.1 131 (y3).toInt.toNat) ≠ 0 ∧ ∃ (w67 : Unit) (X66 : fx_X), gx_252 p1 (y5 / (X.1 131 (y3).toInt.toNat)) ((Int8.ofInt 49).toInt32) y5 X w67 X66 ∧ ∃ x68 : Int32, x68 = y5 + Int32.ofInt 1 ∧ P 127 [y3, y4, x68] [] [] X66 v X') else (P 166 [y3, y4, (Int32.ofInt 0)] [] [] X v X'))
def gxT_276_166 (p1 : Int32) (p2 : Int32) (P : Nat → List Int32 → List Int64 → List Nat → fx_X → Int32 → fx_X → Prop) (y3 : Int32) (y4 : Int32) (y5 : Int32) (X : fx_X) (v : Int32) (X' : fx_X) : Prop :=
  (0 ≤ (y3).toInt ∧ (y3).toInt < ((50 : Nat) : Int)) ∧ (if (y5).toInt < ((X.1 132 (y3).toInt.toNat)).toInt then ((0 ≤ (((y3 * ((Int8.ofInt 8).toInt32)) + y5)).toInt ∧ (((y3 * ((Int8.ofInt 8).toInt32)) + y5)).toInt < ((400 : Nat) : Int)) ∧ ∃ (w77 : Int32) (X76 : fx_X), gx_233 p1 (X.2.1 133 (((y3 * ((Int8.ofInt 8).toInt32)) + y5)).toInt.toNat) X w77 X76 ∧ P 199 [y3, y4, y5, w77, (Int32.ofInt 0)] [] [] X76 v X') else (P 405 [y3, y4, (Int32.ofInt 0)] [] [] X v X'))
def gxT_276_199 (p1 : Int32) (p2 : Int32) (P : Nat → List Int32 → List Int64 → List Nat → fx_X → Int32 → fx_X → Prop) (y3 : Int32) (y4 : Int32) (y5 : Int32) (y6 : Int32) (y7 : Int32) (X : fx_X) (v : Int32) (X' : fx_X) : Prop :=
  (if (y7).toInt < ((X.1 131 49)).toInt then ((0 ≤ (y3).toInt ∧ (y3).toInt < ((50 : Nat) : Int)) ∧ (X.1 131 (y3).toInt.toNat) ≠ 0 ∧ ∃ x107 : Int32, x107 = (y7 - y7 / (X.1 131 (y3).toInt.toNat) * (X.1 131 (y3).toInt.toNat)) ∧ P 225 [y3, y4, y5, y6, y7, x107, (Int32.ofInt 0)] [] [] X v X') else ((if (y6).toInt < 0 then ((0 ≤ (((y3 * ((Int8.ofInt 8).toInt32)) + y5)).toInt ∧ (((y3 * ((Int8.ofInt 8).toInt32)) + y5)).toInt < ((400 : Nat) : Int)) ∧ (0 ≤ ((((Int16.ofInt 392).toInt32) + y4)).toInt ∧ ((((Int16.ofInt 392).toInt32) + y4)).toInt < ((400 : Nat) : Int)) ∧ ∃ X99 : fx_X, X99 = (fx_wL X 133 ((((Int16.ofInt 392).toInt32) + y4)).toInt.toNat (X.2.1 133 (((y3 * ((Int8.ofInt 8).toInt32)) + y5)).toInt.toNat)) ∧ ∃ x100 : Int32, x100 = y4 + Int32.ofInt 1 ∧ ∃ x102 : Int32, x102 = y5 + Int32.ofInt 1 ∧ P 166 [y3, x100, x102] [] [] X99 v X') else (∃ x93 : Int32, x93 = y5 + Int32.ofInt 1 ∧ P 166 [y3, y4, x93] [] [] X v X'))))
def gxT_276_225 (p1 : Int32) (p2 : Int32) (P : Nat → List Int32 → List Int64 → List Nat → fx_X → Int32 → fx_X → Prop) (y3 : Int32) (y4 : Int32) (y5 : Int32) (y6 : Int32) (y7 : Int32) (y8 : Int32) (y9 : Int32) (X : fx_X) (v : Int32) (X' : fx_X) : Prop :=
  (0 ≤ ((X.1 117 37)).toInt ∧ ((X.1 117 37)).toInt < ((2 : Nat) : Int)) ∧ (if (y9).toInt < ((X.1 122 ((X.1 117 37)).toInt.toNat)).toInt then ((if (y6).toInt < 0 then ((if (y6).toInt < 0 then (∃ (w160 : Int32) (X159 : fx_X), gx_236 ((Int8.ofInt 49).toInt32) y7 y4 X w160 X159 ∧ ∃ (w163 : Int32) (X162 : fx_X), gx_236 y3 y8 y5 X159 w163 X162 ∧ (0 ≤ (w163).toInt ∧ (w163).toInt < ((12000 : Nat) : Int)) ∧ (0 ≤ (w160).toInt ∧ (w160).toInt < ((12000 : Nat) : Int)) ∧ ∃ X166 : fx_X, X166 = (fx_wI X162 134 (w160).toInt.toNat (aj_nar 4 (X162.1 134 (w163).toInt.toNat))) ∧ ∃ (w169 : Int32) (X168 : fx_X), gx_236 ((Int8.ofInt 49).toInt32) y7 y4 X166 w169 X168 ∧ ∃ (w172 : Int32) (X171 : fx_X), gx_236 y3 y8 y5 X168 w172 X171 ∧ (0 ≤ (w172).toInt ∧ (w172).toInt < ((12000 : Nat) : Int)) ∧ (0 ≤ (w169).toInt ∧ (w169).toInt < ((12000 : Nat) : Int)) ∧ ∃ X175 : fx_X, X175 = (fx_wI X171 135 (w169).toInt.toNat (X171.1 135 (w172).toInt.toNat)) ∧ ∃ x176 : Int32, x176 = y7 + Int32.ofInt 1 ∧ P 199 [y3, y4, y5, y6, x176] [] [] X175 v X') else (∃ x156 : Int32, x156 = y7 + Int32.ofInt 1 ∧ P 199 [y3, y4, y5, y6, x156] [] [] X v X'))) else ((0 ≤ (y3).toInt ∧ (y3).toInt < ((50 : Nat) : Int)) ∧ (X.1 131 (y3).toInt.toNat) ≠ 0 ∧ ∃ (w182 : Int32) (X181 : fx_X), gx_258 p1 (y7 / (X.1 131 (y3).toInt.toNat)) y6 y9 X w182 X181 ∧ ∃ (w184 : Int32) (X183 : fx_X), gx_258 y3 y8 y5 y9 X181 w184 X183 ∧ (if (w182).toInt = (w184).toInt then (∃ x186 : Int32, x186 = y9 + Int32.ofInt 1 ∧ P 225 [y3, y4, y5, y6, y7, y8, x186] [] [] X183 v X') else (∃ (w190 : Int32) (X189 : fx_X), gx_225 ((Int8.ofInt 49).toInt32) y7 X183 w190 X189 ∧ ∃ (w192 : Unit) (X191 : fx_X), gx_228 136 w190 y9 (Int32.ofInt 0) X189 w192 X191 ∧ ∃ x193 : Int32, x193 = y9 + Int32.ofInt 1 ∧ P 225 [y3, y4, y5, y6, y7, y8, x193] [] [] X191 v X'))))) else ((if (y6).toInt < 0 then (∃ (w136 : Int32) (X135 : fx_X), gx_236 ((Int8.ofInt 49).toInt32) y7 y4 X w136 X135 ∧ ∃ (w139 : Int32) (X138 : fx_X), gx_236 y3 y8 y5 X135 w139 X138 ∧ (0 ≤ (w139).toInt ∧ (w139).toInt < ((12000 : Nat) : Int)) ∧ (0 ≤ (w136).toInt ∧ (w136).toInt < ((12000 : Nat) : Int)) ∧ ∃ X142 : fx_X, X142 = (fx_wI X138 134 (w136).toInt.toNat (aj_nar 4 (X138.1 134 (w139).toInt.toNat))) ∧ ∃ (w145 : Int32) (X144 : fx_X), gx_236 ((Int8.ofInt 49).toInt32) y7 y4 X142 w145 X144 ∧ ∃ (w148 : Int32) (X147 : fx_X), gx_236 y3 y8 y5 X144 w148 X147 ∧ (0 ≤ (w148).toInt ∧ (w148).toInt < ((12000 : Nat) : Int)) ∧ (0 ≤ (w145).toInt ∧ (w145).toInt < ((12000 : Nat) : Int)) ∧ ∃ X151 : fx_X, X151 = (fx_wI X147 135 (w145).toInt.toNat (X147.1 135 (w148).toInt.toNat)) ∧ ∃ x152 : Int32, x152 = y7 + Int32.ofInt 1 ∧ P 199 [y3, y4, y5, y6, x152] [] [] X151 v X') else (∃ x132 : Int32, x132 = y7 + Int32.ofInt 1 ∧ P 199 [y3, y4, y5, y6, x132] [] [] X v X'))))
def gxT_276_405 (p1 : Int32) (p2 : Int32) (P : Nat → List Int32 → List Int64 → List Nat → fx_X → Int32 → fx_X → Prop) (y3 : Int32) (y4 : Int32) (y5 : Int32) (X : fx_X) (v : Int32) (X' : fx_X) : Prop :=
  (if (y5).toInt < ((X.1 131 49)).toInt then (P 420 [y3, y4, y5, (Int32.ofInt 0)] [] [] X v X') else (∃ X85 : fx_X, X85 = (fx_wI X 132 49 y4) ∧ ∃ (w87 : Unit) (X86 : fx_X), gx_251 ((Int8.ofInt 49).toInt32) p1 X85 w87 X86 ∧ v = (Int32.ofInt 1) ∧ X' = X86))
def gxT_276_420 (p1 : Int32) (p2 : Int32) (P : Nat → List Int32 → List Int64 → List Nat → fx_X → Int32 → fx_X → Prop) (y3 : Int32) (y4 : Int32) (y5 : Int32) (y6 : Int32) (X : fx_X) (v : Int32) (X' : fx_X) : Prop :=
  (if (y6).toInt < 32 then (∃ (w115 : Int32) (X114 : fx_X), gx_225 ((Int8.ofInt 49).toInt32) y5 X w115 X114 ∧ (0 ≤ ((w115 + y6)).toInt ∧ ((w115 + y6)).toInt < ((48000 : Nat) : Int)) ∧ (0 ≤ (y3).toInt ∧ (y3).toInt < ((50 : Nat) : Int)) ∧ (X114.1 131 (y3).toInt.toNat) ≠ 0 ∧ ∃ (w122 : Int32) (X121 : fx_X), gx_225 y3 (y5 - y5 / (X114.1 131 (y3).toInt.toNat) * (X114.1 131 (y3).toInt.toNat)) X114 w122 X121 ∧ (0 ≤ ((w122 + y6)).toInt ∧ ((w122 + y6)).toInt < ((48000 : Nat) : Int)) ∧ (0 ≤ ((w115 + y6)).toInt ∧ ((w115 + y6)).toInt < ((48000 : Nat) : Int)) ∧ ∃ X125 : fx_X, X125 = (fx_wI X121 136 ((w115 + y6)).toInt.toNat ((X114.1 136 ((w115 + y6)).toInt.toNat) &&& (X121.1 136 ((w122 + y6)).toInt.toNat))) ∧ ∃ x126 : Int32, x126 = y6 + Int32.ofInt 1 ∧ P 420 [y3, y4, y5, x126] [] [] X125 v X') else (∃ x111 : Int32, x111 = y5 + Int32.ofInt 1 ∧ P 405 [y3, y4, x111] [] [] X v X'))
def gxE_276 (p1 : Int32) (p2 : Int32) (P : Nat → List Int32 → List Int64 → List Nat → fx_X → Int32 → fx_X → Prop) (X : fx_X) (v : Int32) (X' : fx_X) : Prop :=
  ∃ x2 : Int32, x2 = (p1 + (Int32.ofInt 1)) ∧ (if ((X.1 117 32)).toInt = 0 then ((0 ≤ (p1).toInt ∧ (p1).toInt < ((50 : Nat) : Int)) ∧ ∃ x7 : Int32, x7 = (X.1 132 (p1).toInt.toNat) ∧ ∃ X11 : fx_X, X11 = (fx_wI X 132 49 x7) ∧ (if ((X11.1 117 32)).toInt = 0 then (∃ X15 : fx_X, X15 = (fx_wI X11 131 49 (Int32.ofInt 0)) ∧ P 88 [x2, x7, (Int32.ofInt 0)] [] [] X15 v X') else ((0 ≤ (p1).toInt ∧ (p1).toInt < ((50 : Nat) : Int)) ∧ (0 ≤ (x2).toInt ∧ (x2).toInt < ((50 : Nat) : Int)) ∧ ∃ X22 : fx_X, X22 = (fx_wI X11 131 49 ((X11.1 131 (p1).toInt.toNat) * (X11.1 131 (x2).toInt.toNat))) ∧ P 88 [x2, x7, (Int32.ofInt 0)] [] [] X22 v X'))) else ((0 ≤ (p1).toInt ∧ (p1).toInt < ((50 : Nat) : Int)) ∧ (0 ≤ (x2).toInt ∧ (x2).toInt < ((50 : Nat) : Int)) ∧ (if 30 < (((X.1 131 (p1).toInt.toNat) * (X.1 131 (x2).toInt.toNat))).toInt then (∃ (w49 : Int32) (X48 : fx_X), gx_215 ((Int8.ofInt 6).toInt32) p2 X w49 X48 ∧ v = w49 ∧ X' = X48) else ((0 ≤ (p1).toInt ∧ (p1).toInt < ((50 : Nat) : Int)) ∧ ∃ x31 : Int32, x31 = (X.1 132 (p1).toInt.toNat) ∧ ∃ X35 : fx_X, X35 = (fx_wI X 132 49 x31) ∧ (if ((X35.1 117 32)).toInt = 0 then (∃ X39 : fx_X, X39 = (fx_wI X35 131 49 (Int32.ofInt 0)) ∧ P 88 [x2, x31, (Int32.ofInt 0)] [] [] X39 v X') else ((0 ≤ (p1).toInt ∧ (p1).toInt < ((50 : Nat) : Int)) ∧ (0 ≤ (x2).toInt ∧ (x2).toInt < ((50 : Nat) : Int)) ∧ ∃ X46 : fx_X, X46 = (fx_wI X35 131 49 ((X35.1 131 (p1).toInt.toNat) * (X35.1 131 (x2).toInt.toNat))) ∧ P 88 [x2, x31, (Int32.ofInt 0)] [] [] X46 v X'))))))
noncomputable def gxF_276 (p1 : Int32) (p2 : Int32) (n : Nat) : Nat → List Int32 → List Int64 → List Nat → fx_X → Int32 → fx_X → Prop := Nat.rec (motive := fun _ => Nat → List Int32 → List Int64 → List Nat → fx_X → Int32 → fx_X → Prop) (fun _ _ _ _ _ _ _ => False) (fun _ P l is ls rs X v X' => (l = 88 ∧ ∃ (y3 : Int32) (y4 : Int32) (y5 : Int32), is = [y3, y4, y5] ∧ ls = [] ∧ rs = [] ∧ gxT_276_88 p1 p2 P y3 y4 y5 X v X') ∨ (l = 127 ∧ ∃ (y3 : Int32) (y4 : Int32) (y5 : Int32), is = [y3, y4, y5] ∧ ls = [] ∧ rs = [] ∧ gxT_276_127 p1 p2 P y3 y4 y5 X v X') ∨ (l = 166 ∧ ∃ (y3 : Int32) (y4 : Int32) (y5 : Int32), is = [y3, y4, y5] ∧ ls = [] ∧ rs = [] ∧ gxT_276_166 p1 p2 P y3 y4 y5 X v X') ∨ (l = 199 ∧ ∃ (y3 : Int32) (y4 : Int32) (y5 : Int32) (y6 : Int32) (y7 : Int32), is = [y3, y4, y5, y6, y7] ∧ ls = [] ∧ rs = [] ∧ gxT_276_199 p1 p2 P y3 y4 y5 y6 y7 X v X') ∨ (l = 225 ∧ ∃ (y3 : Int32) (y4 : Int32) (y5 : Int32) (y6 : Int32) (y7 : Int32) (y8 : Int32) (y9 : Int32), is = [y3, y4, y5, y6, y7, y8, y9] ∧ ls = [] ∧ rs = [] ∧ gxT_276_225 p1 p2 P y3 y4 y5 y6 y7 y8 y9 X v X') ∨ (l = 405 ∧ ∃ (y3 : Int32) (y4 : Int32) (y5 : Int32), is = [y3, y4, y5] ∧ ls = [] ∧ rs = [] ∧ gxT_276_405 p1 p2 P y3 y4 y5 X v X') ∨ (l = 420 ∧ ∃ (y3 : Int32) (y4 : Int32) (y5 : Int32) (y6 : Int32), is = [y3, y4, y5, y6] ∧ ls = [] ∧ rs = [] ∧ gxT_276_420 p1 p2 P y3 y4 y5 y6 X v X')) n
theorem gxI_276_88 {p1 : Int32} {p2 : Int32} {n : Nat} {y3 : Int32} {y4 : Int32} {y5 : Int32} {X : fx_X} {v : Int32} {X' : fx_X} (h : gxT_276_88 p1 p2 (gxF_276 p1 p2 n) y3 y4 y5 X v X') : gxF_276 p1 p2 (n + 1) 88 [y3, y4, y5] [] [] X v X' := Or.inl ⟨rfl, y3, y4, y5, rfl, rfl, rfl, h⟩
theorem gxO_276_88 {p1 : Int32} {p2 : Int32} {n : Nat} {y3 : Int32} {y4 : Int32} {y5 : Int32} {X : fx_X} {v : Int32} {X' : fx_X} (h : gxF_276 p1 p2 (n + 1) 88 [y3, y4, y5] [] [] X v X') : gxT_276_88 p1 p2 (gxF_276 p1 p2 n) y3 y4 y5 X v X' := by
  rcases h with ⟨-, _, _, _, e1, e2, e3, h⟩ | ⟨e, -⟩ | ⟨e, -⟩ | ⟨e, -⟩ | ⟨e, -⟩ | ⟨e, -⟩ | ⟨e, -⟩
  · cases e1; cases e2; cases e3; exact h
  · exact absurd e (by decide)
  · exact absurd e (by decide)
  · exact absurd e (by decide)
  · exact absurd e (by decide)
  · exact absurd e (by decide)
  · exact absurd e (by decide)
theorem gxI_276_127 {p1 : Int32} {p2 : Int32} {n : Nat} {y3 : Int32} {y4 : Int32} {y5 : Int32} {X : fx_X} {v : Int32} {X' : fx_X} (h : gxT_276_127 p1 p2 (gxF_276 p1 p2 n) y3 y4 y5 X v X') : gxF_276 p1 p2 (n + 1) 127 [y3, y4, y5] [] [] X v X' := Or.inr (Or.inl ⟨rfl, y3, y4, y5, rfl, rfl, rfl, h⟩)
theorem gxO_276_127 {p1 : Int32} {p2 : Int32} {n : Nat} {y3 : Int32} {y4 : Int32} {y5 : Int32} {X : fx_X} {v : Int32} {X' : fx_X} (h : gxF_276 p1 p2 (n + 1) 127 [y3, y4, y5] [] [] X v X') : gxT_276_127 p1 p2 (gxF_276 p1 p2 n) y3 y4 y5 X v X' := by
  rcases h with ⟨e, -⟩ | ⟨-, _, _, _, e1, e2, e3, h⟩ | ⟨e, -⟩ | ⟨e, -⟩ | ⟨e, -⟩ | ⟨e, -⟩ | ⟨e, -⟩
  · exact absurd e (by decide)
  · cases e1; cases e2; cases e3; exact h
  · exact absurd e (by decide)
  · exact absurd e (by decide)
  · exact absurd e (by decide)
  · exact absurd e (by decide)
  · exact absurd e (by decide)
theorem gxI_276_166 {p1 : Int32} {p2 : Int32} {n : Nat} {y3 : Int32} {y4 : Int32} {y5 : Int32} {X : fx_X} {v : Int32} {X' : fx_X} (h : gxT_276_166 p1 p2 (gxF_276 p1 p2 n) y3 y4 y5 X v X') : gxF_276 p1 p2 (n + 1) 166 [y3, y4, y5] [] [] X v X' := Or.inr (Or.inr (Or.inl ⟨rfl, y3, y4, y5, rfl, rfl, rfl, h⟩))
theorem gxO_276_166 {p1 : Int32} {p2 : Int32} {n : Nat} {y3 : Int32} {y4 : Int32} {y5 : Int32} {X : fx_X} {v : Int32} {X' : fx_X} (h : gxF_276 p1 p2 (n + 1) 166 [y3, y4, y5] [] [] X v X') : gxT_276_166 p1 p2 (gxF_276 p1 p2 n) y3 y4 y5 X v X' := by
  rcases h with ⟨e, -⟩ | ⟨e, -⟩ | ⟨-, _, _, _, e1, e2, e3, h⟩ | ⟨e, -⟩ | ⟨e, -⟩ | ⟨e, -⟩ | ⟨e, -⟩
  · exact absurd e (by decide)
  · exact absurd e (by decide)
  · cases e1; cases e2; cases e3; exact h
  · exact absurd e (by decide)
  · exact absurd e (by decide)
  · exact absurd e (by decide)
  · exact absurd e (by decide)
theorem gxI_276_199 {p1 : Int32} {p2 : Int32} {n : Nat} {y3 : Int32} {y4 : Int32} {y5 : Int32} {y6 : Int32} {y7 : Int32} {X : fx_X} {v : Int32} {X' : fx_X} (h : gxT_276_199 p1 p2 (gxF_276 p1 p2 n) y3 y4 y5 y6 y7 X v X') : gxF_276 p1 p2 (n + 1) 199 [y3, y4, y5, y6, y7] [] [] X v X' := Or.inr (Or.inr (Or.inr (Or.inl ⟨rfl, y3, y4, y5, y6, y7, rfl, rfl, rfl, h⟩)))
theorem gxO_276_199 {p1 : Int32} {p2 : Int32} {n : Nat} {y3 : Int32} {y4 : Int32} {y5 : Int32} {y6 : Int32} {y7 : Int32} {X : fx_X} {v : Int32} {X' : fx_X} (h : gxF_276 p1 p2 (n + 1) 199 [y3, y4, y5, y6, y7] [] [] X v X') : gxT_276_199 p1 p2 (gxF_276 p1 p2 n) y3 y4 y5 y6 y7 X v X' := by
  rcases h with ⟨e, -⟩ | ⟨e, -⟩ | ⟨e, -⟩ | ⟨-, _, _, _, _, _, e1, e2, e3, h⟩ | ⟨e, -⟩ | ⟨e, -⟩ | ⟨e, -⟩
  · exact absurd e (by decide)
  · exact absurd e (by decide)
  · exact absurd e (by decide)
  · cases e1; cases e2; cases e3; exact h
  · exact absurd e (by decide)
  · exact absurd e (by decide)
  · exact absurd e (by decide)
theorem gxI_276_225 {p1 : Int32} {p2 : Int32} {n : Nat} {y3 : Int32} {y4 : Int32} {y5 : Int32} {y6 : Int32} {y7 : Int32} {y8 : Int32} {y9 : Int32} {X : fx_X} {v : Int32} {X' : fx_X} (h : gxT_276_225 p1 p2 (gxF_276 p1 p2 n) y3 y4 y5 y6 y7 y8 y9 X v X') : gxF_276 p1 p2 (n + 1) 225 [y3, y4, y5, y6, y7, y8, y9] [] [] X v X' := Or.inr (Or.inr (Or.inr (Or.inr (Or.inl ⟨rfl, y3, y4, y5, y6, y7, y8, y9, rfl, rfl, rfl, h⟩))))
theorem gxO_276_225 {p1 : Int32} {p2 : Int32} {n : Nat} {y3 : Int32} {y4 : Int32} {y5 : Int32} {y6 : Int32} {y7 : Int32} {y8 : Int32} {y9 : Int32} {X : fx_X} {v : Int32} {X' : fx_X} (h : gxF_276 p1 p2 (n + 1) 225 [y3, y4, y5, y6, y7, y8, y9] [] [] X v X') : gxT_276_225 p1 p2 (gxF_276 p1 p2 n) y3 y4 y5 y6 y7 y8 y9 X v X' := by
  rcases h with ⟨e, -⟩ | ⟨e, -⟩ | ⟨e, -⟩ | ⟨e, -⟩ | ⟨-, _, _, _, _, _, _, _, e1, e2, e3, h⟩ | ⟨e, -⟩ | ⟨e, -⟩
  · exact absurd e (by decide)
  · exact absurd e (by decide)
  · exact absurd e (by decide)
  · exact absurd e (by decide)
  · cases e1; cases e2; cases e3; exact h
  · exact absurd e (by decide)
  · exact absurd e (by decide)
theorem gxI_276_405 {p1 : Int32} {p2 : Int32} {n : Nat} {y3 : Int32} {y4 : Int32} {y5 : Int32} {X : fx_X} {v : Int32} {X' : fx_X} (h : gxT_276_405 p1 p2 (gxF_276 p1 p2 n) y3 y4 y5 X v X') : gxF_276 p1 p2 (n + 1) 405 [y3, y4, y5] [] [] X v X' := Or.inr (Or.inr (Or.inr (Or.inr (Or.inr (Or.inl ⟨rfl, y3, y4, y5, rfl, rfl, rfl, h⟩)))))
theorem gxO_276_405 {p1 : Int32} {p2 : Int32} {n : Nat} {y3 : Int32} {y4 : Int32} {y5 : Int32} {X : fx_X} {v : Int32} {X' : fx_X} (h : gxF_276 p1 p2 (n + 1) 405 [y3, y4, y5] [] [] X v X') : gxT_276_405 p1 p2 (gxF_276 p1 p2 n) y3 y4 y5 X v X' := by
  rcases h with ⟨e, -⟩ | ⟨e, -⟩ | ⟨e, -⟩ | ⟨e, -⟩ | ⟨e, -⟩ | ⟨-, _, _, _, e1, e2, e3, h⟩ | ⟨e, -⟩
  · exact absurd e (by decide)
  · exact absurd e (by decide)
  · exact absurd e (by decide)
  · exact absurd e (by decide)
  · exact absurd e (by decide)
  · cases e1; cases e2; cases e3; exact h
  · exact absurd e (by decide)
theorem gxI_276_420 {p1 : Int32} {p2 : Int32} {n : Nat} {y3 : Int32} {y4 : Int32} {y5 : Int32} {y6 : Int32} {X : fx_X} {v : Int32} {X' : fx_X} (h : gxT_276_420 p1 p2 (gxF_276 p1 p2 n) y3 y4 y5 y6 X v X') : gxF_276 p1 p2 (n + 1) 420 [y3, y4, y5, y6] [] [] X v X' := Or.inr (Or.inr (Or.inr (Or.inr (Or.inr (Or.inr (⟨rfl, y3, y4, y5, y6, rfl, rfl, rfl, h⟩))))))
theorem gxO_276_420 {p1 : Int32} {p2 : Int32} {n : Nat} {y3 : Int32} {y4 : Int32} {y5 : Int32} {y6 : Int32} {X : fx_X} {v : Int32} {X' : fx_X} (h : gxF_276 p1 p2 (n + 1) 420 [y3, y4, y5, y6] [] [] X v X') : gxT_276_420 p1 p2 (gxF_276 p1 p2 n) y3 y4 y5 y6 X v X' := by
  rcases h with ⟨e, -⟩ | ⟨e, -⟩ | ⟨e, -⟩ | ⟨e, -⟩ | ⟨e, -⟩ | ⟨e, -⟩ | ⟨-, _, _, _, _, e1, e2, e3, h⟩
  · exact absurd e (by decide)
  · exact absurd e (by decide)
  · exact absurd e (by decide)
  · exact absurd e (by decide)
  · exact absurd e (by decide)
  · exact absurd e (by decide)
  · cases e1; cases e2; cases e3; exact h
def gx_276 (p1 : Int32) (p2 : Int32) (X : fx_X) (v : Int32) (X' : fx_X) : Prop := ∃ n : Nat, gxE_276 p1 p2 (gxF_276 p1 p2 n) X v X'
theorem gxL_276 {tb : aj_T} (p1 : Int32) (p2 : Int32) : ∀ N : Nat, (∀ (lv : aj_V) (y3 : Int32) (y4 : Int32) (y5 : Int32) (X : fx_X), aj_lv lv 0 = some (.ref 117) → aj_lv lv 1 = some (.int p1) → aj_lv lv 3 = some (.int y3) → aj_lv lv 4 = some (.int y4) → aj_lv lv 5 = some (.int y5) → fx_W tb aj_m276 N 88 lv [] X (fx_Q fx_qI (fun v X' => ∃ n : Nat, gxF_276 p1 p2 n 88 [y3, y4, y5] [] [] X v X'))) ∧ (∀ (lv : aj_V) (y3 : Int32) (y4 : Int32) (y5 : Int32) (X : fx_X), aj_lv lv 0 = some (.ref 117) → aj_lv lv 1 = some (.int p1) → aj_lv lv 3 = some (.int y3) → aj_lv lv 4 = some (.int y4) → aj_lv lv 5 = some (.int y5) → fx_W tb aj_m276 N 127 lv [] X (fx_Q fx_qI (fun v X' => ∃ n : Nat, gxF_276 p1 p2 n 127 [y3, y4, y5] [] [] X v X'))) ∧ (∀ (lv : aj_V) (y3 : Int32) (y4 : Int32) (y5 : Int32) (X : fx_X), aj_lv lv 0 = some (.ref 117) → aj_lv lv 1 = some (.int p1) → aj_lv lv 3 = some (.int y3) → aj_lv lv 4 = some (.int y4) → aj_lv lv 5 = some (.int y5) → fx_W tb aj_m276 N 166 lv [] X (fx_Q fx_qI (fun v X' => ∃ n : Nat, gxF_276 p1 p2 n 166 [y3, y4, y5] [] [] X v X'))) ∧ (∀ (lv : aj_V) (y3 : Int32) (y4 : Int32) (y5 : Int32) (y6 : Int32) (y7 : Int32) (X : fx_X), aj_lv lv 0 = some (.ref 117) → aj_lv lv 1 = some (.int p1) → aj_lv lv 3 = some (.int y3) → aj_lv lv 4 = some (.int y4) → aj_lv lv 5 = some (.int y5) → aj_lv lv 6 = some (.int y6) → aj_lv lv 7 = some (.int y7) → fx_W tb aj_m276 N 199 lv [] X (fx_Q fx_qI (fun v X' => ∃ n : Nat, gxF_276 p1 p2 n 199 [y3, y4, y5, y6, y7] [] [] X v X'))) ∧ (∀ (lv : aj_V) (y3 : Int32) (y4 : Int32) (y5 : Int32) (y6 : Int32) (y7 : Int32) (y8 : Int32) (y9 : Int32) (X : fx_X), aj_lv lv 0 = some (.ref 117) → aj_lv lv 1 = some (.int p1) → aj_lv lv 3 = some (.int y3) → aj_lv lv 4 = some (.int y4) → aj_lv lv 5 = some (.int y5) → aj_lv lv 6 = some (.int y6) → aj_lv lv 7 = some (.int y7) → aj_lv lv 8 = some (.int y8) → aj_lv lv 9 = some (.int y9) → fx_W tb aj_m276 N 225 lv [] X (fx_Q fx_qI (fun v X' => ∃ n : Nat, gxF_276 p1 p2 n 225 [y3, y4, y5, y6, y7, y8, y9] [] [] X v X'))) ∧ (∀ (lv : aj_V) (y3 : Int32) (y4 : Int32) (y5 : Int32) (X : fx_X), aj_lv lv 0 = some (.ref 117) → aj_lv lv 1 = some (.int p1) → aj_lv lv 3 = some (.int y3) → aj_lv lv 4 = some (.int y4) → aj_lv lv 5 = some (.int y5) → fx_W tb aj_m276 N 405 lv [] X (fx_Q fx_qI (fun v X' => ∃ n : Nat, gxF_276 p1 p2 n 405 [y3, y4, y5] [] [] X v X'))) ∧ (∀ (lv : aj_V) (y3 : Int32) (y4 : Int32) (y5 : Int32) (y6 : Int32) (X : fx_X), aj_lv lv 0 = some (.ref 117) → aj_lv lv 1 = some (.int p1) → aj_lv lv 3 = some (.int y3) → aj_lv lv 4 = some (.int y4) → aj_lv lv 5 = some (.int y5) → aj_lv lv 6 = some (.int y6) → fx_W tb aj_m276 N 420 lv [] X (fx_Q fx_qI (fun v X' => ∃ n : Nat, gxF_276 p1 p2 n 420 [y3, y4, y5, y6] [] [] X v X'))) := by
  intro N
  induction N with
  | zero => exact ⟨(by intros; exact fx_z), (by intros; exact fx_z), (by intros; exact fx_z), (by intros; exact fx_z), (by intros; exact fx_z), (by intros; exact fx_z), (by intros; exact fx_z)⟩
  | succ N ih =>
    refine ⟨?_, ?_, ?_, ?_, ?_, ?_, ?_⟩
    · intro lv y3 y4 y5 X hlv_0 hlv_1 hlv_3 hlv_4 hlv_5
      refine fx_mono (Q := fx_Q fx_qI (fun v X' => ∃ n : Nat, gxT_276_88 p1 p2 (gxF_276 p1 p2 n) y3 y4 y5 X v X')) (fun r X' ⟨v, e, n, z⟩ => ⟨v, e, n + 1, gxI_276_88 z⟩) ?_
      unfold gxT_276_88
      refine fx_i0 aj_d276 rfl (Nat.le_refl _) (fun _ => rfl) hlv_5 ?_
      refine fx_i0 aj_d276 rfl (Nat.le_succ _) (fun _ => rfl) hlv_4 ?_
      refine fx_b (tgt := 124) aj_d276 rfl (Nat.le_succ _) rfl (fun q50 => ?_) (fun q50 => ?_)
      · skip
        refine fx_qe (c := (y5).toInt < (y4).toInt) (fx_t_ge q50) ?_
        show fx_W _ _ _ 124 lv [] _ _
        refine fx_n (pc' := 125) (lv' := lv) (st' := [.int (Int32.ofInt 0)]) aj_d276 rfl (Nat.le_succ _) (fun _ => rfl) ?_
        refine fx_s0 (j := 5) aj_d276 rfl (Nat.le_succ _) (by decide) (fun _ => rfl) ?_
        obtain ⟨lv51, elv51⟩ : ∃ l, l = aj_set1 lv 5 (.int (Int32.ofInt 0)) := ⟨_, rfl⟩
        rw [← elv51]
        have hlv51_0 : aj_lv lv51 0 = some (.ref 117) := fx_e1 elv51 hlv_0 (by decide) (Or.inl (by decide))
        have hlv51_1 : aj_lv lv51 1 = some (.int p1) := fx_e1 elv51 hlv_1 (by decide) (Or.inl (by decide))
        have hlv51_3 : aj_lv lv51 3 = some (.int y3) := fx_e1 elv51 hlv_3 (by decide) (Or.inl (by decide))
        have hlv51_4 : aj_lv lv51 4 = some (.int y4) := fx_e1 elv51 hlv_4 (by decide) (Or.inr rfl)
        have hlv51_5 : aj_lv lv51 5 = some (.int (Int32.ofInt 0)) := by rw [elv51]; exact ak_set1_eq _ _ _
        show fx_W _ _ _ 127 lv51 [] _ _
        exact (ih.2.1) lv51 (y3) (y4) ((Int32.ofInt 0)) X  hlv51_0 hlv51_1 hlv51_3 hlv51_4 hlv51_5
      · skip
        refine fx_qi (c := (y5).toInt < (y4).toInt) (fx_f_ge q50) ?_
        show fx_W _ _ _ 95 lv [] _ _
        refine fx_i2 aj_d276 rfl (Nat.le_succ _) (fun _ => rfl) hlv_0 ?_
        refine fx_gF aj_d276 rfl (Nat.le_succ _) rfl rfl fx_in_11_17 (t := 133) rfl (fun hA52 => ?_)
        refine fx_n (pc' := 102) (lv' := lv) (st' := [.int ((Int16.ofInt 392).toInt32), .ref 133]) aj_d276 rfl (Nat.le_succ _) (fun _ => rfl) ?_
        refine fx_i0 aj_d276 rfl (Nat.le_succ _) (fun _ => rfl) hlv_5 ?_
        refine fx_n (pc' := 105) (lv' := lv) (st' := [.int (((Int16.ofInt 392).toInt32) + y5), .ref 133]) aj_d276 rfl (Nat.le_succ _) (fun _ => rfl) ?_
        refine fx_i2 aj_d276 rfl (Nat.le_succ _) (fun _ => rfl) hlv_0 ?_
        refine fx_gF aj_d276 rfl (Nat.le_succ _) rfl rfl fx_in_11_17 (t := 133) rfl (fun hA53 => ?_)
        refine fx_i0 aj_d276 rfl (Nat.le_succ _) (fun _ => rfl) hlv_1 ?_
        refine fx_n (pc' := 112) (lv' := lv) (st' := [.int ((Int8.ofInt 8).toInt32), .int p1, .ref 133, .int (((Int16.ofInt 392).toInt32) + y5), .ref 133]) aj_d276 rfl (Nat.le_succ _) (fun _ => rfl) ?_
        refine fx_n (pc' := 113) (lv' := lv) (st' := [.int (p1 * ((Int8.ofInt 8).toInt32)), .ref 133, .int (((Int16.ofInt 392).toInt32) + y5), .ref 133]) aj_d276 rfl (Nat.le_succ _) (fun _ => rfl) ?_
        refine fx_i0 aj_d276 rfl (Nat.le_succ _) (fun _ => rfl) hlv_5 ?_
        refine fx_n (pc' := 116) (lv' := lv) (st' := [.int ((p1 * ((Int8.ofInt 8).toInt32)) + y5), .ref 133, .int (((Int16.ofInt 392).toInt32) + y5), .ref 133]) aj_d276 rfl (Nat.le_succ _) (fun _ => rfl) ?_
        refine fx_ldL aj_d276 rfl (Nat.le_succ _) (fun g540 g541 => ?_)
        show fx_W _ _ _ 117 lv [.long (X.2.1 133 (((p1 * ((Int8.ofInt 8).toInt32)) + y5)).toInt.toNat), .int (((Int16.ofInt 392).toInt32) + y5), .ref 133] _ _
        refine fx_qa (c := 0 ≤ (((p1 * ((Int8.ofInt 8).toInt32)) + y5)).toInt ∧ (((p1 * ((Int8.ofInt 8).toInt32)) + y5)).toInt < ((400 : Nat) : Int)) ⟨g540, fx_lnk g541 hA53⟩ ?_
        refine fx_sL aj_d276 rfl (Nat.le_succ _) (fun g550 g551 => ?_)
        refine fx_qa (c := 0 ≤ ((((Int16.ofInt 392).toInt32) + y5)).toInt ∧ ((((Int16.ofInt 392).toInt32) + y5)).toInt < ((400 : Nat) : Int)) ⟨g550, fx_lnk g551 hA52⟩ ?_
        refine fx_qX (fun X56 eX56 => ?_)
        show fx_W _ _ _ 118 lv [] _ _
        refine fx_incq aj_d276 rfl (Nat.le_succ _) hlv_5 (by decide) (fun x57 ex57 => ?_)
        obtain ⟨lv58, elv58⟩ : ∃ l, l = aj_set1 lv 5 (.int x57) := ⟨_, rfl⟩
        rw [← elv58]
        have hlv58_0 : aj_lv lv58 0 = some (.ref 117) := fx_e1 elv58 hlv_0 (by decide) (Or.inl (by decide))
        have hlv58_1 : aj_lv lv58 1 = some (.int p1) := fx_e1 elv58 hlv_1 (by decide) (Or.inl (by decide))
        have hlv58_3 : aj_lv lv58 3 = some (.int y3) := fx_e1 elv58 hlv_3 (by decide) (Or.inl (by decide))
        have hlv58_4 : aj_lv lv58 4 = some (.int y4) := fx_e1 elv58 hlv_4 (by decide) (Or.inr rfl)
        have hlv58_5 : aj_lv lv58 5 = some (.int x57) := by rw [elv58]; exact ak_set1_eq _ _ _
        show fx_W _ _ _ 121 lv58 [] _ _
        refine fx_n (pc' := 88) (lv' := lv58) (st' := []) aj_d276 rfl (Nat.le_succ _) (fun _ => rfl) ?_
        exact (ih.1) lv58 (y3) (y4) (x57) X56  hlv58_0 hlv58_1 hlv58_3 hlv58_4 hlv58_5
    · intro lv y3 y4 y5 X hlv_0 hlv_1 hlv_3 hlv_4 hlv_5
      refine fx_mono (Q := fx_Q fx_qI (fun v X' => ∃ n : Nat, gxT_276_127 p1 p2 (gxF_276 p1 p2 n) y3 y4 y5 X v X')) (fun r X' ⟨v, e, n, z⟩ => ⟨v, e, n + 1, gxI_276_127 z⟩) ?_
      unfold gxT_276_127
      refine fx_i0 aj_d276 rfl (Nat.le_refl _) (fun _ => rfl) hlv_5 ?_
      refine fx_i2 aj_d276 rfl (Nat.le_succ _) (fun _ => rfl) hlv_0 ?_
      refine fx_gF aj_d276 rfl (Nat.le_succ _) rfl rfl fx_in_11_15 (t := 131) rfl (fun hA59 => ?_)
      refine fx_n (pc' := 135) (lv' := lv) (st' := [.int ((Int8.ofInt 49).toInt32), .ref 131, .int y5]) aj_d276 rfl (Nat.le_succ _) (fun _ => rfl) ?_
      refine fx_ld aj_d276 (Or.inl rfl) rfl (Nat.le_succ _) (fun g600 g601 => ?_)
      show fx_W _ _ _ 136 lv [.int (X.1 131 49), .int y5] _ _
      refine fx_b (tgt := 163) aj_d276 rfl (Nat.le_succ _) rfl (fun q61 => ?_) (fun q61 => ?_)
      · skip
        refine fx_qe (c := (y5).toInt < ((X.1 131 49)).toInt) (fx_t_ge q61) ?_
        show fx_W _ _ _ 163 lv [] _ _
        refine fx_n (pc' := 164) (lv' := lv) (st' := [.int (Int32.ofInt 0)]) aj_d276 rfl (Nat.le_succ _) (fun _ => rfl) ?_
        refine fx_s0 (j := 5) aj_d276 rfl (Nat.le_succ _) (by decide) (fun _ => rfl) ?_
        obtain ⟨lv62, elv62⟩ : ∃ l, l = aj_set1 lv 5 (.int (Int32.ofInt 0)) := ⟨_, rfl⟩
        rw [← elv62]
        have hlv62_0 : aj_lv lv62 0 = some (.ref 117) := fx_e1 elv62 hlv_0 (by decide) (Or.inl (by decide))
        have hlv62_1 : aj_lv lv62 1 = some (.int p1) := fx_e1 elv62 hlv_1 (by decide) (Or.inl (by decide))
        have hlv62_3 : aj_lv lv62 3 = some (.int y3) := fx_e1 elv62 hlv_3 (by decide) (Or.inl (by decide))
        have hlv62_4 : aj_lv lv62 4 = some (.int y4) := fx_e1 elv62 hlv_4 (by decide) (Or.inr rfl)
        have hlv62_5 : aj_lv lv62 5 = some (.int (Int32.ofInt 0)) := by rw [elv62]; exact ak_set1_eq _ _ _
        show fx_W _ _ _ 166 lv62 [] _ _
        exact (ih.2.2.1) lv62 (y3) (y4) ((Int32.ofInt 0)) X  hlv62_0 hlv62_1 hlv62_3 hlv62_4 hlv62_5
      · skip
        refine fx_qi (c := (y5).toInt < ((X.1 131 49)).toInt) (fx_f_ge q61) ?_
        show fx_W _ _ _ 139 lv [] _ _
        refine fx_i2 aj_d276 rfl (Nat.le_succ _) (fun _ => rfl) hlv_0 ?_
        refine fx_i0 aj_d276 rfl (Nat.le_succ _) (fun _ => rfl) hlv_1 ?_
        refine fx_i0 aj_d276 rfl (Nat.le_succ _) (fun _ => rfl) hlv_5 ?_
        refine fx_i2 aj_d276 rfl (Nat.le_succ _) (fun _ => rfl) hlv_0 ?_
        refine fx_gF aj_d276 rfl (Nat.le_succ _) rfl rfl fx_in_11_15 (t := 131) rfl (fun hA63 => ?_)
        refine fx_i0 aj_d276 rfl (Nat.le_succ _) (fun _ => rfl) hlv_3 ?_
        refine fx_ld aj_d276 (Or.inl rfl) rfl (Nat.le_succ _) (fun g640 g641 => ?_)
        show fx_W _ _ _ 149 lv [.int (X.1 131 (y3).toInt.toNat), .int y5, .int p1, .ref 117] _ _
        refine fx_qa (c := 0 ≤ (y3).toInt ∧ (y3).toInt < ((50 : Nat) : Int)) ⟨g640, fx_lnk g641 hA63⟩ ?_
        refine fx_dv aj_d276 rfl (Nat.le_succ _) (fun q65 => ?_)
        refine fx_qa (c := (X.1 131 (y3).toInt.toNat) ≠ 0) q65 ?_
        refine fx_n (pc' := 152) (lv' := lv) (st' := [.int ((Int8.ofInt 49).toInt32), .int (y5 / (X.1 131 (y3).toInt.toNat)), .int p1, .ref 117]) aj_d276 rfl (Nat.le_succ _) (fun _ => rfl) ?_
        refine fx_i0 aj_d276 rfl (Nat.le_succ _) (fun _ => rfl) hlv_5 ?_
        refine fx_cv aj_d276 rfl (Nat.le_succ _) rfl [_, _, _, _] rfl rfl (gx_252_ok p1 (y5 / (X.1 131 (y3).toInt.toNat)) ((Int8.ofInt 49).toInt32) y5) ?_
        rintro _ X66 ⟨w67, rfl, hR66⟩ hok66 hle66
        refine fx_qc hR66 ?_
        show fx_W _ _ _ 157 lv [] _ _
        refine fx_incq aj_d276 rfl (Nat.le_succ _) hlv_5 (by decide) (fun x68 ex68 => ?_)
        obtain ⟨lv69, elv69⟩ : ∃ l, l = aj_set1 lv 5 (.int x68) := ⟨_, rfl⟩
        rw [← elv69]
        have hlv69_0 : aj_lv lv69 0 = some (.ref 117) := fx_e1 elv69 hlv_0 (by decide) (Or.inl (by decide))
        have hlv69_1 : aj_lv lv69 1 = some (.int p1) := fx_e1 elv69 hlv_1 (by decide) (Or.inl (by decide))
        have hlv69_3 : aj_lv lv69 3 = some (.int y3) := fx_e1 elv69 hlv_3 (by decide) (Or.inl (by decide))
        have hlv69_4 : aj_lv lv69 4 = some (.int y4) := fx_e1 elv69 hlv_4 (by decide) (Or.inr rfl)
        have hlv69_5 : aj_lv lv69 5 = some (.int x68) := by rw [elv69]; exact ak_set1_eq _ _ _
        show fx_W _ _ _ 160 lv69 [] _ _
        refine fx_n (pc' := 127) (lv' := lv69) (st' := []) aj_d276 rfl (Nat.le_succ _) (fun _ => rfl) ?_
        exact (ih.2.1) lv69 (y3) (y4) (x68) X66  hlv69_0 hlv69_1 hlv69_3 hlv69_4 hlv69_5
    · intro lv y3 y4 y5 X hlv_0 hlv_1 hlv_3 hlv_4 hlv_5
      refine fx_mono (Q := fx_Q fx_qI (fun v X' => ∃ n : Nat, gxT_276_166 p1 p2 (gxF_276 p1 p2 n) y3 y4 y5 X v X')) (fun r X' ⟨v, e, n, z⟩ => ⟨v, e, n + 1, gxI_276_166 z⟩) ?_
      unfold gxT_276_166
      refine fx_i0 aj_d276 rfl (Nat.le_refl _) (fun _ => rfl) hlv_5 ?_
      refine fx_i2 aj_d276 rfl (Nat.le_succ _) (fun _ => rfl) hlv_0 ?_
      refine fx_gF aj_d276 rfl (Nat.le_succ _) rfl rfl fx_in_11_16 (t := 132) rfl (fun hA70 => ?_)
      refine fx_i0 aj_d276 rfl (Nat.le_succ _) (fun _ => rfl) hlv_3 ?_
      refine fx_ld aj_d276 (Or.inl rfl) rfl (Nat.le_succ _) (fun g710 g711 => ?_)
      show fx_W _ _ _ 174 lv [.int (X.1 132 (y3).toInt.toNat), .int y5] _ _
      refine fx_qa (c := 0 ≤ (y3).toInt ∧ (y3).toInt < ((50 : Nat) : Int)) ⟨g710, fx_lnk g711 hA70⟩ ?_
      refine fx_b (tgt := 402) aj_d276 rfl (Nat.le_succ _) rfl (fun q72 => ?_) (fun q72 => ?_)
      · skip
        refine fx_qe (c := (y5).toInt < ((X.1 132 (y3).toInt.toNat)).toInt) (fx_t_ge q72) ?_
        show fx_W _ _ _ 402 lv [] _ _
        refine fx_n (pc' := 403) (lv' := lv) (st' := [.int (Int32.ofInt 0)]) aj_d276 rfl (Nat.le_succ _) (fun _ => rfl) ?_
        refine fx_s0 (j := 5) aj_d276 rfl (Nat.le_succ _) (by decide) (fun _ => rfl) ?_
        obtain ⟨lv73, elv73⟩ : ∃ l, l = aj_set1 lv 5 (.int (Int32.ofInt 0)) := ⟨_, rfl⟩
        rw [← elv73]
        have hlv73_0 : aj_lv lv73 0 = some (.ref 117) := fx_e1 elv73 hlv_0 (by decide) (Or.inl (by decide))
        have hlv73_1 : aj_lv lv73 1 = some (.int p1) := fx_e1 elv73 hlv_1 (by decide) (Or.inl (by decide))
        have hlv73_3 : aj_lv lv73 3 = some (.int y3) := fx_e1 elv73 hlv_3 (by decide) (Or.inl (by decide))
        have hlv73_4 : aj_lv lv73 4 = some (.int y4) := fx_e1 elv73 hlv_4 (by decide) (Or.inr rfl)
        have hlv73_5 : aj_lv lv73 5 = some (.int (Int32.ofInt 0)) := by rw [elv73]; exact ak_set1_eq _ _ _
        show fx_W _ _ _ 405 lv73 [] _ _
        exact (ih.2.2.2.2.2.1) lv73 (y3) (y4) ((Int32.ofInt 0)) X  hlv73_0 hlv73_1 hlv73_3 hlv73_4 hlv73_5
      · skip
        refine fx_qi (c := (y5).toInt < ((X.1 132 (y3).toInt.toNat)).toInt) (fx_f_ge q72) ?_
        show fx_W _ _ _ 177 lv [] _ _
        refine fx_i2 aj_d276 rfl (Nat.le_succ _) (fun _ => rfl) hlv_0 ?_
        refine fx_i0 aj_d276 rfl (Nat.le_succ _) (fun _ => rfl) hlv_1 ?_
        refine fx_i2 aj_d276 rfl (Nat.le_succ _) (fun _ => rfl) hlv_0 ?_
        refine fx_gF aj_d276 rfl (Nat.le_succ _) rfl rfl fx_in_11_17 (t := 133) rfl (fun hA74 => ?_)
        refine fx_i0 aj_d276 rfl (Nat.le_succ _) (fun _ => rfl) hlv_3 ?_
        refine fx_n (pc' := 186) (lv' := lv) (st' := [.int ((Int8.ofInt 8).toInt32), .int y3, .ref 133, .int p1, .ref 117]) aj_d276 rfl (Nat.le_succ _) (fun _ => rfl) ?_
        refine fx_n (pc' := 187) (lv' := lv) (st' := [.int (y3 * ((Int8.ofInt 8).toInt32)), .ref 133, .int p1, .ref 117]) aj_d276 rfl (Nat.le_succ _) (fun _ => rfl) ?_
        refine fx_i0 aj_d276 rfl (Nat.le_succ _) (fun _ => rfl) hlv_5 ?_
        refine fx_n (pc' := 190) (lv' := lv) (st' := [.int ((y3 * ((Int8.ofInt 8).toInt32)) + y5), .ref 133, .int p1, .ref 117]) aj_d276 rfl (Nat.le_succ _) (fun _ => rfl) ?_
        refine fx_ldL aj_d276 rfl (Nat.le_succ _) (fun g750 g751 => ?_)
        show fx_W _ _ _ 191 lv [.long (X.2.1 133 (((y3 * ((Int8.ofInt 8).toInt32)) + y5)).toInt.toNat), .int p1, .ref 117] _ _
        refine fx_qa (c := 0 ≤ (((y3 * ((Int8.ofInt 8).toInt32)) + y5)).toInt ∧ (((y3 * ((Int8.ofInt 8).toInt32)) + y5)).toInt < ((400 : Nat) : Int)) ⟨g750, fx_lnk g751 hA74⟩ ?_
        refine fx_cv aj_d276 rfl (Nat.le_succ _) rfl [_, _] rfl rfl (gx_233_ok p1 (X.2.1 133 (((y3 * ((Int8.ofInt 8).toInt32)) + y5)).toInt.toNat)) ?_
        rintro _ X76 ⟨w77, rfl, hR76⟩ hok76 hle76
        refine fx_qc hR76 ?_
        show fx_W _ _ _ 194 lv [.int w77] _ _
        refine fx_s0 (j := 6) aj_d276 rfl (Nat.le_succ _) (by decide) (fun _ => rfl) ?_
        obtain ⟨lv78, elv78⟩ : ∃ l, l = aj_set1 lv 6 (.int w77) := ⟨_, rfl⟩
        rw [← elv78]
        have hlv78_0 : aj_lv lv78 0 = some (.ref 117) := fx_e1 elv78 hlv_0 (by decide) (Or.inl (by decide))
        have hlv78_1 : aj_lv lv78 1 = some (.int p1) := fx_e1 elv78 hlv_1 (by decide) (Or.inl (by decide))
        have hlv78_3 : aj_lv lv78 3 = some (.int y3) := fx_e1 elv78 hlv_3 (by decide) (Or.inl (by decide))
        have hlv78_4 : aj_lv lv78 4 = some (.int y4) := fx_e1 elv78 hlv_4 (by decide) (Or.inl (by decide))
        have hlv78_5 : aj_lv lv78 5 = some (.int y5) := fx_e1 elv78 hlv_5 (by decide) (Or.inr rfl)
        have hlv78_6 : aj_lv lv78 6 = some (.int w77) := by rw [elv78]; exact ak_set1_eq _ _ _
        show fx_W _ _ _ 196 lv78 [] _ _
        refine fx_n (pc' := 197) (lv' := lv78) (st' := [.int (Int32.ofInt 0)]) aj_d276 rfl (Nat.le_succ _) (fun _ => rfl) ?_
        refine fx_s0 (j := 7) aj_d276 rfl (Nat.le_succ _) (by decide) (fun _ => rfl) ?_
        obtain ⟨lv79, elv79⟩ : ∃ l, l = aj_set1 lv78 7 (.int (Int32.ofInt 0)) := ⟨_, rfl⟩
        rw [← elv79]
        have hlv79_0 : aj_lv lv79 0 = some (.ref 117) := fx_e1 elv79 hlv78_0 (by decide) (Or.inl (by decide))
        have hlv79_1 : aj_lv lv79 1 = some (.int p1) := fx_e1 elv79 hlv78_1 (by decide) (Or.inl (by decide))
        have hlv79_3 : aj_lv lv79 3 = some (.int y3) := fx_e1 elv79 hlv78_3 (by decide) (Or.inl (by decide))
        have hlv79_4 : aj_lv lv79 4 = some (.int y4) := fx_e1 elv79 hlv78_4 (by decide) (Or.inl (by decide))
        have hlv79_5 : aj_lv lv79 5 = some (.int y5) := fx_e1 elv79 hlv78_5 (by decide) (Or.inl (by decide))
        have hlv79_6 : aj_lv lv79 6 = some (.int w77) := fx_e1 elv79 hlv78_6 (by decide) (Or.inr rfl)
        have hlv79_7 : aj_lv lv79 7 = some (.int (Int32.ofInt 0)) := by rw [elv79]; exact ak_set1_eq _ _ _
        show fx_W _ _ _ 199 lv79 [] _ _
        exact (ih.2.2.2.1) lv79 (y3) (y4) (y5) (w77) ((Int32.ofInt 0)) X76  hlv79_0 hlv79_1 hlv79_3 hlv79_4 hlv79_5 hlv79_6 hlv79_7
    · intro lv y3 y4 y5 y6 y7 X hlv_0 hlv_1 hlv_3 hlv_4 hlv_5 hlv_6 hlv_7
      refine fx_mono (Q := fx_Q fx_qI (fun v X' => ∃ n : Nat, gxT_276_199 p1 p2 (gxF_276 p1 p2 n) y3 y4 y5 y6 y7 X v X')) (fun r X' ⟨v, e, n, z⟩ => ⟨v, e, n + 1, gxI_276_199 z⟩) ?_
      unfold gxT_276_199
      refine fx_i0 aj_d276 rfl (Nat.le_refl _) (fun _ => rfl) hlv_7 ?_
      refine fx_i2 aj_d276 rfl (Nat.le_succ _) (fun _ => rfl) hlv_0 ?_
      refine fx_gF aj_d276 rfl (Nat.le_succ _) rfl rfl fx_in_11_15 (t := 131) rfl (fun hA89 => ?_)
      refine fx_n (pc' := 207) (lv' := lv) (st' := [.int ((Int8.ofInt 49).toInt32), .ref 131, .int y7]) aj_d276 rfl (Nat.le_succ _) (fun _ => rfl) ?_
      refine fx_ld aj_d276 (Or.inl rfl) rfl (Nat.le_succ _) (fun g900 g901 => ?_)
      show fx_W _ _ _ 208 lv [.int (X.1 131 49), .int y7] _ _
      refine fx_b (tgt := 365) aj_d276 rfl (Nat.le_succ _) rfl (fun q91 => ?_) (fun q91 => ?_)
      · skip
        refine fx_qe (c := (y7).toInt < ((X.1 131 49)).toInt) (fx_t_ge q91) ?_
        show fx_W _ _ _ 365 lv [] _ _
        refine fx_i0 aj_d276 rfl (Nat.le_succ _) (fun _ => rfl) hlv_6 ?_
        refine fx_b0 (tgt := 396) aj_d276 rfl (Nat.le_succ _) rfl (fun q92 => ?_) (fun q92 => ?_)
        · skip
          refine fx_qe (c := (y6).toInt < 0) (fx_t_ge q92) ?_
          show fx_W _ _ _ 396 lv [] _ _
          refine fx_incq aj_d276 rfl (Nat.le_succ _) hlv_5 (by decide) (fun x93 ex93 => ?_)
          obtain ⟨lv94, elv94⟩ : ∃ l, l = aj_set1 lv 5 (.int x93) := ⟨_, rfl⟩
          rw [← elv94]
          have hlv94_0 : aj_lv lv94 0 = some (.ref 117) := fx_e1 elv94 hlv_0 (by decide) (Or.inl (by decide))
          have hlv94_1 : aj_lv lv94 1 = some (.int p1) := fx_e1 elv94 hlv_1 (by decide) (Or.inl (by decide))
          have hlv94_3 : aj_lv lv94 3 = some (.int y3) := fx_e1 elv94 hlv_3 (by decide) (Or.inl (by decide))
          have hlv94_4 : aj_lv lv94 4 = some (.int y4) := fx_e1 elv94 hlv_4 (by decide) (Or.inr rfl)
          have hlv94_5 : aj_lv lv94 5 = some (.int x93) := by rw [elv94]; exact ak_set1_eq _ _ _
          show fx_W _ _ _ 399 lv94 [] _ _
          refine fx_n (pc' := 166) (lv' := lv94) (st' := []) aj_d276 rfl (Nat.le_succ _) (fun _ => rfl) ?_
          exact (ih.2.2.1) lv94 (y3) (y4) (x93) X  hlv94_0 hlv94_1 hlv94_3 hlv94_4 hlv94_5
        · skip
          refine fx_qi (c := (y6).toInt < 0) (fx_f_ge q92) ?_
          show fx_W _ _ _ 370 lv [] _ _
          refine fx_i2 aj_d276 rfl (Nat.le_succ _) (fun _ => rfl) hlv_0 ?_
          refine fx_gF aj_d276 rfl (Nat.le_succ _) rfl rfl fx_in_11_17 (t := 133) rfl (fun hA95 => ?_)
          refine fx_n (pc' := 377) (lv' := lv) (st' := [.int ((Int16.ofInt 392).toInt32), .ref 133]) aj_d276 rfl (Nat.le_succ _) (fun _ => rfl) ?_
          refine fx_i0 aj_d276 rfl (Nat.le_succ _) (fun _ => rfl) hlv_4 ?_
          refine fx_n (pc' := 380) (lv' := lv) (st' := [.int (((Int16.ofInt 392).toInt32) + y4), .ref 133]) aj_d276 rfl (Nat.le_succ _) (fun _ => rfl) ?_
          refine fx_i2 aj_d276 rfl (Nat.le_succ _) (fun _ => rfl) hlv_0 ?_
          refine fx_gF aj_d276 rfl (Nat.le_succ _) rfl rfl fx_in_11_17 (t := 133) rfl (fun hA96 => ?_)
          refine fx_i0 aj_d276 rfl (Nat.le_succ _) (fun _ => rfl) hlv_3 ?_
          refine fx_n (pc' := 387) (lv' := lv) (st' := [.int ((Int8.ofInt 8).toInt32), .int y3, .ref 133, .int (((Int16.ofInt 392).toInt32) + y4), .ref 133]) aj_d276 rfl (Nat.le_succ _) (fun _ => rfl) ?_
          refine fx_n (pc' := 388) (lv' := lv) (st' := [.int (y3 * ((Int8.ofInt 8).toInt32)), .ref 133, .int (((Int16.ofInt 392).toInt32) + y4), .ref 133]) aj_d276 rfl (Nat.le_succ _) (fun _ => rfl) ?_
          refine fx_i0 aj_d276 rfl (Nat.le_succ _) (fun _ => rfl) hlv_5 ?_
          refine fx_n (pc' := 391) (lv' := lv) (st' := [.int ((y3 * ((Int8.ofInt 8).toInt32)) + y5), .ref 133, .int (((Int16.ofInt 392).toInt32) + y4), .ref 133]) aj_d276 rfl (Nat.le_succ _) (fun _ => rfl) ?_
          refine fx_ldL aj_d276 rfl (Nat.le_succ _) (fun g970 g971 => ?_)
          show fx_W _ _ _ 392 lv [.long (X.2.1 133 (((y3 * ((Int8.ofInt 8).toInt32)) + y5)).toInt.toNat), .int (((Int16.ofInt 392).toInt32) + y4), .ref 133] _ _
          refine fx_qa (c := 0 ≤ (((y3 * ((Int8.ofInt 8).toInt32)) + y5)).toInt ∧ (((y3 * ((Int8.ofInt 8).toInt32)) + y5)).toInt < ((400 : Nat) : Int)) ⟨g970, fx_lnk g971 hA96⟩ ?_
          refine fx_sL aj_d276 rfl (Nat.le_succ _) (fun g980 g981 => ?_)
          refine fx_qa (c := 0 ≤ ((((Int16.ofInt 392).toInt32) + y4)).toInt ∧ ((((Int16.ofInt 392).toInt32) + y4)).toInt < ((400 : Nat) : Int)) ⟨g980, fx_lnk g981 hA95⟩ ?_
          refine fx_qX (fun X99 eX99 => ?_)
          show fx_W _ _ _ 393 lv [] _ _
          refine fx_incq aj_d276 rfl (Nat.le_succ _) hlv_4 (by decide) (fun x100 ex100 => ?_)
          obtain ⟨lv101, elv101⟩ : ∃ l, l = aj_set1 lv 4 (.int x100) := ⟨_, rfl⟩
          rw [← elv101]
          have hlv101_0 : aj_lv lv101 0 = some (.ref 117) := fx_e1 elv101 hlv_0 (by decide) (Or.inl (by decide))
          have hlv101_1 : aj_lv lv101 1 = some (.int p1) := fx_e1 elv101 hlv_1 (by decide) (Or.inl (by decide))
          have hlv101_3 : aj_lv lv101 3 = some (.int y3) := fx_e1 elv101 hlv_3 (by decide) (Or.inr rfl)
          have hlv101_5 : aj_lv lv101 5 = some (.int y5) := fx_e1 elv101 hlv_5 (by decide) (Or.inl (by decide))
          have hlv101_4 : aj_lv lv101 4 = some (.int x100) := by rw [elv101]; exact ak_set1_eq _ _ _
          show fx_W _ _ _ 396 lv101 [] _ _
          refine fx_incq aj_d276 rfl (Nat.le_succ _) hlv101_5 (by decide) (fun x102 ex102 => ?_)
          obtain ⟨lv103, elv103⟩ : ∃ l, l = aj_set1 lv101 5 (.int x102) := ⟨_, rfl⟩
          rw [← elv103]
          have hlv103_0 : aj_lv lv103 0 = some (.ref 117) := fx_e1 elv103 hlv101_0 (by decide) (Or.inl (by decide))
          have hlv103_1 : aj_lv lv103 1 = some (.int p1) := fx_e1 elv103 hlv101_1 (by decide) (Or.inl (by decide))
          have hlv103_3 : aj_lv lv103 3 = some (.int y3) := fx_e1 elv103 hlv101_3 (by decide) (Or.inl (by decide))
          have hlv103_4 : aj_lv lv103 4 = some (.int x100) := fx_e1 elv103 hlv101_4 (by decide) (Or.inr rfl)
          have hlv103_5 : aj_lv lv103 5 = some (.int x102) := by rw [elv103]; exact ak_set1_eq _ _ _
          show fx_W _ _ _ 399 lv103 [] _ _
          refine fx_n (pc' := 166) (lv' := lv103) (st' := []) aj_d276 rfl (Nat.le_succ _) (fun _ => rfl) ?_
          exact (ih.2.2.1) lv103 (y3) (x100) (x102) X99  hlv103_0 hlv103_1 hlv103_3 hlv103_4 hlv103_5
      · skip
        refine fx_qi (c := (y7).toInt < ((X.1 131 49)).toInt) (fx_f_ge q91) ?_
        show fx_W _ _ _ 211 lv [] _ _
        refine fx_i0 aj_d276 rfl (Nat.le_succ _) (fun _ => rfl) hlv_7 ?_
        refine fx_i2 aj_d276 rfl (Nat.le_succ _) (fun _ => rfl) hlv_0 ?_
        refine fx_gF aj_d276 rfl (Nat.le_succ _) rfl rfl fx_in_11_15 (t := 131) rfl (fun hA104 => ?_)
        refine fx_i0 aj_d276 rfl (Nat.le_succ _) (fun _ => rfl) hlv_3 ?_
        refine fx_ld aj_d276 (Or.inl rfl) rfl (Nat.le_succ _) (fun g1050 g1051 => ?_)
        show fx_W _ _ _ 219 lv [.int (X.1 131 (y3).toInt.toNat), .int y7] _ _
        refine fx_qa (c := 0 ≤ (y3).toInt ∧ (y3).toInt < ((50 : Nat) : Int)) ⟨g1050, fx_lnk g1051 hA104⟩ ?_
        refine fx_rm aj_d276 rfl (Nat.le_succ _) (fun q106 => ?_)
        refine fx_qa (c := (X.1 131 (y3).toInt.toNat) ≠ 0) q106 ?_
        refine fx_qxI (fun x107 ex107 => ?_)
        refine fx_s0 (j := 8) aj_d276 rfl (Nat.le_succ _) (by decide) (fun _ => rfl) ?_
        obtain ⟨lv108, elv108⟩ : ∃ l, l = aj_set1 lv 8 (.int x107) := ⟨_, rfl⟩
        rw [← elv108]
        have hlv108_0 : aj_lv lv108 0 = some (.ref 117) := fx_e1 elv108 hlv_0 (by decide) (Or.inl (by decide))
        have hlv108_1 : aj_lv lv108 1 = some (.int p1) := fx_e1 elv108 hlv_1 (by decide) (Or.inl (by decide))
        have hlv108_3 : aj_lv lv108 3 = some (.int y3) := fx_e1 elv108 hlv_3 (by decide) (Or.inl (by decide))
        have hlv108_4 : aj_lv lv108 4 = some (.int y4) := fx_e1 elv108 hlv_4 (by decide) (Or.inl (by decide))
        have hlv108_5 : aj_lv lv108 5 = some (.int y5) := fx_e1 elv108 hlv_5 (by decide) (Or.inl (by decide))
        have hlv108_6 : aj_lv lv108 6 = some (.int y6) := fx_e1 elv108 hlv_6 (by decide) (Or.inl (by decide))
        have hlv108_7 : aj_lv lv108 7 = some (.int y7) := fx_e1 elv108 hlv_7 (by decide) (Or.inr rfl)
        have hlv108_8 : aj_lv lv108 8 = some (.int x107) := by rw [elv108]; exact ak_set1_eq _ _ _
        show fx_W _ _ _ 222 lv108 [] _ _
        refine fx_n (pc' := 223) (lv' := lv108) (st' := [.int (Int32.ofInt 0)]) aj_d276 rfl (Nat.le_succ _) (fun _ => rfl) ?_
        refine fx_s0 (j := 9) aj_d276 rfl (Nat.le_succ _) (by decide) (fun _ => rfl) ?_
        obtain ⟨lv109, elv109⟩ : ∃ l, l = aj_set1 lv108 9 (.int (Int32.ofInt 0)) := ⟨_, rfl⟩
        rw [← elv109]
        have hlv109_0 : aj_lv lv109 0 = some (.ref 117) := fx_e1 elv109 hlv108_0 (by decide) (Or.inl (by decide))
        have hlv109_1 : aj_lv lv109 1 = some (.int p1) := fx_e1 elv109 hlv108_1 (by decide) (Or.inl (by decide))
        have hlv109_3 : aj_lv lv109 3 = some (.int y3) := fx_e1 elv109 hlv108_3 (by decide) (Or.inl (by decide))
        have hlv109_4 : aj_lv lv109 4 = some (.int y4) := fx_e1 elv109 hlv108_4 (by decide) (Or.inl (by decide))
        have hlv109_5 : aj_lv lv109 5 = some (.int y5) := fx_e1 elv109 hlv108_5 (by decide) (Or.inl (by decide))
        have hlv109_6 : aj_lv lv109 6 = some (.int y6) := fx_e1 elv109 hlv108_6 (by decide) (Or.inl (by decide))
        have hlv109_7 : aj_lv lv109 7 = some (.int y7) := fx_e1 elv109 hlv108_7 (by decide) (Or.inl (by decide))
        have hlv109_8 : aj_lv lv109 8 = some (.int x107) := fx_e1 elv109 hlv108_8 (by decide) (Or.inr rfl)
        have hlv109_9 : aj_lv lv109 9 = some (.int (Int32.ofInt 0)) := by rw [elv109]; exact ak_set1_eq _ _ _
        show fx_W _ _ _ 225 lv109 [] _ _
        exact (ih.2.2.2.2.1) lv109 (y3) (y4) (y5) (y6) (y7) (x107) ((Int32.ofInt 0)) X  hlv109_0 hlv109_1 hlv109_3 hlv109_4 hlv109_5 hlv109_6 hlv109_7 hlv109_8 hlv109_9
    · intro lv y3 y4 y5 y6 y7 y8 y9 X hlv_0 hlv_1 hlv_3 hlv_4 hlv_5 hlv_6 hlv_7 hlv_8 hlv_9
      refine fx_mono (Q := fx_Q fx_qI (fun v X' => ∃ n : Nat, gxT_276_225 p1 p2 (gxF_276 p1 p2 n) y3 y4 y5 y6 y7 y8 y9 X v X')) (fun r X' ⟨v, e, n, z⟩ => ⟨v, e, n + 1, gxI_276_225 z⟩) ?_
      unfold gxT_276_225
      refine fx_i0 aj_d276 rfl (Nat.le_refl _) (fun _ => rfl) hlv_9 ?_
      refine fx_i2 aj_d276 rfl (Nat.le_succ _) (fun _ => rfl) hlv_0 ?_
      refine fx_gF aj_d276 rfl (Nat.le_succ _) rfl rfl fx_in_11_5 (t := 122) rfl (fun hA128 => ?_)
      refine fx_i2 aj_d276 rfl (Nat.le_succ _) (fun _ => rfl) hlv_0 ?_
      refine fx_gI aj_d276 rfl (Nat.le_succ _) rfl rfl (Or.inl rfl) ?_
      refine fx_ld aj_d276 (Or.inl rfl) rfl (Nat.le_succ _) (fun g1290 g1291 => ?_)
      show fx_W _ _ _ 236 lv [.int (X.1 122 ((X.1 117 37)).toInt.toNat), .int y9] _ _
      refine fx_qa (c := 0 ≤ ((X.1 117 37)).toInt ∧ ((X.1 117 37)).toInt < ((2 : Nat) : Int)) ⟨g1290, fx_lnk g1291 hA128⟩ ?_
      refine fx_b (tgt := 300) aj_d276 rfl (Nat.le_succ _) rfl (fun q130 => ?_) (fun q130 => ?_)
      · skip
        refine fx_qe (c := (y9).toInt < ((X.1 122 ((X.1 117 37)).toInt.toNat)).toInt) (fx_t_ge q130) ?_
        show fx_W _ _ _ 300 lv [] _ _
        refine fx_i0 aj_d276 rfl (Nat.le_succ _) (fun _ => rfl) hlv_6 ?_
        refine fx_b0 (tgt := 359) aj_d276 rfl (Nat.le_succ _) rfl (fun q131 => ?_) (fun q131 => ?_)
        · skip
          refine fx_qe (c := (y6).toInt < 0) (fx_t_ge q131) ?_
          show fx_W _ _ _ 359 lv [] _ _
          refine fx_incq aj_d276 rfl (Nat.le_succ _) hlv_7 (by decide) (fun x132 ex132 => ?_)
          obtain ⟨lv133, elv133⟩ : ∃ l, l = aj_set1 lv 7 (.int x132) := ⟨_, rfl⟩
          rw [← elv133]
          have hlv133_0 : aj_lv lv133 0 = some (.ref 117) := fx_e1 elv133 hlv_0 (by decide) (Or.inl (by decide))
          have hlv133_1 : aj_lv lv133 1 = some (.int p1) := fx_e1 elv133 hlv_1 (by decide) (Or.inl (by decide))
          have hlv133_3 : aj_lv lv133 3 = some (.int y3) := fx_e1 elv133 hlv_3 (by decide) (Or.inl (by decide))
          have hlv133_4 : aj_lv lv133 4 = some (.int y4) := fx_e1 elv133 hlv_4 (by decide) (Or.inl (by decide))
          have hlv133_5 : aj_lv lv133 5 = some (.int y5) := fx_e1 elv133 hlv_5 (by decide) (Or.inl (by decide))
          have hlv133_6 : aj_lv lv133 6 = some (.int y6) := fx_e1 elv133 hlv_6 (by decide) (Or.inr rfl)
          have hlv133_7 : aj_lv lv133 7 = some (.int x132) := by rw [elv133]; exact ak_set1_eq _ _ _
          show fx_W _ _ _ 362 lv133 [] _ _
          refine fx_n (pc' := 199) (lv' := lv133) (st' := []) aj_d276 rfl (Nat.le_succ _) (fun _ => rfl) ?_
          exact (ih.2.2.2.1) lv133 (y3) (y4) (y5) (y6) (x132) X  hlv133_0 hlv133_1 hlv133_3 hlv133_4 hlv133_5 hlv133_6 hlv133_7
        · skip
          refine fx_qi (c := (y6).toInt < 0) (fx_f_ge q131) ?_
          show fx_W _ _ _ 305 lv [] _ _
          refine fx_i2 aj_d276 rfl (Nat.le_succ _) (fun _ => rfl) hlv_0 ?_
          refine fx_gF aj_d276 rfl (Nat.le_succ _) rfl rfl fx_in_11_18 (t := 134) rfl (fun hA134 => ?_)
          refine fx_n (pc' := 311) (lv' := lv) (st' := [.int ((Int8.ofInt 49).toInt32), .ref 134]) aj_d276 rfl (Nat.le_succ _) (fun _ => rfl) ?_
          refine fx_i0 aj_d276 rfl (Nat.le_succ _) (fun _ => rfl) hlv_7 ?_
          refine fx_i0 aj_d276 rfl (Nat.le_succ _) (fun _ => rfl) hlv_4 ?_
          refine fx_cs aj_d276 rfl (Nat.le_succ _) rfl rfl [_, _, _] rfl rfl (gx_236_ok ((Int8.ofInt 49).toInt32) y7 y4) ?_
          rintro _ X135 ⟨w136, rfl, hR135⟩ hok135 hle135
          refine fx_qc hR135 ?_
          show fx_W _ _ _ 318 lv [.int w136, .ref 134] _ _
          refine fx_i2 aj_d276 rfl (Nat.le_succ _) (fun _ => rfl) hlv_0 ?_
          refine fx_gF aj_d276 rfl (Nat.le_succ _) rfl rfl fx_in_11_18 (t := 134) rfl (fun hA137 => ?_)
          refine fx_i0 aj_d276 rfl (Nat.le_succ _) (fun _ => rfl) hlv_3 ?_
          refine fx_i0 aj_d276 rfl (Nat.le_succ _) (fun _ => rfl) hlv_8 ?_
          refine fx_i0 aj_d276 rfl (Nat.le_succ _) (fun _ => rfl) hlv_5 ?_
          refine fx_cs aj_d276 rfl (Nat.le_succ _) rfl rfl [_, _, _] rfl rfl (gx_236_ok y3 y8 y5) ?_
          rintro _ X138 ⟨w139, rfl, hR138⟩ hok138 hle138
          refine fx_qc hR138 ?_
          show fx_W _ _ _ 330 lv [.int w139, .ref 134, .int w136, .ref 134] _ _
          refine fx_ld aj_d276 (Or.inr (Or.inr rfl)) rfl (Nat.le_succ _) (fun g1400 g1401 => ?_)
          show fx_W _ _ _ 331 lv [.int (X138.1 134 (w139).toInt.toNat), .int w136, .ref 134] _ _
          refine fx_qa (c := 0 ≤ (w139).toInt ∧ (w139).toInt < ((12000 : Nat) : Int)) ⟨g1400, fx_lnk g1401 ((hle138.2 _ (by rw [hA137]; decide)).trans hA137)⟩ ?_
          refine fx_sb (kd := 4) aj_d276 rfl (Nat.le_succ _) ((hle138.2 _ (by rw [((hle135.2 _ (by rw [hA134]; decide)).trans hA134)]; decide)).trans ((hle135.2 _ (by rw [hA134]; decide)).trans hA134)) (fun g1410 g1411 => ?_)
          refine fx_qa (c := 0 ≤ (w136).toInt ∧ (w136).toInt < ((12000 : Nat) : Int)) ⟨g1410, fx_lnk g1411 ((hle138.2 _ (by rw [((hle135.2 _ (by rw [hA134]; decide)).trans hA134)]; decide)).trans ((hle135.2 _ (by rw [hA134]; decide)).trans hA134))⟩ ?_
          refine fx_qX (fun X142 eX142 => ?_)
          show fx_W _ _ _ 332 lv [] _ _
          refine fx_i2 aj_d276 rfl (Nat.le_succ _) (fun _ => rfl) hlv_0 ?_
          refine fx_gF aj_d276 rfl (Nat.le_succ _) rfl rfl fx_in_11_19 (t := 135) rfl (fun hA143 => ?_)
          refine fx_n (pc' := 338) (lv' := lv) (st' := [.int ((Int8.ofInt 49).toInt32), .ref 135]) aj_d276 rfl (Nat.le_succ _) (fun _ => rfl) ?_
          refine fx_i0 aj_d276 rfl (Nat.le_succ _) (fun _ => rfl) hlv_7 ?_
          refine fx_i0 aj_d276 rfl (Nat.le_succ _) (fun _ => rfl) hlv_4 ?_
          refine fx_cs aj_d276 rfl (Nat.le_succ _) rfl rfl [_, _, _] rfl rfl (gx_236_ok ((Int8.ofInt 49).toInt32) y7 y4) ?_
          rintro _ X144 ⟨w145, rfl, hR144⟩ hok144 hle144
          refine fx_qc hR144 ?_
          show fx_W _ _ _ 345 lv [.int w145, .ref 135] _ _
          refine fx_i2 aj_d276 rfl (Nat.le_succ _) (fun _ => rfl) hlv_0 ?_
          refine fx_gF aj_d276 rfl (Nat.le_succ _) rfl rfl fx_in_11_19 (t := 135) rfl (fun hA146 => ?_)
          refine fx_i0 aj_d276 rfl (Nat.le_succ _) (fun _ => rfl) hlv_3 ?_
          refine fx_i0 aj_d276 rfl (Nat.le_succ _) (fun _ => rfl) hlv_8 ?_
          refine fx_i0 aj_d276 rfl (Nat.le_succ _) (fun _ => rfl) hlv_5 ?_
          refine fx_cs aj_d276 rfl (Nat.le_succ _) rfl rfl [_, _, _] rfl rfl (gx_236_ok y3 y8 y5) ?_
          rintro _ X147 ⟨w148, rfl, hR147⟩ hok147 hle147
          refine fx_qc hR147 ?_
          show fx_W _ _ _ 357 lv [.int w148, .ref 135, .int w145, .ref 135] _ _
          refine fx_ld aj_d276 (Or.inl rfl) rfl (Nat.le_succ _) (fun g1490 g1491 => ?_)
          show fx_W _ _ _ 358 lv [.int (X147.1 135 (w148).toInt.toNat), .int w145, .ref 135] _ _
          refine fx_qa (c := 0 ≤ (w148).toInt ∧ (w148).toInt < ((12000 : Nat) : Int)) ⟨g1490, fx_lnk g1491 ((hle147.2 _ (by rw [hA146]; decide)).trans hA146)⟩ ?_
          refine fx_st aj_d276 (Or.inl ⟨rfl, rfl⟩) rfl (Nat.le_succ _) (fun g1500 g1501 => ?_)
          show fx_W _ _ _ _ _ _ (fx_wI X147 135 (w145).toInt.toNat (X147.1 135 (w148).toInt.toNat)) _
          refine fx_qa (c := 0 ≤ (w145).toInt ∧ (w145).toInt < ((12000 : Nat) : Int)) ⟨g1500, fx_lnk g1501 ((hle147.2 _ (by rw [((hle144.2 _ (by rw [hA143]; decide)).trans hA143)]; decide)).trans ((hle144.2 _ (by rw [hA143]; decide)).trans hA143))⟩ ?_
          refine fx_qX (fun X151 eX151 => ?_)
          show fx_W _ _ _ 359 lv [] _ _
          refine fx_incq aj_d276 rfl (Nat.le_succ _) hlv_7 (by decide) (fun x152 ex152 => ?_)
          obtain ⟨lv153, elv153⟩ : ∃ l, l = aj_set1 lv 7 (.int x152) := ⟨_, rfl⟩
          rw [← elv153]
          have hlv153_0 : aj_lv lv153 0 = some (.ref 117) := fx_e1 elv153 hlv_0 (by decide) (Or.inl (by decide))
          have hlv153_1 : aj_lv lv153 1 = some (.int p1) := fx_e1 elv153 hlv_1 (by decide) (Or.inl (by decide))
          have hlv153_3 : aj_lv lv153 3 = some (.int y3) := fx_e1 elv153 hlv_3 (by decide) (Or.inl (by decide))
          have hlv153_4 : aj_lv lv153 4 = some (.int y4) := fx_e1 elv153 hlv_4 (by decide) (Or.inl (by decide))
          have hlv153_5 : aj_lv lv153 5 = some (.int y5) := fx_e1 elv153 hlv_5 (by decide) (Or.inl (by decide))
          have hlv153_6 : aj_lv lv153 6 = some (.int y6) := fx_e1 elv153 hlv_6 (by decide) (Or.inr rfl)
          have hlv153_7 : aj_lv lv153 7 = some (.int x152) := by rw [elv153]; exact ak_set1_eq _ _ _
          show fx_W _ _ _ 362 lv153 [] _ _
          refine fx_n (pc' := 199) (lv' := lv153) (st' := []) aj_d276 rfl (Nat.le_succ _) (fun _ => rfl) ?_
          exact (ih.2.2.2.1) lv153 (y3) (y4) (y5) (y6) (x152) X151  hlv153_0 hlv153_1 hlv153_3 hlv153_4 hlv153_5 hlv153_6 hlv153_7
      · skip
        refine fx_qi (c := (y9).toInt < ((X.1 122 ((X.1 117 37)).toInt.toNat)).toInt) (fx_f_ge q130) ?_
        show fx_W _ _ _ 239 lv [] _ _
        refine fx_i0 aj_d276 rfl (Nat.le_succ _) (fun _ => rfl) hlv_6 ?_
        refine fx_b0 (tgt := 300) aj_d276 rfl (Nat.le_succ _) rfl (fun q154 => ?_) (fun q154 => ?_)
        · skip
          refine fx_qi (c := (y6).toInt < 0) (fx_t_lt q154) ?_
          show fx_W _ _ _ 300 lv [] _ _
          refine fx_i0 aj_d276 rfl (Nat.le_succ _) (fun _ => rfl) hlv_6 ?_
          refine fx_b0 (tgt := 359) aj_d276 rfl (Nat.le_succ _) rfl (fun q155 => ?_) (fun q155 => ?_)
          · skip
            refine fx_qe (c := (y6).toInt < 0) (fx_t_ge q155) ?_
            show fx_W _ _ _ 359 lv [] _ _
            refine fx_incq aj_d276 rfl (Nat.le_succ _) hlv_7 (by decide) (fun x156 ex156 => ?_)
            obtain ⟨lv157, elv157⟩ : ∃ l, l = aj_set1 lv 7 (.int x156) := ⟨_, rfl⟩
            rw [← elv157]
            have hlv157_0 : aj_lv lv157 0 = some (.ref 117) := fx_e1 elv157 hlv_0 (by decide) (Or.inl (by decide))
            have hlv157_1 : aj_lv lv157 1 = some (.int p1) := fx_e1 elv157 hlv_1 (by decide) (Or.inl (by decide))
            have hlv157_3 : aj_lv lv157 3 = some (.int y3) := fx_e1 elv157 hlv_3 (by decide) (Or.inl (by decide))
            have hlv157_4 : aj_lv lv157 4 = some (.int y4) := fx_e1 elv157 hlv_4 (by decide) (Or.inl (by decide))
            have hlv157_5 : aj_lv lv157 5 = some (.int y5) := fx_e1 elv157 hlv_5 (by decide) (Or.inl (by decide))
            have hlv157_6 : aj_lv lv157 6 = some (.int y6) := fx_e1 elv157 hlv_6 (by decide) (Or.inr rfl)
            have hlv157_7 : aj_lv lv157 7 = some (.int x156) := by rw [elv157]; exact ak_set1_eq _ _ _
            show fx_W _ _ _ 362 lv157 [] _ _
            refine fx_n (pc' := 199) (lv' := lv157) (st' := []) aj_d276 rfl (Nat.le_succ _) (fun _ => rfl) ?_
            exact (ih.2.2.2.1) lv157 (y3) (y4) (y5) (y6) (x156) X  hlv157_0 hlv157_1 hlv157_3 hlv157_4 hlv157_5 hlv157_6 hlv157_7
          · skip
            refine fx_qi (c := (y6).toInt < 0) (fx_f_ge q155) ?_
            show fx_W _ _ _ 305 lv [] _ _
            refine fx_i2 aj_d276 rfl (Nat.le_succ _) (fun _ => rfl) hlv_0 ?_
            refine fx_gF aj_d276 rfl (Nat.le_succ _) rfl rfl fx_in_11_18 (t := 134) rfl (fun hA158 => ?_)
            refine fx_n (pc' := 311) (lv' := lv) (st' := [.int ((Int8.ofInt 49).toInt32), .ref 134]) aj_d276 rfl (Nat.le_succ _) (fun _ => rfl) ?_
            refine fx_i0 aj_d276 rfl (Nat.le_succ _) (fun _ => rfl) hlv_7 ?_
            refine fx_i0 aj_d276 rfl (Nat.le_succ _) (fun _ => rfl) hlv_4 ?_
            refine fx_cs aj_d276 rfl (Nat.le_succ _) rfl rfl [_, _, _] rfl rfl (gx_236_ok ((Int8.ofInt 49).toInt32) y7 y4) ?_
            rintro _ X159 ⟨w160, rfl, hR159⟩ hok159 hle159
            refine fx_qc hR159 ?_
            show fx_W _ _ _ 318 lv [.int w160, .ref 134] _ _
            refine fx_i2 aj_d276 rfl (Nat.le_succ _) (fun _ => rfl) hlv_0 ?_
            refine fx_gF aj_d276 rfl (Nat.le_succ _) rfl rfl fx_in_11_18 (t := 134) rfl (fun hA161 => ?_)
            refine fx_i0 aj_d276 rfl (Nat.le_succ _) (fun _ => rfl) hlv_3 ?_
            refine fx_i0 aj_d276 rfl (Nat.le_succ _) (fun _ => rfl) hlv_8 ?_
            refine fx_i0 aj_d276 rfl (Nat.le_succ _) (fun _ => rfl) hlv_5 ?_
            refine fx_cs aj_d276 rfl (Nat.le_succ _) rfl rfl [_, _, _] rfl rfl (gx_236_ok y3 y8 y5) ?_
            rintro _ X162 ⟨w163, rfl, hR162⟩ hok162 hle162
            refine fx_qc hR162 ?_
            show fx_W _ _ _ 330 lv [.int w163, .ref 134, .int w160, .ref 134] _ _
            refine fx_ld aj_d276 (Or.inr (Or.inr rfl)) rfl (Nat.le_succ _) (fun g1640 g1641 => ?_)
            show fx_W _ _ _ 331 lv [.int (X162.1 134 (w163).toInt.toNat), .int w160, .ref 134] _ _
            refine fx_qa (c := 0 ≤ (w163).toInt ∧ (w163).toInt < ((12000 : Nat) : Int)) ⟨g1640, fx_lnk g1641 ((hle162.2 _ (by rw [hA161]; decide)).trans hA161)⟩ ?_
            refine fx_sb (kd := 4) aj_d276 rfl (Nat.le_succ _) ((hle162.2 _ (by rw [((hle159.2 _ (by rw [hA158]; decide)).trans hA158)]; decide)).trans ((hle159.2 _ (by rw [hA158]; decide)).trans hA158)) (fun g1650 g1651 => ?_)
            refine fx_qa (c := 0 ≤ (w160).toInt ∧ (w160).toInt < ((12000 : Nat) : Int)) ⟨g1650, fx_lnk g1651 ((hle162.2 _ (by rw [((hle159.2 _ (by rw [hA158]; decide)).trans hA158)]; decide)).trans ((hle159.2 _ (by rw [hA158]; decide)).trans hA158))⟩ ?_
            refine fx_qX (fun X166 eX166 => ?_)
            show fx_W _ _ _ 332 lv [] _ _
            refine fx_i2 aj_d276 rfl (Nat.le_succ _) (fun _ => rfl) hlv_0 ?_
            refine fx_gF aj_d276 rfl (Nat.le_succ _) rfl rfl fx_in_11_19 (t := 135) rfl (fun hA167 => ?_)
            refine fx_n (pc' := 338) (lv' := lv) (st' := [.int ((Int8.ofInt 49).toInt32), .ref 135]) aj_d276 rfl (Nat.le_succ _) (fun _ => rfl) ?_
            refine fx_i0 aj_d276 rfl (Nat.le_succ _) (fun _ => rfl) hlv_7 ?_
            refine fx_i0 aj_d276 rfl (Nat.le_succ _) (fun _ => rfl) hlv_4 ?_
            refine fx_cs aj_d276 rfl (Nat.le_succ _) rfl rfl [_, _, _] rfl rfl (gx_236_ok ((Int8.ofInt 49).toInt32) y7 y4) ?_
            rintro _ X168 ⟨w169, rfl, hR168⟩ hok168 hle168
            refine fx_qc hR168 ?_
            show fx_W _ _ _ 345 lv [.int w169, .ref 135] _ _
            refine fx_i2 aj_d276 rfl (Nat.le_succ _) (fun _ => rfl) hlv_0 ?_
            refine fx_gF aj_d276 rfl (Nat.le_succ _) rfl rfl fx_in_11_19 (t := 135) rfl (fun hA170 => ?_)
            refine fx_i0 aj_d276 rfl (Nat.le_succ _) (fun _ => rfl) hlv_3 ?_
            refine fx_i0 aj_d276 rfl (Nat.le_succ _) (fun _ => rfl) hlv_8 ?_
            refine fx_i0 aj_d276 rfl (Nat.le_succ _) (fun _ => rfl) hlv_5 ?_
            refine fx_cs aj_d276 rfl (Nat.le_succ _) rfl rfl [_, _, _] rfl rfl (gx_236_ok y3 y8 y5) ?_
            rintro _ X171 ⟨w172, rfl, hR171⟩ hok171 hle171
            refine fx_qc hR171 ?_
            show fx_W _ _ _ 357 lv [.int w172, .ref 135, .int w169, .ref 135] _ _
            refine fx_ld aj_d276 (Or.inl rfl) rfl (Nat.le_succ _) (fun g1730 g1731 => ?_)
            show fx_W _ _ _ 358 lv [.int (X171.1 135 (w172).toInt.toNat), .int w169, .ref 135] _ _
            refine fx_qa (c := 0 ≤ (w172).toInt ∧ (w172).toInt < ((12000 : Nat) : Int)) ⟨g1730, fx_lnk g1731 ((hle171.2 _ (by rw [hA170]; decide)).trans hA170)⟩ ?_
            refine fx_st aj_d276 (Or.inl ⟨rfl, rfl⟩) rfl (Nat.le_succ _) (fun g1740 g1741 => ?_)
            show fx_W _ _ _ _ _ _ (fx_wI X171 135 (w169).toInt.toNat (X171.1 135 (w172).toInt.toNat)) _
            refine fx_qa (c := 0 ≤ (w169).toInt ∧ (w169).toInt < ((12000 : Nat) : Int)) ⟨g1740, fx_lnk g1741 ((hle171.2 _ (by rw [((hle168.2 _ (by rw [hA167]; decide)).trans hA167)]; decide)).trans ((hle168.2 _ (by rw [hA167]; decide)).trans hA167))⟩ ?_
            refine fx_qX (fun X175 eX175 => ?_)
            show fx_W _ _ _ 359 lv [] _ _
            refine fx_incq aj_d276 rfl (Nat.le_succ _) hlv_7 (by decide) (fun x176 ex176 => ?_)
            obtain ⟨lv177, elv177⟩ : ∃ l, l = aj_set1 lv 7 (.int x176) := ⟨_, rfl⟩
            rw [← elv177]
            have hlv177_0 : aj_lv lv177 0 = some (.ref 117) := fx_e1 elv177 hlv_0 (by decide) (Or.inl (by decide))
            have hlv177_1 : aj_lv lv177 1 = some (.int p1) := fx_e1 elv177 hlv_1 (by decide) (Or.inl (by decide))
            have hlv177_3 : aj_lv lv177 3 = some (.int y3) := fx_e1 elv177 hlv_3 (by decide) (Or.inl (by decide))
            have hlv177_4 : aj_lv lv177 4 = some (.int y4) := fx_e1 elv177 hlv_4 (by decide) (Or.inl (by decide))
            have hlv177_5 : aj_lv lv177 5 = some (.int y5) := fx_e1 elv177 hlv_5 (by decide) (Or.inl (by decide))
            have hlv177_6 : aj_lv lv177 6 = some (.int y6) := fx_e1 elv177 hlv_6 (by decide) (Or.inr rfl)
            have hlv177_7 : aj_lv lv177 7 = some (.int x176) := by rw [elv177]; exact ak_set1_eq _ _ _
            show fx_W _ _ _ 362 lv177 [] _ _
            refine fx_n (pc' := 199) (lv' := lv177) (st' := []) aj_d276 rfl (Nat.le_succ _) (fun _ => rfl) ?_
            exact (ih.2.2.2.1) lv177 (y3) (y4) (y5) (y6) (x176) X175  hlv177_0 hlv177_1 hlv177_3 hlv177_4 hlv177_5 hlv177_6 hlv177_7
        · skip
          refine fx_qe (c := (y6).toInt < 0) (fx_f_lt q154) ?_
          show fx_W _ _ _ 244 lv [] _ _
          refine fx_i2 aj_d276 rfl (Nat.le_succ _) (fun _ => rfl) hlv_0 ?_
          refine fx_i0 aj_d276 rfl (Nat.le_succ _) (fun _ => rfl) hlv_1 ?_
          refine fx_i0 aj_d276 rfl (Nat.le_succ _) (fun _ => rfl) hlv_7 ?_
          refine fx_i2 aj_d276 rfl (Nat.le_succ _) (fun _ => rfl) hlv_0 ?_
          refine fx_gF aj_d276 rfl (Nat.le_succ _) rfl rfl fx_in_11_15 (t := 131) rfl (fun hA178 => ?_)
          refine fx_i0 aj_d276 rfl (Nat.le_succ _) (fun _ => rfl) hlv_3 ?_
          refine fx_ld aj_d276 (Or.inl rfl) rfl (Nat.le_succ _) (fun g1790 g1791 => ?_)
          show fx_W _ _ _ 254 lv [.int (X.1 131 (y3).toInt.toNat), .int y7, .int p1, .ref 117] _ _
          refine fx_qa (c := 0 ≤ (y3).toInt ∧ (y3).toInt < ((50 : Nat) : Int)) ⟨g1790, fx_lnk g1791 hA178⟩ ?_
          refine fx_dv aj_d276 rfl (Nat.le_succ _) (fun q180 => ?_)
          refine fx_qa (c := (X.1 131 (y3).toInt.toNat) ≠ 0) q180 ?_
          refine fx_i0 aj_d276 rfl (Nat.le_succ _) (fun _ => rfl) hlv_6 ?_
          refine fx_i0 aj_d276 rfl (Nat.le_succ _) (fun _ => rfl) hlv_9 ?_
          refine fx_cv aj_d276 rfl (Nat.le_succ _) rfl [_, _, _, _] rfl rfl (gx_258_ok p1 (y7 / (X.1 131 (y3).toInt.toNat)) y6 y9) ?_
          rintro _ X181 ⟨w182, rfl, hR181⟩ hok181 hle181
          refine fx_qc hR181 ?_
          show fx_W _ _ _ 262 lv [.int w182] _ _
          refine fx_i2 aj_d276 rfl (Nat.le_succ _) (fun _ => rfl) hlv_0 ?_
          refine fx_i0 aj_d276 rfl (Nat.le_succ _) (fun _ => rfl) hlv_3 ?_
          refine fx_i0 aj_d276 rfl (Nat.le_succ _) (fun _ => rfl) hlv_8 ?_
          refine fx_i0 aj_d276 rfl (Nat.le_succ _) (fun _ => rfl) hlv_5 ?_
          refine fx_i0 aj_d276 rfl (Nat.le_succ _) (fun _ => rfl) hlv_9 ?_
          refine fx_cv aj_d276 rfl (Nat.le_succ _) rfl [_, _, _, _] rfl rfl (gx_258_ok y3 y8 y5 y9) ?_
          rintro _ X183 ⟨w184, rfl, hR183⟩ hok183 hle183
          refine fx_qc hR183 ?_
          show fx_W _ _ _ 273 lv [.int w184, .int w182] _ _
          refine fx_b (tgt := 294) aj_d276 rfl (Nat.le_succ _) rfl (fun q185 => ?_) (fun q185 => ?_)
          · skip
            refine fx_qi (c := (w182).toInt = (w184).toInt) (fx_t_eq q185) ?_
            show fx_W _ _ _ 294 lv [] _ _
            refine fx_incq aj_d276 rfl (Nat.le_succ _) hlv_9 (by decide) (fun x186 ex186 => ?_)
            obtain ⟨lv187, elv187⟩ : ∃ l, l = aj_set1 lv 9 (.int x186) := ⟨_, rfl⟩
            rw [← elv187]
            have hlv187_0 : aj_lv lv187 0 = some (.ref 117) := fx_e1 elv187 hlv_0 (by decide) (Or.inl (by decide))
            have hlv187_1 : aj_lv lv187 1 = some (.int p1) := fx_e1 elv187 hlv_1 (by decide) (Or.inl (by decide))
            have hlv187_3 : aj_lv lv187 3 = some (.int y3) := fx_e1 elv187 hlv_3 (by decide) (Or.inl (by decide))
            have hlv187_4 : aj_lv lv187 4 = some (.int y4) := fx_e1 elv187 hlv_4 (by decide) (Or.inl (by decide))
            have hlv187_5 : aj_lv lv187 5 = some (.int y5) := fx_e1 elv187 hlv_5 (by decide) (Or.inl (by decide))
            have hlv187_6 : aj_lv lv187 6 = some (.int y6) := fx_e1 elv187 hlv_6 (by decide) (Or.inl (by decide))
            have hlv187_7 : aj_lv lv187 7 = some (.int y7) := fx_e1 elv187 hlv_7 (by decide) (Or.inl (by decide))
            have hlv187_8 : aj_lv lv187 8 = some (.int y8) := fx_e1 elv187 hlv_8 (by decide) (Or.inr rfl)
            have hlv187_9 : aj_lv lv187 9 = some (.int x186) := by rw [elv187]; exact ak_set1_eq _ _ _
            show fx_W _ _ _ 297 lv187 [] _ _
            refine fx_n (pc' := 225) (lv' := lv187) (st' := []) aj_d276 rfl (Nat.le_succ _) (fun _ => rfl) ?_
            exact (ih.2.2.2.2.1) lv187 (y3) (y4) (y5) (y6) (y7) (y8) (x186) X183  hlv187_0 hlv187_1 hlv187_3 hlv187_4 hlv187_5 hlv187_6 hlv187_7 hlv187_8 hlv187_9
          · skip
            refine fx_qe (c := (w182).toInt = (w184).toInt) (fx_f_eq q185) ?_
            show fx_W _ _ _ 276 lv [] _ _
            refine fx_i2 aj_d276 rfl (Nat.le_succ _) (fun _ => rfl) hlv_0 ?_
            refine fx_gF aj_d276 rfl (Nat.le_succ _) rfl rfl fx_in_11_20 (t := 136) rfl (fun hA188 => ?_)
            refine fx_i2 aj_d276 rfl (Nat.le_succ _) (fun _ => rfl) hlv_0 ?_
            refine fx_n (pc' := 283) (lv' := lv) (st' := [.int ((Int8.ofInt 49).toInt32), .ref 117, .ref 136]) aj_d276 rfl (Nat.le_succ _) (fun _ => rfl) ?_
            refine fx_i0 aj_d276 rfl (Nat.le_succ _) (fun _ => rfl) hlv_7 ?_
            refine fx_cv aj_d276 rfl (Nat.le_succ _) rfl [_, _] rfl rfl (gx_225_ok ((Int8.ofInt 49).toInt32) y7) ?_
            rintro _ X189 ⟨w190, rfl, hR189⟩ hok189 hle189
            refine fx_qc hR189 ?_
            show fx_W _ _ _ 288 lv [.int w190, .ref 136] _ _
            refine fx_i0 aj_d276 rfl (Nat.le_succ _) (fun _ => rfl) hlv_9 ?_
            refine fx_n (pc' := 291) (lv' := lv) (st' := [.int (Int32.ofInt 0), .int y9, .int w190, .ref 136]) aj_d276 rfl (Nat.le_succ _) (fun _ => rfl) ?_
            refine fx_cs aj_d276 rfl (Nat.le_succ _) rfl rfl [_, _, _, _] rfl rfl (gx_228_ok 136 w190 y9 (Int32.ofInt 0)) ?_
            rintro _ X191 ⟨w192, rfl, hR191⟩ hok191 hle191
            refine fx_qc hR191 ?_
            show fx_W _ _ _ 294 lv [] _ _
            refine fx_incq aj_d276 rfl (Nat.le_succ _) hlv_9 (by decide) (fun x193 ex193 => ?_)
            obtain ⟨lv194, elv194⟩ : ∃ l, l = aj_set1 lv 9 (.int x193) := ⟨_, rfl⟩
            rw [← elv194]
            have hlv194_0 : aj_lv lv194 0 = some (.ref 117) := fx_e1 elv194 hlv_0 (by decide) (Or.inl (by decide))
            have hlv194_1 : aj_lv lv194 1 = some (.int p1) := fx_e1 elv194 hlv_1 (by decide) (Or.inl (by decide))
            have hlv194_3 : aj_lv lv194 3 = some (.int y3) := fx_e1 elv194 hlv_3 (by decide) (Or.inl (by decide))
            have hlv194_4 : aj_lv lv194 4 = some (.int y4) := fx_e1 elv194 hlv_4 (by decide) (Or.inl (by decide))
            have hlv194_5 : aj_lv lv194 5 = some (.int y5) := fx_e1 elv194 hlv_5 (by decide) (Or.inl (by decide))
            have hlv194_6 : aj_lv lv194 6 = some (.int y6) := fx_e1 elv194 hlv_6 (by decide) (Or.inl (by decide))
            have hlv194_7 : aj_lv lv194 7 = some (.int y7) := fx_e1 elv194 hlv_7 (by decide) (Or.inl (by decide))
            have hlv194_8 : aj_lv lv194 8 = some (.int y8) := fx_e1 elv194 hlv_8 (by decide) (Or.inr rfl)
            have hlv194_9 : aj_lv lv194 9 = some (.int x193) := by rw [elv194]; exact ak_set1_eq _ _ _
            show fx_W _ _ _ 297 lv194 [] _ _
            refine fx_n (pc' := 225) (lv' := lv194) (st' := []) aj_d276 rfl (Nat.le_succ _) (fun _ => rfl) ?_
            exact (ih.2.2.2.2.1) lv194 (y3) (y4) (y5) (y6) (y7) (y8) (x193) X191  hlv194_0 hlv194_1 hlv194_3 hlv194_4 hlv194_5 hlv194_6 hlv194_7 hlv194_8 hlv194_9
    · intro lv y3 y4 y5 X hlv_0 hlv_1 hlv_3 hlv_4 hlv_5
      refine fx_mono (Q := fx_Q fx_qI (fun v X' => ∃ n : Nat, gxT_276_405 p1 p2 (gxF_276 p1 p2 n) y3 y4 y5 X v X')) (fun r X' ⟨v, e, n, z⟩ => ⟨v, e, n + 1, gxI_276_405 z⟩) ?_
      unfold gxT_276_405
      refine fx_i0 aj_d276 rfl (Nat.le_refl _) (fun _ => rfl) hlv_5 ?_
      refine fx_i2 aj_d276 rfl (Nat.le_succ _) (fun _ => rfl) hlv_0 ?_
      refine fx_gF aj_d276 rfl (Nat.le_succ _) rfl rfl fx_in_11_15 (t := 131) rfl (fun hA80 => ?_)
      refine fx_n (pc' := 413) (lv' := lv) (st' := [.int ((Int8.ofInt 49).toInt32), .ref 131, .int y5]) aj_d276 rfl (Nat.le_succ _) (fun _ => rfl) ?_
      refine fx_ld aj_d276 (Or.inl rfl) rfl (Nat.le_succ _) (fun g810 g811 => ?_)
      show fx_W _ _ _ 414 lv [.int (X.1 131 49), .int y5] _ _
      refine fx_b (tgt := 480) aj_d276 rfl (Nat.le_succ _) rfl (fun q82 => ?_) (fun q82 => ?_)
      · skip
        refine fx_qe (c := (y5).toInt < ((X.1 131 49)).toInt) (fx_t_ge q82) ?_
        show fx_W _ _ _ 480 lv [] _ _
        refine fx_i2 aj_d276 rfl (Nat.le_succ _) (fun _ => rfl) hlv_0 ?_
        refine fx_gF aj_d276 rfl (Nat.le_succ _) rfl rfl fx_in_11_16 (t := 132) rfl (fun hA83 => ?_)
        refine fx_n (pc' := 486) (lv' := lv) (st' := [.int ((Int8.ofInt 49).toInt32), .ref 132]) aj_d276 rfl (Nat.le_succ _) (fun _ => rfl) ?_
        refine fx_i0 aj_d276 rfl (Nat.le_succ _) (fun _ => rfl) hlv_4 ?_
        refine fx_st aj_d276 (Or.inl ⟨rfl, rfl⟩) rfl (Nat.le_succ _) (fun g840 g841 => ?_)
        show fx_W _ _ _ _ _ _ (fx_wI X 132 49 y4) _
        refine fx_qX (fun X85 eX85 => ?_)
        show fx_W _ _ _ 489 lv [] _ _
        refine fx_i2 aj_d276 rfl (Nat.le_succ _) (fun _ => rfl) hlv_0 ?_
        refine fx_n (pc' := 492) (lv' := lv) (st' := [.int ((Int8.ofInt 49).toInt32), .ref 117]) aj_d276 rfl (Nat.le_succ _) (fun _ => rfl) ?_
        refine fx_i0 aj_d276 rfl (Nat.le_succ _) (fun _ => rfl) hlv_1 ?_
        refine fx_cv aj_d276 rfl (Nat.le_succ _) rfl [_, _] rfl rfl (gx_251_ok ((Int8.ofInt 49).toInt32) p1) ?_
        rintro _ X86 ⟨w87, rfl, hR86⟩ hok86 hle86
        refine fx_qc hR86 ?_
        show fx_W _ _ _ 496 lv [] _ _
        refine fx_n (pc' := 497) (lv' := lv) (st' := [.int (Int32.ofInt 1)]) aj_d276 rfl (Nat.le_succ _) (fun _ => rfl) ?_
        exact fx_ri aj_d276 rfl ⟨_, rfl, 0, rfl, rfl⟩
      · skip
        refine fx_qi (c := (y5).toInt < ((X.1 131 49)).toInt) (fx_f_ge q82) ?_
        show fx_W _ _ _ 417 lv [] _ _
        refine fx_n (pc' := 418) (lv' := lv) (st' := [.int (Int32.ofInt 0)]) aj_d276 rfl (Nat.le_succ _) (fun _ => rfl) ?_
        refine fx_s0 (j := 6) aj_d276 rfl (Nat.le_succ _) (by decide) (fun _ => rfl) ?_
        obtain ⟨lv88, elv88⟩ : ∃ l, l = aj_set1 lv 6 (.int (Int32.ofInt 0)) := ⟨_, rfl⟩
        rw [← elv88]
        have hlv88_0 : aj_lv lv88 0 = some (.ref 117) := fx_e1 elv88 hlv_0 (by decide) (Or.inl (by decide))
        have hlv88_1 : aj_lv lv88 1 = some (.int p1) := fx_e1 elv88 hlv_1 (by decide) (Or.inl (by decide))
        have hlv88_3 : aj_lv lv88 3 = some (.int y3) := fx_e1 elv88 hlv_3 (by decide) (Or.inl (by decide))
        have hlv88_4 : aj_lv lv88 4 = some (.int y4) := fx_e1 elv88 hlv_4 (by decide) (Or.inl (by decide))
        have hlv88_5 : aj_lv lv88 5 = some (.int y5) := fx_e1 elv88 hlv_5 (by decide) (Or.inr rfl)
        have hlv88_6 : aj_lv lv88 6 = some (.int (Int32.ofInt 0)) := by rw [elv88]; exact ak_set1_eq _ _ _
        show fx_W _ _ _ 420 lv88 [] _ _
        exact (ih.2.2.2.2.2.2) lv88 (y3) (y4) (y5) ((Int32.ofInt 0)) X  hlv88_0 hlv88_1 hlv88_3 hlv88_4 hlv88_5 hlv88_6
    · intro lv y3 y4 y5 y6 X hlv_0 hlv_1 hlv_3 hlv_4 hlv_5 hlv_6
      refine fx_mono (Q := fx_Q fx_qI (fun v X' => ∃ n : Nat, gxT_276_420 p1 p2 (gxF_276 p1 p2 n) y3 y4 y5 y6 X v X')) (fun r X' ⟨v, e, n, z⟩ => ⟨v, e, n + 1, gxI_276_420 z⟩) ?_
      unfold gxT_276_420
      refine fx_i0 aj_d276 rfl (Nat.le_refl _) (fun _ => rfl) hlv_6 ?_
      refine fx_n (pc' := 424) (lv' := lv) (st' := [.int ((Int8.ofInt 32).toInt32), .int y6]) aj_d276 rfl (Nat.le_succ _) (fun _ => rfl) ?_
      refine fx_b (tgt := 474) aj_d276 rfl (Nat.le_succ _) rfl (fun q110 => ?_) (fun q110 => ?_)
      · skip
        refine fx_qe (c := (y6).toInt < 32) (fx_t_ge q110) ?_
        show fx_W _ _ _ 474 lv [] _ _
        refine fx_incq aj_d276 rfl (Nat.le_succ _) hlv_5 (by decide) (fun x111 ex111 => ?_)
        obtain ⟨lv112, elv112⟩ : ∃ l, l = aj_set1 lv 5 (.int x111) := ⟨_, rfl⟩
        rw [← elv112]
        have hlv112_0 : aj_lv lv112 0 = some (.ref 117) := fx_e1 elv112 hlv_0 (by decide) (Or.inl (by decide))
        have hlv112_1 : aj_lv lv112 1 = some (.int p1) := fx_e1 elv112 hlv_1 (by decide) (Or.inl (by decide))
        have hlv112_3 : aj_lv lv112 3 = some (.int y3) := fx_e1 elv112 hlv_3 (by decide) (Or.inl (by decide))
        have hlv112_4 : aj_lv lv112 4 = some (.int y4) := fx_e1 elv112 hlv_4 (by decide) (Or.inr rfl)
        have hlv112_5 : aj_lv lv112 5 = some (.int x111) := by rw [elv112]; exact ak_set1_eq _ _ _
        show fx_W _ _ _ 477 lv112 [] _ _
        refine fx_n (pc' := 405) (lv' := lv112) (st' := []) aj_d276 rfl (Nat.le_succ _) (fun _ => rfl) ?_
        exact (ih.2.2.2.2.2.1) lv112 (y3) (y4) (x111) X  hlv112_0 hlv112_1 hlv112_3 hlv112_4 hlv112_5
      · skip
        refine fx_qi (c := (y6).toInt < 32) (fx_f_ge q110) ?_
        show fx_W _ _ _ 427 lv [] _ _
        refine fx_i2 aj_d276 rfl (Nat.le_succ _) (fun _ => rfl) hlv_0 ?_
        refine fx_gF aj_d276 rfl (Nat.le_succ _) rfl rfl fx_in_11_20 (t := 136) rfl (fun hA113 => ?_)
        refine fx_i2 aj_d276 rfl (Nat.le_succ _) (fun _ => rfl) hlv_0 ?_
        refine fx_n (pc' := 434) (lv' := lv) (st' := [.int ((Int8.ofInt 49).toInt32), .ref 117, .ref 136]) aj_d276 rfl (Nat.le_succ _) (fun _ => rfl) ?_
        refine fx_i0 aj_d276 rfl (Nat.le_succ _) (fun _ => rfl) hlv_5 ?_
        refine fx_cv aj_d276 rfl (Nat.le_succ _) rfl [_, _] rfl rfl (gx_225_ok ((Int8.ofInt 49).toInt32) y5) ?_
        rintro _ X114 ⟨w115, rfl, hR114⟩ hok114 hle114
        refine fx_qc hR114 ?_
        show fx_W _ _ _ 439 lv [.int w115, .ref 136] _ _
        refine fx_i0 aj_d276 rfl (Nat.le_succ _) (fun _ => rfl) hlv_6 ?_
        refine fx_n (pc' := 442) (lv' := lv) (st' := [.int (w115 + y6), .ref 136]) aj_d276 rfl (Nat.le_succ _) (fun _ => rfl) ?_
        refine fx_n (pc' := 443) (lv' := lv) (st' := [.int (w115 + y6), .ref 136, .int (w115 + y6), .ref 136]) aj_d276 rfl (Nat.le_succ _) (fun _ => rfl) ?_
        refine fx_ld aj_d276 (Or.inl rfl) rfl (Nat.le_succ _) (fun g1160 g1161 => ?_)
        show fx_W _ _ _ 444 lv [.int (X114.1 136 ((w115 + y6)).toInt.toNat), .int (w115 + y6), .ref 136] _ _
        refine fx_qa (c := 0 ≤ ((w115 + y6)).toInt ∧ ((w115 + y6)).toInt < ((48000 : Nat) : Int)) ⟨g1160, fx_lnk g1161 ((hle114.2 _ (by rw [hA113]; decide)).trans hA113)⟩ ?_
        refine fx_i2 aj_d276 rfl (Nat.le_succ _) (fun _ => rfl) hlv_0 ?_
        refine fx_gF aj_d276 rfl (Nat.le_succ _) rfl rfl fx_in_11_20 (t := 136) rfl (fun hA117 => ?_)
        refine fx_i2 aj_d276 rfl (Nat.le_succ _) (fun _ => rfl) hlv_0 ?_
        refine fx_i0 aj_d276 rfl (Nat.le_succ _) (fun _ => rfl) hlv_3 ?_
        refine fx_i0 aj_d276 rfl (Nat.le_succ _) (fun _ => rfl) hlv_5 ?_
        refine fx_i2 aj_d276 rfl (Nat.le_succ _) (fun _ => rfl) hlv_0 ?_
        refine fx_gF aj_d276 rfl (Nat.le_succ _) rfl rfl fx_in_11_15 (t := 131) rfl (fun hA118 => ?_)
        refine fx_i0 aj_d276 rfl (Nat.le_succ _) (fun _ => rfl) hlv_3 ?_
        refine fx_ld aj_d276 (Or.inl rfl) rfl (Nat.le_succ _) (fun g1190 g1191 => ?_)
        show fx_W _ _ _ 458 lv [.int (X114.1 131 (y3).toInt.toNat), .int y5, .int y3, .ref 117, .ref 136, .int (X114.1 136 ((w115 + y6)).toInt.toNat), .int (w115 + y6), .ref 136] _ _
        refine fx_qa (c := 0 ≤ (y3).toInt ∧ (y3).toInt < ((50 : Nat) : Int)) ⟨g1190, fx_lnk g1191 hA118⟩ ?_
        refine fx_rm aj_d276 rfl (Nat.le_succ _) (fun q120 => ?_)
        refine fx_qa (c := (X114.1 131 (y3).toInt.toNat) ≠ 0) q120 ?_
        refine fx_cv aj_d276 rfl (Nat.le_succ _) rfl [_, _] rfl rfl (gx_225_ok y3 (y5 - y5 / (X114.1 131 (y3).toInt.toNat) * (X114.1 131 (y3).toInt.toNat))) ?_
        rintro _ X121 ⟨w122, rfl, hR121⟩ hok121 hle121
        refine fx_qc hR121 ?_
        show fx_W _ _ _ 462 lv [.int w122, .ref 136, .int (X114.1 136 ((w115 + y6)).toInt.toNat), .int (w115 + y6), .ref 136] _ _
        refine fx_i0 aj_d276 rfl (Nat.le_succ _) (fun _ => rfl) hlv_6 ?_
        refine fx_n (pc' := 465) (lv' := lv) (st' := [.int (w122 + y6), .ref 136, .int (X114.1 136 ((w115 + y6)).toInt.toNat), .int (w115 + y6), .ref 136]) aj_d276 rfl (Nat.le_succ _) (fun _ => rfl) ?_
        refine fx_ld aj_d276 (Or.inl rfl) rfl (Nat.le_succ _) (fun g1230 g1231 => ?_)
        show fx_W _ _ _ 466 lv [.int (X121.1 136 ((w122 + y6)).toInt.toNat), .int (X114.1 136 ((w115 + y6)).toInt.toNat), .int (w115 + y6), .ref 136] _ _
        refine fx_qa (c := 0 ≤ ((w122 + y6)).toInt ∧ ((w122 + y6)).toInt < ((48000 : Nat) : Int)) ⟨g1230, fx_lnk g1231 ((hle121.2 _ (by rw [hA117]; decide)).trans hA117)⟩ ?_
        refine fx_n (pc' := 467) (lv' := lv) (st' := [.int ((X114.1 136 ((w115 + y6)).toInt.toNat) &&& (X121.1 136 ((w122 + y6)).toInt.toNat)), .int (w115 + y6), .ref 136]) aj_d276 rfl (Nat.le_succ _) (fun _ => rfl) ?_
        refine fx_st aj_d276 (Or.inl ⟨rfl, rfl⟩) rfl (Nat.le_succ _) (fun g1240 g1241 => ?_)
        show fx_W _ _ _ _ _ _ (fx_wI X121 136 ((w115 + y6)).toInt.toNat ((X114.1 136 ((w115 + y6)).toInt.toNat) &&& (X121.1 136 ((w122 + y6)).toInt.toNat))) _
        refine fx_qa (c := 0 ≤ ((w115 + y6)).toInt ∧ ((w115 + y6)).toInt < ((48000 : Nat) : Int)) ⟨g1240, fx_lnk g1241 ((hle121.2 _ (by rw [((hle114.2 _ (by rw [hA113]; decide)).trans hA113)]; decide)).trans ((hle114.2 _ (by rw [hA113]; decide)).trans hA113))⟩ ?_
        refine fx_qX (fun X125 eX125 => ?_)
        show fx_W _ _ _ 468 lv [] _ _
        refine fx_incq aj_d276 rfl (Nat.le_succ _) hlv_6 (by decide) (fun x126 ex126 => ?_)
        obtain ⟨lv127, elv127⟩ : ∃ l, l = aj_set1 lv 6 (.int x126) := ⟨_, rfl⟩
        rw [← elv127]
        have hlv127_0 : aj_lv lv127 0 = some (.ref 117) := fx_e1 elv127 hlv_0 (by decide) (Or.inl (by decide))
        have hlv127_1 : aj_lv lv127 1 = some (.int p1) := fx_e1 elv127 hlv_1 (by decide) (Or.inl (by decide))
        have hlv127_3 : aj_lv lv127 3 = some (.int y3) := fx_e1 elv127 hlv_3 (by decide) (Or.inl (by decide))
        have hlv127_4 : aj_lv lv127 4 = some (.int y4) := fx_e1 elv127 hlv_4 (by decide) (Or.inl (by decide))
        have hlv127_5 : aj_lv lv127 5 = some (.int y5) := fx_e1 elv127 hlv_5 (by decide) (Or.inr rfl)
        have hlv127_6 : aj_lv lv127 6 = some (.int x126) := by rw [elv127]; exact ak_set1_eq _ _ _
        show fx_W _ _ _ 471 lv127 [] _ _
        refine fx_n (pc' := 420) (lv' := lv127) (st' := []) aj_d276 rfl (Nat.le_succ _) (fun _ => rfl) ?_
        exact (ih.2.2.2.2.2.2) lv127 (y3) (y4) (y5) (x126) X125  hlv127_0 hlv127_1 hlv127_3 hlv127_4 hlv127_5 hlv127_6
theorem gx_276_ok {tb : aj_T} (p1 : Int32) (p2 : Int32) {X : fx_X} : fx_K tb 276 [.ref 117, .int p1, .int p2] X (fx_Q fx_qI (fun v X' => gx_276 p1 p2 X v X')) := by
  refine fx_m aj_m276_at rfl (fun N => ?_)
  refine fx_mono (Q := fx_Q fx_qI (fun v X' => ∃ n : Nat, gxE_276 p1 p2 (gxF_276 p1 p2 n) X v X')) (fun r X' h => h) ?_
  unfold gxE_276
  show fx_W _ _ _ 0 [(0, .ref 117), (1, .int p1), (2, .int p2)] [] _ _
  obtain ⟨lv1, elv1⟩ : ∃ l : aj_V, l = [(0, .ref 117), (1, .int p1), (2, .int p2)] := ⟨_, rfl⟩
  rw [← elv1]
  have hlv1_0 : aj_lv lv1 0 = some (.ref 117) := by rw [elv1]; rfl
  have hlv1_1 : aj_lv lv1 1 = some (.int p1) := by rw [elv1]; rfl
  have hlv1_2 : aj_lv lv1 2 = some (.int p2) := by rw [elv1]; rfl
  refine fx_i0 aj_d276 rfl (Nat.le_succ _) (fun _ => rfl) hlv1_1 ?_
  refine fx_n (pc' := 2) (lv' := lv1) (st' := [.int (Int32.ofInt 1), .int p1]) aj_d276 rfl (Nat.le_succ _) (fun _ => rfl) ?_
  refine fx_n (pc' := 3) (lv' := lv1) (st' := [.int (p1 + (Int32.ofInt 1))]) aj_d276 rfl (Nat.le_succ _) (fun _ => rfl) ?_
  refine fx_qxI (fun x2 ex2 => ?_)
  refine fx_s0 (j := 3) aj_d276 rfl (Nat.le_succ _) (by decide) (fun _ => rfl) ?_
  obtain ⟨lv3, elv3⟩ : ∃ l, l = aj_set1 lv1 3 (.int x2) := ⟨_, rfl⟩
  rw [← elv3]
  have hlv3_0 : aj_lv lv3 0 = some (.ref 117) := fx_e1 elv3 hlv1_0 (by decide) (Or.inl (by decide))
  have hlv3_1 : aj_lv lv3 1 = some (.int p1) := fx_e1 elv3 hlv1_1 (by decide) (Or.inl (by decide))
  have hlv3_2 : aj_lv lv3 2 = some (.int p2) := fx_e1 elv3 hlv1_2 (by decide) (Or.inr rfl)
  have hlv3_3 : aj_lv lv3 3 = some (.int x2) := by rw [elv3]; exact ak_set1_eq _ _ _
  show fx_W _ _ _ 4 lv3 [] _ _
  refine fx_i2 aj_d276 rfl (Nat.le_succ _) (fun _ => rfl) hlv3_0 ?_
  refine fx_gI aj_d276 rfl (Nat.le_succ _) rfl rfl (Or.inr (Or.inl rfl)) ?_
  refine fx_b0 (tgt := 37) aj_d276 rfl (Nat.le_succ _) rfl (fun q4 => ?_) (fun q4 => ?_)
  · skip
    refine fx_qi (c := ((X.1 117 32)).toInt = 0) (fx_t_eq q4) ?_
    show fx_W _ _ _ 37 lv3 [] _ _
    refine fx_i2 aj_d276 rfl (Nat.le_succ _) (fun _ => rfl) hlv3_0 ?_
    refine fx_gF aj_d276 rfl (Nat.le_succ _) rfl rfl fx_in_11_16 (t := 132) rfl (fun hA5 => ?_)
    refine fx_i0 aj_d276 rfl (Nat.le_succ _) (fun _ => rfl) hlv3_1 ?_
    refine fx_ld aj_d276 (Or.inl rfl) rfl (Nat.le_succ _) (fun g60 g61 => ?_)
    show fx_W _ _ _ 43 lv3 [.int (X.1 132 (p1).toInt.toNat)] _ _
    refine fx_qa (c := 0 ≤ (p1).toInt ∧ (p1).toInt < ((50 : Nat) : Int)) ⟨g60, fx_lnk g61 hA5⟩ ?_
    refine fx_qxI (fun x7 ex7 => ?_)
    refine fx_s0 (j := 4) aj_d276 rfl (Nat.le_succ _) (by decide) (fun _ => rfl) ?_
    obtain ⟨lv8, elv8⟩ : ∃ l, l = aj_set1 lv3 4 (.int x7) := ⟨_, rfl⟩
    rw [← elv8]
    have hlv8_0 : aj_lv lv8 0 = some (.ref 117) := fx_e1 elv8 hlv3_0 (by decide) (Or.inl (by decide))
    have hlv8_1 : aj_lv lv8 1 = some (.int p1) := fx_e1 elv8 hlv3_1 (by decide) (Or.inl (by decide))
    have hlv8_3 : aj_lv lv8 3 = some (.int x2) := fx_e1 elv8 hlv3_3 (by decide) (Or.inr rfl)
    have hlv8_4 : aj_lv lv8 4 = some (.int x7) := by rw [elv8]; exact ak_set1_eq _ _ _
    show fx_W _ _ _ 45 lv8 [] _ _
    refine fx_i2 aj_d276 rfl (Nat.le_succ _) (fun _ => rfl) hlv8_0 ?_
    refine fx_gF aj_d276 rfl (Nat.le_succ _) rfl rfl fx_in_11_16 (t := 132) rfl (fun hA9 => ?_)
    refine fx_n (pc' := 51) (lv' := lv8) (st' := [.int ((Int8.ofInt 49).toInt32), .ref 132]) aj_d276 rfl (Nat.le_succ _) (fun _ => rfl) ?_
    refine fx_i0 aj_d276 rfl (Nat.le_succ _) (fun _ => rfl) hlv8_4 ?_
    refine fx_st aj_d276 (Or.inl ⟨rfl, rfl⟩) rfl (Nat.le_succ _) (fun g100 g101 => ?_)
    show fx_W _ _ _ _ _ _ (fx_wI X 132 49 x7) _
    refine fx_qX (fun X11 eX11 => ?_)
    show fx_W _ _ _ 54 lv8 [] _ _
    refine fx_i2 aj_d276 rfl (Nat.le_succ _) (fun _ => rfl) hlv8_0 ?_
    refine fx_gF aj_d276 rfl (Nat.le_succ _) rfl rfl fx_in_11_15 (t := 131) rfl (fun hA12 => ?_)
    refine fx_n (pc' := 60) (lv' := lv8) (st' := [.int ((Int8.ofInt 49).toInt32), .ref 131]) aj_d276 rfl (Nat.le_succ _) (fun _ => rfl) ?_
    refine fx_i2 aj_d276 rfl (Nat.le_succ _) (fun _ => rfl) hlv8_0 ?_
    refine fx_gI aj_d276 rfl (Nat.le_succ _) rfl rfl (Or.inr (Or.inl rfl)) ?_
    refine fx_b0 (tgt := 83) aj_d276 rfl (Nat.le_succ _) rfl (fun q13 => ?_) (fun q13 => ?_)
    · skip
      refine fx_qi (c := ((X11.1 117 32)).toInt = 0) (fx_t_eq q13) ?_
      show fx_W _ _ _ 83 lv8 [.int ((Int8.ofInt 49).toInt32), .ref 131] _ _
      refine fx_n (pc' := 84) (lv' := lv8) (st' := [.int (Int32.ofInt 0), .int ((Int8.ofInt 49).toInt32), .ref 131]) aj_d276 rfl (Nat.le_succ _) (fun _ => rfl) ?_
      refine fx_st aj_d276 (Or.inl ⟨rfl, rfl⟩) rfl (Nat.le_succ _) (fun g140 g141 => ?_)
      show fx_W _ _ _ _ _ _ (fx_wI X11 131 49 (Int32.ofInt 0)) _
      refine fx_qX (fun X15 eX15 => ?_)
      show fx_W _ _ _ 85 lv8 [] _ _
      refine fx_n (pc' := 86) (lv' := lv8) (st' := [.int (Int32.ofInt 0)]) aj_d276 rfl (Nat.le_succ _) (fun _ => rfl) ?_
      refine fx_s0 (j := 5) aj_d276 rfl (Nat.le_succ _) (by decide) (fun _ => rfl) ?_
      obtain ⟨lv16, elv16⟩ : ∃ l, l = aj_set1 lv8 5 (.int (Int32.ofInt 0)) := ⟨_, rfl⟩
      rw [← elv16]
      have hlv16_0 : aj_lv lv16 0 = some (.ref 117) := fx_e1 elv16 hlv8_0 (by decide) (Or.inl (by decide))
      have hlv16_1 : aj_lv lv16 1 = some (.int p1) := fx_e1 elv16 hlv8_1 (by decide) (Or.inl (by decide))
      have hlv16_3 : aj_lv lv16 3 = some (.int x2) := fx_e1 elv16 hlv8_3 (by decide) (Or.inl (by decide))
      have hlv16_4 : aj_lv lv16 4 = some (.int x7) := fx_e1 elv16 hlv8_4 (by decide) (Or.inr rfl)
      have hlv16_5 : aj_lv lv16 5 = some (.int (Int32.ofInt 0)) := by rw [elv16]; exact ak_set1_eq _ _ _
      show fx_W _ _ _ 88 lv16 [] _ _
      exact ((gxL_276 p1 p2 N).1) lv16 (x2) (x7) ((Int32.ofInt 0)) X15  hlv16_0 hlv16_1 hlv16_3 hlv16_4 hlv16_5
    · skip
      refine fx_qe (c := ((X11.1 117 32)).toInt = 0) (fx_f_eq q13) ?_
      show fx_W _ _ _ 67 lv8 [.int ((Int8.ofInt 49).toInt32), .ref 131] _ _
      refine fx_i2 aj_d276 rfl (Nat.le_succ _) (fun _ => rfl) hlv8_0 ?_
      refine fx_gF aj_d276 rfl (Nat.le_succ _) rfl rfl fx_in_11_15 (t := 131) rfl (fun hA17 => ?_)
      refine fx_i0 aj_d276 rfl (Nat.le_succ _) (fun _ => rfl) hlv8_1 ?_
      refine fx_ld aj_d276 (Or.inl rfl) rfl (Nat.le_succ _) (fun g180 g181 => ?_)
      show fx_W _ _ _ 73 lv8 [.int (X11.1 131 (p1).toInt.toNat), .int ((Int8.ofInt 49).toInt32), .ref 131] _ _
      refine fx_qa (c := 0 ≤ (p1).toInt ∧ (p1).toInt < ((50 : Nat) : Int)) ⟨g180, fx_lnk g181 hA17⟩ ?_
      refine fx_i2 aj_d276 rfl (Nat.le_succ _) (fun _ => rfl) hlv8_0 ?_
      refine fx_gF aj_d276 rfl (Nat.le_succ _) rfl rfl fx_in_11_15 (t := 131) rfl (fun hA19 => ?_)
      refine fx_i0 aj_d276 rfl (Nat.le_succ _) (fun _ => rfl) hlv8_3 ?_
      refine fx_ld aj_d276 (Or.inl rfl) rfl (Nat.le_succ _) (fun g200 g201 => ?_)
      show fx_W _ _ _ 79 lv8 [.int (X11.1 131 (x2).toInt.toNat), .int (X11.1 131 (p1).toInt.toNat), .int ((Int8.ofInt 49).toInt32), .ref 131] _ _
      refine fx_qa (c := 0 ≤ (x2).toInt ∧ (x2).toInt < ((50 : Nat) : Int)) ⟨g200, fx_lnk g201 hA19⟩ ?_
      refine fx_n (pc' := 80) (lv' := lv8) (st' := [.int ((X11.1 131 (p1).toInt.toNat) * (X11.1 131 (x2).toInt.toNat)), .int ((Int8.ofInt 49).toInt32), .ref 131]) aj_d276 rfl (Nat.le_succ _) (fun _ => rfl) ?_
      refine fx_n (pc' := 84) (lv' := lv8) (st' := [.int ((X11.1 131 (p1).toInt.toNat) * (X11.1 131 (x2).toInt.toNat)), .int ((Int8.ofInt 49).toInt32), .ref 131]) aj_d276 rfl (Nat.le_succ _) (fun _ => rfl) ?_
      refine fx_st aj_d276 (Or.inl ⟨rfl, rfl⟩) rfl (Nat.le_succ _) (fun g210 g211 => ?_)
      show fx_W _ _ _ _ _ _ (fx_wI X11 131 49 ((X11.1 131 (p1).toInt.toNat) * (X11.1 131 (x2).toInt.toNat))) _
      refine fx_qX (fun X22 eX22 => ?_)
      show fx_W _ _ _ 85 lv8 [] _ _
      refine fx_n (pc' := 86) (lv' := lv8) (st' := [.int (Int32.ofInt 0)]) aj_d276 rfl (Nat.le_succ _) (fun _ => rfl) ?_
      refine fx_s0 (j := 5) aj_d276 rfl (Nat.le_succ _) (by decide) (fun _ => rfl) ?_
      obtain ⟨lv23, elv23⟩ : ∃ l, l = aj_set1 lv8 5 (.int (Int32.ofInt 0)) := ⟨_, rfl⟩
      rw [← elv23]
      have hlv23_0 : aj_lv lv23 0 = some (.ref 117) := fx_e1 elv23 hlv8_0 (by decide) (Or.inl (by decide))
      have hlv23_1 : aj_lv lv23 1 = some (.int p1) := fx_e1 elv23 hlv8_1 (by decide) (Or.inl (by decide))
      have hlv23_3 : aj_lv lv23 3 = some (.int x2) := fx_e1 elv23 hlv8_3 (by decide) (Or.inl (by decide))
      have hlv23_4 : aj_lv lv23 4 = some (.int x7) := fx_e1 elv23 hlv8_4 (by decide) (Or.inr rfl)
      have hlv23_5 : aj_lv lv23 5 = some (.int (Int32.ofInt 0)) := by rw [elv23]; exact ak_set1_eq _ _ _
      show fx_W _ _ _ 88 lv23 [] _ _
      exact ((gxL_276 p1 p2 N).1) lv23 (x2) (x7) ((Int32.ofInt 0)) X22  hlv23_0 hlv23_1 hlv23_3 hlv23_4 hlv23_5
  · skip
    refine fx_qe (c := ((X.1 117 32)).toInt = 0) (fx_f_eq q4) ?_
    show fx_W _ _ _ 11 lv3 [] _ _
    refine fx_i2 aj_d276 rfl (Nat.le_succ _) (fun _ => rfl) hlv3_0 ?_
    refine fx_gF aj_d276 rfl (Nat.le_succ _) rfl rfl fx_in_11_15 (t := 131) rfl (fun hA24 => ?_)
    refine fx_i0 aj_d276 rfl (Nat.le_succ _) (fun _ => rfl) hlv3_1 ?_
    refine fx_ld aj_d276 (Or.inl rfl) rfl (Nat.le_succ _) (fun g250 g251 => ?_)
    show fx_W _ _ _ 17 lv3 [.int (X.1 131 (p1).toInt.toNat)] _ _
    refine fx_qa (c := 0 ≤ (p1).toInt ∧ (p1).toInt < ((50 : Nat) : Int)) ⟨g250, fx_lnk g251 hA24⟩ ?_
    refine fx_i2 aj_d276 rfl (Nat.le_succ _) (fun _ => rfl) hlv3_0 ?_
    refine fx_gF aj_d276 rfl (Nat.le_succ _) rfl rfl fx_in_11_15 (t := 131) rfl (fun hA26 => ?_)
    refine fx_i0 aj_d276 rfl (Nat.le_succ _) (fun _ => rfl) hlv3_3 ?_
    refine fx_ld aj_d276 (Or.inl rfl) rfl (Nat.le_succ _) (fun g270 g271 => ?_)
    show fx_W _ _ _ 23 lv3 [.int (X.1 131 (x2).toInt.toNat), .int (X.1 131 (p1).toInt.toNat)] _ _
    refine fx_qa (c := 0 ≤ (x2).toInt ∧ (x2).toInt < ((50 : Nat) : Int)) ⟨g270, fx_lnk g271 hA26⟩ ?_
    refine fx_n (pc' := 24) (lv' := lv3) (st' := [.int ((X.1 131 (p1).toInt.toNat) * (X.1 131 (x2).toInt.toNat))]) aj_d276 rfl (Nat.le_succ _) (fun _ => rfl) ?_
    refine fx_n (pc' := 26) (lv' := lv3) (st' := [.int ((Int8.ofInt 30).toInt32), .int ((X.1 131 (p1).toInt.toNat) * (X.1 131 (x2).toInt.toNat))]) aj_d276 rfl (Nat.le_succ _) (fun _ => rfl) ?_
    refine fx_b (tgt := 37) aj_d276 rfl (Nat.le_succ _) rfl (fun q28 => ?_) (fun q28 => ?_)
    · skip
      refine fx_qe (c := 30 < (((X.1 131 (p1).toInt.toNat) * (X.1 131 (x2).toInt.toNat))).toInt) (fx_t_le q28) ?_
      show fx_W _ _ _ 37 lv3 [] _ _
      refine fx_i2 aj_d276 rfl (Nat.le_succ _) (fun _ => rfl) hlv3_0 ?_
      refine fx_gF aj_d276 rfl (Nat.le_succ _) rfl rfl fx_in_11_16 (t := 132) rfl (fun hA29 => ?_)
      refine fx_i0 aj_d276 rfl (Nat.le_succ _) (fun _ => rfl) hlv3_1 ?_
      refine fx_ld aj_d276 (Or.inl rfl) rfl (Nat.le_succ _) (fun g300 g301 => ?_)
      show fx_W _ _ _ 43 lv3 [.int (X.1 132 (p1).toInt.toNat)] _ _
      refine fx_qa (c := 0 ≤ (p1).toInt ∧ (p1).toInt < ((50 : Nat) : Int)) ⟨g300, fx_lnk g301 hA29⟩ ?_
      refine fx_qxI (fun x31 ex31 => ?_)
      refine fx_s0 (j := 4) aj_d276 rfl (Nat.le_succ _) (by decide) (fun _ => rfl) ?_
      obtain ⟨lv32, elv32⟩ : ∃ l, l = aj_set1 lv3 4 (.int x31) := ⟨_, rfl⟩
      rw [← elv32]
      have hlv32_0 : aj_lv lv32 0 = some (.ref 117) := fx_e1 elv32 hlv3_0 (by decide) (Or.inl (by decide))
      have hlv32_1 : aj_lv lv32 1 = some (.int p1) := fx_e1 elv32 hlv3_1 (by decide) (Or.inl (by decide))
      have hlv32_3 : aj_lv lv32 3 = some (.int x2) := fx_e1 elv32 hlv3_3 (by decide) (Or.inr rfl)
      have hlv32_4 : aj_lv lv32 4 = some (.int x31) := by rw [elv32]; exact ak_set1_eq _ _ _
      show fx_W _ _ _ 45 lv32 [] _ _
      refine fx_i2 aj_d276 rfl (Nat.le_succ _) (fun _ => rfl) hlv32_0 ?_
      refine fx_gF aj_d276 rfl (Nat.le_succ _) rfl rfl fx_in_11_16 (t := 132) rfl (fun hA33 => ?_)
      refine fx_n (pc' := 51) (lv' := lv32) (st' := [.int ((Int8.ofInt 49).toInt32), .ref 132]) aj_d276 rfl (Nat.le_succ _) (fun _ => rfl) ?_
      refine fx_i0 aj_d276 rfl (Nat.le_succ _) (fun _ => rfl) hlv32_4 ?_
      refine fx_st aj_d276 (Or.inl ⟨rfl, rfl⟩) rfl (Nat.le_succ _) (fun g340 g341 => ?_)
      show fx_W _ _ _ _ _ _ (fx_wI X 132 49 x31) _
      refine fx_qX (fun X35 eX35 => ?_)
      show fx_W _ _ _ 54 lv32 [] _ _
      refine fx_i2 aj_d276 rfl (Nat.le_succ _) (fun _ => rfl) hlv32_0 ?_
      refine fx_gF aj_d276 rfl (Nat.le_succ _) rfl rfl fx_in_11_15 (t := 131) rfl (fun hA36 => ?_)
      refine fx_n (pc' := 60) (lv' := lv32) (st' := [.int ((Int8.ofInt 49).toInt32), .ref 131]) aj_d276 rfl (Nat.le_succ _) (fun _ => rfl) ?_
      refine fx_i2 aj_d276 rfl (Nat.le_succ _) (fun _ => rfl) hlv32_0 ?_
      refine fx_gI aj_d276 rfl (Nat.le_succ _) rfl rfl (Or.inr (Or.inl rfl)) ?_
      refine fx_b0 (tgt := 83) aj_d276 rfl (Nat.le_succ _) rfl (fun q37 => ?_) (fun q37 => ?_)
      · skip
        refine fx_qi (c := ((X35.1 117 32)).toInt = 0) (fx_t_eq q37) ?_
        show fx_W _ _ _ 83 lv32 [.int ((Int8.ofInt 49).toInt32), .ref 131] _ _
        refine fx_n (pc' := 84) (lv' := lv32) (st' := [.int (Int32.ofInt 0), .int ((Int8.ofInt 49).toInt32), .ref 131]) aj_d276 rfl (Nat.le_succ _) (fun _ => rfl) ?_
        refine fx_st aj_d276 (Or.inl ⟨rfl, rfl⟩) rfl (Nat.le_succ _) (fun g380 g381 => ?_)
        show fx_W _ _ _ _ _ _ (fx_wI X35 131 49 (Int32.ofInt 0)) _
        refine fx_qX (fun X39 eX39 => ?_)
        show fx_W _ _ _ 85 lv32 [] _ _
        refine fx_n (pc' := 86) (lv' := lv32) (st' := [.int (Int32.ofInt 0)]) aj_d276 rfl (Nat.le_succ _) (fun _ => rfl) ?_
        refine fx_s0 (j := 5) aj_d276 rfl (Nat.le_succ _) (by decide) (fun _ => rfl) ?_
        obtain ⟨lv40, elv40⟩ : ∃ l, l = aj_set1 lv32 5 (.int (Int32.ofInt 0)) := ⟨_, rfl⟩
        rw [← elv40]
        have hlv40_0 : aj_lv lv40 0 = some (.ref 117) := fx_e1 elv40 hlv32_0 (by decide) (Or.inl (by decide))
        have hlv40_1 : aj_lv lv40 1 = some (.int p1) := fx_e1 elv40 hlv32_1 (by decide) (Or.inl (by decide))
        have hlv40_3 : aj_lv lv40 3 = some (.int x2) := fx_e1 elv40 hlv32_3 (by decide) (Or.inl (by decide))
        have hlv40_4 : aj_lv lv40 4 = some (.int x31) := fx_e1 elv40 hlv32_4 (by decide) (Or.inr rfl)
        have hlv40_5 : aj_lv lv40 5 = some (.int (Int32.ofInt 0)) := by rw [elv40]; exact ak_set1_eq _ _ _
        show fx_W _ _ _ 88 lv40 [] _ _
        exact ((gxL_276 p1 p2 N).1) lv40 (x2) (x31) ((Int32.ofInt 0)) X39  hlv40_0 hlv40_1 hlv40_3 hlv40_4 hlv40_5
      · skip
        refine fx_qe (c := ((X35.1 117 32)).toInt = 0) (fx_f_eq q37) ?_
        show fx_W _ _ _ 67 lv32 [.int ((Int8.ofInt 49).toInt32), .ref 131] _ _
        refine fx_i2 aj_d276 rfl (Nat.le_succ _) (fun _ => rfl) hlv32_0 ?_
        refine fx_gF aj_d276 rfl (Nat.le_succ _) rfl rfl fx_in_11_15 (t := 131) rfl (fun hA41 => ?_)
        refine fx_i0 aj_d276 rfl (Nat.le_succ _) (fun _ => rfl) hlv32_1 ?_
        refine fx_ld aj_d276 (Or.inl rfl) rfl (Nat.le_succ _) (fun g420 g421 => ?_)
        show fx_W _ _ _ 73 lv32 [.int (X35.1 131 (p1).toInt.toNat), .int ((Int8.ofInt 49).toInt32), .ref 131] _ _
        refine fx_qa (c := 0 ≤ (p1).toInt ∧ (p1).toInt < ((50 : Nat) : Int)) ⟨g420, fx_lnk g421 hA41⟩ ?_
        refine fx_i2 aj_d276 rfl (Nat.le_succ _) (fun _ => rfl) hlv32_0 ?_
        refine fx_gF aj_d276 rfl (Nat.le_succ _) rfl rfl fx_in_11_15 (t := 131) rfl (fun hA43 => ?_)
        refine fx_i0 aj_d276 rfl (Nat.le_succ _) (fun _ => rfl) hlv32_3 ?_
        refine fx_ld aj_d276 (Or.inl rfl) rfl (Nat.le_succ _) (fun g440 g441 => ?_)
        show fx_W _ _ _ 79 lv32 [.int (X35.1 131 (x2).toInt.toNat), .int (X35.1 131 (p1).toInt.toNat), .int ((Int8.ofInt 49).toInt32), .ref 131] _ _
        refine fx_qa (c := 0 ≤ (x2).toInt ∧ (x2).toInt < ((50 : Nat) : Int)) ⟨g440, fx_lnk g441 hA43⟩ ?_
        refine fx_n (pc' := 80) (lv' := lv32) (st' := [.int ((X35.1 131 (p1).toInt.toNat) * (X35.1 131 (x2).toInt.toNat)), .int ((Int8.ofInt 49).toInt32), .ref 131]) aj_d276 rfl (Nat.le_succ _) (fun _ => rfl) ?_
        refine fx_n (pc' := 84) (lv' := lv32) (st' := [.int ((X35.1 131 (p1).toInt.toNat) * (X35.1 131 (x2).toInt.toNat)), .int ((Int8.ofInt 49).toInt32), .ref 131]) aj_d276 rfl (Nat.le_succ _) (fun _ => rfl) ?_
        refine fx_st aj_d276 (Or.inl ⟨rfl, rfl⟩) rfl (Nat.le_succ _) (fun g450 g451 => ?_)
        show fx_W _ _ _ _ _ _ (fx_wI X35 131 49 ((X35.1 131 (p1).toInt.toNat) * (X35.1 131 (x2).toInt.toNat))) _
        refine fx_qX (fun X46 eX46 => ?_)
        show fx_W _ _ _ 85 lv32 [] _ _
        refine fx_n (pc' := 86) (lv' := lv32) (st' := [.int (Int32.ofInt 0)]) aj_d276 rfl (Nat.le_succ _) (fun _ => rfl) ?_
        refine fx_s0 (j := 5) aj_d276 rfl (Nat.le_succ _) (by decide) (fun _ => rfl) ?_
        obtain ⟨lv47, elv47⟩ : ∃ l, l = aj_set1 lv32 5 (.int (Int32.ofInt 0)) := ⟨_, rfl⟩
        rw [← elv47]
        have hlv47_0 : aj_lv lv47 0 = some (.ref 117) := fx_e1 elv47 hlv32_0 (by decide) (Or.inl (by decide))
        have hlv47_1 : aj_lv lv47 1 = some (.int p1) := fx_e1 elv47 hlv32_1 (by decide) (Or.inl (by decide))
        have hlv47_3 : aj_lv lv47 3 = some (.int x2) := fx_e1 elv47 hlv32_3 (by decide) (Or.inl (by decide))
        have hlv47_4 : aj_lv lv47 4 = some (.int x31) := fx_e1 elv47 hlv32_4 (by decide) (Or.inr rfl)
        have hlv47_5 : aj_lv lv47 5 = some (.int (Int32.ofInt 0)) := by rw [elv47]; exact ak_set1_eq _ _ _
        show fx_W _ _ _ 88 lv47 [] _ _
        exact ((gxL_276 p1 p2 N).1) lv47 (x2) (x31) ((Int32.ofInt 0)) X46  hlv47_0 hlv47_1 hlv47_3 hlv47_4 hlv47_5
    · skip
      refine fx_qi (c := 30 < (((X.1 131 (p1).toInt.toNat) * (X.1 131 (x2).toInt.toNat))).toInt) (fx_f_le q28) ?_
      show fx_W _ _ _ 29 lv3 [] _ _
      refine fx_i2 aj_d276 rfl (Nat.le_succ _) (fun _ => rfl) hlv3_0 ?_
      refine fx_n (pc' := 32) (lv' := lv3) (st' := [.int ((Int8.ofInt 6).toInt32), .ref 117]) aj_d276 rfl (Nat.le_succ _) (fun _ => rfl) ?_
      refine fx_i0 aj_d276 rfl (Nat.le_succ _) (fun _ => rfl) hlv3_2 ?_
      refine fx_cv aj_d276 rfl (Nat.le_succ _) rfl [_, _] rfl rfl (gx_215_ok ((Int8.ofInt 6).toInt32) p2) ?_
      rintro _ X48 ⟨w49, rfl, hR48⟩ hok48 hle48
      refine fx_qc hR48 ?_
      show fx_W _ _ _ 36 lv3 [.int w49] _ _
      exact fx_ri aj_d276 rfl ⟨_, rfl, 0, rfl, rfl⟩
def gxT_275_34 (p1 : Int32) (p2 : Int32) (P : Nat → List Int32 → List Int64 → List Nat → fx_X → Int32 → fx_X → Prop) (y3 : Int32) (y4 : Int32) (X : fx_X) (v : Int32) (X' : fx_X) : Prop :=
  (if (y3).toInt < 0 then ((if 6 < (y3).toInt then (∃ (w26 : Unit) (X25 : fx_X), gx_218 (Int32.ofInt 5) p2 X w26 X25 ∧ (0 ≤ (p1).toInt ∧ (p1).toInt < ((50 : Nat) : Int)) ∧ ∃ X31 : fx_X, X31 = (fx_wI X25 132 (p1).toInt.toNat (Int32.ofInt (-1))) ∧ v = (Int32.ofInt 1) ∧ X' = X31) else ((if (y3).toInt < 0 then ((0 ≤ (p1).toInt ∧ (p1).toInt < ((50 : Nat) : Int)) ∧ ∃ X24 : fx_X, X24 = (fx_wI X 132 (p1).toInt.toNat (Int32.ofInt (-1))) ∧ v = (Int32.ofInt 1) ∧ X' = X24) else (∃ (w21 : Int32) (X20 : fx_X), gx_276 p1 p2 X w21 X20 ∧ v = w21 ∧ X' = X20))))) else ((0 ≤ ((p1 + (Int32.ofInt 1))).toInt ∧ ((p1 + (Int32.ofInt 1))).toInt < ((50 : Nat) : Int)) ∧ (if (y4).toInt < ((X.1 132 ((p1 + (Int32.ofInt 1))).toInt.toNat)).toInt then ((0 ≤ ((((p1 + (Int32.ofInt 1)) * ((Int8.ofInt 8).toInt32)) + y4)).toInt ∧ ((((p1 + (Int32.ofInt 1)) * ((Int8.ofInt 8).toInt32)) + y4)).toInt < ((400 : Nat) : Int)) ∧ ∃ (w52 : Int32) (X51 : fx_X), gx_233 p1 (X.2.1 133 ((((p1 + (Int32.ofInt 1)) * ((Int8.ofInt 8).toInt32)) + y4)).toInt.toNat) X w52 X51 ∧ (if (w52).toInt < 0 then (∃ x56 : Int32, x56 = y3 + Int32.ofInt 1 ∧ ∃ x58 : Int32, x58 = y4 + Int32.ofInt 1 ∧ P 34 [x56, x58] [] [] X51 v X') else (∃ x54 : Int32, x54 = y4 + Int32.ofInt 1 ∧ P 34 [y3, x54] [] [] X51 v X'))) else ((if 6 < (y3).toInt then (∃ (w43 : Unit) (X42 : fx_X), gx_218 (Int32.ofInt 5) p2 X w43 X42 ∧ (0 ≤ (p1).toInt ∧ (p1).toInt < ((50 : Nat) : Int)) ∧ ∃ X48 : fx_X, X48 = (fx_wI X42 132 (p1).toInt.toNat (Int32.ofInt (-1))) ∧ v = (Int32.ofInt 1) ∧ X' = X48) else ((if (y3).toInt < 0 then ((0 ≤ (p1).toInt ∧ (p1).toInt < ((50 : Nat) : Int)) ∧ ∃ X41 : fx_X, X41 = (fx_wI X 132 (p1).toInt.toNat (Int32.ofInt (-1))) ∧ v = (Int32.ofInt 1) ∧ X' = X41) else (∃ (w38 : Int32) (X37 : fx_X), gx_276 p1 p2 X w38 X37 ∧ v = w38 ∧ X' = X37))))))))
def gxE_275 (p1 : Int32) (p2 : Int32) (P : Nat → List Int32 → List Int64 → List Nat → fx_X → Int32 → fx_X → Prop) (X : fx_X) (v : Int32) (X' : fx_X) : Prop :=
  (0 ≤ (p1).toInt ∧ (p1).toInt < ((50 : Nat) : Int)) ∧ (if ((X.1 132 (p1).toInt.toNat)).toInt < 0 then (P 34 [(Int32.ofInt (-1)), (Int32.ofInt 0)] [] [] X v X') else ((0 ≤ ((p1 + (Int32.ofInt 1))).toInt ∧ ((p1 + (Int32.ofInt 1))).toInt < ((50 : Nat) : Int)) ∧ (if ((X.1 132 ((p1 + (Int32.ofInt 1))).toInt.toNat)).toInt < 0 then (P 34 [(Int32.ofInt (-1)), (Int32.ofInt 0)] [] [] X v X') else ((0 ≤ (p1).toInt ∧ (p1).toInt < ((50 : Nat) : Int)) ∧ ∃ x12 : Int32, x12 = (X.1 132 (p1).toInt.toNat) ∧ P 34 [x12, (Int32.ofInt 0)] [] [] X v X'))))
noncomputable def gxF_275 (p1 : Int32) (p2 : Int32) (n : Nat) : Nat → List Int32 → List Int64 → List Nat → fx_X → Int32 → fx_X → Prop := Nat.rec (motive := fun _ => Nat → List Int32 → List Int64 → List Nat → fx_X → Int32 → fx_X → Prop) (fun _ _ _ _ _ _ _ => False) (fun _ P l is ls rs X v X' => (l = 34 ∧ ∃ (y3 : Int32) (y4 : Int32), is = [y3, y4] ∧ ls = [] ∧ rs = [] ∧ gxT_275_34 p1 p2 P y3 y4 X v X')) n
theorem gxI_275_34 {p1 : Int32} {p2 : Int32} {n : Nat} {y3 : Int32} {y4 : Int32} {X : fx_X} {v : Int32} {X' : fx_X} (h : gxT_275_34 p1 p2 (gxF_275 p1 p2 n) y3 y4 X v X') : gxF_275 p1 p2 (n + 1) 34 [y3, y4] [] [] X v X' := ⟨rfl, y3, y4, rfl, rfl, rfl, h⟩
theorem gxO_275_34 {p1 : Int32} {p2 : Int32} {n : Nat} {y3 : Int32} {y4 : Int32} {X : fx_X} {v : Int32} {X' : fx_X} (h : gxF_275 p1 p2 (n + 1) 34 [y3, y4] [] [] X v X') : gxT_275_34 p1 p2 (gxF_275 p1 p2 n) y3 y4 X v X' := by
  rcases h with ⟨-, _, _, e1, e2, e3, h⟩
  · cases e1; cases e2; cases e3; exact h
def gx_275 (p1 : Int32) (p2 : Int32) (X : fx_X) (v : Int32) (X' : fx_X) : Prop := ∃ n : Nat, gxE_275 p1 p2 (gxF_275 p1 p2 n) X v X'
theorem gxL_275 {tb : aj_T} (p1 : Int32) (p2 : Int32) : ∀ N : Nat, (∀ (lv : aj_V) (y3 : Int32) (y4 : Int32) (X : fx_X), aj_lv lv 0 = some (.ref 117) → aj_lv lv 1 = some (.int p1) → aj_lv lv 2 = some (.int p2) → aj_lv lv 3 = some (.int y3) → aj_lv lv 4 = some (.int y4) → fx_W tb aj_m275 N 34 lv [] X (fx_Q fx_qI (fun v X' => ∃ n : Nat, gxF_275 p1 p2 n 34 [y3, y4] [] [] X v X'))) := by
  intro N
  induction N with
  | zero => exact (by intros; exact fx_z)
  | succ N ih =>
    skip
    · intro lv y3 y4 X hlv_0 hlv_1 hlv_2 hlv_3 hlv_4
      refine fx_mono (Q := fx_Q fx_qI (fun v X' => ∃ n : Nat, gxT_275_34 p1 p2 (gxF_275 p1 p2 n) y3 y4 X v X')) (fun r X' ⟨v, e, n, z⟩ => ⟨v, e, n + 1, gxI_275_34 z⟩) ?_
      unfold gxT_275_34
      refine fx_i0 aj_d275 rfl (Nat.le_refl _) (fun _ => rfl) hlv_3 ?_
      refine fx_b0 (tgt := 82) aj_d275 rfl (Nat.le_succ _) rfl (fun q17 => ?_) (fun q17 => ?_)
      · skip
        refine fx_qi (c := (y3).toInt < 0) (fx_t_lt q17) ?_
        show fx_W _ _ _ 82 lv [] _ _
        refine fx_i0 aj_d275 rfl (Nat.le_succ _) (fun _ => rfl) hlv_3 ?_
        refine fx_n (pc' := 85) (lv' := lv) (st' := [.int ((Int8.ofInt 6).toInt32), .int y3]) aj_d275 rfl (Nat.le_succ _) (fun _ => rfl) ?_
        refine fx_b (tgt := 96) aj_d275 rfl (Nat.le_succ _) rfl (fun q18 => ?_) (fun q18 => ?_)
        · skip
          refine fx_qe (c := 6 < (y3).toInt) (fx_t_le q18) ?_
          show fx_W _ _ _ 96 lv [] _ _
          refine fx_i0 aj_d275 rfl (Nat.le_succ _) (fun _ => rfl) hlv_3 ?_
          refine fx_b0 (tgt := 109) aj_d275 rfl (Nat.le_succ _) rfl (fun q19 => ?_) (fun q19 => ?_)
          · skip
            refine fx_qe (c := (y3).toInt < 0) (fx_t_ge q19) ?_
            show fx_W _ _ _ 109 lv [] _ _
            refine fx_i2 aj_d275 rfl (Nat.le_succ _) (fun _ => rfl) hlv_0 ?_
            refine fx_i0 aj_d275 rfl (Nat.le_succ _) (fun _ => rfl) hlv_1 ?_
            refine fx_i0 aj_d275 rfl (Nat.le_succ _) (fun _ => rfl) hlv_2 ?_
            refine fx_cv aj_d275 rfl (Nat.le_succ _) rfl [_, _] rfl rfl (gx_276_ok p1 p2) ?_
            rintro _ X20 ⟨w21, rfl, hR20⟩ hok20 hle20
            refine fx_qc hR20 ?_
            show fx_W _ _ _ 115 lv [.int w21] _ _
            exact fx_ri aj_d275 rfl ⟨_, rfl, 0, rfl, rfl⟩
          · skip
            refine fx_qi (c := (y3).toInt < 0) (fx_f_ge q19) ?_
            show fx_W _ _ _ 100 lv [] _ _
            refine fx_i2 aj_d275 rfl (Nat.le_succ _) (fun _ => rfl) hlv_0 ?_
            refine fx_gF aj_d275 rfl (Nat.le_succ _) rfl rfl fx_in_11_16 (t := 132) rfl (fun hA22 => ?_)
            refine fx_i0 aj_d275 rfl (Nat.le_succ _) (fun _ => rfl) hlv_1 ?_
            refine fx_n (pc' := 106) (lv' := lv) (st' := [.int (Int32.ofInt (-1)), .int p1, .ref 132]) aj_d275 rfl (Nat.le_succ _) (fun _ => rfl) ?_
            refine fx_st aj_d275 (Or.inl ⟨rfl, rfl⟩) rfl (Nat.le_succ _) (fun g230 g231 => ?_)
            show fx_W _ _ _ _ _ _ (fx_wI X 132 (p1).toInt.toNat (Int32.ofInt (-1))) _
            refine fx_qa (c := 0 ≤ (p1).toInt ∧ (p1).toInt < ((50 : Nat) : Int)) ⟨g230, fx_lnk g231 hA22⟩ ?_
            refine fx_qX (fun X24 eX24 => ?_)
            show fx_W _ _ _ 107 lv [] _ _
            refine fx_n (pc' := 108) (lv' := lv) (st' := [.int (Int32.ofInt 1)]) aj_d275 rfl (Nat.le_succ _) (fun _ => rfl) ?_
            exact fx_ri aj_d275 rfl ⟨_, rfl, 0, rfl, rfl⟩
        · skip
          refine fx_qi (c := 6 < (y3).toInt) (fx_f_le q18) ?_
          show fx_W _ _ _ 88 lv [] _ _
          refine fx_i2 aj_d275 rfl (Nat.le_succ _) (fun _ => rfl) hlv_0 ?_
          refine fx_n (pc' := 90) (lv' := lv) (st' := [.int (Int32.ofInt 5), .ref 117]) aj_d275 rfl (Nat.le_succ _) (fun _ => rfl) ?_
          refine fx_i0 aj_d275 rfl (Nat.le_succ _) (fun _ => rfl) hlv_2 ?_
          refine fx_cv aj_d275 rfl (Nat.le_succ _) rfl [_, _] rfl rfl (gx_218_ok (Int32.ofInt 5) p2) ?_
          rintro _ X25 ⟨w26, rfl, hR25⟩ hok25 hle25
          refine fx_qc hR25 ?_
          show fx_W _ _ _ 94 lv [] _ _
          refine fx_n (pc' := 95) (lv' := lv) (st' := [.int (Int32.ofInt (-1))]) aj_d275 rfl (Nat.le_succ _) (fun _ => rfl) ?_
          refine fx_s0 (j := 3) aj_d275 rfl (Nat.le_succ _) (by decide) (fun _ => rfl) ?_
          obtain ⟨lv27, elv27⟩ : ∃ l, l = aj_set1 lv 3 (.int (Int32.ofInt (-1))) := ⟨_, rfl⟩
          rw [← elv27]
          have hlv27_0 : aj_lv lv27 0 = some (.ref 117) := fx_e1 elv27 hlv_0 (by decide) (Or.inl (by decide))
          have hlv27_1 : aj_lv lv27 1 = some (.int p1) := fx_e1 elv27 hlv_1 (by decide) (Or.inl (by decide))
          have hlv27_2 : aj_lv lv27 2 = some (.int p2) := fx_e1 elv27 hlv_2 (by decide) (Or.inr rfl)
          have hlv27_3 : aj_lv lv27 3 = some (.int (Int32.ofInt (-1))) := by rw [elv27]; exact ak_set1_eq _ _ _
          show fx_W _ _ _ 96 lv27 [] _ _
          refine fx_i0 aj_d275 rfl (Nat.le_succ _) (fun _ => rfl) hlv27_3 ?_
          refine fx_b0 (tgt := 109) aj_d275 rfl (Nat.le_succ _) rfl (fun q28 => ?_) (fun q28 => ?_)
          · exact absurd q28 (by decide)
          · skip
            show fx_W _ _ _ 100 lv27 [] _ _
            refine fx_i2 aj_d275 rfl (Nat.le_succ _) (fun _ => rfl) hlv27_0 ?_
            refine fx_gF aj_d275 rfl (Nat.le_succ _) rfl rfl fx_in_11_16 (t := 132) rfl (fun hA29 => ?_)
            refine fx_i0 aj_d275 rfl (Nat.le_succ _) (fun _ => rfl) hlv27_1 ?_
            refine fx_n (pc' := 106) (lv' := lv27) (st' := [.int (Int32.ofInt (-1)), .int p1, .ref 132]) aj_d275 rfl (Nat.le_succ _) (fun _ => rfl) ?_
            refine fx_st aj_d275 (Or.inl ⟨rfl, rfl⟩) rfl (Nat.le_succ _) (fun g300 g301 => ?_)
            show fx_W _ _ _ _ _ _ (fx_wI X25 132 (p1).toInt.toNat (Int32.ofInt (-1))) _
            refine fx_qa (c := 0 ≤ (p1).toInt ∧ (p1).toInt < ((50 : Nat) : Int)) ⟨g300, fx_lnk g301 hA29⟩ ?_
            refine fx_qX (fun X31 eX31 => ?_)
            show fx_W _ _ _ 107 lv27 [] _ _
            refine fx_n (pc' := 108) (lv' := lv27) (st' := [.int (Int32.ofInt 1)]) aj_d275 rfl (Nat.le_succ _) (fun _ => rfl) ?_
            exact fx_ri aj_d275 rfl ⟨_, rfl, 0, rfl, rfl⟩
      · skip
        refine fx_qe (c := (y3).toInt < 0) (fx_f_lt q17) ?_
        show fx_W _ _ _ 38 lv [] _ _
        refine fx_i0 aj_d275 rfl (Nat.le_succ _) (fun _ => rfl) hlv_4 ?_
        refine fx_i2 aj_d275 rfl (Nat.le_succ _) (fun _ => rfl) hlv_0 ?_
        refine fx_gF aj_d275 rfl (Nat.le_succ _) rfl rfl fx_in_11_16 (t := 132) rfl (fun hA32 => ?_)
        refine fx_i0 aj_d275 rfl (Nat.le_succ _) (fun _ => rfl) hlv_1 ?_
        refine fx_n (pc' := 46) (lv' := lv) (st' := [.int (Int32.ofInt 1), .int p1, .ref 132, .int y4]) aj_d275 rfl (Nat.le_succ _) (fun _ => rfl) ?_
        refine fx_n (pc' := 47) (lv' := lv) (st' := [.int (p1 + (Int32.ofInt 1)), .ref 132, .int y4]) aj_d275 rfl (Nat.le_succ _) (fun _ => rfl) ?_
        refine fx_ld aj_d275 (Or.inl rfl) rfl (Nat.le_succ _) (fun g330 g331 => ?_)
        show fx_W _ _ _ 48 lv [.int (X.1 132 ((p1 + (Int32.ofInt 1))).toInt.toNat), .int y4] _ _
        refine fx_qa (c := 0 ≤ ((p1 + (Int32.ofInt 1))).toInt ∧ ((p1 + (Int32.ofInt 1))).toInt < ((50 : Nat) : Int)) ⟨g330, fx_lnk g331 hA32⟩ ?_
        refine fx_b (tgt := 82) aj_d275 rfl (Nat.le_succ _) rfl (fun q34 => ?_) (fun q34 => ?_)
        · skip
          refine fx_qe (c := (y4).toInt < ((X.1 132 ((p1 + (Int32.ofInt 1))).toInt.toNat)).toInt) (fx_t_ge q34) ?_
          show fx_W _ _ _ 82 lv [] _ _
          refine fx_i0 aj_d275 rfl (Nat.le_succ _) (fun _ => rfl) hlv_3 ?_
          refine fx_n (pc' := 85) (lv' := lv) (st' := [.int ((Int8.ofInt 6).toInt32), .int y3]) aj_d275 rfl (Nat.le_succ _) (fun _ => rfl) ?_
          refine fx_b (tgt := 96) aj_d275 rfl (Nat.le_succ _) rfl (fun q35 => ?_) (fun q35 => ?_)
          · skip
            refine fx_qe (c := 6 < (y3).toInt) (fx_t_le q35) ?_
            show fx_W _ _ _ 96 lv [] _ _
            refine fx_i0 aj_d275 rfl (Nat.le_succ _) (fun _ => rfl) hlv_3 ?_
            refine fx_b0 (tgt := 109) aj_d275 rfl (Nat.le_succ _) rfl (fun q36 => ?_) (fun q36 => ?_)
            · skip
              refine fx_qe (c := (y3).toInt < 0) (fx_t_ge q36) ?_
              show fx_W _ _ _ 109 lv [] _ _
              refine fx_i2 aj_d275 rfl (Nat.le_succ _) (fun _ => rfl) hlv_0 ?_
              refine fx_i0 aj_d275 rfl (Nat.le_succ _) (fun _ => rfl) hlv_1 ?_
              refine fx_i0 aj_d275 rfl (Nat.le_succ _) (fun _ => rfl) hlv_2 ?_
              refine fx_cv aj_d275 rfl (Nat.le_succ _) rfl [_, _] rfl rfl (gx_276_ok p1 p2) ?_
              rintro _ X37 ⟨w38, rfl, hR37⟩ hok37 hle37
              refine fx_qc hR37 ?_
              show fx_W _ _ _ 115 lv [.int w38] _ _
              exact fx_ri aj_d275 rfl ⟨_, rfl, 0, rfl, rfl⟩
            · skip
              refine fx_qi (c := (y3).toInt < 0) (fx_f_ge q36) ?_
              show fx_W _ _ _ 100 lv [] _ _
              refine fx_i2 aj_d275 rfl (Nat.le_succ _) (fun _ => rfl) hlv_0 ?_
              refine fx_gF aj_d275 rfl (Nat.le_succ _) rfl rfl fx_in_11_16 (t := 132) rfl (fun hA39 => ?_)
              refine fx_i0 aj_d275 rfl (Nat.le_succ _) (fun _ => rfl) hlv_1 ?_
              refine fx_n (pc' := 106) (lv' := lv) (st' := [.int (Int32.ofInt (-1)), .int p1, .ref 132]) aj_d275 rfl (Nat.le_succ _) (fun _ => rfl) ?_
              refine fx_st aj_d275 (Or.inl ⟨rfl, rfl⟩) rfl (Nat.le_succ _) (fun g400 g401 => ?_)
              show fx_W _ _ _ _ _ _ (fx_wI X 132 (p1).toInt.toNat (Int32.ofInt (-1))) _
              refine fx_qa (c := 0 ≤ (p1).toInt ∧ (p1).toInt < ((50 : Nat) : Int)) ⟨g400, fx_lnk g401 hA39⟩ ?_
              refine fx_qX (fun X41 eX41 => ?_)
              show fx_W _ _ _ 107 lv [] _ _
              refine fx_n (pc' := 108) (lv' := lv) (st' := [.int (Int32.ofInt 1)]) aj_d275 rfl (Nat.le_succ _) (fun _ => rfl) ?_
              exact fx_ri aj_d275 rfl ⟨_, rfl, 0, rfl, rfl⟩
          · skip
            refine fx_qi (c := 6 < (y3).toInt) (fx_f_le q35) ?_
            show fx_W _ _ _ 88 lv [] _ _
            refine fx_i2 aj_d275 rfl (Nat.le_succ _) (fun _ => rfl) hlv_0 ?_
            refine fx_n (pc' := 90) (lv' := lv) (st' := [.int (Int32.ofInt 5), .ref 117]) aj_d275 rfl (Nat.le_succ _) (fun _ => rfl) ?_
            refine fx_i0 aj_d275 rfl (Nat.le_succ _) (fun _ => rfl) hlv_2 ?_
            refine fx_cv aj_d275 rfl (Nat.le_succ _) rfl [_, _] rfl rfl (gx_218_ok (Int32.ofInt 5) p2) ?_
            rintro _ X42 ⟨w43, rfl, hR42⟩ hok42 hle42
            refine fx_qc hR42 ?_
            show fx_W _ _ _ 94 lv [] _ _
            refine fx_n (pc' := 95) (lv' := lv) (st' := [.int (Int32.ofInt (-1))]) aj_d275 rfl (Nat.le_succ _) (fun _ => rfl) ?_
            refine fx_s0 (j := 3) aj_d275 rfl (Nat.le_succ _) (by decide) (fun _ => rfl) ?_
            obtain ⟨lv44, elv44⟩ : ∃ l, l = aj_set1 lv 3 (.int (Int32.ofInt (-1))) := ⟨_, rfl⟩
            rw [← elv44]
            have hlv44_0 : aj_lv lv44 0 = some (.ref 117) := fx_e1 elv44 hlv_0 (by decide) (Or.inl (by decide))
            have hlv44_1 : aj_lv lv44 1 = some (.int p1) := fx_e1 elv44 hlv_1 (by decide) (Or.inl (by decide))
            have hlv44_2 : aj_lv lv44 2 = some (.int p2) := fx_e1 elv44 hlv_2 (by decide) (Or.inr rfl)
            have hlv44_3 : aj_lv lv44 3 = some (.int (Int32.ofInt (-1))) := by rw [elv44]; exact ak_set1_eq _ _ _
            show fx_W _ _ _ 96 lv44 [] _ _
            refine fx_i0 aj_d275 rfl (Nat.le_succ _) (fun _ => rfl) hlv44_3 ?_
            refine fx_b0 (tgt := 109) aj_d275 rfl (Nat.le_succ _) rfl (fun q45 => ?_) (fun q45 => ?_)
            · exact absurd q45 (by decide)
            · skip
              show fx_W _ _ _ 100 lv44 [] _ _
              refine fx_i2 aj_d275 rfl (Nat.le_succ _) (fun _ => rfl) hlv44_0 ?_
              refine fx_gF aj_d275 rfl (Nat.le_succ _) rfl rfl fx_in_11_16 (t := 132) rfl (fun hA46 => ?_)
              refine fx_i0 aj_d275 rfl (Nat.le_succ _) (fun _ => rfl) hlv44_1 ?_
              refine fx_n (pc' := 106) (lv' := lv44) (st' := [.int (Int32.ofInt (-1)), .int p1, .ref 132]) aj_d275 rfl (Nat.le_succ _) (fun _ => rfl) ?_
              refine fx_st aj_d275 (Or.inl ⟨rfl, rfl⟩) rfl (Nat.le_succ _) (fun g470 g471 => ?_)
              show fx_W _ _ _ _ _ _ (fx_wI X42 132 (p1).toInt.toNat (Int32.ofInt (-1))) _
              refine fx_qa (c := 0 ≤ (p1).toInt ∧ (p1).toInt < ((50 : Nat) : Int)) ⟨g470, fx_lnk g471 hA46⟩ ?_
              refine fx_qX (fun X48 eX48 => ?_)
              show fx_W _ _ _ 107 lv44 [] _ _
              refine fx_n (pc' := 108) (lv' := lv44) (st' := [.int (Int32.ofInt 1)]) aj_d275 rfl (Nat.le_succ _) (fun _ => rfl) ?_
              exact fx_ri aj_d275 rfl ⟨_, rfl, 0, rfl, rfl⟩
        · skip
          refine fx_qi (c := (y4).toInt < ((X.1 132 ((p1 + (Int32.ofInt 1))).toInt.toNat)).toInt) (fx_f_ge q34) ?_
          show fx_W _ _ _ 51 lv [] _ _
          refine fx_i2 aj_d275 rfl (Nat.le_succ _) (fun _ => rfl) hlv_0 ?_
          refine fx_i0 aj_d275 rfl (Nat.le_succ _) (fun _ => rfl) hlv_1 ?_
          refine fx_i2 aj_d275 rfl (Nat.le_succ _) (fun _ => rfl) hlv_0 ?_
          refine fx_gF aj_d275 rfl (Nat.le_succ _) rfl rfl fx_in_11_17 (t := 133) rfl (fun hA49 => ?_)
          refine fx_i0 aj_d275 rfl (Nat.le_succ _) (fun _ => rfl) hlv_1 ?_
          refine fx_n (pc' := 59) (lv' := lv) (st' := [.int (Int32.ofInt 1), .int p1, .ref 133, .int p1, .ref 117]) aj_d275 rfl (Nat.le_succ _) (fun _ => rfl) ?_
          refine fx_n (pc' := 60) (lv' := lv) (st' := [.int (p1 + (Int32.ofInt 1)), .ref 133, .int p1, .ref 117]) aj_d275 rfl (Nat.le_succ _) (fun _ => rfl) ?_
          refine fx_n (pc' := 62) (lv' := lv) (st' := [.int ((Int8.ofInt 8).toInt32), .int (p1 + (Int32.ofInt 1)), .ref 133, .int p1, .ref 117]) aj_d275 rfl (Nat.le_succ _) (fun _ => rfl) ?_
          refine fx_n (pc' := 63) (lv' := lv) (st' := [.int ((p1 + (Int32.ofInt 1)) * ((Int8.ofInt 8).toInt32)), .ref 133, .int p1, .ref 117]) aj_d275 rfl (Nat.le_succ _) (fun _ => rfl) ?_
          refine fx_i0 aj_d275 rfl (Nat.le_succ _) (fun _ => rfl) hlv_4 ?_
          refine fx_n (pc' := 66) (lv' := lv) (st' := [.int (((p1 + (Int32.ofInt 1)) * ((Int8.ofInt 8).toInt32)) + y4), .ref 133, .int p1, .ref 117]) aj_d275 rfl (Nat.le_succ _) (fun _ => rfl) ?_
          refine fx_ldL aj_d275 rfl (Nat.le_succ _) (fun g500 g501 => ?_)
          show fx_W _ _ _ 67 lv [.long (X.2.1 133 ((((p1 + (Int32.ofInt 1)) * ((Int8.ofInt 8).toInt32)) + y4)).toInt.toNat), .int p1, .ref 117] _ _
          refine fx_qa (c := 0 ≤ ((((p1 + (Int32.ofInt 1)) * ((Int8.ofInt 8).toInt32)) + y4)).toInt ∧ ((((p1 + (Int32.ofInt 1)) * ((Int8.ofInt 8).toInt32)) + y4)).toInt < ((400 : Nat) : Int)) ⟨g500, fx_lnk g501 hA49⟩ ?_
          refine fx_cv aj_d275 rfl (Nat.le_succ _) rfl [_, _] rfl rfl (gx_233_ok p1 (X.2.1 133 ((((p1 + (Int32.ofInt 1)) * ((Int8.ofInt 8).toInt32)) + y4)).toInt.toNat)) ?_
          rintro _ X51 ⟨w52, rfl, hR51⟩ hok51 hle51
          refine fx_qc hR51 ?_
          show fx_W _ _ _ 70 lv [.int w52] _ _
          refine fx_b0 (tgt := 76) aj_d275 rfl (Nat.le_succ _) rfl (fun q53 => ?_) (fun q53 => ?_)
          · skip
            refine fx_qe (c := (w52).toInt < 0) (fx_t_ge q53) ?_
            show fx_W _ _ _ 76 lv [] _ _
            refine fx_incq aj_d275 rfl (Nat.le_succ _) hlv_4 (by decide) (fun x54 ex54 => ?_)
            obtain ⟨lv55, elv55⟩ : ∃ l, l = aj_set1 lv 4 (.int x54) := ⟨_, rfl⟩
            rw [← elv55]
            have hlv55_0 : aj_lv lv55 0 = some (.ref 117) := fx_e1 elv55 hlv_0 (by decide) (Or.inl (by decide))
            have hlv55_1 : aj_lv lv55 1 = some (.int p1) := fx_e1 elv55 hlv_1 (by decide) (Or.inl (by decide))
            have hlv55_2 : aj_lv lv55 2 = some (.int p2) := fx_e1 elv55 hlv_2 (by decide) (Or.inl (by decide))
            have hlv55_3 : aj_lv lv55 3 = some (.int y3) := fx_e1 elv55 hlv_3 (by decide) (Or.inr rfl)
            have hlv55_4 : aj_lv lv55 4 = some (.int x54) := by rw [elv55]; exact ak_set1_eq _ _ _
            show fx_W _ _ _ 79 lv55 [] _ _
            refine fx_n (pc' := 34) (lv' := lv55) (st' := []) aj_d275 rfl (Nat.le_succ _) (fun _ => rfl) ?_
            exact (ih) lv55 (y3) (x54) X51  hlv55_0 hlv55_1 hlv55_2 hlv55_3 hlv55_4
          · skip
            refine fx_qi (c := (w52).toInt < 0) (fx_f_ge q53) ?_
            show fx_W _ _ _ 73 lv [] _ _
            refine fx_incq aj_d275 rfl (Nat.le_succ _) hlv_3 (by decide) (fun x56 ex56 => ?_)
            obtain ⟨lv57, elv57⟩ : ∃ l, l = aj_set1 lv 3 (.int x56) := ⟨_, rfl⟩
            rw [← elv57]
            have hlv57_0 : aj_lv lv57 0 = some (.ref 117) := fx_e1 elv57 hlv_0 (by decide) (Or.inl (by decide))
            have hlv57_1 : aj_lv lv57 1 = some (.int p1) := fx_e1 elv57 hlv_1 (by decide) (Or.inl (by decide))
            have hlv57_2 : aj_lv lv57 2 = some (.int p2) := fx_e1 elv57 hlv_2 (by decide) (Or.inr rfl)
            have hlv57_4 : aj_lv lv57 4 = some (.int y4) := fx_e1 elv57 hlv_4 (by decide) (Or.inl (by decide))
            have hlv57_3 : aj_lv lv57 3 = some (.int x56) := by rw [elv57]; exact ak_set1_eq _ _ _
            show fx_W _ _ _ 76 lv57 [] _ _
            refine fx_incq aj_d275 rfl (Nat.le_succ _) hlv57_4 (by decide) (fun x58 ex58 => ?_)
            obtain ⟨lv59, elv59⟩ : ∃ l, l = aj_set1 lv57 4 (.int x58) := ⟨_, rfl⟩
            rw [← elv59]
            have hlv59_0 : aj_lv lv59 0 = some (.ref 117) := fx_e1 elv59 hlv57_0 (by decide) (Or.inl (by decide))
            have hlv59_1 : aj_lv lv59 1 = some (.int p1) := fx_e1 elv59 hlv57_1 (by decide) (Or.inl (by decide))
            have hlv59_2 : aj_lv lv59 2 = some (.int p2) := fx_e1 elv59 hlv57_2 (by decide) (Or.inl (by decide))
            have hlv59_3 : aj_lv lv59 3 = some (.int x56) := fx_e1 elv59 hlv57_3 (by decide) (Or.inr rfl)
            have hlv59_4 : aj_lv lv59 4 = some (.int x58) := by rw [elv59]; exact ak_set1_eq _ _ _
            show fx_W _ _ _ 79 lv59 [] _ _
            refine fx_n (pc' := 34) (lv' := lv59) (st' := []) aj_d275 rfl (Nat.le_succ _) (fun _ => rfl) ?_
            exact (ih) lv59 (x56) (x58) X51  hlv59_0 hlv59_1 hlv59_2 hlv59_3 hlv59_4
theorem gx_275_ok {tb : aj_T} (p1 : Int32) (p2 : Int32) {X : fx_X} : fx_K tb 275 [.ref 117, .int p1, .int p2] X (fx_Q fx_qI (fun v X' => gx_275 p1 p2 X v X')) := by
  refine fx_m aj_m275_at rfl (fun N => ?_)
  refine fx_mono (Q := fx_Q fx_qI (fun v X' => ∃ n : Nat, gxE_275 p1 p2 (gxF_275 p1 p2 n) X v X')) (fun r X' h => h) ?_
  unfold gxE_275
  show fx_W _ _ _ 0 [(0, .ref 117), (1, .int p1), (2, .int p2)] [] _ _
  obtain ⟨lv1, elv1⟩ : ∃ l : aj_V, l = [(0, .ref 117), (1, .int p1), (2, .int p2)] := ⟨_, rfl⟩
  rw [← elv1]
  have hlv1_0 : aj_lv lv1 0 = some (.ref 117) := by rw [elv1]; rfl
  have hlv1_1 : aj_lv lv1 1 = some (.int p1) := by rw [elv1]; rfl
  have hlv1_2 : aj_lv lv1 2 = some (.int p2) := by rw [elv1]; rfl
  refine fx_i2 aj_d275 rfl (Nat.le_succ _) (fun _ => rfl) hlv1_0 ?_
  refine fx_gF aj_d275 rfl (Nat.le_succ _) rfl rfl fx_in_11_16 (t := 132) rfl (fun hA2 => ?_)
  refine fx_i0 aj_d275 rfl (Nat.le_succ _) (fun _ => rfl) hlv1_1 ?_
  refine fx_ld aj_d275 (Or.inl rfl) rfl (Nat.le_succ _) (fun g30 g31 => ?_)
  show fx_W _ _ _ 6 lv1 [.int (X.1 132 (p1).toInt.toNat)] _ _
  refine fx_qa (c := 0 ≤ (p1).toInt ∧ (p1).toInt < ((50 : Nat) : Int)) ⟨g30, fx_lnk g31 hA2⟩ ?_
  refine fx_b0 (tgt := 20) aj_d275 rfl (Nat.le_succ _) rfl (fun q4 => ?_) (fun q4 => ?_)
  · skip
    refine fx_qi (c := ((X.1 132 (p1).toInt.toNat)).toInt < 0) (fx_t_lt q4) ?_
    show fx_W _ _ _ 20 lv1 [] _ _
    refine fx_n (pc' := 21) (lv' := lv1) (st' := [.int (Int32.ofInt (-1))]) aj_d275 rfl (Nat.le_succ _) (fun _ => rfl) ?_
    refine fx_n (pc' := 30) (lv' := lv1) (st' := [.int (Int32.ofInt (-1))]) aj_d275 rfl (Nat.le_succ _) (fun _ => rfl) ?_
    refine fx_s0 (j := 3) aj_d275 rfl (Nat.le_succ _) (by decide) (fun _ => rfl) ?_
    obtain ⟨lv5, elv5⟩ : ∃ l, l = aj_set1 lv1 3 (.int (Int32.ofInt (-1))) := ⟨_, rfl⟩
    rw [← elv5]
    have hlv5_0 : aj_lv lv5 0 = some (.ref 117) := fx_e1 elv5 hlv1_0 (by decide) (Or.inl (by decide))
    have hlv5_1 : aj_lv lv5 1 = some (.int p1) := fx_e1 elv5 hlv1_1 (by decide) (Or.inl (by decide))
    have hlv5_2 : aj_lv lv5 2 = some (.int p2) := fx_e1 elv5 hlv1_2 (by decide) (Or.inr rfl)
    have hlv5_3 : aj_lv lv5 3 = some (.int (Int32.ofInt (-1))) := by rw [elv5]; exact ak_set1_eq _ _ _
    show fx_W _ _ _ 31 lv5 [] _ _
    refine fx_n (pc' := 32) (lv' := lv5) (st' := [.int (Int32.ofInt 0)]) aj_d275 rfl (Nat.le_succ _) (fun _ => rfl) ?_
    refine fx_s0 (j := 4) aj_d275 rfl (Nat.le_succ _) (by decide) (fun _ => rfl) ?_
    obtain ⟨lv6, elv6⟩ : ∃ l, l = aj_set1 lv5 4 (.int (Int32.ofInt 0)) := ⟨_, rfl⟩
    rw [← elv6]
    have hlv6_0 : aj_lv lv6 0 = some (.ref 117) := fx_e1 elv6 hlv5_0 (by decide) (Or.inl (by decide))
    have hlv6_1 : aj_lv lv6 1 = some (.int p1) := fx_e1 elv6 hlv5_1 (by decide) (Or.inl (by decide))
    have hlv6_2 : aj_lv lv6 2 = some (.int p2) := fx_e1 elv6 hlv5_2 (by decide) (Or.inl (by decide))
    have hlv6_3 : aj_lv lv6 3 = some (.int (Int32.ofInt (-1))) := fx_e1 elv6 hlv5_3 (by decide) (Or.inr rfl)
    have hlv6_4 : aj_lv lv6 4 = some (.int (Int32.ofInt 0)) := by rw [elv6]; exact ak_set1_eq _ _ _
    show fx_W _ _ _ 34 lv6 [] _ _
    exact ((gxL_275 p1 p2 N)) lv6 ((Int32.ofInt (-1))) ((Int32.ofInt 0)) X  hlv6_0 hlv6_1 hlv6_2 hlv6_3 hlv6_4
  · skip
    refine fx_qe (c := ((X.1 132 (p1).toInt.toNat)).toInt < 0) (fx_f_lt q4) ?_
    show fx_W _ _ _ 9 lv1 [] _ _
    refine fx_i2 aj_d275 rfl (Nat.le_succ _) (fun _ => rfl) hlv1_0 ?_
    refine fx_gF aj_d275 rfl (Nat.le_succ _) rfl rfl fx_in_11_16 (t := 132) rfl (fun hA7 => ?_)
    refine fx_i0 aj_d275 rfl (Nat.le_succ _) (fun _ => rfl) hlv1_1 ?_
    refine fx_n (pc' := 15) (lv' := lv1) (st' := [.int (Int32.ofInt 1), .int p1, .ref 132]) aj_d275 rfl (Nat.le_succ _) (fun _ => rfl) ?_
    refine fx_n (pc' := 16) (lv' := lv1) (st' := [.int (p1 + (Int32.ofInt 1)), .ref 132]) aj_d275 rfl (Nat.le_succ _) (fun _ => rfl) ?_
    refine fx_ld aj_d275 (Or.inl rfl) rfl (Nat.le_succ _) (fun g80 g81 => ?_)
    show fx_W _ _ _ 17 lv1 [.int (X.1 132 ((p1 + (Int32.ofInt 1))).toInt.toNat)] _ _
    refine fx_qa (c := 0 ≤ ((p1 + (Int32.ofInt 1))).toInt ∧ ((p1 + (Int32.ofInt 1))).toInt < ((50 : Nat) : Int)) ⟨g80, fx_lnk g81 hA7⟩ ?_
    refine fx_b0 (tgt := 24) aj_d275 rfl (Nat.le_succ _) rfl (fun q9 => ?_) (fun q9 => ?_)
    · skip
      refine fx_qe (c := ((X.1 132 ((p1 + (Int32.ofInt 1))).toInt.toNat)).toInt < 0) (fx_t_ge q9) ?_
      show fx_W _ _ _ 24 lv1 [] _ _
      refine fx_i2 aj_d275 rfl (Nat.le_succ _) (fun _ => rfl) hlv1_0 ?_
      refine fx_gF aj_d275 rfl (Nat.le_succ _) rfl rfl fx_in_11_16 (t := 132) rfl (fun hA10 => ?_)
      refine fx_i0 aj_d275 rfl (Nat.le_succ _) (fun _ => rfl) hlv1_1 ?_
      refine fx_ld aj_d275 (Or.inl rfl) rfl (Nat.le_succ _) (fun g110 g111 => ?_)
      show fx_W _ _ _ 30 lv1 [.int (X.1 132 (p1).toInt.toNat)] _ _
      refine fx_qa (c := 0 ≤ (p1).toInt ∧ (p1).toInt < ((50 : Nat) : Int)) ⟨g110, fx_lnk g111 hA10⟩ ?_
      refine fx_qxI (fun x12 ex12 => ?_)
      refine fx_s0 (j := 3) aj_d275 rfl (Nat.le_succ _) (by decide) (fun _ => rfl) ?_
      obtain ⟨lv13, elv13⟩ : ∃ l, l = aj_set1 lv1 3 (.int x12) := ⟨_, rfl⟩
      rw [← elv13]
      have hlv13_0 : aj_lv lv13 0 = some (.ref 117) := fx_e1 elv13 hlv1_0 (by decide) (Or.inl (by decide))
      have hlv13_1 : aj_lv lv13 1 = some (.int p1) := fx_e1 elv13 hlv1_1 (by decide) (Or.inl (by decide))
      have hlv13_2 : aj_lv lv13 2 = some (.int p2) := fx_e1 elv13 hlv1_2 (by decide) (Or.inr rfl)
      have hlv13_3 : aj_lv lv13 3 = some (.int x12) := by rw [elv13]; exact ak_set1_eq _ _ _
      show fx_W _ _ _ 31 lv13 [] _ _
      refine fx_n (pc' := 32) (lv' := lv13) (st' := [.int (Int32.ofInt 0)]) aj_d275 rfl (Nat.le_succ _) (fun _ => rfl) ?_
      refine fx_s0 (j := 4) aj_d275 rfl (Nat.le_succ _) (by decide) (fun _ => rfl) ?_
      obtain ⟨lv14, elv14⟩ : ∃ l, l = aj_set1 lv13 4 (.int (Int32.ofInt 0)) := ⟨_, rfl⟩
      rw [← elv14]
      have hlv14_0 : aj_lv lv14 0 = some (.ref 117) := fx_e1 elv14 hlv13_0 (by decide) (Or.inl (by decide))
      have hlv14_1 : aj_lv lv14 1 = some (.int p1) := fx_e1 elv14 hlv13_1 (by decide) (Or.inl (by decide))
      have hlv14_2 : aj_lv lv14 2 = some (.int p2) := fx_e1 elv14 hlv13_2 (by decide) (Or.inl (by decide))
      have hlv14_3 : aj_lv lv14 3 = some (.int x12) := fx_e1 elv14 hlv13_3 (by decide) (Or.inr rfl)
      have hlv14_4 : aj_lv lv14 4 = some (.int (Int32.ofInt 0)) := by rw [elv14]; exact ak_set1_eq _ _ _
      show fx_W _ _ _ 34 lv14 [] _ _
      exact ((gxL_275 p1 p2 N)) lv14 (x12) ((Int32.ofInt 0)) X  hlv14_0 hlv14_1 hlv14_2 hlv14_3 hlv14_4
    · skip
      refine fx_qi (c := ((X.1 132 ((p1 + (Int32.ofInt 1))).toInt.toNat)).toInt < 0) (fx_f_ge q9) ?_
      show fx_W _ _ _ 20 lv1 [] _ _
      refine fx_n (pc' := 21) (lv' := lv1) (st' := [.int (Int32.ofInt (-1))]) aj_d275 rfl (Nat.le_succ _) (fun _ => rfl) ?_
      refine fx_n (pc' := 30) (lv' := lv1) (st' := [.int (Int32.ofInt (-1))]) aj_d275 rfl (Nat.le_succ _) (fun _ => rfl) ?_
      refine fx_s0 (j := 3) aj_d275 rfl (Nat.le_succ _) (by decide) (fun _ => rfl) ?_
      obtain ⟨lv15, elv15⟩ : ∃ l, l = aj_set1 lv1 3 (.int (Int32.ofInt (-1))) := ⟨_, rfl⟩
      rw [← elv15]
      have hlv15_0 : aj_lv lv15 0 = some (.ref 117) := fx_e1 elv15 hlv1_0 (by decide) (Or.inl (by decide))
      have hlv15_1 : aj_lv lv15 1 = some (.int p1) := fx_e1 elv15 hlv1_1 (by decide) (Or.inl (by decide))
      have hlv15_2 : aj_lv lv15 2 = some (.int p2) := fx_e1 elv15 hlv1_2 (by decide) (Or.inr rfl)
      have hlv15_3 : aj_lv lv15 3 = some (.int (Int32.ofInt (-1))) := by rw [elv15]; exact ak_set1_eq _ _ _
      show fx_W _ _ _ 31 lv15 [] _ _
      refine fx_n (pc' := 32) (lv' := lv15) (st' := [.int (Int32.ofInt 0)]) aj_d275 rfl (Nat.le_succ _) (fun _ => rfl) ?_
      refine fx_s0 (j := 4) aj_d275 rfl (Nat.le_succ _) (by decide) (fun _ => rfl) ?_
      obtain ⟨lv16, elv16⟩ : ∃ l, l = aj_set1 lv15 4 (.int (Int32.ofInt 0)) := ⟨_, rfl⟩
      rw [← elv16]
      have hlv16_0 : aj_lv lv16 0 = some (.ref 117) := fx_e1 elv16 hlv15_0 (by decide) (Or.inl (by decide))
      have hlv16_1 : aj_lv lv16 1 = some (.int p1) := fx_e1 elv16 hlv15_1 (by decide) (Or.inl (by decide))
      have hlv16_2 : aj_lv lv16 2 = some (.int p2) := fx_e1 elv16 hlv15_2 (by decide) (Or.inl (by decide))
      have hlv16_3 : aj_lv lv16 3 = some (.int (Int32.ofInt (-1))) := fx_e1 elv16 hlv15_3 (by decide) (Or.inr rfl)
      have hlv16_4 : aj_lv lv16 4 = some (.int (Int32.ofInt 0)) := by rw [elv16]; exact ak_set1_eq _ _ _
      show fx_W _ _ _ 34 lv16 [] _ _
      exact ((gxL_275 p1 p2 N)) lv16 ((Int32.ofInt (-1))) ((Int32.ofInt 0)) X  hlv16_0 hlv16_1 hlv16_2 hlv16_3 hlv16_4
def gx_227 (p0 : Nat) (p1 : Int32) (p2 : Int32) (X : fx_X) (v : Int32) (X' : fx_X) : Prop :=
  (0 ≤ ((p1 + (p2 >>> ((Int32.ofInt 5) &&& 31)))).toInt) ∧ (if ((((((X.1 p0 ((p1 + (p2 >>> ((Int32.ofInt 5) &&& 31)))).toInt.toNat)).toUInt32 >>> (((p2 &&& ((Int8.ofInt 31).toInt32))).toUInt32 &&& Int32.toUInt32 31)).toInt32) &&& (Int32.ofInt 1))).toInt = 1 then (v = (Int32.ofInt 1) ∧ X' = X) else (v = (Int32.ofInt 0) ∧ X' = X))
theorem gx_227_ok {tb : aj_T} (p0 : Nat) (p1 : Int32) (p2 : Int32) {X : fx_X} : fx_K tb 227 [.ref p0, .int p1, .int p2] X (fx_Q fx_qI (fun v X' => gx_227 p0 p1 p2 X v X')) := by
  refine fx_m aj_m227_at rfl (fun N => ?_)
  refine fx_mono (Q := fx_Q fx_qI (fun v X' => ∃ n : Nat, gx_227 p0 p1 p2 X v X')) (fun r X' ⟨v, e, _, z⟩ => ⟨v, e, z⟩) ?_
  unfold gx_227
  show fx_W _ _ _ 0 [(0, .ref p0), (1, .int p1), (2, .int p2)] [] _ _
  obtain ⟨lv1, elv1⟩ : ∃ l : aj_V, l = [(0, .ref p0), (1, .int p1), (2, .int p2)] := ⟨_, rfl⟩
  rw [← elv1]
  have hlv1_0 : aj_lv lv1 0 = some (.ref p0) := by rw [elv1]; rfl
  have hlv1_1 : aj_lv lv1 1 = some (.int p1) := by rw [elv1]; rfl
  have hlv1_2 : aj_lv lv1 2 = some (.int p2) := by rw [elv1]; rfl
  refine fx_i2 aj_d227 rfl (Nat.le_succ _) (fun _ => rfl) hlv1_0 ?_
  refine fx_i0 aj_d227 rfl (Nat.le_succ _) (fun _ => rfl) hlv1_1 ?_
  refine fx_i0 aj_d227 rfl (Nat.le_succ _) (fun _ => rfl) hlv1_2 ?_
  refine fx_n (pc' := 4) (lv' := lv1) (st' := [.int (Int32.ofInt 5), .int p2, .int p1, .ref p0]) aj_d227 rfl (Nat.le_succ _) (fun _ => rfl) ?_
  refine fx_n (pc' := 5) (lv' := lv1) (st' := [.int (p2 >>> ((Int32.ofInt 5) &&& 31)), .int p1, .ref p0]) aj_d227 rfl (Nat.le_succ _) (fun _ => rfl) ?_
  refine fx_n (pc' := 6) (lv' := lv1) (st' := [.int (p1 + (p2 >>> ((Int32.ofInt 5) &&& 31))), .ref p0]) aj_d227 rfl (Nat.le_succ _) (fun _ => rfl) ?_
  refine fx_ld aj_d227 (Or.inl rfl) rfl (Nat.le_succ _) (fun g20 g21 => ?_)
  show fx_W _ _ _ 7 lv1 [.int (X.1 p0 ((p1 + (p2 >>> ((Int32.ofInt 5) &&& 31)))).toInt.toNat)] _ _
  refine fx_qa (c := 0 ≤ ((p1 + (p2 >>> ((Int32.ofInt 5) &&& 31)))).toInt) g20 ?_
  refine fx_i0 aj_d227 rfl (Nat.le_succ _) (fun _ => rfl) hlv1_2 ?_
  refine fx_n (pc' := 10) (lv' := lv1) (st' := [.int ((Int8.ofInt 31).toInt32), .int p2, .int (X.1 p0 ((p1 + (p2 >>> ((Int32.ofInt 5) &&& 31)))).toInt.toNat)]) aj_d227 rfl (Nat.le_succ _) (fun _ => rfl) ?_
  refine fx_n (pc' := 11) (lv' := lv1) (st' := [.int (p2 &&& ((Int8.ofInt 31).toInt32)), .int (X.1 p0 ((p1 + (p2 >>> ((Int32.ofInt 5) &&& 31)))).toInt.toNat)]) aj_d227 rfl (Nat.le_succ _) (fun _ => rfl) ?_
  refine fx_n (pc' := 12) (lv' := lv1) (st' := [.int ((((X.1 p0 ((p1 + (p2 >>> ((Int32.ofInt 5) &&& 31)))).toInt.toNat)).toUInt32 >>> (((p2 &&& ((Int8.ofInt 31).toInt32))).toUInt32 &&& Int32.toUInt32 31)).toInt32)]) aj_d227 rfl (Nat.le_succ _) (fun _ => rfl) ?_
  refine fx_n (pc' := 13) (lv' := lv1) (st' := [.int (Int32.ofInt 1), .int ((((X.1 p0 ((p1 + (p2 >>> ((Int32.ofInt 5) &&& 31)))).toInt.toNat)).toUInt32 >>> (((p2 &&& ((Int8.ofInt 31).toInt32))).toUInt32 &&& Int32.toUInt32 31)).toInt32)]) aj_d227 rfl (Nat.le_succ _) (fun _ => rfl) ?_
  refine fx_n (pc' := 14) (lv' := lv1) (st' := [.int (((((X.1 p0 ((p1 + (p2 >>> ((Int32.ofInt 5) &&& 31)))).toInt.toNat)).toUInt32 >>> (((p2 &&& ((Int8.ofInt 31).toInt32))).toUInt32 &&& Int32.toUInt32 31)).toInt32) &&& (Int32.ofInt 1))]) aj_d227 rfl (Nat.le_succ _) (fun _ => rfl) ?_
  refine fx_n (pc' := 15) (lv' := lv1) (st' := [.int (Int32.ofInt 1), .int (((((X.1 p0 ((p1 + (p2 >>> ((Int32.ofInt 5) &&& 31)))).toInt.toNat)).toUInt32 >>> (((p2 &&& ((Int8.ofInt 31).toInt32))).toUInt32 &&& Int32.toUInt32 31)).toInt32) &&& (Int32.ofInt 1))]) aj_d227 rfl (Nat.le_succ _) (fun _ => rfl) ?_
  refine fx_b (tgt := 22) aj_d227 rfl (Nat.le_succ _) rfl (fun q3 => ?_) (fun q3 => ?_)
  · skip
    refine fx_qe (c := ((((((X.1 p0 ((p1 + (p2 >>> ((Int32.ofInt 5) &&& 31)))).toInt.toNat)).toUInt32 >>> (((p2 &&& ((Int8.ofInt 31).toInt32))).toUInt32 &&& Int32.toUInt32 31)).toInt32) &&& (Int32.ofInt 1))).toInt = 1) (fx_t_ne q3) ?_
    show fx_W _ _ _ 22 lv1 [] _ _
    refine fx_n (pc' := 23) (lv' := lv1) (st' := [.int (Int32.ofInt 0)]) aj_d227 rfl (Nat.le_succ _) (fun _ => rfl) ?_
    exact fx_ri aj_d227 rfl ⟨_, rfl, 0, rfl, rfl⟩
  · skip
    refine fx_qi (c := ((((((X.1 p0 ((p1 + (p2 >>> ((Int32.ofInt 5) &&& 31)))).toInt.toNat)).toUInt32 >>> (((p2 &&& ((Int8.ofInt 31).toInt32))).toUInt32 &&& Int32.toUInt32 31)).toInt32) &&& (Int32.ofInt 1))).toInt = 1) (fx_f_ne q3) ?_
    show fx_W _ _ _ 18 lv1 [] _ _
    refine fx_n (pc' := 19) (lv' := lv1) (st' := [.int (Int32.ofInt 1)]) aj_d227 rfl (Nat.le_succ _) (fun _ => rfl) ?_
    refine fx_n (pc' := 23) (lv' := lv1) (st' := [.int (Int32.ofInt 1)]) aj_d227 rfl (Nat.le_succ _) (fun _ => rfl) ?_
    exact fx_ri aj_d227 rfl ⟨_, rfl, 0, rfl, rfl⟩
def gxT_279_2 (p1 : Int32) (P : Nat → List Int32 → List Int64 → List Nat → fx_X → Int32 → fx_X → Prop) (y2 : Int32) (X : fx_X) (v : Int32) (X' : fx_X) : Prop :=
  (0 ≤ ((X.1 117 37)).toInt ∧ ((X.1 117 37)).toInt < ((2 : Nat) : Int)) ∧ (if (y2).toInt < ((X.1 122 ((X.1 117 37)).toInt.toNat)).toInt then (P 17 [y2, (Int32.ofInt 0)] [] [] X v X') else (v = (Int32.ofInt 1) ∧ X' = X))
def gxT_279_17 (p1 : Int32) (P : Nat → List Int32 → List Int64 → List Nat → fx_X → Int32 → fx_X → Prop) (y2 : Int32) (y3 : Int32) (X : fx_X) (v : Int32) (X' : fx_X) : Prop :=
  (0 ≤ (p1).toInt ∧ (p1).toInt < ((50 : Nat) : Int)) ∧ (if (y3).toInt < ((X.1 131 (p1).toInt.toNat)).toInt then (P 30 [y2, y3, (Int32.ofInt 0)] [] [] X v X') else (∃ x10 : Int32, x10 = y2 + Int32.ofInt 1 ∧ P 2 [x10] [] [] X v X'))
def gxT_279_30 (p1 : Int32) (P : Nat → List Int32 → List Int64 → List Nat → fx_X → Int32 → fx_X → Prop) (y2 : Int32) (y3 : Int32) (y4 : Int32) (X : fx_X) (v : Int32) (X' : fx_X) : Prop :=
  (0 ≤ ((p1 + (Int32.ofInt 1))).toInt ∧ ((p1 + (Int32.ofInt 1))).toInt < ((50 : Nat) : Int)) ∧ (if (y4).toInt < ((X.1 131 ((p1 + (Int32.ofInt 1))).toInt.toNat)).toInt then (∃ (w20 : Int32) (X19 : fx_X), gx_225 p1 y3 X w20 X19 ∧ ∃ (w22 : Int32) (X21 : fx_X), gx_227 136 w20 y2 X19 w22 X21 ∧ (if (w22).toInt = 0 then (∃ x24 : Int32, x24 = y3 + Int32.ofInt 1 ∧ P 17 [y2, x24] [] [] X21 v X') else (∃ (w28 : Int32) (X27 : fx_X), gx_225 (p1 + (Int32.ofInt 1)) y4 X21 w28 X27 ∧ ∃ (w30 : Int32) (X29 : fx_X), gx_227 136 w28 y2 X27 w30 X29 ∧ P 82 [y2, y3, y4, w30, (Int32.ofInt 0)] [] [] X29 v X'))) else (∃ x16 : Int32, x16 = y3 + Int32.ofInt 1 ∧ P 17 [y2, x16] [] [] X v X'))
def gxT_279_82 (p1 : Int32) (P : Nat → List Int32 → List Int64 → List Nat → fx_X → Int32 → fx_X → Prop) (y2 : Int32) (y3 : Int32) (y4 : Int32) (y5 : Int32) (y6 : Int32) (X : fx_X) (v : Int32) (X' : fx_X) : Prop :=
  (0 ≤ (p1).toInt ∧ (p1).toInt < ((50 : Nat) : Int)) ∧ (if (y6).toInt < ((X.1 132 (p1).toInt.toNat)).toInt then ((if (y5).toInt = 0 then ((if (y5).toInt = 0 then (∃ x48 : Int32, x48 = y4 + Int32.ofInt 1 ∧ P 30 [y2, y3, x48] [] [] X v X') else (∃ (w52 : Int32) (X51 : fx_X), gx_225 p1 y3 X w52 X51 ∧ ∃ (w54 : Unit) (X53 : fx_X), gx_228 136 w52 y2 (Int32.ofInt 0) X51 w54 X53 ∧ ∃ x55 : Int32, x55 = y4 + Int32.ofInt 1 ∧ P 30 [y2, y3, x55] [] [] X53 v X'))) else (∃ (w58 : Int32) (X57 : fx_X), gx_258 p1 y3 y6 y2 X w58 X57 ∧ ∃ (w60 : Int32) (X59 : fx_X), gx_258 (p1 + (Int32.ofInt 1)) y4 y6 y2 X57 w60 X59 ∧ (if (w58).toInt = (w60).toInt then (∃ x66 : Int32, x66 = y6 + Int32.ofInt 1 ∧ P 82 [y2, y3, y4, (Int32.ofInt 1), x66] [] [] X59 v X') else (∃ x63 : Int32, x63 = y6 + Int32.ofInt 1 ∧ P 82 [y2, y3, y4, (Int32.ofInt 0), x63] [] [] X59 v X'))))) else ((if (y5).toInt = 0 then (∃ x37 : Int32, x37 = y4 + Int32.ofInt 1 ∧ P 30 [y2, y3, x37] [] [] X v X') else (∃ (w41 : Int32) (X40 : fx_X), gx_225 p1 y3 X w41 X40 ∧ ∃ (w43 : Unit) (X42 : fx_X), gx_228 136 w41 y2 (Int32.ofInt 0) X40 w43 X42 ∧ ∃ x44 : Int32, x44 = y4 + Int32.ofInt 1 ∧ P 30 [y2, y3, x44] [] [] X42 v X'))))
def gxE_279 (p1 : Int32) (P : Nat → List Int32 → List Int64 → List Nat → fx_X → Int32 → fx_X → Prop) (X : fx_X) (v : Int32) (X' : fx_X) : Prop :=
  P 2 [(Int32.ofInt 0)] [] [] X v X'
noncomputable def gxF_279 (p1 : Int32) (n : Nat) : Nat → List Int32 → List Int64 → List Nat → fx_X → Int32 → fx_X → Prop := Nat.rec (motive := fun _ => Nat → List Int32 → List Int64 → List Nat → fx_X → Int32 → fx_X → Prop) (fun _ _ _ _ _ _ _ => False) (fun _ P l is ls rs X v X' => (l = 2 ∧ ∃ (y2 : Int32), is = [y2] ∧ ls = [] ∧ rs = [] ∧ gxT_279_2 p1 P y2 X v X') ∨ (l = 17 ∧ ∃ (y2 : Int32) (y3 : Int32), is = [y2, y3] ∧ ls = [] ∧ rs = [] ∧ gxT_279_17 p1 P y2 y3 X v X') ∨ (l = 30 ∧ ∃ (y2 : Int32) (y3 : Int32) (y4 : Int32), is = [y2, y3, y4] ∧ ls = [] ∧ rs = [] ∧ gxT_279_30 p1 P y2 y3 y4 X v X') ∨ (l = 82 ∧ ∃ (y2 : Int32) (y3 : Int32) (y4 : Int32) (y5 : Int32) (y6 : Int32), is = [y2, y3, y4, y5, y6] ∧ ls = [] ∧ rs = [] ∧ gxT_279_82 p1 P y2 y3 y4 y5 y6 X v X')) n
theorem gxI_279_2 {p1 : Int32} {n : Nat} {y2 : Int32} {X : fx_X} {v : Int32} {X' : fx_X} (h : gxT_279_2 p1 (gxF_279 p1 n) y2 X v X') : gxF_279 p1 (n + 1) 2 [y2] [] [] X v X' := Or.inl ⟨rfl, y2, rfl, rfl, rfl, h⟩
theorem gxO_279_2 {p1 : Int32} {n : Nat} {y2 : Int32} {X : fx_X} {v : Int32} {X' : fx_X} (h : gxF_279 p1 (n + 1) 2 [y2] [] [] X v X') : gxT_279_2 p1 (gxF_279 p1 n) y2 X v X' := by
  rcases h with ⟨-, _, e1, e2, e3, h⟩ | ⟨e, -⟩ | ⟨e, -⟩ | ⟨e, -⟩
  · cases e1; cases e2; cases e3; exact h
  · exact absurd e (by decide)
  · exact absurd e (by decide)
  · exact absurd e (by decide)
theorem gxI_279_17 {p1 : Int32} {n : Nat} {y2 : Int32} {y3 : Int32} {X : fx_X} {v : Int32} {X' : fx_X} (h : gxT_279_17 p1 (gxF_279 p1 n) y2 y3 X v X') : gxF_279 p1 (n + 1) 17 [y2, y3] [] [] X v X' := Or.inr (Or.inl ⟨rfl, y2, y3, rfl, rfl, rfl, h⟩)
theorem gxO_279_17 {p1 : Int32} {n : Nat} {y2 : Int32} {y3 : Int32} {X : fx_X} {v : Int32} {X' : fx_X} (h : gxF_279 p1 (n + 1) 17 [y2, y3] [] [] X v X') : gxT_279_17 p1 (gxF_279 p1 n) y2 y3 X v X' := by
  rcases h with ⟨e, -⟩ | ⟨-, _, _, e1, e2, e3, h⟩ | ⟨e, -⟩ | ⟨e, -⟩
  · exact absurd e (by decide)
  · cases e1; cases e2; cases e3; exact h
  · exact absurd e (by decide)
  · exact absurd e (by decide)
theorem gxI_279_30 {p1 : Int32} {n : Nat} {y2 : Int32} {y3 : Int32} {y4 : Int32} {X : fx_X} {v : Int32} {X' : fx_X} (h : gxT_279_30 p1 (gxF_279 p1 n) y2 y3 y4 X v X') : gxF_279 p1 (n + 1) 30 [y2, y3, y4] [] [] X v X' := Or.inr (Or.inr (Or.inl ⟨rfl, y2, y3, y4, rfl, rfl, rfl, h⟩))
theorem gxO_279_30 {p1 : Int32} {n : Nat} {y2 : Int32} {y3 : Int32} {y4 : Int32} {X : fx_X} {v : Int32} {X' : fx_X} (h : gxF_279 p1 (n + 1) 30 [y2, y3, y4] [] [] X v X') : gxT_279_30 p1 (gxF_279 p1 n) y2 y3 y4 X v X' := by
  rcases h with ⟨e, -⟩ | ⟨e, -⟩ | ⟨-, _, _, _, e1, e2, e3, h⟩ | ⟨e, -⟩
  · exact absurd e (by decide)
  · exact absurd e (by decide)
  · cases e1; cases e2; cases e3; exact h
  · exact absurd e (by decide)
theorem gxI_279_82 {p1 : Int32} {n : Nat} {y2 : Int32} {y3 : Int32} {y4 : Int32} {y5 : Int32} {y6 : Int32} {X : fx_X} {v : Int32} {X' : fx_X} (h : gxT_279_82 p1 (gxF_279 p1 n) y2 y3 y4 y5 y6 X v X') : gxF_279 p1 (n + 1) 82 [y2, y3, y4, y5, y6] [] [] X v X' := Or.inr (Or.inr (Or.inr (⟨rfl, y2, y3, y4, y5, y6, rfl, rfl, rfl, h⟩)))
theorem gxO_279_82 {p1 : Int32} {n : Nat} {y2 : Int32} {y3 : Int32} {y4 : Int32} {y5 : Int32} {y6 : Int32} {X : fx_X} {v : Int32} {X' : fx_X} (h : gxF_279 p1 (n + 1) 82 [y2, y3, y4, y5, y6] [] [] X v X') : gxT_279_82 p1 (gxF_279 p1 n) y2 y3 y4 y5 y6 X v X' := by
  rcases h with ⟨e, -⟩ | ⟨e, -⟩ | ⟨e, -⟩ | ⟨-, _, _, _, _, _, e1, e2, e3, h⟩
  · exact absurd e (by decide)
  · exact absurd e (by decide)
  · exact absurd e (by decide)
  · cases e1; cases e2; cases e3; exact h
def gx_279 (p1 : Int32) (X : fx_X) (v : Int32) (X' : fx_X) : Prop := ∃ n : Nat, gxE_279 p1 (gxF_279 p1 n) X v X'
theorem gxL_279 {tb : aj_T} (p1 : Int32) : ∀ N : Nat, (∀ (lv : aj_V) (y2 : Int32) (X : fx_X), aj_lv lv 0 = some (.ref 117) → aj_lv lv 1 = some (.int p1) → aj_lv lv 2 = some (.int y2) → fx_W tb aj_m279 N 2 lv [] X (fx_Q fx_qI (fun v X' => ∃ n : Nat, gxF_279 p1 n 2 [y2] [] [] X v X'))) ∧ (∀ (lv : aj_V) (y2 : Int32) (y3 : Int32) (X : fx_X), aj_lv lv 0 = some (.ref 117) → aj_lv lv 1 = some (.int p1) → aj_lv lv 2 = some (.int y2) → aj_lv lv 3 = some (.int y3) → fx_W tb aj_m279 N 17 lv [] X (fx_Q fx_qI (fun v X' => ∃ n : Nat, gxF_279 p1 n 17 [y2, y3] [] [] X v X'))) ∧ (∀ (lv : aj_V) (y2 : Int32) (y3 : Int32) (y4 : Int32) (X : fx_X), aj_lv lv 0 = some (.ref 117) → aj_lv lv 1 = some (.int p1) → aj_lv lv 2 = some (.int y2) → aj_lv lv 3 = some (.int y3) → aj_lv lv 4 = some (.int y4) → fx_W tb aj_m279 N 30 lv [] X (fx_Q fx_qI (fun v X' => ∃ n : Nat, gxF_279 p1 n 30 [y2, y3, y4] [] [] X v X'))) ∧ (∀ (lv : aj_V) (y2 : Int32) (y3 : Int32) (y4 : Int32) (y5 : Int32) (y6 : Int32) (X : fx_X), aj_lv lv 0 = some (.ref 117) → aj_lv lv 1 = some (.int p1) → aj_lv lv 2 = some (.int y2) → aj_lv lv 3 = some (.int y3) → aj_lv lv 4 = some (.int y4) → aj_lv lv 5 = some (.int y5) → aj_lv lv 6 = some (.int y6) → fx_W tb aj_m279 N 82 lv [] X (fx_Q fx_qI (fun v X' => ∃ n : Nat, gxF_279 p1 n 82 [y2, y3, y4, y5, y6] [] [] X v X'))) := by
  intro N
  induction N with
  | zero => exact ⟨(by intros; exact fx_z), (by intros; exact fx_z), (by intros; exact fx_z), (by intros; exact fx_z)⟩
  | succ N ih =>
    refine ⟨?_, ?_, ?_, ?_⟩
    · intro lv y2 X hlv_0 hlv_1 hlv_2
      refine fx_mono (Q := fx_Q fx_qI (fun v X' => ∃ n : Nat, gxT_279_2 p1 (gxF_279 p1 n) y2 X v X')) (fun r X' ⟨v, e, n, z⟩ => ⟨v, e, n + 1, gxI_279_2 z⟩) ?_
      unfold gxT_279_2
      refine fx_i0 aj_d279 rfl (Nat.le_refl _) (fun _ => rfl) hlv_2 ?_
      refine fx_i2 aj_d279 rfl (Nat.le_succ _) (fun _ => rfl) hlv_0 ?_
      refine fx_gF aj_d279 rfl (Nat.le_succ _) rfl rfl fx_in_11_5 (t := 122) rfl (fun hA3 => ?_)
      refine fx_i2 aj_d279 rfl (Nat.le_succ _) (fun _ => rfl) hlv_0 ?_
      refine fx_gI aj_d279 rfl (Nat.le_succ _) rfl rfl (Or.inl rfl) ?_
      refine fx_ld aj_d279 (Or.inl rfl) rfl (Nat.le_succ _) (fun g40 g41 => ?_)
      show fx_W _ _ _ 12 lv [.int (X.1 122 ((X.1 117 37)).toInt.toNat), .int y2] _ _
      refine fx_qa (c := 0 ≤ ((X.1 117 37)).toInt ∧ ((X.1 117 37)).toInt < ((2 : Nat) : Int)) ⟨g40, fx_lnk g41 hA3⟩ ?_
      refine fx_b (tgt := 173) aj_d279 rfl (Nat.le_succ _) rfl (fun q5 => ?_) (fun q5 => ?_)
      · skip
        refine fx_qe (c := (y2).toInt < ((X.1 122 ((X.1 117 37)).toInt.toNat)).toInt) (fx_t_ge q5) ?_
        show fx_W _ _ _ 173 lv [] _ _
        refine fx_n (pc' := 174) (lv' := lv) (st' := [.int (Int32.ofInt 1)]) aj_d279 rfl (Nat.le_succ _) (fun _ => rfl) ?_
        exact fx_ri aj_d279 rfl ⟨_, rfl, 0, rfl, rfl⟩
      · skip
        refine fx_qi (c := (y2).toInt < ((X.1 122 ((X.1 117 37)).toInt.toNat)).toInt) (fx_f_ge q5) ?_
        show fx_W _ _ _ 15 lv [] _ _
        refine fx_n (pc' := 16) (lv' := lv) (st' := [.int (Int32.ofInt 0)]) aj_d279 rfl (Nat.le_succ _) (fun _ => rfl) ?_
        refine fx_s0 (j := 3) aj_d279 rfl (Nat.le_succ _) (by decide) (fun _ => rfl) ?_
        obtain ⟨lv6, elv6⟩ : ∃ l, l = aj_set1 lv 3 (.int (Int32.ofInt 0)) := ⟨_, rfl⟩
        rw [← elv6]
        have hlv6_0 : aj_lv lv6 0 = some (.ref 117) := fx_e1 elv6 hlv_0 (by decide) (Or.inl (by decide))
        have hlv6_1 : aj_lv lv6 1 = some (.int p1) := fx_e1 elv6 hlv_1 (by decide) (Or.inl (by decide))
        have hlv6_2 : aj_lv lv6 2 = some (.int y2) := fx_e1 elv6 hlv_2 (by decide) (Or.inr rfl)
        have hlv6_3 : aj_lv lv6 3 = some (.int (Int32.ofInt 0)) := by rw [elv6]; exact ak_set1_eq _ _ _
        show fx_W _ _ _ 17 lv6 [] _ _
        exact (ih.2.1) lv6 (y2) ((Int32.ofInt 0)) X  hlv6_0 hlv6_1 hlv6_2 hlv6_3
    · intro lv y2 y3 X hlv_0 hlv_1 hlv_2 hlv_3
      refine fx_mono (Q := fx_Q fx_qI (fun v X' => ∃ n : Nat, gxT_279_17 p1 (gxF_279 p1 n) y2 y3 X v X')) (fun r X' ⟨v, e, n, z⟩ => ⟨v, e, n + 1, gxI_279_17 z⟩) ?_
      unfold gxT_279_17
      refine fx_i0 aj_d279 rfl (Nat.le_refl _) (fun _ => rfl) hlv_3 ?_
      refine fx_i2 aj_d279 rfl (Nat.le_succ _) (fun _ => rfl) hlv_0 ?_
      refine fx_gF aj_d279 rfl (Nat.le_succ _) rfl rfl fx_in_11_15 (t := 131) rfl (fun hA7 => ?_)
      refine fx_i0 aj_d279 rfl (Nat.le_succ _) (fun _ => rfl) hlv_1 ?_
      refine fx_ld aj_d279 (Or.inl rfl) rfl (Nat.le_succ _) (fun g80 g81 => ?_)
      show fx_W _ _ _ 24 lv [.int (X.1 131 (p1).toInt.toNat), .int y3] _ _
      refine fx_qa (c := 0 ≤ (p1).toInt ∧ (p1).toInt < ((50 : Nat) : Int)) ⟨g80, fx_lnk g81 hA7⟩ ?_
      refine fx_b (tgt := 167) aj_d279 rfl (Nat.le_succ _) rfl (fun q9 => ?_) (fun q9 => ?_)
      · skip
        refine fx_qe (c := (y3).toInt < ((X.1 131 (p1).toInt.toNat)).toInt) (fx_t_ge q9) ?_
        show fx_W _ _ _ 167 lv [] _ _
        refine fx_incq aj_d279 rfl (Nat.le_succ _) hlv_2 (by decide) (fun x10 ex10 => ?_)
        obtain ⟨lv11, elv11⟩ : ∃ l, l = aj_set1 lv 2 (.int x10) := ⟨_, rfl⟩
        rw [← elv11]
        have hlv11_0 : aj_lv lv11 0 = some (.ref 117) := fx_e1 elv11 hlv_0 (by decide) (Or.inl (by decide))
        have hlv11_1 : aj_lv lv11 1 = some (.int p1) := fx_e1 elv11 hlv_1 (by decide) (Or.inr rfl)
        have hlv11_2 : aj_lv lv11 2 = some (.int x10) := by rw [elv11]; exact ak_set1_eq _ _ _
        show fx_W _ _ _ 170 lv11 [] _ _
        refine fx_n (pc' := 2) (lv' := lv11) (st' := []) aj_d279 rfl (Nat.le_succ _) (fun _ => rfl) ?_
        exact (ih.1) lv11 (x10) X  hlv11_0 hlv11_1 hlv11_2
      · skip
        refine fx_qi (c := (y3).toInt < ((X.1 131 (p1).toInt.toNat)).toInt) (fx_f_ge q9) ?_
        show fx_W _ _ _ 27 lv [] _ _
        refine fx_n (pc' := 28) (lv' := lv) (st' := [.int (Int32.ofInt 0)]) aj_d279 rfl (Nat.le_succ _) (fun _ => rfl) ?_
        refine fx_s0 (j := 4) aj_d279 rfl (Nat.le_succ _) (by decide) (fun _ => rfl) ?_
        obtain ⟨lv12, elv12⟩ : ∃ l, l = aj_set1 lv 4 (.int (Int32.ofInt 0)) := ⟨_, rfl⟩
        rw [← elv12]
        have hlv12_0 : aj_lv lv12 0 = some (.ref 117) := fx_e1 elv12 hlv_0 (by decide) (Or.inl (by decide))
        have hlv12_1 : aj_lv lv12 1 = some (.int p1) := fx_e1 elv12 hlv_1 (by decide) (Or.inl (by decide))
        have hlv12_2 : aj_lv lv12 2 = some (.int y2) := fx_e1 elv12 hlv_2 (by decide) (Or.inl (by decide))
        have hlv12_3 : aj_lv lv12 3 = some (.int y3) := fx_e1 elv12 hlv_3 (by decide) (Or.inr rfl)
        have hlv12_4 : aj_lv lv12 4 = some (.int (Int32.ofInt 0)) := by rw [elv12]; exact ak_set1_eq _ _ _
        show fx_W _ _ _ 30 lv12 [] _ _
        exact (ih.2.2.1) lv12 (y2) (y3) ((Int32.ofInt 0)) X  hlv12_0 hlv12_1 hlv12_2 hlv12_3 hlv12_4
    · intro lv y2 y3 y4 X hlv_0 hlv_1 hlv_2 hlv_3 hlv_4
      refine fx_mono (Q := fx_Q fx_qI (fun v X' => ∃ n : Nat, gxT_279_30 p1 (gxF_279 p1 n) y2 y3 y4 X v X')) (fun r X' ⟨v, e, n, z⟩ => ⟨v, e, n + 1, gxI_279_30 z⟩) ?_
      unfold gxT_279_30
      refine fx_i0 aj_d279 rfl (Nat.le_refl _) (fun _ => rfl) hlv_4 ?_
      refine fx_i2 aj_d279 rfl (Nat.le_succ _) (fun _ => rfl) hlv_0 ?_
      refine fx_gF aj_d279 rfl (Nat.le_succ _) rfl rfl fx_in_11_15 (t := 131) rfl (fun hA13 => ?_)
      refine fx_i0 aj_d279 rfl (Nat.le_succ _) (fun _ => rfl) hlv_1 ?_
      refine fx_n (pc' := 38) (lv' := lv) (st' := [.int (Int32.ofInt 1), .int p1, .ref 131, .int y4]) aj_d279 rfl (Nat.le_succ _) (fun _ => rfl) ?_
      refine fx_n (pc' := 39) (lv' := lv) (st' := [.int (p1 + (Int32.ofInt 1)), .ref 131, .int y4]) aj_d279 rfl (Nat.le_succ _) (fun _ => rfl) ?_
      refine fx_ld aj_d279 (Or.inl rfl) rfl (Nat.le_succ _) (fun g140 g141 => ?_)
      show fx_W _ _ _ 40 lv [.int (X.1 131 ((p1 + (Int32.ofInt 1))).toInt.toNat), .int y4] _ _
      refine fx_qa (c := 0 ≤ ((p1 + (Int32.ofInt 1))).toInt ∧ ((p1 + (Int32.ofInt 1))).toInt < ((50 : Nat) : Int)) ⟨g140, fx_lnk g141 hA13⟩ ?_
      refine fx_b (tgt := 161) aj_d279 rfl (Nat.le_succ _) rfl (fun q15 => ?_) (fun q15 => ?_)
      · skip
        refine fx_qe (c := (y4).toInt < ((X.1 131 ((p1 + (Int32.ofInt 1))).toInt.toNat)).toInt) (fx_t_ge q15) ?_
        show fx_W _ _ _ 161 lv [] _ _
        refine fx_incq aj_d279 rfl (Nat.le_succ _) hlv_3 (by decide) (fun x16 ex16 => ?_)
        obtain ⟨lv17, elv17⟩ : ∃ l, l = aj_set1 lv 3 (.int x16) := ⟨_, rfl⟩
        rw [← elv17]
        have hlv17_0 : aj_lv lv17 0 = some (.ref 117) := fx_e1 elv17 hlv_0 (by decide) (Or.inl (by decide))
        have hlv17_1 : aj_lv lv17 1 = some (.int p1) := fx_e1 elv17 hlv_1 (by decide) (Or.inl (by decide))
        have hlv17_2 : aj_lv lv17 2 = some (.int y2) := fx_e1 elv17 hlv_2 (by decide) (Or.inr rfl)
        have hlv17_3 : aj_lv lv17 3 = some (.int x16) := by rw [elv17]; exact ak_set1_eq _ _ _
        show fx_W _ _ _ 164 lv17 [] _ _
        refine fx_n (pc' := 17) (lv' := lv17) (st' := []) aj_d279 rfl (Nat.le_succ _) (fun _ => rfl) ?_
        exact (ih.2.1) lv17 (y2) (x16) X  hlv17_0 hlv17_1 hlv17_2 hlv17_3
      · skip
        refine fx_qi (c := (y4).toInt < ((X.1 131 ((p1 + (Int32.ofInt 1))).toInt.toNat)).toInt) (fx_f_ge q15) ?_
        show fx_W _ _ _ 43 lv [] _ _
        refine fx_i2 aj_d279 rfl (Nat.le_succ _) (fun _ => rfl) hlv_0 ?_
        refine fx_gF aj_d279 rfl (Nat.le_succ _) rfl rfl fx_in_11_20 (t := 136) rfl (fun hA18 => ?_)
        refine fx_i2 aj_d279 rfl (Nat.le_succ _) (fun _ => rfl) hlv_0 ?_
        refine fx_i0 aj_d279 rfl (Nat.le_succ _) (fun _ => rfl) hlv_1 ?_
        refine fx_i0 aj_d279 rfl (Nat.le_succ _) (fun _ => rfl) hlv_3 ?_
        refine fx_cv aj_d279 rfl (Nat.le_succ _) rfl [_, _] rfl rfl (gx_225_ok p1 y3) ?_
        rintro _ X19 ⟨w20, rfl, hR19⟩ hok19 hle19
        refine fx_qc hR19 ?_
        show fx_W _ _ _ 53 lv [.int w20, .ref 136] _ _
        refine fx_i0 aj_d279 rfl (Nat.le_succ _) (fun _ => rfl) hlv_2 ?_
        refine fx_cs aj_d279 rfl (Nat.le_succ _) rfl rfl [_, _, _] rfl rfl (gx_227_ok 136 w20 y2) ?_
        rintro _ X21 ⟨w22, rfl, hR21⟩ hok21 hle21
        refine fx_qc hR21 ?_
        show fx_W _ _ _ 57 lv [.int w22] _ _
        refine fx_b0 (tgt := 161) aj_d279 rfl (Nat.le_succ _) rfl (fun q23 => ?_) (fun q23 => ?_)
        · skip
          refine fx_qi (c := (w22).toInt = 0) (fx_t_eq q23) ?_
          show fx_W _ _ _ 161 lv [] _ _
          refine fx_incq aj_d279 rfl (Nat.le_succ _) hlv_3 (by decide) (fun x24 ex24 => ?_)
          obtain ⟨lv25, elv25⟩ : ∃ l, l = aj_set1 lv 3 (.int x24) := ⟨_, rfl⟩
          rw [← elv25]
          have hlv25_0 : aj_lv lv25 0 = some (.ref 117) := fx_e1 elv25 hlv_0 (by decide) (Or.inl (by decide))
          have hlv25_1 : aj_lv lv25 1 = some (.int p1) := fx_e1 elv25 hlv_1 (by decide) (Or.inl (by decide))
          have hlv25_2 : aj_lv lv25 2 = some (.int y2) := fx_e1 elv25 hlv_2 (by decide) (Or.inr rfl)
          have hlv25_3 : aj_lv lv25 3 = some (.int x24) := by rw [elv25]; exact ak_set1_eq _ _ _
          show fx_W _ _ _ 164 lv25 [] _ _
          refine fx_n (pc' := 17) (lv' := lv25) (st' := []) aj_d279 rfl (Nat.le_succ _) (fun _ => rfl) ?_
          exact (ih.2.1) lv25 (y2) (x24) X21  hlv25_0 hlv25_1 hlv25_2 hlv25_3
        · skip
          refine fx_qe (c := (w22).toInt = 0) (fx_f_eq q23) ?_
          show fx_W _ _ _ 60 lv [] _ _
          refine fx_i2 aj_d279 rfl (Nat.le_succ _) (fun _ => rfl) hlv_0 ?_
          refine fx_gF aj_d279 rfl (Nat.le_succ _) rfl rfl fx_in_11_20 (t := 136) rfl (fun hA26 => ?_)
          refine fx_i2 aj_d279 rfl (Nat.le_succ _) (fun _ => rfl) hlv_0 ?_
          refine fx_i0 aj_d279 rfl (Nat.le_succ _) (fun _ => rfl) hlv_1 ?_
          refine fx_n (pc' := 67) (lv' := lv) (st' := [.int (Int32.ofInt 1), .int p1, .ref 117, .ref 136]) aj_d279 rfl (Nat.le_succ _) (fun _ => rfl) ?_
          refine fx_n (pc' := 68) (lv' := lv) (st' := [.int (p1 + (Int32.ofInt 1)), .ref 117, .ref 136]) aj_d279 rfl (Nat.le_succ _) (fun _ => rfl) ?_
          refine fx_i0 aj_d279 rfl (Nat.le_succ _) (fun _ => rfl) hlv_4 ?_
          refine fx_cv aj_d279 rfl (Nat.le_succ _) rfl [_, _] rfl rfl (gx_225_ok (p1 + (Int32.ofInt 1)) y4) ?_
          rintro _ X27 ⟨w28, rfl, hR27⟩ hok27 hle27
          refine fx_qc hR27 ?_
          show fx_W _ _ _ 73 lv [.int w28, .ref 136] _ _
          refine fx_i0 aj_d279 rfl (Nat.le_succ _) (fun _ => rfl) hlv_2 ?_
          refine fx_cs aj_d279 rfl (Nat.le_succ _) rfl rfl [_, _, _] rfl rfl (gx_227_ok 136 w28 y2) ?_
          rintro _ X29 ⟨w30, rfl, hR29⟩ hok29 hle29
          refine fx_qc hR29 ?_
          show fx_W _ _ _ 77 lv [.int w30] _ _
          refine fx_s0 (j := 5) aj_d279 rfl (Nat.le_succ _) (by decide) (fun _ => rfl) ?_
          obtain ⟨lv31, elv31⟩ : ∃ l, l = aj_set1 lv 5 (.int w30) := ⟨_, rfl⟩
          rw [← elv31]
          have hlv31_0 : aj_lv lv31 0 = some (.ref 117) := fx_e1 elv31 hlv_0 (by decide) (Or.inl (by decide))
          have hlv31_1 : aj_lv lv31 1 = some (.int p1) := fx_e1 elv31 hlv_1 (by decide) (Or.inl (by decide))
          have hlv31_2 : aj_lv lv31 2 = some (.int y2) := fx_e1 elv31 hlv_2 (by decide) (Or.inl (by decide))
          have hlv31_3 : aj_lv lv31 3 = some (.int y3) := fx_e1 elv31 hlv_3 (by decide) (Or.inl (by decide))
          have hlv31_4 : aj_lv lv31 4 = some (.int y4) := fx_e1 elv31 hlv_4 (by decide) (Or.inr rfl)
          have hlv31_5 : aj_lv lv31 5 = some (.int w30) := by rw [elv31]; exact ak_set1_eq _ _ _
          show fx_W _ _ _ 79 lv31 [] _ _
          refine fx_n (pc' := 80) (lv' := lv31) (st' := [.int (Int32.ofInt 0)]) aj_d279 rfl (Nat.le_succ _) (fun _ => rfl) ?_
          refine fx_s0 (j := 6) aj_d279 rfl (Nat.le_succ _) (by decide) (fun _ => rfl) ?_
          obtain ⟨lv32, elv32⟩ : ∃ l, l = aj_set1 lv31 6 (.int (Int32.ofInt 0)) := ⟨_, rfl⟩
          rw [← elv32]
          have hlv32_0 : aj_lv lv32 0 = some (.ref 117) := fx_e1 elv32 hlv31_0 (by decide) (Or.inl (by decide))
          have hlv32_1 : aj_lv lv32 1 = some (.int p1) := fx_e1 elv32 hlv31_1 (by decide) (Or.inl (by decide))
          have hlv32_2 : aj_lv lv32 2 = some (.int y2) := fx_e1 elv32 hlv31_2 (by decide) (Or.inl (by decide))
          have hlv32_3 : aj_lv lv32 3 = some (.int y3) := fx_e1 elv32 hlv31_3 (by decide) (Or.inl (by decide))
          have hlv32_4 : aj_lv lv32 4 = some (.int y4) := fx_e1 elv32 hlv31_4 (by decide) (Or.inl (by decide))
          have hlv32_5 : aj_lv lv32 5 = some (.int w30) := fx_e1 elv32 hlv31_5 (by decide) (Or.inr rfl)
          have hlv32_6 : aj_lv lv32 6 = some (.int (Int32.ofInt 0)) := by rw [elv32]; exact ak_set1_eq _ _ _
          show fx_W _ _ _ 82 lv32 [] _ _
          exact (ih.2.2.2) lv32 (y2) (y3) (y4) (w30) ((Int32.ofInt 0)) X29  hlv32_0 hlv32_1 hlv32_2 hlv32_3 hlv32_4 hlv32_5 hlv32_6
    · intro lv y2 y3 y4 y5 y6 X hlv_0 hlv_1 hlv_2 hlv_3 hlv_4 hlv_5 hlv_6
      refine fx_mono (Q := fx_Q fx_qI (fun v X' => ∃ n : Nat, gxT_279_82 p1 (gxF_279 p1 n) y2 y3 y4 y5 y6 X v X')) (fun r X' ⟨v, e, n, z⟩ => ⟨v, e, n + 1, gxI_279_82 z⟩) ?_
      unfold gxT_279_82
      refine fx_i0 aj_d279 rfl (Nat.le_refl _) (fun _ => rfl) hlv_6 ?_
      refine fx_i2 aj_d279 rfl (Nat.le_succ _) (fun _ => rfl) hlv_0 ?_
      refine fx_gF aj_d279 rfl (Nat.le_succ _) rfl rfl fx_in_11_16 (t := 132) rfl (fun hA33 => ?_)
      refine fx_i0 aj_d279 rfl (Nat.le_succ _) (fun _ => rfl) hlv_1 ?_
      refine fx_ld aj_d279 (Or.inl rfl) rfl (Nat.le_succ _) (fun g340 g341 => ?_)
      show fx_W _ _ _ 90 lv [.int (X.1 132 (p1).toInt.toNat), .int y6] _ _
      refine fx_qa (c := 0 ≤ (p1).toInt ∧ (p1).toInt < ((50 : Nat) : Int)) ⟨g340, fx_lnk g341 hA33⟩ ?_
      refine fx_b (tgt := 135) aj_d279 rfl (Nat.le_succ _) rfl (fun q35 => ?_) (fun q35 => ?_)
      · skip
        refine fx_qe (c := (y6).toInt < ((X.1 132 (p1).toInt.toNat)).toInt) (fx_t_ge q35) ?_
        show fx_W _ _ _ 135 lv [] _ _
        refine fx_i0 aj_d279 rfl (Nat.le_succ _) (fun _ => rfl) hlv_5 ?_
        refine fx_b0 (tgt := 155) aj_d279 rfl (Nat.le_succ _) rfl (fun q36 => ?_) (fun q36 => ?_)
        · skip
          refine fx_qi (c := (y5).toInt = 0) (fx_t_eq q36) ?_
          show fx_W _ _ _ 155 lv [] _ _
          refine fx_incq aj_d279 rfl (Nat.le_succ _) hlv_4 (by decide) (fun x37 ex37 => ?_)
          obtain ⟨lv38, elv38⟩ : ∃ l, l = aj_set1 lv 4 (.int x37) := ⟨_, rfl⟩
          rw [← elv38]
          have hlv38_0 : aj_lv lv38 0 = some (.ref 117) := fx_e1 elv38 hlv_0 (by decide) (Or.inl (by decide))
          have hlv38_1 : aj_lv lv38 1 = some (.int p1) := fx_e1 elv38 hlv_1 (by decide) (Or.inl (by decide))
          have hlv38_2 : aj_lv lv38 2 = some (.int y2) := fx_e1 elv38 hlv_2 (by decide) (Or.inl (by decide))
          have hlv38_3 : aj_lv lv38 3 = some (.int y3) := fx_e1 elv38 hlv_3 (by decide) (Or.inr rfl)
          have hlv38_4 : aj_lv lv38 4 = some (.int x37) := by rw [elv38]; exact ak_set1_eq _ _ _
          show fx_W _ _ _ 158 lv38 [] _ _
          refine fx_n (pc' := 30) (lv' := lv38) (st' := []) aj_d279 rfl (Nat.le_succ _) (fun _ => rfl) ?_
          exact (ih.2.2.1) lv38 (y2) (y3) (x37) X  hlv38_0 hlv38_1 hlv38_2 hlv38_3 hlv38_4
        · skip
          refine fx_qe (c := (y5).toInt = 0) (fx_f_eq q36) ?_
          show fx_W _ _ _ 140 lv [] _ _
          refine fx_i2 aj_d279 rfl (Nat.le_succ _) (fun _ => rfl) hlv_0 ?_
          refine fx_gF aj_d279 rfl (Nat.le_succ _) rfl rfl fx_in_11_20 (t := 136) rfl (fun hA39 => ?_)
          refine fx_i2 aj_d279 rfl (Nat.le_succ _) (fun _ => rfl) hlv_0 ?_
          refine fx_i0 aj_d279 rfl (Nat.le_succ _) (fun _ => rfl) hlv_1 ?_
          refine fx_i0 aj_d279 rfl (Nat.le_succ _) (fun _ => rfl) hlv_3 ?_
          refine fx_cv aj_d279 rfl (Nat.le_succ _) rfl [_, _] rfl rfl (gx_225_ok p1 y3) ?_
          rintro _ X40 ⟨w41, rfl, hR40⟩ hok40 hle40
          refine fx_qc hR40 ?_
          show fx_W _ _ _ 150 lv [.int w41, .ref 136] _ _
          refine fx_i0 aj_d279 rfl (Nat.le_succ _) (fun _ => rfl) hlv_2 ?_
          refine fx_n (pc' := 152) (lv' := lv) (st' := [.int (Int32.ofInt 0), .int y2, .int w41, .ref 136]) aj_d279 rfl (Nat.le_succ _) (fun _ => rfl) ?_
          refine fx_cs aj_d279 rfl (Nat.le_succ _) rfl rfl [_, _, _, _] rfl rfl (gx_228_ok 136 w41 y2 (Int32.ofInt 0)) ?_
          rintro _ X42 ⟨w43, rfl, hR42⟩ hok42 hle42
          refine fx_qc hR42 ?_
          show fx_W _ _ _ 155 lv [] _ _
          refine fx_incq aj_d279 rfl (Nat.le_succ _) hlv_4 (by decide) (fun x44 ex44 => ?_)
          obtain ⟨lv45, elv45⟩ : ∃ l, l = aj_set1 lv 4 (.int x44) := ⟨_, rfl⟩
          rw [← elv45]
          have hlv45_0 : aj_lv lv45 0 = some (.ref 117) := fx_e1 elv45 hlv_0 (by decide) (Or.inl (by decide))
          have hlv45_1 : aj_lv lv45 1 = some (.int p1) := fx_e1 elv45 hlv_1 (by decide) (Or.inl (by decide))
          have hlv45_2 : aj_lv lv45 2 = some (.int y2) := fx_e1 elv45 hlv_2 (by decide) (Or.inl (by decide))
          have hlv45_3 : aj_lv lv45 3 = some (.int y3) := fx_e1 elv45 hlv_3 (by decide) (Or.inr rfl)
          have hlv45_4 : aj_lv lv45 4 = some (.int x44) := by rw [elv45]; exact ak_set1_eq _ _ _
          show fx_W _ _ _ 158 lv45 [] _ _
          refine fx_n (pc' := 30) (lv' := lv45) (st' := []) aj_d279 rfl (Nat.le_succ _) (fun _ => rfl) ?_
          exact (ih.2.2.1) lv45 (y2) (y3) (x44) X42  hlv45_0 hlv45_1 hlv45_2 hlv45_3 hlv45_4
      · skip
        refine fx_qi (c := (y6).toInt < ((X.1 132 (p1).toInt.toNat)).toInt) (fx_f_ge q35) ?_
        show fx_W _ _ _ 93 lv [] _ _
        refine fx_i0 aj_d279 rfl (Nat.le_succ _) (fun _ => rfl) hlv_5 ?_
        refine fx_b0 (tgt := 135) aj_d279 rfl (Nat.le_succ _) rfl (fun q46 => ?_) (fun q46 => ?_)
        · skip
          refine fx_qi (c := (y5).toInt = 0) (fx_t_eq q46) ?_
          show fx_W _ _ _ 135 lv [] _ _
          refine fx_i0 aj_d279 rfl (Nat.le_succ _) (fun _ => rfl) hlv_5 ?_
          refine fx_b0 (tgt := 155) aj_d279 rfl (Nat.le_succ _) rfl (fun q47 => ?_) (fun q47 => ?_)
          · skip
            refine fx_qi (c := (y5).toInt = 0) (fx_t_eq q47) ?_
            show fx_W _ _ _ 155 lv [] _ _
            refine fx_incq aj_d279 rfl (Nat.le_succ _) hlv_4 (by decide) (fun x48 ex48 => ?_)
            obtain ⟨lv49, elv49⟩ : ∃ l, l = aj_set1 lv 4 (.int x48) := ⟨_, rfl⟩
            rw [← elv49]
            have hlv49_0 : aj_lv lv49 0 = some (.ref 117) := fx_e1 elv49 hlv_0 (by decide) (Or.inl (by decide))
            have hlv49_1 : aj_lv lv49 1 = some (.int p1) := fx_e1 elv49 hlv_1 (by decide) (Or.inl (by decide))
            have hlv49_2 : aj_lv lv49 2 = some (.int y2) := fx_e1 elv49 hlv_2 (by decide) (Or.inl (by decide))
            have hlv49_3 : aj_lv lv49 3 = some (.int y3) := fx_e1 elv49 hlv_3 (by decide) (Or.inr rfl)
            have hlv49_4 : aj_lv lv49 4 = some (.int x48) := by rw [elv49]; exact ak_set1_eq _ _ _
            show fx_W _ _ _ 158 lv49 [] _ _
            refine fx_n (pc' := 30) (lv' := lv49) (st' := []) aj_d279 rfl (Nat.le_succ _) (fun _ => rfl) ?_
            exact (ih.2.2.1) lv49 (y2) (y3) (x48) X  hlv49_0 hlv49_1 hlv49_2 hlv49_3 hlv49_4
          · skip
            refine fx_qe (c := (y5).toInt = 0) (fx_f_eq q47) ?_
            show fx_W _ _ _ 140 lv [] _ _
            refine fx_i2 aj_d279 rfl (Nat.le_succ _) (fun _ => rfl) hlv_0 ?_
            refine fx_gF aj_d279 rfl (Nat.le_succ _) rfl rfl fx_in_11_20 (t := 136) rfl (fun hA50 => ?_)
            refine fx_i2 aj_d279 rfl (Nat.le_succ _) (fun _ => rfl) hlv_0 ?_
            refine fx_i0 aj_d279 rfl (Nat.le_succ _) (fun _ => rfl) hlv_1 ?_
            refine fx_i0 aj_d279 rfl (Nat.le_succ _) (fun _ => rfl) hlv_3 ?_
            refine fx_cv aj_d279 rfl (Nat.le_succ _) rfl [_, _] rfl rfl (gx_225_ok p1 y3) ?_
            rintro _ X51 ⟨w52, rfl, hR51⟩ hok51 hle51
            refine fx_qc hR51 ?_
            show fx_W _ _ _ 150 lv [.int w52, .ref 136] _ _
            refine fx_i0 aj_d279 rfl (Nat.le_succ _) (fun _ => rfl) hlv_2 ?_
            refine fx_n (pc' := 152) (lv' := lv) (st' := [.int (Int32.ofInt 0), .int y2, .int w52, .ref 136]) aj_d279 rfl (Nat.le_succ _) (fun _ => rfl) ?_
            refine fx_cs aj_d279 rfl (Nat.le_succ _) rfl rfl [_, _, _, _] rfl rfl (gx_228_ok 136 w52 y2 (Int32.ofInt 0)) ?_
            rintro _ X53 ⟨w54, rfl, hR53⟩ hok53 hle53
            refine fx_qc hR53 ?_
            show fx_W _ _ _ 155 lv [] _ _
            refine fx_incq aj_d279 rfl (Nat.le_succ _) hlv_4 (by decide) (fun x55 ex55 => ?_)
            obtain ⟨lv56, elv56⟩ : ∃ l, l = aj_set1 lv 4 (.int x55) := ⟨_, rfl⟩
            rw [← elv56]
            have hlv56_0 : aj_lv lv56 0 = some (.ref 117) := fx_e1 elv56 hlv_0 (by decide) (Or.inl (by decide))
            have hlv56_1 : aj_lv lv56 1 = some (.int p1) := fx_e1 elv56 hlv_1 (by decide) (Or.inl (by decide))
            have hlv56_2 : aj_lv lv56 2 = some (.int y2) := fx_e1 elv56 hlv_2 (by decide) (Or.inl (by decide))
            have hlv56_3 : aj_lv lv56 3 = some (.int y3) := fx_e1 elv56 hlv_3 (by decide) (Or.inr rfl)
            have hlv56_4 : aj_lv lv56 4 = some (.int x55) := by rw [elv56]; exact ak_set1_eq _ _ _
            show fx_W _ _ _ 158 lv56 [] _ _
            refine fx_n (pc' := 30) (lv' := lv56) (st' := []) aj_d279 rfl (Nat.le_succ _) (fun _ => rfl) ?_
            exact (ih.2.2.1) lv56 (y2) (y3) (x55) X53  hlv56_0 hlv56_1 hlv56_2 hlv56_3 hlv56_4
        · skip
          refine fx_qe (c := (y5).toInt = 0) (fx_f_eq q46) ?_
          show fx_W _ _ _ 98 lv [] _ _
          refine fx_i2 aj_d279 rfl (Nat.le_succ _) (fun _ => rfl) hlv_0 ?_
          refine fx_i0 aj_d279 rfl (Nat.le_succ _) (fun _ => rfl) hlv_1 ?_
          refine fx_i0 aj_d279 rfl (Nat.le_succ _) (fun _ => rfl) hlv_3 ?_
          refine fx_i0 aj_d279 rfl (Nat.le_succ _) (fun _ => rfl) hlv_6 ?_
          refine fx_i0 aj_d279 rfl (Nat.le_succ _) (fun _ => rfl) hlv_2 ?_
          refine fx_cv aj_d279 rfl (Nat.le_succ _) rfl [_, _, _, _] rfl rfl (gx_258_ok p1 y3 y6 y2) ?_
          rintro _ X57 ⟨w58, rfl, hR57⟩ hok57 hle57
          refine fx_qc hR57 ?_
          show fx_W _ _ _ 107 lv [.int w58] _ _
          refine fx_i2 aj_d279 rfl (Nat.le_succ _) (fun _ => rfl) hlv_0 ?_
          refine fx_i0 aj_d279 rfl (Nat.le_succ _) (fun _ => rfl) hlv_1 ?_
          refine fx_n (pc' := 110) (lv' := lv) (st' := [.int (Int32.ofInt 1), .int p1, .ref 117, .int w58]) aj_d279 rfl (Nat.le_succ _) (fun _ => rfl) ?_
          refine fx_n (pc' := 111) (lv' := lv) (st' := [.int (p1 + (Int32.ofInt 1)), .ref 117, .int w58]) aj_d279 rfl (Nat.le_succ _) (fun _ => rfl) ?_
          refine fx_i0 aj_d279 rfl (Nat.le_succ _) (fun _ => rfl) hlv_4 ?_
          refine fx_i0 aj_d279 rfl (Nat.le_succ _) (fun _ => rfl) hlv_6 ?_
          refine fx_i0 aj_d279 rfl (Nat.le_succ _) (fun _ => rfl) hlv_2 ?_
          refine fx_cv aj_d279 rfl (Nat.le_succ _) rfl [_, _, _, _] rfl rfl (gx_258_ok (p1 + (Int32.ofInt 1)) y4 y6 y2) ?_
          rintro _ X59 ⟨w60, rfl, hR59⟩ hok59 hle59
          refine fx_qc hR59 ?_
          show fx_W _ _ _ 119 lv [.int w60, .int w58] _ _
          refine fx_b (tgt := 126) aj_d279 rfl (Nat.le_succ _) rfl (fun q61 => ?_) (fun q61 => ?_)
          · skip
            refine fx_qe (c := (w58).toInt = (w60).toInt) (fx_t_ne q61) ?_
            show fx_W _ _ _ 126 lv [] _ _
            refine fx_n (pc' := 127) (lv' := lv) (st' := [.int (Int32.ofInt 0)]) aj_d279 rfl (Nat.le_succ _) (fun _ => rfl) ?_
            refine fx_s0 (j := 5) aj_d279 rfl (Nat.le_succ _) (by decide) (fun _ => rfl) ?_
            obtain ⟨lv62, elv62⟩ : ∃ l, l = aj_set1 lv 5 (.int (Int32.ofInt 0)) := ⟨_, rfl⟩
            rw [← elv62]
            have hlv62_0 : aj_lv lv62 0 = some (.ref 117) := fx_e1 elv62 hlv_0 (by decide) (Or.inl (by decide))
            have hlv62_1 : aj_lv lv62 1 = some (.int p1) := fx_e1 elv62 hlv_1 (by decide) (Or.inl (by decide))
            have hlv62_2 : aj_lv lv62 2 = some (.int y2) := fx_e1 elv62 hlv_2 (by decide) (Or.inl (by decide))
            have hlv62_3 : aj_lv lv62 3 = some (.int y3) := fx_e1 elv62 hlv_3 (by decide) (Or.inl (by decide))
            have hlv62_4 : aj_lv lv62 4 = some (.int y4) := fx_e1 elv62 hlv_4 (by decide) (Or.inr rfl)
            have hlv62_6 : aj_lv lv62 6 = some (.int y6) := fx_e1 elv62 hlv_6 (by decide) (Or.inl (by decide))
            have hlv62_5 : aj_lv lv62 5 = some (.int (Int32.ofInt 0)) := by rw [elv62]; exact ak_set1_eq _ _ _
            show fx_W _ _ _ 129 lv62 [] _ _
            refine fx_incq aj_d279 rfl (Nat.le_succ _) hlv62_6 (by decide) (fun x63 ex63 => ?_)
            obtain ⟨lv64, elv64⟩ : ∃ l, l = aj_set1 lv62 6 (.int x63) := ⟨_, rfl⟩
            rw [← elv64]
            have hlv64_0 : aj_lv lv64 0 = some (.ref 117) := fx_e1 elv64 hlv62_0 (by decide) (Or.inl (by decide))
            have hlv64_1 : aj_lv lv64 1 = some (.int p1) := fx_e1 elv64 hlv62_1 (by decide) (Or.inl (by decide))
            have hlv64_2 : aj_lv lv64 2 = some (.int y2) := fx_e1 elv64 hlv62_2 (by decide) (Or.inl (by decide))
            have hlv64_3 : aj_lv lv64 3 = some (.int y3) := fx_e1 elv64 hlv62_3 (by decide) (Or.inl (by decide))
            have hlv64_4 : aj_lv lv64 4 = some (.int y4) := fx_e1 elv64 hlv62_4 (by decide) (Or.inl (by decide))
            have hlv64_5 : aj_lv lv64 5 = some (.int (Int32.ofInt 0)) := fx_e1 elv64 hlv62_5 (by decide) (Or.inr rfl)
            have hlv64_6 : aj_lv lv64 6 = some (.int x63) := by rw [elv64]; exact ak_set1_eq _ _ _
            show fx_W _ _ _ 132 lv64 [] _ _
            refine fx_n (pc' := 82) (lv' := lv64) (st' := []) aj_d279 rfl (Nat.le_succ _) (fun _ => rfl) ?_
            exact (ih.2.2.2) lv64 (y2) (y3) (y4) ((Int32.ofInt 0)) (x63) X59  hlv64_0 hlv64_1 hlv64_2 hlv64_3 hlv64_4 hlv64_5 hlv64_6
          · skip
            refine fx_qi (c := (w58).toInt = (w60).toInt) (fx_f_ne q61) ?_
            show fx_W _ _ _ 122 lv [] _ _
            refine fx_n (pc' := 123) (lv' := lv) (st' := [.int (Int32.ofInt 1)]) aj_d279 rfl (Nat.le_succ _) (fun _ => rfl) ?_
            refine fx_n (pc' := 127) (lv' := lv) (st' := [.int (Int32.ofInt 1)]) aj_d279 rfl (Nat.le_succ _) (fun _ => rfl) ?_
            refine fx_s0 (j := 5) aj_d279 rfl (Nat.le_succ _) (by decide) (fun _ => rfl) ?_
            obtain ⟨lv65, elv65⟩ : ∃ l, l = aj_set1 lv 5 (.int (Int32.ofInt 1)) := ⟨_, rfl⟩
            rw [← elv65]
            have hlv65_0 : aj_lv lv65 0 = some (.ref 117) := fx_e1 elv65 hlv_0 (by decide) (Or.inl (by decide))
            have hlv65_1 : aj_lv lv65 1 = some (.int p1) := fx_e1 elv65 hlv_1 (by decide) (Or.inl (by decide))
            have hlv65_2 : aj_lv lv65 2 = some (.int y2) := fx_e1 elv65 hlv_2 (by decide) (Or.inl (by decide))
            have hlv65_3 : aj_lv lv65 3 = some (.int y3) := fx_e1 elv65 hlv_3 (by decide) (Or.inl (by decide))
            have hlv65_4 : aj_lv lv65 4 = some (.int y4) := fx_e1 elv65 hlv_4 (by decide) (Or.inr rfl)
            have hlv65_6 : aj_lv lv65 6 = some (.int y6) := fx_e1 elv65 hlv_6 (by decide) (Or.inl (by decide))
            have hlv65_5 : aj_lv lv65 5 = some (.int (Int32.ofInt 1)) := by rw [elv65]; exact ak_set1_eq _ _ _
            show fx_W _ _ _ 129 lv65 [] _ _
            refine fx_incq aj_d279 rfl (Nat.le_succ _) hlv65_6 (by decide) (fun x66 ex66 => ?_)
            obtain ⟨lv67, elv67⟩ : ∃ l, l = aj_set1 lv65 6 (.int x66) := ⟨_, rfl⟩
            rw [← elv67]
            have hlv67_0 : aj_lv lv67 0 = some (.ref 117) := fx_e1 elv67 hlv65_0 (by decide) (Or.inl (by decide))
            have hlv67_1 : aj_lv lv67 1 = some (.int p1) := fx_e1 elv67 hlv65_1 (by decide) (Or.inl (by decide))
            have hlv67_2 : aj_lv lv67 2 = some (.int y2) := fx_e1 elv67 hlv65_2 (by decide) (Or.inl (by decide))
            have hlv67_3 : aj_lv lv67 3 = some (.int y3) := fx_e1 elv67 hlv65_3 (by decide) (Or.inl (by decide))
            have hlv67_4 : aj_lv lv67 4 = some (.int y4) := fx_e1 elv67 hlv65_4 (by decide) (Or.inl (by decide))
            have hlv67_5 : aj_lv lv67 5 = some (.int (Int32.ofInt 1)) := fx_e1 elv67 hlv65_5 (by decide) (Or.inr rfl)
            have hlv67_6 : aj_lv lv67 6 = some (.int x66) := by rw [elv67]; exact ak_set1_eq _ _ _
            show fx_W _ _ _ 132 lv67 [] _ _
            refine fx_n (pc' := 82) (lv' := lv67) (st' := []) aj_d279 rfl (Nat.le_succ _) (fun _ => rfl) ?_
            exact (ih.2.2.2) lv67 (y2) (y3) (y4) ((Int32.ofInt 1)) (x66) X59  hlv67_0 hlv67_1 hlv67_2 hlv67_3 hlv67_4 hlv67_5 hlv67_6
theorem gx_279_ok {tb : aj_T} (p1 : Int32) {X : fx_X} : fx_K tb 279 [.ref 117, .int p1] X (fx_Q fx_qI (fun v X' => gx_279 p1 X v X')) := by
  refine fx_m aj_m279_at rfl (fun N => ?_)
  refine fx_mono (Q := fx_Q fx_qI (fun v X' => ∃ n : Nat, gxE_279 p1 (gxF_279 p1 n) X v X')) (fun r X' h => h) ?_
  unfold gxE_279
  show fx_W _ _ _ 0 [(0, .ref 117), (1, .int p1)] [] _ _
  obtain ⟨lv1, elv1⟩ : ∃ l : aj_V, l = [(0, .ref 117), (1, .int p1)] := ⟨_, rfl⟩
  rw [← elv1]
  have hlv1_0 : aj_lv lv1 0 = some (.ref 117) := by rw [elv1]; rfl
  have hlv1_1 : aj_lv lv1 1 = some (.int p1) := by rw [elv1]; rfl
  refine fx_n (pc' := 1) (lv' := lv1) (st' := [.int (Int32.ofInt 0)]) aj_d279 rfl (Nat.le_succ _) (fun _ => rfl) ?_
  refine fx_s0 (j := 2) aj_d279 rfl (Nat.le_succ _) (by decide) (fun _ => rfl) ?_
  obtain ⟨lv2, elv2⟩ : ∃ l, l = aj_set1 lv1 2 (.int (Int32.ofInt 0)) := ⟨_, rfl⟩
  rw [← elv2]
  have hlv2_0 : aj_lv lv2 0 = some (.ref 117) := fx_e1 elv2 hlv1_0 (by decide) (Or.inl (by decide))
  have hlv2_1 : aj_lv lv2 1 = some (.int p1) := fx_e1 elv2 hlv1_1 (by decide) (Or.inr rfl)
  have hlv2_2 : aj_lv lv2 2 = some (.int (Int32.ofInt 0)) := by rw [elv2]; exact ak_set1_eq _ _ _
  show fx_W _ _ _ 2 lv2 [] _ _
  exact ((gxL_279 p1 N).1) lv2 ((Int32.ofInt 0)) X  hlv2_0 hlv2_1 hlv2_2
def gxT_278_30 (p1 : Int32) (p2 : Int32) (P : Nat → List Int32 → List Int64 → List Nat → fx_X → Int32 → fx_X → Prop) (y3 : Int32) (X : fx_X) (v : Int32) (X' : fx_X) : Prop :=
  (0 ≤ ((p1 + (Int32.ofInt 1))).toInt ∧ ((p1 + (Int32.ofInt 1))).toInt < ((50 : Nat) : Int)) ∧ (if (y3).toInt < ((X.1 131 ((p1 + (Int32.ofInt 1))).toInt.toNat)).toInt then ((0 ≤ (p1).toInt ∧ (p1).toInt < ((50 : Nat) : Int)) ∧ ∃ (w22 : Unit) (X21 : fx_X), gx_252 (p1 + (Int32.ofInt 1)) y3 p1 ((X.1 131 (p1).toInt.toNat) + y3) X w22 X21 ∧ ∃ x23 : Int32, x23 = y3 + Int32.ofInt 1 ∧ P 30 [x23] [] [] X21 v X') else ((0 ≤ (p1).toInt ∧ (p1).toInt < ((50 : Nat) : Int)) ∧ (0 ≤ ((p1 + (Int32.ofInt 1))).toInt ∧ ((p1 + (Int32.ofInt 1))).toInt < ((50 : Nat) : Int)) ∧ (0 ≤ (p1).toInt ∧ (p1).toInt < ((50 : Nat) : Int)) ∧ ∃ X18 : fx_X, X18 = (fx_wI X 131 (p1).toInt.toNat ((X.1 131 (p1).toInt.toNat) + (X.1 131 ((p1 + (Int32.ofInt 1))).toInt.toNat))) ∧ v = (Int32.ofInt 1) ∧ X' = X18))
def gxE_278 (p1 : Int32) (p2 : Int32) (P : Nat → List Int32 → List Int64 → List Nat → fx_X → Int32 → fx_X → Prop) (X : fx_X) (v : Int32) (X' : fx_X) : Prop :=
  (0 ≤ (p1).toInt ∧ (p1).toInt < ((50 : Nat) : Int)) ∧ (0 ≤ ((p1 + (Int32.ofInt 1))).toInt ∧ ((p1 + (Int32.ofInt 1))).toInt < ((50 : Nat) : Int)) ∧ (if 30 < (((X.1 131 (p1).toInt.toNat) + (X.1 131 ((p1 + (Int32.ofInt 1))).toInt.toNat))).toInt then (∃ (w9 : Int32) (X8 : fx_X), gx_215 ((Int8.ofInt 6).toInt32) p2 X w9 X8 ∧ v = w9 ∧ X' = X8) else (P 30 [(Int32.ofInt 0)] [] [] X v X'))
noncomputable def gxF_278 (p1 : Int32) (p2 : Int32) (n : Nat) : Nat → List Int32 → List Int64 → List Nat → fx_X → Int32 → fx_X → Prop := Nat.rec (motive := fun _ => Nat → List Int32 → List Int64 → List Nat → fx_X → Int32 → fx_X → Prop) (fun _ _ _ _ _ _ _ => False) (fun _ P l is ls rs X v X' => (l = 30 ∧ ∃ (y3 : Int32), is = [y3] ∧ ls = [] ∧ rs = [] ∧ gxT_278_30 p1 p2 P y3 X v X')) n
theorem gxI_278_30 {p1 : Int32} {p2 : Int32} {n : Nat} {y3 : Int32} {X : fx_X} {v : Int32} {X' : fx_X} (h : gxT_278_30 p1 p2 (gxF_278 p1 p2 n) y3 X v X') : gxF_278 p1 p2 (n + 1) 30 [y3] [] [] X v X' := ⟨rfl, y3, rfl, rfl, rfl, h⟩
theorem gxO_278_30 {p1 : Int32} {p2 : Int32} {n : Nat} {y3 : Int32} {X : fx_X} {v : Int32} {X' : fx_X} (h : gxF_278 p1 p2 (n + 1) 30 [y3] [] [] X v X') : gxT_278_30 p1 p2 (gxF_278 p1 p2 n) y3 X v X' := by
  rcases h with ⟨-, _, e1, e2, e3, h⟩
  · cases e1; cases e2; cases e3; exact h
def gx_278 (p1 : Int32) (p2 : Int32) (X : fx_X) (v : Int32) (X' : fx_X) : Prop := ∃ n : Nat, gxE_278 p1 p2 (gxF_278 p1 p2 n) X v X'
theorem gxL_278 {tb : aj_T} (p1 : Int32) (p2 : Int32) : ∀ N : Nat, (∀ (lv : aj_V) (y3 : Int32) (X : fx_X), aj_lv lv 0 = some (.ref 117) → aj_lv lv 1 = some (.int p1) → aj_lv lv 3 = some (.int y3) → fx_W tb aj_m278 N 30 lv [] X (fx_Q fx_qI (fun v X' => ∃ n : Nat, gxF_278 p1 p2 n 30 [y3] [] [] X v X'))) := by
  intro N
  induction N with
  | zero => exact (by intros; exact fx_z)
  | succ N ih =>
    skip
    · intro lv y3 X hlv_0 hlv_1 hlv_3
      refine fx_mono (Q := fx_Q fx_qI (fun v X' => ∃ n : Nat, gxT_278_30 p1 p2 (gxF_278 p1 p2 n) y3 X v X')) (fun r X' ⟨v, e, n, z⟩ => ⟨v, e, n + 1, gxI_278_30 z⟩) ?_
      unfold gxT_278_30
      refine fx_i0 aj_d278 rfl (Nat.le_refl _) (fun _ => rfl) hlv_3 ?_
      refine fx_i2 aj_d278 rfl (Nat.le_succ _) (fun _ => rfl) hlv_0 ?_
      refine fx_gF aj_d278 rfl (Nat.le_succ _) rfl rfl fx_in_11_15 (t := 131) rfl (fun hA10 => ?_)
      refine fx_i0 aj_d278 rfl (Nat.le_succ _) (fun _ => rfl) hlv_1 ?_
      refine fx_n (pc' := 37) (lv' := lv) (st' := [.int (Int32.ofInt 1), .int p1, .ref 131, .int y3]) aj_d278 rfl (Nat.le_succ _) (fun _ => rfl) ?_
      refine fx_n (pc' := 38) (lv' := lv) (st' := [.int (p1 + (Int32.ofInt 1)), .ref 131, .int y3]) aj_d278 rfl (Nat.le_succ _) (fun _ => rfl) ?_
      refine fx_ld aj_d278 (Or.inl rfl) rfl (Nat.le_succ _) (fun g110 g111 => ?_)
      show fx_W _ _ _ 39 lv [.int (X.1 131 ((p1 + (Int32.ofInt 1))).toInt.toNat), .int y3] _ _
      refine fx_qa (c := 0 ≤ ((p1 + (Int32.ofInt 1))).toInt ∧ ((p1 + (Int32.ofInt 1))).toInt < ((50 : Nat) : Int)) ⟨g110, fx_lnk g111 hA10⟩ ?_
      refine fx_b (tgt := 65) aj_d278 rfl (Nat.le_succ _) rfl (fun q12 => ?_) (fun q12 => ?_)
      · skip
        refine fx_qe (c := (y3).toInt < ((X.1 131 ((p1 + (Int32.ofInt 1))).toInt.toNat)).toInt) (fx_t_ge q12) ?_
        show fx_W _ _ _ 65 lv [] _ _
        refine fx_i2 aj_d278 rfl (Nat.le_succ _) (fun _ => rfl) hlv_0 ?_
        refine fx_gF aj_d278 rfl (Nat.le_succ _) rfl rfl fx_in_11_15 (t := 131) rfl (fun hA13 => ?_)
        refine fx_i0 aj_d278 rfl (Nat.le_succ _) (fun _ => rfl) hlv_1 ?_
        refine fx_n (pc' := 71) (lv' := lv) (st' := [.int p1, .ref 131, .int p1, .ref 131]) aj_d278 rfl (Nat.le_succ _) (fun _ => rfl) ?_
        refine fx_ld aj_d278 (Or.inl rfl) rfl (Nat.le_succ _) (fun g140 g141 => ?_)
        show fx_W _ _ _ 72 lv [.int (X.1 131 (p1).toInt.toNat), .int p1, .ref 131] _ _
        refine fx_qa (c := 0 ≤ (p1).toInt ∧ (p1).toInt < ((50 : Nat) : Int)) ⟨g140, fx_lnk g141 hA13⟩ ?_
        refine fx_i2 aj_d278 rfl (Nat.le_succ _) (fun _ => rfl) hlv_0 ?_
        refine fx_gF aj_d278 rfl (Nat.le_succ _) rfl rfl fx_in_11_15 (t := 131) rfl (fun hA15 => ?_)
        refine fx_i0 aj_d278 rfl (Nat.le_succ _) (fun _ => rfl) hlv_1 ?_
        refine fx_n (pc' := 78) (lv' := lv) (st' := [.int (Int32.ofInt 1), .int p1, .ref 131, .int (X.1 131 (p1).toInt.toNat), .int p1, .ref 131]) aj_d278 rfl (Nat.le_succ _) (fun _ => rfl) ?_
        refine fx_n (pc' := 79) (lv' := lv) (st' := [.int (p1 + (Int32.ofInt 1)), .ref 131, .int (X.1 131 (p1).toInt.toNat), .int p1, .ref 131]) aj_d278 rfl (Nat.le_succ _) (fun _ => rfl) ?_
        refine fx_ld aj_d278 (Or.inl rfl) rfl (Nat.le_succ _) (fun g160 g161 => ?_)
        show fx_W _ _ _ 80 lv [.int (X.1 131 ((p1 + (Int32.ofInt 1))).toInt.toNat), .int (X.1 131 (p1).toInt.toNat), .int p1, .ref 131] _ _
        refine fx_qa (c := 0 ≤ ((p1 + (Int32.ofInt 1))).toInt ∧ ((p1 + (Int32.ofInt 1))).toInt < ((50 : Nat) : Int)) ⟨g160, fx_lnk g161 hA15⟩ ?_
        refine fx_n (pc' := 81) (lv' := lv) (st' := [.int ((X.1 131 (p1).toInt.toNat) + (X.1 131 ((p1 + (Int32.ofInt 1))).toInt.toNat)), .int p1, .ref 131]) aj_d278 rfl (Nat.le_succ _) (fun _ => rfl) ?_
        refine fx_st aj_d278 (Or.inl ⟨rfl, rfl⟩) rfl (Nat.le_succ _) (fun g170 g171 => ?_)
        show fx_W _ _ _ _ _ _ (fx_wI X 131 (p1).toInt.toNat ((X.1 131 (p1).toInt.toNat) + (X.1 131 ((p1 + (Int32.ofInt 1))).toInt.toNat))) _
        refine fx_qa (c := 0 ≤ (p1).toInt ∧ (p1).toInt < ((50 : Nat) : Int)) ⟨g170, fx_lnk g171 hA13⟩ ?_
        refine fx_qX (fun X18 eX18 => ?_)
        show fx_W _ _ _ 82 lv [] _ _
        refine fx_n (pc' := 83) (lv' := lv) (st' := [.int (Int32.ofInt 1)]) aj_d278 rfl (Nat.le_succ _) (fun _ => rfl) ?_
        exact fx_ri aj_d278 rfl ⟨_, rfl, 0, rfl, rfl⟩
      · skip
        refine fx_qi (c := (y3).toInt < ((X.1 131 ((p1 + (Int32.ofInt 1))).toInt.toNat)).toInt) (fx_f_ge q12) ?_
        show fx_W _ _ _ 42 lv [] _ _
        refine fx_i2 aj_d278 rfl (Nat.le_succ _) (fun _ => rfl) hlv_0 ?_
        refine fx_i0 aj_d278 rfl (Nat.le_succ _) (fun _ => rfl) hlv_1 ?_
        refine fx_n (pc' := 45) (lv' := lv) (st' := [.int (Int32.ofInt 1), .int p1, .ref 117]) aj_d278 rfl (Nat.le_succ _) (fun _ => rfl) ?_
        refine fx_n (pc' := 46) (lv' := lv) (st' := [.int (p1 + (Int32.ofInt 1)), .ref 117]) aj_d278 rfl (Nat.le_succ _) (fun _ => rfl) ?_
        refine fx_i0 aj_d278 rfl (Nat.le_succ _) (fun _ => rfl) hlv_3 ?_
        refine fx_i0 aj_d278 rfl (Nat.le_succ _) (fun _ => rfl) hlv_1 ?_
        refine fx_i2 aj_d278 rfl (Nat.le_succ _) (fun _ => rfl) hlv_0 ?_
        refine fx_gF aj_d278 rfl (Nat.le_succ _) rfl rfl fx_in_11_15 (t := 131) rfl (fun hA19 => ?_)
        refine fx_i0 aj_d278 rfl (Nat.le_succ _) (fun _ => rfl) hlv_1 ?_
        refine fx_ld aj_d278 (Or.inl rfl) rfl (Nat.le_succ _) (fun g200 g201 => ?_)
        show fx_W _ _ _ 54 lv [.int (X.1 131 (p1).toInt.toNat), .int p1, .int y3, .int (p1 + (Int32.ofInt 1)), .ref 117] _ _
        refine fx_qa (c := 0 ≤ (p1).toInt ∧ (p1).toInt < ((50 : Nat) : Int)) ⟨g200, fx_lnk g201 hA19⟩ ?_
        refine fx_i0 aj_d278 rfl (Nat.le_succ _) (fun _ => rfl) hlv_3 ?_
        refine fx_n (pc' := 56) (lv' := lv) (st' := [.int ((X.1 131 (p1).toInt.toNat) + y3), .int p1, .int y3, .int (p1 + (Int32.ofInt 1)), .ref 117]) aj_d278 rfl (Nat.le_succ _) (fun _ => rfl) ?_
        refine fx_cv aj_d278 rfl (Nat.le_succ _) rfl [_, _, _, _] rfl rfl (gx_252_ok (p1 + (Int32.ofInt 1)) y3 p1 ((X.1 131 (p1).toInt.toNat) + y3)) ?_
        rintro _ X21 ⟨w22, rfl, hR21⟩ hok21 hle21
        refine fx_qc hR21 ?_
        show fx_W _ _ _ 59 lv [] _ _
        refine fx_incq aj_d278 rfl (Nat.le_succ _) hlv_3 (by decide) (fun x23 ex23 => ?_)
        obtain ⟨lv24, elv24⟩ : ∃ l, l = aj_set1 lv 3 (.int x23) := ⟨_, rfl⟩
        rw [← elv24]
        have hlv24_0 : aj_lv lv24 0 = some (.ref 117) := fx_e1 elv24 hlv_0 (by decide) (Or.inl (by decide))
        have hlv24_1 : aj_lv lv24 1 = some (.int p1) := fx_e1 elv24 hlv_1 (by decide) (Or.inl (by decide))
        have hlv24_3 : aj_lv lv24 3 = some (.int x23) := by rw [elv24]; exact ak_set1_eq _ _ _
        show fx_W _ _ _ 62 lv24 [] _ _
        refine fx_n (pc' := 30) (lv' := lv24) (st' := []) aj_d278 rfl (Nat.le_succ _) (fun _ => rfl) ?_
        exact (ih) lv24 (x23) X21  hlv24_0 hlv24_1 hlv24_3
theorem gx_278_ok {tb : aj_T} (p1 : Int32) (p2 : Int32) {X : fx_X} : fx_K tb 278 [.ref 117, .int p1, .int p2] X (fx_Q fx_qI (fun v X' => gx_278 p1 p2 X v X')) := by
  refine fx_m aj_m278_at rfl (fun N => ?_)
  refine fx_mono (Q := fx_Q fx_qI (fun v X' => ∃ n : Nat, gxE_278 p1 p2 (gxF_278 p1 p2 n) X v X')) (fun r X' h => h) ?_
  unfold gxE_278
  show fx_W _ _ _ 0 [(0, .ref 117), (1, .int p1), (2, .int p2)] [] _ _
  obtain ⟨lv1, elv1⟩ : ∃ l : aj_V, l = [(0, .ref 117), (1, .int p1), (2, .int p2)] := ⟨_, rfl⟩
  rw [← elv1]
  have hlv1_0 : aj_lv lv1 0 = some (.ref 117) := by rw [elv1]; rfl
  have hlv1_1 : aj_lv lv1 1 = some (.int p1) := by rw [elv1]; rfl
  have hlv1_2 : aj_lv lv1 2 = some (.int p2) := by rw [elv1]; rfl
  refine fx_i2 aj_d278 rfl (Nat.le_succ _) (fun _ => rfl) hlv1_0 ?_
  refine fx_gF aj_d278 rfl (Nat.le_succ _) rfl rfl fx_in_11_15 (t := 131) rfl (fun hA2 => ?_)
  refine fx_i0 aj_d278 rfl (Nat.le_succ _) (fun _ => rfl) hlv1_1 ?_
  refine fx_ld aj_d278 (Or.inl rfl) rfl (Nat.le_succ _) (fun g30 g31 => ?_)
  show fx_W _ _ _ 6 lv1 [.int (X.1 131 (p1).toInt.toNat)] _ _
  refine fx_qa (c := 0 ≤ (p1).toInt ∧ (p1).toInt < ((50 : Nat) : Int)) ⟨g30, fx_lnk g31 hA2⟩ ?_
  refine fx_i2 aj_d278 rfl (Nat.le_succ _) (fun _ => rfl) hlv1_0 ?_
  refine fx_gF aj_d278 rfl (Nat.le_succ _) rfl rfl fx_in_11_15 (t := 131) rfl (fun hA4 => ?_)
  refine fx_i0 aj_d278 rfl (Nat.le_succ _) (fun _ => rfl) hlv1_1 ?_
  refine fx_n (pc' := 12) (lv' := lv1) (st' := [.int (Int32.ofInt 1), .int p1, .ref 131, .int (X.1 131 (p1).toInt.toNat)]) aj_d278 rfl (Nat.le_succ _) (fun _ => rfl) ?_
  refine fx_n (pc' := 13) (lv' := lv1) (st' := [.int (p1 + (Int32.ofInt 1)), .ref 131, .int (X.1 131 (p1).toInt.toNat)]) aj_d278 rfl (Nat.le_succ _) (fun _ => rfl) ?_
  refine fx_ld aj_d278 (Or.inl rfl) rfl (Nat.le_succ _) (fun g50 g51 => ?_)
  show fx_W _ _ _ 14 lv1 [.int (X.1 131 ((p1 + (Int32.ofInt 1))).toInt.toNat), .int (X.1 131 (p1).toInt.toNat)] _ _
  refine fx_qa (c := 0 ≤ ((p1 + (Int32.ofInt 1))).toInt ∧ ((p1 + (Int32.ofInt 1))).toInt < ((50 : Nat) : Int)) ⟨g50, fx_lnk g51 hA4⟩ ?_
  refine fx_n (pc' := 15) (lv' := lv1) (st' := [.int ((X.1 131 (p1).toInt.toNat) + (X.1 131 ((p1 + (Int32.ofInt 1))).toInt.toNat))]) aj_d278 rfl (Nat.le_succ _) (fun _ => rfl) ?_
  refine fx_n (pc' := 17) (lv' := lv1) (st' := [.int ((Int8.ofInt 30).toInt32), .int ((X.1 131 (p1).toInt.toNat) + (X.1 131 ((p1 + (Int32.ofInt 1))).toInt.toNat))]) aj_d278 rfl (Nat.le_succ _) (fun _ => rfl) ?_
  refine fx_b (tgt := 28) aj_d278 rfl (Nat.le_succ _) rfl (fun q6 => ?_) (fun q6 => ?_)
  · skip
    refine fx_qe (c := 30 < (((X.1 131 (p1).toInt.toNat) + (X.1 131 ((p1 + (Int32.ofInt 1))).toInt.toNat))).toInt) (fx_t_le q6) ?_
    show fx_W _ _ _ 28 lv1 [] _ _
    refine fx_n (pc' := 29) (lv' := lv1) (st' := [.int (Int32.ofInt 0)]) aj_d278 rfl (Nat.le_succ _) (fun _ => rfl) ?_
    refine fx_s0 (j := 3) aj_d278 rfl (Nat.le_succ _) (by decide) (fun _ => rfl) ?_
    obtain ⟨lv7, elv7⟩ : ∃ l, l = aj_set1 lv1 3 (.int (Int32.ofInt 0)) := ⟨_, rfl⟩
    rw [← elv7]
    have hlv7_0 : aj_lv lv7 0 = some (.ref 117) := fx_e1 elv7 hlv1_0 (by decide) (Or.inl (by decide))
    have hlv7_1 : aj_lv lv7 1 = some (.int p1) := fx_e1 elv7 hlv1_1 (by decide) (Or.inl (by decide))
    have hlv7_3 : aj_lv lv7 3 = some (.int (Int32.ofInt 0)) := by rw [elv7]; exact ak_set1_eq _ _ _
    show fx_W _ _ _ 30 lv7 [] _ _
    exact ((gxL_278 p1 p2 N)) lv7 ((Int32.ofInt 0)) X  hlv7_0 hlv7_1 hlv7_3
  · skip
    refine fx_qi (c := 30 < (((X.1 131 (p1).toInt.toNat) + (X.1 131 ((p1 + (Int32.ofInt 1))).toInt.toNat))).toInt) (fx_f_le q6) ?_
    show fx_W _ _ _ 20 lv1 [] _ _
    refine fx_i2 aj_d278 rfl (Nat.le_succ _) (fun _ => rfl) hlv1_0 ?_
    refine fx_n (pc' := 23) (lv' := lv1) (st' := [.int ((Int8.ofInt 6).toInt32), .ref 117]) aj_d278 rfl (Nat.le_succ _) (fun _ => rfl) ?_
    refine fx_i0 aj_d278 rfl (Nat.le_succ _) (fun _ => rfl) hlv1_2 ?_
    refine fx_cv aj_d278 rfl (Nat.le_succ _) rfl [_, _] rfl rfl (gx_215_ok ((Int8.ofInt 6).toInt32) p2) ?_
    rintro _ X8 ⟨w9, rfl, hR8⟩ hok8 hle8
    refine fx_qc hR8 ?_
    show fx_W _ _ _ 27 lv1 [.int w9] _ _
    exact fx_ri aj_d278 rfl ⟨_, rfl, 0, rfl, rfl⟩
def gxT_274_109 (P : Nat → List Int32 → List Int64 → List Nat → fx_X → Int32 → fx_X → Prop) (y1 : Int32) (y2 : Int32) (y3 : Int32) (y4 : Int32) (X : fx_X) (v : Int32) (X' : fx_X) : Prop :=
  (if (y4).toInt = 0 then ((0 ≤ (y3).toInt ∧ (y3).toInt < ((50 : Nat) : Int)) ∧ ∃ X37 : fx_X, X37 = (fx_wI X 132 (y3).toInt.toNat (Int32.ofInt (-1))) ∧ v = (Int32.ofInt 1) ∧ X' = X37) else (∃ (w39 : Int32) (X38 : fx_X), gx_277 y3 (y3 + (Int32.ofInt 1)) X w39 X38 ∧ (if (w39).toInt = 0 then ((0 ≤ (y3).toInt ∧ (y3).toInt < ((50 : Nat) : Int)) ∧ ∃ X51 : fx_X, X51 = (fx_wI X38 132 (y3).toInt.toNat (Int32.ofInt (-1))) ∧ v = (Int32.ofInt 1) ∧ X' = X51) else ((if ((X38.1 117 32)).toInt = 0 then (v = (Int32.ofInt 1) ∧ X' = X38) else ((if (y1).toInt = 43 then (∃ (w47 : Int32) (X46 : fx_X), gx_278 y3 y2 X38 w47 X46 ∧ (if (w47).toInt = 0 then (v = (Int32.ofInt 0) ∧ X' = X46) else (v = (Int32.ofInt 1) ∧ X' = X46))) else (∃ (w44 : Int32) (X43 : fx_X), gx_279 y3 X38 w44 X43 ∧ (if (w44).toInt = 0 then (v = (Int32.ofInt 0) ∧ X' = X43) else (v = (Int32.ofInt 1) ∧ X' = X43))))))))))
def gxE_274 (P : Nat → List Int32 → List Int64 → List Nat → fx_X → Int32 → fx_X → Prop) (X : fx_X) (v : Int32) (X' : fx_X) : Prop :=
  ∃ X2 : fx_X, X2 = (fx_wI X 117 50 ((X.1 117 50) - (Int32.ofInt 1))) ∧ (0 ≤ ((X2.1 117 50)).toInt ∧ ((X2.1 117 50)).toInt < ((64 : Nat) : Int)) ∧ ∃ x5 : Int32, x5 = (X2.1 140 ((X2.1 117 50)).toInt.toNat) ∧ (0 ≤ ((X2.1 117 50)).toInt ∧ ((X2.1 117 50)).toInt < ((64 : Nat) : Int)) ∧ ∃ x9 : Int32, x9 = (X2.1 141 ((X2.1 117 50)).toInt.toNat) ∧ ∃ X11 : fx_X, X11 = (fx_wI X2 117 51 ((X2.1 117 51) - (Int32.ofInt 1))) ∧ ∃ x12 : Int32, x12 = ((X11.1 117 51) - (Int32.ofInt 1)) ∧ (if (x5).toInt = 42 then (∃ (w33 : Int32) (X32 : fx_X), gx_275 x12 x9 X11 w33 X32 ∧ v = w33 ∧ X' = X32) else ((0 ≤ (x12).toInt ∧ (x12).toInt < ((50 : Nat) : Int)) ∧ (if ((X11.1 132 (x12).toInt.toNat)).toInt < 0 then (P 109 [x5, x9, x12, (Int32.ofInt 0)] [] [] X11 v X') else ((0 ≤ ((x12 + (Int32.ofInt 1))).toInt ∧ ((x12 + (Int32.ofInt 1))).toInt < ((50 : Nat) : Int)) ∧ (if ((X11.1 132 ((x12 + (Int32.ofInt 1))).toInt.toNat)).toInt < 0 then (P 109 [x5, x9, x12, (Int32.ofInt 0)] [] [] X11 v X') else (∃ (w28 : Int32) (X27 : fx_X), gx_277 x12 (x12 + (Int32.ofInt 1)) X11 w28 X27 ∧ (if (w28).toInt = 0 then (∃ (w31 : Unit) (X30 : fx_X), gx_218 (Int32.ofInt 5) x9 X27 w31 X30 ∧ P 109 [x5, x9, x12, (Int32.ofInt 1)] [] [] X30 v X') else (P 109 [x5, x9, x12, (Int32.ofInt 1)] [] [] X27 v X'))))))))
noncomputable def gxF_274 (n : Nat) : Nat → List Int32 → List Int64 → List Nat → fx_X → Int32 → fx_X → Prop := Nat.rec (motive := fun _ => Nat → List Int32 → List Int64 → List Nat → fx_X → Int32 → fx_X → Prop) (fun _ _ _ _ _ _ _ => False) (fun _ P l is ls rs X v X' => (l = 109 ∧ ∃ (y1 : Int32) (y2 : Int32) (y3 : Int32) (y4 : Int32), is = [y1, y2, y3, y4] ∧ ls = [] ∧ rs = [] ∧ gxT_274_109 P y1 y2 y3 y4 X v X')) n
theorem gxI_274_109 {n : Nat} {y1 : Int32} {y2 : Int32} {y3 : Int32} {y4 : Int32} {X : fx_X} {v : Int32} {X' : fx_X} (h : gxT_274_109 (gxF_274 n) y1 y2 y3 y4 X v X') : gxF_274 (n + 1) 109 [y1, y2, y3, y4] [] [] X v X' := ⟨rfl, y1, y2, y3, y4, rfl, rfl, rfl, h⟩
theorem gxO_274_109 {n : Nat} {y1 : Int32} {y2 : Int32} {y3 : Int32} {y4 : Int32} {X : fx_X} {v : Int32} {X' : fx_X} (h : gxF_274 (n + 1) 109 [y1, y2, y3, y4] [] [] X v X') : gxT_274_109 (gxF_274 n) y1 y2 y3 y4 X v X' := by
  rcases h with ⟨-, _, _, _, _, e1, e2, e3, h⟩
  · cases e1; cases e2; cases e3; exact h
def gx_274 (X : fx_X) (v : Int32) (X' : fx_X) : Prop := ∃ n : Nat, gxE_274 (gxF_274 n) X v X'
theorem gxL_274 {tb : aj_T} : ∀ N : Nat, (∀ (lv : aj_V) (y1 : Int32) (y2 : Int32) (y3 : Int32) (y4 : Int32) (X : fx_X), aj_lv lv 0 = some (.ref 117) → aj_lv lv 1 = some (.int y1) → aj_lv lv 2 = some (.int y2) → aj_lv lv 3 = some (.int y3) → aj_lv lv 4 = some (.int y4) → fx_W tb aj_m274 N 109 lv [] X (fx_Q fx_qI (fun v X' => ∃ n : Nat, gxF_274 n 109 [y1, y2, y3, y4] [] [] X v X'))) := by
  intro N
  induction N with
  | zero => exact (by intros; exact fx_z)
  | succ N ih =>
    skip
    · intro lv y1 y2 y3 y4 X hlv_0 hlv_1 hlv_2 hlv_3 hlv_4
      refine fx_mono (Q := fx_Q fx_qI (fun v X' => ∃ n : Nat, gxT_274_109 (gxF_274 n) y1 y2 y3 y4 X v X')) (fun r X' ⟨v, e, n, z⟩ => ⟨v, e, n + 1, gxI_274_109 z⟩) ?_
      unfold gxT_274_109
      refine fx_i0 aj_d274 rfl (Nat.le_refl _) (fun _ => rfl) hlv_4 ?_
      refine fx_b0 (tgt := 125) aj_d274 rfl (Nat.le_succ _) rfl (fun q34 => ?_) (fun q34 => ?_)
      · skip
        refine fx_qi (c := (y4).toInt = 0) (fx_t_eq q34) ?_
        show fx_W _ _ _ 125 lv [] _ _
        refine fx_i2 aj_d274 rfl (Nat.le_succ _) (fun _ => rfl) hlv_0 ?_
        refine fx_gF aj_d274 rfl (Nat.le_succ _) rfl rfl fx_in_11_16 (t := 132) rfl (fun hA35 => ?_)
        refine fx_i0 aj_d274 rfl (Nat.le_succ _) (fun _ => rfl) hlv_3 ?_
        refine fx_n (pc' := 131) (lv' := lv) (st' := [.int (Int32.ofInt (-1)), .int y3, .ref 132]) aj_d274 rfl (Nat.le_succ _) (fun _ => rfl) ?_
        refine fx_st aj_d274 (Or.inl ⟨rfl, rfl⟩) rfl (Nat.le_succ _) (fun g360 g361 => ?_)
        show fx_W _ _ _ _ _ _ (fx_wI X 132 (y3).toInt.toNat (Int32.ofInt (-1))) _
        refine fx_qa (c := 0 ≤ (y3).toInt ∧ (y3).toInt < ((50 : Nat) : Int)) ⟨g360, fx_lnk g361 hA35⟩ ?_
        refine fx_qX (fun X37 eX37 => ?_)
        show fx_W _ _ _ 132 lv [] _ _
        refine fx_n (pc' := 133) (lv' := lv) (st' := [.int (Int32.ofInt 1)]) aj_d274 rfl (Nat.le_succ _) (fun _ => rfl) ?_
        exact fx_ri aj_d274 rfl ⟨_, rfl, 0, rfl, rfl⟩
      · skip
        refine fx_qe (c := (y4).toInt = 0) (fx_f_eq q34) ?_
        show fx_W _ _ _ 114 lv [] _ _
        refine fx_i2 aj_d274 rfl (Nat.le_succ _) (fun _ => rfl) hlv_0 ?_
        refine fx_i0 aj_d274 rfl (Nat.le_succ _) (fun _ => rfl) hlv_3 ?_
        refine fx_i0 aj_d274 rfl (Nat.le_succ _) (fun _ => rfl) hlv_3 ?_
        refine fx_n (pc' := 118) (lv' := lv) (st' := [.int (Int32.ofInt 1), .int y3, .int y3, .ref 117]) aj_d274 rfl (Nat.le_succ _) (fun _ => rfl) ?_
        refine fx_n (pc' := 119) (lv' := lv) (st' := [.int (y3 + (Int32.ofInt 1)), .int y3, .ref 117]) aj_d274 rfl (Nat.le_succ _) (fun _ => rfl) ?_
        refine fx_cv aj_d274 rfl (Nat.le_succ _) rfl [_, _] rfl rfl (gx_277_ok y3 (y3 + (Int32.ofInt 1))) ?_
        rintro _ X38 ⟨w39, rfl, hR38⟩ hok38 hle38
        refine fx_qc hR38 ?_
        show fx_W _ _ _ 122 lv [.int w39] _ _
        refine fx_b0 (tgt := 134) aj_d274 rfl (Nat.le_succ _) rfl (fun q40 => ?_) (fun q40 => ?_)
        · skip
          refine fx_qe (c := (w39).toInt = 0) (fx_t_ne q40) ?_
          show fx_W _ _ _ 134 lv [] _ _
          refine fx_i2 aj_d274 rfl (Nat.le_succ _) (fun _ => rfl) hlv_0 ?_
          refine fx_gI aj_d274 rfl (Nat.le_succ _) rfl rfl (Or.inr (Or.inl rfl)) ?_
          refine fx_b0 (tgt := 167) aj_d274 rfl (Nat.le_succ _) rfl (fun q41 => ?_) (fun q41 => ?_)
          · skip
            refine fx_qi (c := ((X38.1 117 32)).toInt = 0) (fx_t_eq q41) ?_
            show fx_W _ _ _ 167 lv [] _ _
            refine fx_n (pc' := 168) (lv' := lv) (st' := [.int (Int32.ofInt 1)]) aj_d274 rfl (Nat.le_succ _) (fun _ => rfl) ?_
            refine fx_n (pc' := 172) (lv' := lv) (st' := [.int (Int32.ofInt 1)]) aj_d274 rfl (Nat.le_succ _) (fun _ => rfl) ?_
            exact fx_ri aj_d274 rfl ⟨_, rfl, 0, rfl, rfl⟩
          · skip
            refine fx_qe (c := ((X38.1 117 32)).toInt = 0) (fx_f_eq q41) ?_
            show fx_W _ _ _ 141 lv [] _ _
            refine fx_i0 aj_d274 rfl (Nat.le_succ _) (fun _ => rfl) hlv_1 ?_
            refine fx_n (pc' := 144) (lv' := lv) (st' := [.int ((Int8.ofInt 43).toInt32), .int y1]) aj_d274 rfl (Nat.le_succ _) (fun _ => rfl) ?_
            refine fx_b (tgt := 159) aj_d274 rfl (Nat.le_succ _) rfl (fun q42 => ?_) (fun q42 => ?_)
            · skip
              refine fx_qe (c := (y1).toInt = 43) (fx_t_ne q42) ?_
              show fx_W _ _ _ 159 lv [] _ _
              refine fx_i2 aj_d274 rfl (Nat.le_succ _) (fun _ => rfl) hlv_0 ?_
              refine fx_i0 aj_d274 rfl (Nat.le_succ _) (fun _ => rfl) hlv_3 ?_
              refine fx_cv aj_d274 rfl (Nat.le_succ _) rfl [_] rfl rfl (gx_279_ok y3) ?_
              rintro _ X43 ⟨w44, rfl, hR43⟩ hok43 hle43
              refine fx_qc hR43 ?_
              show fx_W _ _ _ 164 lv [.int w44] _ _
              refine fx_b0 (tgt := 171) aj_d274 rfl (Nat.le_succ _) rfl (fun q45 => ?_) (fun q45 => ?_)
              · skip
                refine fx_qi (c := (w44).toInt = 0) (fx_t_eq q45) ?_
                show fx_W _ _ _ 171 lv [] _ _
                refine fx_n (pc' := 172) (lv' := lv) (st' := [.int (Int32.ofInt 0)]) aj_d274 rfl (Nat.le_succ _) (fun _ => rfl) ?_
                exact fx_ri aj_d274 rfl ⟨_, rfl, 0, rfl, rfl⟩
              · skip
                refine fx_qe (c := (w44).toInt = 0) (fx_f_eq q45) ?_
                show fx_W _ _ _ 167 lv [] _ _
                refine fx_n (pc' := 168) (lv' := lv) (st' := [.int (Int32.ofInt 1)]) aj_d274 rfl (Nat.le_succ _) (fun _ => rfl) ?_
                refine fx_n (pc' := 172) (lv' := lv) (st' := [.int (Int32.ofInt 1)]) aj_d274 rfl (Nat.le_succ _) (fun _ => rfl) ?_
                exact fx_ri aj_d274 rfl ⟨_, rfl, 0, rfl, rfl⟩
            · skip
              refine fx_qi (c := (y1).toInt = 43) (fx_f_ne q42) ?_
              show fx_W _ _ _ 147 lv [] _ _
              refine fx_i2 aj_d274 rfl (Nat.le_succ _) (fun _ => rfl) hlv_0 ?_
              refine fx_i0 aj_d274 rfl (Nat.le_succ _) (fun _ => rfl) hlv_3 ?_
              refine fx_i0 aj_d274 rfl (Nat.le_succ _) (fun _ => rfl) hlv_2 ?_
              refine fx_cv aj_d274 rfl (Nat.le_succ _) rfl [_, _] rfl rfl (gx_278_ok y3 y2) ?_
              rintro _ X46 ⟨w47, rfl, hR46⟩ hok46 hle46
              refine fx_qc hR46 ?_
              show fx_W _ _ _ 153 lv [.int w47] _ _
              refine fx_b0 (tgt := 171) aj_d274 rfl (Nat.le_succ _) rfl (fun q48 => ?_) (fun q48 => ?_)
              · skip
                refine fx_qi (c := (w47).toInt = 0) (fx_t_eq q48) ?_
                show fx_W _ _ _ 171 lv [] _ _
                refine fx_n (pc' := 172) (lv' := lv) (st' := [.int (Int32.ofInt 0)]) aj_d274 rfl (Nat.le_succ _) (fun _ => rfl) ?_
                exact fx_ri aj_d274 rfl ⟨_, rfl, 0, rfl, rfl⟩
              · skip
                refine fx_qe (c := (w47).toInt = 0) (fx_f_eq q48) ?_
                show fx_W _ _ _ 156 lv [] _ _
                refine fx_n (pc' := 167) (lv' := lv) (st' := []) aj_d274 rfl (Nat.le_succ _) (fun _ => rfl) ?_
                refine fx_n (pc' := 168) (lv' := lv) (st' := [.int (Int32.ofInt 1)]) aj_d274 rfl (Nat.le_succ _) (fun _ => rfl) ?_
                refine fx_n (pc' := 172) (lv' := lv) (st' := [.int (Int32.ofInt 1)]) aj_d274 rfl (Nat.le_succ _) (fun _ => rfl) ?_
                exact fx_ri aj_d274 rfl ⟨_, rfl, 0, rfl, rfl⟩
        · skip
          refine fx_qi (c := (w39).toInt = 0) (fx_f_ne q40) ?_
          show fx_W _ _ _ 125 lv [] _ _
          refine fx_i2 aj_d274 rfl (Nat.le_succ _) (fun _ => rfl) hlv_0 ?_
          refine fx_gF aj_d274 rfl (Nat.le_succ _) rfl rfl fx_in_11_16 (t := 132) rfl (fun hA49 => ?_)
          refine fx_i0 aj_d274 rfl (Nat.le_succ _) (fun _ => rfl) hlv_3 ?_
          refine fx_n (pc' := 131) (lv' := lv) (st' := [.int (Int32.ofInt (-1)), .int y3, .ref 132]) aj_d274 rfl (Nat.le_succ _) (fun _ => rfl) ?_
          refine fx_st aj_d274 (Or.inl ⟨rfl, rfl⟩) rfl (Nat.le_succ _) (fun g500 g501 => ?_)
          show fx_W _ _ _ _ _ _ (fx_wI X38 132 (y3).toInt.toNat (Int32.ofInt (-1))) _
          refine fx_qa (c := 0 ≤ (y3).toInt ∧ (y3).toInt < ((50 : Nat) : Int)) ⟨g500, fx_lnk g501 hA49⟩ ?_
          refine fx_qX (fun X51 eX51 => ?_)
          show fx_W _ _ _ 132 lv [] _ _
          refine fx_n (pc' := 133) (lv' := lv) (st' := [.int (Int32.ofInt 1)]) aj_d274 rfl (Nat.le_succ _) (fun _ => rfl) ?_
          exact fx_ri aj_d274 rfl ⟨_, rfl, 0, rfl, rfl⟩
theorem gx_274_ok {tb : aj_T} {X : fx_X} : fx_K tb 274 [.ref 117] X (fx_Q fx_qI (fun v X' => gx_274 X v X')) := by
  refine fx_m aj_m274_at rfl (fun N => ?_)
  refine fx_mono (Q := fx_Q fx_qI (fun v X' => ∃ n : Nat, gxE_274 (gxF_274 n) X v X')) (fun r X' h => h) ?_
  unfold gxE_274
  show fx_W _ _ _ 0 [(0, .ref 117)] [] _ _
  obtain ⟨lv1, elv1⟩ : ∃ l : aj_V, l = [(0, .ref 117)] := ⟨_, rfl⟩
  rw [← elv1]
  have hlv1_0 : aj_lv lv1 0 = some (.ref 117) := by rw [elv1]; rfl
  refine fx_i2 aj_d274 rfl (Nat.le_succ _) (fun _ => rfl) hlv1_0 ?_
  refine fx_n (pc' := 2) (lv' := lv1) (st' := [.ref 117, .ref 117]) aj_d274 rfl (Nat.le_succ _) (fun _ => rfl) ?_
  refine fx_gI aj_d274 rfl (Nat.le_succ _) rfl rfl (Or.inl rfl) ?_
  refine fx_n (pc' := 6) (lv' := lv1) (st' := [.int (Int32.ofInt 1), .int (X.1 117 50), .ref 117]) aj_d274 rfl (Nat.le_succ _) (fun _ => rfl) ?_
  refine fx_n (pc' := 7) (lv' := lv1) (st' := [.int ((X.1 117 50) - (Int32.ofInt 1)), .ref 117]) aj_d274 rfl (Nat.le_succ _) (fun _ => rfl) ?_
  refine fx_pI aj_d274 rfl (Nat.le_succ _) rfl rfl (Or.inl rfl) fx_no_11_50 (by decide) ?_
  refine fx_qX (fun X2 eX2 => ?_)
  show fx_W _ _ _ 10 lv1 [] _ _
  refine fx_i2 aj_d274 rfl (Nat.le_succ _) (fun _ => rfl) hlv1_0 ?_
  refine fx_gF aj_d274 rfl (Nat.le_succ _) rfl rfl fx_in_11_48 (t := 140) rfl (fun hA3 => ?_)
  refine fx_i2 aj_d274 rfl (Nat.le_succ _) (fun _ => rfl) hlv1_0 ?_
  refine fx_gI aj_d274 rfl (Nat.le_succ _) rfl rfl (Or.inl rfl) ?_
  refine fx_ld aj_d274 (Or.inl rfl) rfl (Nat.le_succ _) (fun g40 g41 => ?_)
  show fx_W _ _ _ 19 lv1 [.int (X2.1 140 ((X2.1 117 50)).toInt.toNat)] _ _
  refine fx_qa (c := 0 ≤ ((X2.1 117 50)).toInt ∧ ((X2.1 117 50)).toInt < ((64 : Nat) : Int)) ⟨g40, fx_lnk g41 hA3⟩ ?_
  refine fx_qxI (fun x5 ex5 => ?_)
  refine fx_s0 (j := 1) aj_d274 rfl (Nat.le_succ _) (by decide) (fun _ => rfl) ?_
  obtain ⟨lv6, elv6⟩ : ∃ l, l = aj_set1 lv1 1 (.int x5) := ⟨_, rfl⟩
  rw [← elv6]
  have hlv6_0 : aj_lv lv6 0 = some (.ref 117) := fx_e1 elv6 hlv1_0 (by decide) (Or.inr rfl)
  have hlv6_1 : aj_lv lv6 1 = some (.int x5) := by rw [elv6]; exact ak_set1_eq _ _ _
  show fx_W _ _ _ 20 lv6 [] _ _
  refine fx_i2 aj_d274 rfl (Nat.le_succ _) (fun _ => rfl) hlv6_0 ?_
  refine fx_gF aj_d274 rfl (Nat.le_succ _) rfl rfl fx_in_11_49 (t := 141) rfl (fun hA7 => ?_)
  refine fx_i2 aj_d274 rfl (Nat.le_succ _) (fun _ => rfl) hlv6_0 ?_
  refine fx_gI aj_d274 rfl (Nat.le_succ _) rfl rfl (Or.inl rfl) ?_
  refine fx_ld aj_d274 (Or.inl rfl) rfl (Nat.le_succ _) (fun g80 g81 => ?_)
  show fx_W _ _ _ 29 lv6 [.int (X2.1 141 ((X2.1 117 50)).toInt.toNat)] _ _
  refine fx_qa (c := 0 ≤ ((X2.1 117 50)).toInt ∧ ((X2.1 117 50)).toInt < ((64 : Nat) : Int)) ⟨g80, fx_lnk g81 hA7⟩ ?_
  refine fx_qxI (fun x9 ex9 => ?_)
  refine fx_s0 (j := 2) aj_d274 rfl (Nat.le_succ _) (by decide) (fun _ => rfl) ?_
  obtain ⟨lv10, elv10⟩ : ∃ l, l = aj_set1 lv6 2 (.int x9) := ⟨_, rfl⟩
  rw [← elv10]
  have hlv10_0 : aj_lv lv10 0 = some (.ref 117) := fx_e1 elv10 hlv6_0 (by decide) (Or.inl (by decide))
  have hlv10_1 : aj_lv lv10 1 = some (.int x5) := fx_e1 elv10 hlv6_1 (by decide) (Or.inr rfl)
  have hlv10_2 : aj_lv lv10 2 = some (.int x9) := by rw [elv10]; exact ak_set1_eq _ _ _
  show fx_W _ _ _ 30 lv10 [] _ _
  refine fx_i2 aj_d274 rfl (Nat.le_succ _) (fun _ => rfl) hlv10_0 ?_
  refine fx_n (pc' := 32) (lv' := lv10) (st' := [.ref 117, .ref 117]) aj_d274 rfl (Nat.le_succ _) (fun _ => rfl) ?_
  refine fx_gI aj_d274 rfl (Nat.le_succ _) rfl rfl (Or.inl rfl) ?_
  refine fx_n (pc' := 36) (lv' := lv10) (st' := [.int (Int32.ofInt 1), .int (X2.1 117 51), .ref 117]) aj_d274 rfl (Nat.le_succ _) (fun _ => rfl) ?_
  refine fx_n (pc' := 37) (lv' := lv10) (st' := [.int ((X2.1 117 51) - (Int32.ofInt 1)), .ref 117]) aj_d274 rfl (Nat.le_succ _) (fun _ => rfl) ?_
  refine fx_pI aj_d274 rfl (Nat.le_succ _) rfl rfl (Or.inl rfl) fx_no_11_51 (by decide) ?_
  refine fx_qX (fun X11 eX11 => ?_)
  show fx_W _ _ _ 40 lv10 [] _ _
  refine fx_i2 aj_d274 rfl (Nat.le_succ _) (fun _ => rfl) hlv10_0 ?_
  refine fx_gI aj_d274 rfl (Nat.le_succ _) rfl rfl (Or.inl rfl) ?_
  refine fx_n (pc' := 45) (lv' := lv10) (st' := [.int (Int32.ofInt 1), .int (X11.1 117 51)]) aj_d274 rfl (Nat.le_succ _) (fun _ => rfl) ?_
  refine fx_n (pc' := 46) (lv' := lv10) (st' := [.int ((X11.1 117 51) - (Int32.ofInt 1))]) aj_d274 rfl (Nat.le_succ _) (fun _ => rfl) ?_
  refine fx_qxI (fun x12 ex12 => ?_)
  refine fx_s0 (j := 3) aj_d274 rfl (Nat.le_succ _) (by decide) (fun _ => rfl) ?_
  obtain ⟨lv13, elv13⟩ : ∃ l, l = aj_set1 lv10 3 (.int x12) := ⟨_, rfl⟩
  rw [← elv13]
  have hlv13_0 : aj_lv lv13 0 = some (.ref 117) := fx_e1 elv13 hlv10_0 (by decide) (Or.inl (by decide))
  have hlv13_1 : aj_lv lv13 1 = some (.int x5) := fx_e1 elv13 hlv10_1 (by decide) (Or.inl (by decide))
  have hlv13_2 : aj_lv lv13 2 = some (.int x9) := fx_e1 elv13 hlv10_2 (by decide) (Or.inr rfl)
  have hlv13_3 : aj_lv lv13 3 = some (.int x12) := by rw [elv13]; exact ak_set1_eq _ _ _
  show fx_W _ _ _ 47 lv13 [] _ _
  refine fx_i0 aj_d274 rfl (Nat.le_succ _) (fun _ => rfl) hlv13_1 ?_
  refine fx_n (pc' := 50) (lv' := lv13) (st' := [.int ((Int8.ofInt 42).toInt32), .int x5]) aj_d274 rfl (Nat.le_succ _) (fun _ => rfl) ?_
  refine fx_b (tgt := 60) aj_d274 rfl (Nat.le_succ _) rfl (fun q14 => ?_) (fun q14 => ?_)
  · skip
    refine fx_qe (c := (x5).toInt = 42) (fx_t_ne q14) ?_
    show fx_W _ _ _ 60 lv13 [] _ _
    refine fx_i2 aj_d274 rfl (Nat.le_succ _) (fun _ => rfl) hlv13_0 ?_
    refine fx_gF aj_d274 rfl (Nat.le_succ _) rfl rfl fx_in_11_16 (t := 132) rfl (fun hA15 => ?_)
    refine fx_i0 aj_d274 rfl (Nat.le_succ _) (fun _ => rfl) hlv13_3 ?_
    refine fx_ld aj_d274 (Or.inl rfl) rfl (Nat.le_succ _) (fun g160 g161 => ?_)
    show fx_W _ _ _ 66 lv13 [.int (X11.1 132 (x12).toInt.toNat)] _ _
    refine fx_qa (c := 0 ≤ (x12).toInt ∧ (x12).toInt < ((50 : Nat) : Int)) ⟨g160, fx_lnk g161 hA15⟩ ?_
    refine fx_b0 (tgt := 84) aj_d274 rfl (Nat.le_succ _) rfl (fun q17 => ?_) (fun q17 => ?_)
    · skip
      refine fx_qi (c := ((X11.1 132 (x12).toInt.toNat)).toInt < 0) (fx_t_lt q17) ?_
      show fx_W _ _ _ 84 lv13 [] _ _
      refine fx_n (pc' := 85) (lv' := lv13) (st' := [.int (Int32.ofInt 0)]) aj_d274 rfl (Nat.le_succ _) (fun _ => rfl) ?_
      refine fx_s0 (j := 4) aj_d274 rfl (Nat.le_succ _) (by decide) (fun _ => rfl) ?_
      obtain ⟨lv18, elv18⟩ : ∃ l, l = aj_set1 lv13 4 (.int (Int32.ofInt 0)) := ⟨_, rfl⟩
      rw [← elv18]
      have hlv18_0 : aj_lv lv18 0 = some (.ref 117) := fx_e1 elv18 hlv13_0 (by decide) (Or.inl (by decide))
      have hlv18_1 : aj_lv lv18 1 = some (.int x5) := fx_e1 elv18 hlv13_1 (by decide) (Or.inl (by decide))
      have hlv18_2 : aj_lv lv18 2 = some (.int x9) := fx_e1 elv18 hlv13_2 (by decide) (Or.inl (by decide))
      have hlv18_3 : aj_lv lv18 3 = some (.int x12) := fx_e1 elv18 hlv13_3 (by decide) (Or.inr rfl)
      have hlv18_4 : aj_lv lv18 4 = some (.int (Int32.ofInt 0)) := by rw [elv18]; exact ak_set1_eq _ _ _
      show fx_W _ _ _ 87 lv18 [] _ _
      refine fx_i0 aj_d274 rfl (Nat.le_succ _) (fun _ => rfl) hlv18_4 ?_
      refine fx_b0 (tgt := 109) aj_d274 rfl (Nat.le_succ _) rfl (fun q19 => ?_) (fun q19 => ?_)
      · skip
        show fx_W _ _ _ 109 lv18 [] _ _
        exact ((gxL_274 N)) lv18 (x5) (x9) (x12) ((Int32.ofInt 0)) X11  hlv18_0 hlv18_1 hlv18_2 hlv18_3 hlv18_4
      · exact absurd q19 (by decide)
    · skip
      refine fx_qe (c := ((X11.1 132 (x12).toInt.toNat)).toInt < 0) (fx_f_lt q17) ?_
      show fx_W _ _ _ 69 lv13 [] _ _
      refine fx_i2 aj_d274 rfl (Nat.le_succ _) (fun _ => rfl) hlv13_0 ?_
      refine fx_gF aj_d274 rfl (Nat.le_succ _) rfl rfl fx_in_11_16 (t := 132) rfl (fun hA20 => ?_)
      refine fx_i0 aj_d274 rfl (Nat.le_succ _) (fun _ => rfl) hlv13_3 ?_
      refine fx_n (pc' := 75) (lv' := lv13) (st' := [.int (Int32.ofInt 1), .int x12, .ref 132]) aj_d274 rfl (Nat.le_succ _) (fun _ => rfl) ?_
      refine fx_n (pc' := 76) (lv' := lv13) (st' := [.int (x12 + (Int32.ofInt 1)), .ref 132]) aj_d274 rfl (Nat.le_succ _) (fun _ => rfl) ?_
      refine fx_ld aj_d274 (Or.inl rfl) rfl (Nat.le_succ _) (fun g210 g211 => ?_)
      show fx_W _ _ _ 77 lv13 [.int (X11.1 132 ((x12 + (Int32.ofInt 1))).toInt.toNat)] _ _
      refine fx_qa (c := 0 ≤ ((x12 + (Int32.ofInt 1))).toInt ∧ ((x12 + (Int32.ofInt 1))).toInt < ((50 : Nat) : Int)) ⟨g210, fx_lnk g211 hA20⟩ ?_
      refine fx_b0 (tgt := 84) aj_d274 rfl (Nat.le_succ _) rfl (fun q22 => ?_) (fun q22 => ?_)
      · skip
        refine fx_qi (c := ((X11.1 132 ((x12 + (Int32.ofInt 1))).toInt.toNat)).toInt < 0) (fx_t_lt q22) ?_
        show fx_W _ _ _ 84 lv13 [] _ _
        refine fx_n (pc' := 85) (lv' := lv13) (st' := [.int (Int32.ofInt 0)]) aj_d274 rfl (Nat.le_succ _) (fun _ => rfl) ?_
        refine fx_s0 (j := 4) aj_d274 rfl (Nat.le_succ _) (by decide) (fun _ => rfl) ?_
        obtain ⟨lv23, elv23⟩ : ∃ l, l = aj_set1 lv13 4 (.int (Int32.ofInt 0)) := ⟨_, rfl⟩
        rw [← elv23]
        have hlv23_0 : aj_lv lv23 0 = some (.ref 117) := fx_e1 elv23 hlv13_0 (by decide) (Or.inl (by decide))
        have hlv23_1 : aj_lv lv23 1 = some (.int x5) := fx_e1 elv23 hlv13_1 (by decide) (Or.inl (by decide))
        have hlv23_2 : aj_lv lv23 2 = some (.int x9) := fx_e1 elv23 hlv13_2 (by decide) (Or.inl (by decide))
        have hlv23_3 : aj_lv lv23 3 = some (.int x12) := fx_e1 elv23 hlv13_3 (by decide) (Or.inr rfl)
        have hlv23_4 : aj_lv lv23 4 = some (.int (Int32.ofInt 0)) := by rw [elv23]; exact ak_set1_eq _ _ _
        show fx_W _ _ _ 87 lv23 [] _ _
        refine fx_i0 aj_d274 rfl (Nat.le_succ _) (fun _ => rfl) hlv23_4 ?_
        refine fx_b0 (tgt := 109) aj_d274 rfl (Nat.le_succ _) rfl (fun q24 => ?_) (fun q24 => ?_)
        · skip
          show fx_W _ _ _ 109 lv23 [] _ _
          exact ((gxL_274 N)) lv23 (x5) (x9) (x12) ((Int32.ofInt 0)) X11  hlv23_0 hlv23_1 hlv23_2 hlv23_3 hlv23_4
        · exact absurd q24 (by decide)
      · skip
        refine fx_qe (c := ((X11.1 132 ((x12 + (Int32.ofInt 1))).toInt.toNat)).toInt < 0) (fx_f_lt q22) ?_
        show fx_W _ _ _ 80 lv13 [] _ _
        refine fx_n (pc' := 81) (lv' := lv13) (st' := [.int (Int32.ofInt 1)]) aj_d274 rfl (Nat.le_succ _) (fun _ => rfl) ?_
        refine fx_n (pc' := 85) (lv' := lv13) (st' := [.int (Int32.ofInt 1)]) aj_d274 rfl (Nat.le_succ _) (fun _ => rfl) ?_
        refine fx_s0 (j := 4) aj_d274 rfl (Nat.le_succ _) (by decide) (fun _ => rfl) ?_
        obtain ⟨lv25, elv25⟩ : ∃ l, l = aj_set1 lv13 4 (.int (Int32.ofInt 1)) := ⟨_, rfl⟩
        rw [← elv25]
        have hlv25_0 : aj_lv lv25 0 = some (.ref 117) := fx_e1 elv25 hlv13_0 (by decide) (Or.inl (by decide))
        have hlv25_1 : aj_lv lv25 1 = some (.int x5) := fx_e1 elv25 hlv13_1 (by decide) (Or.inl (by decide))
        have hlv25_2 : aj_lv lv25 2 = some (.int x9) := fx_e1 elv25 hlv13_2 (by decide) (Or.inl (by decide))
        have hlv25_3 : aj_lv lv25 3 = some (.int x12) := fx_e1 elv25 hlv13_3 (by decide) (Or.inr rfl)
        have hlv25_4 : aj_lv lv25 4 = some (.int (Int32.ofInt 1)) := by rw [elv25]; exact ak_set1_eq _ _ _
        show fx_W _ _ _ 87 lv25 [] _ _
        refine fx_i0 aj_d274 rfl (Nat.le_succ _) (fun _ => rfl) hlv25_4 ?_
        refine fx_b0 (tgt := 109) aj_d274 rfl (Nat.le_succ _) rfl (fun q26 => ?_) (fun q26 => ?_)
        · exact absurd q26 (by decide)
        · skip
          show fx_W _ _ _ 92 lv25 [] _ _
          refine fx_i2 aj_d274 rfl (Nat.le_succ _) (fun _ => rfl) hlv25_0 ?_
          refine fx_i0 aj_d274 rfl (Nat.le_succ _) (fun _ => rfl) hlv25_3 ?_
          refine fx_i0 aj_d274 rfl (Nat.le_succ _) (fun _ => rfl) hlv25_3 ?_
          refine fx_n (pc' := 96) (lv' := lv25) (st' := [.int (Int32.ofInt 1), .int x12, .int x12, .ref 117]) aj_d274 rfl (Nat.le_succ _) (fun _ => rfl) ?_
          refine fx_n (pc' := 97) (lv' := lv25) (st' := [.int (x12 + (Int32.ofInt 1)), .int x12, .ref 117]) aj_d274 rfl (Nat.le_succ _) (fun _ => rfl) ?_
          refine fx_cv aj_d274 rfl (Nat.le_succ _) rfl [_, _] rfl rfl (gx_277_ok x12 (x12 + (Int32.ofInt 1))) ?_
          rintro _ X27 ⟨w28, rfl, hR27⟩ hok27 hle27
          refine fx_qc hR27 ?_
          show fx_W _ _ _ 100 lv25 [.int w28] _ _
          refine fx_b0 (tgt := 109) aj_d274 rfl (Nat.le_succ _) rfl (fun q29 => ?_) (fun q29 => ?_)
          · skip
            refine fx_qe (c := (w28).toInt = 0) (fx_t_ne q29) ?_
            show fx_W _ _ _ 109 lv25 [] _ _
            exact ((gxL_274 N)) lv25 (x5) (x9) (x12) ((Int32.ofInt 1)) X27  hlv25_0 hlv25_1 hlv25_2 hlv25_3 hlv25_4
          · skip
            refine fx_qi (c := (w28).toInt = 0) (fx_f_ne q29) ?_
            show fx_W _ _ _ 103 lv25 [] _ _
            refine fx_i2 aj_d274 rfl (Nat.le_succ _) (fun _ => rfl) hlv25_0 ?_
            refine fx_n (pc' := 105) (lv' := lv25) (st' := [.int (Int32.ofInt 5), .ref 117]) aj_d274 rfl (Nat.le_succ _) (fun _ => rfl) ?_
            refine fx_i0 aj_d274 rfl (Nat.le_succ _) (fun _ => rfl) hlv25_2 ?_
            refine fx_cv aj_d274 rfl (Nat.le_succ _) rfl [_, _] rfl rfl (gx_218_ok (Int32.ofInt 5) x9) ?_
            rintro _ X30 ⟨w31, rfl, hR30⟩ hok30 hle30
            refine fx_qc hR30 ?_
            show fx_W _ _ _ 109 lv25 [] _ _
            exact ((gxL_274 N)) lv25 (x5) (x9) (x12) ((Int32.ofInt 1)) X30  hlv25_0 hlv25_1 hlv25_2 hlv25_3 hlv25_4
  · skip
    refine fx_qi (c := (x5).toInt = 42) (fx_f_ne q14) ?_
    show fx_W _ _ _ 53 lv13 [] _ _
    refine fx_i2 aj_d274 rfl (Nat.le_succ _) (fun _ => rfl) hlv13_0 ?_
    refine fx_i0 aj_d274 rfl (Nat.le_succ _) (fun _ => rfl) hlv13_3 ?_
    refine fx_i0 aj_d274 rfl (Nat.le_succ _) (fun _ => rfl) hlv13_2 ?_
    refine fx_cv aj_d274 rfl (Nat.le_succ _) rfl [_, _] rfl rfl (gx_275_ok x12 x9) ?_
    rintro _ X32 ⟨w33, rfl, hR32⟩ hok32 hle32
    refine fx_qc hR32 ?_
    show fx_W _ _ _ 59 lv13 [.int w33] _ _
    exact fx_ri aj_d274 rfl ⟨_, rfl, 0, rfl, rfl⟩
def gx_250 (p1 : Int32) (X : fx_X) (v : Int32) (X' : fx_X) : Prop :=
  ∃ (w3 : Int32) (X2 : fx_X), gx_216 X w3 X2 ∧ (if (w3).toInt = 0 then (v = (Int32.ofInt 0) ∧ X' = X2) else (∃ (w6 : Int32) (X5 : fx_X), gx_231 (X2.1 117 37) (X2.2.1 117 33) X2 w6 X5 ∧ (if (w6).toInt < 0 then (∃ (w12 : Unit) (X11 : fx_X), gx_218 (Int32.ofInt 4) (X5.1 117 34) X5 w12 X11 ∧ (0 ≤ (p1).toInt ∧ (p1).toInt < ((50 : Nat) : Int)) ∧ ∃ X15 : fx_X, X15 = (fx_wI X11 132 (p1).toInt.toNat (Int32.ofInt (-1))) ∧ (0 ≤ (p1).toInt ∧ (p1).toInt < ((50 : Nat) : Int)) ∧ ∃ X18 : fx_X, X18 = (fx_wI X15 131 (p1).toInt.toNat (Int32.ofInt 0)) ∧ v = (Int32.ofInt 1) ∧ X' = X18) else (∃ (w10 : Unit) (X9 : fx_X), gx_251 (((X5.1 117 37) * ((Int8.ofInt 10).toInt32)) + w6) p1 X5 w10 X9 ∧ v = (Int32.ofInt 1) ∧ X' = X9))))
theorem gx_250_ok {tb : aj_T} (p1 : Int32) {X : fx_X} : fx_K tb 250 [.ref 117, .int p1] X (fx_Q fx_qI (fun v X' => gx_250 p1 X v X')) := by
  refine fx_m aj_m250_at rfl (fun N => ?_)
  refine fx_mono (Q := fx_Q fx_qI (fun v X' => ∃ n : Nat, gx_250 p1 X v X')) (fun r X' ⟨v, e, _, z⟩ => ⟨v, e, z⟩) ?_
  unfold gx_250
  show fx_W _ _ _ 0 [(0, .ref 117), (1, .int p1)] [] _ _
  obtain ⟨lv1, elv1⟩ : ∃ l : aj_V, l = [(0, .ref 117), (1, .int p1)] := ⟨_, rfl⟩
  rw [← elv1]
  have hlv1_0 : aj_lv lv1 0 = some (.ref 117) := by rw [elv1]; rfl
  have hlv1_1 : aj_lv lv1 1 = some (.int p1) := by rw [elv1]; rfl
  refine fx_i2 aj_d250 rfl (Nat.le_succ _) (fun _ => rfl) hlv1_0 ?_
  refine fx_cv aj_d250 rfl (Nat.le_succ _) rfl [] rfl rfl (gx_216_ok) ?_
  rintro _ X2 ⟨w3, rfl, hR2⟩ hok2 hle2
  refine fx_qc hR2 ?_
  show fx_W _ _ _ 4 lv1 [.int w3] _ _
  refine fx_b0 (tgt := 9) aj_d250 rfl (Nat.le_succ _) rfl (fun q4 => ?_) (fun q4 => ?_)
  · skip
    refine fx_qe (c := (w3).toInt = 0) (fx_t_ne q4) ?_
    show fx_W _ _ _ 9 lv1 [] _ _
    refine fx_i2 aj_d250 rfl (Nat.le_succ _) (fun _ => rfl) hlv1_0 ?_
    refine fx_i2 aj_d250 rfl (Nat.le_succ _) (fun _ => rfl) hlv1_0 ?_
    refine fx_gI aj_d250 rfl (Nat.le_succ _) rfl rfl (Or.inl rfl) ?_
    refine fx_i2 aj_d250 rfl (Nat.le_succ _) (fun _ => rfl) hlv1_0 ?_
    refine fx_gL aj_d250 rfl (Nat.le_succ _) rfl rfl rfl ?_
    refine fx_cv aj_d250 rfl (Nat.le_succ _) rfl [_, _] rfl rfl (gx_231_ok (X2.1 117 37) (X2.2.1 117 33)) ?_
    rintro _ X5 ⟨w6, rfl, hR5⟩ hok5 hle5
    refine fx_qc hR5 ?_
    show fx_W _ _ _ 21 lv1 [.int w6] _ _
    refine fx_s0 (j := 2) aj_d250 rfl (Nat.le_succ _) (by decide) (fun _ => rfl) ?_
    obtain ⟨lv7, elv7⟩ : ∃ l, l = aj_set1 lv1 2 (.int w6) := ⟨_, rfl⟩
    rw [← elv7]
    have hlv7_0 : aj_lv lv7 0 = some (.ref 117) := fx_e1 elv7 hlv1_0 (by decide) (Or.inl (by decide))
    have hlv7_1 : aj_lv lv7 1 = some (.int p1) := fx_e1 elv7 hlv1_1 (by decide) (Or.inr rfl)
    have hlv7_2 : aj_lv lv7 2 = some (.int w6) := by rw [elv7]; exact ak_set1_eq _ _ _
    show fx_W _ _ _ 22 lv7 [] _ _
    refine fx_i0 aj_d250 rfl (Nat.le_succ _) (fun _ => rfl) hlv7_2 ?_
    refine fx_b0 (tgt := 52) aj_d250 rfl (Nat.le_succ _) rfl (fun q8 => ?_) (fun q8 => ?_)
    · skip
      refine fx_qe (c := (w6).toInt < 0) (fx_t_ge q8) ?_
      show fx_W _ _ _ 52 lv7 [] _ _
      refine fx_i2 aj_d250 rfl (Nat.le_succ _) (fun _ => rfl) hlv7_0 ?_
      refine fx_i2 aj_d250 rfl (Nat.le_succ _) (fun _ => rfl) hlv7_0 ?_
      refine fx_gI aj_d250 rfl (Nat.le_succ _) rfl rfl (Or.inl rfl) ?_
      refine fx_n (pc' := 59) (lv' := lv7) (st' := [.int ((Int8.ofInt 10).toInt32), .int (X5.1 117 37), .ref 117]) aj_d250 rfl (Nat.le_succ _) (fun _ => rfl) ?_
      refine fx_n (pc' := 60) (lv' := lv7) (st' := [.int ((X5.1 117 37) * ((Int8.ofInt 10).toInt32)), .ref 117]) aj_d250 rfl (Nat.le_succ _) (fun _ => rfl) ?_
      refine fx_i0 aj_d250 rfl (Nat.le_succ _) (fun _ => rfl) hlv7_2 ?_
      refine fx_n (pc' := 62) (lv' := lv7) (st' := [.int (((X5.1 117 37) * ((Int8.ofInt 10).toInt32)) + w6), .ref 117]) aj_d250 rfl (Nat.le_succ _) (fun _ => rfl) ?_
      refine fx_i0 aj_d250 rfl (Nat.le_succ _) (fun _ => rfl) hlv7_1 ?_
      refine fx_cv aj_d250 rfl (Nat.le_succ _) rfl [_, _] rfl rfl (gx_251_ok (((X5.1 117 37) * ((Int8.ofInt 10).toInt32)) + w6) p1) ?_
      rintro _ X9 ⟨w10, rfl, hR9⟩ hok9 hle9
      refine fx_qc hR9 ?_
      show fx_W _ _ _ 66 lv7 [] _ _
      refine fx_n (pc' := 67) (lv' := lv7) (st' := [.int (Int32.ofInt 1)]) aj_d250 rfl (Nat.le_succ _) (fun _ => rfl) ?_
      exact fx_ri aj_d250 rfl ⟨_, rfl, 0, rfl, rfl⟩
    · skip
      refine fx_qi (c := (w6).toInt < 0) (fx_f_ge q8) ?_
      show fx_W _ _ _ 26 lv7 [] _ _
      refine fx_i2 aj_d250 rfl (Nat.le_succ _) (fun _ => rfl) hlv7_0 ?_
      refine fx_n (pc' := 28) (lv' := lv7) (st' := [.int (Int32.ofInt 4), .ref 117]) aj_d250 rfl (Nat.le_succ _) (fun _ => rfl) ?_
      refine fx_i2 aj_d250 rfl (Nat.le_succ _) (fun _ => rfl) hlv7_0 ?_
      refine fx_gI aj_d250 rfl (Nat.le_succ _) rfl rfl (Or.inl rfl) ?_
      refine fx_cv aj_d250 rfl (Nat.le_succ _) rfl [_, _] rfl rfl (gx_218_ok (Int32.ofInt 4) (X5.1 117 34)) ?_
      rintro _ X11 ⟨w12, rfl, hR11⟩ hok11 hle11
      refine fx_qc hR11 ?_
      show fx_W _ _ _ 35 lv7 [] _ _
      refine fx_i2 aj_d250 rfl (Nat.le_succ _) (fun _ => rfl) hlv7_0 ?_
      refine fx_gF aj_d250 rfl (Nat.le_succ _) rfl rfl fx_in_11_16 (t := 132) rfl (fun hA13 => ?_)
      refine fx_i0 aj_d250 rfl (Nat.le_succ _) (fun _ => rfl) hlv7_1 ?_
      refine fx_n (pc' := 41) (lv' := lv7) (st' := [.int (Int32.ofInt (-1)), .int p1, .ref 132]) aj_d250 rfl (Nat.le_succ _) (fun _ => rfl) ?_
      refine fx_st aj_d250 (Or.inl ⟨rfl, rfl⟩) rfl (Nat.le_succ _) (fun g140 g141 => ?_)
      show fx_W _ _ _ _ _ _ (fx_wI X11 132 (p1).toInt.toNat (Int32.ofInt (-1))) _
      refine fx_qa (c := 0 ≤ (p1).toInt ∧ (p1).toInt < ((50 : Nat) : Int)) ⟨g140, fx_lnk g141 hA13⟩ ?_
      refine fx_qX (fun X15 eX15 => ?_)
      show fx_W _ _ _ 42 lv7 [] _ _
      refine fx_i2 aj_d250 rfl (Nat.le_succ _) (fun _ => rfl) hlv7_0 ?_
      refine fx_gF aj_d250 rfl (Nat.le_succ _) rfl rfl fx_in_11_15 (t := 131) rfl (fun hA16 => ?_)
      refine fx_i0 aj_d250 rfl (Nat.le_succ _) (fun _ => rfl) hlv7_1 ?_
      refine fx_n (pc' := 48) (lv' := lv7) (st' := [.int (Int32.ofInt 0), .int p1, .ref 131]) aj_d250 rfl (Nat.le_succ _) (fun _ => rfl) ?_
      refine fx_st aj_d250 (Or.inl ⟨rfl, rfl⟩) rfl (Nat.le_succ _) (fun g170 g171 => ?_)
      show fx_W _ _ _ _ _ _ (fx_wI X15 131 (p1).toInt.toNat (Int32.ofInt 0)) _
      refine fx_qa (c := 0 ≤ (p1).toInt ∧ (p1).toInt < ((50 : Nat) : Int)) ⟨g170, fx_lnk g171 hA16⟩ ?_
      refine fx_qX (fun X18 eX18 => ?_)
      show fx_W _ _ _ 49 lv7 [] _ _
      refine fx_n (pc' := 66) (lv' := lv7) (st' := []) aj_d250 rfl (Nat.le_succ _) (fun _ => rfl) ?_
      refine fx_n (pc' := 67) (lv' := lv7) (st' := [.int (Int32.ofInt 1)]) aj_d250 rfl (Nat.le_succ _) (fun _ => rfl) ?_
      exact fx_ri aj_d250 rfl ⟨_, rfl, 0, rfl, rfl⟩
  · skip
    refine fx_qi (c := (w3).toInt = 0) (fx_f_ne q4) ?_
    show fx_W _ _ _ 7 lv1 [] _ _
    refine fx_n (pc' := 8) (lv' := lv1) (st' := [.int (Int32.ofInt 0)]) aj_d250 rfl (Nat.le_succ _) (fun _ => rfl) ?_
    exact fx_ri aj_d250 rfl ⟨_, rfl, 0, rfl, rfl⟩
def gx_264 (X : fx_X) (v : Int32) (X' : fx_X) : Prop :=
  (if ((X.1 117 47)).toInt = 40 then (∃ (w7 : Int32) (X6 : fx_X), gx_215 (Int32.ofInt 2) (X.1 117 27) X w7 X6 ∧ v = w7 ∧ X' = X6) else (∃ X3 : fx_X, X3 = (fx_wI X 117 47 ((X.1 117 47) + (Int32.ofInt 1))) ∧ ∃ (w5 : Int32) (X4 : fx_X), gx_214 X3 w5 X4 ∧ v = w5 ∧ X' = X4))
theorem gx_264_ok {tb : aj_T} {X : fx_X} : fx_K tb 264 [.ref 117] X (fx_Q fx_qI (fun v X' => gx_264 X v X')) := by
  refine fx_m aj_m264_at rfl (fun N => ?_)
  refine fx_mono (Q := fx_Q fx_qI (fun v X' => ∃ n : Nat, gx_264 X v X')) (fun r X' ⟨v, e, _, z⟩ => ⟨v, e, z⟩) ?_
  unfold gx_264
  show fx_W _ _ _ 0 [(0, .ref 117)] [] _ _
  obtain ⟨lv1, elv1⟩ : ∃ l : aj_V, l = [(0, .ref 117)] := ⟨_, rfl⟩
  rw [← elv1]
  have hlv1_0 : aj_lv lv1 0 = some (.ref 117) := by rw [elv1]; rfl
  refine fx_i2 aj_d264 rfl (Nat.le_succ _) (fun _ => rfl) hlv1_0 ?_
  refine fx_gI aj_d264 rfl (Nat.le_succ _) rfl rfl (Or.inl rfl) ?_
  refine fx_n (pc' := 6) (lv' := lv1) (st' := [.int ((Int8.ofInt 40).toInt32), .int (X.1 117 47)]) aj_d264 rfl (Nat.le_succ _) (fun _ => rfl) ?_
  refine fx_b (tgt := 19) aj_d264 rfl (Nat.le_succ _) rfl (fun q2 => ?_) (fun q2 => ?_)
  · skip
    refine fx_qe (c := ((X.1 117 47)).toInt = 40) (fx_t_ne q2) ?_
    show fx_W _ _ _ 19 lv1 [] _ _
    refine fx_i2 aj_d264 rfl (Nat.le_succ _) (fun _ => rfl) hlv1_0 ?_
    refine fx_n (pc' := 21) (lv' := lv1) (st' := [.ref 117, .ref 117]) aj_d264 rfl (Nat.le_succ _) (fun _ => rfl) ?_
    refine fx_gI aj_d264 rfl (Nat.le_succ _) rfl rfl (Or.inl rfl) ?_
    refine fx_n (pc' := 25) (lv' := lv1) (st' := [.int (Int32.ofInt 1), .int (X.1 117 47), .ref 117]) aj_d264 rfl (Nat.le_succ _) (fun _ => rfl) ?_
    refine fx_n (pc' := 26) (lv' := lv1) (st' := [.int ((X.1 117 47) + (Int32.ofInt 1)), .ref 117]) aj_d264 rfl (Nat.le_succ _) (fun _ => rfl) ?_
    refine fx_pI aj_d264 rfl (Nat.le_succ _) rfl rfl (Or.inl rfl) fx_no_11_47 (by decide) ?_
    refine fx_qX (fun X3 eX3 => ?_)
    show fx_W _ _ _ 29 lv1 [] _ _
    refine fx_i2 aj_d264 rfl (Nat.le_succ _) (fun _ => rfl) hlv1_0 ?_
    refine fx_cv aj_d264 rfl (Nat.le_succ _) rfl [] rfl rfl (gx_214_ok) ?_
    rintro _ X4 ⟨w5, rfl, hR4⟩ hok4 hle4
    refine fx_qc hR4 ?_
    show fx_W _ _ _ 33 lv1 [.int w5] _ _
    exact fx_ri aj_d264 rfl ⟨_, rfl, 0, rfl, rfl⟩
  · skip
    refine fx_qi (c := ((X.1 117 47)).toInt = 40) (fx_f_ne q2) ?_
    show fx_W _ _ _ 9 lv1 [] _ _
    refine fx_i2 aj_d264 rfl (Nat.le_succ _) (fun _ => rfl) hlv1_0 ?_
    refine fx_n (pc' := 11) (lv' := lv1) (st' := [.int (Int32.ofInt 2), .ref 117]) aj_d264 rfl (Nat.le_succ _) (fun _ => rfl) ?_
    refine fx_i2 aj_d264 rfl (Nat.le_succ _) (fun _ => rfl) hlv1_0 ?_
    refine fx_gI aj_d264 rfl (Nat.le_succ _) rfl rfl (Or.inl rfl) ?_
    refine fx_cv aj_d264 rfl (Nat.le_succ _) rfl [_, _] rfl rfl (gx_215_ok (Int32.ofInt 2) (X.1 117 27)) ?_
    rintro _ X6 ⟨w7, rfl, hR6⟩ hok6 hle6
    refine fx_qc hR6 ?_
    show fx_W _ _ _ 18 lv1 [.int w7] _ _
    exact fx_ri aj_d264 rfl ⟨_, rfl, 0, rfl, rfl⟩
def gx_256 (p1 : Int32) (X : fx_X) (v : Int32) (X' : fx_X) : Prop :=
  (0 ≤ (p1).toInt ∧ (p1).toInt < ((50 : Nat) : Int)) ∧ (if ((X.1 132 (p1).toInt.toNat)).toInt < 0 then (v = (Int32.ofInt (-1)) ∧ X' = X) else (∃ (w6 : Int32) (X5 : fx_X), gx_233 p1 (X.2.1 117 33) X w6 X5 ∧ (if (w6).toInt < 0 then (∃ (w10 : Unit) (X9 : fx_X), gx_218 (Int32.ofInt 4) (X5.1 117 34) X5 w10 X9 ∧ v = w6 ∧ X' = X9) else (v = w6 ∧ X' = X5))))
theorem gx_256_ok {tb : aj_T} (p1 : Int32) {X : fx_X} : fx_K tb 256 [.ref 117, .int p1] X (fx_Q fx_qI (fun v X' => gx_256 p1 X v X')) := by
  refine fx_m aj_m256_at rfl (fun N => ?_)
  refine fx_mono (Q := fx_Q fx_qI (fun v X' => ∃ n : Nat, gx_256 p1 X v X')) (fun r X' ⟨v, e, _, z⟩ => ⟨v, e, z⟩) ?_
  unfold gx_256
  show fx_W _ _ _ 0 [(0, .ref 117), (1, .int p1)] [] _ _
  obtain ⟨lv1, elv1⟩ : ∃ l : aj_V, l = [(0, .ref 117), (1, .int p1)] := ⟨_, rfl⟩
  rw [← elv1]
  have hlv1_0 : aj_lv lv1 0 = some (.ref 117) := by rw [elv1]; rfl
  have hlv1_1 : aj_lv lv1 1 = some (.int p1) := by rw [elv1]; rfl
  refine fx_i2 aj_d256 rfl (Nat.le_succ _) (fun _ => rfl) hlv1_0 ?_
  refine fx_gF aj_d256 rfl (Nat.le_succ _) rfl rfl fx_in_11_16 (t := 132) rfl (fun hA2 => ?_)
  refine fx_i0 aj_d256 rfl (Nat.le_succ _) (fun _ => rfl) hlv1_1 ?_
  refine fx_ld aj_d256 (Or.inl rfl) rfl (Nat.le_succ _) (fun g30 g31 => ?_)
  show fx_W _ _ _ 6 lv1 [.int (X.1 132 (p1).toInt.toNat)] _ _
  refine fx_qa (c := 0 ≤ (p1).toInt ∧ (p1).toInt < ((50 : Nat) : Int)) ⟨g30, fx_lnk g31 hA2⟩ ?_
  refine fx_b0 (tgt := 11) aj_d256 rfl (Nat.le_succ _) rfl (fun q4 => ?_) (fun q4 => ?_)
  · skip
    refine fx_qe (c := ((X.1 132 (p1).toInt.toNat)).toInt < 0) (fx_t_ge q4) ?_
    show fx_W _ _ _ 11 lv1 [] _ _
    refine fx_i2 aj_d256 rfl (Nat.le_succ _) (fun _ => rfl) hlv1_0 ?_
    refine fx_i0 aj_d256 rfl (Nat.le_succ _) (fun _ => rfl) hlv1_1 ?_
    refine fx_i2 aj_d256 rfl (Nat.le_succ _) (fun _ => rfl) hlv1_0 ?_
    refine fx_gL aj_d256 rfl (Nat.le_succ _) rfl rfl rfl ?_
    refine fx_cv aj_d256 rfl (Nat.le_succ _) rfl [_, _] rfl rfl (gx_233_ok p1 (X.2.1 117 33)) ?_
    rintro _ X5 ⟨w6, rfl, hR5⟩ hok5 hle5
    refine fx_qc hR5 ?_
    show fx_W _ _ _ 20 lv1 [.int w6] _ _
    refine fx_s0 (j := 2) aj_d256 rfl (Nat.le_succ _) (by decide) (fun _ => rfl) ?_
    obtain ⟨lv7, elv7⟩ : ∃ l, l = aj_set1 lv1 2 (.int w6) := ⟨_, rfl⟩
    rw [← elv7]
    have hlv7_0 : aj_lv lv7 0 = some (.ref 117) := fx_e1 elv7 hlv1_0 (by decide) (Or.inl (by decide))
    have hlv7_2 : aj_lv lv7 2 = some (.int w6) := by rw [elv7]; exact ak_set1_eq _ _ _
    show fx_W _ _ _ 21 lv7 [] _ _
    refine fx_i0 aj_d256 rfl (Nat.le_succ _) (fun _ => rfl) hlv7_2 ?_
    refine fx_b0 (tgt := 34) aj_d256 rfl (Nat.le_succ _) rfl (fun q8 => ?_) (fun q8 => ?_)
    · skip
      refine fx_qe (c := (w6).toInt < 0) (fx_t_ge q8) ?_
      show fx_W _ _ _ 34 lv7 [] _ _
      refine fx_i0 aj_d256 rfl (Nat.le_succ _) (fun _ => rfl) hlv7_2 ?_
      exact fx_ri aj_d256 rfl ⟨_, rfl, 0, rfl, rfl⟩
    · skip
      refine fx_qi (c := (w6).toInt < 0) (fx_f_ge q8) ?_
      show fx_W _ _ _ 25 lv7 [] _ _
      refine fx_i2 aj_d256 rfl (Nat.le_succ _) (fun _ => rfl) hlv7_0 ?_
      refine fx_n (pc' := 27) (lv' := lv7) (st' := [.int (Int32.ofInt 4), .ref 117]) aj_d256 rfl (Nat.le_succ _) (fun _ => rfl) ?_
      refine fx_i2 aj_d256 rfl (Nat.le_succ _) (fun _ => rfl) hlv7_0 ?_
      refine fx_gI aj_d256 rfl (Nat.le_succ _) rfl rfl (Or.inl rfl) ?_
      refine fx_cv aj_d256 rfl (Nat.le_succ _) rfl [_, _] rfl rfl (gx_218_ok (Int32.ofInt 4) (X5.1 117 34)) ?_
      rintro _ X9 ⟨w10, rfl, hR9⟩ hok9 hle9
      refine fx_qc hR9 ?_
      show fx_W _ _ _ 34 lv7 [] _ _
      refine fx_i0 aj_d256 rfl (Nat.le_succ _) (fun _ => rfl) hlv7_2 ?_
      exact fx_ri aj_d256 rfl ⟨_, rfl, 0, rfl, rfl⟩
  · skip
    refine fx_qi (c := ((X.1 132 (p1).toInt.toNat)).toInt < 0) (fx_f_ge q4) ?_
    show fx_W _ _ _ 9 lv1 [] _ _
    refine fx_n (pc' := 10) (lv' := lv1) (st' := [.int (Int32.ofInt (-1))]) aj_d256 rfl (Nat.le_succ _) (fun _ => rfl) ?_
    exact fx_ri aj_d256 rfl ⟨_, rfl, 0, rfl, rfl⟩
def gxT_261_51 (p1 : Int32) (p2 : Int32) (P : Nat → List Int32 → List Int64 → List Nat → fx_X → Int32 → fx_X → Prop) (y3 : Int32) (y4 : Int32) (X : fx_X) (v : Int32) (X' : fx_X) : Prop :=
  (if (y4).toInt = 0 then ((if (y3).toInt = 0 then (∃ (w31 : Int32) (X30 : fx_X), gx_219 ((Int8.ofInt 41).toInt32) X w31 X30 ∧ v = w31 ∧ X' = X30) else ((0 ≤ (p1).toInt ∧ (p1).toInt < ((50 : Nat) : Int)) ∧ ∃ X34 : fx_X, X34 = (fx_wI X 132 (p1).toInt.toNat (Int32.ofInt (-1))) ∧ ∃ (w36 : Int32) (X35 : fx_X), gx_219 ((Int8.ofInt 41).toInt32) X34 w36 X35 ∧ v = w36 ∧ X' = X35))) else (∃ (w38 : Int32) (X37 : fx_X), gx_216 X w38 X37 ∧ (if (w38).toInt = 0 then (v = (Int32.ofInt 0) ∧ X' = X37) else (∃ (w41 : Int32) (X40 : fx_X), gx_256 p1 X37 w41 X40 ∧ P 75 [y3, w41, (Int32.ofInt 0)] [] [] X40 v X'))))
def gxT_261_75 (p1 : Int32) (p2 : Int32) (P : Nat → List Int32 → List Int64 → List Nat → fx_X → Int32 → fx_X → Prop) (y3 : Int32) (y5 : Int32) (y6 : Int32) (X : fx_X) (v : Int32) (X' : fx_X) : Prop :=
  (if (y6).toInt < ((X.1 117 56)).toInt then ((if (y5).toInt < 0 then (∃ x79 : Int32, x79 = y6 + Int32.ofInt 1 ∧ P 75 [y3, y5, x79] [] [] X v X') else ((0 ≤ (y6).toInt ∧ (y6).toInt < ((16 : Nat) : Int)) ∧ (if ((X.1 142 (y6).toInt.toNat)).toInt = (y5).toInt then (∃ (w87 : Unit) (X86 : fx_X), gx_218 (Int32.ofInt 3) (X.1 117 34) X w87 X86 ∧ ∃ x89 : Int32, x89 = y6 + Int32.ofInt 1 ∧ P 75 [(Int32.ofInt 1), y5, x89] [] [] X86 v X') else (∃ x84 : Int32, x84 = y6 + Int32.ofInt 1 ∧ P 75 [y3, y5, x84] [] [] X v X'))))) else ((if (y3).toInt = 0 then ((if (y5).toInt < 0 then (∃ (w72 : Int32) (X71 : fx_X), gx_220 ((Int8.ofInt 44).toInt32) X w72 X71 ∧ (if (w72).toInt = 0 then (P 51 [(Int32.ofInt 1), w72] [] [] X71 v X') else (∃ (w76 : Int32) (X75 : fx_X), gx_214 X71 w76 X75 ∧ (if (w76).toInt = 0 then (v = (Int32.ofInt 0) ∧ X' = X75) else (P 51 [(Int32.ofInt 1), w72] [] [] X75 v X'))))) else ((0 ≤ ((X.1 117 56)).toInt ∧ ((X.1 117 56)).toInt < ((16 : Nat) : Int)) ∧ ∃ X60 : fx_X, X60 = (fx_wI X 142 ((X.1 117 56)).toInt.toNat y5) ∧ ∃ X61 : fx_X, X61 = (fx_wI X60 117 56 ((X60.1 117 56) + (Int32.ofInt 1))) ∧ ∃ (w63 : Int32) (X62 : fx_X), gx_220 ((Int8.ofInt 44).toInt32) X61 w63 X62 ∧ (if (w63).toInt = 0 then (P 51 [(Int32.ofInt 0), w63] [] [] X62 v X') else (∃ (w67 : Int32) (X66 : fx_X), gx_214 X62 w67 X66 ∧ (if (w67).toInt = 0 then (v = (Int32.ofInt 0) ∧ X' = X66) else (P 51 [(Int32.ofInt 0), w63] [] [] X66 v X'))))))) else (∃ (w49 : Int32) (X48 : fx_X), gx_220 ((Int8.ofInt 44).toInt32) X w49 X48 ∧ (if (w49).toInt = 0 then (P 51 [(Int32.ofInt 1), w49] [] [] X48 v X') else (∃ (w53 : Int32) (X52 : fx_X), gx_214 X48 w53 X52 ∧ (if (w53).toInt = 0 then (v = (Int32.ofInt 0) ∧ X' = X52) else (P 51 [(Int32.ofInt 1), w49] [] [] X52 v X'))))))))
def gxE_261 (p1 : Int32) (p2 : Int32) (P : Nat → List Int32 → List Int64 → List Nat → fx_X → Int32 → fx_X → Prop) (X : fx_X) (v : Int32) (X' : fx_X) : Prop :=
  ∃ X2 : fx_X, X2 = (fx_wI X 117 56 (Int32.ofInt 0)) ∧ (0 ≤ (p1).toInt ∧ (p1).toInt < ((50 : Nat) : Int)) ∧ (if ((X2.1 132 (p1).toInt.toNat)).toInt < 0 then (∃ (w19 : Int32) (X18 : fx_X), gx_219 ((Int8.ofInt 40).toInt32) X2 w19 X18 ∧ (if (w19).toInt = 0 then (v = (Int32.ofInt 0) ∧ X' = X18) else ((if (p2).toInt = 0 then (P 51 [(Int32.ofInt 1), (Int32.ofInt 1)] [] [] X18 v X') else (∃ (w24 : Int32) (X23 : fx_X), gx_220 ((Int8.ofInt 41).toInt32) X18 w24 X23 ∧ (if (w24).toInt = 0 then (P 51 [(Int32.ofInt 1), (Int32.ofInt 1)] [] [] X23 v X') else (P 51 [(Int32.ofInt 1), (Int32.ofInt 0)] [] [] X23 v X'))))))) else (∃ (w8 : Int32) (X7 : fx_X), gx_219 ((Int8.ofInt 40).toInt32) X2 w8 X7 ∧ (if (w8).toInt = 0 then (v = (Int32.ofInt 0) ∧ X' = X7) else ((if (p2).toInt = 0 then (P 51 [(Int32.ofInt 0), (Int32.ofInt 1)] [] [] X7 v X') else (∃ (w13 : Int32) (X12 : fx_X), gx_220 ((Int8.ofInt 41).toInt32) X7 w13 X12 ∧ (if (w13).toInt = 0 then (P 51 [(Int32.ofInt 0), (Int32.ofInt 1)] [] [] X12 v X') else (P 51 [(Int32.ofInt 0), (Int32.ofInt 0)] [] [] X12 v X'))))))))
noncomputable def gxF_261 (p1 : Int32) (p2 : Int32) (n : Nat) : Nat → List Int32 → List Int64 → List Nat → fx_X → Int32 → fx_X → Prop := Nat.rec (motive := fun _ => Nat → List Int32 → List Int64 → List Nat → fx_X → Int32 → fx_X → Prop) (fun _ _ _ _ _ _ _ => False) (fun _ P l is ls rs X v X' => (l = 51 ∧ ∃ (y3 : Int32) (y4 : Int32), is = [y3, y4] ∧ ls = [] ∧ rs = [] ∧ gxT_261_51 p1 p2 P y3 y4 X v X') ∨ (l = 75 ∧ ∃ (y3 : Int32) (y5 : Int32) (y6 : Int32), is = [y3, y5, y6] ∧ ls = [] ∧ rs = [] ∧ gxT_261_75 p1 p2 P y3 y5 y6 X v X')) n
theorem gxI_261_51 {p1 : Int32} {p2 : Int32} {n : Nat} {y3 : Int32} {y4 : Int32} {X : fx_X} {v : Int32} {X' : fx_X} (h : gxT_261_51 p1 p2 (gxF_261 p1 p2 n) y3 y4 X v X') : gxF_261 p1 p2 (n + 1) 51 [y3, y4] [] [] X v X' := Or.inl ⟨rfl, y3, y4, rfl, rfl, rfl, h⟩
theorem gxO_261_51 {p1 : Int32} {p2 : Int32} {n : Nat} {y3 : Int32} {y4 : Int32} {X : fx_X} {v : Int32} {X' : fx_X} (h : gxF_261 p1 p2 (n + 1) 51 [y3, y4] [] [] X v X') : gxT_261_51 p1 p2 (gxF_261 p1 p2 n) y3 y4 X v X' := by
  rcases h with ⟨-, _, _, e1, e2, e3, h⟩ | ⟨e, -⟩
  · cases e1; cases e2; cases e3; exact h
  · exact absurd e (by decide)
theorem gxI_261_75 {p1 : Int32} {p2 : Int32} {n : Nat} {y3 : Int32} {y5 : Int32} {y6 : Int32} {X : fx_X} {v : Int32} {X' : fx_X} (h : gxT_261_75 p1 p2 (gxF_261 p1 p2 n) y3 y5 y6 X v X') : gxF_261 p1 p2 (n + 1) 75 [y3, y5, y6] [] [] X v X' := Or.inr (⟨rfl, y3, y5, y6, rfl, rfl, rfl, h⟩)
theorem gxO_261_75 {p1 : Int32} {p2 : Int32} {n : Nat} {y3 : Int32} {y5 : Int32} {y6 : Int32} {X : fx_X} {v : Int32} {X' : fx_X} (h : gxF_261 p1 p2 (n + 1) 75 [y3, y5, y6] [] [] X v X') : gxT_261_75 p1 p2 (gxF_261 p1 p2 n) y3 y5 y6 X v X' := by
  rcases h with ⟨e, -⟩ | ⟨-, _, _, _, e1, e2, e3, h⟩
  · exact absurd e (by decide)
  · cases e1; cases e2; cases e3; exact h
def gx_261 (p1 : Int32) (p2 : Int32) (X : fx_X) (v : Int32) (X' : fx_X) : Prop := ∃ n : Nat, gxE_261 p1 p2 (gxF_261 p1 p2 n) X v X'
theorem gxL_261 {tb : aj_T} (p1 : Int32) (p2 : Int32) : ∀ N : Nat, (∀ (lv : aj_V) (y3 : Int32) (y4 : Int32) (X : fx_X), aj_lv lv 0 = some (.ref 117) → aj_lv lv 1 = some (.int p1) → aj_lv lv 3 = some (.int y3) → aj_lv lv 4 = some (.int y4) → fx_W tb aj_m261 N 51 lv [] X (fx_Q fx_qI (fun v X' => ∃ n : Nat, gxF_261 p1 p2 n 51 [y3, y4] [] [] X v X'))) ∧ (∀ (lv : aj_V) (y3 : Int32) (y5 : Int32) (y6 : Int32) (X : fx_X), aj_lv lv 0 = some (.ref 117) → aj_lv lv 1 = some (.int p1) → aj_lv lv 3 = some (.int y3) → aj_lv lv 5 = some (.int y5) → aj_lv lv 6 = some (.int y6) → fx_W tb aj_m261 N 75 lv [] X (fx_Q fx_qI (fun v X' => ∃ n : Nat, gxF_261 p1 p2 n 75 [y3, y5, y6] [] [] X v X'))) := by
  intro N
  induction N with
  | zero => exact ⟨(by intros; exact fx_z), (by intros; exact fx_z)⟩
  | succ N ih =>
    refine ⟨?_, ?_⟩
    · intro lv y3 y4 X hlv_0 hlv_1 hlv_3 hlv_4
      refine fx_mono (Q := fx_Q fx_qI (fun v X' => ∃ n : Nat, gxT_261_51 p1 p2 (gxF_261 p1 p2 n) y3 y4 X v X')) (fun r X' ⟨v, e, n, z⟩ => ⟨v, e, n + 1, gxI_261_51 z⟩) ?_
      unfold gxT_261_51
      refine fx_i0 aj_d261 rfl (Nat.le_refl _) (fun _ => rfl) hlv_4 ?_
      refine fx_b0 (tgt := 183) aj_d261 rfl (Nat.le_succ _) rfl (fun q28 => ?_) (fun q28 => ?_)
      · skip
        refine fx_qi (c := (y4).toInt = 0) (fx_t_eq q28) ?_
        show fx_W _ _ _ 183 lv [] _ _
        refine fx_i0 aj_d261 rfl (Nat.le_succ _) (fun _ => rfl) hlv_3 ?_
        refine fx_b0 (tgt := 194) aj_d261 rfl (Nat.le_succ _) rfl (fun q29 => ?_) (fun q29 => ?_)
        · skip
          refine fx_qi (c := (y3).toInt = 0) (fx_t_eq q29) ?_
          show fx_W _ _ _ 194 lv [] _ _
          refine fx_i2 aj_d261 rfl (Nat.le_succ _) (fun _ => rfl) hlv_0 ?_
          refine fx_n (pc' := 197) (lv' := lv) (st' := [.int ((Int8.ofInt 41).toInt32), .ref 117]) aj_d261 rfl (Nat.le_succ _) (fun _ => rfl) ?_
          refine fx_cv aj_d261 rfl (Nat.le_succ _) rfl [_] rfl rfl (gx_219_ok ((Int8.ofInt 41).toInt32)) ?_
          rintro _ X30 ⟨w31, rfl, hR30⟩ hok30 hle30
          refine fx_qc hR30 ?_
          show fx_W _ _ _ 200 lv [.int w31] _ _
          exact fx_ri aj_d261 rfl ⟨_, rfl, 0, rfl, rfl⟩
        · skip
          refine fx_qe (c := (y3).toInt = 0) (fx_f_eq q29) ?_
          show fx_W _ _ _ 187 lv [] _ _
          refine fx_i2 aj_d261 rfl (Nat.le_succ _) (fun _ => rfl) hlv_0 ?_
          refine fx_gF aj_d261 rfl (Nat.le_succ _) rfl rfl fx_in_11_16 (t := 132) rfl (fun hA32 => ?_)
          refine fx_i0 aj_d261 rfl (Nat.le_succ _) (fun _ => rfl) hlv_1 ?_
          refine fx_n (pc' := 193) (lv' := lv) (st' := [.int (Int32.ofInt (-1)), .int p1, .ref 132]) aj_d261 rfl (Nat.le_succ _) (fun _ => rfl) ?_
          refine fx_st aj_d261 (Or.inl ⟨rfl, rfl⟩) rfl (Nat.le_succ _) (fun g330 g331 => ?_)
          show fx_W _ _ _ _ _ _ (fx_wI X 132 (p1).toInt.toNat (Int32.ofInt (-1))) _
          refine fx_qa (c := 0 ≤ (p1).toInt ∧ (p1).toInt < ((50 : Nat) : Int)) ⟨g330, fx_lnk g331 hA32⟩ ?_
          refine fx_qX (fun X34 eX34 => ?_)
          show fx_W _ _ _ 194 lv [] _ _
          refine fx_i2 aj_d261 rfl (Nat.le_succ _) (fun _ => rfl) hlv_0 ?_
          refine fx_n (pc' := 197) (lv' := lv) (st' := [.int ((Int8.ofInt 41).toInt32), .ref 117]) aj_d261 rfl (Nat.le_succ _) (fun _ => rfl) ?_
          refine fx_cv aj_d261 rfl (Nat.le_succ _) rfl [_] rfl rfl (gx_219_ok ((Int8.ofInt 41).toInt32)) ?_
          rintro _ X35 ⟨w36, rfl, hR35⟩ hok35 hle35
          refine fx_qc hR35 ?_
          show fx_W _ _ _ 200 lv [.int w36] _ _
          exact fx_ri aj_d261 rfl ⟨_, rfl, 0, rfl, rfl⟩
      · skip
        refine fx_qe (c := (y4).toInt = 0) (fx_f_eq q28) ?_
        show fx_W _ _ _ 56 lv [] _ _
        refine fx_i2 aj_d261 rfl (Nat.le_succ _) (fun _ => rfl) hlv_0 ?_
        refine fx_cv aj_d261 rfl (Nat.le_succ _) rfl [] rfl rfl (gx_216_ok) ?_
        rintro _ X37 ⟨w38, rfl, hR37⟩ hok37 hle37
        refine fx_qc hR37 ?_
        show fx_W _ _ _ 60 lv [.int w38] _ _
        refine fx_b0 (tgt := 65) aj_d261 rfl (Nat.le_succ _) rfl (fun q39 => ?_) (fun q39 => ?_)
        · skip
          refine fx_qe (c := (w38).toInt = 0) (fx_t_ne q39) ?_
          show fx_W _ _ _ 65 lv [] _ _
          refine fx_i2 aj_d261 rfl (Nat.le_succ _) (fun _ => rfl) hlv_0 ?_
          refine fx_i0 aj_d261 rfl (Nat.le_succ _) (fun _ => rfl) hlv_1 ?_
          refine fx_cv aj_d261 rfl (Nat.le_succ _) rfl [_] rfl rfl (gx_256_ok p1) ?_
          rintro _ X40 ⟨w41, rfl, hR40⟩ hok40 hle40
          refine fx_qc hR40 ?_
          show fx_W _ _ _ 70 lv [.int w41] _ _
          refine fx_s0 (j := 5) aj_d261 rfl (Nat.le_succ _) (by decide) (fun _ => rfl) ?_
          obtain ⟨lv42, elv42⟩ : ∃ l, l = aj_set1 lv 5 (.int w41) := ⟨_, rfl⟩
          rw [← elv42]
          have hlv42_0 : aj_lv lv42 0 = some (.ref 117) := fx_e1 elv42 hlv_0 (by decide) (Or.inl (by decide))
          have hlv42_1 : aj_lv lv42 1 = some (.int p1) := fx_e1 elv42 hlv_1 (by decide) (Or.inl (by decide))
          have hlv42_3 : aj_lv lv42 3 = some (.int y3) := fx_e1 elv42 hlv_3 (by decide) (Or.inl (by decide))
          have hlv42_5 : aj_lv lv42 5 = some (.int w41) := by rw [elv42]; exact ak_set1_eq _ _ _
          show fx_W _ _ _ 72 lv42 [] _ _
          refine fx_n (pc' := 73) (lv' := lv42) (st' := [.int (Int32.ofInt 0)]) aj_d261 rfl (Nat.le_succ _) (fun _ => rfl) ?_
          refine fx_s0 (j := 6) aj_d261 rfl (Nat.le_succ _) (by decide) (fun _ => rfl) ?_
          obtain ⟨lv43, elv43⟩ : ∃ l, l = aj_set1 lv42 6 (.int (Int32.ofInt 0)) := ⟨_, rfl⟩
          rw [← elv43]
          have hlv43_0 : aj_lv lv43 0 = some (.ref 117) := fx_e1 elv43 hlv42_0 (by decide) (Or.inl (by decide))
          have hlv43_1 : aj_lv lv43 1 = some (.int p1) := fx_e1 elv43 hlv42_1 (by decide) (Or.inl (by decide))
          have hlv43_3 : aj_lv lv43 3 = some (.int y3) := fx_e1 elv43 hlv42_3 (by decide) (Or.inl (by decide))
          have hlv43_5 : aj_lv lv43 5 = some (.int w41) := fx_e1 elv43 hlv42_5 (by decide) (Or.inr rfl)
          have hlv43_6 : aj_lv lv43 6 = some (.int (Int32.ofInt 0)) := by rw [elv43]; exact ak_set1_eq _ _ _
          show fx_W _ _ _ 75 lv43 [] _ _
          exact (ih.2) lv43 (y3) (w41) ((Int32.ofInt 0)) X40  hlv43_0 hlv43_1 hlv43_3 hlv43_5 hlv43_6
        · skip
          refine fx_qi (c := (w38).toInt = 0) (fx_f_ne q39) ?_
          show fx_W _ _ _ 63 lv [] _ _
          refine fx_n (pc' := 64) (lv' := lv) (st' := [.int (Int32.ofInt 0)]) aj_d261 rfl (Nat.le_succ _) (fun _ => rfl) ?_
          exact fx_ri aj_d261 rfl ⟨_, rfl, 0, rfl, rfl⟩
    · intro lv y3 y5 y6 X hlv_0 hlv_1 hlv_3 hlv_5 hlv_6
      refine fx_mono (Q := fx_Q fx_qI (fun v X' => ∃ n : Nat, gxT_261_75 p1 p2 (gxF_261 p1 p2 n) y3 y5 y6 X v X')) (fun r X' ⟨v, e, n, z⟩ => ⟨v, e, n + 1, gxI_261_75 z⟩) ?_
      unfold gxT_261_75
      refine fx_i0 aj_d261 rfl (Nat.le_refl _) (fun _ => rfl) hlv_6 ?_
      refine fx_i2 aj_d261 rfl (Nat.le_succ _) (fun _ => rfl) hlv_0 ?_
      refine fx_gI aj_d261 rfl (Nat.le_succ _) rfl rfl (Or.inl rfl) ?_
      refine fx_b (tgt := 118) aj_d261 rfl (Nat.le_succ _) rfl (fun q44 => ?_) (fun q44 => ?_)
      · skip
        refine fx_qe (c := (y6).toInt < ((X.1 117 56)).toInt) (fx_t_ge q44) ?_
        show fx_W _ _ _ 118 lv [] _ _
        refine fx_i0 aj_d261 rfl (Nat.le_succ _) (fun _ => rfl) hlv_3 ?_
        refine fx_b0 (tgt := 127) aj_d261 rfl (Nat.le_succ _) rfl (fun q45 => ?_) (fun q45 => ?_)
        · skip
          refine fx_qe (c := (y3).toInt = 0) (fx_t_ne q45) ?_
          show fx_W _ _ _ 127 lv [] _ _
          refine fx_n (pc' := 128) (lv' := lv) (st' := [.int (Int32.ofInt 1)]) aj_d261 rfl (Nat.le_succ _) (fun _ => rfl) ?_
          refine fx_n (pc' := 132) (lv' := lv) (st' := [.int (Int32.ofInt 1)]) aj_d261 rfl (Nat.le_succ _) (fun _ => rfl) ?_
          refine fx_s0 (j := 3) aj_d261 rfl (Nat.le_succ _) (by decide) (fun _ => rfl) ?_
          obtain ⟨lv46, elv46⟩ : ∃ l, l = aj_set1 lv 3 (.int (Int32.ofInt 1)) := ⟨_, rfl⟩
          rw [← elv46]
          have hlv46_0 : aj_lv lv46 0 = some (.ref 117) := fx_e1 elv46 hlv_0 (by decide) (Or.inl (by decide))
          have hlv46_1 : aj_lv lv46 1 = some (.int p1) := fx_e1 elv46 hlv_1 (by decide) (Or.inl (by decide))
          have hlv46_5 : aj_lv lv46 5 = some (.int y5) := fx_e1 elv46 hlv_5 (by decide) (Or.inl (by decide))
          have hlv46_3 : aj_lv lv46 3 = some (.int (Int32.ofInt 1)) := by rw [elv46]; exact ak_set1_eq _ _ _
          show fx_W _ _ _ 133 lv46 [] _ _
          refine fx_i0 aj_d261 rfl (Nat.le_succ _) (fun _ => rfl) hlv46_3 ?_
          refine fx_b0 (tgt := 158) aj_d261 rfl (Nat.le_succ _) rfl (fun q47 => ?_) (fun q47 => ?_)
          · skip
            show fx_W _ _ _ 158 lv46 [] _ _
            refine fx_i2 aj_d261 rfl (Nat.le_succ _) (fun _ => rfl) hlv46_0 ?_
            refine fx_n (pc' := 161) (lv' := lv46) (st' := [.int ((Int8.ofInt 44).toInt32), .ref 117]) aj_d261 rfl (Nat.le_succ _) (fun _ => rfl) ?_
            refine fx_cv aj_d261 rfl (Nat.le_succ _) rfl [_] rfl rfl (gx_220_ok ((Int8.ofInt 44).toInt32)) ?_
            rintro _ X48 ⟨w49, rfl, hR48⟩ hok48 hle48
            refine fx_qc hR48 ?_
            show fx_W _ _ _ 164 lv46 [.int w49] _ _
            refine fx_s0 (j := 4) aj_d261 rfl (Nat.le_succ _) (by decide) (fun _ => rfl) ?_
            obtain ⟨lv50, elv50⟩ : ∃ l, l = aj_set1 lv46 4 (.int w49) := ⟨_, rfl⟩
            rw [← elv50]
            have hlv50_0 : aj_lv lv50 0 = some (.ref 117) := fx_e1 elv50 hlv46_0 (by decide) (Or.inl (by decide))
            have hlv50_1 : aj_lv lv50 1 = some (.int p1) := fx_e1 elv50 hlv46_1 (by decide) (Or.inl (by decide))
            have hlv50_3 : aj_lv lv50 3 = some (.int (Int32.ofInt 1)) := fx_e1 elv50 hlv46_3 (by decide) (Or.inr rfl)
            have hlv50_4 : aj_lv lv50 4 = some (.int w49) := by rw [elv50]; exact ak_set1_eq _ _ _
            show fx_W _ _ _ 166 lv50 [] _ _
            refine fx_i0 aj_d261 rfl (Nat.le_succ _) (fun _ => rfl) hlv50_4 ?_
            refine fx_b0 (tgt := 180) aj_d261 rfl (Nat.le_succ _) rfl (fun q51 => ?_) (fun q51 => ?_)
            · skip
              refine fx_qi (c := (w49).toInt = 0) (fx_t_eq q51) ?_
              show fx_W _ _ _ 180 lv50 [] _ _
              refine fx_n (pc' := 51) (lv' := lv50) (st' := []) aj_d261 rfl (Nat.le_succ _) (fun _ => rfl) ?_
              exact (ih.1) lv50 ((Int32.ofInt 1)) (w49) X48  hlv50_0 hlv50_1 hlv50_3 hlv50_4
            · skip
              refine fx_qe (c := (w49).toInt = 0) (fx_f_eq q51) ?_
              show fx_W _ _ _ 171 lv50 [] _ _
              refine fx_i2 aj_d261 rfl (Nat.le_succ _) (fun _ => rfl) hlv50_0 ?_
              refine fx_cv aj_d261 rfl (Nat.le_succ _) rfl [] rfl rfl (gx_214_ok) ?_
              rintro _ X52 ⟨w53, rfl, hR52⟩ hok52 hle52
              refine fx_qc hR52 ?_
              show fx_W _ _ _ 175 lv50 [.int w53] _ _
              refine fx_b0 (tgt := 180) aj_d261 rfl (Nat.le_succ _) rfl (fun q54 => ?_) (fun q54 => ?_)
              · skip
                refine fx_qe (c := (w53).toInt = 0) (fx_t_ne q54) ?_
                show fx_W _ _ _ 180 lv50 [] _ _
                refine fx_n (pc' := 51) (lv' := lv50) (st' := []) aj_d261 rfl (Nat.le_succ _) (fun _ => rfl) ?_
                exact (ih.1) lv50 ((Int32.ofInt 1)) (w49) X52  hlv50_0 hlv50_1 hlv50_3 hlv50_4
              · skip
                refine fx_qi (c := (w53).toInt = 0) (fx_f_ne q54) ?_
                show fx_W _ _ _ 178 lv50 [] _ _
                refine fx_n (pc' := 179) (lv' := lv50) (st' := [.int (Int32.ofInt 0)]) aj_d261 rfl (Nat.le_succ _) (fun _ => rfl) ?_
                exact fx_ri aj_d261 rfl ⟨_, rfl, 0, rfl, rfl⟩
          · exact absurd q47 (by decide)
        · skip
          refine fx_qi (c := (y3).toInt = 0) (fx_f_ne q45) ?_
          show fx_W _ _ _ 122 lv [] _ _
          refine fx_i0 aj_d261 rfl (Nat.le_succ _) (fun _ => rfl) hlv_5 ?_
          refine fx_b0 (tgt := 131) aj_d261 rfl (Nat.le_succ _) rfl (fun q55 => ?_) (fun q55 => ?_)
          · skip
            refine fx_qe (c := (y5).toInt < 0) (fx_t_ge q55) ?_
            show fx_W _ _ _ 131 lv [] _ _
            refine fx_n (pc' := 132) (lv' := lv) (st' := [.int (Int32.ofInt 0)]) aj_d261 rfl (Nat.le_succ _) (fun _ => rfl) ?_
            refine fx_s0 (j := 3) aj_d261 rfl (Nat.le_succ _) (by decide) (fun _ => rfl) ?_
            obtain ⟨lv56, elv56⟩ : ∃ l, l = aj_set1 lv 3 (.int (Int32.ofInt 0)) := ⟨_, rfl⟩
            rw [← elv56]
            have hlv56_0 : aj_lv lv56 0 = some (.ref 117) := fx_e1 elv56 hlv_0 (by decide) (Or.inl (by decide))
            have hlv56_1 : aj_lv lv56 1 = some (.int p1) := fx_e1 elv56 hlv_1 (by decide) (Or.inl (by decide))
            have hlv56_5 : aj_lv lv56 5 = some (.int y5) := fx_e1 elv56 hlv_5 (by decide) (Or.inl (by decide))
            have hlv56_3 : aj_lv lv56 3 = some (.int (Int32.ofInt 0)) := by rw [elv56]; exact ak_set1_eq _ _ _
            show fx_W _ _ _ 133 lv56 [] _ _
            refine fx_i0 aj_d261 rfl (Nat.le_succ _) (fun _ => rfl) hlv56_3 ?_
            refine fx_b0 (tgt := 158) aj_d261 rfl (Nat.le_succ _) rfl (fun q57 => ?_) (fun q57 => ?_)
            · exact absurd q57 (by decide)
            · skip
              show fx_W _ _ _ 137 lv56 [] _ _
              refine fx_i2 aj_d261 rfl (Nat.le_succ _) (fun _ => rfl) hlv56_0 ?_
              refine fx_gF aj_d261 rfl (Nat.le_succ _) rfl rfl fx_in_11_55 (t := 142) rfl (fun hA58 => ?_)
              refine fx_i2 aj_d261 rfl (Nat.le_succ _) (fun _ => rfl) hlv56_0 ?_
              refine fx_gI aj_d261 rfl (Nat.le_succ _) rfl rfl (Or.inl rfl) ?_
              refine fx_i0 aj_d261 rfl (Nat.le_succ _) (fun _ => rfl) hlv56_5 ?_
              refine fx_st aj_d261 (Or.inl ⟨rfl, rfl⟩) rfl (Nat.le_succ _) (fun g590 g591 => ?_)
              show fx_W _ _ _ _ _ _ (fx_wI X 142 ((X.1 117 56)).toInt.toNat y5) _
              refine fx_qa (c := 0 ≤ ((X.1 117 56)).toInt ∧ ((X.1 117 56)).toInt < ((16 : Nat) : Int)) ⟨g590, fx_lnk g591 hA58⟩ ?_
              refine fx_qX (fun X60 eX60 => ?_)
              show fx_W _ _ _ 148 lv56 [] _ _
              refine fx_i2 aj_d261 rfl (Nat.le_succ _) (fun _ => rfl) hlv56_0 ?_
              refine fx_n (pc' := 150) (lv' := lv56) (st' := [.ref 117, .ref 117]) aj_d261 rfl (Nat.le_succ _) (fun _ => rfl) ?_
              refine fx_gI aj_d261 rfl (Nat.le_succ _) rfl rfl (Or.inl rfl) ?_
              refine fx_n (pc' := 154) (lv' := lv56) (st' := [.int (Int32.ofInt 1), .int (X60.1 117 56), .ref 117]) aj_d261 rfl (Nat.le_succ _) (fun _ => rfl) ?_
              refine fx_n (pc' := 155) (lv' := lv56) (st' := [.int ((X60.1 117 56) + (Int32.ofInt 1)), .ref 117]) aj_d261 rfl (Nat.le_succ _) (fun _ => rfl) ?_
              refine fx_pI aj_d261 rfl (Nat.le_succ _) rfl rfl (Or.inl rfl) fx_no_11_56 (by decide) ?_
              refine fx_qX (fun X61 eX61 => ?_)
              show fx_W _ _ _ 158 lv56 [] _ _
              refine fx_i2 aj_d261 rfl (Nat.le_succ _) (fun _ => rfl) hlv56_0 ?_
              refine fx_n (pc' := 161) (lv' := lv56) (st' := [.int ((Int8.ofInt 44).toInt32), .ref 117]) aj_d261 rfl (Nat.le_succ _) (fun _ => rfl) ?_
              refine fx_cv aj_d261 rfl (Nat.le_succ _) rfl [_] rfl rfl (gx_220_ok ((Int8.ofInt 44).toInt32)) ?_
              rintro _ X62 ⟨w63, rfl, hR62⟩ hok62 hle62
              refine fx_qc hR62 ?_
              show fx_W _ _ _ 164 lv56 [.int w63] _ _
              refine fx_s0 (j := 4) aj_d261 rfl (Nat.le_succ _) (by decide) (fun _ => rfl) ?_
              obtain ⟨lv64, elv64⟩ : ∃ l, l = aj_set1 lv56 4 (.int w63) := ⟨_, rfl⟩
              rw [← elv64]
              have hlv64_0 : aj_lv lv64 0 = some (.ref 117) := fx_e1 elv64 hlv56_0 (by decide) (Or.inl (by decide))
              have hlv64_1 : aj_lv lv64 1 = some (.int p1) := fx_e1 elv64 hlv56_1 (by decide) (Or.inl (by decide))
              have hlv64_3 : aj_lv lv64 3 = some (.int (Int32.ofInt 0)) := fx_e1 elv64 hlv56_3 (by decide) (Or.inr rfl)
              have hlv64_4 : aj_lv lv64 4 = some (.int w63) := by rw [elv64]; exact ak_set1_eq _ _ _
              show fx_W _ _ _ 166 lv64 [] _ _
              refine fx_i0 aj_d261 rfl (Nat.le_succ _) (fun _ => rfl) hlv64_4 ?_
              refine fx_b0 (tgt := 180) aj_d261 rfl (Nat.le_succ _) rfl (fun q65 => ?_) (fun q65 => ?_)
              · skip
                refine fx_qi (c := (w63).toInt = 0) (fx_t_eq q65) ?_
                show fx_W _ _ _ 180 lv64 [] _ _
                refine fx_n (pc' := 51) (lv' := lv64) (st' := []) aj_d261 rfl (Nat.le_succ _) (fun _ => rfl) ?_
                exact (ih.1) lv64 ((Int32.ofInt 0)) (w63) X62  hlv64_0 hlv64_1 hlv64_3 hlv64_4
              · skip
                refine fx_qe (c := (w63).toInt = 0) (fx_f_eq q65) ?_
                show fx_W _ _ _ 171 lv64 [] _ _
                refine fx_i2 aj_d261 rfl (Nat.le_succ _) (fun _ => rfl) hlv64_0 ?_
                refine fx_cv aj_d261 rfl (Nat.le_succ _) rfl [] rfl rfl (gx_214_ok) ?_
                rintro _ X66 ⟨w67, rfl, hR66⟩ hok66 hle66
                refine fx_qc hR66 ?_
                show fx_W _ _ _ 175 lv64 [.int w67] _ _
                refine fx_b0 (tgt := 180) aj_d261 rfl (Nat.le_succ _) rfl (fun q68 => ?_) (fun q68 => ?_)
                · skip
                  refine fx_qe (c := (w67).toInt = 0) (fx_t_ne q68) ?_
                  show fx_W _ _ _ 180 lv64 [] _ _
                  refine fx_n (pc' := 51) (lv' := lv64) (st' := []) aj_d261 rfl (Nat.le_succ _) (fun _ => rfl) ?_
                  exact (ih.1) lv64 ((Int32.ofInt 0)) (w63) X66  hlv64_0 hlv64_1 hlv64_3 hlv64_4
                · skip
                  refine fx_qi (c := (w67).toInt = 0) (fx_f_ne q68) ?_
                  show fx_W _ _ _ 178 lv64 [] _ _
                  refine fx_n (pc' := 179) (lv' := lv64) (st' := [.int (Int32.ofInt 0)]) aj_d261 rfl (Nat.le_succ _) (fun _ => rfl) ?_
                  exact fx_ri aj_d261 rfl ⟨_, rfl, 0, rfl, rfl⟩
          · skip
            refine fx_qi (c := (y5).toInt < 0) (fx_f_ge q55) ?_
            show fx_W _ _ _ 127 lv [] _ _
            refine fx_n (pc' := 128) (lv' := lv) (st' := [.int (Int32.ofInt 1)]) aj_d261 rfl (Nat.le_succ _) (fun _ => rfl) ?_
            refine fx_n (pc' := 132) (lv' := lv) (st' := [.int (Int32.ofInt 1)]) aj_d261 rfl (Nat.le_succ _) (fun _ => rfl) ?_
            refine fx_s0 (j := 3) aj_d261 rfl (Nat.le_succ _) (by decide) (fun _ => rfl) ?_
            obtain ⟨lv69, elv69⟩ : ∃ l, l = aj_set1 lv 3 (.int (Int32.ofInt 1)) := ⟨_, rfl⟩
            rw [← elv69]
            have hlv69_0 : aj_lv lv69 0 = some (.ref 117) := fx_e1 elv69 hlv_0 (by decide) (Or.inl (by decide))
            have hlv69_1 : aj_lv lv69 1 = some (.int p1) := fx_e1 elv69 hlv_1 (by decide) (Or.inl (by decide))
            have hlv69_5 : aj_lv lv69 5 = some (.int y5) := fx_e1 elv69 hlv_5 (by decide) (Or.inl (by decide))
            have hlv69_3 : aj_lv lv69 3 = some (.int (Int32.ofInt 1)) := by rw [elv69]; exact ak_set1_eq _ _ _
            show fx_W _ _ _ 133 lv69 [] _ _
            refine fx_i0 aj_d261 rfl (Nat.le_succ _) (fun _ => rfl) hlv69_3 ?_
            refine fx_b0 (tgt := 158) aj_d261 rfl (Nat.le_succ _) rfl (fun q70 => ?_) (fun q70 => ?_)
            · skip
              show fx_W _ _ _ 158 lv69 [] _ _
              refine fx_i2 aj_d261 rfl (Nat.le_succ _) (fun _ => rfl) hlv69_0 ?_
              refine fx_n (pc' := 161) (lv' := lv69) (st' := [.int ((Int8.ofInt 44).toInt32), .ref 117]) aj_d261 rfl (Nat.le_succ _) (fun _ => rfl) ?_
              refine fx_cv aj_d261 rfl (Nat.le_succ _) rfl [_] rfl rfl (gx_220_ok ((Int8.ofInt 44).toInt32)) ?_
              rintro _ X71 ⟨w72, rfl, hR71⟩ hok71 hle71
              refine fx_qc hR71 ?_
              show fx_W _ _ _ 164 lv69 [.int w72] _ _
              refine fx_s0 (j := 4) aj_d261 rfl (Nat.le_succ _) (by decide) (fun _ => rfl) ?_
              obtain ⟨lv73, elv73⟩ : ∃ l, l = aj_set1 lv69 4 (.int w72) := ⟨_, rfl⟩
              rw [← elv73]
              have hlv73_0 : aj_lv lv73 0 = some (.ref 117) := fx_e1 elv73 hlv69_0 (by decide) (Or.inl (by decide))
              have hlv73_1 : aj_lv lv73 1 = some (.int p1) := fx_e1 elv73 hlv69_1 (by decide) (Or.inl (by decide))
              have hlv73_3 : aj_lv lv73 3 = some (.int (Int32.ofInt 1)) := fx_e1 elv73 hlv69_3 (by decide) (Or.inr rfl)
              have hlv73_4 : aj_lv lv73 4 = some (.int w72) := by rw [elv73]; exact ak_set1_eq _ _ _
              show fx_W _ _ _ 166 lv73 [] _ _
              refine fx_i0 aj_d261 rfl (Nat.le_succ _) (fun _ => rfl) hlv73_4 ?_
              refine fx_b0 (tgt := 180) aj_d261 rfl (Nat.le_succ _) rfl (fun q74 => ?_) (fun q74 => ?_)
              · skip
                refine fx_qi (c := (w72).toInt = 0) (fx_t_eq q74) ?_
                show fx_W _ _ _ 180 lv73 [] _ _
                refine fx_n (pc' := 51) (lv' := lv73) (st' := []) aj_d261 rfl (Nat.le_succ _) (fun _ => rfl) ?_
                exact (ih.1) lv73 ((Int32.ofInt 1)) (w72) X71  hlv73_0 hlv73_1 hlv73_3 hlv73_4
              · skip
                refine fx_qe (c := (w72).toInt = 0) (fx_f_eq q74) ?_
                show fx_W _ _ _ 171 lv73 [] _ _
                refine fx_i2 aj_d261 rfl (Nat.le_succ _) (fun _ => rfl) hlv73_0 ?_
                refine fx_cv aj_d261 rfl (Nat.le_succ _) rfl [] rfl rfl (gx_214_ok) ?_
                rintro _ X75 ⟨w76, rfl, hR75⟩ hok75 hle75
                refine fx_qc hR75 ?_
                show fx_W _ _ _ 175 lv73 [.int w76] _ _
                refine fx_b0 (tgt := 180) aj_d261 rfl (Nat.le_succ _) rfl (fun q77 => ?_) (fun q77 => ?_)
                · skip
                  refine fx_qe (c := (w76).toInt = 0) (fx_t_ne q77) ?_
                  show fx_W _ _ _ 180 lv73 [] _ _
                  refine fx_n (pc' := 51) (lv' := lv73) (st' := []) aj_d261 rfl (Nat.le_succ _) (fun _ => rfl) ?_
                  exact (ih.1) lv73 ((Int32.ofInt 1)) (w72) X75  hlv73_0 hlv73_1 hlv73_3 hlv73_4
                · skip
                  refine fx_qi (c := (w76).toInt = 0) (fx_f_ne q77) ?_
                  show fx_W _ _ _ 178 lv73 [] _ _
                  refine fx_n (pc' := 179) (lv' := lv73) (st' := [.int (Int32.ofInt 0)]) aj_d261 rfl (Nat.le_succ _) (fun _ => rfl) ?_
                  exact fx_ri aj_d261 rfl ⟨_, rfl, 0, rfl, rfl⟩
            · exact absurd q70 (by decide)
      · skip
        refine fx_qi (c := (y6).toInt < ((X.1 117 56)).toInt) (fx_f_ge q44) ?_
        show fx_W _ _ _ 84 lv [] _ _
        refine fx_i0 aj_d261 rfl (Nat.le_succ _) (fun _ => rfl) hlv_5 ?_
        refine fx_b0 (tgt := 112) aj_d261 rfl (Nat.le_succ _) rfl (fun q78 => ?_) (fun q78 => ?_)
        · skip
          refine fx_qi (c := (y5).toInt < 0) (fx_t_lt q78) ?_
          show fx_W _ _ _ 112 lv [] _ _
          refine fx_incq aj_d261 rfl (Nat.le_succ _) hlv_6 (by decide) (fun x79 ex79 => ?_)
          obtain ⟨lv80, elv80⟩ : ∃ l, l = aj_set1 lv 6 (.int x79) := ⟨_, rfl⟩
          rw [← elv80]
          have hlv80_0 : aj_lv lv80 0 = some (.ref 117) := fx_e1 elv80 hlv_0 (by decide) (Or.inl (by decide))
          have hlv80_1 : aj_lv lv80 1 = some (.int p1) := fx_e1 elv80 hlv_1 (by decide) (Or.inl (by decide))
          have hlv80_3 : aj_lv lv80 3 = some (.int y3) := fx_e1 elv80 hlv_3 (by decide) (Or.inl (by decide))
          have hlv80_5 : aj_lv lv80 5 = some (.int y5) := fx_e1 elv80 hlv_5 (by decide) (Or.inr rfl)
          have hlv80_6 : aj_lv lv80 6 = some (.int x79) := by rw [elv80]; exact ak_set1_eq _ _ _
          show fx_W _ _ _ 115 lv80 [] _ _
          refine fx_n (pc' := 75) (lv' := lv80) (st' := []) aj_d261 rfl (Nat.le_succ _) (fun _ => rfl) ?_
          exact (ih.2) lv80 (y3) (y5) (x79) X  hlv80_0 hlv80_1 hlv80_3 hlv80_5 hlv80_6
        · skip
          refine fx_qe (c := (y5).toInt < 0) (fx_f_lt q78) ?_
          show fx_W _ _ _ 89 lv [] _ _
          refine fx_i2 aj_d261 rfl (Nat.le_succ _) (fun _ => rfl) hlv_0 ?_
          refine fx_gF aj_d261 rfl (Nat.le_succ _) rfl rfl fx_in_11_55 (t := 142) rfl (fun hA81 => ?_)
          refine fx_i0 aj_d261 rfl (Nat.le_succ _) (fun _ => rfl) hlv_6 ?_
          refine fx_ld aj_d261 (Or.inl rfl) rfl (Nat.le_succ _) (fun g820 g821 => ?_)
          show fx_W _ _ _ 96 lv [.int (X.1 142 (y6).toInt.toNat)] _ _
          refine fx_qa (c := 0 ≤ (y6).toInt ∧ (y6).toInt < ((16 : Nat) : Int)) ⟨g820, fx_lnk g821 hA81⟩ ?_
          refine fx_i0 aj_d261 rfl (Nat.le_succ _) (fun _ => rfl) hlv_5 ?_
          refine fx_b (tgt := 112) aj_d261 rfl (Nat.le_succ _) rfl (fun q83 => ?_) (fun q83 => ?_)
          · skip
            refine fx_qe (c := ((X.1 142 (y6).toInt.toNat)).toInt = (y5).toInt) (fx_t_ne q83) ?_
            show fx_W _ _ _ 112 lv [] _ _
            refine fx_incq aj_d261 rfl (Nat.le_succ _) hlv_6 (by decide) (fun x84 ex84 => ?_)
            obtain ⟨lv85, elv85⟩ : ∃ l, l = aj_set1 lv 6 (.int x84) := ⟨_, rfl⟩
            rw [← elv85]
            have hlv85_0 : aj_lv lv85 0 = some (.ref 117) := fx_e1 elv85 hlv_0 (by decide) (Or.inl (by decide))
            have hlv85_1 : aj_lv lv85 1 = some (.int p1) := fx_e1 elv85 hlv_1 (by decide) (Or.inl (by decide))
            have hlv85_3 : aj_lv lv85 3 = some (.int y3) := fx_e1 elv85 hlv_3 (by decide) (Or.inl (by decide))
            have hlv85_5 : aj_lv lv85 5 = some (.int y5) := fx_e1 elv85 hlv_5 (by decide) (Or.inr rfl)
            have hlv85_6 : aj_lv lv85 6 = some (.int x84) := by rw [elv85]; exact ak_set1_eq _ _ _
            show fx_W _ _ _ 115 lv85 [] _ _
            refine fx_n (pc' := 75) (lv' := lv85) (st' := []) aj_d261 rfl (Nat.le_succ _) (fun _ => rfl) ?_
            exact (ih.2) lv85 (y3) (y5) (x84) X  hlv85_0 hlv85_1 hlv85_3 hlv85_5 hlv85_6
          · skip
            refine fx_qi (c := ((X.1 142 (y6).toInt.toNat)).toInt = (y5).toInt) (fx_f_ne q83) ?_
            show fx_W _ _ _ 101 lv [] _ _
            refine fx_i2 aj_d261 rfl (Nat.le_succ _) (fun _ => rfl) hlv_0 ?_
            refine fx_n (pc' := 103) (lv' := lv) (st' := [.int (Int32.ofInt 3), .ref 117]) aj_d261 rfl (Nat.le_succ _) (fun _ => rfl) ?_
            refine fx_i2 aj_d261 rfl (Nat.le_succ _) (fun _ => rfl) hlv_0 ?_
            refine fx_gI aj_d261 rfl (Nat.le_succ _) rfl rfl (Or.inl rfl) ?_
            refine fx_cv aj_d261 rfl (Nat.le_succ _) rfl [_, _] rfl rfl (gx_218_ok (Int32.ofInt 3) (X.1 117 34)) ?_
            rintro _ X86 ⟨w87, rfl, hR86⟩ hok86 hle86
            refine fx_qc hR86 ?_
            show fx_W _ _ _ 110 lv [] _ _
            refine fx_n (pc' := 111) (lv' := lv) (st' := [.int (Int32.ofInt 1)]) aj_d261 rfl (Nat.le_succ _) (fun _ => rfl) ?_
            refine fx_s0 (j := 3) aj_d261 rfl (Nat.le_succ _) (by decide) (fun _ => rfl) ?_
            obtain ⟨lv88, elv88⟩ : ∃ l, l = aj_set1 lv 3 (.int (Int32.ofInt 1)) := ⟨_, rfl⟩
            rw [← elv88]
            have hlv88_0 : aj_lv lv88 0 = some (.ref 117) := fx_e1 elv88 hlv_0 (by decide) (Or.inl (by decide))
            have hlv88_1 : aj_lv lv88 1 = some (.int p1) := fx_e1 elv88 hlv_1 (by decide) (Or.inl (by decide))
            have hlv88_5 : aj_lv lv88 5 = some (.int y5) := fx_e1 elv88 hlv_5 (by decide) (Or.inl (by decide))
            have hlv88_6 : aj_lv lv88 6 = some (.int y6) := fx_e1 elv88 hlv_6 (by decide) (Or.inl (by decide))
            have hlv88_3 : aj_lv lv88 3 = some (.int (Int32.ofInt 1)) := by rw [elv88]; exact ak_set1_eq _ _ _
            show fx_W _ _ _ 112 lv88 [] _ _
            refine fx_incq aj_d261 rfl (Nat.le_succ _) hlv88_6 (by decide) (fun x89 ex89 => ?_)
            obtain ⟨lv90, elv90⟩ : ∃ l, l = aj_set1 lv88 6 (.int x89) := ⟨_, rfl⟩
            rw [← elv90]
            have hlv90_0 : aj_lv lv90 0 = some (.ref 117) := fx_e1 elv90 hlv88_0 (by decide) (Or.inl (by decide))
            have hlv90_1 : aj_lv lv90 1 = some (.int p1) := fx_e1 elv90 hlv88_1 (by decide) (Or.inl (by decide))
            have hlv90_5 : aj_lv lv90 5 = some (.int y5) := fx_e1 elv90 hlv88_5 (by decide) (Or.inr rfl)
            have hlv90_3 : aj_lv lv90 3 = some (.int (Int32.ofInt 1)) := fx_e1 elv90 hlv88_3 (by decide) (Or.inl (by decide))
            have hlv90_6 : aj_lv lv90 6 = some (.int x89) := by rw [elv90]; exact ak_set1_eq _ _ _
            show fx_W _ _ _ 115 lv90 [] _ _
            refine fx_n (pc' := 75) (lv' := lv90) (st' := []) aj_d261 rfl (Nat.le_succ _) (fun _ => rfl) ?_
            exact (ih.2) lv90 ((Int32.ofInt 1)) (y5) (x89) X86  hlv90_0 hlv90_1 hlv90_3 hlv90_5 hlv90_6
theorem gx_261_ok {tb : aj_T} (p1 : Int32) (p2 : Int32) {X : fx_X} : fx_K tb 261 [.ref 117, .int p1, .int p2] X (fx_Q fx_qI (fun v X' => gx_261 p1 p2 X v X')) := by
  refine fx_m aj_m261_at rfl (fun N => ?_)
  refine fx_mono (Q := fx_Q fx_qI (fun v X' => ∃ n : Nat, gxE_261 p1 p2 (gxF_261 p1 p2 n) X v X')) (fun r X' h => h) ?_
  unfold gxE_261
  show fx_W _ _ _ 0 [(0, .ref 117), (1, .int p1), (2, .int p2)] [] _ _
  obtain ⟨lv1, elv1⟩ : ∃ l : aj_V, l = [(0, .ref 117), (1, .int p1), (2, .int p2)] := ⟨_, rfl⟩
  rw [← elv1]
  have hlv1_0 : aj_lv lv1 0 = some (.ref 117) := by rw [elv1]; rfl
  have hlv1_1 : aj_lv lv1 1 = some (.int p1) := by rw [elv1]; rfl
  have hlv1_2 : aj_lv lv1 2 = some (.int p2) := by rw [elv1]; rfl
  refine fx_i2 aj_d261 rfl (Nat.le_succ _) (fun _ => rfl) hlv1_0 ?_
  refine fx_n (pc' := 2) (lv' := lv1) (st' := [.int (Int32.ofInt 0), .ref 117]) aj_d261 rfl (Nat.le_succ _) (fun _ => rfl) ?_
  refine fx_pI aj_d261 rfl (Nat.le_succ _) rfl rfl (Or.inl rfl) fx_no_11_56 (by decide) ?_
  refine fx_qX (fun X2 eX2 => ?_)
  show fx_W _ _ _ 5 lv1 [] _ _
  refine fx_i2 aj_d261 rfl (Nat.le_succ _) (fun _ => rfl) hlv1_0 ?_
  refine fx_gF aj_d261 rfl (Nat.le_succ _) rfl rfl fx_in_11_16 (t := 132) rfl (fun hA3 => ?_)
  refine fx_i0 aj_d261 rfl (Nat.le_succ _) (fun _ => rfl) hlv1_1 ?_
  refine fx_ld aj_d261 (Or.inl rfl) rfl (Nat.le_succ _) (fun g40 g41 => ?_)
  show fx_W _ _ _ 11 lv1 [.int (X2.1 132 (p1).toInt.toNat)] _ _
  refine fx_qa (c := 0 ≤ (p1).toInt ∧ (p1).toInt < ((50 : Nat) : Int)) ⟨g40, fx_lnk g41 hA3⟩ ?_
  refine fx_b0 (tgt := 18) aj_d261 rfl (Nat.le_succ _) rfl (fun q5 => ?_) (fun q5 => ?_)
  · skip
    refine fx_qe (c := ((X2.1 132 (p1).toInt.toNat)).toInt < 0) (fx_t_ge q5) ?_
    show fx_W _ _ _ 18 lv1 [] _ _
    refine fx_n (pc' := 19) (lv' := lv1) (st' := [.int (Int32.ofInt 0)]) aj_d261 rfl (Nat.le_succ _) (fun _ => rfl) ?_
    refine fx_s0 (j := 3) aj_d261 rfl (Nat.le_succ _) (by decide) (fun _ => rfl) ?_
    obtain ⟨lv6, elv6⟩ : ∃ l, l = aj_set1 lv1 3 (.int (Int32.ofInt 0)) := ⟨_, rfl⟩
    rw [← elv6]
    have hlv6_0 : aj_lv lv6 0 = some (.ref 117) := fx_e1 elv6 hlv1_0 (by decide) (Or.inl (by decide))
    have hlv6_1 : aj_lv lv6 1 = some (.int p1) := fx_e1 elv6 hlv1_1 (by decide) (Or.inl (by decide))
    have hlv6_2 : aj_lv lv6 2 = some (.int p2) := fx_e1 elv6 hlv1_2 (by decide) (Or.inr rfl)
    have hlv6_3 : aj_lv lv6 3 = some (.int (Int32.ofInt 0)) := by rw [elv6]; exact ak_set1_eq _ _ _
    show fx_W _ _ _ 20 lv6 [] _ _
    refine fx_i2 aj_d261 rfl (Nat.le_succ _) (fun _ => rfl) hlv6_0 ?_
    refine fx_n (pc' := 23) (lv' := lv6) (st' := [.int ((Int8.ofInt 40).toInt32), .ref 117]) aj_d261 rfl (Nat.le_succ _) (fun _ => rfl) ?_
    refine fx_cv aj_d261 rfl (Nat.le_succ _) rfl [_] rfl rfl (gx_219_ok ((Int8.ofInt 40).toInt32)) ?_
    rintro _ X7 ⟨w8, rfl, hR7⟩ hok7 hle7
    refine fx_qc hR7 ?_
    show fx_W _ _ _ 26 lv6 [.int w8] _ _
    refine fx_b0 (tgt := 31) aj_d261 rfl (Nat.le_succ _) rfl (fun q9 => ?_) (fun q9 => ?_)
    · skip
      refine fx_qe (c := (w8).toInt = 0) (fx_t_ne q9) ?_
      show fx_W _ _ _ 31 lv6 [] _ _
      refine fx_i0 aj_d261 rfl (Nat.le_succ _) (fun _ => rfl) hlv6_2 ?_
      refine fx_b0 (tgt := 44) aj_d261 rfl (Nat.le_succ _) rfl (fun q10 => ?_) (fun q10 => ?_)
      · skip
        refine fx_qi (c := (p2).toInt = 0) (fx_t_eq q10) ?_
        show fx_W _ _ _ 44 lv6 [] _ _
        refine fx_n (pc' := 45) (lv' := lv6) (st' := [.int (Int32.ofInt 1)]) aj_d261 rfl (Nat.le_succ _) (fun _ => rfl) ?_
        refine fx_n (pc' := 49) (lv' := lv6) (st' := [.int (Int32.ofInt 1)]) aj_d261 rfl (Nat.le_succ _) (fun _ => rfl) ?_
        refine fx_s0 (j := 4) aj_d261 rfl (Nat.le_succ _) (by decide) (fun _ => rfl) ?_
        obtain ⟨lv11, elv11⟩ : ∃ l, l = aj_set1 lv6 4 (.int (Int32.ofInt 1)) := ⟨_, rfl⟩
        rw [← elv11]
        have hlv11_0 : aj_lv lv11 0 = some (.ref 117) := fx_e1 elv11 hlv6_0 (by decide) (Or.inl (by decide))
        have hlv11_1 : aj_lv lv11 1 = some (.int p1) := fx_e1 elv11 hlv6_1 (by decide) (Or.inl (by decide))
        have hlv11_3 : aj_lv lv11 3 = some (.int (Int32.ofInt 0)) := fx_e1 elv11 hlv6_3 (by decide) (Or.inr rfl)
        have hlv11_4 : aj_lv lv11 4 = some (.int (Int32.ofInt 1)) := by rw [elv11]; exact ak_set1_eq _ _ _
        show fx_W _ _ _ 51 lv11 [] _ _
        exact ((gxL_261 p1 p2 N).1) lv11 ((Int32.ofInt 0)) ((Int32.ofInt 1)) X7  hlv11_0 hlv11_1 hlv11_3 hlv11_4
      · skip
        refine fx_qe (c := (p2).toInt = 0) (fx_f_eq q10) ?_
        show fx_W _ _ _ 35 lv6 [] _ _
        refine fx_i2 aj_d261 rfl (Nat.le_succ _) (fun _ => rfl) hlv6_0 ?_
        refine fx_n (pc' := 38) (lv' := lv6) (st' := [.int ((Int8.ofInt 41).toInt32), .ref 117]) aj_d261 rfl (Nat.le_succ _) (fun _ => rfl) ?_
        refine fx_cv aj_d261 rfl (Nat.le_succ _) rfl [_] rfl rfl (gx_220_ok ((Int8.ofInt 41).toInt32)) ?_
        rintro _ X12 ⟨w13, rfl, hR12⟩ hok12 hle12
        refine fx_qc hR12 ?_
        show fx_W _ _ _ 41 lv6 [.int w13] _ _
        refine fx_b0 (tgt := 48) aj_d261 rfl (Nat.le_succ _) rfl (fun q14 => ?_) (fun q14 => ?_)
        · skip
          refine fx_qe (c := (w13).toInt = 0) (fx_t_ne q14) ?_
          show fx_W _ _ _ 48 lv6 [] _ _
          refine fx_n (pc' := 49) (lv' := lv6) (st' := [.int (Int32.ofInt 0)]) aj_d261 rfl (Nat.le_succ _) (fun _ => rfl) ?_
          refine fx_s0 (j := 4) aj_d261 rfl (Nat.le_succ _) (by decide) (fun _ => rfl) ?_
          obtain ⟨lv15, elv15⟩ : ∃ l, l = aj_set1 lv6 4 (.int (Int32.ofInt 0)) := ⟨_, rfl⟩
          rw [← elv15]
          have hlv15_0 : aj_lv lv15 0 = some (.ref 117) := fx_e1 elv15 hlv6_0 (by decide) (Or.inl (by decide))
          have hlv15_1 : aj_lv lv15 1 = some (.int p1) := fx_e1 elv15 hlv6_1 (by decide) (Or.inl (by decide))
          have hlv15_3 : aj_lv lv15 3 = some (.int (Int32.ofInt 0)) := fx_e1 elv15 hlv6_3 (by decide) (Or.inr rfl)
          have hlv15_4 : aj_lv lv15 4 = some (.int (Int32.ofInt 0)) := by rw [elv15]; exact ak_set1_eq _ _ _
          show fx_W _ _ _ 51 lv15 [] _ _
          exact ((gxL_261 p1 p2 N).1) lv15 ((Int32.ofInt 0)) ((Int32.ofInt 0)) X12  hlv15_0 hlv15_1 hlv15_3 hlv15_4
        · skip
          refine fx_qi (c := (w13).toInt = 0) (fx_f_ne q14) ?_
          show fx_W _ _ _ 44 lv6 [] _ _
          refine fx_n (pc' := 45) (lv' := lv6) (st' := [.int (Int32.ofInt 1)]) aj_d261 rfl (Nat.le_succ _) (fun _ => rfl) ?_
          refine fx_n (pc' := 49) (lv' := lv6) (st' := [.int (Int32.ofInt 1)]) aj_d261 rfl (Nat.le_succ _) (fun _ => rfl) ?_
          refine fx_s0 (j := 4) aj_d261 rfl (Nat.le_succ _) (by decide) (fun _ => rfl) ?_
          obtain ⟨lv16, elv16⟩ : ∃ l, l = aj_set1 lv6 4 (.int (Int32.ofInt 1)) := ⟨_, rfl⟩
          rw [← elv16]
          have hlv16_0 : aj_lv lv16 0 = some (.ref 117) := fx_e1 elv16 hlv6_0 (by decide) (Or.inl (by decide))
          have hlv16_1 : aj_lv lv16 1 = some (.int p1) := fx_e1 elv16 hlv6_1 (by decide) (Or.inl (by decide))
          have hlv16_3 : aj_lv lv16 3 = some (.int (Int32.ofInt 0)) := fx_e1 elv16 hlv6_3 (by decide) (Or.inr rfl)
          have hlv16_4 : aj_lv lv16 4 = some (.int (Int32.ofInt 1)) := by rw [elv16]; exact ak_set1_eq _ _ _
          show fx_W _ _ _ 51 lv16 [] _ _
          exact ((gxL_261 p1 p2 N).1) lv16 ((Int32.ofInt 0)) ((Int32.ofInt 1)) X12  hlv16_0 hlv16_1 hlv16_3 hlv16_4
    · skip
      refine fx_qi (c := (w8).toInt = 0) (fx_f_ne q9) ?_
      show fx_W _ _ _ 29 lv6 [] _ _
      refine fx_n (pc' := 30) (lv' := lv6) (st' := [.int (Int32.ofInt 0)]) aj_d261 rfl (Nat.le_succ _) (fun _ => rfl) ?_
      exact fx_ri aj_d261 rfl ⟨_, rfl, 0, rfl, rfl⟩
  · skip
    refine fx_qi (c := ((X2.1 132 (p1).toInt.toNat)).toInt < 0) (fx_f_ge q5) ?_
    show fx_W _ _ _ 14 lv1 [] _ _
    refine fx_n (pc' := 15) (lv' := lv1) (st' := [.int (Int32.ofInt 1)]) aj_d261 rfl (Nat.le_succ _) (fun _ => rfl) ?_
    refine fx_n (pc' := 19) (lv' := lv1) (st' := [.int (Int32.ofInt 1)]) aj_d261 rfl (Nat.le_succ _) (fun _ => rfl) ?_
    refine fx_s0 (j := 3) aj_d261 rfl (Nat.le_succ _) (by decide) (fun _ => rfl) ?_
    obtain ⟨lv17, elv17⟩ : ∃ l, l = aj_set1 lv1 3 (.int (Int32.ofInt 1)) := ⟨_, rfl⟩
    rw [← elv17]
    have hlv17_0 : aj_lv lv17 0 = some (.ref 117) := fx_e1 elv17 hlv1_0 (by decide) (Or.inl (by decide))
    have hlv17_1 : aj_lv lv17 1 = some (.int p1) := fx_e1 elv17 hlv1_1 (by decide) (Or.inl (by decide))
    have hlv17_2 : aj_lv lv17 2 = some (.int p2) := fx_e1 elv17 hlv1_2 (by decide) (Or.inr rfl)
    have hlv17_3 : aj_lv lv17 3 = some (.int (Int32.ofInt 1)) := by rw [elv17]; exact ak_set1_eq _ _ _
    show fx_W _ _ _ 20 lv17 [] _ _
    refine fx_i2 aj_d261 rfl (Nat.le_succ _) (fun _ => rfl) hlv17_0 ?_
    refine fx_n (pc' := 23) (lv' := lv17) (st' := [.int ((Int8.ofInt 40).toInt32), .ref 117]) aj_d261 rfl (Nat.le_succ _) (fun _ => rfl) ?_
    refine fx_cv aj_d261 rfl (Nat.le_succ _) rfl [_] rfl rfl (gx_219_ok ((Int8.ofInt 40).toInt32)) ?_
    rintro _ X18 ⟨w19, rfl, hR18⟩ hok18 hle18
    refine fx_qc hR18 ?_
    show fx_W _ _ _ 26 lv17 [.int w19] _ _
    refine fx_b0 (tgt := 31) aj_d261 rfl (Nat.le_succ _) rfl (fun q20 => ?_) (fun q20 => ?_)
    · skip
      refine fx_qe (c := (w19).toInt = 0) (fx_t_ne q20) ?_
      show fx_W _ _ _ 31 lv17 [] _ _
      refine fx_i0 aj_d261 rfl (Nat.le_succ _) (fun _ => rfl) hlv17_2 ?_
      refine fx_b0 (tgt := 44) aj_d261 rfl (Nat.le_succ _) rfl (fun q21 => ?_) (fun q21 => ?_)
      · skip
        refine fx_qi (c := (p2).toInt = 0) (fx_t_eq q21) ?_
        show fx_W _ _ _ 44 lv17 [] _ _
        refine fx_n (pc' := 45) (lv' := lv17) (st' := [.int (Int32.ofInt 1)]) aj_d261 rfl (Nat.le_succ _) (fun _ => rfl) ?_
        refine fx_n (pc' := 49) (lv' := lv17) (st' := [.int (Int32.ofInt 1)]) aj_d261 rfl (Nat.le_succ _) (fun _ => rfl) ?_
        refine fx_s0 (j := 4) aj_d261 rfl (Nat.le_succ _) (by decide) (fun _ => rfl) ?_
        obtain ⟨lv22, elv22⟩ : ∃ l, l = aj_set1 lv17 4 (.int (Int32.ofInt 1)) := ⟨_, rfl⟩
        rw [← elv22]
        have hlv22_0 : aj_lv lv22 0 = some (.ref 117) := fx_e1 elv22 hlv17_0 (by decide) (Or.inl (by decide))
        have hlv22_1 : aj_lv lv22 1 = some (.int p1) := fx_e1 elv22 hlv17_1 (by decide) (Or.inl (by decide))
        have hlv22_3 : aj_lv lv22 3 = some (.int (Int32.ofInt 1)) := fx_e1 elv22 hlv17_3 (by decide) (Or.inr rfl)
        have hlv22_4 : aj_lv lv22 4 = some (.int (Int32.ofInt 1)) := by rw [elv22]; exact ak_set1_eq _ _ _
        show fx_W _ _ _ 51 lv22 [] _ _
        exact ((gxL_261 p1 p2 N).1) lv22 ((Int32.ofInt 1)) ((Int32.ofInt 1)) X18  hlv22_0 hlv22_1 hlv22_3 hlv22_4
      · skip
        refine fx_qe (c := (p2).toInt = 0) (fx_f_eq q21) ?_
        show fx_W _ _ _ 35 lv17 [] _ _
        refine fx_i2 aj_d261 rfl (Nat.le_succ _) (fun _ => rfl) hlv17_0 ?_
        refine fx_n (pc' := 38) (lv' := lv17) (st' := [.int ((Int8.ofInt 41).toInt32), .ref 117]) aj_d261 rfl (Nat.le_succ _) (fun _ => rfl) ?_
        refine fx_cv aj_d261 rfl (Nat.le_succ _) rfl [_] rfl rfl (gx_220_ok ((Int8.ofInt 41).toInt32)) ?_
        rintro _ X23 ⟨w24, rfl, hR23⟩ hok23 hle23
        refine fx_qc hR23 ?_
        show fx_W _ _ _ 41 lv17 [.int w24] _ _
        refine fx_b0 (tgt := 48) aj_d261 rfl (Nat.le_succ _) rfl (fun q25 => ?_) (fun q25 => ?_)
        · skip
          refine fx_qe (c := (w24).toInt = 0) (fx_t_ne q25) ?_
          show fx_W _ _ _ 48 lv17 [] _ _
          refine fx_n (pc' := 49) (lv' := lv17) (st' := [.int (Int32.ofInt 0)]) aj_d261 rfl (Nat.le_succ _) (fun _ => rfl) ?_
          refine fx_s0 (j := 4) aj_d261 rfl (Nat.le_succ _) (by decide) (fun _ => rfl) ?_
          obtain ⟨lv26, elv26⟩ : ∃ l, l = aj_set1 lv17 4 (.int (Int32.ofInt 0)) := ⟨_, rfl⟩
          rw [← elv26]
          have hlv26_0 : aj_lv lv26 0 = some (.ref 117) := fx_e1 elv26 hlv17_0 (by decide) (Or.inl (by decide))
          have hlv26_1 : aj_lv lv26 1 = some (.int p1) := fx_e1 elv26 hlv17_1 (by decide) (Or.inl (by decide))
          have hlv26_3 : aj_lv lv26 3 = some (.int (Int32.ofInt 1)) := fx_e1 elv26 hlv17_3 (by decide) (Or.inr rfl)
          have hlv26_4 : aj_lv lv26 4 = some (.int (Int32.ofInt 0)) := by rw [elv26]; exact ak_set1_eq _ _ _
          show fx_W _ _ _ 51 lv26 [] _ _
          exact ((gxL_261 p1 p2 N).1) lv26 ((Int32.ofInt 1)) ((Int32.ofInt 0)) X23  hlv26_0 hlv26_1 hlv26_3 hlv26_4
        · skip
          refine fx_qi (c := (w24).toInt = 0) (fx_f_ne q25) ?_
          show fx_W _ _ _ 44 lv17 [] _ _
          refine fx_n (pc' := 45) (lv' := lv17) (st' := [.int (Int32.ofInt 1)]) aj_d261 rfl (Nat.le_succ _) (fun _ => rfl) ?_
          refine fx_n (pc' := 49) (lv' := lv17) (st' := [.int (Int32.ofInt 1)]) aj_d261 rfl (Nat.le_succ _) (fun _ => rfl) ?_
          refine fx_s0 (j := 4) aj_d261 rfl (Nat.le_succ _) (by decide) (fun _ => rfl) ?_
          obtain ⟨lv27, elv27⟩ : ∃ l, l = aj_set1 lv17 4 (.int (Int32.ofInt 1)) := ⟨_, rfl⟩
          rw [← elv27]
          have hlv27_0 : aj_lv lv27 0 = some (.ref 117) := fx_e1 elv27 hlv17_0 (by decide) (Or.inl (by decide))
          have hlv27_1 : aj_lv lv27 1 = some (.int p1) := fx_e1 elv27 hlv17_1 (by decide) (Or.inl (by decide))
          have hlv27_3 : aj_lv lv27 3 = some (.int (Int32.ofInt 1)) := fx_e1 elv27 hlv17_3 (by decide) (Or.inr rfl)
          have hlv27_4 : aj_lv lv27 4 = some (.int (Int32.ofInt 1)) := by rw [elv27]; exact ak_set1_eq _ _ _
          show fx_W _ _ _ 51 lv27 [] _ _
          exact ((gxL_261 p1 p2 N).1) lv27 ((Int32.ofInt 1)) ((Int32.ofInt 1)) X23  hlv27_0 hlv27_1 hlv27_3 hlv27_4
    · skip
      refine fx_qi (c := (w19).toInt = 0) (fx_f_ne q20) ?_
      show fx_W _ _ _ 29 lv17 [] _ _
      refine fx_n (pc' := 30) (lv' := lv17) (st' := [.int (Int32.ofInt 0)]) aj_d261 rfl (Nat.le_succ _) (fun _ => rfl) ?_
      exact fx_ri aj_d261 rfl ⟨_, rfl, 0, rfl, rfl⟩
def gxT_267_3 (p1 : Int32) (p2 : Int32) (p3 : Int32) (p4 : Int32) (p5 : Int32) (P : Nat → List Int32 → List Int64 → List Nat → fx_X → Int32 → fx_X → Prop) (y6 : Int32) (X : fx_X) (v : Int32) (X' : fx_X) : Prop :=
  (0 ≤ (p1).toInt ∧ (p1).toInt < ((50 : Nat) : Int)) ∧ (if (y6).toInt < ((X.1 132 (p1).toInt.toNat)).toInt then (∃ (w7 : Int32) (X6 : fx_X), gx_258 p1 p2 y6 p4 X w7 X6 ∧ ∃ (w10 : Int32) (X9 : fx_X), gx_258 p1 p3 y6 p5 X6 w10 X9 ∧ (if (w7).toInt = (w10).toInt then (∃ x13 : Int32, x13 = y6 + Int32.ofInt 1 ∧ P 3 [x13] [] [] X9 v X') else ((if (w7).toInt < (w10).toInt then (v = (Int32.ofInt (-1)) ∧ X' = X9) else (v = (Int32.ofInt 1) ∧ X' = X9))))) else (v = (Int32.ofInt 0) ∧ X' = X))
def gxE_267 (p1 : Int32) (p2 : Int32) (p3 : Int32) (p4 : Int32) (p5 : Int32) (P : Nat → List Int32 → List Int64 → List Nat → fx_X → Int32 → fx_X → Prop) (X : fx_X) (v : Int32) (X' : fx_X) : Prop :=
  P 3 [(Int32.ofInt 0)] [] [] X v X'
noncomputable def gxF_267 (p1 : Int32) (p2 : Int32) (p3 : Int32) (p4 : Int32) (p5 : Int32) (n : Nat) : Nat → List Int32 → List Int64 → List Nat → fx_X → Int32 → fx_X → Prop := Nat.rec (motive := fun _ => Nat → List Int32 → List Int64 → List Nat → fx_X → Int32 → fx_X → Prop) (fun _ _ _ _ _ _ _ => False) (fun _ P l is ls rs X v X' => (l = 3 ∧ ∃ (y6 : Int32), is = [y6] ∧ ls = [] ∧ rs = [] ∧ gxT_267_3 p1 p2 p3 p4 p5 P y6 X v X')) n
theorem gxI_267_3 {p1 : Int32} {p2 : Int32} {p3 : Int32} {p4 : Int32} {p5 : Int32} {n : Nat} {y6 : Int32} {X : fx_X} {v : Int32} {X' : fx_X} (h : gxT_267_3 p1 p2 p3 p4 p5 (gxF_267 p1 p2 p3 p4 p5 n) y6 X v X') : gxF_267 p1 p2 p3 p4 p5 (n + 1) 3 [y6] [] [] X v X' := ⟨rfl, y6, rfl, rfl, rfl, h⟩
theorem gxO_267_3 {p1 : Int32} {p2 : Int32} {p3 : Int32} {p4 : Int32} {p5 : Int32} {n : Nat} {y6 : Int32} {X : fx_X} {v : Int32} {X' : fx_X} (h : gxF_267 p1 p2 p3 p4 p5 (n + 1) 3 [y6] [] [] X v X') : gxT_267_3 p1 p2 p3 p4 p5 (gxF_267 p1 p2 p3 p4 p5 n) y6 X v X' := by
  rcases h with ⟨-, _, e1, e2, e3, h⟩
  · cases e1; cases e2; cases e3; exact h
def gx_267 (p1 : Int32) (p2 : Int32) (p3 : Int32) (p4 : Int32) (p5 : Int32) (X : fx_X) (v : Int32) (X' : fx_X) : Prop := ∃ n : Nat, gxE_267 p1 p2 p3 p4 p5 (gxF_267 p1 p2 p3 p4 p5 n) X v X'
theorem gxL_267 {tb : aj_T} (p1 : Int32) (p2 : Int32) (p3 : Int32) (p4 : Int32) (p5 : Int32) : ∀ N : Nat, (∀ (lv : aj_V) (y6 : Int32) (X : fx_X), aj_lv lv 0 = some (.ref 117) → aj_lv lv 1 = some (.int p1) → aj_lv lv 2 = some (.int p2) → aj_lv lv 3 = some (.int p3) → aj_lv lv 4 = some (.int p4) → aj_lv lv 5 = some (.int p5) → aj_lv lv 6 = some (.int y6) → fx_W tb aj_m267 N 3 lv [] X (fx_Q fx_qI (fun v X' => ∃ n : Nat, gxF_267 p1 p2 p3 p4 p5 n 3 [y6] [] [] X v X'))) := by
  intro N
  induction N with
  | zero => exact (by intros; exact fx_z)
  | succ N ih =>
    skip
    · intro lv y6 X hlv_0 hlv_1 hlv_2 hlv_3 hlv_4 hlv_5 hlv_6
      refine fx_mono (Q := fx_Q fx_qI (fun v X' => ∃ n : Nat, gxT_267_3 p1 p2 p3 p4 p5 (gxF_267 p1 p2 p3 p4 p5 n) y6 X v X')) (fun r X' ⟨v, e, n, z⟩ => ⟨v, e, n + 1, gxI_267_3 z⟩) ?_
      unfold gxT_267_3
      refine fx_i0 aj_d267 rfl (Nat.le_refl _) (fun _ => rfl) hlv_6 ?_
      refine fx_i2 aj_d267 rfl (Nat.le_succ _) (fun _ => rfl) hlv_0 ?_
      refine fx_gF aj_d267 rfl (Nat.le_succ _) rfl rfl fx_in_11_16 (t := 132) rfl (fun hA3 => ?_)
      refine fx_i0 aj_d267 rfl (Nat.le_succ _) (fun _ => rfl) hlv_1 ?_
      refine fx_ld aj_d267 (Or.inl rfl) rfl (Nat.le_succ _) (fun g40 g41 => ?_)
      show fx_W _ _ _ 11 lv [.int (X.1 132 (p1).toInt.toNat), .int y6] _ _
      refine fx_qa (c := 0 ≤ (p1).toInt ∧ (p1).toInt < ((50 : Nat) : Int)) ⟨g40, fx_lnk g41 hA3⟩ ?_
      refine fx_b (tgt := 64) aj_d267 rfl (Nat.le_succ _) rfl (fun q5 => ?_) (fun q5 => ?_)
      · skip
        refine fx_qe (c := (y6).toInt < ((X.1 132 (p1).toInt.toNat)).toInt) (fx_t_ge q5) ?_
        show fx_W _ _ _ 64 lv [] _ _
        refine fx_n (pc' := 65) (lv' := lv) (st' := [.int (Int32.ofInt 0)]) aj_d267 rfl (Nat.le_succ _) (fun _ => rfl) ?_
        exact fx_ri aj_d267 rfl ⟨_, rfl, 0, rfl, rfl⟩
      · skip
        refine fx_qi (c := (y6).toInt < ((X.1 132 (p1).toInt.toNat)).toInt) (fx_f_ge q5) ?_
        show fx_W _ _ _ 14 lv [] _ _
        refine fx_i2 aj_d267 rfl (Nat.le_succ _) (fun _ => rfl) hlv_0 ?_
        refine fx_i0 aj_d267 rfl (Nat.le_succ _) (fun _ => rfl) hlv_1 ?_
        refine fx_i0 aj_d267 rfl (Nat.le_succ _) (fun _ => rfl) hlv_2 ?_
        refine fx_i0 aj_d267 rfl (Nat.le_succ _) (fun _ => rfl) hlv_6 ?_
        refine fx_i0 aj_d267 rfl (Nat.le_succ _) (fun _ => rfl) hlv_4 ?_
        refine fx_cv aj_d267 rfl (Nat.le_succ _) rfl [_, _, _, _] rfl rfl (gx_258_ok p1 p2 y6 p4) ?_
        rintro _ X6 ⟨w7, rfl, hR6⟩ hok6 hle6
        refine fx_qc hR6 ?_
        show fx_W _ _ _ 24 lv [.int w7] _ _
        refine fx_s0 (j := 7) aj_d267 rfl (Nat.le_succ _) (by decide) (fun _ => rfl) ?_
        obtain ⟨lv8, elv8⟩ : ∃ l, l = aj_set1 lv 7 (.int w7) := ⟨_, rfl⟩
        rw [← elv8]
        have hlv8_0 : aj_lv lv8 0 = some (.ref 117) := fx_e1 elv8 hlv_0 (by decide) (Or.inl (by decide))
        have hlv8_1 : aj_lv lv8 1 = some (.int p1) := fx_e1 elv8 hlv_1 (by decide) (Or.inl (by decide))
        have hlv8_2 : aj_lv lv8 2 = some (.int p2) := fx_e1 elv8 hlv_2 (by decide) (Or.inl (by decide))
        have hlv8_3 : aj_lv lv8 3 = some (.int p3) := fx_e1 elv8 hlv_3 (by decide) (Or.inl (by decide))
        have hlv8_4 : aj_lv lv8 4 = some (.int p4) := fx_e1 elv8 hlv_4 (by decide) (Or.inl (by decide))
        have hlv8_5 : aj_lv lv8 5 = some (.int p5) := fx_e1 elv8 hlv_5 (by decide) (Or.inl (by decide))
        have hlv8_6 : aj_lv lv8 6 = some (.int y6) := fx_e1 elv8 hlv_6 (by decide) (Or.inr rfl)
        have hlv8_7 : aj_lv lv8 7 = some (.int w7) := by rw [elv8]; exact ak_set1_eq _ _ _
        show fx_W _ _ _ 26 lv8 [] _ _
        refine fx_i2 aj_d267 rfl (Nat.le_succ _) (fun _ => rfl) hlv8_0 ?_
        refine fx_i0 aj_d267 rfl (Nat.le_succ _) (fun _ => rfl) hlv8_1 ?_
        refine fx_i0 aj_d267 rfl (Nat.le_succ _) (fun _ => rfl) hlv8_3 ?_
        refine fx_i0 aj_d267 rfl (Nat.le_succ _) (fun _ => rfl) hlv8_6 ?_
        refine fx_i0 aj_d267 rfl (Nat.le_succ _) (fun _ => rfl) hlv8_5 ?_
        refine fx_cv aj_d267 rfl (Nat.le_succ _) rfl [_, _, _, _] rfl rfl (gx_258_ok p1 p3 y6 p5) ?_
        rintro _ X9 ⟨w10, rfl, hR9⟩ hok9 hle9
        refine fx_qc hR9 ?_
        show fx_W _ _ _ 36 lv8 [.int w10] _ _
        refine fx_s0 (j := 8) aj_d267 rfl (Nat.le_succ _) (by decide) (fun _ => rfl) ?_
        obtain ⟨lv11, elv11⟩ : ∃ l, l = aj_set1 lv8 8 (.int w10) := ⟨_, rfl⟩
        rw [← elv11]
        have hlv11_0 : aj_lv lv11 0 = some (.ref 117) := fx_e1 elv11 hlv8_0 (by decide) (Or.inl (by decide))
        have hlv11_1 : aj_lv lv11 1 = some (.int p1) := fx_e1 elv11 hlv8_1 (by decide) (Or.inl (by decide))
        have hlv11_2 : aj_lv lv11 2 = some (.int p2) := fx_e1 elv11 hlv8_2 (by decide) (Or.inl (by decide))
        have hlv11_3 : aj_lv lv11 3 = some (.int p3) := fx_e1 elv11 hlv8_3 (by decide) (Or.inl (by decide))
        have hlv11_4 : aj_lv lv11 4 = some (.int p4) := fx_e1 elv11 hlv8_4 (by decide) (Or.inl (by decide))
        have hlv11_5 : aj_lv lv11 5 = some (.int p5) := fx_e1 elv11 hlv8_5 (by decide) (Or.inl (by decide))
        have hlv11_6 : aj_lv lv11 6 = some (.int y6) := fx_e1 elv11 hlv8_6 (by decide) (Or.inl (by decide))
        have hlv11_7 : aj_lv lv11 7 = some (.int w7) := fx_e1 elv11 hlv8_7 (by decide) (Or.inr rfl)
        have hlv11_8 : aj_lv lv11 8 = some (.int w10) := by rw [elv11]; exact ak_set1_eq _ _ _
        show fx_W _ _ _ 38 lv11 [] _ _
        refine fx_i0 aj_d267 rfl (Nat.le_succ _) (fun _ => rfl) hlv11_7 ?_
        refine fx_i0 aj_d267 rfl (Nat.le_succ _) (fun _ => rfl) hlv11_8 ?_
        refine fx_b (tgt := 58) aj_d267 rfl (Nat.le_succ _) rfl (fun q12 => ?_) (fun q12 => ?_)
        · skip
          refine fx_qi (c := (w7).toInt = (w10).toInt) (fx_t_eq q12) ?_
          show fx_W _ _ _ 58 lv11 [] _ _
          refine fx_incq aj_d267 rfl (Nat.le_succ _) hlv11_6 (by decide) (fun x13 ex13 => ?_)
          obtain ⟨lv14, elv14⟩ : ∃ l, l = aj_set1 lv11 6 (.int x13) := ⟨_, rfl⟩
          rw [← elv14]
          have hlv14_0 : aj_lv lv14 0 = some (.ref 117) := fx_e1 elv14 hlv11_0 (by decide) (Or.inl (by decide))
          have hlv14_1 : aj_lv lv14 1 = some (.int p1) := fx_e1 elv14 hlv11_1 (by decide) (Or.inl (by decide))
          have hlv14_2 : aj_lv lv14 2 = some (.int p2) := fx_e1 elv14 hlv11_2 (by decide) (Or.inl (by decide))
          have hlv14_3 : aj_lv lv14 3 = some (.int p3) := fx_e1 elv14 hlv11_3 (by decide) (Or.inl (by decide))
          have hlv14_4 : aj_lv lv14 4 = some (.int p4) := fx_e1 elv14 hlv11_4 (by decide) (Or.inl (by decide))
          have hlv14_5 : aj_lv lv14 5 = some (.int p5) := fx_e1 elv14 hlv11_5 (by decide) (Or.inr rfl)
          have hlv14_6 : aj_lv lv14 6 = some (.int x13) := by rw [elv14]; exact ak_set1_eq _ _ _
          show fx_W _ _ _ 61 lv14 [] _ _
          refine fx_n (pc' := 3) (lv' := lv14) (st' := []) aj_d267 rfl (Nat.le_succ _) (fun _ => rfl) ?_
          exact (ih) lv14 (x13) X9  hlv14_0 hlv14_1 hlv14_2 hlv14_3 hlv14_4 hlv14_5 hlv14_6
        · skip
          refine fx_qe (c := (w7).toInt = (w10).toInt) (fx_f_eq q12) ?_
          show fx_W _ _ _ 45 lv11 [] _ _
          refine fx_i0 aj_d267 rfl (Nat.le_succ _) (fun _ => rfl) hlv11_7 ?_
          refine fx_i0 aj_d267 rfl (Nat.le_succ _) (fun _ => rfl) hlv11_8 ?_
          refine fx_b (tgt := 56) aj_d267 rfl (Nat.le_succ _) rfl (fun q15 => ?_) (fun q15 => ?_)
          · skip
            refine fx_qe (c := (w7).toInt < (w10).toInt) (fx_t_ge q15) ?_
            show fx_W _ _ _ 56 lv11 [] _ _
            refine fx_n (pc' := 57) (lv' := lv11) (st' := [.int (Int32.ofInt 1)]) aj_d267 rfl (Nat.le_succ _) (fun _ => rfl) ?_
            exact fx_ri aj_d267 rfl ⟨_, rfl, 0, rfl, rfl⟩
          · skip
            refine fx_qi (c := (w7).toInt < (w10).toInt) (fx_f_ge q15) ?_
            show fx_W _ _ _ 52 lv11 [] _ _
            refine fx_n (pc' := 53) (lv' := lv11) (st' := [.int (Int32.ofInt (-1))]) aj_d267 rfl (Nat.le_succ _) (fun _ => rfl) ?_
            refine fx_n (pc' := 57) (lv' := lv11) (st' := [.int (Int32.ofInt (-1))]) aj_d267 rfl (Nat.le_succ _) (fun _ => rfl) ?_
            exact fx_ri aj_d267 rfl ⟨_, rfl, 0, rfl, rfl⟩
theorem gx_267_ok {tb : aj_T} (p1 : Int32) (p2 : Int32) (p3 : Int32) (p4 : Int32) (p5 : Int32) {X : fx_X} : fx_K tb 267 [.ref 117, .int p1, .int p2, .int p3, .int p4, .int p5] X (fx_Q fx_qI (fun v X' => gx_267 p1 p2 p3 p4 p5 X v X')) := by
  refine fx_m aj_m267_at rfl (fun N => ?_)
  refine fx_mono (Q := fx_Q fx_qI (fun v X' => ∃ n : Nat, gxE_267 p1 p2 p3 p4 p5 (gxF_267 p1 p2 p3 p4 p5 n) X v X')) (fun r X' h => h) ?_
  unfold gxE_267
  show fx_W _ _ _ 0 [(0, .ref 117), (1, .int p1), (2, .int p2), (3, .int p3), (4, .int p4), (5, .int p5)] [] _ _
  obtain ⟨lv1, elv1⟩ : ∃ l : aj_V, l = [(0, .ref 117), (1, .int p1), (2, .int p2), (3, .int p3), (4, .int p4), (5, .int p5)] := ⟨_, rfl⟩
  rw [← elv1]
  have hlv1_0 : aj_lv lv1 0 = some (.ref 117) := by rw [elv1]; rfl
  have hlv1_1 : aj_lv lv1 1 = some (.int p1) := by rw [elv1]; rfl
  have hlv1_2 : aj_lv lv1 2 = some (.int p2) := by rw [elv1]; rfl
  have hlv1_3 : aj_lv lv1 3 = some (.int p3) := by rw [elv1]; rfl
  have hlv1_4 : aj_lv lv1 4 = some (.int p4) := by rw [elv1]; rfl
  have hlv1_5 : aj_lv lv1 5 = some (.int p5) := by rw [elv1]; rfl
  refine fx_n (pc' := 1) (lv' := lv1) (st' := [.int (Int32.ofInt 0)]) aj_d267 rfl (Nat.le_succ _) (fun _ => rfl) ?_
  refine fx_s0 (j := 6) aj_d267 rfl (Nat.le_succ _) (by decide) (fun _ => rfl) ?_
  obtain ⟨lv2, elv2⟩ : ∃ l, l = aj_set1 lv1 6 (.int (Int32.ofInt 0)) := ⟨_, rfl⟩
  rw [← elv2]
  have hlv2_0 : aj_lv lv2 0 = some (.ref 117) := fx_e1 elv2 hlv1_0 (by decide) (Or.inl (by decide))
  have hlv2_1 : aj_lv lv2 1 = some (.int p1) := fx_e1 elv2 hlv1_1 (by decide) (Or.inl (by decide))
  have hlv2_2 : aj_lv lv2 2 = some (.int p2) := fx_e1 elv2 hlv1_2 (by decide) (Or.inl (by decide))
  have hlv2_3 : aj_lv lv2 3 = some (.int p3) := fx_e1 elv2 hlv1_3 (by decide) (Or.inl (by decide))
  have hlv2_4 : aj_lv lv2 4 = some (.int p4) := fx_e1 elv2 hlv1_4 (by decide) (Or.inl (by decide))
  have hlv2_5 : aj_lv lv2 5 = some (.int p5) := fx_e1 elv2 hlv1_5 (by decide) (Or.inr rfl)
  have hlv2_6 : aj_lv lv2 6 = some (.int (Int32.ofInt 0)) := by rw [elv2]; exact ak_set1_eq _ _ _
  show fx_W _ _ _ 3 lv2 [] _ _
  exact ((gxL_267 p1 p2 p3 p4 p5 N)) lv2 ((Int32.ofInt 0)) X  hlv2_0 hlv2_1 hlv2_2 hlv2_3 hlv2_4 hlv2_5 hlv2_6
def gxT_266_7 (p1 : Int32) (p2 : Int32) (P : Nat → List Int32 → List Int64 → List Nat → fx_X → Unit → fx_X → Prop) (y3 : Int32) (X : fx_X) (v : Unit) (X' : fx_X) : Prop :=
  (0 ≤ (p1).toInt ∧ (p1).toInt < ((50 : Nat) : Int)) ∧ (if (y3).toInt < ((X.1 131 (p1).toInt.toNat)).toInt then (∃ (w9 : Int32) (X8 : fx_X), gx_225 p1 y3 X w9 X8 ∧ ∃ (w11 : Int32) (X10 : fx_X), gx_227 136 w9 p2 X8 w11 X10 ∧ (if (w11).toInt = 0 then (∃ x14 : Int32, x14 = y3 + Int32.ofInt 1 ∧ P 7 [x14] [] [] X10 v X') else (P 40 [y3, (Int32.ofInt 0)] [] [] X10 v X'))) else (X' = X))
def gxT_266_40 (p1 : Int32) (p2 : Int32) (P : Nat → List Int32 → List Int64 → List Nat → fx_X → Unit → fx_X → Prop) (y3 : Int32) (y4 : Int32) (X : fx_X) (v : Unit) (X' : fx_X) : Prop :=
  (if (y4).toInt < ((X.1 117 58)).toInt then ((0 ≤ (y4).toInt ∧ (y4).toInt < ((30 : Nat) : Int)) ∧ ∃ (w32 : Int32) (X31 : fx_X), gx_267 p1 (X.1 143 (y4).toInt.toNat) y3 p2 p2 X w32 X31 ∧ (if (w32).toInt < 0 then (∃ x46 : Int32, x46 = y4 + Int32.ofInt 1 ∧ P 40 [y3, x46] [] [] X31 v X') else ((if (y4).toInt < ((X31.1 117 58)).toInt then ((0 ≤ (y4).toInt ∧ (y4).toInt < ((30 : Nat) : Int)) ∧ ∃ (w40 : Int32) (X39 : fx_X), gx_267 p1 (X31.1 143 (y4).toInt.toNat) y3 p2 p2 X31 w40 X39 ∧ (if (w40).toInt = 0 then (∃ x44 : Int32, x44 = y3 + Int32.ofInt 1 ∧ P 7 [x44] [] [] X39 v X') else (∃ x42 : Int32, x42 = (X39.1 117 58) ∧ P 109 [y3, y4, x42] [] [] X39 v X'))) else (∃ x35 : Int32, x35 = (X31.1 117 58) ∧ P 109 [y3, y4, x35] [] [] X31 v X'))))) else ((if (y4).toInt < ((X.1 117 58)).toInt then ((0 ≤ (y4).toInt ∧ (y4).toInt < ((30 : Nat) : Int)) ∧ ∃ (w23 : Int32) (X22 : fx_X), gx_267 p1 (X.1 143 (y4).toInt.toNat) y3 p2 p2 X w23 X22 ∧ (if (w23).toInt = 0 then (∃ x27 : Int32, x27 = y3 + Int32.ofInt 1 ∧ P 7 [x27] [] [] X22 v X') else (∃ x25 : Int32, x25 = (X22.1 117 58) ∧ P 109 [y3, y4, x25] [] [] X22 v X'))) else (∃ x18 : Int32, x18 = (X.1 117 58) ∧ P 109 [y3, y4, x18] [] [] X v X'))))
def gxT_266_109 (p1 : Int32) (p2 : Int32) (P : Nat → List Int32 → List Int64 → List Nat → fx_X → Unit → fx_X → Prop) (y3 : Int32) (y4 : Int32) (y5 : Int32) (X : fx_X) (v : Unit) (X' : fx_X) : Prop :=
  (if (y4).toInt < (y5).toInt then ((0 ≤ ((y5 - (Int32.ofInt 1))).toInt ∧ ((y5 - (Int32.ofInt 1))).toInt < ((30 : Nat) : Int)) ∧ (0 ≤ (y5).toInt ∧ (y5).toInt < ((30 : Nat) : Int)) ∧ ∃ X59 : fx_X, X59 = (fx_wI X 143 (y5).toInt.toNat (X.1 143 ((y5 - (Int32.ofInt 1))).toInt.toNat)) ∧ ∃ x60 : Int32, x60 = y5 + Int32.ofInt (-1) ∧ P 109 [y3, y4, x60] [] [] X59 v X') else ((0 ≤ (y4).toInt ∧ (y4).toInt < ((30 : Nat) : Int)) ∧ ∃ X51 : fx_X, X51 = (fx_wI X 143 (y4).toInt.toNat y3) ∧ ∃ X52 : fx_X, X52 = (fx_wI X51 117 58 ((X51.1 117 58) + (Int32.ofInt 1))) ∧ ∃ x53 : Int32, x53 = y3 + Int32.ofInt 1 ∧ P 7 [x53] [] [] X52 v X'))
def gxE_266 (p1 : Int32) (p2 : Int32) (P : Nat → List Int32 → List Int64 → List Nat → fx_X → Unit → fx_X → Prop) (X : fx_X) (v : Unit) (X' : fx_X) : Prop :=
  ∃ X2 : fx_X, X2 = (fx_wI X 117 58 (Int32.ofInt 0)) ∧ P 7 [(Int32.ofInt 0)] [] [] X2 v X'
noncomputable def gxF_266 (p1 : Int32) (p2 : Int32) (n : Nat) : Nat → List Int32 → List Int64 → List Nat → fx_X → Unit → fx_X → Prop := Nat.rec (motive := fun _ => Nat → List Int32 → List Int64 → List Nat → fx_X → Unit → fx_X → Prop) (fun _ _ _ _ _ _ _ => False) (fun _ P l is ls rs X v X' => (l = 7 ∧ ∃ (y3 : Int32), is = [y3] ∧ ls = [] ∧ rs = [] ∧ gxT_266_7 p1 p2 P y3 X v X') ∨ (l = 40 ∧ ∃ (y3 : Int32) (y4 : Int32), is = [y3, y4] ∧ ls = [] ∧ rs = [] ∧ gxT_266_40 p1 p2 P y3 y4 X v X') ∨ (l = 109 ∧ ∃ (y3 : Int32) (y4 : Int32) (y5 : Int32), is = [y3, y4, y5] ∧ ls = [] ∧ rs = [] ∧ gxT_266_109 p1 p2 P y3 y4 y5 X v X')) n
theorem gxI_266_7 {p1 : Int32} {p2 : Int32} {n : Nat} {y3 : Int32} {X : fx_X} {v : Unit} {X' : fx_X} (h : gxT_266_7 p1 p2 (gxF_266 p1 p2 n) y3 X v X') : gxF_266 p1 p2 (n + 1) 7 [y3] [] [] X v X' := Or.inl ⟨rfl, y3, rfl, rfl, rfl, h⟩
theorem gxO_266_7 {p1 : Int32} {p2 : Int32} {n : Nat} {y3 : Int32} {X : fx_X} {v : Unit} {X' : fx_X} (h : gxF_266 p1 p2 (n + 1) 7 [y3] [] [] X v X') : gxT_266_7 p1 p2 (gxF_266 p1 p2 n) y3 X v X' := by
  rcases h with ⟨-, _, e1, e2, e3, h⟩ | ⟨e, -⟩ | ⟨e, -⟩
  · cases e1; cases e2; cases e3; exact h
  · exact absurd e (by decide)
  · exact absurd e (by decide)
theorem gxI_266_40 {p1 : Int32} {p2 : Int32} {n : Nat} {y3 : Int32} {y4 : Int32} {X : fx_X} {v : Unit} {X' : fx_X} (h : gxT_266_40 p1 p2 (gxF_266 p1 p2 n) y3 y4 X v X') : gxF_266 p1 p2 (n + 1) 40 [y3, y4] [] [] X v X' := Or.inr (Or.inl ⟨rfl, y3, y4, rfl, rfl, rfl, h⟩)
theorem gxO_266_40 {p1 : Int32} {p2 : Int32} {n : Nat} {y3 : Int32} {y4 : Int32} {X : fx_X} {v : Unit} {X' : fx_X} (h : gxF_266 p1 p2 (n + 1) 40 [y3, y4] [] [] X v X') : gxT_266_40 p1 p2 (gxF_266 p1 p2 n) y3 y4 X v X' := by
  rcases h with ⟨e, -⟩ | ⟨-, _, _, e1, e2, e3, h⟩ | ⟨e, -⟩
  · exact absurd e (by decide)
  · cases e1; cases e2; cases e3; exact h
  · exact absurd e (by decide)
theorem gxI_266_109 {p1 : Int32} {p2 : Int32} {n : Nat} {y3 : Int32} {y4 : Int32} {y5 : Int32} {X : fx_X} {v : Unit} {X' : fx_X} (h : gxT_266_109 p1 p2 (gxF_266 p1 p2 n) y3 y4 y5 X v X') : gxF_266 p1 p2 (n + 1) 109 [y3, y4, y5] [] [] X v X' := Or.inr (Or.inr (⟨rfl, y3, y4, y5, rfl, rfl, rfl, h⟩))
theorem gxO_266_109 {p1 : Int32} {p2 : Int32} {n : Nat} {y3 : Int32} {y4 : Int32} {y5 : Int32} {X : fx_X} {v : Unit} {X' : fx_X} (h : gxF_266 p1 p2 (n + 1) 109 [y3, y4, y5] [] [] X v X') : gxT_266_109 p1 p2 (gxF_266 p1 p2 n) y3 y4 y5 X v X' := by
  rcases h with ⟨e, -⟩ | ⟨e, -⟩ | ⟨-, _, _, _, e1, e2, e3, h⟩
  · exact absurd e (by decide)
  · exact absurd e (by decide)
  · cases e1; cases e2; cases e3; exact h
def gx_266 (p1 : Int32) (p2 : Int32) (X : fx_X) (v : Unit) (X' : fx_X) : Prop := ∃ n : Nat, gxE_266 p1 p2 (gxF_266 p1 p2 n) X v X'
theorem gxL_266 {tb : aj_T} (p1 : Int32) (p2 : Int32) : ∀ N : Nat, (∀ (lv : aj_V) (y3 : Int32) (X : fx_X), aj_lv lv 0 = some (.ref 117) → aj_lv lv 1 = some (.int p1) → aj_lv lv 2 = some (.int p2) → aj_lv lv 3 = some (.int y3) → fx_W tb aj_m266 N 7 lv [] X (fx_Q fx_qN (fun v X' => ∃ n : Nat, gxF_266 p1 p2 n 7 [y3] [] [] X v X'))) ∧ (∀ (lv : aj_V) (y3 : Int32) (y4 : Int32) (X : fx_X), aj_lv lv 0 = some (.ref 117) → aj_lv lv 1 = some (.int p1) → aj_lv lv 2 = some (.int p2) → aj_lv lv 3 = some (.int y3) → aj_lv lv 4 = some (.int y4) → fx_W tb aj_m266 N 40 lv [] X (fx_Q fx_qN (fun v X' => ∃ n : Nat, gxF_266 p1 p2 n 40 [y3, y4] [] [] X v X'))) ∧ (∀ (lv : aj_V) (y3 : Int32) (y4 : Int32) (y5 : Int32) (X : fx_X), aj_lv lv 0 = some (.ref 117) → aj_lv lv 1 = some (.int p1) → aj_lv lv 2 = some (.int p2) → aj_lv lv 3 = some (.int y3) → aj_lv lv 4 = some (.int y4) → aj_lv lv 5 = some (.int y5) → fx_W tb aj_m266 N 109 lv [] X (fx_Q fx_qN (fun v X' => ∃ n : Nat, gxF_266 p1 p2 n 109 [y3, y4, y5] [] [] X v X'))) := by
  intro N
  induction N with
  | zero => exact ⟨(by intros; exact fx_z), (by intros; exact fx_z), (by intros; exact fx_z)⟩
  | succ N ih =>
    refine ⟨?_, ?_, ?_⟩
    · intro lv y3 X hlv_0 hlv_1 hlv_2 hlv_3
      refine fx_mono (Q := fx_Q fx_qN (fun v X' => ∃ n : Nat, gxT_266_7 p1 p2 (gxF_266 p1 p2 n) y3 X v X')) (fun r X' ⟨v, e, n, z⟩ => ⟨v, e, n + 1, gxI_266_7 z⟩) ?_
      unfold gxT_266_7
      refine fx_i0 aj_d266 rfl (Nat.le_refl _) (fun _ => rfl) hlv_3 ?_
      refine fx_i2 aj_d266 rfl (Nat.le_succ _) (fun _ => rfl) hlv_0 ?_
      refine fx_gF aj_d266 rfl (Nat.le_succ _) rfl rfl fx_in_11_15 (t := 131) rfl (fun hA4 => ?_)
      refine fx_i0 aj_d266 rfl (Nat.le_succ _) (fun _ => rfl) hlv_1 ?_
      refine fx_ld aj_d266 (Or.inl rfl) rfl (Nat.le_succ _) (fun g50 g51 => ?_)
      show fx_W _ _ _ 14 lv [.int (X.1 131 (p1).toInt.toNat), .int y3] _ _
      refine fx_qa (c := 0 ≤ (p1).toInt ∧ (p1).toInt < ((50 : Nat) : Int)) ⟨g50, fx_lnk g51 hA4⟩ ?_
      refine fx_b (tgt := 162) aj_d266 rfl (Nat.le_succ _) rfl (fun q6 => ?_) (fun q6 => ?_)
      · skip
        refine fx_qe (c := (y3).toInt < ((X.1 131 (p1).toInt.toNat)).toInt) (fx_t_ge q6) ?_
        show fx_W _ _ _ 162 lv [] _ _
        exact fx_rn aj_d266 rfl ⟨(), rfl, 0, rfl⟩
      · skip
        refine fx_qi (c := (y3).toInt < ((X.1 131 (p1).toInt.toNat)).toInt) (fx_f_ge q6) ?_
        show fx_W _ _ _ 17 lv [] _ _
        refine fx_i2 aj_d266 rfl (Nat.le_succ _) (fun _ => rfl) hlv_0 ?_
        refine fx_gF aj_d266 rfl (Nat.le_succ _) rfl rfl fx_in_11_20 (t := 136) rfl (fun hA7 => ?_)
        refine fx_i2 aj_d266 rfl (Nat.le_succ _) (fun _ => rfl) hlv_0 ?_
        refine fx_i0 aj_d266 rfl (Nat.le_succ _) (fun _ => rfl) hlv_1 ?_
        refine fx_i0 aj_d266 rfl (Nat.le_succ _) (fun _ => rfl) hlv_3 ?_
        refine fx_cv aj_d266 rfl (Nat.le_succ _) rfl [_, _] rfl rfl (gx_225_ok p1 y3) ?_
        rintro _ X8 ⟨w9, rfl, hR8⟩ hok8 hle8
        refine fx_qc hR8 ?_
        show fx_W _ _ _ 27 lv [.int w9, .ref 136] _ _
        refine fx_i0 aj_d266 rfl (Nat.le_succ _) (fun _ => rfl) hlv_2 ?_
        refine fx_cs aj_d266 rfl (Nat.le_succ _) rfl rfl [_, _, _] rfl rfl (gx_227_ok 136 w9 p2) ?_
        rintro _ X10 ⟨w11, rfl, hR10⟩ hok10 hle10
        refine fx_qc hR10 ?_
        show fx_W _ _ _ 31 lv [.int w11] _ _
        refine fx_b0 (tgt := 37) aj_d266 rfl (Nat.le_succ _) rfl (fun q12 => ?_) (fun q12 => ?_)
        · skip
          refine fx_qe (c := (w11).toInt = 0) (fx_t_ne q12) ?_
          show fx_W _ _ _ 37 lv [] _ _
          refine fx_n (pc' := 38) (lv' := lv) (st' := [.int (Int32.ofInt 0)]) aj_d266 rfl (Nat.le_succ _) (fun _ => rfl) ?_
          refine fx_s0 (j := 4) aj_d266 rfl (Nat.le_succ _) (by decide) (fun _ => rfl) ?_
          obtain ⟨lv13, elv13⟩ : ∃ l, l = aj_set1 lv 4 (.int (Int32.ofInt 0)) := ⟨_, rfl⟩
          rw [← elv13]
          have hlv13_0 : aj_lv lv13 0 = some (.ref 117) := fx_e1 elv13 hlv_0 (by decide) (Or.inl (by decide))
          have hlv13_1 : aj_lv lv13 1 = some (.int p1) := fx_e1 elv13 hlv_1 (by decide) (Or.inl (by decide))
          have hlv13_2 : aj_lv lv13 2 = some (.int p2) := fx_e1 elv13 hlv_2 (by decide) (Or.inl (by decide))
          have hlv13_3 : aj_lv lv13 3 = some (.int y3) := fx_e1 elv13 hlv_3 (by decide) (Or.inr rfl)
          have hlv13_4 : aj_lv lv13 4 = some (.int (Int32.ofInt 0)) := by rw [elv13]; exact ak_set1_eq _ _ _
          show fx_W _ _ _ 40 lv13 [] _ _
          exact (ih.2.1) lv13 (y3) ((Int32.ofInt 0)) X10  hlv13_0 hlv13_1 hlv13_2 hlv13_3 hlv13_4
        · skip
          refine fx_qi (c := (w11).toInt = 0) (fx_f_ne q12) ?_
          show fx_W _ _ _ 34 lv [] _ _
          refine fx_n (pc' := 156) (lv' := lv) (st' := []) aj_d266 rfl (Nat.le_succ _) (fun _ => rfl) ?_
          refine fx_incq aj_d266 rfl (Nat.le_succ _) hlv_3 (by decide) (fun x14 ex14 => ?_)
          obtain ⟨lv15, elv15⟩ : ∃ l, l = aj_set1 lv 3 (.int x14) := ⟨_, rfl⟩
          rw [← elv15]
          have hlv15_0 : aj_lv lv15 0 = some (.ref 117) := fx_e1 elv15 hlv_0 (by decide) (Or.inl (by decide))
          have hlv15_1 : aj_lv lv15 1 = some (.int p1) := fx_e1 elv15 hlv_1 (by decide) (Or.inl (by decide))
          have hlv15_2 : aj_lv lv15 2 = some (.int p2) := fx_e1 elv15 hlv_2 (by decide) (Or.inr rfl)
          have hlv15_3 : aj_lv lv15 3 = some (.int x14) := by rw [elv15]; exact ak_set1_eq _ _ _
          show fx_W _ _ _ 159 lv15 [] _ _
          refine fx_n (pc' := 7) (lv' := lv15) (st' := []) aj_d266 rfl (Nat.le_succ _) (fun _ => rfl) ?_
          exact (ih.1) lv15 (x14) X10  hlv15_0 hlv15_1 hlv15_2 hlv15_3
    · intro lv y3 y4 X hlv_0 hlv_1 hlv_2 hlv_3 hlv_4
      refine fx_mono (Q := fx_Q fx_qN (fun v X' => ∃ n : Nat, gxT_266_40 p1 p2 (gxF_266 p1 p2 n) y3 y4 X v X')) (fun r X' ⟨v, e, n, z⟩ => ⟨v, e, n + 1, gxI_266_40 z⟩) ?_
      unfold gxT_266_40
      refine fx_i0 aj_d266 rfl (Nat.le_refl _) (fun _ => rfl) hlv_4 ?_
      refine fx_i2 aj_d266 rfl (Nat.le_succ _) (fun _ => rfl) hlv_0 ?_
      refine fx_gI aj_d266 rfl (Nat.le_succ _) rfl rfl (Or.inl rfl) ?_
      refine fx_b (tgt := 73) aj_d266 rfl (Nat.le_succ _) rfl (fun q16 => ?_) (fun q16 => ?_)
      · skip
        refine fx_qe (c := (y4).toInt < ((X.1 117 58)).toInt) (fx_t_ge q16) ?_
        show fx_W _ _ _ 73 lv [] _ _
        refine fx_i0 aj_d266 rfl (Nat.le_succ _) (fun _ => rfl) hlv_4 ?_
        refine fx_i2 aj_d266 rfl (Nat.le_succ _) (fun _ => rfl) hlv_0 ?_
        refine fx_gI aj_d266 rfl (Nat.le_succ _) rfl rfl (Or.inl rfl) ?_
        refine fx_b (tgt := 103) aj_d266 rfl (Nat.le_succ _) rfl (fun q17 => ?_) (fun q17 => ?_)
        · skip
          refine fx_qe (c := (y4).toInt < ((X.1 117 58)).toInt) (fx_t_ge q17) ?_
          show fx_W _ _ _ 103 lv [] _ _
          refine fx_i2 aj_d266 rfl (Nat.le_succ _) (fun _ => rfl) hlv_0 ?_
          refine fx_gI aj_d266 rfl (Nat.le_succ _) rfl rfl (Or.inl rfl) ?_
          refine fx_qxI (fun x18 ex18 => ?_)
          refine fx_s0 (j := 5) aj_d266 rfl (Nat.le_succ _) (by decide) (fun _ => rfl) ?_
          obtain ⟨lv19, elv19⟩ : ∃ l, l = aj_set1 lv 5 (.int x18) := ⟨_, rfl⟩
          rw [← elv19]
          have hlv19_0 : aj_lv lv19 0 = some (.ref 117) := fx_e1 elv19 hlv_0 (by decide) (Or.inl (by decide))
          have hlv19_1 : aj_lv lv19 1 = some (.int p1) := fx_e1 elv19 hlv_1 (by decide) (Or.inl (by decide))
          have hlv19_2 : aj_lv lv19 2 = some (.int p2) := fx_e1 elv19 hlv_2 (by decide) (Or.inl (by decide))
          have hlv19_3 : aj_lv lv19 3 = some (.int y3) := fx_e1 elv19 hlv_3 (by decide) (Or.inl (by decide))
          have hlv19_4 : aj_lv lv19 4 = some (.int y4) := fx_e1 elv19 hlv_4 (by decide) (Or.inr rfl)
          have hlv19_5 : aj_lv lv19 5 = some (.int x18) := by rw [elv19]; exact ak_set1_eq _ _ _
          show fx_W _ _ _ 109 lv19 [] _ _
          exact (ih.2.2) lv19 (y3) (y4) (x18) X  hlv19_0 hlv19_1 hlv19_2 hlv19_3 hlv19_4 hlv19_5
        · skip
          refine fx_qi (c := (y4).toInt < ((X.1 117 58)).toInt) (fx_f_ge q17) ?_
          show fx_W _ _ _ 82 lv [] _ _
          refine fx_i2 aj_d266 rfl (Nat.le_succ _) (fun _ => rfl) hlv_0 ?_
          refine fx_i0 aj_d266 rfl (Nat.le_succ _) (fun _ => rfl) hlv_1 ?_
          refine fx_i2 aj_d266 rfl (Nat.le_succ _) (fun _ => rfl) hlv_0 ?_
          refine fx_gF aj_d266 rfl (Nat.le_succ _) rfl rfl fx_in_11_57 (t := 143) rfl (fun hA20 => ?_)
          refine fx_i0 aj_d266 rfl (Nat.le_succ _) (fun _ => rfl) hlv_4 ?_
          refine fx_ld aj_d266 (Or.inl rfl) rfl (Nat.le_succ _) (fun g210 g211 => ?_)
          show fx_W _ _ _ 91 lv [.int (X.1 143 (y4).toInt.toNat), .int p1, .ref 117] _ _
          refine fx_qa (c := 0 ≤ (y4).toInt ∧ (y4).toInt < ((30 : Nat) : Int)) ⟨g210, fx_lnk g211 hA20⟩ ?_
          refine fx_i0 aj_d266 rfl (Nat.le_succ _) (fun _ => rfl) hlv_3 ?_
          refine fx_i0 aj_d266 rfl (Nat.le_succ _) (fun _ => rfl) hlv_2 ?_
          refine fx_i0 aj_d266 rfl (Nat.le_succ _) (fun _ => rfl) hlv_2 ?_
          refine fx_cv aj_d266 rfl (Nat.le_succ _) rfl [_, _, _, _, _] rfl rfl (gx_267_ok p1 (X.1 143 (y4).toInt.toNat) y3 p2 p2) ?_
          rintro _ X22 ⟨w23, rfl, hR22⟩ hok22 hle22
          refine fx_qc hR22 ?_
          show fx_W _ _ _ 97 lv [.int w23] _ _
          refine fx_b0 (tgt := 103) aj_d266 rfl (Nat.le_succ _) rfl (fun q24 => ?_) (fun q24 => ?_)
          · skip
            refine fx_qe (c := (w23).toInt = 0) (fx_t_ne q24) ?_
            show fx_W _ _ _ 103 lv [] _ _
            refine fx_i2 aj_d266 rfl (Nat.le_succ _) (fun _ => rfl) hlv_0 ?_
            refine fx_gI aj_d266 rfl (Nat.le_succ _) rfl rfl (Or.inl rfl) ?_
            refine fx_qxI (fun x25 ex25 => ?_)
            refine fx_s0 (j := 5) aj_d266 rfl (Nat.le_succ _) (by decide) (fun _ => rfl) ?_
            obtain ⟨lv26, elv26⟩ : ∃ l, l = aj_set1 lv 5 (.int x25) := ⟨_, rfl⟩
            rw [← elv26]
            have hlv26_0 : aj_lv lv26 0 = some (.ref 117) := fx_e1 elv26 hlv_0 (by decide) (Or.inl (by decide))
            have hlv26_1 : aj_lv lv26 1 = some (.int p1) := fx_e1 elv26 hlv_1 (by decide) (Or.inl (by decide))
            have hlv26_2 : aj_lv lv26 2 = some (.int p2) := fx_e1 elv26 hlv_2 (by decide) (Or.inl (by decide))
            have hlv26_3 : aj_lv lv26 3 = some (.int y3) := fx_e1 elv26 hlv_3 (by decide) (Or.inl (by decide))
            have hlv26_4 : aj_lv lv26 4 = some (.int y4) := fx_e1 elv26 hlv_4 (by decide) (Or.inr rfl)
            have hlv26_5 : aj_lv lv26 5 = some (.int x25) := by rw [elv26]; exact ak_set1_eq _ _ _
            show fx_W _ _ _ 109 lv26 [] _ _
            exact (ih.2.2) lv26 (y3) (y4) (x25) X22  hlv26_0 hlv26_1 hlv26_2 hlv26_3 hlv26_4 hlv26_5
          · skip
            refine fx_qi (c := (w23).toInt = 0) (fx_f_ne q24) ?_
            show fx_W _ _ _ 100 lv [] _ _
            refine fx_n (pc' := 156) (lv' := lv) (st' := []) aj_d266 rfl (Nat.le_succ _) (fun _ => rfl) ?_
            refine fx_incq aj_d266 rfl (Nat.le_succ _) hlv_3 (by decide) (fun x27 ex27 => ?_)
            obtain ⟨lv28, elv28⟩ : ∃ l, l = aj_set1 lv 3 (.int x27) := ⟨_, rfl⟩
            rw [← elv28]
            have hlv28_0 : aj_lv lv28 0 = some (.ref 117) := fx_e1 elv28 hlv_0 (by decide) (Or.inl (by decide))
            have hlv28_1 : aj_lv lv28 1 = some (.int p1) := fx_e1 elv28 hlv_1 (by decide) (Or.inl (by decide))
            have hlv28_2 : aj_lv lv28 2 = some (.int p2) := fx_e1 elv28 hlv_2 (by decide) (Or.inr rfl)
            have hlv28_3 : aj_lv lv28 3 = some (.int x27) := by rw [elv28]; exact ak_set1_eq _ _ _
            show fx_W _ _ _ 159 lv28 [] _ _
            refine fx_n (pc' := 7) (lv' := lv28) (st' := []) aj_d266 rfl (Nat.le_succ _) (fun _ => rfl) ?_
            exact (ih.1) lv28 (x27) X22  hlv28_0 hlv28_1 hlv28_2 hlv28_3
      · skip
        refine fx_qi (c := (y4).toInt < ((X.1 117 58)).toInt) (fx_f_ge q16) ?_
        show fx_W _ _ _ 49 lv [] _ _
        refine fx_i2 aj_d266 rfl (Nat.le_succ _) (fun _ => rfl) hlv_0 ?_
        refine fx_i0 aj_d266 rfl (Nat.le_succ _) (fun _ => rfl) hlv_1 ?_
        refine fx_i2 aj_d266 rfl (Nat.le_succ _) (fun _ => rfl) hlv_0 ?_
        refine fx_gF aj_d266 rfl (Nat.le_succ _) rfl rfl fx_in_11_57 (t := 143) rfl (fun hA29 => ?_)
        refine fx_i0 aj_d266 rfl (Nat.le_succ _) (fun _ => rfl) hlv_4 ?_
        refine fx_ld aj_d266 (Or.inl rfl) rfl (Nat.le_succ _) (fun g300 g301 => ?_)
        show fx_W _ _ _ 58 lv [.int (X.1 143 (y4).toInt.toNat), .int p1, .ref 117] _ _
        refine fx_qa (c := 0 ≤ (y4).toInt ∧ (y4).toInt < ((30 : Nat) : Int)) ⟨g300, fx_lnk g301 hA29⟩ ?_
        refine fx_i0 aj_d266 rfl (Nat.le_succ _) (fun _ => rfl) hlv_3 ?_
        refine fx_i0 aj_d266 rfl (Nat.le_succ _) (fun _ => rfl) hlv_2 ?_
        refine fx_i0 aj_d266 rfl (Nat.le_succ _) (fun _ => rfl) hlv_2 ?_
        refine fx_cv aj_d266 rfl (Nat.le_succ _) rfl [_, _, _, _, _] rfl rfl (gx_267_ok p1 (X.1 143 (y4).toInt.toNat) y3 p2 p2) ?_
        rintro _ X31 ⟨w32, rfl, hR31⟩ hok31 hle31
        refine fx_qc hR31 ?_
        show fx_W _ _ _ 64 lv [.int w32] _ _
        refine fx_b0 (tgt := 73) aj_d266 rfl (Nat.le_succ _) rfl (fun q33 => ?_) (fun q33 => ?_)
        · skip
          refine fx_qe (c := (w32).toInt < 0) (fx_t_ge q33) ?_
          show fx_W _ _ _ 73 lv [] _ _
          refine fx_i0 aj_d266 rfl (Nat.le_succ _) (fun _ => rfl) hlv_4 ?_
          refine fx_i2 aj_d266 rfl (Nat.le_succ _) (fun _ => rfl) hlv_0 ?_
          refine fx_gI aj_d266 rfl (Nat.le_succ _) rfl rfl (Or.inl rfl) ?_
          refine fx_b (tgt := 103) aj_d266 rfl (Nat.le_succ _) rfl (fun q34 => ?_) (fun q34 => ?_)
          · skip
            refine fx_qe (c := (y4).toInt < ((X31.1 117 58)).toInt) (fx_t_ge q34) ?_
            show fx_W _ _ _ 103 lv [] _ _
            refine fx_i2 aj_d266 rfl (Nat.le_succ _) (fun _ => rfl) hlv_0 ?_
            refine fx_gI aj_d266 rfl (Nat.le_succ _) rfl rfl (Or.inl rfl) ?_
            refine fx_qxI (fun x35 ex35 => ?_)
            refine fx_s0 (j := 5) aj_d266 rfl (Nat.le_succ _) (by decide) (fun _ => rfl) ?_
            obtain ⟨lv36, elv36⟩ : ∃ l, l = aj_set1 lv 5 (.int x35) := ⟨_, rfl⟩
            rw [← elv36]
            have hlv36_0 : aj_lv lv36 0 = some (.ref 117) := fx_e1 elv36 hlv_0 (by decide) (Or.inl (by decide))
            have hlv36_1 : aj_lv lv36 1 = some (.int p1) := fx_e1 elv36 hlv_1 (by decide) (Or.inl (by decide))
            have hlv36_2 : aj_lv lv36 2 = some (.int p2) := fx_e1 elv36 hlv_2 (by decide) (Or.inl (by decide))
            have hlv36_3 : aj_lv lv36 3 = some (.int y3) := fx_e1 elv36 hlv_3 (by decide) (Or.inl (by decide))
            have hlv36_4 : aj_lv lv36 4 = some (.int y4) := fx_e1 elv36 hlv_4 (by decide) (Or.inr rfl)
            have hlv36_5 : aj_lv lv36 5 = some (.int x35) := by rw [elv36]; exact ak_set1_eq _ _ _
            show fx_W _ _ _ 109 lv36 [] _ _
            exact (ih.2.2) lv36 (y3) (y4) (x35) X31  hlv36_0 hlv36_1 hlv36_2 hlv36_3 hlv36_4 hlv36_5
          · skip
            refine fx_qi (c := (y4).toInt < ((X31.1 117 58)).toInt) (fx_f_ge q34) ?_
            show fx_W _ _ _ 82 lv [] _ _
            refine fx_i2 aj_d266 rfl (Nat.le_succ _) (fun _ => rfl) hlv_0 ?_
            refine fx_i0 aj_d266 rfl (Nat.le_succ _) (fun _ => rfl) hlv_1 ?_
            refine fx_i2 aj_d266 rfl (Nat.le_succ _) (fun _ => rfl) hlv_0 ?_
            refine fx_gF aj_d266 rfl (Nat.le_succ _) rfl rfl fx_in_11_57 (t := 143) rfl (fun hA37 => ?_)
            refine fx_i0 aj_d266 rfl (Nat.le_succ _) (fun _ => rfl) hlv_4 ?_
            refine fx_ld aj_d266 (Or.inl rfl) rfl (Nat.le_succ _) (fun g380 g381 => ?_)
            show fx_W _ _ _ 91 lv [.int (X31.1 143 (y4).toInt.toNat), .int p1, .ref 117] _ _
            refine fx_qa (c := 0 ≤ (y4).toInt ∧ (y4).toInt < ((30 : Nat) : Int)) ⟨g380, fx_lnk g381 hA37⟩ ?_
            refine fx_i0 aj_d266 rfl (Nat.le_succ _) (fun _ => rfl) hlv_3 ?_
            refine fx_i0 aj_d266 rfl (Nat.le_succ _) (fun _ => rfl) hlv_2 ?_
            refine fx_i0 aj_d266 rfl (Nat.le_succ _) (fun _ => rfl) hlv_2 ?_
            refine fx_cv aj_d266 rfl (Nat.le_succ _) rfl [_, _, _, _, _] rfl rfl (gx_267_ok p1 (X31.1 143 (y4).toInt.toNat) y3 p2 p2) ?_
            rintro _ X39 ⟨w40, rfl, hR39⟩ hok39 hle39
            refine fx_qc hR39 ?_
            show fx_W _ _ _ 97 lv [.int w40] _ _
            refine fx_b0 (tgt := 103) aj_d266 rfl (Nat.le_succ _) rfl (fun q41 => ?_) (fun q41 => ?_)
            · skip
              refine fx_qe (c := (w40).toInt = 0) (fx_t_ne q41) ?_
              show fx_W _ _ _ 103 lv [] _ _
              refine fx_i2 aj_d266 rfl (Nat.le_succ _) (fun _ => rfl) hlv_0 ?_
              refine fx_gI aj_d266 rfl (Nat.le_succ _) rfl rfl (Or.inl rfl) ?_
              refine fx_qxI (fun x42 ex42 => ?_)
              refine fx_s0 (j := 5) aj_d266 rfl (Nat.le_succ _) (by decide) (fun _ => rfl) ?_
              obtain ⟨lv43, elv43⟩ : ∃ l, l = aj_set1 lv 5 (.int x42) := ⟨_, rfl⟩
              rw [← elv43]
              have hlv43_0 : aj_lv lv43 0 = some (.ref 117) := fx_e1 elv43 hlv_0 (by decide) (Or.inl (by decide))
              have hlv43_1 : aj_lv lv43 1 = some (.int p1) := fx_e1 elv43 hlv_1 (by decide) (Or.inl (by decide))
              have hlv43_2 : aj_lv lv43 2 = some (.int p2) := fx_e1 elv43 hlv_2 (by decide) (Or.inl (by decide))
              have hlv43_3 : aj_lv lv43 3 = some (.int y3) := fx_e1 elv43 hlv_3 (by decide) (Or.inl (by decide))
              have hlv43_4 : aj_lv lv43 4 = some (.int y4) := fx_e1 elv43 hlv_4 (by decide) (Or.inr rfl)
              have hlv43_5 : aj_lv lv43 5 = some (.int x42) := by rw [elv43]; exact ak_set1_eq _ _ _
              show fx_W _ _ _ 109 lv43 [] _ _
              exact (ih.2.2) lv43 (y3) (y4) (x42) X39  hlv43_0 hlv43_1 hlv43_2 hlv43_3 hlv43_4 hlv43_5
            · skip
              refine fx_qi (c := (w40).toInt = 0) (fx_f_ne q41) ?_
              show fx_W _ _ _ 100 lv [] _ _
              refine fx_n (pc' := 156) (lv' := lv) (st' := []) aj_d266 rfl (Nat.le_succ _) (fun _ => rfl) ?_
              refine fx_incq aj_d266 rfl (Nat.le_succ _) hlv_3 (by decide) (fun x44 ex44 => ?_)
              obtain ⟨lv45, elv45⟩ : ∃ l, l = aj_set1 lv 3 (.int x44) := ⟨_, rfl⟩
              rw [← elv45]
              have hlv45_0 : aj_lv lv45 0 = some (.ref 117) := fx_e1 elv45 hlv_0 (by decide) (Or.inl (by decide))
              have hlv45_1 : aj_lv lv45 1 = some (.int p1) := fx_e1 elv45 hlv_1 (by decide) (Or.inl (by decide))
              have hlv45_2 : aj_lv lv45 2 = some (.int p2) := fx_e1 elv45 hlv_2 (by decide) (Or.inr rfl)
              have hlv45_3 : aj_lv lv45 3 = some (.int x44) := by rw [elv45]; exact ak_set1_eq _ _ _
              show fx_W _ _ _ 159 lv45 [] _ _
              refine fx_n (pc' := 7) (lv' := lv45) (st' := []) aj_d266 rfl (Nat.le_succ _) (fun _ => rfl) ?_
              exact (ih.1) lv45 (x44) X39  hlv45_0 hlv45_1 hlv45_2 hlv45_3
        · skip
          refine fx_qi (c := (w32).toInt < 0) (fx_f_ge q33) ?_
          show fx_W _ _ _ 67 lv [] _ _
          refine fx_incq aj_d266 rfl (Nat.le_succ _) hlv_4 (by decide) (fun x46 ex46 => ?_)
          obtain ⟨lv47, elv47⟩ : ∃ l, l = aj_set1 lv 4 (.int x46) := ⟨_, rfl⟩
          rw [← elv47]
          have hlv47_0 : aj_lv lv47 0 = some (.ref 117) := fx_e1 elv47 hlv_0 (by decide) (Or.inl (by decide))
          have hlv47_1 : aj_lv lv47 1 = some (.int p1) := fx_e1 elv47 hlv_1 (by decide) (Or.inl (by decide))
          have hlv47_2 : aj_lv lv47 2 = some (.int p2) := fx_e1 elv47 hlv_2 (by decide) (Or.inl (by decide))
          have hlv47_3 : aj_lv lv47 3 = some (.int y3) := fx_e1 elv47 hlv_3 (by decide) (Or.inr rfl)
          have hlv47_4 : aj_lv lv47 4 = some (.int x46) := by rw [elv47]; exact ak_set1_eq _ _ _
          show fx_W _ _ _ 70 lv47 [] _ _
          refine fx_n (pc' := 40) (lv' := lv47) (st' := []) aj_d266 rfl (Nat.le_succ _) (fun _ => rfl) ?_
          exact (ih.2.1) lv47 (y3) (x46) X31  hlv47_0 hlv47_1 hlv47_2 hlv47_3 hlv47_4
    · intro lv y3 y4 y5 X hlv_0 hlv_1 hlv_2 hlv_3 hlv_4 hlv_5
      refine fx_mono (Q := fx_Q fx_qN (fun v X' => ∃ n : Nat, gxT_266_109 p1 p2 (gxF_266 p1 p2 n) y3 y4 y5 X v X')) (fun r X' ⟨v, e, n, z⟩ => ⟨v, e, n + 1, gxI_266_109 z⟩) ?_
      unfold gxT_266_109
      refine fx_i0 aj_d266 rfl (Nat.le_refl _) (fun _ => rfl) hlv_5 ?_
      refine fx_i0 aj_d266 rfl (Nat.le_succ _) (fun _ => rfl) hlv_4 ?_
      refine fx_b (tgt := 138) aj_d266 rfl (Nat.le_succ _) rfl (fun q48 => ?_) (fun q48 => ?_)
      · skip
        refine fx_qe (c := (y4).toInt < (y5).toInt) (fx_t_le q48) ?_
        show fx_W _ _ _ 138 lv [] _ _
        refine fx_i2 aj_d266 rfl (Nat.le_succ _) (fun _ => rfl) hlv_0 ?_
        refine fx_gF aj_d266 rfl (Nat.le_succ _) rfl rfl fx_in_11_57 (t := 143) rfl (fun hA49 => ?_)
        refine fx_i0 aj_d266 rfl (Nat.le_succ _) (fun _ => rfl) hlv_4 ?_
        refine fx_i0 aj_d266 rfl (Nat.le_succ _) (fun _ => rfl) hlv_3 ?_
        refine fx_st aj_d266 (Or.inl ⟨rfl, rfl⟩) rfl (Nat.le_succ _) (fun g500 g501 => ?_)
        show fx_W _ _ _ _ _ _ (fx_wI X 143 (y4).toInt.toNat y3) _
        refine fx_qa (c := 0 ≤ (y4).toInt ∧ (y4).toInt < ((30 : Nat) : Int)) ⟨g500, fx_lnk g501 hA49⟩ ?_
        refine fx_qX (fun X51 eX51 => ?_)
        show fx_W _ _ _ 146 lv [] _ _
        refine fx_i2 aj_d266 rfl (Nat.le_succ _) (fun _ => rfl) hlv_0 ?_
        refine fx_n (pc' := 148) (lv' := lv) (st' := [.ref 117, .ref 117]) aj_d266 rfl (Nat.le_succ _) (fun _ => rfl) ?_
        refine fx_gI aj_d266 rfl (Nat.le_succ _) rfl rfl (Or.inl rfl) ?_
        refine fx_n (pc' := 152) (lv' := lv) (st' := [.int (Int32.ofInt 1), .int (X51.1 117 58), .ref 117]) aj_d266 rfl (Nat.le_succ _) (fun _ => rfl) ?_
        refine fx_n (pc' := 153) (lv' := lv) (st' := [.int ((X51.1 117 58) + (Int32.ofInt 1)), .ref 117]) aj_d266 rfl (Nat.le_succ _) (fun _ => rfl) ?_
        refine fx_pI aj_d266 rfl (Nat.le_succ _) rfl rfl (Or.inl rfl) fx_no_11_58 (by decide) ?_
        refine fx_qX (fun X52 eX52 => ?_)
        show fx_W _ _ _ 156 lv [] _ _
        refine fx_incq aj_d266 rfl (Nat.le_succ _) hlv_3 (by decide) (fun x53 ex53 => ?_)
        obtain ⟨lv54, elv54⟩ : ∃ l, l = aj_set1 lv 3 (.int x53) := ⟨_, rfl⟩
        rw [← elv54]
        have hlv54_0 : aj_lv lv54 0 = some (.ref 117) := fx_e1 elv54 hlv_0 (by decide) (Or.inl (by decide))
        have hlv54_1 : aj_lv lv54 1 = some (.int p1) := fx_e1 elv54 hlv_1 (by decide) (Or.inl (by decide))
        have hlv54_2 : aj_lv lv54 2 = some (.int p2) := fx_e1 elv54 hlv_2 (by decide) (Or.inr rfl)
        have hlv54_3 : aj_lv lv54 3 = some (.int x53) := by rw [elv54]; exact ak_set1_eq _ _ _
        show fx_W _ _ _ 159 lv54 [] _ _
        refine fx_n (pc' := 7) (lv' := lv54) (st' := []) aj_d266 rfl (Nat.le_succ _) (fun _ => rfl) ?_
        exact (ih.1) lv54 (x53) X52  hlv54_0 hlv54_1 hlv54_2 hlv54_3
      · skip
        refine fx_qi (c := (y4).toInt < (y5).toInt) (fx_f_le q48) ?_
        show fx_W _ _ _ 116 lv [] _ _
        refine fx_i2 aj_d266 rfl (Nat.le_succ _) (fun _ => rfl) hlv_0 ?_
        refine fx_gF aj_d266 rfl (Nat.le_succ _) rfl rfl fx_in_11_57 (t := 143) rfl (fun hA55 => ?_)
        refine fx_i0 aj_d266 rfl (Nat.le_succ _) (fun _ => rfl) hlv_5 ?_
        refine fx_i2 aj_d266 rfl (Nat.le_succ _) (fun _ => rfl) hlv_0 ?_
        refine fx_gF aj_d266 rfl (Nat.le_succ _) rfl rfl fx_in_11_57 (t := 143) rfl (fun hA56 => ?_)
        refine fx_i0 aj_d266 rfl (Nat.le_succ _) (fun _ => rfl) hlv_5 ?_
        refine fx_n (pc' := 129) (lv' := lv) (st' := [.int (Int32.ofInt 1), .int y5, .ref 143, .int y5, .ref 143]) aj_d266 rfl (Nat.le_succ _) (fun _ => rfl) ?_
        refine fx_n (pc' := 130) (lv' := lv) (st' := [.int (y5 - (Int32.ofInt 1)), .ref 143, .int y5, .ref 143]) aj_d266 rfl (Nat.le_succ _) (fun _ => rfl) ?_
        refine fx_ld aj_d266 (Or.inl rfl) rfl (Nat.le_succ _) (fun g570 g571 => ?_)
        show fx_W _ _ _ 131 lv [.int (X.1 143 ((y5 - (Int32.ofInt 1))).toInt.toNat), .int y5, .ref 143] _ _
        refine fx_qa (c := 0 ≤ ((y5 - (Int32.ofInt 1))).toInt ∧ ((y5 - (Int32.ofInt 1))).toInt < ((30 : Nat) : Int)) ⟨g570, fx_lnk g571 hA56⟩ ?_
        refine fx_st aj_d266 (Or.inl ⟨rfl, rfl⟩) rfl (Nat.le_succ _) (fun g580 g581 => ?_)
        show fx_W _ _ _ _ _ _ (fx_wI X 143 (y5).toInt.toNat (X.1 143 ((y5 - (Int32.ofInt 1))).toInt.toNat)) _
        refine fx_qa (c := 0 ≤ (y5).toInt ∧ (y5).toInt < ((30 : Nat) : Int)) ⟨g580, fx_lnk g581 hA55⟩ ?_
        refine fx_qX (fun X59 eX59 => ?_)
        show fx_W _ _ _ 132 lv [] _ _
        refine fx_incq aj_d266 rfl (Nat.le_succ _) hlv_5 (by decide) (fun x60 ex60 => ?_)
        obtain ⟨lv61, elv61⟩ : ∃ l, l = aj_set1 lv 5 (.int x60) := ⟨_, rfl⟩
        rw [← elv61]
        have hlv61_0 : aj_lv lv61 0 = some (.ref 117) := fx_e1 elv61 hlv_0 (by decide) (Or.inl (by decide))
        have hlv61_1 : aj_lv lv61 1 = some (.int p1) := fx_e1 elv61 hlv_1 (by decide) (Or.inl (by decide))
        have hlv61_2 : aj_lv lv61 2 = some (.int p2) := fx_e1 elv61 hlv_2 (by decide) (Or.inl (by decide))
        have hlv61_3 : aj_lv lv61 3 = some (.int y3) := fx_e1 elv61 hlv_3 (by decide) (Or.inl (by decide))
        have hlv61_4 : aj_lv lv61 4 = some (.int y4) := fx_e1 elv61 hlv_4 (by decide) (Or.inr rfl)
        have hlv61_5 : aj_lv lv61 5 = some (.int x60) := by rw [elv61]; exact ak_set1_eq _ _ _
        show fx_W _ _ _ 135 lv61 [] _ _
        refine fx_n (pc' := 109) (lv' := lv61) (st' := []) aj_d266 rfl (Nat.le_succ _) (fun _ => rfl) ?_
        exact (ih.2.2) lv61 (y3) (y4) (x60) X59  hlv61_0 hlv61_1 hlv61_2 hlv61_3 hlv61_4 hlv61_5
theorem gx_266_ok {tb : aj_T} (p1 : Int32) (p2 : Int32) {X : fx_X} : fx_K tb 266 [.ref 117, .int p1, .int p2] X (fx_Q fx_qN (fun v X' => gx_266 p1 p2 X v X')) := by
  refine fx_m aj_m266_at rfl (fun N => ?_)
  refine fx_mono (Q := fx_Q fx_qN (fun v X' => ∃ n : Nat, gxE_266 p1 p2 (gxF_266 p1 p2 n) X v X')) (fun r X' h => h) ?_
  unfold gxE_266
  show fx_W _ _ _ 0 [(0, .ref 117), (1, .int p1), (2, .int p2)] [] _ _
  obtain ⟨lv1, elv1⟩ : ∃ l : aj_V, l = [(0, .ref 117), (1, .int p1), (2, .int p2)] := ⟨_, rfl⟩
  rw [← elv1]
  have hlv1_0 : aj_lv lv1 0 = some (.ref 117) := by rw [elv1]; rfl
  have hlv1_1 : aj_lv lv1 1 = some (.int p1) := by rw [elv1]; rfl
  have hlv1_2 : aj_lv lv1 2 = some (.int p2) := by rw [elv1]; rfl
  refine fx_i2 aj_d266 rfl (Nat.le_succ _) (fun _ => rfl) hlv1_0 ?_
  refine fx_n (pc' := 2) (lv' := lv1) (st' := [.int (Int32.ofInt 0), .ref 117]) aj_d266 rfl (Nat.le_succ _) (fun _ => rfl) ?_
  refine fx_pI aj_d266 rfl (Nat.le_succ _) rfl rfl (Or.inl rfl) fx_no_11_58 (by decide) ?_
  refine fx_qX (fun X2 eX2 => ?_)
  show fx_W _ _ _ 5 lv1 [] _ _
  refine fx_n (pc' := 6) (lv' := lv1) (st' := [.int (Int32.ofInt 0)]) aj_d266 rfl (Nat.le_succ _) (fun _ => rfl) ?_
  refine fx_s0 (j := 3) aj_d266 rfl (Nat.le_succ _) (by decide) (fun _ => rfl) ?_
  obtain ⟨lv3, elv3⟩ : ∃ l, l = aj_set1 lv1 3 (.int (Int32.ofInt 0)) := ⟨_, rfl⟩
  rw [← elv3]
  have hlv3_0 : aj_lv lv3 0 = some (.ref 117) := fx_e1 elv3 hlv1_0 (by decide) (Or.inl (by decide))
  have hlv3_1 : aj_lv lv3 1 = some (.int p1) := fx_e1 elv3 hlv1_1 (by decide) (Or.inl (by decide))
  have hlv3_2 : aj_lv lv3 2 = some (.int p2) := fx_e1 elv3 hlv1_2 (by decide) (Or.inr rfl)
  have hlv3_3 : aj_lv lv3 3 = some (.int (Int32.ofInt 0)) := by rw [elv3]; exact ak_set1_eq _ _ _
  show fx_W _ _ _ 7 lv3 [] _ _
  exact ((gxL_266 p1 p2 N).1) lv3 ((Int32.ofInt 0)) X2  hlv3_0 hlv3_1 hlv3_2 hlv3_3
def gxT_269_3 (p1 : Int32) (p2 : Int32) (p3 : Int32) (p4 : Int32) (P : Nat → List Int32 → List Int64 → List Nat → fx_X → Int32 → fx_X → Prop) (y5 : Int32) (X : fx_X) (v : Int32) (X' : fx_X) : Prop :=
  (if (y5).toInt < ((X.1 117 56)).toInt then ((0 ≤ (y5).toInt ∧ (y5).toInt < ((16 : Nat) : Int)) ∧ ∃ (w7 : Int32) (X6 : fx_X), gx_258 p1 p2 (X.1 142 (y5).toInt.toNat) p4 X w7 X6 ∧ (0 ≤ (y5).toInt ∧ (y5).toInt < ((16 : Nat) : Int)) ∧ ∃ (w11 : Int32) (X10 : fx_X), gx_258 p1 p3 (X6.1 142 (y5).toInt.toNat) p4 X6 w11 X10 ∧ (if (w7).toInt = (w11).toInt then (∃ x13 : Int32, x13 = y5 + Int32.ofInt 1 ∧ P 3 [x13] [] [] X10 v X') else (v = (Int32.ofInt 0) ∧ X' = X10))) else (v = (Int32.ofInt 1) ∧ X' = X))
def gxE_269 (p1 : Int32) (p2 : Int32) (p3 : Int32) (p4 : Int32) (P : Nat → List Int32 → List Int64 → List Nat → fx_X → Int32 → fx_X → Prop) (X : fx_X) (v : Int32) (X' : fx_X) : Prop :=
  P 3 [(Int32.ofInt 0)] [] [] X v X'
noncomputable def gxF_269 (p1 : Int32) (p2 : Int32) (p3 : Int32) (p4 : Int32) (n : Nat) : Nat → List Int32 → List Int64 → List Nat → fx_X → Int32 → fx_X → Prop := Nat.rec (motive := fun _ => Nat → List Int32 → List Int64 → List Nat → fx_X → Int32 → fx_X → Prop) (fun _ _ _ _ _ _ _ => False) (fun _ P l is ls rs X v X' => (l = 3 ∧ ∃ (y5 : Int32), is = [y5] ∧ ls = [] ∧ rs = [] ∧ gxT_269_3 p1 p2 p3 p4 P y5 X v X')) n
theorem gxI_269_3 {p1 : Int32} {p2 : Int32} {p3 : Int32} {p4 : Int32} {n : Nat} {y5 : Int32} {X : fx_X} {v : Int32} {X' : fx_X} (h : gxT_269_3 p1 p2 p3 p4 (gxF_269 p1 p2 p3 p4 n) y5 X v X') : gxF_269 p1 p2 p3 p4 (n + 1) 3 [y5] [] [] X v X' := ⟨rfl, y5, rfl, rfl, rfl, h⟩
theorem gxO_269_3 {p1 : Int32} {p2 : Int32} {p3 : Int32} {p4 : Int32} {n : Nat} {y5 : Int32} {X : fx_X} {v : Int32} {X' : fx_X} (h : gxF_269 p1 p2 p3 p4 (n + 1) 3 [y5] [] [] X v X') : gxT_269_3 p1 p2 p3 p4 (gxF_269 p1 p2 p3 p4 n) y5 X v X' := by
  rcases h with ⟨-, _, e1, e2, e3, h⟩
  · cases e1; cases e2; cases e3; exact h
def gx_269 (p1 : Int32) (p2 : Int32) (p3 : Int32) (p4 : Int32) (X : fx_X) (v : Int32) (X' : fx_X) : Prop := ∃ n : Nat, gxE_269 p1 p2 p3 p4 (gxF_269 p1 p2 p3 p4 n) X v X'
theorem gxL_269 {tb : aj_T} (p1 : Int32) (p2 : Int32) (p3 : Int32) (p4 : Int32) : ∀ N : Nat, (∀ (lv : aj_V) (y5 : Int32) (X : fx_X), aj_lv lv 0 = some (.ref 117) → aj_lv lv 1 = some (.int p1) → aj_lv lv 2 = some (.int p2) → aj_lv lv 3 = some (.int p3) → aj_lv lv 4 = some (.int p4) → aj_lv lv 5 = some (.int y5) → fx_W tb aj_m269 N 3 lv [] X (fx_Q fx_qI (fun v X' => ∃ n : Nat, gxF_269 p1 p2 p3 p4 n 3 [y5] [] [] X v X'))) := by
  intro N
  induction N with
  | zero => exact (by intros; exact fx_z)
  | succ N ih =>
    skip
    · intro lv y5 X hlv_0 hlv_1 hlv_2 hlv_3 hlv_4 hlv_5
      refine fx_mono (Q := fx_Q fx_qI (fun v X' => ∃ n : Nat, gxT_269_3 p1 p2 p3 p4 (gxF_269 p1 p2 p3 p4 n) y5 X v X')) (fun r X' ⟨v, e, n, z⟩ => ⟨v, e, n + 1, gxI_269_3 z⟩) ?_
      unfold gxT_269_3
      refine fx_i0 aj_d269 rfl (Nat.le_refl _) (fun _ => rfl) hlv_5 ?_
      refine fx_i2 aj_d269 rfl (Nat.le_succ _) (fun _ => rfl) hlv_0 ?_
      refine fx_gI aj_d269 rfl (Nat.le_succ _) rfl rfl (Or.inl rfl) ?_
      refine fx_b (tgt := 53) aj_d269 rfl (Nat.le_succ _) rfl (fun q3 => ?_) (fun q3 => ?_)
      · skip
        refine fx_qe (c := (y5).toInt < ((X.1 117 56)).toInt) (fx_t_ge q3) ?_
        show fx_W _ _ _ 53 lv [] _ _
        refine fx_n (pc' := 54) (lv' := lv) (st' := [.int (Int32.ofInt 1)]) aj_d269 rfl (Nat.le_succ _) (fun _ => rfl) ?_
        exact fx_ri aj_d269 rfl ⟨_, rfl, 0, rfl, rfl⟩
      · skip
        refine fx_qi (c := (y5).toInt < ((X.1 117 56)).toInt) (fx_f_ge q3) ?_
        show fx_W _ _ _ 12 lv [] _ _
        refine fx_i2 aj_d269 rfl (Nat.le_succ _) (fun _ => rfl) hlv_0 ?_
        refine fx_i0 aj_d269 rfl (Nat.le_succ _) (fun _ => rfl) hlv_1 ?_
        refine fx_i0 aj_d269 rfl (Nat.le_succ _) (fun _ => rfl) hlv_2 ?_
        refine fx_i2 aj_d269 rfl (Nat.le_succ _) (fun _ => rfl) hlv_0 ?_
        refine fx_gF aj_d269 rfl (Nat.le_succ _) rfl rfl fx_in_11_55 (t := 142) rfl (fun hA4 => ?_)
        refine fx_i0 aj_d269 rfl (Nat.le_succ _) (fun _ => rfl) hlv_5 ?_
        refine fx_ld aj_d269 (Or.inl rfl) rfl (Nat.le_succ _) (fun g50 g51 => ?_)
        show fx_W _ _ _ 22 lv [.int (X.1 142 (y5).toInt.toNat), .int p2, .int p1, .ref 117] _ _
        refine fx_qa (c := 0 ≤ (y5).toInt ∧ (y5).toInt < ((16 : Nat) : Int)) ⟨g50, fx_lnk g51 hA4⟩ ?_
        refine fx_i0 aj_d269 rfl (Nat.le_succ _) (fun _ => rfl) hlv_4 ?_
        refine fx_cv aj_d269 rfl (Nat.le_succ _) rfl [_, _, _, _] rfl rfl (gx_258_ok p1 p2 (X.1 142 (y5).toInt.toNat) p4) ?_
        rintro _ X6 ⟨w7, rfl, hR6⟩ hok6 hle6
        refine fx_qc hR6 ?_
        show fx_W _ _ _ 27 lv [.int w7] _ _
        refine fx_i2 aj_d269 rfl (Nat.le_succ _) (fun _ => rfl) hlv_0 ?_
        refine fx_i0 aj_d269 rfl (Nat.le_succ _) (fun _ => rfl) hlv_1 ?_
        refine fx_i0 aj_d269 rfl (Nat.le_succ _) (fun _ => rfl) hlv_3 ?_
        refine fx_i2 aj_d269 rfl (Nat.le_succ _) (fun _ => rfl) hlv_0 ?_
        refine fx_gF aj_d269 rfl (Nat.le_succ _) rfl rfl fx_in_11_55 (t := 142) rfl (fun hA8 => ?_)
        refine fx_i0 aj_d269 rfl (Nat.le_succ _) (fun _ => rfl) hlv_5 ?_
        refine fx_ld aj_d269 (Or.inl rfl) rfl (Nat.le_succ _) (fun g90 g91 => ?_)
        show fx_W _ _ _ 37 lv [.int (X6.1 142 (y5).toInt.toNat), .int p3, .int p1, .ref 117, .int w7] _ _
        refine fx_qa (c := 0 ≤ (y5).toInt ∧ (y5).toInt < ((16 : Nat) : Int)) ⟨g90, fx_lnk g91 hA8⟩ ?_
        refine fx_i0 aj_d269 rfl (Nat.le_succ _) (fun _ => rfl) hlv_4 ?_
        refine fx_cv aj_d269 rfl (Nat.le_succ _) rfl [_, _, _, _] rfl rfl (gx_258_ok p1 p3 (X6.1 142 (y5).toInt.toNat) p4) ?_
        rintro _ X10 ⟨w11, rfl, hR10⟩ hok10 hle10
        refine fx_qc hR10 ?_
        show fx_W _ _ _ 42 lv [.int w11, .int w7] _ _
        refine fx_b (tgt := 47) aj_d269 rfl (Nat.le_succ _) rfl (fun q12 => ?_) (fun q12 => ?_)
        · skip
          refine fx_qi (c := (w7).toInt = (w11).toInt) (fx_t_eq q12) ?_
          show fx_W _ _ _ 47 lv [] _ _
          refine fx_incq aj_d269 rfl (Nat.le_succ _) hlv_5 (by decide) (fun x13 ex13 => ?_)
          obtain ⟨lv14, elv14⟩ : ∃ l, l = aj_set1 lv 5 (.int x13) := ⟨_, rfl⟩
          rw [← elv14]
          have hlv14_0 : aj_lv lv14 0 = some (.ref 117) := fx_e1 elv14 hlv_0 (by decide) (Or.inl (by decide))
          have hlv14_1 : aj_lv lv14 1 = some (.int p1) := fx_e1 elv14 hlv_1 (by decide) (Or.inl (by decide))
          have hlv14_2 : aj_lv lv14 2 = some (.int p2) := fx_e1 elv14 hlv_2 (by decide) (Or.inl (by decide))
          have hlv14_3 : aj_lv lv14 3 = some (.int p3) := fx_e1 elv14 hlv_3 (by decide) (Or.inl (by decide))
          have hlv14_4 : aj_lv lv14 4 = some (.int p4) := fx_e1 elv14 hlv_4 (by decide) (Or.inr rfl)
          have hlv14_5 : aj_lv lv14 5 = some (.int x13) := by rw [elv14]; exact ak_set1_eq _ _ _
          show fx_W _ _ _ 50 lv14 [] _ _
          refine fx_n (pc' := 3) (lv' := lv14) (st' := []) aj_d269 rfl (Nat.le_succ _) (fun _ => rfl) ?_
          exact (ih) lv14 (x13) X10  hlv14_0 hlv14_1 hlv14_2 hlv14_3 hlv14_4 hlv14_5
        · skip
          refine fx_qe (c := (w7).toInt = (w11).toInt) (fx_f_eq q12) ?_
          show fx_W _ _ _ 45 lv [] _ _
          refine fx_n (pc' := 46) (lv' := lv) (st' := [.int (Int32.ofInt 0)]) aj_d269 rfl (Nat.le_succ _) (fun _ => rfl) ?_
          exact fx_ri aj_d269 rfl ⟨_, rfl, 0, rfl, rfl⟩
theorem gx_269_ok {tb : aj_T} (p1 : Int32) (p2 : Int32) (p3 : Int32) (p4 : Int32) {X : fx_X} : fx_K tb 269 [.ref 117, .int p1, .int p2, .int p3, .int p4] X (fx_Q fx_qI (fun v X' => gx_269 p1 p2 p3 p4 X v X')) := by
  refine fx_m aj_m269_at rfl (fun N => ?_)
  refine fx_mono (Q := fx_Q fx_qI (fun v X' => ∃ n : Nat, gxE_269 p1 p2 p3 p4 (gxF_269 p1 p2 p3 p4 n) X v X')) (fun r X' h => h) ?_
  unfold gxE_269
  show fx_W _ _ _ 0 [(0, .ref 117), (1, .int p1), (2, .int p2), (3, .int p3), (4, .int p4)] [] _ _
  obtain ⟨lv1, elv1⟩ : ∃ l : aj_V, l = [(0, .ref 117), (1, .int p1), (2, .int p2), (3, .int p3), (4, .int p4)] := ⟨_, rfl⟩
  rw [← elv1]
  have hlv1_0 : aj_lv lv1 0 = some (.ref 117) := by rw [elv1]; rfl
  have hlv1_1 : aj_lv lv1 1 = some (.int p1) := by rw [elv1]; rfl
  have hlv1_2 : aj_lv lv1 2 = some (.int p2) := by rw [elv1]; rfl
  have hlv1_3 : aj_lv lv1 3 = some (.int p3) := by rw [elv1]; rfl
  have hlv1_4 : aj_lv lv1 4 = some (.int p4) := by rw [elv1]; rfl
  refine fx_n (pc' := 1) (lv' := lv1) (st' := [.int (Int32.ofInt 0)]) aj_d269 rfl (Nat.le_succ _) (fun _ => rfl) ?_
  refine fx_s0 (j := 5) aj_d269 rfl (Nat.le_succ _) (by decide) (fun _ => rfl) ?_
  obtain ⟨lv2, elv2⟩ : ∃ l, l = aj_set1 lv1 5 (.int (Int32.ofInt 0)) := ⟨_, rfl⟩
  rw [← elv2]
  have hlv2_0 : aj_lv lv2 0 = some (.ref 117) := fx_e1 elv2 hlv1_0 (by decide) (Or.inl (by decide))
  have hlv2_1 : aj_lv lv2 1 = some (.int p1) := fx_e1 elv2 hlv1_1 (by decide) (Or.inl (by decide))
  have hlv2_2 : aj_lv lv2 2 = some (.int p2) := fx_e1 elv2 hlv1_2 (by decide) (Or.inl (by decide))
  have hlv2_3 : aj_lv lv2 3 = some (.int p3) := fx_e1 elv2 hlv1_3 (by decide) (Or.inl (by decide))
  have hlv2_4 : aj_lv lv2 4 = some (.int p4) := fx_e1 elv2 hlv1_4 (by decide) (Or.inr rfl)
  have hlv2_5 : aj_lv lv2 5 = some (.int (Int32.ofInt 0)) := by rw [elv2]; exact ak_set1_eq _ _ _
  show fx_W _ _ _ 3 lv2 [] _ _
  exact ((gxL_269 p1 p2 p3 p4 N)) lv2 ((Int32.ofInt 0)) X  hlv2_0 hlv2_1 hlv2_2 hlv2_3 hlv2_4 hlv2_5
def gxT_268_3 (p1 : Int32) (p2 : Int32) (p3 : Int32) (P : Nat → List Int32 → List Int64 → List Nat → fx_X → Int32 → fx_X → Prop) (y4 : Int32) (X : fx_X) (v : Int32) (X' : fx_X) : Prop :=
  (if (y4).toInt < (p2).toInt then ((0 ≤ (y4).toInt ∧ (y4).toInt < ((30 : Nat) : Int)) ∧ (0 ≤ (p2).toInt ∧ (p2).toInt < ((30 : Nat) : Int)) ∧ ∃ (w9 : Int32) (X8 : fx_X), gx_269 p1 (X.1 143 (y4).toInt.toNat) (X.1 143 (p2).toInt.toNat) p3 X w9 X8 ∧ (if (w9).toInt = 0 then (∃ x11 : Int32, x11 = y4 + Int32.ofInt 1 ∧ P 3 [x11] [] [] X8 v X') else (v = (Int32.ofInt 0) ∧ X' = X8))) else (v = (Int32.ofInt 1) ∧ X' = X))
def gxE_268 (p1 : Int32) (p2 : Int32) (p3 : Int32) (P : Nat → List Int32 → List Int64 → List Nat → fx_X → Int32 → fx_X → Prop) (X : fx_X) (v : Int32) (X' : fx_X) : Prop :=
  P 3 [(Int32.ofInt 0)] [] [] X v X'
noncomputable def gxF_268 (p1 : Int32) (p2 : Int32) (p3 : Int32) (n : Nat) : Nat → List Int32 → List Int64 → List Nat → fx_X → Int32 → fx_X → Prop := Nat.rec (motive := fun _ => Nat → List Int32 → List Int64 → List Nat → fx_X → Int32 → fx_X → Prop) (fun _ _ _ _ _ _ _ => False) (fun _ P l is ls rs X v X' => (l = 3 ∧ ∃ (y4 : Int32), is = [y4] ∧ ls = [] ∧ rs = [] ∧ gxT_268_3 p1 p2 p3 P y4 X v X')) n
theorem gxI_268_3 {p1 : Int32} {p2 : Int32} {p3 : Int32} {n : Nat} {y4 : Int32} {X : fx_X} {v : Int32} {X' : fx_X} (h : gxT_268_3 p1 p2 p3 (gxF_268 p1 p2 p3 n) y4 X v X') : gxF_268 p1 p2 p3 (n + 1) 3 [y4] [] [] X v X' := ⟨rfl, y4, rfl, rfl, rfl, h⟩
theorem gxO_268_3 {p1 : Int32} {p2 : Int32} {p3 : Int32} {n : Nat} {y4 : Int32} {X : fx_X} {v : Int32} {X' : fx_X} (h : gxF_268 p1 p2 p3 (n + 1) 3 [y4] [] [] X v X') : gxT_268_3 p1 p2 p3 (gxF_268 p1 p2 p3 n) y4 X v X' := by
  rcases h with ⟨-, _, e1, e2, e3, h⟩
  · cases e1; cases e2; cases e3; exact h
def gx_268 (p1 : Int32) (p2 : Int32) (p3 : Int32) (X : fx_X) (v : Int32) (X' : fx_X) : Prop := ∃ n : Nat, gxE_268 p1 p2 p3 (gxF_268 p1 p2 p3 n) X v X'
theorem gxL_268 {tb : aj_T} (p1 : Int32) (p2 : Int32) (p3 : Int32) : ∀ N : Nat, (∀ (lv : aj_V) (y4 : Int32) (X : fx_X), aj_lv lv 0 = some (.ref 117) → aj_lv lv 1 = some (.int p1) → aj_lv lv 2 = some (.int p2) → aj_lv lv 3 = some (.int p3) → aj_lv lv 4 = some (.int y4) → fx_W tb aj_m268 N 3 lv [] X (fx_Q fx_qI (fun v X' => ∃ n : Nat, gxF_268 p1 p2 p3 n 3 [y4] [] [] X v X'))) := by
  intro N
  induction N with
  | zero => exact (by intros; exact fx_z)
  | succ N ih =>
    skip
    · intro lv y4 X hlv_0 hlv_1 hlv_2 hlv_3 hlv_4
      refine fx_mono (Q := fx_Q fx_qI (fun v X' => ∃ n : Nat, gxT_268_3 p1 p2 p3 (gxF_268 p1 p2 p3 n) y4 X v X')) (fun r X' ⟨v, e, n, z⟩ => ⟨v, e, n + 1, gxI_268_3 z⟩) ?_
      unfold gxT_268_3
      refine fx_i0 aj_d268 rfl (Nat.le_refl _) (fun _ => rfl) hlv_4 ?_
      refine fx_i0 aj_d268 rfl (Nat.le_succ _) (fun _ => rfl) hlv_2 ?_
      refine fx_b (tgt := 39) aj_d268 rfl (Nat.le_succ _) rfl (fun q3 => ?_) (fun q3 => ?_)
      · skip
        refine fx_qe (c := (y4).toInt < (p2).toInt) (fx_t_ge q3) ?_
        show fx_W _ _ _ 39 lv [] _ _
        refine fx_n (pc' := 40) (lv' := lv) (st' := [.int (Int32.ofInt 1)]) aj_d268 rfl (Nat.le_succ _) (fun _ => rfl) ?_
        exact fx_ri aj_d268 rfl ⟨_, rfl, 0, rfl, rfl⟩
      · skip
        refine fx_qi (c := (y4).toInt < (p2).toInt) (fx_f_ge q3) ?_
        show fx_W _ _ _ 9 lv [] _ _
        refine fx_i2 aj_d268 rfl (Nat.le_succ _) (fun _ => rfl) hlv_0 ?_
        refine fx_i0 aj_d268 rfl (Nat.le_succ _) (fun _ => rfl) hlv_1 ?_
        refine fx_i2 aj_d268 rfl (Nat.le_succ _) (fun _ => rfl) hlv_0 ?_
        refine fx_gF aj_d268 rfl (Nat.le_succ _) rfl rfl fx_in_11_57 (t := 143) rfl (fun hA4 => ?_)
        refine fx_i0 aj_d268 rfl (Nat.le_succ _) (fun _ => rfl) hlv_4 ?_
        refine fx_ld aj_d268 (Or.inl rfl) rfl (Nat.le_succ _) (fun g50 g51 => ?_)
        show fx_W _ _ _ 18 lv [.int (X.1 143 (y4).toInt.toNat), .int p1, .ref 117] _ _
        refine fx_qa (c := 0 ≤ (y4).toInt ∧ (y4).toInt < ((30 : Nat) : Int)) ⟨g50, fx_lnk g51 hA4⟩ ?_
        refine fx_i2 aj_d268 rfl (Nat.le_succ _) (fun _ => rfl) hlv_0 ?_
        refine fx_gF aj_d268 rfl (Nat.le_succ _) rfl rfl fx_in_11_57 (t := 143) rfl (fun hA6 => ?_)
        refine fx_i0 aj_d268 rfl (Nat.le_succ _) (fun _ => rfl) hlv_2 ?_
        refine fx_ld aj_d268 (Or.inl rfl) rfl (Nat.le_succ _) (fun g70 g71 => ?_)
        show fx_W _ _ _ 24 lv [.int (X.1 143 (p2).toInt.toNat), .int (X.1 143 (y4).toInt.toNat), .int p1, .ref 117] _ _
        refine fx_qa (c := 0 ≤ (p2).toInt ∧ (p2).toInt < ((30 : Nat) : Int)) ⟨g70, fx_lnk g71 hA6⟩ ?_
        refine fx_i0 aj_d268 rfl (Nat.le_succ _) (fun _ => rfl) hlv_3 ?_
        refine fx_cv aj_d268 rfl (Nat.le_succ _) rfl [_, _, _, _] rfl rfl (gx_269_ok p1 (X.1 143 (y4).toInt.toNat) (X.1 143 (p2).toInt.toNat) p3) ?_
        rintro _ X8 ⟨w9, rfl, hR8⟩ hok8 hle8
        refine fx_qc hR8 ?_
        show fx_W _ _ _ 28 lv [.int w9] _ _
        refine fx_b0 (tgt := 33) aj_d268 rfl (Nat.le_succ _) rfl (fun q10 => ?_) (fun q10 => ?_)
        · skip
          refine fx_qi (c := (w9).toInt = 0) (fx_t_eq q10) ?_
          show fx_W _ _ _ 33 lv [] _ _
          refine fx_incq aj_d268 rfl (Nat.le_succ _) hlv_4 (by decide) (fun x11 ex11 => ?_)
          obtain ⟨lv12, elv12⟩ : ∃ l, l = aj_set1 lv 4 (.int x11) := ⟨_, rfl⟩
          rw [← elv12]
          have hlv12_0 : aj_lv lv12 0 = some (.ref 117) := fx_e1 elv12 hlv_0 (by decide) (Or.inl (by decide))
          have hlv12_1 : aj_lv lv12 1 = some (.int p1) := fx_e1 elv12 hlv_1 (by decide) (Or.inl (by decide))
          have hlv12_2 : aj_lv lv12 2 = some (.int p2) := fx_e1 elv12 hlv_2 (by decide) (Or.inl (by decide))
          have hlv12_3 : aj_lv lv12 3 = some (.int p3) := fx_e1 elv12 hlv_3 (by decide) (Or.inr rfl)
          have hlv12_4 : aj_lv lv12 4 = some (.int x11) := by rw [elv12]; exact ak_set1_eq _ _ _
          show fx_W _ _ _ 36 lv12 [] _ _
          refine fx_n (pc' := 3) (lv' := lv12) (st' := []) aj_d268 rfl (Nat.le_succ _) (fun _ => rfl) ?_
          exact (ih) lv12 (x11) X8  hlv12_0 hlv12_1 hlv12_2 hlv12_3 hlv12_4
        · skip
          refine fx_qe (c := (w9).toInt = 0) (fx_f_eq q10) ?_
          show fx_W _ _ _ 31 lv [] _ _
          refine fx_n (pc' := 32) (lv' := lv) (st' := [.int (Int32.ofInt 0)]) aj_d268 rfl (Nat.le_succ _) (fun _ => rfl) ?_
          exact fx_ri aj_d268 rfl ⟨_, rfl, 0, rfl, rfl⟩
theorem gx_268_ok {tb : aj_T} (p1 : Int32) (p2 : Int32) (p3 : Int32) {X : fx_X} : fx_K tb 268 [.ref 117, .int p1, .int p2, .int p3] X (fx_Q fx_qI (fun v X' => gx_268 p1 p2 p3 X v X')) := by
  refine fx_m aj_m268_at rfl (fun N => ?_)
  refine fx_mono (Q := fx_Q fx_qI (fun v X' => ∃ n : Nat, gxE_268 p1 p2 p3 (gxF_268 p1 p2 p3 n) X v X')) (fun r X' h => h) ?_
  unfold gxE_268
  show fx_W _ _ _ 0 [(0, .ref 117), (1, .int p1), (2, .int p2), (3, .int p3)] [] _ _
  obtain ⟨lv1, elv1⟩ : ∃ l : aj_V, l = [(0, .ref 117), (1, .int p1), (2, .int p2), (3, .int p3)] := ⟨_, rfl⟩
  rw [← elv1]
  have hlv1_0 : aj_lv lv1 0 = some (.ref 117) := by rw [elv1]; rfl
  have hlv1_1 : aj_lv lv1 1 = some (.int p1) := by rw [elv1]; rfl
  have hlv1_2 : aj_lv lv1 2 = some (.int p2) := by rw [elv1]; rfl
  have hlv1_3 : aj_lv lv1 3 = some (.int p3) := by rw [elv1]; rfl
  refine fx_n (pc' := 1) (lv' := lv1) (st' := [.int (Int32.ofInt 0)]) aj_d268 rfl (Nat.le_succ _) (fun _ => rfl) ?_
  refine fx_s0 (j := 4) aj_d268 rfl (Nat.le_succ _) (by decide) (fun _ => rfl) ?_
  obtain ⟨lv2, elv2⟩ : ∃ l, l = aj_set1 lv1 4 (.int (Int32.ofInt 0)) := ⟨_, rfl⟩
  rw [← elv2]
  have hlv2_0 : aj_lv lv2 0 = some (.ref 117) := fx_e1 elv2 hlv1_0 (by decide) (Or.inl (by decide))
  have hlv2_1 : aj_lv lv2 1 = some (.int p1) := fx_e1 elv2 hlv1_1 (by decide) (Or.inl (by decide))
  have hlv2_2 : aj_lv lv2 2 = some (.int p2) := fx_e1 elv2 hlv1_2 (by decide) (Or.inl (by decide))
  have hlv2_3 : aj_lv lv2 3 = some (.int p3) := fx_e1 elv2 hlv1_3 (by decide) (Or.inr rfl)
  have hlv2_4 : aj_lv lv2 4 = some (.int (Int32.ofInt 0)) := by rw [elv2]; exact ak_set1_eq _ _ _
  show fx_W _ _ _ 3 lv2 [] _ _
  exact ((gxL_268 p1 p2 p3 N)) lv2 ((Int32.ofInt 0)) X  hlv2_0 hlv2_1 hlv2_2 hlv2_3 hlv2_4
