/-! METHODS LIFTED (printed by wip/p7/gx.py, parts.py) -/
def gxT_234_86 (P : Nat → List Int32 → List Int64 → List Nat → fx_X → Int32 → fx_X → Prop) (y1 : Int32) (y2 : Int32) (X : fx_X) (v : Int32) (X' : fx_X) : Prop :=
  ∃ (w27 : Int32) (X26 : fx_X), gx_216 X w27 X26 ∧ (if (w27).toInt = 0 then (v = (Int32.ofInt 0) ∧ X' = X26) else (∃ x29 : Int32, x29 = (X26.1 117 34) ∧ (if (y1).toInt < 0 then (∃ (w38 : Unit) (X37 : fx_X), gx_218 (Int32.ofInt 4) x29 X26 w38 X37 ∧ P 128 [y1, y2, x29] [] [] X37 v X') else ((0 ≤ (y2).toInt ∧ (y2).toInt < ((20 : Nat) : Int)) ∧ (if ((X26.1 126 (y2).toInt.toNat)).toInt = 0 then (P 128 [y1, y2, x29] [] [] X26 v X') else (∃ (w36 : Unit) (X35 : fx_X), gx_218 (Int32.ofInt 5) x29 X26 w36 X35 ∧ P 128 [y1, y2, x29] [] [] X35 v X'))))))
def gxT_234_128 (P : Nat → List Int32 → List Int64 → List Nat → fx_X → Int32 → fx_X → Prop) (y1 : Int32) (y2 : Int32) (y3 : Int32) (X : fx_X) (v : Int32) (X' : fx_X) : Prop :=
  ∃ (w40 : Int32) (X39 : fx_X), gx_219 ((Int8.ofInt 40).toInt32) X w40 X39 ∧ (if (w40).toInt = 0 then (v = (Int32.ofInt 0) ∧ X' = X39) else (P 145 [y1, y2, y3, (Int32.ofInt 0), (Int32.ofInt 1)] [] [] X39 v X'))
def gxT_234_145 (P : Nat → List Int32 → List Int64 → List Nat → fx_X → Int32 → fx_X → Prop) (y1 : Int32) (y2 : Int32) (y3 : Int32) (y4 : Int32) (y5 : Int32) (X : fx_X) (v : Int32) (X' : fx_X) : Prop :=
  (if (y5).toInt = 0 then (∃ (w46 : Int32) (X45 : fx_X), gx_219 ((Int8.ofInt 41).toInt32) X w46 X45 ∧ (if (w46).toInt = 0 then (v = (Int32.ofInt 0) ∧ X' = X45) else ((if (y1).toInt < 0 then (P 311 [y1, y2] [] [] X45 v X') else ((0 ≤ (y2).toInt ∧ (y2).toInt < ((20 : Nat) : Int)) ∧ (if ((X45.1 126 (y2).toInt.toNat)).toInt = 0 then ((0 ≤ (y2).toInt ∧ (y2).toInt < ((50 : Nat) : Int)) ∧ (if (y4).toInt = ((X45.1 132 (y2).toInt.toNat)).toInt then (P 311 [y1, y2] [] [] X45 v X') else (∃ (w56 : Unit) (X55 : fx_X), gx_218 (Int32.ofInt 5) y3 X45 w56 X55 ∧ P 311 [y1, y2] [] [] X55 v X'))) else (P 311 [y1, y2] [] [] X45 v X'))))))) else ((if ((X.1 117 26)).toInt = 2 then (∃ (w59 : Int32) (X58 : fx_X), gx_235 X w59 X58 ∧ (if (w59).toInt = 0 then (v = (Int32.ofInt 0) ∧ X' = X58) else ((if ((X58.1 117 32)).toInt = 0 then (P 245 [y1, y2, y3, y4] [] [] X58 v X') else ((0 ≤ (y2).toInt ∧ (y2).toInt < ((50 : Nat) : Int)) ∧ ∃ (w66 : Int32) (X65 : fx_X), gx_236 y2 (X58.1 131 (y2).toInt.toNat) y4 X58 w66 X65 ∧ (0 ≤ (w66).toInt ∧ (w66).toInt < ((12000 : Nat) : Int)) ∧ ∃ X68 : fx_X, X68 = (fx_wI X65 134 (w66).toInt.toNat (aj_nar 4 (((X65.1 117 38)).toInt8.toInt32))) ∧ (0 ≤ (y2).toInt ∧ (y2).toInt < ((50 : Nat) : Int)) ∧ ∃ (w73 : Int32) (X72 : fx_X), gx_236 y2 (X68.1 131 (y2).toInt.toNat) y4 X68 w73 X72 ∧ (0 ≤ (w73).toInt ∧ (w73).toInt < ((12000 : Nat) : Int)) ∧ ∃ X75 : fx_X, X75 = (fx_wI X72 135 (w73).toInt.toNat (X72.1 117 39)) ∧ P 245 [y1, y2, y3, y4] [] [] X75 v X'))))) else (∃ (w77 : Int32) (X76 : fx_X), gx_220 ((Int8.ofInt 45).toInt32) X w77 X76 ∧ (if (w77).toInt = 0 then (∃ (w98 : Int32) (X97 : fx_X), gx_220 ((Int8.ofInt 63).toInt32) X76 w98 X97 ∧ (if (w98).toInt = 0 then (∃ (w119 : Int32) (X118 : fx_X), gx_215 (Int32.ofInt 1) (X97.1 117 27) X97 w119 X118 ∧ v = w119 ∧ X' = X118) else (∃ (w101 : Int32) (X100 : fx_X), gx_235 X97 w101 X100 ∧ (if (w101).toInt = 0 then (v = (Int32.ofInt 0) ∧ X' = X100) else ((if ((X100.1 117 32)).toInt = 0 then (P 245 [y1, y2, y3, y4] [] [] X100 v X') else ((0 ≤ (y2).toInt ∧ (y2).toInt < ((50 : Nat) : Int)) ∧ ∃ (w108 : Int32) (X107 : fx_X), gx_236 y2 (X100.1 131 (y2).toInt.toNat) y4 X100 w108 X107 ∧ (0 ≤ (w108).toInt ∧ (w108).toInt < ((12000 : Nat) : Int)) ∧ ∃ X110 : fx_X, X110 = (fx_wI X107 134 (w108).toInt.toNat (aj_nar 4 (((X107.1 117 38)).toInt8.toInt32))) ∧ (0 ≤ (y2).toInt ∧ (y2).toInt < ((50 : Nat) : Int)) ∧ ∃ (w115 : Int32) (X114 : fx_X), gx_236 y2 (X110.1 131 (y2).toInt.toNat) y4 X110 w115 X114 ∧ (0 ≤ (w115).toInt ∧ (w115).toInt < ((12000 : Nat) : Int)) ∧ ∃ X117 : fx_X, X117 = (fx_wI X114 135 (w115).toInt.toNat (X114.1 117 39)) ∧ P 245 [y1, y2, y3, y4] [] [] X117 v X'))))))) else (∃ (w80 : Int32) (X79 : fx_X), gx_235 X76 w80 X79 ∧ (if (w80).toInt = 0 then (v = (Int32.ofInt 0) ∧ X' = X79) else ((if ((X79.1 117 32)).toInt = 0 then (P 245 [y1, y2, y3, y4] [] [] X79 v X') else ((0 ≤ (y2).toInt ∧ (y2).toInt < ((50 : Nat) : Int)) ∧ ∃ (w87 : Int32) (X86 : fx_X), gx_236 y2 (X79.1 131 (y2).toInt.toNat) y4 X79 w87 X86 ∧ (0 ≤ (w87).toInt ∧ (w87).toInt < ((12000 : Nat) : Int)) ∧ ∃ X89 : fx_X, X89 = (fx_wI X86 134 (w87).toInt.toNat (aj_nar 4 (((X86.1 117 38)).toInt8.toInt32))) ∧ (0 ≤ (y2).toInt ∧ (y2).toInt < ((50 : Nat) : Int)) ∧ ∃ (w94 : Int32) (X93 : fx_X), gx_236 y2 (X89.1 131 (y2).toInt.toNat) y4 X89 w94 X93 ∧ (0 ≤ (w94).toInt ∧ (w94).toInt < ((12000 : Nat) : Int)) ∧ ∃ X96 : fx_X, X96 = (fx_wI X93 135 (w94).toInt.toNat (X93.1 117 39)) ∧ P 245 [y1, y2, y3, y4] [] [] X96 v X'))))))))))
def gxT_234_245 (P : Nat → List Int32 → List Int64 → List Nat → fx_X → Int32 → fx_X → Prop) (y1 : Int32) (y2 : Int32) (y3 : Int32) (y4 : Int32) (X : fx_X) (v : Int32) (X' : fx_X) : Prop :=
  ∃ x130 : Int32, x130 = y4 + Int32.ofInt 1 ∧ ∃ (w133 : Int32) (X132 : fx_X), gx_220 ((Int8.ofInt 44).toInt32) X w133 X132 ∧ (if (w133).toInt = 0 then (P 145 [y1, y2, y3, x130, w133] [] [] X132 v X') else (∃ (w137 : Int32) (X136 : fx_X), gx_214 X132 w137 X136 ∧ (if (w137).toInt = 0 then (v = (Int32.ofInt 0) ∧ X' = X136) else (P 145 [y1, y2, y3, x130, w133] [] [] X136 v X'))))
def gxT_234_311 (P : Nat → List Int32 → List Int64 → List Nat → fx_X → Int32 → fx_X → Prop) (y1 : Int32) (y2 : Int32) (X : fx_X) (v : Int32) (X' : fx_X) : Prop :=
  ∃ (w121 : Int32) (X120 : fx_X), gx_212 (Int32.ofInt 3) X w121 X120 ∧ (if (w121).toInt = 0 then (P 339 [y1, y2, w121] [] [] X120 v X') else (∃ (w125 : Int32) (X124 : fx_X), gx_214 X120 w125 X124 ∧ (if (w125).toInt = 0 then (v = (Int32.ofInt 0) ∧ X' = X124) else (∃ (w128 : Int32) (X127 : fx_X), gx_237 X124 w128 X127 ∧ (if (w128).toInt = 0 then (v = (Int32.ofInt 0) ∧ X' = X127) else (P 339 [y1, y2, w121] [] [] X127 v X'))))))
def gxT_234_339 (P : Nat → List Int32 → List Int64 → List Nat → fx_X → Int32 → fx_X → Prop) (y1 : Int32) (y2 : Int32) (y6 : Int32) (X : fx_X) (v : Int32) (X' : fx_X) : Prop :=
  ∃ (w140 : Int32) (X139 : fx_X), gx_219 ((Int8.ofInt 59).toInt32) X w140 X139 ∧ (if (w140).toInt = 0 then (v = (Int32.ofInt 0) ∧ X' = X139) else (P 353 [y1, y2, y6, (Int32.ofInt 0)] [] [] X139 v X'))
def gxT_234_353 (P : Nat → List Int32 → List Int64 → List Nat → fx_X → Int32 → fx_X → Prop) (y1 : Int32) (y2 : Int32) (y6 : Int32) (y7 : Int32) (X : fx_X) (v : Int32) (X' : fx_X) : Prop :=
  (if ((X.1 117 32)).toInt = 0 then (P 423 [y1, y2] [] [] X v X') else ((0 ≤ ((X.1 117 37)).toInt ∧ ((X.1 117 37)).toInt < ((2 : Nat) : Int)) ∧ (if (y7).toInt < ((X.1 122 ((X.1 117 37)).toInt.toNat)).toInt then ((0 ≤ (y2).toInt ∧ (y2).toInt < ((50 : Nat) : Int)) ∧ ∃ (w151 : Int32) (X150 : fx_X), gx_225 y2 (X.1 131 (y2).toInt.toNat) X w151 X150 ∧ (if (y6).toInt = 0 then (∃ (w154 : Unit) (X153 : fx_X), gx_228 136 w151 y7 (Int32.ofInt 1) X150 w154 X153 ∧ ∃ x155 : Int32, x155 = y7 + Int32.ofInt 1 ∧ P 353 [y1, y2, y6, x155] [] [] X153 v X') else (∃ (w159 : Int32) (X158 : fx_X), gx_227 137 (Int32.ofInt 0) y7 X150 w159 X158 ∧ (if (w159).toInt = 0 then (∃ (w162 : Unit) (X161 : fx_X), gx_228 136 w151 y7 (Int32.ofInt 0) X158 w162 X161 ∧ ∃ x163 : Int32, x163 = y7 + Int32.ofInt 1 ∧ P 353 [y1, y2, y6, x163] [] [] X161 v X') else (∃ (w166 : Unit) (X165 : fx_X), gx_228 136 w151 y7 (Int32.ofInt 1) X158 w166 X165 ∧ ∃ x167 : Int32, x167 = y7 + Int32.ofInt 1 ∧ P 353 [y1, y2, y6, x167] [] [] X165 v X'))))) else (P 423 [y1, y2] [] [] X v X'))))
def gxT_234_423 (P : Nat → List Int32 → List Int64 → List Nat → fx_X → Int32 → fx_X → Prop) (y1 : Int32) (y2 : Int32) (X : fx_X) (v : Int32) (X' : fx_X) : Prop :=
  (if (y1).toInt < 0 then (v = (Int32.ofInt 1) ∧ X' = X) else ((0 ≤ (y2).toInt ∧ (y2).toInt < ((20 : Nat) : Int)) ∧ (if ((X.1 126 (y2).toInt.toNat)).toInt = 0 then ((0 ≤ (y2).toInt ∧ (y2).toInt < ((50 : Nat) : Int)) ∧ (0 ≤ (y2).toInt ∧ (y2).toInt < ((50 : Nat) : Int)) ∧ ∃ X176 : fx_X, X176 = (fx_wI X 131 (y2).toInt.toNat ((X.1 131 (y2).toInt.toNat) + (Int32.ofInt 1))) ∧ v = (Int32.ofInt 1) ∧ X' = X176) else (v = (Int32.ofInt 1) ∧ X' = X))))
def gxE_234 (P : Nat → List Int32 → List Int64 → List Nat → fx_X → Int32 → fx_X → Prop) (X : fx_X) (v : Int32) (X' : fx_X) : Prop :=
  ∃ (w3 : Int32) (X2 : fx_X), gx_214 X w3 X2 ∧ (if (w3).toInt = 0 then (v = (Int32.ofInt 0) ∧ X' = X2) else ((if ((X2.1 117 26)).toInt = 1 then (∃ (w11 : Int64) (X10 : fx_X), gx_210 (X2.1 117 27) (X2.1 117 28) X2 w11 X10 ∧ ∃ (w13 : Int32) (X12 : fx_X), gx_231 (X2.1 117 37) w11 X10 w13 X12 ∧ ∃ x15 : Int32, x15 = (((X12.1 117 37) * ((Int8.ofInt 10).toInt32)) + w13) ∧ (if (w13).toInt < 0 then (P 86 [w13, x15] [] [] X12 v X') else ((0 ≤ (x15).toInt ∧ (x15).toInt < ((20 : Nat) : Int)) ∧ (if ((X12.1 126 (x15).toInt.toNat)).toInt = 0 then ((0 ≤ (x15).toInt ∧ (x15).toInt < ((50 : Nat) : Int)) ∧ (if ((X12.1 131 (x15).toInt.toNat)).toInt = 30 then (∃ (w25 : Int32) (X24 : fx_X), gx_215 (Int32.ofInt 2) (X12.1 117 27) X12 w25 X24 ∧ v = w25 ∧ X' = X24) else (P 86 [w13, x15] [] [] X12 v X'))) else (P 86 [w13, x15] [] [] X12 v X'))))) else (∃ x7 : Int32, x7 = (((X2.1 117 37) * ((Int8.ofInt 10).toInt32)) + (Int32.ofInt (-1))) ∧ P 86 [(Int32.ofInt (-1)), x7] [] [] X2 v X'))))
noncomputable def gxF_234 (n : Nat) : Nat → List Int32 → List Int64 → List Nat → fx_X → Int32 → fx_X → Prop := Nat.rec (motive := fun _ => Nat → List Int32 → List Int64 → List Nat → fx_X → Int32 → fx_X → Prop) (fun _ _ _ _ _ _ _ => False) (fun _ P l is ls rs X v X' => (l = 86 ∧ ∃ (y1 : Int32) (y2 : Int32), is = [y1, y2] ∧ ls = [] ∧ rs = [] ∧ gxT_234_86 P y1 y2 X v X') ∨ (l = 128 ∧ ∃ (y1 : Int32) (y2 : Int32) (y3 : Int32), is = [y1, y2, y3] ∧ ls = [] ∧ rs = [] ∧ gxT_234_128 P y1 y2 y3 X v X') ∨ (l = 145 ∧ ∃ (y1 : Int32) (y2 : Int32) (y3 : Int32) (y4 : Int32) (y5 : Int32), is = [y1, y2, y3, y4, y5] ∧ ls = [] ∧ rs = [] ∧ gxT_234_145 P y1 y2 y3 y4 y5 X v X') ∨ (l = 245 ∧ ∃ (y1 : Int32) (y2 : Int32) (y3 : Int32) (y4 : Int32), is = [y1, y2, y3, y4] ∧ ls = [] ∧ rs = [] ∧ gxT_234_245 P y1 y2 y3 y4 X v X') ∨ (l = 311 ∧ ∃ (y1 : Int32) (y2 : Int32), is = [y1, y2] ∧ ls = [] ∧ rs = [] ∧ gxT_234_311 P y1 y2 X v X') ∨ (l = 339 ∧ ∃ (y1 : Int32) (y2 : Int32) (y6 : Int32), is = [y1, y2, y6] ∧ ls = [] ∧ rs = [] ∧ gxT_234_339 P y1 y2 y6 X v X') ∨ (l = 353 ∧ ∃ (y1 : Int32) (y2 : Int32) (y6 : Int32) (y7 : Int32), is = [y1, y2, y6, y7] ∧ ls = [] ∧ rs = [] ∧ gxT_234_353 P y1 y2 y6 y7 X v X') ∨ (l = 423 ∧ ∃ (y1 : Int32) (y2 : Int32), is = [y1, y2] ∧ ls = [] ∧ rs = [] ∧ gxT_234_423 P y1 y2 X v X')) n
theorem gxI_234_86 {n : Nat} {y1 : Int32} {y2 : Int32} {X : fx_X} {v : Int32} {X' : fx_X} (h : gxT_234_86 (gxF_234 n) y1 y2 X v X') : gxF_234 (n + 1) 86 [y1, y2] [] [] X v X' := Or.inl ⟨rfl, y1, y2, rfl, rfl, rfl, h⟩
theorem gxO_234_86 {n : Nat} {y1 : Int32} {y2 : Int32} {X : fx_X} {v : Int32} {X' : fx_X} (h : gxF_234 (n + 1) 86 [y1, y2] [] [] X v X') : gxT_234_86 (gxF_234 n) y1 y2 X v X' := by
  rcases h with ⟨-, _, _, e1, e2, e3, h⟩ | ⟨e, -⟩ | ⟨e, -⟩ | ⟨e, -⟩ | ⟨e, -⟩ | ⟨e, -⟩ | ⟨e, -⟩ | ⟨e, -⟩
  · cases e1; cases e2; cases e3; exact h
  · exact absurd e (by decide)
  · exact absurd e (by decide)
  · exact absurd e (by decide)
  · exact absurd e (by decide)
  · exact absurd e (by decide)
  · exact absurd e (by decide)
  · exact absurd e (by decide)
theorem gxI_234_128 {n : Nat} {y1 : Int32} {y2 : Int32} {y3 : Int32} {X : fx_X} {v : Int32} {X' : fx_X} (h : gxT_234_128 (gxF_234 n) y1 y2 y3 X v X') : gxF_234 (n + 1) 128 [y1, y2, y3] [] [] X v X' := Or.inr (Or.inl ⟨rfl, y1, y2, y3, rfl, rfl, rfl, h⟩)
theorem gxO_234_128 {n : Nat} {y1 : Int32} {y2 : Int32} {y3 : Int32} {X : fx_X} {v : Int32} {X' : fx_X} (h : gxF_234 (n + 1) 128 [y1, y2, y3] [] [] X v X') : gxT_234_128 (gxF_234 n) y1 y2 y3 X v X' := by
  rcases h with ⟨e, -⟩ | ⟨-, _, _, _, e1, e2, e3, h⟩ | ⟨e, -⟩ | ⟨e, -⟩ | ⟨e, -⟩ | ⟨e, -⟩ | ⟨e, -⟩ | ⟨e, -⟩
  · exact absurd e (by decide)
  · cases e1; cases e2; cases e3; exact h
  · exact absurd e (by decide)
  · exact absurd e (by decide)
  · exact absurd e (by decide)
  · exact absurd e (by decide)
  · exact absurd e (by decide)
  · exact absurd e (by decide)
theorem gxI_234_145 {n : Nat} {y1 : Int32} {y2 : Int32} {y3 : Int32} {y4 : Int32} {y5 : Int32} {X : fx_X} {v : Int32} {X' : fx_X} (h : gxT_234_145 (gxF_234 n) y1 y2 y3 y4 y5 X v X') : gxF_234 (n + 1) 145 [y1, y2, y3, y4, y5] [] [] X v X' := Or.inr (Or.inr (Or.inl ⟨rfl, y1, y2, y3, y4, y5, rfl, rfl, rfl, h⟩))
theorem gxO_234_145 {n : Nat} {y1 : Int32} {y2 : Int32} {y3 : Int32} {y4 : Int32} {y5 : Int32} {X : fx_X} {v : Int32} {X' : fx_X} (h : gxF_234 (n + 1) 145 [y1, y2, y3, y4, y5] [] [] X v X') : gxT_234_145 (gxF_234 n) y1 y2 y3 y4 y5 X v X' := by
  rcases h with ⟨e, -⟩ | ⟨e, -⟩ | ⟨-, _, _, _, _, _, e1, e2, e3, h⟩ | ⟨e, -⟩ | ⟨e, -⟩ | ⟨e, -⟩ | ⟨e, -⟩ | ⟨e, -⟩
  · exact absurd e (by decide)
  · exact absurd e (by decide)
  · cases e1; cases e2; cases e3; exact h
  · exact absurd e (by decide)
  · exact absurd e (by decide)
  · exact absurd e (by decide)
  · exact absurd e (by decide)
  · exact absurd e (by decide)
theorem gxI_234_245 {n : Nat} {y1 : Int32} {y2 : Int32} {y3 : Int32} {y4 : Int32} {X : fx_X} {v : Int32} {X' : fx_X} (h : gxT_234_245 (gxF_234 n) y1 y2 y3 y4 X v X') : gxF_234 (n + 1) 245 [y1, y2, y3, y4] [] [] X v X' := Or.inr (Or.inr (Or.inr (Or.inl ⟨rfl, y1, y2, y3, y4, rfl, rfl, rfl, h⟩)))
theorem gxO_234_245 {n : Nat} {y1 : Int32} {y2 : Int32} {y3 : Int32} {y4 : Int32} {X : fx_X} {v : Int32} {X' : fx_X} (h : gxF_234 (n + 1) 245 [y1, y2, y3, y4] [] [] X v X') : gxT_234_245 (gxF_234 n) y1 y2 y3 y4 X v X' := by
  rcases h with ⟨e, -⟩ | ⟨e, -⟩ | ⟨e, -⟩ | ⟨-, _, _, _, _, e1, e2, e3, h⟩ | ⟨e, -⟩ | ⟨e, -⟩ | ⟨e, -⟩ | ⟨e, -⟩
  · exact absurd e (by decide)
  · exact absurd e (by decide)
  · exact absurd e (by decide)
  · cases e1; cases e2; cases e3; exact h
  · exact absurd e (by decide)
  · exact absurd e (by decide)
  · exact absurd e (by decide)
  · exact absurd e (by decide)
theorem gxI_234_311 {n : Nat} {y1 : Int32} {y2 : Int32} {X : fx_X} {v : Int32} {X' : fx_X} (h : gxT_234_311 (gxF_234 n) y1 y2 X v X') : gxF_234 (n + 1) 311 [y1, y2] [] [] X v X' := Or.inr (Or.inr (Or.inr (Or.inr (Or.inl ⟨rfl, y1, y2, rfl, rfl, rfl, h⟩))))
theorem gxO_234_311 {n : Nat} {y1 : Int32} {y2 : Int32} {X : fx_X} {v : Int32} {X' : fx_X} (h : gxF_234 (n + 1) 311 [y1, y2] [] [] X v X') : gxT_234_311 (gxF_234 n) y1 y2 X v X' := by
  rcases h with ⟨e, -⟩ | ⟨e, -⟩ | ⟨e, -⟩ | ⟨e, -⟩ | ⟨-, _, _, e1, e2, e3, h⟩ | ⟨e, -⟩ | ⟨e, -⟩ | ⟨e, -⟩
  · exact absurd e (by decide)
  · exact absurd e (by decide)
  · exact absurd e (by decide)
  · exact absurd e (by decide)
  · cases e1; cases e2; cases e3; exact h
  · exact absurd e (by decide)
  · exact absurd e (by decide)
  · exact absurd e (by decide)
theorem gxI_234_339 {n : Nat} {y1 : Int32} {y2 : Int32} {y6 : Int32} {X : fx_X} {v : Int32} {X' : fx_X} (h : gxT_234_339 (gxF_234 n) y1 y2 y6 X v X') : gxF_234 (n + 1) 339 [y1, y2, y6] [] [] X v X' := Or.inr (Or.inr (Or.inr (Or.inr (Or.inr (Or.inl ⟨rfl, y1, y2, y6, rfl, rfl, rfl, h⟩)))))
theorem gxO_234_339 {n : Nat} {y1 : Int32} {y2 : Int32} {y6 : Int32} {X : fx_X} {v : Int32} {X' : fx_X} (h : gxF_234 (n + 1) 339 [y1, y2, y6] [] [] X v X') : gxT_234_339 (gxF_234 n) y1 y2 y6 X v X' := by
  rcases h with ⟨e, -⟩ | ⟨e, -⟩ | ⟨e, -⟩ | ⟨e, -⟩ | ⟨e, -⟩ | ⟨-, _, _, _, e1, e2, e3, h⟩ | ⟨e, -⟩ | ⟨e, -⟩
  · exact absurd e (by decide)
  · exact absurd e (by decide)
  · exact absurd e (by decide)
  · exact absurd e (by decide)
  · exact absurd e (by decide)
  · cases e1; cases e2; cases e3; exact h
  · exact absurd e (by decide)
  · exact absurd e (by decide)
theorem gxI_234_353 {n : Nat} {y1 : Int32} {y2 : Int32} {y6 : Int32} {y7 : Int32} {X : fx_X} {v : Int32} {X' : fx_X} (h : gxT_234_353 (gxF_234 n) y1 y2 y6 y7 X v X') : gxF_234 (n + 1) 353 [y1, y2, y6, y7] [] [] X v X' := Or.inr (Or.inr (Or.inr (Or.inr (Or.inr (Or.inr (Or.inl ⟨rfl, y1, y2, y6, y7, rfl, rfl, rfl, h⟩))))))
theorem gxO_234_353 {n : Nat} {y1 : Int32} {y2 : Int32} {y6 : Int32} {y7 : Int32} {X : fx_X} {v : Int32} {X' : fx_X} (h : gxF_234 (n + 1) 353 [y1, y2, y6, y7] [] [] X v X') : gxT_234_353 (gxF_234 n) y1 y2 y6 y7 X v X' := by
  rcases h with ⟨e, -⟩ | ⟨e, -⟩ | ⟨e, -⟩ | ⟨e, -⟩ | ⟨e, -⟩ | ⟨e, -⟩ | ⟨-, _, _, _, _, e1, e2, e3, h⟩ | ⟨e, -⟩
  · exact absurd e (by decide)
  · exact absurd e (by decide)
  · exact absurd e (by decide)
  · exact absurd e (by decide)
  · exact absurd e (by decide)
  · exact absurd e (by decide)
  · cases e1; cases e2; cases e3; exact h
  · exact absurd e (by decide)
theorem gxI_234_423 {n : Nat} {y1 : Int32} {y2 : Int32} {X : fx_X} {v : Int32} {X' : fx_X} (h : gxT_234_423 (gxF_234 n) y1 y2 X v X') : gxF_234 (n + 1) 423 [y1, y2] [] [] X v X' := Or.inr (Or.inr (Or.inr (Or.inr (Or.inr (Or.inr (Or.inr (⟨rfl, y1, y2, rfl, rfl, rfl, h⟩)))))))
theorem gxO_234_423 {n : Nat} {y1 : Int32} {y2 : Int32} {X : fx_X} {v : Int32} {X' : fx_X} (h : gxF_234 (n + 1) 423 [y1, y2] [] [] X v X') : gxT_234_423 (gxF_234 n) y1 y2 X v X' := by
  rcases h with ⟨e, -⟩ | ⟨e, -⟩ | ⟨e, -⟩ | ⟨e, -⟩ | ⟨e, -⟩ | ⟨e, -⟩ | ⟨e, -⟩ | ⟨-, _, _, e1, e2, e3, h⟩
  · exact absurd e (by decide)
  · exact absurd e (by decide)
  · exact absurd e (by decide)
  · exact absurd e (by decide)
  · exact absurd e (by decide)
  · exact absurd e (by decide)
  · exact absurd e (by decide)
  · cases e1; cases e2; cases e3; exact h
def gx_234 (X : fx_X) (v : Int32) (X' : fx_X) : Prop := ∃ n : Nat, gxE_234 (gxF_234 n) X v X'
theorem gxL_234 {tb : aj_T} : ∀ N : Nat, (∀ (lv : aj_V) (y1 : Int32) (y2 : Int32) (X : fx_X), aj_lv lv 0 = some (.ref 117) → aj_lv lv 1 = some (.int y1) → aj_lv lv 2 = some (.int y2) → fx_W tb aj_m234 N 86 lv [] X (fx_Q fx_qI (fun v X' => ∃ n : Nat, gxF_234 n 86 [y1, y2] [] [] X v X'))) ∧ (∀ (lv : aj_V) (y1 : Int32) (y2 : Int32) (y3 : Int32) (X : fx_X), aj_lv lv 0 = some (.ref 117) → aj_lv lv 1 = some (.int y1) → aj_lv lv 2 = some (.int y2) → aj_lv lv 3 = some (.int y3) → fx_W tb aj_m234 N 128 lv [] X (fx_Q fx_qI (fun v X' => ∃ n : Nat, gxF_234 n 128 [y1, y2, y3] [] [] X v X'))) ∧ (∀ (lv : aj_V) (y1 : Int32) (y2 : Int32) (y3 : Int32) (y4 : Int32) (y5 : Int32) (X : fx_X), aj_lv lv 0 = some (.ref 117) → aj_lv lv 1 = some (.int y1) → aj_lv lv 2 = some (.int y2) → aj_lv lv 3 = some (.int y3) → aj_lv lv 4 = some (.int y4) → aj_lv lv 5 = some (.int y5) → fx_W tb aj_m234 N 145 lv [] X (fx_Q fx_qI (fun v X' => ∃ n : Nat, gxF_234 n 145 [y1, y2, y3, y4, y5] [] [] X v X'))) ∧ (∀ (lv : aj_V) (y1 : Int32) (y2 : Int32) (y3 : Int32) (y4 : Int32) (X : fx_X), aj_lv lv 0 = some (.ref 117) → aj_lv lv 1 = some (.int y1) → aj_lv lv 2 = some (.int y2) → aj_lv lv 3 = some (.int y3) → aj_lv lv 4 = some (.int y4) → fx_W tb aj_m234 N 245 lv [] X (fx_Q fx_qI (fun v X' => ∃ n : Nat, gxF_234 n 245 [y1, y2, y3, y4] [] [] X v X'))) ∧ (∀ (lv : aj_V) (y1 : Int32) (y2 : Int32) (X : fx_X), aj_lv lv 0 = some (.ref 117) → aj_lv lv 1 = some (.int y1) → aj_lv lv 2 = some (.int y2) → fx_W tb aj_m234 N 311 lv [] X (fx_Q fx_qI (fun v X' => ∃ n : Nat, gxF_234 n 311 [y1, y2] [] [] X v X'))) ∧ (∀ (lv : aj_V) (y1 : Int32) (y2 : Int32) (y6 : Int32) (X : fx_X), aj_lv lv 0 = some (.ref 117) → aj_lv lv 1 = some (.int y1) → aj_lv lv 2 = some (.int y2) → aj_lv lv 6 = some (.int y6) → fx_W tb aj_m234 N 339 lv [] X (fx_Q fx_qI (fun v X' => ∃ n : Nat, gxF_234 n 339 [y1, y2, y6] [] [] X v X'))) ∧ (∀ (lv : aj_V) (y1 : Int32) (y2 : Int32) (y6 : Int32) (y7 : Int32) (X : fx_X), aj_lv lv 0 = some (.ref 117) → aj_lv lv 1 = some (.int y1) → aj_lv lv 2 = some (.int y2) → aj_lv lv 6 = some (.int y6) → aj_lv lv 7 = some (.int y7) → fx_W tb aj_m234 N 353 lv [] X (fx_Q fx_qI (fun v X' => ∃ n : Nat, gxF_234 n 353 [y1, y2, y6, y7] [] [] X v X'))) ∧ (∀ (lv : aj_V) (y1 : Int32) (y2 : Int32) (X : fx_X), aj_lv lv 0 = some (.ref 117) → aj_lv lv 1 = some (.int y1) → aj_lv lv 2 = some (.int y2) → fx_W tb aj_m234 N 423 lv [] X (fx_Q fx_qI (fun v X' => ∃ n : Nat, gxF_234 n 423 [y1, y2] [] [] X v X'))) := by
  intro N
  induction N with
  | zero => exact ⟨(by intros; exact fx_z), (by intros; exact fx_z), (by intros; exact fx_z), (by intros; exact fx_z), (by intros; exact fx_z), (by intros; exact fx_z), (by intros; exact fx_z), (by intros; exact fx_z)⟩
  | succ N ih =>
    refine ⟨?_, ?_, ?_, ?_, ?_, ?_, ?_, ?_⟩
    · intro lv y1 y2 X hlv_0 hlv_1 hlv_2
      refine fx_mono (Q := fx_Q fx_qI (fun v X' => ∃ n : Nat, gxT_234_86 (gxF_234 n) y1 y2 X v X')) (fun r X' ⟨v, e, n, z⟩ => ⟨v, e, n + 1, gxI_234_86 z⟩) ?_
      unfold gxT_234_86
      refine fx_i2 aj_d234 rfl (Nat.le_refl _) (fun _ => rfl) hlv_0 ?_
      refine fx_cv aj_d234 rfl (Nat.le_succ _) rfl [] rfl rfl (gx_216_ok) ?_
      rintro _ X26 ⟨w27, rfl, hR26⟩ hok26 hle26
      refine fx_qc hR26 ?_
      show fx_W _ _ _ 90 lv [.int w27] _ _
      refine fx_b0 (tgt := 95) aj_d234 rfl (Nat.le_succ _) rfl (fun q28 => ?_) (fun q28 => ?_)
      · skip
        refine fx_qe (c := (w27).toInt = 0) (fx_t_ne q28) ?_
        show fx_W _ _ _ 95 lv [] _ _
        refine fx_i2 aj_d234 rfl (Nat.le_succ _) (fun _ => rfl) hlv_0 ?_
        refine fx_gI aj_d234 rfl (Nat.le_succ _) rfl rfl (Or.inl rfl) ?_
        refine fx_qxI (fun x29 ex29 => ?_)
        refine fx_s0 (j := 3) aj_d234 rfl (Nat.le_succ _) (by decide) (fun _ => rfl) ?_
        obtain ⟨lv30, elv30⟩ : ∃ l, l = aj_set1 lv 3 (.int x29) := ⟨_, rfl⟩
        rw [← elv30]
        have hlv30_0 : aj_lv lv30 0 = some (.ref 117) := fx_e1 elv30 hlv_0 (by decide) (Or.inl (by decide))
        have hlv30_1 : aj_lv lv30 1 = some (.int y1) := fx_e1 elv30 hlv_1 (by decide) (Or.inl (by decide))
        have hlv30_2 : aj_lv lv30 2 = some (.int y2) := fx_e1 elv30 hlv_2 (by decide) (Or.inr rfl)
        have hlv30_3 : aj_lv lv30 3 = some (.int x29) := by rw [elv30]; exact ak_set1_eq _ _ _
        show fx_W _ _ _ 100 lv30 [] _ _
        refine fx_i0 aj_d234 rfl (Nat.le_succ _) (fun _ => rfl) hlv30_1 ?_
        refine fx_b0 (tgt := 113) aj_d234 rfl (Nat.le_succ _) rfl (fun q31 => ?_) (fun q31 => ?_)
        · skip
          refine fx_qe (c := (y1).toInt < 0) (fx_t_ge q31) ?_
          show fx_W _ _ _ 113 lv30 [] _ _
          refine fx_i2 aj_d234 rfl (Nat.le_succ _) (fun _ => rfl) hlv30_0 ?_
          refine fx_gF aj_d234 rfl (Nat.le_succ _) rfl rfl fx_in_11_9 (t := 126) rfl (fun hA32 => ?_)
          refine fx_i0 aj_d234 rfl (Nat.le_succ _) (fun _ => rfl) hlv30_2 ?_
          refine fx_ld aj_d234 (Or.inr (Or.inr rfl)) rfl (Nat.le_succ _) (fun g330 g331 => ?_)
          show fx_W _ _ _ 119 lv30 [.int (X26.1 126 (y2).toInt.toNat)] _ _
          refine fx_qa (c := 0 ≤ (y2).toInt ∧ (y2).toInt < ((20 : Nat) : Int)) ⟨g330, fx_lnk g331 hA32⟩ ?_
          refine fx_b0 (tgt := 128) aj_d234 rfl (Nat.le_succ _) rfl (fun q34 => ?_) (fun q34 => ?_)
          · skip
            refine fx_qi (c := ((X26.1 126 (y2).toInt.toNat)).toInt = 0) (fx_t_eq q34) ?_
            show fx_W _ _ _ 128 lv30 [] _ _
            exact (ih.2.1) lv30 (y1) (y2) (x29) X26  hlv30_0 hlv30_1 hlv30_2 hlv30_3
          · skip
            refine fx_qe (c := ((X26.1 126 (y2).toInt.toNat)).toInt = 0) (fx_f_eq q34) ?_
            show fx_W _ _ _ 122 lv30 [] _ _
            refine fx_i2 aj_d234 rfl (Nat.le_succ _) (fun _ => rfl) hlv30_0 ?_
            refine fx_n (pc' := 124) (lv' := lv30) (st' := [.int (Int32.ofInt 5), .ref 117]) aj_d234 rfl (Nat.le_succ _) (fun _ => rfl) ?_
            refine fx_i0 aj_d234 rfl (Nat.le_succ _) (fun _ => rfl) hlv30_3 ?_
            refine fx_cv aj_d234 rfl (Nat.le_succ _) rfl [_, _] rfl rfl (gx_218_ok (Int32.ofInt 5) x29) ?_
            rintro _ X35 ⟨w36, rfl, hR35⟩ hok35 hle35
            refine fx_qc hR35 ?_
            show fx_W _ _ _ 128 lv30 [] _ _
            exact (ih.2.1) lv30 (y1) (y2) (x29) X35  hlv30_0 hlv30_1 hlv30_2 hlv30_3
        · skip
          refine fx_qi (c := (y1).toInt < 0) (fx_f_ge q31) ?_
          show fx_W _ _ _ 104 lv30 [] _ _
          refine fx_i2 aj_d234 rfl (Nat.le_succ _) (fun _ => rfl) hlv30_0 ?_
          refine fx_n (pc' := 106) (lv' := lv30) (st' := [.int (Int32.ofInt 4), .ref 117]) aj_d234 rfl (Nat.le_succ _) (fun _ => rfl) ?_
          refine fx_i0 aj_d234 rfl (Nat.le_succ _) (fun _ => rfl) hlv30_3 ?_
          refine fx_cv aj_d234 rfl (Nat.le_succ _) rfl [_, _] rfl rfl (gx_218_ok (Int32.ofInt 4) x29) ?_
          rintro _ X37 ⟨w38, rfl, hR37⟩ hok37 hle37
          refine fx_qc hR37 ?_
          show fx_W _ _ _ 110 lv30 [] _ _
          refine fx_n (pc' := 128) (lv' := lv30) (st' := []) aj_d234 rfl (Nat.le_succ _) (fun _ => rfl) ?_
          exact (ih.2.1) lv30 (y1) (y2) (x29) X37  hlv30_0 hlv30_1 hlv30_2 hlv30_3
      · skip
        refine fx_qi (c := (w27).toInt = 0) (fx_f_ne q28) ?_
        show fx_W _ _ _ 93 lv [] _ _
        refine fx_n (pc' := 94) (lv' := lv) (st' := [.int (Int32.ofInt 0)]) aj_d234 rfl (Nat.le_succ _) (fun _ => rfl) ?_
        exact fx_ri aj_d234 rfl ⟨_, rfl, 0, rfl, rfl⟩
    · intro lv y1 y2 y3 X hlv_0 hlv_1 hlv_2 hlv_3
      refine fx_mono (Q := fx_Q fx_qI (fun v X' => ∃ n : Nat, gxT_234_128 (gxF_234 n) y1 y2 y3 X v X')) (fun r X' ⟨v, e, n, z⟩ => ⟨v, e, n + 1, gxI_234_128 z⟩) ?_
      unfold gxT_234_128
      refine fx_i2 aj_d234 rfl (Nat.le_refl _) (fun _ => rfl) hlv_0 ?_
      refine fx_n (pc' := 131) (lv' := lv) (st' := [.int ((Int8.ofInt 40).toInt32), .ref 117]) aj_d234 rfl (Nat.le_succ _) (fun _ => rfl) ?_
      refine fx_cv aj_d234 rfl (Nat.le_succ _) rfl [_] rfl rfl (gx_219_ok ((Int8.ofInt 40).toInt32)) ?_
      rintro _ X39 ⟨w40, rfl, hR39⟩ hok39 hle39
      refine fx_qc hR39 ?_
      show fx_W _ _ _ 134 lv [.int w40] _ _
      refine fx_b0 (tgt := 139) aj_d234 rfl (Nat.le_succ _) rfl (fun q41 => ?_) (fun q41 => ?_)
      · skip
        refine fx_qe (c := (w40).toInt = 0) (fx_t_ne q41) ?_
        show fx_W _ _ _ 139 lv [] _ _
        refine fx_n (pc' := 140) (lv' := lv) (st' := [.int (Int32.ofInt 0)]) aj_d234 rfl (Nat.le_succ _) (fun _ => rfl) ?_
        refine fx_s0 (j := 4) aj_d234 rfl (Nat.le_succ _) (by decide) (fun _ => rfl) ?_
        obtain ⟨lv42, elv42⟩ : ∃ l, l = aj_set1 lv 4 (.int (Int32.ofInt 0)) := ⟨_, rfl⟩
        rw [← elv42]
        have hlv42_0 : aj_lv lv42 0 = some (.ref 117) := fx_e1 elv42 hlv_0 (by decide) (Or.inl (by decide))
        have hlv42_1 : aj_lv lv42 1 = some (.int y1) := fx_e1 elv42 hlv_1 (by decide) (Or.inl (by decide))
        have hlv42_2 : aj_lv lv42 2 = some (.int y2) := fx_e1 elv42 hlv_2 (by decide) (Or.inl (by decide))
        have hlv42_3 : aj_lv lv42 3 = some (.int y3) := fx_e1 elv42 hlv_3 (by decide) (Or.inr rfl)
        have hlv42_4 : aj_lv lv42 4 = some (.int (Int32.ofInt 0)) := by rw [elv42]; exact ak_set1_eq _ _ _
        show fx_W _ _ _ 142 lv42 [] _ _
        refine fx_n (pc' := 143) (lv' := lv42) (st' := [.int (Int32.ofInt 1)]) aj_d234 rfl (Nat.le_succ _) (fun _ => rfl) ?_
        refine fx_s0 (j := 5) aj_d234 rfl (Nat.le_succ _) (by decide) (fun _ => rfl) ?_
        obtain ⟨lv43, elv43⟩ : ∃ l, l = aj_set1 lv42 5 (.int (Int32.ofInt 1)) := ⟨_, rfl⟩
        rw [← elv43]
        have hlv43_0 : aj_lv lv43 0 = some (.ref 117) := fx_e1 elv43 hlv42_0 (by decide) (Or.inl (by decide))
        have hlv43_1 : aj_lv lv43 1 = some (.int y1) := fx_e1 elv43 hlv42_1 (by decide) (Or.inl (by decide))
        have hlv43_2 : aj_lv lv43 2 = some (.int y2) := fx_e1 elv43 hlv42_2 (by decide) (Or.inl (by decide))
        have hlv43_3 : aj_lv lv43 3 = some (.int y3) := fx_e1 elv43 hlv42_3 (by decide) (Or.inl (by decide))
        have hlv43_4 : aj_lv lv43 4 = some (.int (Int32.ofInt 0)) := fx_e1 elv43 hlv42_4 (by decide) (Or.inr rfl)
        have hlv43_5 : aj_lv lv43 5 = some (.int (Int32.ofInt 1)) := by rw [elv43]; exact ak_set1_eq _ _ _
        show fx_W _ _ _ 145 lv43 [] _ _
        exact (ih.2.2.1) lv43 (y1) (y2) (y3) ((Int32.ofInt 0)) ((Int32.ofInt 1)) X39  hlv43_0 hlv43_1 hlv43_2 hlv43_3 hlv43_4 hlv43_5
      · skip
        refine fx_qi (c := (w40).toInt = 0) (fx_f_ne q41) ?_
        show fx_W _ _ _ 137 lv [] _ _
        refine fx_n (pc' := 138) (lv' := lv) (st' := [.int (Int32.ofInt 0)]) aj_d234 rfl (Nat.le_succ _) (fun _ => rfl) ?_
        exact fx_ri aj_d234 rfl ⟨_, rfl, 0, rfl, rfl⟩
    · intro lv y1 y2 y3 y4 y5 X hlv_0 hlv_1 hlv_2 hlv_3 hlv_4 hlv_5
      refine fx_mono (Q := fx_Q fx_qI (fun v X' => ∃ n : Nat, gxT_234_145 (gxF_234 n) y1 y2 y3 y4 y5 X v X')) (fun r X' ⟨v, e, n, z⟩ => ⟨v, e, n + 1, gxI_234_145 z⟩) ?_
      unfold gxT_234_145
      refine fx_i0 aj_d234 rfl (Nat.le_refl _) (fun _ => rfl) hlv_5 ?_
      refine fx_b0 (tgt := 270) aj_d234 rfl (Nat.le_succ _) rfl (fun q44 => ?_) (fun q44 => ?_)
      · skip
        refine fx_qi (c := (y5).toInt = 0) (fx_t_eq q44) ?_
        show fx_W _ _ _ 270 lv [] _ _
        refine fx_i2 aj_d234 rfl (Nat.le_succ _) (fun _ => rfl) hlv_0 ?_
        refine fx_n (pc' := 273) (lv' := lv) (st' := [.int ((Int8.ofInt 41).toInt32), .ref 117]) aj_d234 rfl (Nat.le_succ _) (fun _ => rfl) ?_
        refine fx_cv aj_d234 rfl (Nat.le_succ _) rfl [_] rfl rfl (gx_219_ok ((Int8.ofInt 41).toInt32)) ?_
        rintro _ X45 ⟨w46, rfl, hR45⟩ hok45 hle45
        refine fx_qc hR45 ?_
        show fx_W _ _ _ 276 lv [.int w46] _ _
        refine fx_b0 (tgt := 281) aj_d234 rfl (Nat.le_succ _) rfl (fun q47 => ?_) (fun q47 => ?_)
        · skip
          refine fx_qe (c := (w46).toInt = 0) (fx_t_ne q47) ?_
          show fx_W _ _ _ 281 lv [] _ _
          refine fx_i0 aj_d234 rfl (Nat.le_succ _) (fun _ => rfl) hlv_1 ?_
          refine fx_b0 (tgt := 311) aj_d234 rfl (Nat.le_succ _) rfl (fun q48 => ?_) (fun q48 => ?_)
          · skip
            refine fx_qi (c := (y1).toInt < 0) (fx_t_lt q48) ?_
            show fx_W _ _ _ 311 lv [] _ _
            exact (ih.2.2.2.2.1) lv (y1) (y2) X45  hlv_0 hlv_1 hlv_2
          · skip
            refine fx_qe (c := (y1).toInt < 0) (fx_f_lt q48) ?_
            show fx_W _ _ _ 285 lv [] _ _
            refine fx_i2 aj_d234 rfl (Nat.le_succ _) (fun _ => rfl) hlv_0 ?_
            refine fx_gF aj_d234 rfl (Nat.le_succ _) rfl rfl fx_in_11_9 (t := 126) rfl (fun hA49 => ?_)
            refine fx_i0 aj_d234 rfl (Nat.le_succ _) (fun _ => rfl) hlv_2 ?_
            refine fx_ld aj_d234 (Or.inr (Or.inr rfl)) rfl (Nat.le_succ _) (fun g500 g501 => ?_)
            show fx_W _ _ _ 291 lv [.int (X45.1 126 (y2).toInt.toNat)] _ _
            refine fx_qa (c := 0 ≤ (y2).toInt ∧ (y2).toInt < ((20 : Nat) : Int)) ⟨g500, fx_lnk g501 hA49⟩ ?_
            refine fx_b0 (tgt := 311) aj_d234 rfl (Nat.le_succ _) rfl (fun q51 => ?_) (fun q51 => ?_)
            · skip
              refine fx_qe (c := ((X45.1 126 (y2).toInt.toNat)).toInt = 0) (fx_t_ne q51) ?_
              show fx_W _ _ _ 311 lv [] _ _
              exact (ih.2.2.2.2.1) lv (y1) (y2) X45  hlv_0 hlv_1 hlv_2
            · skip
              refine fx_qi (c := ((X45.1 126 (y2).toInt.toNat)).toInt = 0) (fx_f_ne q51) ?_
              show fx_W _ _ _ 294 lv [] _ _
              refine fx_i0 aj_d234 rfl (Nat.le_succ _) (fun _ => rfl) hlv_4 ?_
              refine fx_i2 aj_d234 rfl (Nat.le_succ _) (fun _ => rfl) hlv_0 ?_
              refine fx_gF aj_d234 rfl (Nat.le_succ _) rfl rfl fx_in_11_16 (t := 132) rfl (fun hA52 => ?_)
              refine fx_i0 aj_d234 rfl (Nat.le_succ _) (fun _ => rfl) hlv_2 ?_
              refine fx_ld aj_d234 (Or.inl rfl) rfl (Nat.le_succ _) (fun g530 g531 => ?_)
              show fx_W _ _ _ 302 lv [.int (X45.1 132 (y2).toInt.toNat), .int y4] _ _
              refine fx_qa (c := 0 ≤ (y2).toInt ∧ (y2).toInt < ((50 : Nat) : Int)) ⟨g530, fx_lnk g531 hA52⟩ ?_
              refine fx_b (tgt := 311) aj_d234 rfl (Nat.le_succ _) rfl (fun q54 => ?_) (fun q54 => ?_)
              · skip
                refine fx_qi (c := (y4).toInt = ((X45.1 132 (y2).toInt.toNat)).toInt) (fx_t_eq q54) ?_
                show fx_W _ _ _ 311 lv [] _ _
                exact (ih.2.2.2.2.1) lv (y1) (y2) X45  hlv_0 hlv_1 hlv_2
              · skip
                refine fx_qe (c := (y4).toInt = ((X45.1 132 (y2).toInt.toNat)).toInt) (fx_f_eq q54) ?_
                show fx_W _ _ _ 305 lv [] _ _
                refine fx_i2 aj_d234 rfl (Nat.le_succ _) (fun _ => rfl) hlv_0 ?_
                refine fx_n (pc' := 307) (lv' := lv) (st' := [.int (Int32.ofInt 5), .ref 117]) aj_d234 rfl (Nat.le_succ _) (fun _ => rfl) ?_
                refine fx_i0 aj_d234 rfl (Nat.le_succ _) (fun _ => rfl) hlv_3 ?_
                refine fx_cv aj_d234 rfl (Nat.le_succ _) rfl [_, _] rfl rfl (gx_218_ok (Int32.ofInt 5) y3) ?_
                rintro _ X55 ⟨w56, rfl, hR55⟩ hok55 hle55
                refine fx_qc hR55 ?_
                show fx_W _ _ _ 311 lv [] _ _
                exact (ih.2.2.2.2.1) lv (y1) (y2) X55  hlv_0 hlv_1 hlv_2
        · skip
          refine fx_qi (c := (w46).toInt = 0) (fx_f_ne q47) ?_
          show fx_W _ _ _ 279 lv [] _ _
          refine fx_n (pc' := 280) (lv' := lv) (st' := [.int (Int32.ofInt 0)]) aj_d234 rfl (Nat.le_succ _) (fun _ => rfl) ?_
          exact fx_ri aj_d234 rfl ⟨_, rfl, 0, rfl, rfl⟩
      · skip
        refine fx_qe (c := (y5).toInt = 0) (fx_f_eq q44) ?_
        show fx_W _ _ _ 150 lv [] _ _
        refine fx_i2 aj_d234 rfl (Nat.le_succ _) (fun _ => rfl) hlv_0 ?_
        refine fx_gI aj_d234 rfl (Nat.le_succ _) rfl rfl (Or.inl rfl) ?_
        refine fx_n (pc' := 155) (lv' := lv) (st' := [.int (Int32.ofInt 2), .int (X.1 117 26)]) aj_d234 rfl (Nat.le_succ _) (fun _ => rfl) ?_
        refine fx_b (tgt := 186) aj_d234 rfl (Nat.le_succ _) rfl (fun q57 => ?_) (fun q57 => ?_)
        · skip
          refine fx_qi (c := ((X.1 117 26)).toInt = 2) (fx_t_eq q57) ?_
          show fx_W _ _ _ 186 lv [] _ _
          refine fx_i2 aj_d234 rfl (Nat.le_succ _) (fun _ => rfl) hlv_0 ?_
          refine fx_cv aj_d234 rfl (Nat.le_succ _) rfl [] rfl rfl (gx_235_ok) ?_
          rintro _ X58 ⟨w59, rfl, hR58⟩ hok58 hle58
          refine fx_qc hR58 ?_
          show fx_W _ _ _ 190 lv [.int w59] _ _
          refine fx_b0 (tgt := 195) aj_d234 rfl (Nat.le_succ _) rfl (fun q60 => ?_) (fun q60 => ?_)
          · skip
            refine fx_qe (c := (w59).toInt = 0) (fx_t_ne q60) ?_
            show fx_W _ _ _ 195 lv [] _ _
            refine fx_i2 aj_d234 rfl (Nat.le_succ _) (fun _ => rfl) hlv_0 ?_
            refine fx_gI aj_d234 rfl (Nat.le_succ _) rfl rfl (Or.inr (Or.inl rfl)) ?_
            refine fx_b0 (tgt := 245) aj_d234 rfl (Nat.le_succ _) rfl (fun q61 => ?_) (fun q61 => ?_)
            · skip
              refine fx_qi (c := ((X58.1 117 32)).toInt = 0) (fx_t_eq q61) ?_
              show fx_W _ _ _ 245 lv [] _ _
              exact (ih.2.2.2.1) lv (y1) (y2) (y3) (y4) X58  hlv_0 hlv_1 hlv_2 hlv_3 hlv_4
            · skip
              refine fx_qe (c := ((X58.1 117 32)).toInt = 0) (fx_f_eq q61) ?_
              show fx_W _ _ _ 202 lv [] _ _
              refine fx_i2 aj_d234 rfl (Nat.le_succ _) (fun _ => rfl) hlv_0 ?_
              refine fx_gF aj_d234 rfl (Nat.le_succ _) rfl rfl fx_in_11_18 (t := 134) rfl (fun hA62 => ?_)
              refine fx_i0 aj_d234 rfl (Nat.le_succ _) (fun _ => rfl) hlv_2 ?_
              refine fx_i2 aj_d234 rfl (Nat.le_succ _) (fun _ => rfl) hlv_0 ?_
              refine fx_gF aj_d234 rfl (Nat.le_succ _) rfl rfl fx_in_11_15 (t := 131) rfl (fun hA63 => ?_)
              refine fx_i0 aj_d234 rfl (Nat.le_succ _) (fun _ => rfl) hlv_2 ?_
              refine fx_ld aj_d234 (Or.inl rfl) rfl (Nat.le_succ _) (fun g640 g641 => ?_)
              show fx_W _ _ _ 213 lv [.int (X58.1 131 (y2).toInt.toNat), .int y2, .ref 134] _ _
              refine fx_qa (c := 0 ≤ (y2).toInt ∧ (y2).toInt < ((50 : Nat) : Int)) ⟨g640, fx_lnk g641 hA63⟩ ?_
              refine fx_i0 aj_d234 rfl (Nat.le_succ _) (fun _ => rfl) hlv_4 ?_
              refine fx_cs aj_d234 rfl (Nat.le_succ _) rfl rfl [_, _, _] rfl rfl (gx_236_ok y2 (X58.1 131 (y2).toInt.toNat) y4) ?_
              rintro _ X65 ⟨w66, rfl, hR65⟩ hok65 hle65
              refine fx_qc hR65 ?_
              show fx_W _ _ _ 218 lv [.int w66, .ref 134] _ _
              refine fx_i2 aj_d234 rfl (Nat.le_succ _) (fun _ => rfl) hlv_0 ?_
              refine fx_gI aj_d234 rfl (Nat.le_succ _) rfl rfl (Or.inl rfl) ?_
              refine fx_n (pc' := 223) (lv' := lv) (st' := [.int (((X65.1 117 38)).toInt8.toInt32), .int w66, .ref 134]) aj_d234 rfl (Nat.le_succ _) (fun _ => rfl) ?_
              refine fx_sb (kd := 4) aj_d234 rfl (Nat.le_succ _) ((hle65.2 _ (by rw [hA62]; decide)).trans hA62) (fun g670 g671 => ?_)
              refine fx_qa (c := 0 ≤ (w66).toInt ∧ (w66).toInt < ((12000 : Nat) : Int)) ⟨g670, fx_lnk g671 ((hle65.2 _ (by rw [hA62]; decide)).trans hA62)⟩ ?_
              refine fx_qX (fun X68 eX68 => ?_)
              show fx_W _ _ _ 224 lv [] _ _
              refine fx_i2 aj_d234 rfl (Nat.le_succ _) (fun _ => rfl) hlv_0 ?_
              refine fx_gF aj_d234 rfl (Nat.le_succ _) rfl rfl fx_in_11_19 (t := 135) rfl (fun hA69 => ?_)
              refine fx_i0 aj_d234 rfl (Nat.le_succ _) (fun _ => rfl) hlv_2 ?_
              refine fx_i2 aj_d234 rfl (Nat.le_succ _) (fun _ => rfl) hlv_0 ?_
              refine fx_gF aj_d234 rfl (Nat.le_succ _) rfl rfl fx_in_11_15 (t := 131) rfl (fun hA70 => ?_)
              refine fx_i0 aj_d234 rfl (Nat.le_succ _) (fun _ => rfl) hlv_2 ?_
              refine fx_ld aj_d234 (Or.inl rfl) rfl (Nat.le_succ _) (fun g710 g711 => ?_)
              show fx_W _ _ _ 235 lv [.int (X68.1 131 (y2).toInt.toNat), .int y2, .ref 135] _ _
              refine fx_qa (c := 0 ≤ (y2).toInt ∧ (y2).toInt < ((50 : Nat) : Int)) ⟨g710, fx_lnk g711 hA70⟩ ?_
              refine fx_i0 aj_d234 rfl (Nat.le_succ _) (fun _ => rfl) hlv_4 ?_
              refine fx_cs aj_d234 rfl (Nat.le_succ _) rfl rfl [_, _, _] rfl rfl (gx_236_ok y2 (X68.1 131 (y2).toInt.toNat) y4) ?_
              rintro _ X72 ⟨w73, rfl, hR72⟩ hok72 hle72
              refine fx_qc hR72 ?_
              show fx_W _ _ _ 240 lv [.int w73, .ref 135] _ _
              refine fx_i2 aj_d234 rfl (Nat.le_succ _) (fun _ => rfl) hlv_0 ?_
              refine fx_gI aj_d234 rfl (Nat.le_succ _) rfl rfl (Or.inl rfl) ?_
              refine fx_st aj_d234 (Or.inl ⟨rfl, rfl⟩) rfl (Nat.le_succ _) (fun g740 g741 => ?_)
              show fx_W _ _ _ _ _ _ (fx_wI X72 135 (w73).toInt.toNat (X72.1 117 39)) _
              refine fx_qa (c := 0 ≤ (w73).toInt ∧ (w73).toInt < ((12000 : Nat) : Int)) ⟨g740, fx_lnk g741 ((hle72.2 _ (by rw [hA69]; decide)).trans hA69)⟩ ?_
              refine fx_qX (fun X75 eX75 => ?_)
              show fx_W _ _ _ 245 lv [] _ _
              exact (ih.2.2.2.1) lv (y1) (y2) (y3) (y4) X75  hlv_0 hlv_1 hlv_2 hlv_3 hlv_4
          · skip
            refine fx_qi (c := (w59).toInt = 0) (fx_f_ne q60) ?_
            show fx_W _ _ _ 193 lv [] _ _
            refine fx_n (pc' := 194) (lv' := lv) (st' := [.int (Int32.ofInt 0)]) aj_d234 rfl (Nat.le_succ _) (fun _ => rfl) ?_
            exact fx_ri aj_d234 rfl ⟨_, rfl, 0, rfl, rfl⟩
        · skip
          refine fx_qe (c := ((X.1 117 26)).toInt = 2) (fx_f_eq q57) ?_
          show fx_W _ _ _ 158 lv [] _ _
          refine fx_i2 aj_d234 rfl (Nat.le_succ _) (fun _ => rfl) hlv_0 ?_
          refine fx_n (pc' := 161) (lv' := lv) (st' := [.int ((Int8.ofInt 45).toInt32), .ref 117]) aj_d234 rfl (Nat.le_succ _) (fun _ => rfl) ?_
          refine fx_cv aj_d234 rfl (Nat.le_succ _) rfl [_] rfl rfl (gx_220_ok ((Int8.ofInt 45).toInt32)) ?_
          rintro _ X76 ⟨w77, rfl, hR76⟩ hok76 hle76
          refine fx_qc hR76 ?_
          show fx_W _ _ _ 164 lv [.int w77] _ _
          refine fx_b0 (tgt := 186) aj_d234 rfl (Nat.le_succ _) rfl (fun q78 => ?_) (fun q78 => ?_)
          · skip
            refine fx_qe (c := (w77).toInt = 0) (fx_t_ne q78) ?_
            show fx_W _ _ _ 186 lv [] _ _
            refine fx_i2 aj_d234 rfl (Nat.le_succ _) (fun _ => rfl) hlv_0 ?_
            refine fx_cv aj_d234 rfl (Nat.le_succ _) rfl [] rfl rfl (gx_235_ok) ?_
            rintro _ X79 ⟨w80, rfl, hR79⟩ hok79 hle79
            refine fx_qc hR79 ?_
            show fx_W _ _ _ 190 lv [.int w80] _ _
            refine fx_b0 (tgt := 195) aj_d234 rfl (Nat.le_succ _) rfl (fun q81 => ?_) (fun q81 => ?_)
            · skip
              refine fx_qe (c := (w80).toInt = 0) (fx_t_ne q81) ?_
              show fx_W _ _ _ 195 lv [] _ _
              refine fx_i2 aj_d234 rfl (Nat.le_succ _) (fun _ => rfl) hlv_0 ?_
              refine fx_gI aj_d234 rfl (Nat.le_succ _) rfl rfl (Or.inr (Or.inl rfl)) ?_
              refine fx_b0 (tgt := 245) aj_d234 rfl (Nat.le_succ _) rfl (fun q82 => ?_) (fun q82 => ?_)
              · skip
                refine fx_qi (c := ((X79.1 117 32)).toInt = 0) (fx_t_eq q82) ?_
                show fx_W _ _ _ 245 lv [] _ _
                exact (ih.2.2.2.1) lv (y1) (y2) (y3) (y4) X79  hlv_0 hlv_1 hlv_2 hlv_3 hlv_4
              · skip
                refine fx_qe (c := ((X79.1 117 32)).toInt = 0) (fx_f_eq q82) ?_
                show fx_W _ _ _ 202 lv [] _ _
                refine fx_i2 aj_d234 rfl (Nat.le_succ _) (fun _ => rfl) hlv_0 ?_
                refine fx_gF aj_d234 rfl (Nat.le_succ _) rfl rfl fx_in_11_18 (t := 134) rfl (fun hA83 => ?_)
                refine fx_i0 aj_d234 rfl (Nat.le_succ _) (fun _ => rfl) hlv_2 ?_
                refine fx_i2 aj_d234 rfl (Nat.le_succ _) (fun _ => rfl) hlv_0 ?_
                refine fx_gF aj_d234 rfl (Nat.le_succ _) rfl rfl fx_in_11_15 (t := 131) rfl (fun hA84 => ?_)
                refine fx_i0 aj_d234 rfl (Nat.le_succ _) (fun _ => rfl) hlv_2 ?_
                refine fx_ld aj_d234 (Or.inl rfl) rfl (Nat.le_succ _) (fun g850 g851 => ?_)
                show fx_W _ _ _ 213 lv [.int (X79.1 131 (y2).toInt.toNat), .int y2, .ref 134] _ _
                refine fx_qa (c := 0 ≤ (y2).toInt ∧ (y2).toInt < ((50 : Nat) : Int)) ⟨g850, fx_lnk g851 hA84⟩ ?_
                refine fx_i0 aj_d234 rfl (Nat.le_succ _) (fun _ => rfl) hlv_4 ?_
                refine fx_cs aj_d234 rfl (Nat.le_succ _) rfl rfl [_, _, _] rfl rfl (gx_236_ok y2 (X79.1 131 (y2).toInt.toNat) y4) ?_
                rintro _ X86 ⟨w87, rfl, hR86⟩ hok86 hle86
                refine fx_qc hR86 ?_
                show fx_W _ _ _ 218 lv [.int w87, .ref 134] _ _
                refine fx_i2 aj_d234 rfl (Nat.le_succ _) (fun _ => rfl) hlv_0 ?_
                refine fx_gI aj_d234 rfl (Nat.le_succ _) rfl rfl (Or.inl rfl) ?_
                refine fx_n (pc' := 223) (lv' := lv) (st' := [.int (((X86.1 117 38)).toInt8.toInt32), .int w87, .ref 134]) aj_d234 rfl (Nat.le_succ _) (fun _ => rfl) ?_
                refine fx_sb (kd := 4) aj_d234 rfl (Nat.le_succ _) ((hle86.2 _ (by rw [hA83]; decide)).trans hA83) (fun g880 g881 => ?_)
                refine fx_qa (c := 0 ≤ (w87).toInt ∧ (w87).toInt < ((12000 : Nat) : Int)) ⟨g880, fx_lnk g881 ((hle86.2 _ (by rw [hA83]; decide)).trans hA83)⟩ ?_
                refine fx_qX (fun X89 eX89 => ?_)
                show fx_W _ _ _ 224 lv [] _ _
                refine fx_i2 aj_d234 rfl (Nat.le_succ _) (fun _ => rfl) hlv_0 ?_
                refine fx_gF aj_d234 rfl (Nat.le_succ _) rfl rfl fx_in_11_19 (t := 135) rfl (fun hA90 => ?_)
                refine fx_i0 aj_d234 rfl (Nat.le_succ _) (fun _ => rfl) hlv_2 ?_
                refine fx_i2 aj_d234 rfl (Nat.le_succ _) (fun _ => rfl) hlv_0 ?_
                refine fx_gF aj_d234 rfl (Nat.le_succ _) rfl rfl fx_in_11_15 (t := 131) rfl (fun hA91 => ?_)
                refine fx_i0 aj_d234 rfl (Nat.le_succ _) (fun _ => rfl) hlv_2 ?_
                refine fx_ld aj_d234 (Or.inl rfl) rfl (Nat.le_succ _) (fun g920 g921 => ?_)
                show fx_W _ _ _ 235 lv [.int (X89.1 131 (y2).toInt.toNat), .int y2, .ref 135] _ _
                refine fx_qa (c := 0 ≤ (y2).toInt ∧ (y2).toInt < ((50 : Nat) : Int)) ⟨g920, fx_lnk g921 hA91⟩ ?_
                refine fx_i0 aj_d234 rfl (Nat.le_succ _) (fun _ => rfl) hlv_4 ?_
                refine fx_cs aj_d234 rfl (Nat.le_succ _) rfl rfl [_, _, _] rfl rfl (gx_236_ok y2 (X89.1 131 (y2).toInt.toNat) y4) ?_
                rintro _ X93 ⟨w94, rfl, hR93⟩ hok93 hle93
                refine fx_qc hR93 ?_
                show fx_W _ _ _ 240 lv [.int w94, .ref 135] _ _
                refine fx_i2 aj_d234 rfl (Nat.le_succ _) (fun _ => rfl) hlv_0 ?_
                refine fx_gI aj_d234 rfl (Nat.le_succ _) rfl rfl (Or.inl rfl) ?_
                refine fx_st aj_d234 (Or.inl ⟨rfl, rfl⟩) rfl (Nat.le_succ _) (fun g950 g951 => ?_)
                show fx_W _ _ _ _ _ _ (fx_wI X93 135 (w94).toInt.toNat (X93.1 117 39)) _
                refine fx_qa (c := 0 ≤ (w94).toInt ∧ (w94).toInt < ((12000 : Nat) : Int)) ⟨g950, fx_lnk g951 ((hle93.2 _ (by rw [hA90]; decide)).trans hA90)⟩ ?_
                refine fx_qX (fun X96 eX96 => ?_)
                show fx_W _ _ _ 245 lv [] _ _
                exact (ih.2.2.2.1) lv (y1) (y2) (y3) (y4) X96  hlv_0 hlv_1 hlv_2 hlv_3 hlv_4
            · skip
              refine fx_qi (c := (w80).toInt = 0) (fx_f_ne q81) ?_
              show fx_W _ _ _ 193 lv [] _ _
              refine fx_n (pc' := 194) (lv' := lv) (st' := [.int (Int32.ofInt 0)]) aj_d234 rfl (Nat.le_succ _) (fun _ => rfl) ?_
              exact fx_ri aj_d234 rfl ⟨_, rfl, 0, rfl, rfl⟩
          · skip
            refine fx_qi (c := (w77).toInt = 0) (fx_f_ne q78) ?_
            show fx_W _ _ _ 167 lv [] _ _
            refine fx_i2 aj_d234 rfl (Nat.le_succ _) (fun _ => rfl) hlv_0 ?_
            refine fx_n (pc' := 170) (lv' := lv) (st' := [.int ((Int8.ofInt 63).toInt32), .ref 117]) aj_d234 rfl (Nat.le_succ _) (fun _ => rfl) ?_
            refine fx_cv aj_d234 rfl (Nat.le_succ _) rfl [_] rfl rfl (gx_220_ok ((Int8.ofInt 63).toInt32)) ?_
            rintro _ X97 ⟨w98, rfl, hR97⟩ hok97 hle97
            refine fx_qc hR97 ?_
            show fx_W _ _ _ 173 lv [.int w98] _ _
            refine fx_b0 (tgt := 186) aj_d234 rfl (Nat.le_succ _) rfl (fun q99 => ?_) (fun q99 => ?_)
            · skip
              refine fx_qe (c := (w98).toInt = 0) (fx_t_ne q99) ?_
              show fx_W _ _ _ 186 lv [] _ _
              refine fx_i2 aj_d234 rfl (Nat.le_succ _) (fun _ => rfl) hlv_0 ?_
              refine fx_cv aj_d234 rfl (Nat.le_succ _) rfl [] rfl rfl (gx_235_ok) ?_
              rintro _ X100 ⟨w101, rfl, hR100⟩ hok100 hle100
              refine fx_qc hR100 ?_
              show fx_W _ _ _ 190 lv [.int w101] _ _
              refine fx_b0 (tgt := 195) aj_d234 rfl (Nat.le_succ _) rfl (fun q102 => ?_) (fun q102 => ?_)
              · skip
                refine fx_qe (c := (w101).toInt = 0) (fx_t_ne q102) ?_
                show fx_W _ _ _ 195 lv [] _ _
                refine fx_i2 aj_d234 rfl (Nat.le_succ _) (fun _ => rfl) hlv_0 ?_
                refine fx_gI aj_d234 rfl (Nat.le_succ _) rfl rfl (Or.inr (Or.inl rfl)) ?_
                refine fx_b0 (tgt := 245) aj_d234 rfl (Nat.le_succ _) rfl (fun q103 => ?_) (fun q103 => ?_)
                · skip
                  refine fx_qi (c := ((X100.1 117 32)).toInt = 0) (fx_t_eq q103) ?_
                  show fx_W _ _ _ 245 lv [] _ _
                  exact (ih.2.2.2.1) lv (y1) (y2) (y3) (y4) X100  hlv_0 hlv_1 hlv_2 hlv_3 hlv_4
                · skip
                  refine fx_qe (c := ((X100.1 117 32)).toInt = 0) (fx_f_eq q103) ?_
                  show fx_W _ _ _ 202 lv [] _ _
                  refine fx_i2 aj_d234 rfl (Nat.le_succ _) (fun _ => rfl) hlv_0 ?_
                  refine fx_gF aj_d234 rfl (Nat.le_succ _) rfl rfl fx_in_11_18 (t := 134) rfl (fun hA104 => ?_)
                  refine fx_i0 aj_d234 rfl (Nat.le_succ _) (fun _ => rfl) hlv_2 ?_
                  refine fx_i2 aj_d234 rfl (Nat.le_succ _) (fun _ => rfl) hlv_0 ?_
                  refine fx_gF aj_d234 rfl (Nat.le_succ _) rfl rfl fx_in_11_15 (t := 131) rfl (fun hA105 => ?_)
                  refine fx_i0 aj_d234 rfl (Nat.le_succ _) (fun _ => rfl) hlv_2 ?_
                  refine fx_ld aj_d234 (Or.inl rfl) rfl (Nat.le_succ _) (fun g1060 g1061 => ?_)
                  show fx_W _ _ _ 213 lv [.int (X100.1 131 (y2).toInt.toNat), .int y2, .ref 134] _ _
                  refine fx_qa (c := 0 ≤ (y2).toInt ∧ (y2).toInt < ((50 : Nat) : Int)) ⟨g1060, fx_lnk g1061 hA105⟩ ?_
                  refine fx_i0 aj_d234 rfl (Nat.le_succ _) (fun _ => rfl) hlv_4 ?_
                  refine fx_cs aj_d234 rfl (Nat.le_succ _) rfl rfl [_, _, _] rfl rfl (gx_236_ok y2 (X100.1 131 (y2).toInt.toNat) y4) ?_
                  rintro _ X107 ⟨w108, rfl, hR107⟩ hok107 hle107
                  refine fx_qc hR107 ?_
                  show fx_W _ _ _ 218 lv [.int w108, .ref 134] _ _
                  refine fx_i2 aj_d234 rfl (Nat.le_succ _) (fun _ => rfl) hlv_0 ?_
                  refine fx_gI aj_d234 rfl (Nat.le_succ _) rfl rfl (Or.inl rfl) ?_
                  refine fx_n (pc' := 223) (lv' := lv) (st' := [.int (((X107.1 117 38)).toInt8.toInt32), .int w108, .ref 134]) aj_d234 rfl (Nat.le_succ _) (fun _ => rfl) ?_
                  refine fx_sb (kd := 4) aj_d234 rfl (Nat.le_succ _) ((hle107.2 _ (by rw [hA104]; decide)).trans hA104) (fun g1090 g1091 => ?_)
                  refine fx_qa (c := 0 ≤ (w108).toInt ∧ (w108).toInt < ((12000 : Nat) : Int)) ⟨g1090, fx_lnk g1091 ((hle107.2 _ (by rw [hA104]; decide)).trans hA104)⟩ ?_
                  refine fx_qX (fun X110 eX110 => ?_)
                  show fx_W _ _ _ 224 lv [] _ _
                  refine fx_i2 aj_d234 rfl (Nat.le_succ _) (fun _ => rfl) hlv_0 ?_
                  refine fx_gF aj_d234 rfl (Nat.le_succ _) rfl rfl fx_in_11_19 (t := 135) rfl (fun hA111 => ?_)
                  refine fx_i0 aj_d234 rfl (Nat.le_succ _) (fun _ => rfl) hlv_2 ?_
                  refine fx_i2 aj_d234 rfl (Nat.le_succ _) (fun _ => rfl) hlv_0 ?_
                  refine fx_gF aj_d234 rfl (Nat.le_succ _) rfl rfl fx_in_11_15 (t := 131) rfl (fun hA112 => ?_)
                  refine fx_i0 aj_d234 rfl (Nat.le_succ _) (fun _ => rfl) hlv_2 ?_
                  refine fx_ld aj_d234 (Or.inl rfl) rfl (Nat.le_succ _) (fun g1130 g1131 => ?_)
                  show fx_W _ _ _ 235 lv [.int (X110.1 131 (y2).toInt.toNat), .int y2, .ref 135] _ _
                  refine fx_qa (c := 0 ≤ (y2).toInt ∧ (y2).toInt < ((50 : Nat) : Int)) ⟨g1130, fx_lnk g1131 hA112⟩ ?_
                  refine fx_i0 aj_d234 rfl (Nat.le_succ _) (fun _ => rfl) hlv_4 ?_
                  refine fx_cs aj_d234 rfl (Nat.le_succ _) rfl rfl [_, _, _] rfl rfl (gx_236_ok y2 (X110.1 131 (y2).toInt.toNat) y4) ?_
                  rintro _ X114 ⟨w115, rfl, hR114⟩ hok114 hle114
                  refine fx_qc hR114 ?_
                  show fx_W _ _ _ 240 lv [.int w115, .ref 135] _ _
                  refine fx_i2 aj_d234 rfl (Nat.le_succ _) (fun _ => rfl) hlv_0 ?_
                  refine fx_gI aj_d234 rfl (Nat.le_succ _) rfl rfl (Or.inl rfl) ?_
                  refine fx_st aj_d234 (Or.inl ⟨rfl, rfl⟩) rfl (Nat.le_succ _) (fun g1160 g1161 => ?_)
                  show fx_W _ _ _ _ _ _ (fx_wI X114 135 (w115).toInt.toNat (X114.1 117 39)) _
                  refine fx_qa (c := 0 ≤ (w115).toInt ∧ (w115).toInt < ((12000 : Nat) : Int)) ⟨g1160, fx_lnk g1161 ((hle114.2 _ (by rw [hA111]; decide)).trans hA111)⟩ ?_
                  refine fx_qX (fun X117 eX117 => ?_)
                  show fx_W _ _ _ 245 lv [] _ _
                  exact (ih.2.2.2.1) lv (y1) (y2) (y3) (y4) X117  hlv_0 hlv_1 hlv_2 hlv_3 hlv_4
              · skip
                refine fx_qi (c := (w101).toInt = 0) (fx_f_ne q102) ?_
                show fx_W _ _ _ 193 lv [] _ _
                refine fx_n (pc' := 194) (lv' := lv) (st' := [.int (Int32.ofInt 0)]) aj_d234 rfl (Nat.le_succ _) (fun _ => rfl) ?_
                exact fx_ri aj_d234 rfl ⟨_, rfl, 0, rfl, rfl⟩
            · skip
              refine fx_qi (c := (w98).toInt = 0) (fx_f_ne q99) ?_
              show fx_W _ _ _ 176 lv [] _ _
              refine fx_i2 aj_d234 rfl (Nat.le_succ _) (fun _ => rfl) hlv_0 ?_
              refine fx_n (pc' := 178) (lv' := lv) (st' := [.int (Int32.ofInt 1), .ref 117]) aj_d234 rfl (Nat.le_succ _) (fun _ => rfl) ?_
              refine fx_i2 aj_d234 rfl (Nat.le_succ _) (fun _ => rfl) hlv_0 ?_
              refine fx_gI aj_d234 rfl (Nat.le_succ _) rfl rfl (Or.inl rfl) ?_
              refine fx_cv aj_d234 rfl (Nat.le_succ _) rfl [_, _] rfl rfl (gx_215_ok (Int32.ofInt 1) (X97.1 117 27)) ?_
              rintro _ X118 ⟨w119, rfl, hR118⟩ hok118 hle118
              refine fx_qc hR118 ?_
              show fx_W _ _ _ 185 lv [.int w119] _ _
              exact fx_ri aj_d234 rfl ⟨_, rfl, 0, rfl, rfl⟩
    · intro lv y1 y2 y3 y4 X hlv_0 hlv_1 hlv_2 hlv_3 hlv_4
      refine fx_mono (Q := fx_Q fx_qI (fun v X' => ∃ n : Nat, gxT_234_245 (gxF_234 n) y1 y2 y3 y4 X v X')) (fun r X' ⟨v, e, n, z⟩ => ⟨v, e, n + 1, gxI_234_245 z⟩) ?_
      unfold gxT_234_245
      refine fx_incq aj_d234 rfl (Nat.le_refl _) hlv_4 (by decide) (fun x130 ex130 => ?_)
      obtain ⟨lv131, elv131⟩ : ∃ l, l = aj_set1 lv 4 (.int x130) := ⟨_, rfl⟩
      rw [← elv131]
      have hlv131_0 : aj_lv lv131 0 = some (.ref 117) := fx_e1 elv131 hlv_0 (by decide) (Or.inl (by decide))
      have hlv131_1 : aj_lv lv131 1 = some (.int y1) := fx_e1 elv131 hlv_1 (by decide) (Or.inl (by decide))
      have hlv131_2 : aj_lv lv131 2 = some (.int y2) := fx_e1 elv131 hlv_2 (by decide) (Or.inl (by decide))
      have hlv131_3 : aj_lv lv131 3 = some (.int y3) := fx_e1 elv131 hlv_3 (by decide) (Or.inr rfl)
      have hlv131_4 : aj_lv lv131 4 = some (.int x130) := by rw [elv131]; exact ak_set1_eq _ _ _
      show fx_W _ _ _ 248 lv131 [] _ _
      refine fx_i2 aj_d234 rfl (Nat.le_succ _) (fun _ => rfl) hlv131_0 ?_
      refine fx_n (pc' := 251) (lv' := lv131) (st' := [.int ((Int8.ofInt 44).toInt32), .ref 117]) aj_d234 rfl (Nat.le_succ _) (fun _ => rfl) ?_
      refine fx_cv aj_d234 rfl (Nat.le_succ _) rfl [_] rfl rfl (gx_220_ok ((Int8.ofInt 44).toInt32)) ?_
      rintro _ X132 ⟨w133, rfl, hR132⟩ hok132 hle132
      refine fx_qc hR132 ?_
      show fx_W _ _ _ 254 lv131 [.int w133] _ _
      refine fx_s0 (j := 5) aj_d234 rfl (Nat.le_succ _) (by decide) (fun _ => rfl) ?_
      obtain ⟨lv134, elv134⟩ : ∃ l, l = aj_set1 lv131 5 (.int w133) := ⟨_, rfl⟩
      rw [← elv134]
      have hlv134_0 : aj_lv lv134 0 = some (.ref 117) := fx_e1 elv134 hlv131_0 (by decide) (Or.inl (by decide))
      have hlv134_1 : aj_lv lv134 1 = some (.int y1) := fx_e1 elv134 hlv131_1 (by decide) (Or.inl (by decide))
      have hlv134_2 : aj_lv lv134 2 = some (.int y2) := fx_e1 elv134 hlv131_2 (by decide) (Or.inl (by decide))
      have hlv134_3 : aj_lv lv134 3 = some (.int y3) := fx_e1 elv134 hlv131_3 (by decide) (Or.inl (by decide))
      have hlv134_4 : aj_lv lv134 4 = some (.int x130) := fx_e1 elv134 hlv131_4 (by decide) (Or.inr rfl)
      have hlv134_5 : aj_lv lv134 5 = some (.int w133) := by rw [elv134]; exact ak_set1_eq _ _ _
      show fx_W _ _ _ 256 lv134 [] _ _
      refine fx_i0 aj_d234 rfl (Nat.le_succ _) (fun _ => rfl) hlv134_5 ?_
      refine fx_b0 (tgt := 145) aj_d234 rfl (Nat.le_succ _) rfl (fun q135 => ?_) (fun q135 => ?_)
      · skip
        refine fx_qi (c := (w133).toInt = 0) (fx_t_eq q135) ?_
        show fx_W _ _ _ 145 lv134 [] _ _
        exact (ih.2.2.1) lv134 (y1) (y2) (y3) (x130) (w133) X132  hlv134_0 hlv134_1 hlv134_2 hlv134_3 hlv134_4 hlv134_5
      · skip
        refine fx_qe (c := (w133).toInt = 0) (fx_f_eq q135) ?_
        show fx_W _ _ _ 261 lv134 [] _ _
        refine fx_i2 aj_d234 rfl (Nat.le_succ _) (fun _ => rfl) hlv134_0 ?_
        refine fx_cv aj_d234 rfl (Nat.le_succ _) rfl [] rfl rfl (gx_214_ok) ?_
        rintro _ X136 ⟨w137, rfl, hR136⟩ hok136 hle136
        refine fx_qc hR136 ?_
        show fx_W _ _ _ 265 lv134 [.int w137] _ _
        refine fx_b0 (tgt := 145) aj_d234 rfl (Nat.le_succ _) rfl (fun q138 => ?_) (fun q138 => ?_)
        · skip
          refine fx_qe (c := (w137).toInt = 0) (fx_t_ne q138) ?_
          show fx_W _ _ _ 145 lv134 [] _ _
          exact (ih.2.2.1) lv134 (y1) (y2) (y3) (x130) (w133) X136  hlv134_0 hlv134_1 hlv134_2 hlv134_3 hlv134_4 hlv134_5
        · skip
          refine fx_qi (c := (w137).toInt = 0) (fx_f_ne q138) ?_
          show fx_W _ _ _ 268 lv134 [] _ _
          refine fx_n (pc' := 269) (lv' := lv134) (st' := [.int (Int32.ofInt 0)]) aj_d234 rfl (Nat.le_succ _) (fun _ => rfl) ?_
          exact fx_ri aj_d234 rfl ⟨_, rfl, 0, rfl, rfl⟩
    · intro lv y1 y2 X hlv_0 hlv_1 hlv_2
      refine fx_mono (Q := fx_Q fx_qI (fun v X' => ∃ n : Nat, gxT_234_311 (gxF_234 n) y1 y2 X v X')) (fun r X' ⟨v, e, n, z⟩ => ⟨v, e, n + 1, gxI_234_311 z⟩) ?_
      unfold gxT_234_311
      refine fx_i2 aj_d234 rfl (Nat.le_refl _) (fun _ => rfl) hlv_0 ?_
      refine fx_n (pc' := 313) (lv' := lv) (st' := [.int (Int32.ofInt 3), .ref 117]) aj_d234 rfl (Nat.le_succ _) (fun _ => rfl) ?_
      refine fx_cv aj_d234 rfl (Nat.le_succ _) rfl [_] rfl rfl (gx_212_ok (Int32.ofInt 3)) ?_
      rintro _ X120 ⟨w121, rfl, hR120⟩ hok120 hle120
      refine fx_qc hR120 ?_
      show fx_W _ _ _ 316 lv [.int w121] _ _
      refine fx_s0 (j := 6) aj_d234 rfl (Nat.le_succ _) (by decide) (fun _ => rfl) ?_
      obtain ⟨lv122, elv122⟩ : ∃ l, l = aj_set1 lv 6 (.int w121) := ⟨_, rfl⟩
      rw [← elv122]
      have hlv122_0 : aj_lv lv122 0 = some (.ref 117) := fx_e1 elv122 hlv_0 (by decide) (Or.inl (by decide))
      have hlv122_1 : aj_lv lv122 1 = some (.int y1) := fx_e1 elv122 hlv_1 (by decide) (Or.inl (by decide))
      have hlv122_2 : aj_lv lv122 2 = some (.int y2) := fx_e1 elv122 hlv_2 (by decide) (Or.inl (by decide))
      have hlv122_6 : aj_lv lv122 6 = some (.int w121) := by rw [elv122]; exact ak_set1_eq _ _ _
      show fx_W _ _ _ 318 lv122 [] _ _
      refine fx_i0 aj_d234 rfl (Nat.le_succ _) (fun _ => rfl) hlv122_6 ?_
      refine fx_b0 (tgt := 339) aj_d234 rfl (Nat.le_succ _) rfl (fun q123 => ?_) (fun q123 => ?_)
      · skip
        refine fx_qi (c := (w121).toInt = 0) (fx_t_eq q123) ?_
        show fx_W _ _ _ 339 lv122 [] _ _
        exact (ih.2.2.2.2.2.1) lv122 (y1) (y2) (w121) X120  hlv122_0 hlv122_1 hlv122_2 hlv122_6
      · skip
        refine fx_qe (c := (w121).toInt = 0) (fx_f_eq q123) ?_
        show fx_W _ _ _ 323 lv122 [] _ _
        refine fx_i2 aj_d234 rfl (Nat.le_succ _) (fun _ => rfl) hlv122_0 ?_
        refine fx_cv aj_d234 rfl (Nat.le_succ _) rfl [] rfl rfl (gx_214_ok) ?_
        rintro _ X124 ⟨w125, rfl, hR124⟩ hok124 hle124
        refine fx_qc hR124 ?_
        show fx_W _ _ _ 327 lv122 [.int w125] _ _
        refine fx_b0 (tgt := 337) aj_d234 rfl (Nat.le_succ _) rfl (fun q126 => ?_) (fun q126 => ?_)
        · skip
          refine fx_qi (c := (w125).toInt = 0) (fx_t_eq q126) ?_
          show fx_W _ _ _ 337 lv122 [] _ _
          refine fx_n (pc' := 338) (lv' := lv122) (st' := [.int (Int32.ofInt 0)]) aj_d234 rfl (Nat.le_succ _) (fun _ => rfl) ?_
          exact fx_ri aj_d234 rfl ⟨_, rfl, 0, rfl, rfl⟩
        · skip
          refine fx_qe (c := (w125).toInt = 0) (fx_f_eq q126) ?_
          show fx_W _ _ _ 330 lv122 [] _ _
          refine fx_i2 aj_d234 rfl (Nat.le_succ _) (fun _ => rfl) hlv122_0 ?_
          refine fx_cv aj_d234 rfl (Nat.le_succ _) rfl [] rfl rfl (gx_237_ok) ?_
          rintro _ X127 ⟨w128, rfl, hR127⟩ hok127 hle127
          refine fx_qc hR127 ?_
          show fx_W _ _ _ 334 lv122 [.int w128] _ _
          refine fx_b0 (tgt := 339) aj_d234 rfl (Nat.le_succ _) rfl (fun q129 => ?_) (fun q129 => ?_)
          · skip
            refine fx_qe (c := (w128).toInt = 0) (fx_t_ne q129) ?_
            show fx_W _ _ _ 339 lv122 [] _ _
            exact (ih.2.2.2.2.2.1) lv122 (y1) (y2) (w121) X127  hlv122_0 hlv122_1 hlv122_2 hlv122_6
          · skip
            refine fx_qi (c := (w128).toInt = 0) (fx_f_ne q129) ?_
            show fx_W _ _ _ 337 lv122 [] _ _
            refine fx_n (pc' := 338) (lv' := lv122) (st' := [.int (Int32.ofInt 0)]) aj_d234 rfl (Nat.le_succ _) (fun _ => rfl) ?_
            exact fx_ri aj_d234 rfl ⟨_, rfl, 0, rfl, rfl⟩
    · intro lv y1 y2 y6 X hlv_0 hlv_1 hlv_2 hlv_6
      refine fx_mono (Q := fx_Q fx_qI (fun v X' => ∃ n : Nat, gxT_234_339 (gxF_234 n) y1 y2 y6 X v X')) (fun r X' ⟨v, e, n, z⟩ => ⟨v, e, n + 1, gxI_234_339 z⟩) ?_
      unfold gxT_234_339
      refine fx_i2 aj_d234 rfl (Nat.le_refl _) (fun _ => rfl) hlv_0 ?_
      refine fx_n (pc' := 342) (lv' := lv) (st' := [.int ((Int8.ofInt 59).toInt32), .ref 117]) aj_d234 rfl (Nat.le_succ _) (fun _ => rfl) ?_
      refine fx_cv aj_d234 rfl (Nat.le_succ _) rfl [_] rfl rfl (gx_219_ok ((Int8.ofInt 59).toInt32)) ?_
      rintro _ X139 ⟨w140, rfl, hR139⟩ hok139 hle139
      refine fx_qc hR139 ?_
      show fx_W _ _ _ 345 lv [.int w140] _ _
      refine fx_b0 (tgt := 350) aj_d234 rfl (Nat.le_succ _) rfl (fun q141 => ?_) (fun q141 => ?_)
      · skip
        refine fx_qe (c := (w140).toInt = 0) (fx_t_ne q141) ?_
        show fx_W _ _ _ 350 lv [] _ _
        refine fx_n (pc' := 351) (lv' := lv) (st' := [.int (Int32.ofInt 0)]) aj_d234 rfl (Nat.le_succ _) (fun _ => rfl) ?_
        refine fx_s0 (j := 7) aj_d234 rfl (Nat.le_succ _) (by decide) (fun _ => rfl) ?_
        obtain ⟨lv142, elv142⟩ : ∃ l, l = aj_set1 lv 7 (.int (Int32.ofInt 0)) := ⟨_, rfl⟩
        rw [← elv142]
        have hlv142_0 : aj_lv lv142 0 = some (.ref 117) := fx_e1 elv142 hlv_0 (by decide) (Or.inl (by decide))
        have hlv142_1 : aj_lv lv142 1 = some (.int y1) := fx_e1 elv142 hlv_1 (by decide) (Or.inl (by decide))
        have hlv142_2 : aj_lv lv142 2 = some (.int y2) := fx_e1 elv142 hlv_2 (by decide) (Or.inl (by decide))
        have hlv142_6 : aj_lv lv142 6 = some (.int y6) := fx_e1 elv142 hlv_6 (by decide) (Or.inr rfl)
        have hlv142_7 : aj_lv lv142 7 = some (.int (Int32.ofInt 0)) := by rw [elv142]; exact ak_set1_eq _ _ _
        show fx_W _ _ _ 353 lv142 [] _ _
        exact (ih.2.2.2.2.2.2.1) lv142 (y1) (y2) (y6) ((Int32.ofInt 0)) X139  hlv142_0 hlv142_1 hlv142_2 hlv142_6 hlv142_7
      · skip
        refine fx_qi (c := (w140).toInt = 0) (fx_f_ne q141) ?_
        show fx_W _ _ _ 348 lv [] _ _
        refine fx_n (pc' := 349) (lv' := lv) (st' := [.int (Int32.ofInt 0)]) aj_d234 rfl (Nat.le_succ _) (fun _ => rfl) ?_
        exact fx_ri aj_d234 rfl ⟨_, rfl, 0, rfl, rfl⟩
    · intro lv y1 y2 y6 y7 X hlv_0 hlv_1 hlv_2 hlv_6 hlv_7
      refine fx_mono (Q := fx_Q fx_qI (fun v X' => ∃ n : Nat, gxT_234_353 (gxF_234 n) y1 y2 y6 y7 X v X')) (fun r X' ⟨v, e, n, z⟩ => ⟨v, e, n + 1, gxI_234_353 z⟩) ?_
      unfold gxT_234_353
      refine fx_i2 aj_d234 rfl (Nat.le_refl _) (fun _ => rfl) hlv_0 ?_
      refine fx_gI aj_d234 rfl (Nat.le_succ _) rfl rfl (Or.inr (Or.inl rfl)) ?_
      refine fx_b0 (tgt := 423) aj_d234 rfl (Nat.le_succ _) rfl (fun q143 => ?_) (fun q143 => ?_)
      · skip
        refine fx_qi (c := ((X.1 117 32)).toInt = 0) (fx_t_eq q143) ?_
        show fx_W _ _ _ 423 lv [] _ _
        exact (ih.2.2.2.2.2.2.2) lv (y1) (y2) X  hlv_0 hlv_1 hlv_2
      · skip
        refine fx_qe (c := ((X.1 117 32)).toInt = 0) (fx_f_eq q143) ?_
        show fx_W _ _ _ 360 lv [] _ _
        refine fx_i0 aj_d234 rfl (Nat.le_succ _) (fun _ => rfl) hlv_7 ?_
        refine fx_i2 aj_d234 rfl (Nat.le_succ _) (fun _ => rfl) hlv_0 ?_
        refine fx_gF aj_d234 rfl (Nat.le_succ _) rfl rfl fx_in_11_5 (t := 122) rfl (fun hA144 => ?_)
        refine fx_i2 aj_d234 rfl (Nat.le_succ _) (fun _ => rfl) hlv_0 ?_
        refine fx_gI aj_d234 rfl (Nat.le_succ _) rfl rfl (Or.inl rfl) ?_
        refine fx_ld aj_d234 (Or.inl rfl) rfl (Nat.le_succ _) (fun g1450 g1451 => ?_)
        show fx_W _ _ _ 371 lv [.int (X.1 122 ((X.1 117 37)).toInt.toNat), .int y7] _ _
        refine fx_qa (c := 0 ≤ ((X.1 117 37)).toInt ∧ ((X.1 117 37)).toInt < ((2 : Nat) : Int)) ⟨g1450, fx_lnk g1451 hA144⟩ ?_
        refine fx_b (tgt := 423) aj_d234 rfl (Nat.le_succ _) rfl (fun q146 => ?_) (fun q146 => ?_)
        · skip
          refine fx_qe (c := (y7).toInt < ((X.1 122 ((X.1 117 37)).toInt.toNat)).toInt) (fx_t_ge q146) ?_
          show fx_W _ _ _ 423 lv [] _ _
          exact (ih.2.2.2.2.2.2.2) lv (y1) (y2) X  hlv_0 hlv_1 hlv_2
        · skip
          refine fx_qi (c := (y7).toInt < ((X.1 122 ((X.1 117 37)).toInt.toNat)).toInt) (fx_f_ge q146) ?_
          show fx_W _ _ _ 374 lv [] _ _
          refine fx_i2 aj_d234 rfl (Nat.le_succ _) (fun _ => rfl) hlv_0 ?_
          refine fx_gF aj_d234 rfl (Nat.le_succ _) rfl rfl fx_in_11_20 (t := 136) rfl (fun hA147 => ?_)
          refine fx_i2 aj_d234 rfl (Nat.le_succ _) (fun _ => rfl) hlv_0 ?_
          refine fx_i0 aj_d234 rfl (Nat.le_succ _) (fun _ => rfl) hlv_2 ?_
          refine fx_i2 aj_d234 rfl (Nat.le_succ _) (fun _ => rfl) hlv_0 ?_
          refine fx_gF aj_d234 rfl (Nat.le_succ _) rfl rfl fx_in_11_15 (t := 131) rfl (fun hA148 => ?_)
          refine fx_i0 aj_d234 rfl (Nat.le_succ _) (fun _ => rfl) hlv_2 ?_
          refine fx_ld aj_d234 (Or.inl rfl) rfl (Nat.le_succ _) (fun g1490 g1491 => ?_)
          show fx_W _ _ _ 386 lv [.int (X.1 131 (y2).toInt.toNat), .int y2, .ref 117, .ref 136] _ _
          refine fx_qa (c := 0 ≤ (y2).toInt ∧ (y2).toInt < ((50 : Nat) : Int)) ⟨g1490, fx_lnk g1491 hA148⟩ ?_
          refine fx_cv aj_d234 rfl (Nat.le_succ _) rfl [_, _] rfl rfl (gx_225_ok y2 (X.1 131 (y2).toInt.toNat)) ?_
          rintro _ X150 ⟨w151, rfl, hR150⟩ hok150 hle150
          refine fx_qc hR150 ?_
          show fx_W _ _ _ 389 lv [.int w151, .ref 136] _ _
          refine fx_i0 aj_d234 rfl (Nat.le_succ _) (fun _ => rfl) hlv_7 ?_
          refine fx_i0 aj_d234 rfl (Nat.le_succ _) (fun _ => rfl) hlv_6 ?_
          refine fx_b0 (tgt := 409) aj_d234 rfl (Nat.le_succ _) rfl (fun q152 => ?_) (fun q152 => ?_)
          · skip
            refine fx_qi (c := (y6).toInt = 0) (fx_t_eq q152) ?_
            show fx_W _ _ _ 409 lv [.int y7, .int w151, .ref 136] _ _
            refine fx_n (pc' := 410) (lv' := lv) (st' := [.int (Int32.ofInt 1), .int y7, .int w151, .ref 136]) aj_d234 rfl (Nat.le_succ _) (fun _ => rfl) ?_
            refine fx_n (pc' := 414) (lv' := lv) (st' := [.int (Int32.ofInt 1), .int y7, .int w151, .ref 136]) aj_d234 rfl (Nat.le_succ _) (fun _ => rfl) ?_
            refine fx_cs aj_d234 rfl (Nat.le_succ _) rfl rfl [_, _, _, _] rfl rfl (gx_228_ok 136 w151 y7 (Int32.ofInt 1)) ?_
            rintro _ X153 ⟨w154, rfl, hR153⟩ hok153 hle153
            refine fx_qc hR153 ?_
            show fx_W _ _ _ 417 lv [] _ _
            refine fx_incq aj_d234 rfl (Nat.le_succ _) hlv_7 (by decide) (fun x155 ex155 => ?_)
            obtain ⟨lv156, elv156⟩ : ∃ l, l = aj_set1 lv 7 (.int x155) := ⟨_, rfl⟩
            rw [← elv156]
            have hlv156_0 : aj_lv lv156 0 = some (.ref 117) := fx_e1 elv156 hlv_0 (by decide) (Or.inl (by decide))
            have hlv156_1 : aj_lv lv156 1 = some (.int y1) := fx_e1 elv156 hlv_1 (by decide) (Or.inl (by decide))
            have hlv156_2 : aj_lv lv156 2 = some (.int y2) := fx_e1 elv156 hlv_2 (by decide) (Or.inl (by decide))
            have hlv156_6 : aj_lv lv156 6 = some (.int y6) := fx_e1 elv156 hlv_6 (by decide) (Or.inr rfl)
            have hlv156_7 : aj_lv lv156 7 = some (.int x155) := by rw [elv156]; exact ak_set1_eq _ _ _
            show fx_W _ _ _ 420 lv156 [] _ _
            refine fx_n (pc' := 353) (lv' := lv156) (st' := []) aj_d234 rfl (Nat.le_succ _) (fun _ => rfl) ?_
            exact (ih.2.2.2.2.2.2.1) lv156 (y1) (y2) (y6) (x155) X153  hlv156_0 hlv156_1 hlv156_2 hlv156_6 hlv156_7
          · skip
            refine fx_qe (c := (y6).toInt = 0) (fx_f_eq q152) ?_
            show fx_W _ _ _ 396 lv [.int y7, .int w151, .ref 136] _ _
            refine fx_i2 aj_d234 rfl (Nat.le_succ _) (fun _ => rfl) hlv_0 ?_
            refine fx_gF aj_d234 rfl (Nat.le_succ _) rfl rfl fx_in_11_21 (t := 137) rfl (fun hA157 => ?_)
            refine fx_n (pc' := 401) (lv' := lv) (st' := [.int (Int32.ofInt 0), .ref 137, .int y7, .int w151, .ref 136]) aj_d234 rfl (Nat.le_succ _) (fun _ => rfl) ?_
            refine fx_i0 aj_d234 rfl (Nat.le_succ _) (fun _ => rfl) hlv_7 ?_
            refine fx_cs aj_d234 rfl (Nat.le_succ _) rfl rfl [_, _, _] rfl rfl (gx_227_ok 137 (Int32.ofInt 0) y7) ?_
            rintro _ X158 ⟨w159, rfl, hR158⟩ hok158 hle158
            refine fx_qc hR158 ?_
            show fx_W _ _ _ 406 lv [.int w159, .int y7, .int w151, .ref 136] _ _
            refine fx_b0 (tgt := 413) aj_d234 rfl (Nat.le_succ _) rfl (fun q160 => ?_) (fun q160 => ?_)
            · skip
              refine fx_qi (c := (w159).toInt = 0) (fx_t_eq q160) ?_
              show fx_W _ _ _ 413 lv [.int y7, .int w151, .ref 136] _ _
              refine fx_n (pc' := 414) (lv' := lv) (st' := [.int (Int32.ofInt 0), .int y7, .int w151, .ref 136]) aj_d234 rfl (Nat.le_succ _) (fun _ => rfl) ?_
              refine fx_cs aj_d234 rfl (Nat.le_succ _) rfl rfl [_, _, _, _] rfl rfl (gx_228_ok 136 w151 y7 (Int32.ofInt 0)) ?_
              rintro _ X161 ⟨w162, rfl, hR161⟩ hok161 hle161
              refine fx_qc hR161 ?_
              show fx_W _ _ _ 417 lv [] _ _
              refine fx_incq aj_d234 rfl (Nat.le_succ _) hlv_7 (by decide) (fun x163 ex163 => ?_)
              obtain ⟨lv164, elv164⟩ : ∃ l, l = aj_set1 lv 7 (.int x163) := ⟨_, rfl⟩
              rw [← elv164]
              have hlv164_0 : aj_lv lv164 0 = some (.ref 117) := fx_e1 elv164 hlv_0 (by decide) (Or.inl (by decide))
              have hlv164_1 : aj_lv lv164 1 = some (.int y1) := fx_e1 elv164 hlv_1 (by decide) (Or.inl (by decide))
              have hlv164_2 : aj_lv lv164 2 = some (.int y2) := fx_e1 elv164 hlv_2 (by decide) (Or.inl (by decide))
              have hlv164_6 : aj_lv lv164 6 = some (.int y6) := fx_e1 elv164 hlv_6 (by decide) (Or.inr rfl)
              have hlv164_7 : aj_lv lv164 7 = some (.int x163) := by rw [elv164]; exact ak_set1_eq _ _ _
              show fx_W _ _ _ 420 lv164 [] _ _
              refine fx_n (pc' := 353) (lv' := lv164) (st' := []) aj_d234 rfl (Nat.le_succ _) (fun _ => rfl) ?_
              exact (ih.2.2.2.2.2.2.1) lv164 (y1) (y2) (y6) (x163) X161  hlv164_0 hlv164_1 hlv164_2 hlv164_6 hlv164_7
            · skip
              refine fx_qe (c := (w159).toInt = 0) (fx_f_eq q160) ?_
              show fx_W _ _ _ 409 lv [.int y7, .int w151, .ref 136] _ _
              refine fx_n (pc' := 410) (lv' := lv) (st' := [.int (Int32.ofInt 1), .int y7, .int w151, .ref 136]) aj_d234 rfl (Nat.le_succ _) (fun _ => rfl) ?_
              refine fx_n (pc' := 414) (lv' := lv) (st' := [.int (Int32.ofInt 1), .int y7, .int w151, .ref 136]) aj_d234 rfl (Nat.le_succ _) (fun _ => rfl) ?_
              refine fx_cs aj_d234 rfl (Nat.le_succ _) rfl rfl [_, _, _, _] rfl rfl (gx_228_ok 136 w151 y7 (Int32.ofInt 1)) ?_
              rintro _ X165 ⟨w166, rfl, hR165⟩ hok165 hle165
              refine fx_qc hR165 ?_
              show fx_W _ _ _ 417 lv [] _ _
              refine fx_incq aj_d234 rfl (Nat.le_succ _) hlv_7 (by decide) (fun x167 ex167 => ?_)
              obtain ⟨lv168, elv168⟩ : ∃ l, l = aj_set1 lv 7 (.int x167) := ⟨_, rfl⟩
              rw [← elv168]
              have hlv168_0 : aj_lv lv168 0 = some (.ref 117) := fx_e1 elv168 hlv_0 (by decide) (Or.inl (by decide))
              have hlv168_1 : aj_lv lv168 1 = some (.int y1) := fx_e1 elv168 hlv_1 (by decide) (Or.inl (by decide))
              have hlv168_2 : aj_lv lv168 2 = some (.int y2) := fx_e1 elv168 hlv_2 (by decide) (Or.inl (by decide))
              have hlv168_6 : aj_lv lv168 6 = some (.int y6) := fx_e1 elv168 hlv_6 (by decide) (Or.inr rfl)
              have hlv168_7 : aj_lv lv168 7 = some (.int x167) := by rw [elv168]; exact ak_set1_eq _ _ _
              show fx_W _ _ _ 420 lv168 [] _ _
              refine fx_n (pc' := 353) (lv' := lv168) (st' := []) aj_d234 rfl (Nat.le_succ _) (fun _ => rfl) ?_
              exact (ih.2.2.2.2.2.2.1) lv168 (y1) (y2) (y6) (x167) X165  hlv168_0 hlv168_1 hlv168_2 hlv168_6 hlv168_7
    · intro lv y1 y2 X hlv_0 hlv_1 hlv_2
      refine fx_mono (Q := fx_Q fx_qI (fun v X' => ∃ n : Nat, gxT_234_423 (gxF_234 n) y1 y2 X v X')) (fun r X' ⟨v, e, n, z⟩ => ⟨v, e, n + 1, gxI_234_423 z⟩) ?_
      unfold gxT_234_423
      refine fx_i0 aj_d234 rfl (Nat.le_refl _) (fun _ => rfl) hlv_1 ?_
      refine fx_b0 (tgt := 446) aj_d234 rfl (Nat.le_succ _) rfl (fun q169 => ?_) (fun q169 => ?_)
      · skip
        refine fx_qi (c := (y1).toInt < 0) (fx_t_lt q169) ?_
        show fx_W _ _ _ 446 lv [] _ _
        refine fx_n (pc' := 447) (lv' := lv) (st' := [.int (Int32.ofInt 1)]) aj_d234 rfl (Nat.le_succ _) (fun _ => rfl) ?_
        exact fx_ri aj_d234 rfl ⟨_, rfl, 0, rfl, rfl⟩
      · skip
        refine fx_qe (c := (y1).toInt < 0) (fx_f_lt q169) ?_
        show fx_W _ _ _ 427 lv [] _ _
        refine fx_i2 aj_d234 rfl (Nat.le_succ _) (fun _ => rfl) hlv_0 ?_
        refine fx_gF aj_d234 rfl (Nat.le_succ _) rfl rfl fx_in_11_9 (t := 126) rfl (fun hA170 => ?_)
        refine fx_i0 aj_d234 rfl (Nat.le_succ _) (fun _ => rfl) hlv_2 ?_
        refine fx_ld aj_d234 (Or.inr (Or.inr rfl)) rfl (Nat.le_succ _) (fun g1710 g1711 => ?_)
        show fx_W _ _ _ 433 lv [.int (X.1 126 (y2).toInt.toNat)] _ _
        refine fx_qa (c := 0 ≤ (y2).toInt ∧ (y2).toInt < ((20 : Nat) : Int)) ⟨g1710, fx_lnk g1711 hA170⟩ ?_
        refine fx_b0 (tgt := 446) aj_d234 rfl (Nat.le_succ _) rfl (fun q172 => ?_) (fun q172 => ?_)
        · skip
          refine fx_qe (c := ((X.1 126 (y2).toInt.toNat)).toInt = 0) (fx_t_ne q172) ?_
          show fx_W _ _ _ 446 lv [] _ _
          refine fx_n (pc' := 447) (lv' := lv) (st' := [.int (Int32.ofInt 1)]) aj_d234 rfl (Nat.le_succ _) (fun _ => rfl) ?_
          exact fx_ri aj_d234 rfl ⟨_, rfl, 0, rfl, rfl⟩
        · skip
          refine fx_qi (c := ((X.1 126 (y2).toInt.toNat)).toInt = 0) (fx_f_ne q172) ?_
          show fx_W _ _ _ 436 lv [] _ _
          refine fx_i2 aj_d234 rfl (Nat.le_succ _) (fun _ => rfl) hlv_0 ?_
          refine fx_gF aj_d234 rfl (Nat.le_succ _) rfl rfl fx_in_11_15 (t := 131) rfl (fun hA173 => ?_)
          refine fx_i0 aj_d234 rfl (Nat.le_succ _) (fun _ => rfl) hlv_2 ?_
          refine fx_n (pc' := 442) (lv' := lv) (st' := [.int y2, .ref 131, .int y2, .ref 131]) aj_d234 rfl (Nat.le_succ _) (fun _ => rfl) ?_
          refine fx_ld aj_d234 (Or.inl rfl) rfl (Nat.le_succ _) (fun g1740 g1741 => ?_)
          show fx_W _ _ _ 443 lv [.int (X.1 131 (y2).toInt.toNat), .int y2, .ref 131] _ _
          refine fx_qa (c := 0 ≤ (y2).toInt ∧ (y2).toInt < ((50 : Nat) : Int)) ⟨g1740, fx_lnk g1741 hA173⟩ ?_
          refine fx_n (pc' := 444) (lv' := lv) (st' := [.int (Int32.ofInt 1), .int (X.1 131 (y2).toInt.toNat), .int y2, .ref 131]) aj_d234 rfl (Nat.le_succ _) (fun _ => rfl) ?_
          refine fx_n (pc' := 445) (lv' := lv) (st' := [.int ((X.1 131 (y2).toInt.toNat) + (Int32.ofInt 1)), .int y2, .ref 131]) aj_d234 rfl (Nat.le_succ _) (fun _ => rfl) ?_
          refine fx_st aj_d234 (Or.inl ⟨rfl, rfl⟩) rfl (Nat.le_succ _) (fun g1750 g1751 => ?_)
          show fx_W _ _ _ _ _ _ (fx_wI X 131 (y2).toInt.toNat ((X.1 131 (y2).toInt.toNat) + (Int32.ofInt 1))) _
          refine fx_qa (c := 0 ≤ (y2).toInt ∧ (y2).toInt < ((50 : Nat) : Int)) ⟨g1750, fx_lnk g1751 hA173⟩ ?_
          refine fx_qX (fun X176 eX176 => ?_)
          show fx_W _ _ _ 446 lv [] _ _
          refine fx_n (pc' := 447) (lv' := lv) (st' := [.int (Int32.ofInt 1)]) aj_d234 rfl (Nat.le_succ _) (fun _ => rfl) ?_
          exact fx_ri aj_d234 rfl ⟨_, rfl, 0, rfl, rfl⟩
theorem gx_234_ok {tb : aj_T} {X : fx_X} : fx_K tb 234 [.ref 117] X (fx_Q fx_qI (fun v X' => gx_234 X v X')) := by
  refine fx_m aj_m234_at rfl (fun N => ?_)
  refine fx_mono (Q := fx_Q fx_qI (fun v X' => ∃ n : Nat, gxE_234 (gxF_234 n) X v X')) (fun r X' h => h) ?_
  unfold gxE_234
  show fx_W _ _ _ 0 [(0, .ref 117)] [] _ _
  obtain ⟨lv1, elv1⟩ : ∃ l : aj_V, l = [(0, .ref 117)] := ⟨_, rfl⟩
  rw [← elv1]
  have hlv1_0 : aj_lv lv1 0 = some (.ref 117) := by rw [elv1]; rfl
  refine fx_i2 aj_d234 rfl (Nat.le_succ _) (fun _ => rfl) hlv1_0 ?_
  refine fx_cv aj_d234 rfl (Nat.le_succ _) rfl [] rfl rfl (gx_214_ok) ?_
  rintro _ X2 ⟨w3, rfl, hR2⟩ hok2 hle2
  refine fx_qc hR2 ?_
  show fx_W _ _ _ 4 lv1 [.int w3] _ _
  refine fx_b0 (tgt := 9) aj_d234 rfl (Nat.le_succ _) rfl (fun q4 => ?_) (fun q4 => ?_)
  · skip
    refine fx_qe (c := (w3).toInt = 0) (fx_t_ne q4) ?_
    show fx_W _ _ _ 9 lv1 [] _ _
    refine fx_i2 aj_d234 rfl (Nat.le_succ _) (fun _ => rfl) hlv1_0 ?_
    refine fx_gI aj_d234 rfl (Nat.le_succ _) rfl rfl (Or.inl rfl) ?_
    refine fx_n (pc' := 14) (lv' := lv1) (st' := [.int (Int32.ofInt 1), .int (X2.1 117 26)]) aj_d234 rfl (Nat.le_succ _) (fun _ => rfl) ?_
    refine fx_b (tgt := 40) aj_d234 rfl (Nat.le_succ _) rfl (fun q5 => ?_) (fun q5 => ?_)
    · skip
      refine fx_qe (c := ((X2.1 117 26)).toInt = 1) (fx_t_ne q5) ?_
      show fx_W _ _ _ 40 lv1 [] _ _
      refine fx_n (pc' := 41) (lv' := lv1) (st' := [.int (Int32.ofInt (-1))]) aj_d234 rfl (Nat.le_succ _) (fun _ => rfl) ?_
      refine fx_s0 (j := 1) aj_d234 rfl (Nat.le_succ _) (by decide) (fun _ => rfl) ?_
      obtain ⟨lv6, elv6⟩ : ∃ l, l = aj_set1 lv1 1 (.int (Int32.ofInt (-1))) := ⟨_, rfl⟩
      rw [← elv6]
      have hlv6_0 : aj_lv lv6 0 = some (.ref 117) := fx_e1 elv6 hlv1_0 (by decide) (Or.inr rfl)
      have hlv6_1 : aj_lv lv6 1 = some (.int (Int32.ofInt (-1))) := by rw [elv6]; exact ak_set1_eq _ _ _
      show fx_W _ _ _ 42 lv6 [] _ _
      refine fx_i2 aj_d234 rfl (Nat.le_succ _) (fun _ => rfl) hlv6_0 ?_
      refine fx_gI aj_d234 rfl (Nat.le_succ _) rfl rfl (Or.inl rfl) ?_
      refine fx_n (pc' := 48) (lv' := lv6) (st' := [.int ((Int8.ofInt 10).toInt32), .int (X2.1 117 37)]) aj_d234 rfl (Nat.le_succ _) (fun _ => rfl) ?_
      refine fx_n (pc' := 49) (lv' := lv6) (st' := [.int ((X2.1 117 37) * ((Int8.ofInt 10).toInt32))]) aj_d234 rfl (Nat.le_succ _) (fun _ => rfl) ?_
      refine fx_i0 aj_d234 rfl (Nat.le_succ _) (fun _ => rfl) hlv6_1 ?_
      refine fx_n (pc' := 51) (lv' := lv6) (st' := [.int (((X2.1 117 37) * ((Int8.ofInt 10).toInt32)) + (Int32.ofInt (-1)))]) aj_d234 rfl (Nat.le_succ _) (fun _ => rfl) ?_
      refine fx_qxI (fun x7 ex7 => ?_)
      refine fx_s0 (j := 2) aj_d234 rfl (Nat.le_succ _) (by decide) (fun _ => rfl) ?_
      obtain ⟨lv8, elv8⟩ : ∃ l, l = aj_set1 lv6 2 (.int x7) := ⟨_, rfl⟩
      rw [← elv8]
      have hlv8_0 : aj_lv lv8 0 = some (.ref 117) := fx_e1 elv8 hlv6_0 (by decide) (Or.inl (by decide))
      have hlv8_1 : aj_lv lv8 1 = some (.int (Int32.ofInt (-1))) := fx_e1 elv8 hlv6_1 (by decide) (Or.inr rfl)
      have hlv8_2 : aj_lv lv8 2 = some (.int x7) := by rw [elv8]; exact ak_set1_eq _ _ _
      show fx_W _ _ _ 52 lv8 [] _ _
      refine fx_i0 aj_d234 rfl (Nat.le_succ _) (fun _ => rfl) hlv8_1 ?_
      refine fx_b0 (tgt := 86) aj_d234 rfl (Nat.le_succ _) rfl (fun q9 => ?_) (fun q9 => ?_)
      · skip
        show fx_W _ _ _ 86 lv8 [] _ _
        exact ((gxL_234 N).1) lv8 ((Int32.ofInt (-1))) (x7) X2  hlv8_0 hlv8_1 hlv8_2
      · exact absurd q9 (by decide)
    · skip
      refine fx_qi (c := ((X2.1 117 26)).toInt = 1) (fx_f_ne q5) ?_
      show fx_W _ _ _ 17 lv1 [] _ _
      refine fx_i2 aj_d234 rfl (Nat.le_succ _) (fun _ => rfl) hlv1_0 ?_
      refine fx_i2 aj_d234 rfl (Nat.le_succ _) (fun _ => rfl) hlv1_0 ?_
      refine fx_gI aj_d234 rfl (Nat.le_succ _) rfl rfl (Or.inl rfl) ?_
      refine fx_i2 aj_d234 rfl (Nat.le_succ _) (fun _ => rfl) hlv1_0 ?_
      refine fx_i2 aj_d234 rfl (Nat.le_succ _) (fun _ => rfl) hlv1_0 ?_
      refine fx_gI aj_d234 rfl (Nat.le_succ _) rfl rfl (Or.inl rfl) ?_
      refine fx_i2 aj_d234 rfl (Nat.le_succ _) (fun _ => rfl) hlv1_0 ?_
      refine fx_gI aj_d234 rfl (Nat.le_succ _) rfl rfl (Or.inl rfl) ?_
      refine fx_cv aj_d234 rfl (Nat.le_succ _) rfl [_, _] rfl rfl (gx_210_ok (X2.1 117 27) (X2.1 117 28)) ?_
      rintro _ X10 ⟨w11, rfl, hR10⟩ hok10 hle10
      refine fx_qc hR10 ?_
      show fx_W _ _ _ 34 lv1 [.long w11, .int (X2.1 117 37), .ref 117] _ _
      refine fx_cv aj_d234 rfl (Nat.le_succ _) rfl [_, _] rfl rfl (gx_231_ok (X2.1 117 37) w11) ?_
      rintro _ X12 ⟨w13, rfl, hR12⟩ hok12 hle12
      refine fx_qc hR12 ?_
      show fx_W _ _ _ 37 lv1 [.int w13] _ _
      refine fx_n (pc' := 41) (lv' := lv1) (st' := [.int w13]) aj_d234 rfl (Nat.le_succ _) (fun _ => rfl) ?_
      refine fx_s0 (j := 1) aj_d234 rfl (Nat.le_succ _) (by decide) (fun _ => rfl) ?_
      obtain ⟨lv14, elv14⟩ : ∃ l, l = aj_set1 lv1 1 (.int w13) := ⟨_, rfl⟩
      rw [← elv14]
      have hlv14_0 : aj_lv lv14 0 = some (.ref 117) := fx_e1 elv14 hlv1_0 (by decide) (Or.inr rfl)
      have hlv14_1 : aj_lv lv14 1 = some (.int w13) := by rw [elv14]; exact ak_set1_eq _ _ _
      show fx_W _ _ _ 42 lv14 [] _ _
      refine fx_i2 aj_d234 rfl (Nat.le_succ _) (fun _ => rfl) hlv14_0 ?_
      refine fx_gI aj_d234 rfl (Nat.le_succ _) rfl rfl (Or.inl rfl) ?_
      refine fx_n (pc' := 48) (lv' := lv14) (st' := [.int ((Int8.ofInt 10).toInt32), .int (X12.1 117 37)]) aj_d234 rfl (Nat.le_succ _) (fun _ => rfl) ?_
      refine fx_n (pc' := 49) (lv' := lv14) (st' := [.int ((X12.1 117 37) * ((Int8.ofInt 10).toInt32))]) aj_d234 rfl (Nat.le_succ _) (fun _ => rfl) ?_
      refine fx_i0 aj_d234 rfl (Nat.le_succ _) (fun _ => rfl) hlv14_1 ?_
      refine fx_n (pc' := 51) (lv' := lv14) (st' := [.int (((X12.1 117 37) * ((Int8.ofInt 10).toInt32)) + w13)]) aj_d234 rfl (Nat.le_succ _) (fun _ => rfl) ?_
      refine fx_qxI (fun x15 ex15 => ?_)
      refine fx_s0 (j := 2) aj_d234 rfl (Nat.le_succ _) (by decide) (fun _ => rfl) ?_
      obtain ⟨lv16, elv16⟩ : ∃ l, l = aj_set1 lv14 2 (.int x15) := ⟨_, rfl⟩
      rw [← elv16]
      have hlv16_0 : aj_lv lv16 0 = some (.ref 117) := fx_e1 elv16 hlv14_0 (by decide) (Or.inl (by decide))
      have hlv16_1 : aj_lv lv16 1 = some (.int w13) := fx_e1 elv16 hlv14_1 (by decide) (Or.inr rfl)
      have hlv16_2 : aj_lv lv16 2 = some (.int x15) := by rw [elv16]; exact ak_set1_eq _ _ _
      show fx_W _ _ _ 52 lv16 [] _ _
      refine fx_i0 aj_d234 rfl (Nat.le_succ _) (fun _ => rfl) hlv16_1 ?_
      refine fx_b0 (tgt := 86) aj_d234 rfl (Nat.le_succ _) rfl (fun q17 => ?_) (fun q17 => ?_)
      · skip
        refine fx_qi (c := (w13).toInt < 0) (fx_t_lt q17) ?_
        show fx_W _ _ _ 86 lv16 [] _ _
        exact ((gxL_234 N).1) lv16 (w13) (x15) X12  hlv16_0 hlv16_1 hlv16_2
      · skip
        refine fx_qe (c := (w13).toInt < 0) (fx_f_lt q17) ?_
        show fx_W _ _ _ 56 lv16 [] _ _
        refine fx_i2 aj_d234 rfl (Nat.le_succ _) (fun _ => rfl) hlv16_0 ?_
        refine fx_gF aj_d234 rfl (Nat.le_succ _) rfl rfl fx_in_11_9 (t := 126) rfl (fun hA18 => ?_)
        refine fx_i0 aj_d234 rfl (Nat.le_succ _) (fun _ => rfl) hlv16_2 ?_
        refine fx_ld aj_d234 (Or.inr (Or.inr rfl)) rfl (Nat.le_succ _) (fun g190 g191 => ?_)
        show fx_W _ _ _ 62 lv16 [.int (X12.1 126 (x15).toInt.toNat)] _ _
        refine fx_qa (c := 0 ≤ (x15).toInt ∧ (x15).toInt < ((20 : Nat) : Int)) ⟨g190, fx_lnk g191 hA18⟩ ?_
        refine fx_b0 (tgt := 86) aj_d234 rfl (Nat.le_succ _) rfl (fun q20 => ?_) (fun q20 => ?_)
        · skip
          refine fx_qe (c := ((X12.1 126 (x15).toInt.toNat)).toInt = 0) (fx_t_ne q20) ?_
          show fx_W _ _ _ 86 lv16 [] _ _
          exact ((gxL_234 N).1) lv16 (w13) (x15) X12  hlv16_0 hlv16_1 hlv16_2
        · skip
          refine fx_qi (c := ((X12.1 126 (x15).toInt.toNat)).toInt = 0) (fx_f_ne q20) ?_
          show fx_W _ _ _ 65 lv16 [] _ _
          refine fx_i2 aj_d234 rfl (Nat.le_succ _) (fun _ => rfl) hlv16_0 ?_
          refine fx_gF aj_d234 rfl (Nat.le_succ _) rfl rfl fx_in_11_15 (t := 131) rfl (fun hA21 => ?_)
          refine fx_i0 aj_d234 rfl (Nat.le_succ _) (fun _ => rfl) hlv16_2 ?_
          refine fx_ld aj_d234 (Or.inl rfl) rfl (Nat.le_succ _) (fun g220 g221 => ?_)
          show fx_W _ _ _ 71 lv16 [.int (X12.1 131 (x15).toInt.toNat)] _ _
          refine fx_qa (c := 0 ≤ (x15).toInt ∧ (x15).toInt < ((50 : Nat) : Int)) ⟨g220, fx_lnk g221 hA21⟩ ?_
          refine fx_n (pc' := 73) (lv' := lv16) (st' := [.int ((Int8.ofInt 30).toInt32), .int (X12.1 131 (x15).toInt.toNat)]) aj_d234 rfl (Nat.le_succ _) (fun _ => rfl) ?_
          refine fx_b (tgt := 86) aj_d234 rfl (Nat.le_succ _) rfl (fun q23 => ?_) (fun q23 => ?_)
          · skip
            refine fx_qe (c := ((X12.1 131 (x15).toInt.toNat)).toInt = 30) (fx_t_ne q23) ?_
            show fx_W _ _ _ 86 lv16 [] _ _
            exact ((gxL_234 N).1) lv16 (w13) (x15) X12  hlv16_0 hlv16_1 hlv16_2
          · skip
            refine fx_qi (c := ((X12.1 131 (x15).toInt.toNat)).toInt = 30) (fx_f_ne q23) ?_
            show fx_W _ _ _ 76 lv16 [] _ _
            refine fx_i2 aj_d234 rfl (Nat.le_succ _) (fun _ => rfl) hlv16_0 ?_
            refine fx_n (pc' := 78) (lv' := lv16) (st' := [.int (Int32.ofInt 2), .ref 117]) aj_d234 rfl (Nat.le_succ _) (fun _ => rfl) ?_
            refine fx_i2 aj_d234 rfl (Nat.le_succ _) (fun _ => rfl) hlv16_0 ?_
            refine fx_gI aj_d234 rfl (Nat.le_succ _) rfl rfl (Or.inl rfl) ?_
            refine fx_cv aj_d234 rfl (Nat.le_succ _) rfl [_, _] rfl rfl (gx_215_ok (Int32.ofInt 2) (X12.1 117 27)) ?_
            rintro _ X24 ⟨w25, rfl, hR24⟩ hok24 hle24
            refine fx_qc hR24 ?_
            show fx_W _ _ _ 85 lv16 [.int w25] _ _
            exact fx_ri aj_d234 rfl ⟨_, rfl, 0, rfl, rfl⟩
  · skip
    refine fx_qi (c := (w3).toInt = 0) (fx_f_ne q4) ?_
    show fx_W _ _ _ 7 lv1 [] _ _
    refine fx_n (pc' := 8) (lv' := lv1) (st' := [.int (Int32.ofInt 0)]) aj_d234 rfl (Nat.le_succ _) (fun _ => rfl) ?_
    exact fx_ri aj_d234 rfl ⟨_, rfl, 0, rfl, rfl⟩
def gx_232 (p1 : Int32) (X : fx_X) (v : Int32) (X' : fx_X) : Prop :=
  (if ((X.1 117 26)).toInt = 1 then ((0 ≤ (p1).toInt ∧ (p1).toInt < ((50 : Nat) : Int)) ∧ (if ((X.1 132 (p1).toInt.toNat)).toInt = 4 then (∃ (w59 : Int32) (X58 : fx_X), gx_215 (Int32.ofInt 2) (X.1 117 27) X w59 X58 ∧ v = w59 ∧ X' = X58) else (∃ (w33 : Int32) (X32 : fx_X), gx_216 X w33 X32 ∧ (if (w33).toInt = 0 then (v = (Int32.ofInt 0) ∧ X' = X32) else (∃ (w36 : Int32) (X35 : fx_X), gx_233 p1 (X32.2.1 117 33) X32 w36 X35 ∧ (if (w36).toInt < 0 then ((0 ≤ (p1).toInt ∧ (p1).toInt < ((50 : Nat) : Int)) ∧ (0 ≤ (((p1 * ((Int8.ofInt 8).toInt32)) + (X35.1 132 (p1).toInt.toNat))).toInt ∧ (((p1 * ((Int8.ofInt 8).toInt32)) + (X35.1 132 (p1).toInt.toNat))).toInt < ((400 : Nat) : Int)) ∧ ∃ X42 : fx_X, X42 = (fx_wL X35 133 (((p1 * ((Int8.ofInt 8).toInt32)) + (X35.1 132 (p1).toInt.toNat))).toInt.toNat (X35.2.1 117 33)) ∧ (0 ≤ (p1).toInt ∧ (p1).toInt < ((50 : Nat) : Int)) ∧ (0 ≤ (p1).toInt ∧ (p1).toInt < ((50 : Nat) : Int)) ∧ ∃ X46 : fx_X, X46 = (fx_wI X42 132 (p1).toInt.toNat ((X42.1 132 (p1).toInt.toNat) + (Int32.ofInt 1))) ∧ v = (Int32.ofInt 1) ∧ X' = X46) else (∃ (w48 : Unit) (X47 : fx_X), gx_218 (Int32.ofInt 3) (X35.1 117 34) X35 w48 X47 ∧ (0 ≤ (p1).toInt ∧ (p1).toInt < ((50 : Nat) : Int)) ∧ (0 ≤ (((p1 * ((Int8.ofInt 8).toInt32)) + (X47.1 132 (p1).toInt.toNat))).toInt ∧ (((p1 * ((Int8.ofInt 8).toInt32)) + (X47.1 132 (p1).toInt.toNat))).toInt < ((400 : Nat) : Int)) ∧ ∃ X53 : fx_X, X53 = (fx_wL X47 133 (((p1 * ((Int8.ofInt 8).toInt32)) + (X47.1 132 (p1).toInt.toNat))).toInt.toNat (X47.2.1 117 33)) ∧ (0 ≤ (p1).toInt ∧ (p1).toInt < ((50 : Nat) : Int)) ∧ (0 ≤ (p1).toInt ∧ (p1).toInt < ((50 : Nat) : Int)) ∧ ∃ X57 : fx_X, X57 = (fx_wI X53 132 (p1).toInt.toNat ((X53.1 132 (p1).toInt.toNat) + (Int32.ofInt 1))) ∧ v = (Int32.ofInt 1) ∧ X' = X57))))))) else (∃ (w4 : Int32) (X3 : fx_X), gx_216 X w4 X3 ∧ (if (w4).toInt = 0 then (v = (Int32.ofInt 0) ∧ X' = X3) else (∃ (w7 : Int32) (X6 : fx_X), gx_233 p1 (X3.2.1 117 33) X3 w7 X6 ∧ (if (w7).toInt < 0 then ((0 ≤ (p1).toInt ∧ (p1).toInt < ((50 : Nat) : Int)) ∧ (0 ≤ (((p1 * ((Int8.ofInt 8).toInt32)) + (X6.1 132 (p1).toInt.toNat))).toInt ∧ (((p1 * ((Int8.ofInt 8).toInt32)) + (X6.1 132 (p1).toInt.toNat))).toInt < ((400 : Nat) : Int)) ∧ ∃ X13 : fx_X, X13 = (fx_wL X6 133 (((p1 * ((Int8.ofInt 8).toInt32)) + (X6.1 132 (p1).toInt.toNat))).toInt.toNat (X6.2.1 117 33)) ∧ (0 ≤ (p1).toInt ∧ (p1).toInt < ((50 : Nat) : Int)) ∧ (0 ≤ (p1).toInt ∧ (p1).toInt < ((50 : Nat) : Int)) ∧ ∃ X17 : fx_X, X17 = (fx_wI X13 132 (p1).toInt.toNat ((X13.1 132 (p1).toInt.toNat) + (Int32.ofInt 1))) ∧ v = (Int32.ofInt 1) ∧ X' = X17) else (∃ (w19 : Unit) (X18 : fx_X), gx_218 (Int32.ofInt 3) (X6.1 117 34) X6 w19 X18 ∧ (0 ≤ (p1).toInt ∧ (p1).toInt < ((50 : Nat) : Int)) ∧ (0 ≤ (((p1 * ((Int8.ofInt 8).toInt32)) + (X18.1 132 (p1).toInt.toNat))).toInt ∧ (((p1 * ((Int8.ofInt 8).toInt32)) + (X18.1 132 (p1).toInt.toNat))).toInt < ((400 : Nat) : Int)) ∧ ∃ X24 : fx_X, X24 = (fx_wL X18 133 (((p1 * ((Int8.ofInt 8).toInt32)) + (X18.1 132 (p1).toInt.toNat))).toInt.toNat (X18.2.1 117 33)) ∧ (0 ≤ (p1).toInt ∧ (p1).toInt < ((50 : Nat) : Int)) ∧ (0 ≤ (p1).toInt ∧ (p1).toInt < ((50 : Nat) : Int)) ∧ ∃ X28 : fx_X, X28 = (fx_wI X24 132 (p1).toInt.toNat ((X24.1 132 (p1).toInt.toNat) + (Int32.ofInt 1))) ∧ v = (Int32.ofInt 1) ∧ X' = X28))))))
theorem gx_232_ok {tb : aj_T} (p1 : Int32) {X : fx_X} : fx_K tb 232 [.ref 117, .int p1] X (fx_Q fx_qI (fun v X' => gx_232 p1 X v X')) := by
  refine fx_m aj_m232_at rfl (fun N => ?_)
  refine fx_mono (Q := fx_Q fx_qI (fun v X' => ∃ n : Nat, gx_232 p1 X v X')) (fun r X' ⟨v, e, _, z⟩ => ⟨v, e, z⟩) ?_
  unfold gx_232
  show fx_W _ _ _ 0 [(0, .ref 117), (1, .int p1)] [] _ _
  obtain ⟨lv1, elv1⟩ : ∃ l : aj_V, l = [(0, .ref 117), (1, .int p1)] := ⟨_, rfl⟩
  rw [← elv1]
  have hlv1_0 : aj_lv lv1 0 = some (.ref 117) := by rw [elv1]; rfl
  have hlv1_1 : aj_lv lv1 1 = some (.int p1) := by rw [elv1]; rfl
  refine fx_i2 aj_d232 rfl (Nat.le_succ _) (fun _ => rfl) hlv1_0 ?_
  refine fx_gI aj_d232 rfl (Nat.le_succ _) rfl rfl (Or.inl rfl) ?_
  refine fx_n (pc' := 5) (lv' := lv1) (st' := [.int (Int32.ofInt 1), .int (X.1 117 26)]) aj_d232 rfl (Nat.le_succ _) (fun _ => rfl) ?_
  refine fx_b (tgt := 28) aj_d232 rfl (Nat.le_succ _) rfl (fun q2 => ?_) (fun q2 => ?_)
  · skip
    refine fx_qe (c := ((X.1 117 26)).toInt = 1) (fx_t_ne q2) ?_
    show fx_W _ _ _ 28 lv1 [] _ _
    refine fx_i2 aj_d232 rfl (Nat.le_succ _) (fun _ => rfl) hlv1_0 ?_
    refine fx_cv aj_d232 rfl (Nat.le_succ _) rfl [] rfl rfl (gx_216_ok) ?_
    rintro _ X3 ⟨w4, rfl, hR3⟩ hok3 hle3
    refine fx_qc hR3 ?_
    show fx_W _ _ _ 32 lv1 [.int w4] _ _
    refine fx_b0 (tgt := 37) aj_d232 rfl (Nat.le_succ _) rfl (fun q5 => ?_) (fun q5 => ?_)
    · skip
      refine fx_qe (c := (w4).toInt = 0) (fx_t_ne q5) ?_
      show fx_W _ _ _ 37 lv1 [] _ _
      refine fx_i2 aj_d232 rfl (Nat.le_succ _) (fun _ => rfl) hlv1_0 ?_
      refine fx_i0 aj_d232 rfl (Nat.le_succ _) (fun _ => rfl) hlv1_1 ?_
      refine fx_i2 aj_d232 rfl (Nat.le_succ _) (fun _ => rfl) hlv1_0 ?_
      refine fx_gL aj_d232 rfl (Nat.le_succ _) rfl rfl rfl ?_
      refine fx_cv aj_d232 rfl (Nat.le_succ _) rfl [_, _] rfl rfl (gx_233_ok p1 (X3.2.1 117 33)) ?_
      rintro _ X6 ⟨w7, rfl, hR6⟩ hok6 hle6
      refine fx_qc hR6 ?_
      show fx_W _ _ _ 46 lv1 [.int w7] _ _
      refine fx_b0 (tgt := 58) aj_d232 rfl (Nat.le_succ _) rfl (fun q8 => ?_) (fun q8 => ?_)
      · skip
        refine fx_qi (c := (w7).toInt < 0) (fx_t_lt q8) ?_
        show fx_W _ _ _ 58 lv1 [] _ _
        refine fx_i2 aj_d232 rfl (Nat.le_succ _) (fun _ => rfl) hlv1_0 ?_
        refine fx_gF aj_d232 rfl (Nat.le_succ _) rfl rfl fx_in_11_17 (t := 133) rfl (fun hA9 => ?_)
        refine fx_i0 aj_d232 rfl (Nat.le_succ _) (fun _ => rfl) hlv1_1 ?_
        refine fx_n (pc' := 65) (lv' := lv1) (st' := [.int ((Int8.ofInt 8).toInt32), .int p1, .ref 133]) aj_d232 rfl (Nat.le_succ _) (fun _ => rfl) ?_
        refine fx_n (pc' := 66) (lv' := lv1) (st' := [.int (p1 * ((Int8.ofInt 8).toInt32)), .ref 133]) aj_d232 rfl (Nat.le_succ _) (fun _ => rfl) ?_
        refine fx_i2 aj_d232 rfl (Nat.le_succ _) (fun _ => rfl) hlv1_0 ?_
        refine fx_gF aj_d232 rfl (Nat.le_succ _) rfl rfl fx_in_11_16 (t := 132) rfl (fun hA10 => ?_)
        refine fx_i0 aj_d232 rfl (Nat.le_succ _) (fun _ => rfl) hlv1_1 ?_
        refine fx_ld aj_d232 (Or.inl rfl) rfl (Nat.le_succ _) (fun g110 g111 => ?_)
        show fx_W _ _ _ 72 lv1 [.int (X6.1 132 (p1).toInt.toNat), .int (p1 * ((Int8.ofInt 8).toInt32)), .ref 133] _ _
        refine fx_qa (c := 0 ≤ (p1).toInt ∧ (p1).toInt < ((50 : Nat) : Int)) ⟨g110, fx_lnk g111 hA10⟩ ?_
        refine fx_n (pc' := 73) (lv' := lv1) (st' := [.int ((p1 * ((Int8.ofInt 8).toInt32)) + (X6.1 132 (p1).toInt.toNat)), .ref 133]) aj_d232 rfl (Nat.le_succ _) (fun _ => rfl) ?_
        refine fx_i2 aj_d232 rfl (Nat.le_succ _) (fun _ => rfl) hlv1_0 ?_
        refine fx_gL aj_d232 rfl (Nat.le_succ _) rfl rfl rfl ?_
        refine fx_sL aj_d232 rfl (Nat.le_succ _) (fun g120 g121 => ?_)
        refine fx_qa (c := 0 ≤ (((p1 * ((Int8.ofInt 8).toInt32)) + (X6.1 132 (p1).toInt.toNat))).toInt ∧ (((p1 * ((Int8.ofInt 8).toInt32)) + (X6.1 132 (p1).toInt.toNat))).toInt < ((400 : Nat) : Int)) ⟨g120, fx_lnk g121 hA9⟩ ?_
        refine fx_qX (fun X13 eX13 => ?_)
        show fx_W _ _ _ 78 lv1 [] _ _
        refine fx_i2 aj_d232 rfl (Nat.le_succ _) (fun _ => rfl) hlv1_0 ?_
        refine fx_gF aj_d232 rfl (Nat.le_succ _) rfl rfl fx_in_11_16 (t := 132) rfl (fun hA14 => ?_)
        refine fx_i0 aj_d232 rfl (Nat.le_succ _) (fun _ => rfl) hlv1_1 ?_
        refine fx_n (pc' := 84) (lv' := lv1) (st' := [.int p1, .ref 132, .int p1, .ref 132]) aj_d232 rfl (Nat.le_succ _) (fun _ => rfl) ?_
        refine fx_ld aj_d232 (Or.inl rfl) rfl (Nat.le_succ _) (fun g150 g151 => ?_)
        show fx_W _ _ _ 85 lv1 [.int (X13.1 132 (p1).toInt.toNat), .int p1, .ref 132] _ _
        refine fx_qa (c := 0 ≤ (p1).toInt ∧ (p1).toInt < ((50 : Nat) : Int)) ⟨g150, fx_lnk g151 hA14⟩ ?_
        refine fx_n (pc' := 86) (lv' := lv1) (st' := [.int (Int32.ofInt 1), .int (X13.1 132 (p1).toInt.toNat), .int p1, .ref 132]) aj_d232 rfl (Nat.le_succ _) (fun _ => rfl) ?_
        refine fx_n (pc' := 87) (lv' := lv1) (st' := [.int ((X13.1 132 (p1).toInt.toNat) + (Int32.ofInt 1)), .int p1, .ref 132]) aj_d232 rfl (Nat.le_succ _) (fun _ => rfl) ?_
        refine fx_st aj_d232 (Or.inl ⟨rfl, rfl⟩) rfl (Nat.le_succ _) (fun g160 g161 => ?_)
        show fx_W _ _ _ _ _ _ (fx_wI X13 132 (p1).toInt.toNat ((X13.1 132 (p1).toInt.toNat) + (Int32.ofInt 1))) _
        refine fx_qa (c := 0 ≤ (p1).toInt ∧ (p1).toInt < ((50 : Nat) : Int)) ⟨g160, fx_lnk g161 hA14⟩ ?_
        refine fx_qX (fun X17 eX17 => ?_)
        show fx_W _ _ _ 88 lv1 [] _ _
        refine fx_n (pc' := 89) (lv' := lv1) (st' := [.int (Int32.ofInt 1)]) aj_d232 rfl (Nat.le_succ _) (fun _ => rfl) ?_
        exact fx_ri aj_d232 rfl ⟨_, rfl, 0, rfl, rfl⟩
      · skip
        refine fx_qe (c := (w7).toInt < 0) (fx_f_lt q8) ?_
        show fx_W _ _ _ 49 lv1 [] _ _
        refine fx_i2 aj_d232 rfl (Nat.le_succ _) (fun _ => rfl) hlv1_0 ?_
        refine fx_n (pc' := 51) (lv' := lv1) (st' := [.int (Int32.ofInt 3), .ref 117]) aj_d232 rfl (Nat.le_succ _) (fun _ => rfl) ?_
        refine fx_i2 aj_d232 rfl (Nat.le_succ _) (fun _ => rfl) hlv1_0 ?_
        refine fx_gI aj_d232 rfl (Nat.le_succ _) rfl rfl (Or.inl rfl) ?_
        refine fx_cv aj_d232 rfl (Nat.le_succ _) rfl [_, _] rfl rfl (gx_218_ok (Int32.ofInt 3) (X6.1 117 34)) ?_
        rintro _ X18 ⟨w19, rfl, hR18⟩ hok18 hle18
        refine fx_qc hR18 ?_
        show fx_W _ _ _ 58 lv1 [] _ _
        refine fx_i2 aj_d232 rfl (Nat.le_succ _) (fun _ => rfl) hlv1_0 ?_
        refine fx_gF aj_d232 rfl (Nat.le_succ _) rfl rfl fx_in_11_17 (t := 133) rfl (fun hA20 => ?_)
        refine fx_i0 aj_d232 rfl (Nat.le_succ _) (fun _ => rfl) hlv1_1 ?_
        refine fx_n (pc' := 65) (lv' := lv1) (st' := [.int ((Int8.ofInt 8).toInt32), .int p1, .ref 133]) aj_d232 rfl (Nat.le_succ _) (fun _ => rfl) ?_
        refine fx_n (pc' := 66) (lv' := lv1) (st' := [.int (p1 * ((Int8.ofInt 8).toInt32)), .ref 133]) aj_d232 rfl (Nat.le_succ _) (fun _ => rfl) ?_
        refine fx_i2 aj_d232 rfl (Nat.le_succ _) (fun _ => rfl) hlv1_0 ?_
        refine fx_gF aj_d232 rfl (Nat.le_succ _) rfl rfl fx_in_11_16 (t := 132) rfl (fun hA21 => ?_)
        refine fx_i0 aj_d232 rfl (Nat.le_succ _) (fun _ => rfl) hlv1_1 ?_
        refine fx_ld aj_d232 (Or.inl rfl) rfl (Nat.le_succ _) (fun g220 g221 => ?_)
        show fx_W _ _ _ 72 lv1 [.int (X18.1 132 (p1).toInt.toNat), .int (p1 * ((Int8.ofInt 8).toInt32)), .ref 133] _ _
        refine fx_qa (c := 0 ≤ (p1).toInt ∧ (p1).toInt < ((50 : Nat) : Int)) ⟨g220, fx_lnk g221 hA21⟩ ?_
        refine fx_n (pc' := 73) (lv' := lv1) (st' := [.int ((p1 * ((Int8.ofInt 8).toInt32)) + (X18.1 132 (p1).toInt.toNat)), .ref 133]) aj_d232 rfl (Nat.le_succ _) (fun _ => rfl) ?_
        refine fx_i2 aj_d232 rfl (Nat.le_succ _) (fun _ => rfl) hlv1_0 ?_
        refine fx_gL aj_d232 rfl (Nat.le_succ _) rfl rfl rfl ?_
        refine fx_sL aj_d232 rfl (Nat.le_succ _) (fun g230 g231 => ?_)
        refine fx_qa (c := 0 ≤ (((p1 * ((Int8.ofInt 8).toInt32)) + (X18.1 132 (p1).toInt.toNat))).toInt ∧ (((p1 * ((Int8.ofInt 8).toInt32)) + (X18.1 132 (p1).toInt.toNat))).toInt < ((400 : Nat) : Int)) ⟨g230, fx_lnk g231 hA20⟩ ?_
        refine fx_qX (fun X24 eX24 => ?_)
        show fx_W _ _ _ 78 lv1 [] _ _
        refine fx_i2 aj_d232 rfl (Nat.le_succ _) (fun _ => rfl) hlv1_0 ?_
        refine fx_gF aj_d232 rfl (Nat.le_succ _) rfl rfl fx_in_11_16 (t := 132) rfl (fun hA25 => ?_)
        refine fx_i0 aj_d232 rfl (Nat.le_succ _) (fun _ => rfl) hlv1_1 ?_
        refine fx_n (pc' := 84) (lv' := lv1) (st' := [.int p1, .ref 132, .int p1, .ref 132]) aj_d232 rfl (Nat.le_succ _) (fun _ => rfl) ?_
        refine fx_ld aj_d232 (Or.inl rfl) rfl (Nat.le_succ _) (fun g260 g261 => ?_)
        show fx_W _ _ _ 85 lv1 [.int (X24.1 132 (p1).toInt.toNat), .int p1, .ref 132] _ _
        refine fx_qa (c := 0 ≤ (p1).toInt ∧ (p1).toInt < ((50 : Nat) : Int)) ⟨g260, fx_lnk g261 hA25⟩ ?_
        refine fx_n (pc' := 86) (lv' := lv1) (st' := [.int (Int32.ofInt 1), .int (X24.1 132 (p1).toInt.toNat), .int p1, .ref 132]) aj_d232 rfl (Nat.le_succ _) (fun _ => rfl) ?_
        refine fx_n (pc' := 87) (lv' := lv1) (st' := [.int ((X24.1 132 (p1).toInt.toNat) + (Int32.ofInt 1)), .int p1, .ref 132]) aj_d232 rfl (Nat.le_succ _) (fun _ => rfl) ?_
        refine fx_st aj_d232 (Or.inl ⟨rfl, rfl⟩) rfl (Nat.le_succ _) (fun g270 g271 => ?_)
        show fx_W _ _ _ _ _ _ (fx_wI X24 132 (p1).toInt.toNat ((X24.1 132 (p1).toInt.toNat) + (Int32.ofInt 1))) _
        refine fx_qa (c := 0 ≤ (p1).toInt ∧ (p1).toInt < ((50 : Nat) : Int)) ⟨g270, fx_lnk g271 hA25⟩ ?_
        refine fx_qX (fun X28 eX28 => ?_)
        show fx_W _ _ _ 88 lv1 [] _ _
        refine fx_n (pc' := 89) (lv' := lv1) (st' := [.int (Int32.ofInt 1)]) aj_d232 rfl (Nat.le_succ _) (fun _ => rfl) ?_
        exact fx_ri aj_d232 rfl ⟨_, rfl, 0, rfl, rfl⟩
    · skip
      refine fx_qi (c := (w4).toInt = 0) (fx_f_ne q5) ?_
      show fx_W _ _ _ 35 lv1 [] _ _
      refine fx_n (pc' := 36) (lv' := lv1) (st' := [.int (Int32.ofInt 0)]) aj_d232 rfl (Nat.le_succ _) (fun _ => rfl) ?_
      exact fx_ri aj_d232 rfl ⟨_, rfl, 0, rfl, rfl⟩
  · skip
    refine fx_qi (c := ((X.1 117 26)).toInt = 1) (fx_f_ne q2) ?_
    show fx_W _ _ _ 8 lv1 [] _ _
    refine fx_i2 aj_d232 rfl (Nat.le_succ _) (fun _ => rfl) hlv1_0 ?_
    refine fx_gF aj_d232 rfl (Nat.le_succ _) rfl rfl fx_in_11_16 (t := 132) rfl (fun hA29 => ?_)
    refine fx_i0 aj_d232 rfl (Nat.le_succ _) (fun _ => rfl) hlv1_1 ?_
    refine fx_ld aj_d232 (Or.inl rfl) rfl (Nat.le_succ _) (fun g300 g301 => ?_)
    show fx_W _ _ _ 14 lv1 [.int (X.1 132 (p1).toInt.toNat)] _ _
    refine fx_qa (c := 0 ≤ (p1).toInt ∧ (p1).toInt < ((50 : Nat) : Int)) ⟨g300, fx_lnk g301 hA29⟩ ?_
    refine fx_n (pc' := 15) (lv' := lv1) (st' := [.int (Int32.ofInt 4), .int (X.1 132 (p1).toInt.toNat)]) aj_d232 rfl (Nat.le_succ _) (fun _ => rfl) ?_
    refine fx_b (tgt := 28) aj_d232 rfl (Nat.le_succ _) rfl (fun q31 => ?_) (fun q31 => ?_)
    · skip
      refine fx_qe (c := ((X.1 132 (p1).toInt.toNat)).toInt = 4) (fx_t_ne q31) ?_
      show fx_W _ _ _ 28 lv1 [] _ _
      refine fx_i2 aj_d232 rfl (Nat.le_succ _) (fun _ => rfl) hlv1_0 ?_
      refine fx_cv aj_d232 rfl (Nat.le_succ _) rfl [] rfl rfl (gx_216_ok) ?_
      rintro _ X32 ⟨w33, rfl, hR32⟩ hok32 hle32
      refine fx_qc hR32 ?_
      show fx_W _ _ _ 32 lv1 [.int w33] _ _
      refine fx_b0 (tgt := 37) aj_d232 rfl (Nat.le_succ _) rfl (fun q34 => ?_) (fun q34 => ?_)
      · skip
        refine fx_qe (c := (w33).toInt = 0) (fx_t_ne q34) ?_
        show fx_W _ _ _ 37 lv1 [] _ _
        refine fx_i2 aj_d232 rfl (Nat.le_succ _) (fun _ => rfl) hlv1_0 ?_
        refine fx_i0 aj_d232 rfl (Nat.le_succ _) (fun _ => rfl) hlv1_1 ?_
        refine fx_i2 aj_d232 rfl (Nat.le_succ _) (fun _ => rfl) hlv1_0 ?_
        refine fx_gL aj_d232 rfl (Nat.le_succ _) rfl rfl rfl ?_
        refine fx_cv aj_d232 rfl (Nat.le_succ _) rfl [_, _] rfl rfl (gx_233_ok p1 (X32.2.1 117 33)) ?_
        rintro _ X35 ⟨w36, rfl, hR35⟩ hok35 hle35
        refine fx_qc hR35 ?_
        show fx_W _ _ _ 46 lv1 [.int w36] _ _
        refine fx_b0 (tgt := 58) aj_d232 rfl (Nat.le_succ _) rfl (fun q37 => ?_) (fun q37 => ?_)
        · skip
          refine fx_qi (c := (w36).toInt < 0) (fx_t_lt q37) ?_
          show fx_W _ _ _ 58 lv1 [] _ _
          refine fx_i2 aj_d232 rfl (Nat.le_succ _) (fun _ => rfl) hlv1_0 ?_
          refine fx_gF aj_d232 rfl (Nat.le_succ _) rfl rfl fx_in_11_17 (t := 133) rfl (fun hA38 => ?_)
          refine fx_i0 aj_d232 rfl (Nat.le_succ _) (fun _ => rfl) hlv1_1 ?_
          refine fx_n (pc' := 65) (lv' := lv1) (st' := [.int ((Int8.ofInt 8).toInt32), .int p1, .ref 133]) aj_d232 rfl (Nat.le_succ _) (fun _ => rfl) ?_
          refine fx_n (pc' := 66) (lv' := lv1) (st' := [.int (p1 * ((Int8.ofInt 8).toInt32)), .ref 133]) aj_d232 rfl (Nat.le_succ _) (fun _ => rfl) ?_
          refine fx_i2 aj_d232 rfl (Nat.le_succ _) (fun _ => rfl) hlv1_0 ?_
          refine fx_gF aj_d232 rfl (Nat.le_succ _) rfl rfl fx_in_11_16 (t := 132) rfl (fun hA39 => ?_)
          refine fx_i0 aj_d232 rfl (Nat.le_succ _) (fun _ => rfl) hlv1_1 ?_
          refine fx_ld aj_d232 (Or.inl rfl) rfl (Nat.le_succ _) (fun g400 g401 => ?_)
          show fx_W _ _ _ 72 lv1 [.int (X35.1 132 (p1).toInt.toNat), .int (p1 * ((Int8.ofInt 8).toInt32)), .ref 133] _ _
          refine fx_qa (c := 0 ≤ (p1).toInt ∧ (p1).toInt < ((50 : Nat) : Int)) ⟨g400, fx_lnk g401 hA39⟩ ?_
          refine fx_n (pc' := 73) (lv' := lv1) (st' := [.int ((p1 * ((Int8.ofInt 8).toInt32)) + (X35.1 132 (p1).toInt.toNat)), .ref 133]) aj_d232 rfl (Nat.le_succ _) (fun _ => rfl) ?_
          refine fx_i2 aj_d232 rfl (Nat.le_succ _) (fun _ => rfl) hlv1_0 ?_
          refine fx_gL aj_d232 rfl (Nat.le_succ _) rfl rfl rfl ?_
          refine fx_sL aj_d232 rfl (Nat.le_succ _) (fun g410 g411 => ?_)
          refine fx_qa (c := 0 ≤ (((p1 * ((Int8.ofInt 8).toInt32)) + (X35.1 132 (p1).toInt.toNat))).toInt ∧ (((p1 * ((Int8.ofInt 8).toInt32)) + (X35.1 132 (p1).toInt.toNat))).toInt < ((400 : Nat) : Int)) ⟨g410, fx_lnk g411 hA38⟩ ?_
          refine fx_qX (fun X42 eX42 => ?_)
          show fx_W _ _ _ 78 lv1 [] _ _
          refine fx_i2 aj_d232 rfl (Nat.le_succ _) (fun _ => rfl) hlv1_0 ?_
          refine fx_gF aj_d232 rfl (Nat.le_succ _) rfl rfl fx_in_11_16 (t := 132) rfl (fun hA43 => ?_)
          refine fx_i0 aj_d232 rfl (Nat.le_succ _) (fun _ => rfl) hlv1_1 ?_
          refine fx_n (pc' := 84) (lv' := lv1) (st' := [.int p1, .ref 132, .int p1, .ref 132]) aj_d232 rfl (Nat.le_succ _) (fun _ => rfl) ?_
          refine fx_ld aj_d232 (Or.inl rfl) rfl (Nat.le_succ _) (fun g440 g441 => ?_)
          show fx_W _ _ _ 85 lv1 [.int (X42.1 132 (p1).toInt.toNat), .int p1, .ref 132] _ _
          refine fx_qa (c := 0 ≤ (p1).toInt ∧ (p1).toInt < ((50 : Nat) : Int)) ⟨g440, fx_lnk g441 hA43⟩ ?_
          refine fx_n (pc' := 86) (lv' := lv1) (st' := [.int (Int32.ofInt 1), .int (X42.1 132 (p1).toInt.toNat), .int p1, .ref 132]) aj_d232 rfl (Nat.le_succ _) (fun _ => rfl) ?_
          refine fx_n (pc' := 87) (lv' := lv1) (st' := [.int ((X42.1 132 (p1).toInt.toNat) + (Int32.ofInt 1)), .int p1, .ref 132]) aj_d232 rfl (Nat.le_succ _) (fun _ => rfl) ?_
          refine fx_st aj_d232 (Or.inl ⟨rfl, rfl⟩) rfl (Nat.le_succ _) (fun g450 g451 => ?_)
          show fx_W _ _ _ _ _ _ (fx_wI X42 132 (p1).toInt.toNat ((X42.1 132 (p1).toInt.toNat) + (Int32.ofInt 1))) _
          refine fx_qa (c := 0 ≤ (p1).toInt ∧ (p1).toInt < ((50 : Nat) : Int)) ⟨g450, fx_lnk g451 hA43⟩ ?_
          refine fx_qX (fun X46 eX46 => ?_)
          show fx_W _ _ _ 88 lv1 [] _ _
          refine fx_n (pc' := 89) (lv' := lv1) (st' := [.int (Int32.ofInt 1)]) aj_d232 rfl (Nat.le_succ _) (fun _ => rfl) ?_
          exact fx_ri aj_d232 rfl ⟨_, rfl, 0, rfl, rfl⟩
        · skip
          refine fx_qe (c := (w36).toInt < 0) (fx_f_lt q37) ?_
          show fx_W _ _ _ 49 lv1 [] _ _
          refine fx_i2 aj_d232 rfl (Nat.le_succ _) (fun _ => rfl) hlv1_0 ?_
          refine fx_n (pc' := 51) (lv' := lv1) (st' := [.int (Int32.ofInt 3), .ref 117]) aj_d232 rfl (Nat.le_succ _) (fun _ => rfl) ?_
          refine fx_i2 aj_d232 rfl (Nat.le_succ _) (fun _ => rfl) hlv1_0 ?_
          refine fx_gI aj_d232 rfl (Nat.le_succ _) rfl rfl (Or.inl rfl) ?_
          refine fx_cv aj_d232 rfl (Nat.le_succ _) rfl [_, _] rfl rfl (gx_218_ok (Int32.ofInt 3) (X35.1 117 34)) ?_
          rintro _ X47 ⟨w48, rfl, hR47⟩ hok47 hle47
          refine fx_qc hR47 ?_
          show fx_W _ _ _ 58 lv1 [] _ _
          refine fx_i2 aj_d232 rfl (Nat.le_succ _) (fun _ => rfl) hlv1_0 ?_
          refine fx_gF aj_d232 rfl (Nat.le_succ _) rfl rfl fx_in_11_17 (t := 133) rfl (fun hA49 => ?_)
          refine fx_i0 aj_d232 rfl (Nat.le_succ _) (fun _ => rfl) hlv1_1 ?_
          refine fx_n (pc' := 65) (lv' := lv1) (st' := [.int ((Int8.ofInt 8).toInt32), .int p1, .ref 133]) aj_d232 rfl (Nat.le_succ _) (fun _ => rfl) ?_
          refine fx_n (pc' := 66) (lv' := lv1) (st' := [.int (p1 * ((Int8.ofInt 8).toInt32)), .ref 133]) aj_d232 rfl (Nat.le_succ _) (fun _ => rfl) ?_
          refine fx_i2 aj_d232 rfl (Nat.le_succ _) (fun _ => rfl) hlv1_0 ?_
          refine fx_gF aj_d232 rfl (Nat.le_succ _) rfl rfl fx_in_11_16 (t := 132) rfl (fun hA50 => ?_)
          refine fx_i0 aj_d232 rfl (Nat.le_succ _) (fun _ => rfl) hlv1_1 ?_
          refine fx_ld aj_d232 (Or.inl rfl) rfl (Nat.le_succ _) (fun g510 g511 => ?_)
          show fx_W _ _ _ 72 lv1 [.int (X47.1 132 (p1).toInt.toNat), .int (p1 * ((Int8.ofInt 8).toInt32)), .ref 133] _ _
          refine fx_qa (c := 0 ≤ (p1).toInt ∧ (p1).toInt < ((50 : Nat) : Int)) ⟨g510, fx_lnk g511 hA50⟩ ?_
          refine fx_n (pc' := 73) (lv' := lv1) (st' := [.int ((p1 * ((Int8.ofInt 8).toInt32)) + (X47.1 132 (p1).toInt.toNat)), .ref 133]) aj_d232 rfl (Nat.le_succ _) (fun _ => rfl) ?_
          refine fx_i2 aj_d232 rfl (Nat.le_succ _) (fun _ => rfl) hlv1_0 ?_
          refine fx_gL aj_d232 rfl (Nat.le_succ _) rfl rfl rfl ?_
          refine fx_sL aj_d232 rfl (Nat.le_succ _) (fun g520 g521 => ?_)
          refine fx_qa (c := 0 ≤ (((p1 * ((Int8.ofInt 8).toInt32)) + (X47.1 132 (p1).toInt.toNat))).toInt ∧ (((p1 * ((Int8.ofInt 8).toInt32)) + (X47.1 132 (p1).toInt.toNat))).toInt < ((400 : Nat) : Int)) ⟨g520, fx_lnk g521 hA49⟩ ?_
          refine fx_qX (fun X53 eX53 => ?_)
          show fx_W _ _ _ 78 lv1 [] _ _
          refine fx_i2 aj_d232 rfl (Nat.le_succ _) (fun _ => rfl) hlv1_0 ?_
          refine fx_gF aj_d232 rfl (Nat.le_succ _) rfl rfl fx_in_11_16 (t := 132) rfl (fun hA54 => ?_)
          refine fx_i0 aj_d232 rfl (Nat.le_succ _) (fun _ => rfl) hlv1_1 ?_
          refine fx_n (pc' := 84) (lv' := lv1) (st' := [.int p1, .ref 132, .int p1, .ref 132]) aj_d232 rfl (Nat.le_succ _) (fun _ => rfl) ?_
          refine fx_ld aj_d232 (Or.inl rfl) rfl (Nat.le_succ _) (fun g550 g551 => ?_)
          show fx_W _ _ _ 85 lv1 [.int (X53.1 132 (p1).toInt.toNat), .int p1, .ref 132] _ _
          refine fx_qa (c := 0 ≤ (p1).toInt ∧ (p1).toInt < ((50 : Nat) : Int)) ⟨g550, fx_lnk g551 hA54⟩ ?_
          refine fx_n (pc' := 86) (lv' := lv1) (st' := [.int (Int32.ofInt 1), .int (X53.1 132 (p1).toInt.toNat), .int p1, .ref 132]) aj_d232 rfl (Nat.le_succ _) (fun _ => rfl) ?_
          refine fx_n (pc' := 87) (lv' := lv1) (st' := [.int ((X53.1 132 (p1).toInt.toNat) + (Int32.ofInt 1)), .int p1, .ref 132]) aj_d232 rfl (Nat.le_succ _) (fun _ => rfl) ?_
          refine fx_st aj_d232 (Or.inl ⟨rfl, rfl⟩) rfl (Nat.le_succ _) (fun g560 g561 => ?_)
          show fx_W _ _ _ _ _ _ (fx_wI X53 132 (p1).toInt.toNat ((X53.1 132 (p1).toInt.toNat) + (Int32.ofInt 1))) _
          refine fx_qa (c := 0 ≤ (p1).toInt ∧ (p1).toInt < ((50 : Nat) : Int)) ⟨g560, fx_lnk g561 hA54⟩ ?_
          refine fx_qX (fun X57 eX57 => ?_)
          show fx_W _ _ _ 88 lv1 [] _ _
          refine fx_n (pc' := 89) (lv' := lv1) (st' := [.int (Int32.ofInt 1)]) aj_d232 rfl (Nat.le_succ _) (fun _ => rfl) ?_
          exact fx_ri aj_d232 rfl ⟨_, rfl, 0, rfl, rfl⟩
      · skip
        refine fx_qi (c := (w33).toInt = 0) (fx_f_ne q34) ?_
        show fx_W _ _ _ 35 lv1 [] _ _
        refine fx_n (pc' := 36) (lv' := lv1) (st' := [.int (Int32.ofInt 0)]) aj_d232 rfl (Nat.le_succ _) (fun _ => rfl) ?_
        exact fx_ri aj_d232 rfl ⟨_, rfl, 0, rfl, rfl⟩
    · skip
      refine fx_qi (c := ((X.1 132 (p1).toInt.toNat)).toInt = 4) (fx_f_ne q31) ?_
      show fx_W _ _ _ 18 lv1 [] _ _
      refine fx_i2 aj_d232 rfl (Nat.le_succ _) (fun _ => rfl) hlv1_0 ?_
      refine fx_n (pc' := 20) (lv' := lv1) (st' := [.int (Int32.ofInt 2), .ref 117]) aj_d232 rfl (Nat.le_succ _) (fun _ => rfl) ?_
      refine fx_i2 aj_d232 rfl (Nat.le_succ _) (fun _ => rfl) hlv1_0 ?_
      refine fx_gI aj_d232 rfl (Nat.le_succ _) rfl rfl (Or.inl rfl) ?_
      refine fx_cv aj_d232 rfl (Nat.le_succ _) rfl [_, _] rfl rfl (gx_215_ok (Int32.ofInt 2) (X.1 117 27)) ?_
      rintro _ X58 ⟨w59, rfl, hR58⟩ hok58 hle58
      refine fx_qc hR58 ?_
      show fx_W _ _ _ 27 lv1 [.int w59] _ _
      exact fx_ri aj_d232 rfl ⟨_, rfl, 0, rfl, rfl⟩
def gxT_229_61 (P : Nat → List Int32 → List Int64 → List Nat → fx_X → Int32 → fx_X → Prop) (y1 : Int32) (X : fx_X) (v : Int32) (X' : fx_X) : Prop :=
  ∃ (w22 : Int32) (X21 : fx_X), gx_220 ((Int8.ofInt 44).toInt32) X w22 X21 ∧ (if (w22).toInt = 0 then (∃ (w25 : Int32) (X24 : fx_X), gx_219 ((Int8.ofInt 41).toInt32) X21 w25 X24 ∧ (if (w25).toInt = 0 then (v = (Int32.ofInt 0) ∧ X' = X24) else (∃ (w28 : Int32) (X27 : fx_X), gx_219 ((Int8.ofInt 59).toInt32) X24 w28 X27 ∧ (if (w28).toInt = 0 then (v = (Int32.ofInt 0) ∧ X' = X27) else ((0 ≤ ((X27.1 117 37)).toInt ∧ ((X27.1 117 37)).toInt < ((2 : Nat) : Int)) ∧ (0 ≤ ((X27.1 117 37)).toInt ∧ ((X27.1 117 37)).toInt < ((2 : Nat) : Int)) ∧ ∃ X33 : fx_X, X33 = (fx_wI X27 124 ((X27.1 117 37)).toInt.toNat ((X27.1 124 ((X27.1 117 37)).toInt.toNat) + (Int32.ofInt 1))) ∧ v = (Int32.ofInt 1) ∧ X' = X33))))) else (∃ (w35 : Int32) (X34 : fx_X), gx_214 X21 w35 X34 ∧ (if (w35).toInt = 0 then (v = (Int32.ofInt 0) ∧ X' = X34) else (∃ (w38 : Int32) (X37 : fx_X), gx_232 y1 X34 w38 X37 ∧ (if (w38).toInt = 0 then (v = (Int32.ofInt 0) ∧ X' = X37) else (P 61 [y1] [] [] X37 v X'))))))
def gxE_229 (P : Nat → List Int32 → List Int64 → List Nat → fx_X → Int32 → fx_X → Prop) (X : fx_X) (v : Int32) (X' : fx_X) : Prop :=
  ∃ (w3 : Int32) (X2 : fx_X), gx_230 (Int32.ofInt 0) X w3 X2 ∧ (if (w3).toInt = 0 then (v = (Int32.ofInt 0) ∧ X' = X2) else ((0 ≤ ((X2.1 117 37)).toInt ∧ ((X2.1 117 37)).toInt < ((2 : Nat) : Int)) ∧ ∃ x7 : Int32, x7 = (((X2.1 117 37) * ((Int8.ofInt 10).toInt32)) + (X2.1 124 ((X2.1 117 37)).toInt.toNat)) ∧ (0 ≤ (x7).toInt ∧ (x7).toInt < ((50 : Nat) : Int)) ∧ ∃ X11 : fx_X, X11 = (fx_wI X2 131 (x7).toInt.toNat (Int32.ofInt 0)) ∧ (0 ≤ (x7).toInt ∧ (x7).toInt < ((50 : Nat) : Int)) ∧ ∃ X14 : fx_X, X14 = (fx_wI X11 132 (x7).toInt.toNat (Int32.ofInt 0)) ∧ ∃ (w16 : Int32) (X15 : fx_X), gx_219 ((Int8.ofInt 40).toInt32) X14 w16 X15 ∧ (if (w16).toInt = 0 then (v = (Int32.ofInt 0) ∧ X' = X15) else (∃ (w19 : Int32) (X18 : fx_X), gx_232 x7 X15 w19 X18 ∧ (if (w19).toInt = 0 then (v = (Int32.ofInt 0) ∧ X' = X18) else (P 61 [x7] [] [] X18 v X'))))))
noncomputable def gxF_229 (n : Nat) : Nat → List Int32 → List Int64 → List Nat → fx_X → Int32 → fx_X → Prop := Nat.rec (motive := fun _ => Nat → List Int32 → List Int64 → List Nat → fx_X → Int32 → fx_X → Prop) (fun _ _ _ _ _ _ _ => False) (fun _ P l is ls rs X v X' => (l = 61 ∧ ∃ (y1 : Int32), is = [y1] ∧ ls = [] ∧ rs = [] ∧ gxT_229_61 P y1 X v X')) n
theorem gxI_229_61 {n : Nat} {y1 : Int32} {X : fx_X} {v : Int32} {X' : fx_X} (h : gxT_229_61 (gxF_229 n) y1 X v X') : gxF_229 (n + 1) 61 [y1] [] [] X v X' := ⟨rfl, y1, rfl, rfl, rfl, h⟩
theorem gxO_229_61 {n : Nat} {y1 : Int32} {X : fx_X} {v : Int32} {X' : fx_X} (h : gxF_229 (n + 1) 61 [y1] [] [] X v X') : gxT_229_61 (gxF_229 n) y1 X v X' := by
  rcases h with ⟨-, _, e1, e2, e3, h⟩
  · cases e1; cases e2; cases e3; exact h
def gx_229 (X : fx_X) (v : Int32) (X' : fx_X) : Prop := ∃ n : Nat, gxE_229 (gxF_229 n) X v X'
theorem gxL_229 {tb : aj_T} : ∀ N : Nat, (∀ (lv : aj_V) (y1 : Int32) (X : fx_X), aj_lv lv 0 = some (.ref 117) → aj_lv lv 1 = some (.int y1) → fx_W tb aj_m229 N 61 lv [] X (fx_Q fx_qI (fun v X' => ∃ n : Nat, gxF_229 n 61 [y1] [] [] X v X'))) := by
  intro N
  induction N with
  | zero => exact (by intros; exact fx_z)
  | succ N ih =>
    skip
    · intro lv y1 X hlv_0 hlv_1
      refine fx_mono (Q := fx_Q fx_qI (fun v X' => ∃ n : Nat, gxT_229_61 (gxF_229 n) y1 X v X')) (fun r X' ⟨v, e, n, z⟩ => ⟨v, e, n + 1, gxI_229_61 z⟩) ?_
      unfold gxT_229_61
      refine fx_i2 aj_d229 rfl (Nat.le_refl _) (fun _ => rfl) hlv_0 ?_
      refine fx_n (pc' := 64) (lv' := lv) (st' := [.int ((Int8.ofInt 44).toInt32), .ref 117]) aj_d229 rfl (Nat.le_succ _) (fun _ => rfl) ?_
      refine fx_cv aj_d229 rfl (Nat.le_succ _) rfl [_] rfl rfl (gx_220_ok ((Int8.ofInt 44).toInt32)) ?_
      rintro _ X21 ⟨w22, rfl, hR21⟩ hok21 hle21
      refine fx_qc hR21 ?_
      show fx_W _ _ _ 67 lv [.int w22] _ _
      refine fx_b0 (tgt := 87) aj_d229 rfl (Nat.le_succ _) rfl (fun q23 => ?_) (fun q23 => ?_)
      · skip
        refine fx_qi (c := (w22).toInt = 0) (fx_t_eq q23) ?_
        show fx_W _ _ _ 87 lv [] _ _
        refine fx_i2 aj_d229 rfl (Nat.le_succ _) (fun _ => rfl) hlv_0 ?_
        refine fx_n (pc' := 90) (lv' := lv) (st' := [.int ((Int8.ofInt 41).toInt32), .ref 117]) aj_d229 rfl (Nat.le_succ _) (fun _ => rfl) ?_
        refine fx_cv aj_d229 rfl (Nat.le_succ _) rfl [_] rfl rfl (gx_219_ok ((Int8.ofInt 41).toInt32)) ?_
        rintro _ X24 ⟨w25, rfl, hR24⟩ hok24 hle24
        refine fx_qc hR24 ?_
        show fx_W _ _ _ 93 lv [.int w25] _ _
        refine fx_b0 (tgt := 105) aj_d229 rfl (Nat.le_succ _) rfl (fun q26 => ?_) (fun q26 => ?_)
        · skip
          refine fx_qi (c := (w25).toInt = 0) (fx_t_eq q26) ?_
          show fx_W _ _ _ 105 lv [] _ _
          refine fx_n (pc' := 106) (lv' := lv) (st' := [.int (Int32.ofInt 0)]) aj_d229 rfl (Nat.le_succ _) (fun _ => rfl) ?_
          exact fx_ri aj_d229 rfl ⟨_, rfl, 0, rfl, rfl⟩
        · skip
          refine fx_qe (c := (w25).toInt = 0) (fx_f_eq q26) ?_
          show fx_W _ _ _ 96 lv [] _ _
          refine fx_i2 aj_d229 rfl (Nat.le_succ _) (fun _ => rfl) hlv_0 ?_
          refine fx_n (pc' := 99) (lv' := lv) (st' := [.int ((Int8.ofInt 59).toInt32), .ref 117]) aj_d229 rfl (Nat.le_succ _) (fun _ => rfl) ?_
          refine fx_cv aj_d229 rfl (Nat.le_succ _) rfl [_] rfl rfl (gx_219_ok ((Int8.ofInt 59).toInt32)) ?_
          rintro _ X27 ⟨w28, rfl, hR27⟩ hok27 hle27
          refine fx_qc hR27 ?_
          show fx_W _ _ _ 102 lv [.int w28] _ _
          refine fx_b0 (tgt := 107) aj_d229 rfl (Nat.le_succ _) rfl (fun q29 => ?_) (fun q29 => ?_)
          · skip
            refine fx_qe (c := (w28).toInt = 0) (fx_t_ne q29) ?_
            show fx_W _ _ _ 107 lv [] _ _
            refine fx_i2 aj_d229 rfl (Nat.le_succ _) (fun _ => rfl) hlv_0 ?_
            refine fx_gF aj_d229 rfl (Nat.le_succ _) rfl rfl fx_in_11_7 (t := 124) rfl (fun hA30 => ?_)
            refine fx_i2 aj_d229 rfl (Nat.le_succ _) (fun _ => rfl) hlv_0 ?_
            refine fx_gI aj_d229 rfl (Nat.le_succ _) rfl rfl (Or.inl rfl) ?_
            refine fx_n (pc' := 116) (lv' := lv) (st' := [.int (X27.1 117 37), .ref 124, .int (X27.1 117 37), .ref 124]) aj_d229 rfl (Nat.le_succ _) (fun _ => rfl) ?_
            refine fx_ld aj_d229 (Or.inl rfl) rfl (Nat.le_succ _) (fun g310 g311 => ?_)
            show fx_W _ _ _ 117 lv [.int (X27.1 124 ((X27.1 117 37)).toInt.toNat), .int (X27.1 117 37), .ref 124] _ _
            refine fx_qa (c := 0 ≤ ((X27.1 117 37)).toInt ∧ ((X27.1 117 37)).toInt < ((2 : Nat) : Int)) ⟨g310, fx_lnk g311 hA30⟩ ?_
            refine fx_n (pc' := 118) (lv' := lv) (st' := [.int (Int32.ofInt 1), .int (X27.1 124 ((X27.1 117 37)).toInt.toNat), .int (X27.1 117 37), .ref 124]) aj_d229 rfl (Nat.le_succ _) (fun _ => rfl) ?_
            refine fx_n (pc' := 119) (lv' := lv) (st' := [.int ((X27.1 124 ((X27.1 117 37)).toInt.toNat) + (Int32.ofInt 1)), .int (X27.1 117 37), .ref 124]) aj_d229 rfl (Nat.le_succ _) (fun _ => rfl) ?_
            refine fx_st aj_d229 (Or.inl ⟨rfl, rfl⟩) rfl (Nat.le_succ _) (fun g320 g321 => ?_)
            show fx_W _ _ _ _ _ _ (fx_wI X27 124 ((X27.1 117 37)).toInt.toNat ((X27.1 124 ((X27.1 117 37)).toInt.toNat) + (Int32.ofInt 1))) _
            refine fx_qa (c := 0 ≤ ((X27.1 117 37)).toInt ∧ ((X27.1 117 37)).toInt < ((2 : Nat) : Int)) ⟨g320, fx_lnk g321 hA30⟩ ?_
            refine fx_qX (fun X33 eX33 => ?_)
            show fx_W _ _ _ 120 lv [] _ _
            refine fx_n (pc' := 121) (lv' := lv) (st' := [.int (Int32.ofInt 1)]) aj_d229 rfl (Nat.le_succ _) (fun _ => rfl) ?_
            exact fx_ri aj_d229 rfl ⟨_, rfl, 0, rfl, rfl⟩
          · skip
            refine fx_qi (c := (w28).toInt = 0) (fx_f_ne q29) ?_
            show fx_W _ _ _ 105 lv [] _ _
            refine fx_n (pc' := 106) (lv' := lv) (st' := [.int (Int32.ofInt 0)]) aj_d229 rfl (Nat.le_succ _) (fun _ => rfl) ?_
            exact fx_ri aj_d229 rfl ⟨_, rfl, 0, rfl, rfl⟩
      · skip
        refine fx_qe (c := (w22).toInt = 0) (fx_f_eq q23) ?_
        show fx_W _ _ _ 70 lv [] _ _
        refine fx_i2 aj_d229 rfl (Nat.le_succ _) (fun _ => rfl) hlv_0 ?_
        refine fx_cv aj_d229 rfl (Nat.le_succ _) rfl [] rfl rfl (gx_214_ok) ?_
        rintro _ X34 ⟨w35, rfl, hR34⟩ hok34 hle34
        refine fx_qc hR34 ?_
        show fx_W _ _ _ 74 lv [.int w35] _ _
        refine fx_b0 (tgt := 85) aj_d229 rfl (Nat.le_succ _) rfl (fun q36 => ?_) (fun q36 => ?_)
        · skip
          refine fx_qi (c := (w35).toInt = 0) (fx_t_eq q36) ?_
          show fx_W _ _ _ 85 lv [] _ _
          refine fx_n (pc' := 86) (lv' := lv) (st' := [.int (Int32.ofInt 0)]) aj_d229 rfl (Nat.le_succ _) (fun _ => rfl) ?_
          exact fx_ri aj_d229 rfl ⟨_, rfl, 0, rfl, rfl⟩
        · skip
          refine fx_qe (c := (w35).toInt = 0) (fx_f_eq q36) ?_
          show fx_W _ _ _ 77 lv [] _ _
          refine fx_i2 aj_d229 rfl (Nat.le_succ _) (fun _ => rfl) hlv_0 ?_
          refine fx_i0 aj_d229 rfl (Nat.le_succ _) (fun _ => rfl) hlv_1 ?_
          refine fx_cv aj_d229 rfl (Nat.le_succ _) rfl [_] rfl rfl (gx_232_ok y1) ?_
          rintro _ X37 ⟨w38, rfl, hR37⟩ hok37 hle37
          refine fx_qc hR37 ?_
          show fx_W _ _ _ 82 lv [.int w38] _ _
          refine fx_b0 (tgt := 61) aj_d229 rfl (Nat.le_succ _) rfl (fun q39 => ?_) (fun q39 => ?_)
          · skip
            refine fx_qe (c := (w38).toInt = 0) (fx_t_ne q39) ?_
            show fx_W _ _ _ 61 lv [] _ _
            exact (ih) lv (y1) X37  hlv_0 hlv_1
          · skip
            refine fx_qi (c := (w38).toInt = 0) (fx_f_ne q39) ?_
            show fx_W _ _ _ 85 lv [] _ _
            refine fx_n (pc' := 86) (lv' := lv) (st' := [.int (Int32.ofInt 0)]) aj_d229 rfl (Nat.le_succ _) (fun _ => rfl) ?_
            exact fx_ri aj_d229 rfl ⟨_, rfl, 0, rfl, rfl⟩
theorem gx_229_ok {tb : aj_T} {X : fx_X} : fx_K tb 229 [.ref 117] X (fx_Q fx_qI (fun v X' => gx_229 X v X')) := by
  refine fx_m aj_m229_at rfl (fun N => ?_)
  refine fx_mono (Q := fx_Q fx_qI (fun v X' => ∃ n : Nat, gxE_229 (gxF_229 n) X v X')) (fun r X' h => h) ?_
  unfold gxE_229
  show fx_W _ _ _ 0 [(0, .ref 117)] [] _ _
  obtain ⟨lv1, elv1⟩ : ∃ l : aj_V, l = [(0, .ref 117)] := ⟨_, rfl⟩
  rw [← elv1]
  have hlv1_0 : aj_lv lv1 0 = some (.ref 117) := by rw [elv1]; rfl
  refine fx_i2 aj_d229 rfl (Nat.le_succ _) (fun _ => rfl) hlv1_0 ?_
  refine fx_n (pc' := 2) (lv' := lv1) (st' := [.int (Int32.ofInt 0), .ref 117]) aj_d229 rfl (Nat.le_succ _) (fun _ => rfl) ?_
  refine fx_cv aj_d229 rfl (Nat.le_succ _) rfl [_] rfl rfl (gx_230_ok (Int32.ofInt 0)) ?_
  rintro _ X2 ⟨w3, rfl, hR2⟩ hok2 hle2
  refine fx_qc hR2 ?_
  show fx_W _ _ _ 5 lv1 [.int w3] _ _
  refine fx_b0 (tgt := 10) aj_d229 rfl (Nat.le_succ _) rfl (fun q4 => ?_) (fun q4 => ?_)
  · skip
    refine fx_qe (c := (w3).toInt = 0) (fx_t_ne q4) ?_
    show fx_W _ _ _ 10 lv1 [] _ _
    refine fx_i2 aj_d229 rfl (Nat.le_succ _) (fun _ => rfl) hlv1_0 ?_
    refine fx_gI aj_d229 rfl (Nat.le_succ _) rfl rfl (Or.inl rfl) ?_
    refine fx_n (pc' := 16) (lv' := lv1) (st' := [.int ((Int8.ofInt 10).toInt32), .int (X2.1 117 37)]) aj_d229 rfl (Nat.le_succ _) (fun _ => rfl) ?_
    refine fx_n (pc' := 17) (lv' := lv1) (st' := [.int ((X2.1 117 37) * ((Int8.ofInt 10).toInt32))]) aj_d229 rfl (Nat.le_succ _) (fun _ => rfl) ?_
    refine fx_i2 aj_d229 rfl (Nat.le_succ _) (fun _ => rfl) hlv1_0 ?_
    refine fx_gF aj_d229 rfl (Nat.le_succ _) rfl rfl fx_in_11_7 (t := 124) rfl (fun hA5 => ?_)
    refine fx_i2 aj_d229 rfl (Nat.le_succ _) (fun _ => rfl) hlv1_0 ?_
    refine fx_gI aj_d229 rfl (Nat.le_succ _) rfl rfl (Or.inl rfl) ?_
    refine fx_ld aj_d229 (Or.inl rfl) rfl (Nat.le_succ _) (fun g60 g61 => ?_)
    show fx_W _ _ _ 26 lv1 [.int (X2.1 124 ((X2.1 117 37)).toInt.toNat), .int ((X2.1 117 37) * ((Int8.ofInt 10).toInt32))] _ _
    refine fx_qa (c := 0 ≤ ((X2.1 117 37)).toInt ∧ ((X2.1 117 37)).toInt < ((2 : Nat) : Int)) ⟨g60, fx_lnk g61 hA5⟩ ?_
    refine fx_n (pc' := 27) (lv' := lv1) (st' := [.int (((X2.1 117 37) * ((Int8.ofInt 10).toInt32)) + (X2.1 124 ((X2.1 117 37)).toInt.toNat))]) aj_d229 rfl (Nat.le_succ _) (fun _ => rfl) ?_
    refine fx_qxI (fun x7 ex7 => ?_)
    refine fx_s0 (j := 1) aj_d229 rfl (Nat.le_succ _) (by decide) (fun _ => rfl) ?_
    obtain ⟨lv8, elv8⟩ : ∃ l, l = aj_set1 lv1 1 (.int x7) := ⟨_, rfl⟩
    rw [← elv8]
    have hlv8_0 : aj_lv lv8 0 = some (.ref 117) := fx_e1 elv8 hlv1_0 (by decide) (Or.inr rfl)
    have hlv8_1 : aj_lv lv8 1 = some (.int x7) := by rw [elv8]; exact ak_set1_eq _ _ _
    show fx_W _ _ _ 28 lv8 [] _ _
    refine fx_i2 aj_d229 rfl (Nat.le_succ _) (fun _ => rfl) hlv8_0 ?_
    refine fx_gF aj_d229 rfl (Nat.le_succ _) rfl rfl fx_in_11_15 (t := 131) rfl (fun hA9 => ?_)
    refine fx_i0 aj_d229 rfl (Nat.le_succ _) (fun _ => rfl) hlv8_1 ?_
    refine fx_n (pc' := 34) (lv' := lv8) (st' := [.int (Int32.ofInt 0), .int x7, .ref 131]) aj_d229 rfl (Nat.le_succ _) (fun _ => rfl) ?_
    refine fx_st aj_d229 (Or.inl ⟨rfl, rfl⟩) rfl (Nat.le_succ _) (fun g100 g101 => ?_)
    show fx_W _ _ _ _ _ _ (fx_wI X2 131 (x7).toInt.toNat (Int32.ofInt 0)) _
    refine fx_qa (c := 0 ≤ (x7).toInt ∧ (x7).toInt < ((50 : Nat) : Int)) ⟨g100, fx_lnk g101 hA9⟩ ?_
    refine fx_qX (fun X11 eX11 => ?_)
    show fx_W _ _ _ 35 lv8 [] _ _
    refine fx_i2 aj_d229 rfl (Nat.le_succ _) (fun _ => rfl) hlv8_0 ?_
    refine fx_gF aj_d229 rfl (Nat.le_succ _) rfl rfl fx_in_11_16 (t := 132) rfl (fun hA12 => ?_)
    refine fx_i0 aj_d229 rfl (Nat.le_succ _) (fun _ => rfl) hlv8_1 ?_
    refine fx_n (pc' := 41) (lv' := lv8) (st' := [.int (Int32.ofInt 0), .int x7, .ref 132]) aj_d229 rfl (Nat.le_succ _) (fun _ => rfl) ?_
    refine fx_st aj_d229 (Or.inl ⟨rfl, rfl⟩) rfl (Nat.le_succ _) (fun g130 g131 => ?_)
    show fx_W _ _ _ _ _ _ (fx_wI X11 132 (x7).toInt.toNat (Int32.ofInt 0)) _
    refine fx_qa (c := 0 ≤ (x7).toInt ∧ (x7).toInt < ((50 : Nat) : Int)) ⟨g130, fx_lnk g131 hA12⟩ ?_
    refine fx_qX (fun X14 eX14 => ?_)
    show fx_W _ _ _ 42 lv8 [] _ _
    refine fx_i2 aj_d229 rfl (Nat.le_succ _) (fun _ => rfl) hlv8_0 ?_
    refine fx_n (pc' := 45) (lv' := lv8) (st' := [.int ((Int8.ofInt 40).toInt32), .ref 117]) aj_d229 rfl (Nat.le_succ _) (fun _ => rfl) ?_
    refine fx_cv aj_d229 rfl (Nat.le_succ _) rfl [_] rfl rfl (gx_219_ok ((Int8.ofInt 40).toInt32)) ?_
    rintro _ X15 ⟨w16, rfl, hR15⟩ hok15 hle15
    refine fx_qc hR15 ?_
    show fx_W _ _ _ 48 lv8 [.int w16] _ _
    refine fx_b0 (tgt := 59) aj_d229 rfl (Nat.le_succ _) rfl (fun q17 => ?_) (fun q17 => ?_)
    · skip
      refine fx_qi (c := (w16).toInt = 0) (fx_t_eq q17) ?_
      show fx_W _ _ _ 59 lv8 [] _ _
      refine fx_n (pc' := 60) (lv' := lv8) (st' := [.int (Int32.ofInt 0)]) aj_d229 rfl (Nat.le_succ _) (fun _ => rfl) ?_
      exact fx_ri aj_d229 rfl ⟨_, rfl, 0, rfl, rfl⟩
    · skip
      refine fx_qe (c := (w16).toInt = 0) (fx_f_eq q17) ?_
      show fx_W _ _ _ 51 lv8 [] _ _
      refine fx_i2 aj_d229 rfl (Nat.le_succ _) (fun _ => rfl) hlv8_0 ?_
      refine fx_i0 aj_d229 rfl (Nat.le_succ _) (fun _ => rfl) hlv8_1 ?_
      refine fx_cv aj_d229 rfl (Nat.le_succ _) rfl [_] rfl rfl (gx_232_ok x7) ?_
      rintro _ X18 ⟨w19, rfl, hR18⟩ hok18 hle18
      refine fx_qc hR18 ?_
      show fx_W _ _ _ 56 lv8 [.int w19] _ _
      refine fx_b0 (tgt := 61) aj_d229 rfl (Nat.le_succ _) rfl (fun q20 => ?_) (fun q20 => ?_)
      · skip
        refine fx_qe (c := (w19).toInt = 0) (fx_t_ne q20) ?_
        show fx_W _ _ _ 61 lv8 [] _ _
        exact ((gxL_229 N)) lv8 (x7) X18  hlv8_0 hlv8_1
      · skip
        refine fx_qi (c := (w19).toInt = 0) (fx_f_ne q20) ?_
        show fx_W _ _ _ 59 lv8 [] _ _
        refine fx_n (pc' := 60) (lv' := lv8) (st' := [.int (Int32.ofInt 0)]) aj_d229 rfl (Nat.le_succ _) (fun _ => rfl) ?_
        exact fx_ri aj_d229 rfl ⟨_, rfl, 0, rfl, rfl⟩
  · skip
    refine fx_qi (c := (w3).toInt = 0) (fx_f_ne q4) ?_
    show fx_W _ _ _ 8 lv1 [] _ _
    refine fx_n (pc' := 9) (lv' := lv1) (st' := [.int (Int32.ofInt 0)]) aj_d229 rfl (Nat.le_succ _) (fun _ => rfl) ?_
    exact fx_ri aj_d229 rfl ⟨_, rfl, 0, rfl, rfl⟩
def gxT_223_0 (p1 : Int32) (P : Nat → List Int32 → List Int64 → List Nat → fx_X → Int32 → fx_X → Prop) (X : fx_X) (v : Int32) (X' : fx_X) : Prop :=
  ∃ (w49 : Int32) (X48 : fx_X), gx_220 ((Int8.ofInt 44).toInt32) X w49 X48 ∧ (if (w49).toInt = 0 then (v = (Int32.ofInt 1) ∧ X' = X48) else (∃ (w52 : Int32) (X51 : fx_X), gx_214 X48 w52 X51 ∧ (if (w52).toInt = 0 then (v = (Int32.ofInt 0) ∧ X' = X51) else ((0 ≤ (p1).toInt ∧ (p1).toInt < ((16 : Nat) : Int)) ∧ (if ((X51.1 120 (p1).toInt.toNat)).toInt = 16 then ((if ((X51.1 117 26)).toInt = 2 then (∃ (w63 : Int32) (X62 : fx_X), gx_215 (Int32.ofInt 2) (X51.1 117 27) X51 w63 X62 ∧ v = w63 ∧ X' = X62) else (∃ (w65 : Int32) (X64 : fx_X), gx_220 ((Int8.ofInt 45).toInt32) X51 w65 X64 ∧ (if (w65).toInt = 0 then (∃ (w68 : Int32) (X67 : fx_X), gx_221 X64 w68 X67 ∧ (if (w68).toInt = 0 then (v = (Int32.ofInt 0) ∧ X' = X67) else (P 67 [(Int32.ofInt 0)] [] [] X67 v X'))) else (∃ (w72 : Int32) (X71 : fx_X), gx_215 (Int32.ofInt 2) (X64.1 117 27) X64 w72 X71 ∧ v = w72 ∧ X' = X71))))) else (∃ (w58 : Int32) (X57 : fx_X), gx_221 X51 w58 X57 ∧ (if (w58).toInt = 0 then (v = (Int32.ofInt 0) ∧ X' = X57) else (P 67 [(Int32.ofInt 0)] [] [] X57 v X'))))))))
def gxT_223_67 (p1 : Int32) (P : Nat → List Int32 → List Int64 → List Nat → fx_X → Int32 → fx_X → Prop) (y2 : Int32) (X : fx_X) (v : Int32) (X' : fx_X) : Prop :=
  (0 ≤ (p1).toInt ∧ (p1).toInt < ((16 : Nat) : Int)) ∧ (if (y2).toInt < ((X.1 120 (p1).toInt.toNat)).toInt then ((0 ≤ (((p1 * ((Int8.ofInt 64).toInt32)) + y2)).toInt ∧ (((p1 * ((Int8.ofInt 64).toInt32)) + y2)).toInt < ((1024 : Nat) : Int)) ∧ (if ((X.1 121 (((p1 * ((Int8.ofInt 64).toInt32)) + y2)).toInt.toNat)).toInt = ((X.1 117 35)).toInt then (∃ (w45 : Unit) (X44 : fx_X), gx_218 (Int32.ofInt 5) (X.1 117 36) X w45 X44 ∧ ∃ x46 : Int32, x46 = y2 + Int32.ofInt 1 ∧ P 67 [x46] [] [] X44 v X') else (∃ x42 : Int32, x42 = y2 + Int32.ofInt 1 ∧ P 67 [x42] [] [] X v X'))) else ((0 ≤ (p1).toInt ∧ (p1).toInt < ((16 : Nat) : Int)) ∧ (0 ≤ (((p1 * ((Int8.ofInt 64).toInt32)) + (X.1 120 (p1).toInt.toNat))).toInt ∧ (((p1 * ((Int8.ofInt 64).toInt32)) + (X.1 120 (p1).toInt.toNat))).toInt < ((1024 : Nat) : Int)) ∧ ∃ X34 : fx_X, X34 = (fx_wI X 121 (((p1 * ((Int8.ofInt 64).toInt32)) + (X.1 120 (p1).toInt.toNat))).toInt.toNat (X.1 117 35)) ∧ (0 ≤ (p1).toInt ∧ (p1).toInt < ((16 : Nat) : Int)) ∧ (0 ≤ (p1).toInt ∧ (p1).toInt < ((16 : Nat) : Int)) ∧ ∃ X38 : fx_X, X38 = (fx_wI X34 120 (p1).toInt.toNat ((X34.1 120 (p1).toInt.toNat) + (Int32.ofInt 1))) ∧ P 0 [] [] [] X38 v X'))
def gxE_223 (p1 : Int32) (P : Nat → List Int32 → List Int64 → List Nat → fx_X → Int32 → fx_X → Prop) (X : fx_X) (v : Int32) (X' : fx_X) : Prop :=
  ∃ (w3 : Int32) (X2 : fx_X), gx_220 ((Int8.ofInt 44).toInt32) X w3 X2 ∧ (if (w3).toInt = 0 then (v = (Int32.ofInt 1) ∧ X' = X2) else (∃ (w6 : Int32) (X5 : fx_X), gx_214 X2 w6 X5 ∧ (if (w6).toInt = 0 then (v = (Int32.ofInt 0) ∧ X' = X5) else ((0 ≤ (p1).toInt ∧ (p1).toInt < ((16 : Nat) : Int)) ∧ (if ((X5.1 120 (p1).toInt.toNat)).toInt = 16 then ((if ((X5.1 117 26)).toInt = 2 then (∃ (w17 : Int32) (X16 : fx_X), gx_215 (Int32.ofInt 2) (X5.1 117 27) X5 w17 X16 ∧ v = w17 ∧ X' = X16) else (∃ (w19 : Int32) (X18 : fx_X), gx_220 ((Int8.ofInt 45).toInt32) X5 w19 X18 ∧ (if (w19).toInt = 0 then (∃ (w22 : Int32) (X21 : fx_X), gx_221 X18 w22 X21 ∧ (if (w22).toInt = 0 then (v = (Int32.ofInt 0) ∧ X' = X21) else (P 67 [(Int32.ofInt 0)] [] [] X21 v X'))) else (∃ (w26 : Int32) (X25 : fx_X), gx_215 (Int32.ofInt 2) (X18.1 117 27) X18 w26 X25 ∧ v = w26 ∧ X' = X25))))) else (∃ (w12 : Int32) (X11 : fx_X), gx_221 X5 w12 X11 ∧ (if (w12).toInt = 0 then (v = (Int32.ofInt 0) ∧ X' = X11) else (P 67 [(Int32.ofInt 0)] [] [] X11 v X'))))))))
noncomputable def gxF_223 (p1 : Int32) (n : Nat) : Nat → List Int32 → List Int64 → List Nat → fx_X → Int32 → fx_X → Prop := Nat.rec (motive := fun _ => Nat → List Int32 → List Int64 → List Nat → fx_X → Int32 → fx_X → Prop) (fun _ _ _ _ _ _ _ => False) (fun _ P l is ls rs X v X' => (l = 0 ∧ is = [] ∧ ls = [] ∧ rs = [] ∧ gxT_223_0 p1 P X v X') ∨ (l = 67 ∧ ∃ (y2 : Int32), is = [y2] ∧ ls = [] ∧ rs = [] ∧ gxT_223_67 p1 P y2 X v X')) n
theorem gxI_223_0 {p1 : Int32} {n : Nat} {X : fx_X} {v : Int32} {X' : fx_X} (h : gxT_223_0 p1 (gxF_223 p1 n) X v X') : gxF_223 p1 (n + 1) 0 [] [] [] X v X' := Or.inl ⟨rfl, rfl, rfl, rfl, h⟩
theorem gxO_223_0 {p1 : Int32} {n : Nat} {X : fx_X} {v : Int32} {X' : fx_X} (h : gxF_223 p1 (n + 1) 0 [] [] [] X v X') : gxT_223_0 p1 (gxF_223 p1 n) X v X' := by
  rcases h with ⟨-, e1, e2, e3, h⟩ | ⟨e, -⟩
  · cases e1; cases e2; cases e3; exact h
  · exact absurd e (by decide)
theorem gxI_223_67 {p1 : Int32} {n : Nat} {y2 : Int32} {X : fx_X} {v : Int32} {X' : fx_X} (h : gxT_223_67 p1 (gxF_223 p1 n) y2 X v X') : gxF_223 p1 (n + 1) 67 [y2] [] [] X v X' := Or.inr (⟨rfl, y2, rfl, rfl, rfl, h⟩)
theorem gxO_223_67 {p1 : Int32} {n : Nat} {y2 : Int32} {X : fx_X} {v : Int32} {X' : fx_X} (h : gxF_223 p1 (n + 1) 67 [y2] [] [] X v X') : gxT_223_67 p1 (gxF_223 p1 n) y2 X v X' := by
  rcases h with ⟨e, -⟩ | ⟨-, _, e1, e2, e3, h⟩
  · exact absurd e (by decide)
  · cases e1; cases e2; cases e3; exact h
def gx_223 (p1 : Int32) (X : fx_X) (v : Int32) (X' : fx_X) : Prop := ∃ n : Nat, gxE_223 p1 (gxF_223 p1 n) X v X'
theorem gxL_223 {tb : aj_T} (p1 : Int32) : ∀ N : Nat, (∀ (lv : aj_V) (X : fx_X), aj_lv lv 0 = some (.ref 117) → aj_lv lv 1 = some (.int p1) → fx_W tb aj_m223 N 0 lv [] X (fx_Q fx_qI (fun v X' => ∃ n : Nat, gxF_223 p1 n 0 [] [] [] X v X'))) ∧ (∀ (lv : aj_V) (y2 : Int32) (X : fx_X), aj_lv lv 0 = some (.ref 117) → aj_lv lv 1 = some (.int p1) → aj_lv lv 2 = some (.int y2) → fx_W tb aj_m223 N 67 lv [] X (fx_Q fx_qI (fun v X' => ∃ n : Nat, gxF_223 p1 n 67 [y2] [] [] X v X'))) := by
  intro N
  induction N with
  | zero => exact ⟨(by intros; exact fx_z), (by intros; exact fx_z)⟩
  | succ N ih =>
    refine ⟨?_, ?_⟩
    · intro lv X hlv_0 hlv_1
      refine fx_mono (Q := fx_Q fx_qI (fun v X' => ∃ n : Nat, gxT_223_0 p1 (gxF_223 p1 n) X v X')) (fun r X' ⟨v, e, n, z⟩ => ⟨v, e, n + 1, gxI_223_0 z⟩) ?_
      unfold gxT_223_0
      refine fx_i2 aj_d223 rfl (Nat.le_refl _) (fun _ => rfl) hlv_0 ?_
      refine fx_n (pc' := 3) (lv' := lv) (st' := [.int ((Int8.ofInt 44).toInt32), .ref 117]) aj_d223 rfl (Nat.le_succ _) (fun _ => rfl) ?_
      refine fx_cv aj_d223 rfl (Nat.le_succ _) rfl [_] rfl rfl (gx_220_ok ((Int8.ofInt 44).toInt32)) ?_
      rintro _ X48 ⟨w49, rfl, hR48⟩ hok48 hle48
      refine fx_qc hR48 ?_
      show fx_W _ _ _ 6 lv [.int w49] _ _
      refine fx_b0 (tgt := 143) aj_d223 rfl (Nat.le_succ _) rfl (fun q50 => ?_) (fun q50 => ?_)
      · skip
        refine fx_qi (c := (w49).toInt = 0) (fx_t_eq q50) ?_
        show fx_W _ _ _ 143 lv [] _ _
        refine fx_n (pc' := 144) (lv' := lv) (st' := [.int (Int32.ofInt 1)]) aj_d223 rfl (Nat.le_succ _) (fun _ => rfl) ?_
        exact fx_ri aj_d223 rfl ⟨_, rfl, 0, rfl, rfl⟩
      · skip
        refine fx_qe (c := (w49).toInt = 0) (fx_f_eq q50) ?_
        show fx_W _ _ _ 9 lv [] _ _
        refine fx_i2 aj_d223 rfl (Nat.le_succ _) (fun _ => rfl) hlv_0 ?_
        refine fx_cv aj_d223 rfl (Nat.le_succ _) rfl [] rfl rfl (gx_214_ok) ?_
        rintro _ X51 ⟨w52, rfl, hR51⟩ hok51 hle51
        refine fx_qc hR51 ?_
        show fx_W _ _ _ 13 lv [.int w52] _ _
        refine fx_b0 (tgt := 18) aj_d223 rfl (Nat.le_succ _) rfl (fun q53 => ?_) (fun q53 => ?_)
        · skip
          refine fx_qe (c := (w52).toInt = 0) (fx_t_ne q53) ?_
          show fx_W _ _ _ 18 lv [] _ _
          refine fx_i2 aj_d223 rfl (Nat.le_succ _) (fun _ => rfl) hlv_0 ?_
          refine fx_gF aj_d223 rfl (Nat.le_succ _) rfl rfl fx_in_11_3 (t := 120) rfl (fun hA54 => ?_)
          refine fx_i0 aj_d223 rfl (Nat.le_succ _) (fun _ => rfl) hlv_1 ?_
          refine fx_ld aj_d223 (Or.inl rfl) rfl (Nat.le_succ _) (fun g550 g551 => ?_)
          show fx_W _ _ _ 24 lv [.int (X51.1 120 (p1).toInt.toNat)] _ _
          refine fx_qa (c := 0 ≤ (p1).toInt ∧ (p1).toInt < ((16 : Nat) : Int)) ⟨g550, fx_lnk g551 hA54⟩ ?_
          refine fx_n (pc' := 26) (lv' := lv) (st' := [.int ((Int8.ofInt 16).toInt32), .int (X51.1 120 (p1).toInt.toNat)]) aj_d223 rfl (Nat.le_succ _) (fun _ => rfl) ?_
          refine fx_b (tgt := 56) aj_d223 rfl (Nat.le_succ _) rfl (fun q56 => ?_) (fun q56 => ?_)
          · skip
            refine fx_qe (c := ((X51.1 120 (p1).toInt.toNat)).toInt = 16) (fx_t_ne q56) ?_
            show fx_W _ _ _ 56 lv [] _ _
            refine fx_i2 aj_d223 rfl (Nat.le_succ _) (fun _ => rfl) hlv_0 ?_
            refine fx_cv aj_d223 rfl (Nat.le_succ _) rfl [] rfl rfl (gx_221_ok) ?_
            rintro _ X57 ⟨w58, rfl, hR57⟩ hok57 hle57
            refine fx_qc hR57 ?_
            show fx_W _ _ _ 60 lv [.int w58] _ _
            refine fx_b0 (tgt := 65) aj_d223 rfl (Nat.le_succ _) rfl (fun q59 => ?_) (fun q59 => ?_)
            · skip
              refine fx_qe (c := (w58).toInt = 0) (fx_t_ne q59) ?_
              show fx_W _ _ _ 65 lv [] _ _
              refine fx_n (pc' := 66) (lv' := lv) (st' := [.int (Int32.ofInt 0)]) aj_d223 rfl (Nat.le_succ _) (fun _ => rfl) ?_
              refine fx_s0 (j := 2) aj_d223 rfl (Nat.le_succ _) (by decide) (fun _ => rfl) ?_
              obtain ⟨lv60, elv60⟩ : ∃ l, l = aj_set1 lv 2 (.int (Int32.ofInt 0)) := ⟨_, rfl⟩
              rw [← elv60]
              have hlv60_0 : aj_lv lv60 0 = some (.ref 117) := fx_e1 elv60 hlv_0 (by decide) (Or.inl (by decide))
              have hlv60_1 : aj_lv lv60 1 = some (.int p1) := fx_e1 elv60 hlv_1 (by decide) (Or.inr rfl)
              have hlv60_2 : aj_lv lv60 2 = some (.int (Int32.ofInt 0)) := by rw [elv60]; exact ak_set1_eq _ _ _
              show fx_W _ _ _ 67 lv60 [] _ _
              exact (ih.2) lv60 ((Int32.ofInt 0)) X57  hlv60_0 hlv60_1 hlv60_2
            · skip
              refine fx_qi (c := (w58).toInt = 0) (fx_f_ne q59) ?_
              show fx_W _ _ _ 63 lv [] _ _
              refine fx_n (pc' := 64) (lv' := lv) (st' := [.int (Int32.ofInt 0)]) aj_d223 rfl (Nat.le_succ _) (fun _ => rfl) ?_
              exact fx_ri aj_d223 rfl ⟨_, rfl, 0, rfl, rfl⟩
          · skip
            refine fx_qi (c := ((X51.1 120 (p1).toInt.toNat)).toInt = 16) (fx_f_ne q56) ?_
            show fx_W _ _ _ 29 lv [] _ _
            refine fx_i2 aj_d223 rfl (Nat.le_succ _) (fun _ => rfl) hlv_0 ?_
            refine fx_gI aj_d223 rfl (Nat.le_succ _) rfl rfl (Or.inl rfl) ?_
            refine fx_n (pc' := 34) (lv' := lv) (st' := [.int (Int32.ofInt 2), .int (X51.1 117 26)]) aj_d223 rfl (Nat.le_succ _) (fun _ => rfl) ?_
            refine fx_b (tgt := 46) aj_d223 rfl (Nat.le_succ _) rfl (fun q61 => ?_) (fun q61 => ?_)
            · skip
              refine fx_qi (c := ((X51.1 117 26)).toInt = 2) (fx_t_eq q61) ?_
              show fx_W _ _ _ 46 lv [] _ _
              refine fx_i2 aj_d223 rfl (Nat.le_succ _) (fun _ => rfl) hlv_0 ?_
              refine fx_n (pc' := 48) (lv' := lv) (st' := [.int (Int32.ofInt 2), .ref 117]) aj_d223 rfl (Nat.le_succ _) (fun _ => rfl) ?_
              refine fx_i2 aj_d223 rfl (Nat.le_succ _) (fun _ => rfl) hlv_0 ?_
              refine fx_gI aj_d223 rfl (Nat.le_succ _) rfl rfl (Or.inl rfl) ?_
              refine fx_cv aj_d223 rfl (Nat.le_succ _) rfl [_, _] rfl rfl (gx_215_ok (Int32.ofInt 2) (X51.1 117 27)) ?_
              rintro _ X62 ⟨w63, rfl, hR62⟩ hok62 hle62
              refine fx_qc hR62 ?_
              show fx_W _ _ _ 55 lv [.int w63] _ _
              exact fx_ri aj_d223 rfl ⟨_, rfl, 0, rfl, rfl⟩
            · skip
              refine fx_qe (c := ((X51.1 117 26)).toInt = 2) (fx_f_eq q61) ?_
              show fx_W _ _ _ 37 lv [] _ _
              refine fx_i2 aj_d223 rfl (Nat.le_succ _) (fun _ => rfl) hlv_0 ?_
              refine fx_n (pc' := 40) (lv' := lv) (st' := [.int ((Int8.ofInt 45).toInt32), .ref 117]) aj_d223 rfl (Nat.le_succ _) (fun _ => rfl) ?_
              refine fx_cv aj_d223 rfl (Nat.le_succ _) rfl [_] rfl rfl (gx_220_ok ((Int8.ofInt 45).toInt32)) ?_
              rintro _ X64 ⟨w65, rfl, hR64⟩ hok64 hle64
              refine fx_qc hR64 ?_
              show fx_W _ _ _ 43 lv [.int w65] _ _
              refine fx_b0 (tgt := 56) aj_d223 rfl (Nat.le_succ _) rfl (fun q66 => ?_) (fun q66 => ?_)
              · skip
                refine fx_qi (c := (w65).toInt = 0) (fx_t_eq q66) ?_
                show fx_W _ _ _ 56 lv [] _ _
                refine fx_i2 aj_d223 rfl (Nat.le_succ _) (fun _ => rfl) hlv_0 ?_
                refine fx_cv aj_d223 rfl (Nat.le_succ _) rfl [] rfl rfl (gx_221_ok) ?_
                rintro _ X67 ⟨w68, rfl, hR67⟩ hok67 hle67
                refine fx_qc hR67 ?_
                show fx_W _ _ _ 60 lv [.int w68] _ _
                refine fx_b0 (tgt := 65) aj_d223 rfl (Nat.le_succ _) rfl (fun q69 => ?_) (fun q69 => ?_)
                · skip
                  refine fx_qe (c := (w68).toInt = 0) (fx_t_ne q69) ?_
                  show fx_W _ _ _ 65 lv [] _ _
                  refine fx_n (pc' := 66) (lv' := lv) (st' := [.int (Int32.ofInt 0)]) aj_d223 rfl (Nat.le_succ _) (fun _ => rfl) ?_
                  refine fx_s0 (j := 2) aj_d223 rfl (Nat.le_succ _) (by decide) (fun _ => rfl) ?_
                  obtain ⟨lv70, elv70⟩ : ∃ l, l = aj_set1 lv 2 (.int (Int32.ofInt 0)) := ⟨_, rfl⟩
                  rw [← elv70]
                  have hlv70_0 : aj_lv lv70 0 = some (.ref 117) := fx_e1 elv70 hlv_0 (by decide) (Or.inl (by decide))
                  have hlv70_1 : aj_lv lv70 1 = some (.int p1) := fx_e1 elv70 hlv_1 (by decide) (Or.inr rfl)
                  have hlv70_2 : aj_lv lv70 2 = some (.int (Int32.ofInt 0)) := by rw [elv70]; exact ak_set1_eq _ _ _
                  show fx_W _ _ _ 67 lv70 [] _ _
                  exact (ih.2) lv70 ((Int32.ofInt 0)) X67  hlv70_0 hlv70_1 hlv70_2
                · skip
                  refine fx_qi (c := (w68).toInt = 0) (fx_f_ne q69) ?_
                  show fx_W _ _ _ 63 lv [] _ _
                  refine fx_n (pc' := 64) (lv' := lv) (st' := [.int (Int32.ofInt 0)]) aj_d223 rfl (Nat.le_succ _) (fun _ => rfl) ?_
                  exact fx_ri aj_d223 rfl ⟨_, rfl, 0, rfl, rfl⟩
              · skip
                refine fx_qe (c := (w65).toInt = 0) (fx_f_eq q66) ?_
                show fx_W _ _ _ 46 lv [] _ _
                refine fx_i2 aj_d223 rfl (Nat.le_succ _) (fun _ => rfl) hlv_0 ?_
                refine fx_n (pc' := 48) (lv' := lv) (st' := [.int (Int32.ofInt 2), .ref 117]) aj_d223 rfl (Nat.le_succ _) (fun _ => rfl) ?_
                refine fx_i2 aj_d223 rfl (Nat.le_succ _) (fun _ => rfl) hlv_0 ?_
                refine fx_gI aj_d223 rfl (Nat.le_succ _) rfl rfl (Or.inl rfl) ?_
                refine fx_cv aj_d223 rfl (Nat.le_succ _) rfl [_, _] rfl rfl (gx_215_ok (Int32.ofInt 2) (X64.1 117 27)) ?_
                rintro _ X71 ⟨w72, rfl, hR71⟩ hok71 hle71
                refine fx_qc hR71 ?_
                show fx_W _ _ _ 55 lv [.int w72] _ _
                exact fx_ri aj_d223 rfl ⟨_, rfl, 0, rfl, rfl⟩
        · skip
          refine fx_qi (c := (w52).toInt = 0) (fx_f_ne q53) ?_
          show fx_W _ _ _ 16 lv [] _ _
          refine fx_n (pc' := 17) (lv' := lv) (st' := [.int (Int32.ofInt 0)]) aj_d223 rfl (Nat.le_succ _) (fun _ => rfl) ?_
          exact fx_ri aj_d223 rfl ⟨_, rfl, 0, rfl, rfl⟩
    · intro lv y2 X hlv_0 hlv_1 hlv_2
      refine fx_mono (Q := fx_Q fx_qI (fun v X' => ∃ n : Nat, gxT_223_67 p1 (gxF_223 p1 n) y2 X v X')) (fun r X' ⟨v, e, n, z⟩ => ⟨v, e, n + 1, gxI_223_67 z⟩) ?_
      unfold gxT_223_67
      refine fx_i0 aj_d223 rfl (Nat.le_refl _) (fun _ => rfl) hlv_2 ?_
      refine fx_i2 aj_d223 rfl (Nat.le_succ _) (fun _ => rfl) hlv_0 ?_
      refine fx_gF aj_d223 rfl (Nat.le_succ _) rfl rfl fx_in_11_3 (t := 120) rfl (fun hA27 => ?_)
      refine fx_i0 aj_d223 rfl (Nat.le_succ _) (fun _ => rfl) hlv_1 ?_
      refine fx_ld aj_d223 (Or.inl rfl) rfl (Nat.le_succ _) (fun g280 g281 => ?_)
      show fx_W _ _ _ 74 lv [.int (X.1 120 (p1).toInt.toNat), .int y2] _ _
      refine fx_qa (c := 0 ≤ (p1).toInt ∧ (p1).toInt < ((16 : Nat) : Int)) ⟨g280, fx_lnk g281 hA27⟩ ?_
      refine fx_b (tgt := 110) aj_d223 rfl (Nat.le_succ _) rfl (fun q29 => ?_) (fun q29 => ?_)
      · skip
        refine fx_qe (c := (y2).toInt < ((X.1 120 (p1).toInt.toNat)).toInt) (fx_t_ge q29) ?_
        show fx_W _ _ _ 110 lv [] _ _
        refine fx_i2 aj_d223 rfl (Nat.le_succ _) (fun _ => rfl) hlv_0 ?_
        refine fx_gF aj_d223 rfl (Nat.le_succ _) rfl rfl fx_in_11_4 (t := 121) rfl (fun hA30 => ?_)
        refine fx_i0 aj_d223 rfl (Nat.le_succ _) (fun _ => rfl) hlv_1 ?_
        refine fx_n (pc' := 117) (lv' := lv) (st' := [.int ((Int8.ofInt 64).toInt32), .int p1, .ref 121]) aj_d223 rfl (Nat.le_succ _) (fun _ => rfl) ?_
        refine fx_n (pc' := 118) (lv' := lv) (st' := [.int (p1 * ((Int8.ofInt 64).toInt32)), .ref 121]) aj_d223 rfl (Nat.le_succ _) (fun _ => rfl) ?_
        refine fx_i2 aj_d223 rfl (Nat.le_succ _) (fun _ => rfl) hlv_0 ?_
        refine fx_gF aj_d223 rfl (Nat.le_succ _) rfl rfl fx_in_11_3 (t := 120) rfl (fun hA31 => ?_)
        refine fx_i0 aj_d223 rfl (Nat.le_succ _) (fun _ => rfl) hlv_1 ?_
        refine fx_ld aj_d223 (Or.inl rfl) rfl (Nat.le_succ _) (fun g320 g321 => ?_)
        show fx_W _ _ _ 124 lv [.int (X.1 120 (p1).toInt.toNat), .int (p1 * ((Int8.ofInt 64).toInt32)), .ref 121] _ _
        refine fx_qa (c := 0 ≤ (p1).toInt ∧ (p1).toInt < ((16 : Nat) : Int)) ⟨g320, fx_lnk g321 hA31⟩ ?_
        refine fx_n (pc' := 125) (lv' := lv) (st' := [.int ((p1 * ((Int8.ofInt 64).toInt32)) + (X.1 120 (p1).toInt.toNat)), .ref 121]) aj_d223 rfl (Nat.le_succ _) (fun _ => rfl) ?_
        refine fx_i2 aj_d223 rfl (Nat.le_succ _) (fun _ => rfl) hlv_0 ?_
        refine fx_gI aj_d223 rfl (Nat.le_succ _) rfl rfl (Or.inl rfl) ?_
        refine fx_st aj_d223 (Or.inl ⟨rfl, rfl⟩) rfl (Nat.le_succ _) (fun g330 g331 => ?_)
        show fx_W _ _ _ _ _ _ (fx_wI X 121 (((p1 * ((Int8.ofInt 64).toInt32)) + (X.1 120 (p1).toInt.toNat))).toInt.toNat (X.1 117 35)) _
        refine fx_qa (c := 0 ≤ (((p1 * ((Int8.ofInt 64).toInt32)) + (X.1 120 (p1).toInt.toNat))).toInt ∧ (((p1 * ((Int8.ofInt 64).toInt32)) + (X.1 120 (p1).toInt.toNat))).toInt < ((1024 : Nat) : Int)) ⟨g330, fx_lnk g331 hA30⟩ ?_
        refine fx_qX (fun X34 eX34 => ?_)
        show fx_W _ _ _ 130 lv [] _ _
        refine fx_i2 aj_d223 rfl (Nat.le_succ _) (fun _ => rfl) hlv_0 ?_
        refine fx_gF aj_d223 rfl (Nat.le_succ _) rfl rfl fx_in_11_3 (t := 120) rfl (fun hA35 => ?_)
        refine fx_i0 aj_d223 rfl (Nat.le_succ _) (fun _ => rfl) hlv_1 ?_
        refine fx_n (pc' := 136) (lv' := lv) (st' := [.int p1, .ref 120, .int p1, .ref 120]) aj_d223 rfl (Nat.le_succ _) (fun _ => rfl) ?_
        refine fx_ld aj_d223 (Or.inl rfl) rfl (Nat.le_succ _) (fun g360 g361 => ?_)
        show fx_W _ _ _ 137 lv [.int (X34.1 120 (p1).toInt.toNat), .int p1, .ref 120] _ _
        refine fx_qa (c := 0 ≤ (p1).toInt ∧ (p1).toInt < ((16 : Nat) : Int)) ⟨g360, fx_lnk g361 hA35⟩ ?_
        refine fx_n (pc' := 138) (lv' := lv) (st' := [.int (Int32.ofInt 1), .int (X34.1 120 (p1).toInt.toNat), .int p1, .ref 120]) aj_d223 rfl (Nat.le_succ _) (fun _ => rfl) ?_
        refine fx_n (pc' := 139) (lv' := lv) (st' := [.int ((X34.1 120 (p1).toInt.toNat) + (Int32.ofInt 1)), .int p1, .ref 120]) aj_d223 rfl (Nat.le_succ _) (fun _ => rfl) ?_
        refine fx_st aj_d223 (Or.inl ⟨rfl, rfl⟩) rfl (Nat.le_succ _) (fun g370 g371 => ?_)
        show fx_W _ _ _ _ _ _ (fx_wI X34 120 (p1).toInt.toNat ((X34.1 120 (p1).toInt.toNat) + (Int32.ofInt 1))) _
        refine fx_qa (c := 0 ≤ (p1).toInt ∧ (p1).toInt < ((16 : Nat) : Int)) ⟨g370, fx_lnk g371 hA35⟩ ?_
        refine fx_qX (fun X38 eX38 => ?_)
        show fx_W _ _ _ 140 lv [] _ _
        refine fx_n (pc' := 0) (lv' := lv) (st' := []) aj_d223 rfl (Nat.le_succ _) (fun _ => rfl) ?_
        exact (ih.1) lv X38  hlv_0 hlv_1
      · skip
        refine fx_qi (c := (y2).toInt < ((X.1 120 (p1).toInt.toNat)).toInt) (fx_f_ge q29) ?_
        show fx_W _ _ _ 77 lv [] _ _
        refine fx_i2 aj_d223 rfl (Nat.le_succ _) (fun _ => rfl) hlv_0 ?_
        refine fx_gF aj_d223 rfl (Nat.le_succ _) rfl rfl fx_in_11_4 (t := 121) rfl (fun hA39 => ?_)
        refine fx_i0 aj_d223 rfl (Nat.le_succ _) (fun _ => rfl) hlv_1 ?_
        refine fx_n (pc' := 84) (lv' := lv) (st' := [.int ((Int8.ofInt 64).toInt32), .int p1, .ref 121]) aj_d223 rfl (Nat.le_succ _) (fun _ => rfl) ?_
        refine fx_n (pc' := 85) (lv' := lv) (st' := [.int (p1 * ((Int8.ofInt 64).toInt32)), .ref 121]) aj_d223 rfl (Nat.le_succ _) (fun _ => rfl) ?_
        refine fx_i0 aj_d223 rfl (Nat.le_succ _) (fun _ => rfl) hlv_2 ?_
        refine fx_n (pc' := 87) (lv' := lv) (st' := [.int ((p1 * ((Int8.ofInt 64).toInt32)) + y2), .ref 121]) aj_d223 rfl (Nat.le_succ _) (fun _ => rfl) ?_
        refine fx_ld aj_d223 (Or.inl rfl) rfl (Nat.le_succ _) (fun g400 g401 => ?_)
        show fx_W _ _ _ 88 lv [.int (X.1 121 (((p1 * ((Int8.ofInt 64).toInt32)) + y2)).toInt.toNat)] _ _
        refine fx_qa (c := 0 ≤ (((p1 * ((Int8.ofInt 64).toInt32)) + y2)).toInt ∧ (((p1 * ((Int8.ofInt 64).toInt32)) + y2)).toInt < ((1024 : Nat) : Int)) ⟨g400, fx_lnk g401 hA39⟩ ?_
        refine fx_i2 aj_d223 rfl (Nat.le_succ _) (fun _ => rfl) hlv_0 ?_
        refine fx_gI aj_d223 rfl (Nat.le_succ _) rfl rfl (Or.inl rfl) ?_
        refine fx_b (tgt := 104) aj_d223 rfl (Nat.le_succ _) rfl (fun q41 => ?_) (fun q41 => ?_)
        · skip
          refine fx_qe (c := ((X.1 121 (((p1 * ((Int8.ofInt 64).toInt32)) + y2)).toInt.toNat)).toInt = ((X.1 117 35)).toInt) (fx_t_ne q41) ?_
          show fx_W _ _ _ 104 lv [] _ _
          refine fx_incq aj_d223 rfl (Nat.le_succ _) hlv_2 (by decide) (fun x42 ex42 => ?_)
          obtain ⟨lv43, elv43⟩ : ∃ l, l = aj_set1 lv 2 (.int x42) := ⟨_, rfl⟩
          rw [← elv43]
          have hlv43_0 : aj_lv lv43 0 = some (.ref 117) := fx_e1 elv43 hlv_0 (by decide) (Or.inl (by decide))
          have hlv43_1 : aj_lv lv43 1 = some (.int p1) := fx_e1 elv43 hlv_1 (by decide) (Or.inr rfl)
          have hlv43_2 : aj_lv lv43 2 = some (.int x42) := by rw [elv43]; exact ak_set1_eq _ _ _
          show fx_W _ _ _ 107 lv43 [] _ _
          refine fx_n (pc' := 67) (lv' := lv43) (st' := []) aj_d223 rfl (Nat.le_succ _) (fun _ => rfl) ?_
          exact (ih.2) lv43 (x42) X  hlv43_0 hlv43_1 hlv43_2
        · skip
          refine fx_qi (c := ((X.1 121 (((p1 * ((Int8.ofInt 64).toInt32)) + y2)).toInt.toNat)).toInt = ((X.1 117 35)).toInt) (fx_f_ne q41) ?_
          show fx_W _ _ _ 95 lv [] _ _
          refine fx_i2 aj_d223 rfl (Nat.le_succ _) (fun _ => rfl) hlv_0 ?_
          refine fx_n (pc' := 97) (lv' := lv) (st' := [.int (Int32.ofInt 5), .ref 117]) aj_d223 rfl (Nat.le_succ _) (fun _ => rfl) ?_
          refine fx_i2 aj_d223 rfl (Nat.le_succ _) (fun _ => rfl) hlv_0 ?_
          refine fx_gI aj_d223 rfl (Nat.le_succ _) rfl rfl (Or.inl rfl) ?_
          refine fx_cv aj_d223 rfl (Nat.le_succ _) rfl [_, _] rfl rfl (gx_218_ok (Int32.ofInt 5) (X.1 117 36)) ?_
          rintro _ X44 ⟨w45, rfl, hR44⟩ hok44 hle44
          refine fx_qc hR44 ?_
          show fx_W _ _ _ 104 lv [] _ _
          refine fx_incq aj_d223 rfl (Nat.le_succ _) hlv_2 (by decide) (fun x46 ex46 => ?_)
          obtain ⟨lv47, elv47⟩ : ∃ l, l = aj_set1 lv 2 (.int x46) := ⟨_, rfl⟩
          rw [← elv47]
          have hlv47_0 : aj_lv lv47 0 = some (.ref 117) := fx_e1 elv47 hlv_0 (by decide) (Or.inl (by decide))
          have hlv47_1 : aj_lv lv47 1 = some (.int p1) := fx_e1 elv47 hlv_1 (by decide) (Or.inr rfl)
          have hlv47_2 : aj_lv lv47 2 = some (.int x46) := by rw [elv47]; exact ak_set1_eq _ _ _
          show fx_W _ _ _ 107 lv47 [] _ _
          refine fx_n (pc' := 67) (lv' := lv47) (st' := []) aj_d223 rfl (Nat.le_succ _) (fun _ => rfl) ?_
          exact (ih.2) lv47 (x46) X44  hlv47_0 hlv47_1 hlv47_2
theorem gx_223_ok {tb : aj_T} (p1 : Int32) {X : fx_X} : fx_K tb 223 [.ref 117, .int p1] X (fx_Q fx_qI (fun v X' => gx_223 p1 X v X')) := by
  refine fx_m aj_m223_at rfl (fun N => ?_)
  refine fx_mono (Q := fx_Q fx_qI (fun v X' => ∃ n : Nat, gxE_223 p1 (gxF_223 p1 n) X v X')) (fun r X' h => h) ?_
  unfold gxE_223
  show fx_W _ _ _ 0 [(0, .ref 117), (1, .int p1)] [] _ _
  obtain ⟨lv1, elv1⟩ : ∃ l : aj_V, l = [(0, .ref 117), (1, .int p1)] := ⟨_, rfl⟩
  rw [← elv1]
  have hlv1_0 : aj_lv lv1 0 = some (.ref 117) := by rw [elv1]; rfl
  have hlv1_1 : aj_lv lv1 1 = some (.int p1) := by rw [elv1]; rfl
  refine fx_i2 aj_d223 rfl (Nat.le_succ _) (fun _ => rfl) hlv1_0 ?_
  refine fx_n (pc' := 3) (lv' := lv1) (st' := [.int ((Int8.ofInt 44).toInt32), .ref 117]) aj_d223 rfl (Nat.le_succ _) (fun _ => rfl) ?_
  refine fx_cv aj_d223 rfl (Nat.le_succ _) rfl [_] rfl rfl (gx_220_ok ((Int8.ofInt 44).toInt32)) ?_
  rintro _ X2 ⟨w3, rfl, hR2⟩ hok2 hle2
  refine fx_qc hR2 ?_
  show fx_W _ _ _ 6 lv1 [.int w3] _ _
  refine fx_b0 (tgt := 143) aj_d223 rfl (Nat.le_succ _) rfl (fun q4 => ?_) (fun q4 => ?_)
  · skip
    refine fx_qi (c := (w3).toInt = 0) (fx_t_eq q4) ?_
    show fx_W _ _ _ 143 lv1 [] _ _
    refine fx_n (pc' := 144) (lv' := lv1) (st' := [.int (Int32.ofInt 1)]) aj_d223 rfl (Nat.le_succ _) (fun _ => rfl) ?_
    exact fx_ri aj_d223 rfl ⟨_, rfl, 0, rfl, rfl⟩
  · skip
    refine fx_qe (c := (w3).toInt = 0) (fx_f_eq q4) ?_
    show fx_W _ _ _ 9 lv1 [] _ _
    refine fx_i2 aj_d223 rfl (Nat.le_succ _) (fun _ => rfl) hlv1_0 ?_
    refine fx_cv aj_d223 rfl (Nat.le_succ _) rfl [] rfl rfl (gx_214_ok) ?_
    rintro _ X5 ⟨w6, rfl, hR5⟩ hok5 hle5
    refine fx_qc hR5 ?_
    show fx_W _ _ _ 13 lv1 [.int w6] _ _
    refine fx_b0 (tgt := 18) aj_d223 rfl (Nat.le_succ _) rfl (fun q7 => ?_) (fun q7 => ?_)
    · skip
      refine fx_qe (c := (w6).toInt = 0) (fx_t_ne q7) ?_
      show fx_W _ _ _ 18 lv1 [] _ _
      refine fx_i2 aj_d223 rfl (Nat.le_succ _) (fun _ => rfl) hlv1_0 ?_
      refine fx_gF aj_d223 rfl (Nat.le_succ _) rfl rfl fx_in_11_3 (t := 120) rfl (fun hA8 => ?_)
      refine fx_i0 aj_d223 rfl (Nat.le_succ _) (fun _ => rfl) hlv1_1 ?_
      refine fx_ld aj_d223 (Or.inl rfl) rfl (Nat.le_succ _) (fun g90 g91 => ?_)
      show fx_W _ _ _ 24 lv1 [.int (X5.1 120 (p1).toInt.toNat)] _ _
      refine fx_qa (c := 0 ≤ (p1).toInt ∧ (p1).toInt < ((16 : Nat) : Int)) ⟨g90, fx_lnk g91 hA8⟩ ?_
      refine fx_n (pc' := 26) (lv' := lv1) (st' := [.int ((Int8.ofInt 16).toInt32), .int (X5.1 120 (p1).toInt.toNat)]) aj_d223 rfl (Nat.le_succ _) (fun _ => rfl) ?_
      refine fx_b (tgt := 56) aj_d223 rfl (Nat.le_succ _) rfl (fun q10 => ?_) (fun q10 => ?_)
      · skip
        refine fx_qe (c := ((X5.1 120 (p1).toInt.toNat)).toInt = 16) (fx_t_ne q10) ?_
        show fx_W _ _ _ 56 lv1 [] _ _
        refine fx_i2 aj_d223 rfl (Nat.le_succ _) (fun _ => rfl) hlv1_0 ?_
        refine fx_cv aj_d223 rfl (Nat.le_succ _) rfl [] rfl rfl (gx_221_ok) ?_
        rintro _ X11 ⟨w12, rfl, hR11⟩ hok11 hle11
        refine fx_qc hR11 ?_
        show fx_W _ _ _ 60 lv1 [.int w12] _ _
        refine fx_b0 (tgt := 65) aj_d223 rfl (Nat.le_succ _) rfl (fun q13 => ?_) (fun q13 => ?_)
        · skip
          refine fx_qe (c := (w12).toInt = 0) (fx_t_ne q13) ?_
          show fx_W _ _ _ 65 lv1 [] _ _
          refine fx_n (pc' := 66) (lv' := lv1) (st' := [.int (Int32.ofInt 0)]) aj_d223 rfl (Nat.le_succ _) (fun _ => rfl) ?_
          refine fx_s0 (j := 2) aj_d223 rfl (Nat.le_succ _) (by decide) (fun _ => rfl) ?_
          obtain ⟨lv14, elv14⟩ : ∃ l, l = aj_set1 lv1 2 (.int (Int32.ofInt 0)) := ⟨_, rfl⟩
          rw [← elv14]
          have hlv14_0 : aj_lv lv14 0 = some (.ref 117) := fx_e1 elv14 hlv1_0 (by decide) (Or.inl (by decide))
          have hlv14_1 : aj_lv lv14 1 = some (.int p1) := fx_e1 elv14 hlv1_1 (by decide) (Or.inr rfl)
          have hlv14_2 : aj_lv lv14 2 = some (.int (Int32.ofInt 0)) := by rw [elv14]; exact ak_set1_eq _ _ _
          show fx_W _ _ _ 67 lv14 [] _ _
          exact ((gxL_223 p1 N).2) lv14 ((Int32.ofInt 0)) X11  hlv14_0 hlv14_1 hlv14_2
        · skip
          refine fx_qi (c := (w12).toInt = 0) (fx_f_ne q13) ?_
          show fx_W _ _ _ 63 lv1 [] _ _
          refine fx_n (pc' := 64) (lv' := lv1) (st' := [.int (Int32.ofInt 0)]) aj_d223 rfl (Nat.le_succ _) (fun _ => rfl) ?_
          exact fx_ri aj_d223 rfl ⟨_, rfl, 0, rfl, rfl⟩
      · skip
        refine fx_qi (c := ((X5.1 120 (p1).toInt.toNat)).toInt = 16) (fx_f_ne q10) ?_
        show fx_W _ _ _ 29 lv1 [] _ _
        refine fx_i2 aj_d223 rfl (Nat.le_succ _) (fun _ => rfl) hlv1_0 ?_
        refine fx_gI aj_d223 rfl (Nat.le_succ _) rfl rfl (Or.inl rfl) ?_
        refine fx_n (pc' := 34) (lv' := lv1) (st' := [.int (Int32.ofInt 2), .int (X5.1 117 26)]) aj_d223 rfl (Nat.le_succ _) (fun _ => rfl) ?_
        refine fx_b (tgt := 46) aj_d223 rfl (Nat.le_succ _) rfl (fun q15 => ?_) (fun q15 => ?_)
        · skip
          refine fx_qi (c := ((X5.1 117 26)).toInt = 2) (fx_t_eq q15) ?_
          show fx_W _ _ _ 46 lv1 [] _ _
          refine fx_i2 aj_d223 rfl (Nat.le_succ _) (fun _ => rfl) hlv1_0 ?_
          refine fx_n (pc' := 48) (lv' := lv1) (st' := [.int (Int32.ofInt 2), .ref 117]) aj_d223 rfl (Nat.le_succ _) (fun _ => rfl) ?_
          refine fx_i2 aj_d223 rfl (Nat.le_succ _) (fun _ => rfl) hlv1_0 ?_
          refine fx_gI aj_d223 rfl (Nat.le_succ _) rfl rfl (Or.inl rfl) ?_
          refine fx_cv aj_d223 rfl (Nat.le_succ _) rfl [_, _] rfl rfl (gx_215_ok (Int32.ofInt 2) (X5.1 117 27)) ?_
          rintro _ X16 ⟨w17, rfl, hR16⟩ hok16 hle16
          refine fx_qc hR16 ?_
          show fx_W _ _ _ 55 lv1 [.int w17] _ _
          exact fx_ri aj_d223 rfl ⟨_, rfl, 0, rfl, rfl⟩
        · skip
          refine fx_qe (c := ((X5.1 117 26)).toInt = 2) (fx_f_eq q15) ?_
          show fx_W _ _ _ 37 lv1 [] _ _
          refine fx_i2 aj_d223 rfl (Nat.le_succ _) (fun _ => rfl) hlv1_0 ?_
          refine fx_n (pc' := 40) (lv' := lv1) (st' := [.int ((Int8.ofInt 45).toInt32), .ref 117]) aj_d223 rfl (Nat.le_succ _) (fun _ => rfl) ?_
          refine fx_cv aj_d223 rfl (Nat.le_succ _) rfl [_] rfl rfl (gx_220_ok ((Int8.ofInt 45).toInt32)) ?_
          rintro _ X18 ⟨w19, rfl, hR18⟩ hok18 hle18
          refine fx_qc hR18 ?_
          show fx_W _ _ _ 43 lv1 [.int w19] _ _
          refine fx_b0 (tgt := 56) aj_d223 rfl (Nat.le_succ _) rfl (fun q20 => ?_) (fun q20 => ?_)
          · skip
            refine fx_qi (c := (w19).toInt = 0) (fx_t_eq q20) ?_
            show fx_W _ _ _ 56 lv1 [] _ _
            refine fx_i2 aj_d223 rfl (Nat.le_succ _) (fun _ => rfl) hlv1_0 ?_
            refine fx_cv aj_d223 rfl (Nat.le_succ _) rfl [] rfl rfl (gx_221_ok) ?_
            rintro _ X21 ⟨w22, rfl, hR21⟩ hok21 hle21
            refine fx_qc hR21 ?_
            show fx_W _ _ _ 60 lv1 [.int w22] _ _
            refine fx_b0 (tgt := 65) aj_d223 rfl (Nat.le_succ _) rfl (fun q23 => ?_) (fun q23 => ?_)
            · skip
              refine fx_qe (c := (w22).toInt = 0) (fx_t_ne q23) ?_
              show fx_W _ _ _ 65 lv1 [] _ _
              refine fx_n (pc' := 66) (lv' := lv1) (st' := [.int (Int32.ofInt 0)]) aj_d223 rfl (Nat.le_succ _) (fun _ => rfl) ?_
              refine fx_s0 (j := 2) aj_d223 rfl (Nat.le_succ _) (by decide) (fun _ => rfl) ?_
              obtain ⟨lv24, elv24⟩ : ∃ l, l = aj_set1 lv1 2 (.int (Int32.ofInt 0)) := ⟨_, rfl⟩
              rw [← elv24]
              have hlv24_0 : aj_lv lv24 0 = some (.ref 117) := fx_e1 elv24 hlv1_0 (by decide) (Or.inl (by decide))
              have hlv24_1 : aj_lv lv24 1 = some (.int p1) := fx_e1 elv24 hlv1_1 (by decide) (Or.inr rfl)
              have hlv24_2 : aj_lv lv24 2 = some (.int (Int32.ofInt 0)) := by rw [elv24]; exact ak_set1_eq _ _ _
              show fx_W _ _ _ 67 lv24 [] _ _
              exact ((gxL_223 p1 N).2) lv24 ((Int32.ofInt 0)) X21  hlv24_0 hlv24_1 hlv24_2
            · skip
              refine fx_qi (c := (w22).toInt = 0) (fx_f_ne q23) ?_
              show fx_W _ _ _ 63 lv1 [] _ _
              refine fx_n (pc' := 64) (lv' := lv1) (st' := [.int (Int32.ofInt 0)]) aj_d223 rfl (Nat.le_succ _) (fun _ => rfl) ?_
              exact fx_ri aj_d223 rfl ⟨_, rfl, 0, rfl, rfl⟩
          · skip
            refine fx_qe (c := (w19).toInt = 0) (fx_f_eq q20) ?_
            show fx_W _ _ _ 46 lv1 [] _ _
            refine fx_i2 aj_d223 rfl (Nat.le_succ _) (fun _ => rfl) hlv1_0 ?_
            refine fx_n (pc' := 48) (lv' := lv1) (st' := [.int (Int32.ofInt 2), .ref 117]) aj_d223 rfl (Nat.le_succ _) (fun _ => rfl) ?_
            refine fx_i2 aj_d223 rfl (Nat.le_succ _) (fun _ => rfl) hlv1_0 ?_
            refine fx_gI aj_d223 rfl (Nat.le_succ _) rfl rfl (Or.inl rfl) ?_
            refine fx_cv aj_d223 rfl (Nat.le_succ _) rfl [_, _] rfl rfl (gx_215_ok (Int32.ofInt 2) (X18.1 117 27)) ?_
            rintro _ X25 ⟨w26, rfl, hR25⟩ hok25 hle25
            refine fx_qc hR25 ?_
            show fx_W _ _ _ 55 lv1 [.int w26] _ _
            exact fx_ri aj_d223 rfl ⟨_, rfl, 0, rfl, rfl⟩
    · skip
      refine fx_qi (c := (w6).toInt = 0) (fx_f_ne q7) ?_
      show fx_W _ _ _ 16 lv1 [] _ _
      refine fx_n (pc' := 17) (lv' := lv1) (st' := [.int (Int32.ofInt 0)]) aj_d223 rfl (Nat.le_succ _) (fun _ => rfl) ?_
      exact fx_ri aj_d223 rfl ⟨_, rfl, 0, rfl, rfl⟩
def gxT_222_72 (p1 : Int32) (P : Nat → List Int32 → List Int64 → List Nat → fx_X → Int32 → fx_X → Prop) (y2 : Int32) (y3 : Int32) (X : fx_X) (v : Int32) (X' : fx_X) : Prop :=
  (0 ≤ (p1).toInt ∧ (p1).toInt < ((16 : Nat) : Int)) ∧ (if (y3).toInt < ((X.1 120 (p1).toInt.toNat)).toInt then ((0 ≤ (((p1 * ((Int8.ofInt 64).toInt32)) + y3)).toInt ∧ (((p1 * ((Int8.ofInt 64).toInt32)) + y3)).toInt < ((1024 : Nat) : Int)) ∧ ∃ X27 : fx_X, X27 = (fx_wI X 121 (((p1 * ((Int8.ofInt 64).toInt32)) + y3)).toInt.toNat (y2 + y3)) ∧ ∃ x28 : Int32, x28 = y3 + Int32.ofInt 1 ∧ P 72 [y2, x28] [] [] X27 v X') else (v = (Int32.ofInt 1) ∧ X' = X))
def gxE_222 (p1 : Int32) (P : Nat → List Int32 → List Int64 → List Nat → fx_X → Int32 → fx_X → Prop) (X : fx_X) (v : Int32) (X' : fx_X) : Prop :=
  ∃ (w3 : Int32) (X2 : fx_X), gx_214 X w3 X2 ∧ (if (w3).toInt = 0 then (v = (Int32.ofInt 0) ∧ X' = X2) else (∃ (w6 : Int32) (X5 : fx_X), gx_221 X2 w6 X5 ∧ (if (w6).toInt = 0 then (v = (Int32.ofInt 0) ∧ X' = X5) else ((0 ≤ ((p1 * ((Int8.ofInt 64).toInt32))).toInt ∧ ((p1 * ((Int8.ofInt 64).toInt32))).toInt < ((1024 : Nat) : Int)) ∧ ∃ x10 : Int32, x10 = (X5.1 121 ((p1 * ((Int8.ofInt 64).toInt32))).toInt.toNat) ∧ (if ((X5.1 117 35)).toInt < (x10).toInt then (∃ (w14 : Unit) (X13 : fx_X), gx_218 (Int32.ofInt 5) (X5.1 117 36) X5 w14 X13 ∧ v = (Int32.ofInt 1) ∧ X' = X13) else ((if 63 < (((X5.1 117 35) - x10)).toInt then (∃ (w21 : Unit) (X20 : fx_X), gx_218 (Int32.ofInt 5) (X5.1 117 36) X5 w21 X20 ∧ v = (Int32.ofInt 1) ∧ X' = X20) else ((0 ≤ (p1).toInt ∧ (p1).toInt < ((16 : Nat) : Int)) ∧ ∃ X18 : fx_X, X18 = (fx_wI X5 120 (p1).toInt.toNat (((X5.1 117 35) - x10) + (Int32.ofInt 1))) ∧ P 72 [x10, (Int32.ofInt 0)] [] [] X18 v X'))))))))
noncomputable def gxF_222 (p1 : Int32) (n : Nat) : Nat → List Int32 → List Int64 → List Nat → fx_X → Int32 → fx_X → Prop := Nat.rec (motive := fun _ => Nat → List Int32 → List Int64 → List Nat → fx_X → Int32 → fx_X → Prop) (fun _ _ _ _ _ _ _ => False) (fun _ P l is ls rs X v X' => (l = 72 ∧ ∃ (y2 : Int32) (y3 : Int32), is = [y2, y3] ∧ ls = [] ∧ rs = [] ∧ gxT_222_72 p1 P y2 y3 X v X')) n
theorem gxI_222_72 {p1 : Int32} {n : Nat} {y2 : Int32} {y3 : Int32} {X : fx_X} {v : Int32} {X' : fx_X} (h : gxT_222_72 p1 (gxF_222 p1 n) y2 y3 X v X') : gxF_222 p1 (n + 1) 72 [y2, y3] [] [] X v X' := ⟨rfl, y2, y3, rfl, rfl, rfl, h⟩
theorem gxO_222_72 {p1 : Int32} {n : Nat} {y2 : Int32} {y3 : Int32} {X : fx_X} {v : Int32} {X' : fx_X} (h : gxF_222 p1 (n + 1) 72 [y2, y3] [] [] X v X') : gxT_222_72 p1 (gxF_222 p1 n) y2 y3 X v X' := by
  rcases h with ⟨-, _, _, e1, e2, e3, h⟩
  · cases e1; cases e2; cases e3; exact h
def gx_222 (p1 : Int32) (X : fx_X) (v : Int32) (X' : fx_X) : Prop := ∃ n : Nat, gxE_222 p1 (gxF_222 p1 n) X v X'
theorem gxL_222 {tb : aj_T} (p1 : Int32) : ∀ N : Nat, (∀ (lv : aj_V) (y2 : Int32) (y3 : Int32) (X : fx_X), aj_lv lv 0 = some (.ref 117) → aj_lv lv 1 = some (.int p1) → aj_lv lv 2 = some (.int y2) → aj_lv lv 3 = some (.int y3) → fx_W tb aj_m222 N 72 lv [] X (fx_Q fx_qI (fun v X' => ∃ n : Nat, gxF_222 p1 n 72 [y2, y3] [] [] X v X'))) := by
  intro N
  induction N with
  | zero => exact (by intros; exact fx_z)
  | succ N ih =>
    skip
    · intro lv y2 y3 X hlv_0 hlv_1 hlv_2 hlv_3
      refine fx_mono (Q := fx_Q fx_qI (fun v X' => ∃ n : Nat, gxT_222_72 p1 (gxF_222 p1 n) y2 y3 X v X')) (fun r X' ⟨v, e, n, z⟩ => ⟨v, e, n + 1, gxI_222_72 z⟩) ?_
      unfold gxT_222_72
      refine fx_i0 aj_d222 rfl (Nat.le_refl _) (fun _ => rfl) hlv_3 ?_
      refine fx_i2 aj_d222 rfl (Nat.le_succ _) (fun _ => rfl) hlv_0 ?_
      refine fx_gF aj_d222 rfl (Nat.le_succ _) rfl rfl fx_in_11_3 (t := 120) rfl (fun hA22 => ?_)
      refine fx_i0 aj_d222 rfl (Nat.le_succ _) (fun _ => rfl) hlv_1 ?_
      refine fx_ld aj_d222 (Or.inl rfl) rfl (Nat.le_succ _) (fun g230 g231 => ?_)
      show fx_W _ _ _ 79 lv [.int (X.1 120 (p1).toInt.toNat), .int y3] _ _
      refine fx_qa (c := 0 ≤ (p1).toInt ∧ (p1).toInt < ((16 : Nat) : Int)) ⟨g230, fx_lnk g231 hA22⟩ ?_
      refine fx_b (tgt := 102) aj_d222 rfl (Nat.le_succ _) rfl (fun q24 => ?_) (fun q24 => ?_)
      · skip
        refine fx_qe (c := (y3).toInt < ((X.1 120 (p1).toInt.toNat)).toInt) (fx_t_ge q24) ?_
        show fx_W _ _ _ 102 lv [] _ _
        refine fx_n (pc' := 103) (lv' := lv) (st' := [.int (Int32.ofInt 1)]) aj_d222 rfl (Nat.le_succ _) (fun _ => rfl) ?_
        exact fx_ri aj_d222 rfl ⟨_, rfl, 0, rfl, rfl⟩
      · skip
        refine fx_qi (c := (y3).toInt < ((X.1 120 (p1).toInt.toNat)).toInt) (fx_f_ge q24) ?_
        show fx_W _ _ _ 82 lv [] _ _
        refine fx_i2 aj_d222 rfl (Nat.le_succ _) (fun _ => rfl) hlv_0 ?_
        refine fx_gF aj_d222 rfl (Nat.le_succ _) rfl rfl fx_in_11_4 (t := 121) rfl (fun hA25 => ?_)
        refine fx_i0 aj_d222 rfl (Nat.le_succ _) (fun _ => rfl) hlv_1 ?_
        refine fx_n (pc' := 89) (lv' := lv) (st' := [.int ((Int8.ofInt 64).toInt32), .int p1, .ref 121]) aj_d222 rfl (Nat.le_succ _) (fun _ => rfl) ?_
        refine fx_n (pc' := 90) (lv' := lv) (st' := [.int (p1 * ((Int8.ofInt 64).toInt32)), .ref 121]) aj_d222 rfl (Nat.le_succ _) (fun _ => rfl) ?_
        refine fx_i0 aj_d222 rfl (Nat.le_succ _) (fun _ => rfl) hlv_3 ?_
        refine fx_n (pc' := 92) (lv' := lv) (st' := [.int ((p1 * ((Int8.ofInt 64).toInt32)) + y3), .ref 121]) aj_d222 rfl (Nat.le_succ _) (fun _ => rfl) ?_
        refine fx_i0 aj_d222 rfl (Nat.le_succ _) (fun _ => rfl) hlv_2 ?_
        refine fx_i0 aj_d222 rfl (Nat.le_succ _) (fun _ => rfl) hlv_3 ?_
        refine fx_n (pc' := 95) (lv' := lv) (st' := [.int (y2 + y3), .int ((p1 * ((Int8.ofInt 64).toInt32)) + y3), .ref 121]) aj_d222 rfl (Nat.le_succ _) (fun _ => rfl) ?_
        refine fx_st aj_d222 (Or.inl ⟨rfl, rfl⟩) rfl (Nat.le_succ _) (fun g260 g261 => ?_)
        show fx_W _ _ _ _ _ _ (fx_wI X 121 (((p1 * ((Int8.ofInt 64).toInt32)) + y3)).toInt.toNat (y2 + y3)) _
        refine fx_qa (c := 0 ≤ (((p1 * ((Int8.ofInt 64).toInt32)) + y3)).toInt ∧ (((p1 * ((Int8.ofInt 64).toInt32)) + y3)).toInt < ((1024 : Nat) : Int)) ⟨g260, fx_lnk g261 hA25⟩ ?_
        refine fx_qX (fun X27 eX27 => ?_)
        show fx_W _ _ _ 96 lv [] _ _
        refine fx_incq aj_d222 rfl (Nat.le_succ _) hlv_3 (by decide) (fun x28 ex28 => ?_)
        obtain ⟨lv29, elv29⟩ : ∃ l, l = aj_set1 lv 3 (.int x28) := ⟨_, rfl⟩
        rw [← elv29]
        have hlv29_0 : aj_lv lv29 0 = some (.ref 117) := fx_e1 elv29 hlv_0 (by decide) (Or.inl (by decide))
        have hlv29_1 : aj_lv lv29 1 = some (.int p1) := fx_e1 elv29 hlv_1 (by decide) (Or.inl (by decide))
        have hlv29_2 : aj_lv lv29 2 = some (.int y2) := fx_e1 elv29 hlv_2 (by decide) (Or.inr rfl)
        have hlv29_3 : aj_lv lv29 3 = some (.int x28) := by rw [elv29]; exact ak_set1_eq _ _ _
        show fx_W _ _ _ 99 lv29 [] _ _
        refine fx_n (pc' := 72) (lv' := lv29) (st' := []) aj_d222 rfl (Nat.le_succ _) (fun _ => rfl) ?_
        exact (ih) lv29 (y2) (x28) X27  hlv29_0 hlv29_1 hlv29_2 hlv29_3
theorem gx_222_ok {tb : aj_T} (p1 : Int32) {X : fx_X} : fx_K tb 222 [.ref 117, .int p1] X (fx_Q fx_qI (fun v X' => gx_222 p1 X v X')) := by
  refine fx_m aj_m222_at rfl (fun N => ?_)
  refine fx_mono (Q := fx_Q fx_qI (fun v X' => ∃ n : Nat, gxE_222 p1 (gxF_222 p1 n) X v X')) (fun r X' h => h) ?_
  unfold gxE_222
  show fx_W _ _ _ 0 [(0, .ref 117), (1, .int p1)] [] _ _
  obtain ⟨lv1, elv1⟩ : ∃ l : aj_V, l = [(0, .ref 117), (1, .int p1)] := ⟨_, rfl⟩
  rw [← elv1]
  have hlv1_0 : aj_lv lv1 0 = some (.ref 117) := by rw [elv1]; rfl
  have hlv1_1 : aj_lv lv1 1 = some (.int p1) := by rw [elv1]; rfl
  refine fx_i2 aj_d222 rfl (Nat.le_succ _) (fun _ => rfl) hlv1_0 ?_
  refine fx_cv aj_d222 rfl (Nat.le_succ _) rfl [] rfl rfl (gx_214_ok) ?_
  rintro _ X2 ⟨w3, rfl, hR2⟩ hok2 hle2
  refine fx_qc hR2 ?_
  show fx_W _ _ _ 4 lv1 [.int w3] _ _
  refine fx_b0 (tgt := 14) aj_d222 rfl (Nat.le_succ _) rfl (fun q4 => ?_) (fun q4 => ?_)
  · skip
    refine fx_qi (c := (w3).toInt = 0) (fx_t_eq q4) ?_
    show fx_W _ _ _ 14 lv1 [] _ _
    refine fx_n (pc' := 15) (lv' := lv1) (st' := [.int (Int32.ofInt 0)]) aj_d222 rfl (Nat.le_succ _) (fun _ => rfl) ?_
    exact fx_ri aj_d222 rfl ⟨_, rfl, 0, rfl, rfl⟩
  · skip
    refine fx_qe (c := (w3).toInt = 0) (fx_f_eq q4) ?_
    show fx_W _ _ _ 7 lv1 [] _ _
    refine fx_i2 aj_d222 rfl (Nat.le_succ _) (fun _ => rfl) hlv1_0 ?_
    refine fx_cv aj_d222 rfl (Nat.le_succ _) rfl [] rfl rfl (gx_221_ok) ?_
    rintro _ X5 ⟨w6, rfl, hR5⟩ hok5 hle5
    refine fx_qc hR5 ?_
    show fx_W _ _ _ 11 lv1 [.int w6] _ _
    refine fx_b0 (tgt := 16) aj_d222 rfl (Nat.le_succ _) rfl (fun q7 => ?_) (fun q7 => ?_)
    · skip
      refine fx_qe (c := (w6).toInt = 0) (fx_t_ne q7) ?_
      show fx_W _ _ _ 16 lv1 [] _ _
      refine fx_i2 aj_d222 rfl (Nat.le_succ _) (fun _ => rfl) hlv1_0 ?_
      refine fx_gF aj_d222 rfl (Nat.le_succ _) rfl rfl fx_in_11_4 (t := 121) rfl (fun hA8 => ?_)
      refine fx_i0 aj_d222 rfl (Nat.le_succ _) (fun _ => rfl) hlv1_1 ?_
      refine fx_n (pc' := 23) (lv' := lv1) (st' := [.int ((Int8.ofInt 64).toInt32), .int p1, .ref 121]) aj_d222 rfl (Nat.le_succ _) (fun _ => rfl) ?_
      refine fx_n (pc' := 24) (lv' := lv1) (st' := [.int (p1 * ((Int8.ofInt 64).toInt32)), .ref 121]) aj_d222 rfl (Nat.le_succ _) (fun _ => rfl) ?_
      refine fx_ld aj_d222 (Or.inl rfl) rfl (Nat.le_succ _) (fun g90 g91 => ?_)
      show fx_W _ _ _ 25 lv1 [.int (X5.1 121 ((p1 * ((Int8.ofInt 64).toInt32))).toInt.toNat)] _ _
      refine fx_qa (c := 0 ≤ ((p1 * ((Int8.ofInt 64).toInt32))).toInt ∧ ((p1 * ((Int8.ofInt 64).toInt32))).toInt < ((1024 : Nat) : Int)) ⟨g90, fx_lnk g91 hA8⟩ ?_
      refine fx_qxI (fun x10 ex10 => ?_)
      refine fx_s0 (j := 2) aj_d222 rfl (Nat.le_succ _) (by decide) (fun _ => rfl) ?_
      obtain ⟨lv11, elv11⟩ : ∃ l, l = aj_set1 lv1 2 (.int x10) := ⟨_, rfl⟩
      rw [← elv11]
      have hlv11_0 : aj_lv lv11 0 = some (.ref 117) := fx_e1 elv11 hlv1_0 (by decide) (Or.inl (by decide))
      have hlv11_1 : aj_lv lv11 1 = some (.int p1) := fx_e1 elv11 hlv1_1 (by decide) (Or.inr rfl)
      have hlv11_2 : aj_lv lv11 2 = some (.int x10) := by rw [elv11]; exact ak_set1_eq _ _ _
      show fx_W _ _ _ 26 lv11 [] _ _
      refine fx_i2 aj_d222 rfl (Nat.le_succ _) (fun _ => rfl) hlv11_0 ?_
      refine fx_gI aj_d222 rfl (Nat.le_succ _) rfl rfl (Or.inl rfl) ?_
      refine fx_i0 aj_d222 rfl (Nat.le_succ _) (fun _ => rfl) hlv11_2 ?_
      refine fx_b (tgt := 45) aj_d222 rfl (Nat.le_succ _) rfl (fun q12 => ?_) (fun q12 => ?_)
      · skip
        refine fx_qi (c := ((X5.1 117 35)).toInt < (x10).toInt) (fx_t_lt q12) ?_
        show fx_W _ _ _ 45 lv11 [] _ _
        refine fx_i2 aj_d222 rfl (Nat.le_succ _) (fun _ => rfl) hlv11_0 ?_
        refine fx_n (pc' := 47) (lv' := lv11) (st' := [.int (Int32.ofInt 5), .ref 117]) aj_d222 rfl (Nat.le_succ _) (fun _ => rfl) ?_
        refine fx_i2 aj_d222 rfl (Nat.le_succ _) (fun _ => rfl) hlv11_0 ?_
        refine fx_gI aj_d222 rfl (Nat.le_succ _) rfl rfl (Or.inl rfl) ?_
        refine fx_cv aj_d222 rfl (Nat.le_succ _) rfl [_, _] rfl rfl (gx_218_ok (Int32.ofInt 5) (X5.1 117 36)) ?_
        rintro _ X13 ⟨w14, rfl, hR13⟩ hok13 hle13
        refine fx_qc hR13 ?_
        show fx_W _ _ _ 54 lv11 [] _ _
        refine fx_n (pc' := 55) (lv' := lv11) (st' := [.int (Int32.ofInt 1)]) aj_d222 rfl (Nat.le_succ _) (fun _ => rfl) ?_
        exact fx_ri aj_d222 rfl ⟨_, rfl, 0, rfl, rfl⟩
      · skip
        refine fx_qe (c := ((X5.1 117 35)).toInt < (x10).toInt) (fx_f_lt q12) ?_
        show fx_W _ _ _ 34 lv11 [] _ _
        refine fx_i2 aj_d222 rfl (Nat.le_succ _) (fun _ => rfl) hlv11_0 ?_
        refine fx_gI aj_d222 rfl (Nat.le_succ _) rfl rfl (Or.inl rfl) ?_
        refine fx_i0 aj_d222 rfl (Nat.le_succ _) (fun _ => rfl) hlv11_2 ?_
        refine fx_n (pc' := 40) (lv' := lv11) (st' := [.int ((X5.1 117 35) - x10)]) aj_d222 rfl (Nat.le_succ _) (fun _ => rfl) ?_
        refine fx_n (pc' := 42) (lv' := lv11) (st' := [.int ((Int8.ofInt 63).toInt32), .int ((X5.1 117 35) - x10)]) aj_d222 rfl (Nat.le_succ _) (fun _ => rfl) ?_
        refine fx_b (tgt := 56) aj_d222 rfl (Nat.le_succ _) rfl (fun q15 => ?_) (fun q15 => ?_)
        · skip
          refine fx_qe (c := 63 < (((X5.1 117 35) - x10)).toInt) (fx_t_le q15) ?_
          show fx_W _ _ _ 56 lv11 [] _ _
          refine fx_i2 aj_d222 rfl (Nat.le_succ _) (fun _ => rfl) hlv11_0 ?_
          refine fx_gF aj_d222 rfl (Nat.le_succ _) rfl rfl fx_in_11_3 (t := 120) rfl (fun hA16 => ?_)
          refine fx_i0 aj_d222 rfl (Nat.le_succ _) (fun _ => rfl) hlv11_1 ?_
          refine fx_i2 aj_d222 rfl (Nat.le_succ _) (fun _ => rfl) hlv11_0 ?_
          refine fx_gI aj_d222 rfl (Nat.le_succ _) rfl rfl (Or.inl rfl) ?_
          refine fx_i0 aj_d222 rfl (Nat.le_succ _) (fun _ => rfl) hlv11_2 ?_
          refine fx_n (pc' := 67) (lv' := lv11) (st' := [.int ((X5.1 117 35) - x10), .int p1, .ref 120]) aj_d222 rfl (Nat.le_succ _) (fun _ => rfl) ?_
          refine fx_n (pc' := 68) (lv' := lv11) (st' := [.int (Int32.ofInt 1), .int ((X5.1 117 35) - x10), .int p1, .ref 120]) aj_d222 rfl (Nat.le_succ _) (fun _ => rfl) ?_
          refine fx_n (pc' := 69) (lv' := lv11) (st' := [.int (((X5.1 117 35) - x10) + (Int32.ofInt 1)), .int p1, .ref 120]) aj_d222 rfl (Nat.le_succ _) (fun _ => rfl) ?_
          refine fx_st aj_d222 (Or.inl ⟨rfl, rfl⟩) rfl (Nat.le_succ _) (fun g170 g171 => ?_)
          show fx_W _ _ _ _ _ _ (fx_wI X5 120 (p1).toInt.toNat (((X5.1 117 35) - x10) + (Int32.ofInt 1))) _
          refine fx_qa (c := 0 ≤ (p1).toInt ∧ (p1).toInt < ((16 : Nat) : Int)) ⟨g170, fx_lnk g171 hA16⟩ ?_
          refine fx_qX (fun X18 eX18 => ?_)
          show fx_W _ _ _ 70 lv11 [] _ _
          refine fx_n (pc' := 71) (lv' := lv11) (st' := [.int (Int32.ofInt 0)]) aj_d222 rfl (Nat.le_succ _) (fun _ => rfl) ?_
          refine fx_s0 (j := 3) aj_d222 rfl (Nat.le_succ _) (by decide) (fun _ => rfl) ?_
          obtain ⟨lv19, elv19⟩ : ∃ l, l = aj_set1 lv11 3 (.int (Int32.ofInt 0)) := ⟨_, rfl⟩
          rw [← elv19]
          have hlv19_0 : aj_lv lv19 0 = some (.ref 117) := fx_e1 elv19 hlv11_0 (by decide) (Or.inl (by decide))
          have hlv19_1 : aj_lv lv19 1 = some (.int p1) := fx_e1 elv19 hlv11_1 (by decide) (Or.inl (by decide))
          have hlv19_2 : aj_lv lv19 2 = some (.int x10) := fx_e1 elv19 hlv11_2 (by decide) (Or.inr rfl)
          have hlv19_3 : aj_lv lv19 3 = some (.int (Int32.ofInt 0)) := by rw [elv19]; exact ak_set1_eq _ _ _
          show fx_W _ _ _ 72 lv19 [] _ _
          exact ((gxL_222 p1 N)) lv19 (x10) ((Int32.ofInt 0)) X18  hlv19_0 hlv19_1 hlv19_2 hlv19_3
        · skip
          refine fx_qi (c := 63 < (((X5.1 117 35) - x10)).toInt) (fx_f_le q15) ?_
          show fx_W _ _ _ 45 lv11 [] _ _
          refine fx_i2 aj_d222 rfl (Nat.le_succ _) (fun _ => rfl) hlv11_0 ?_
          refine fx_n (pc' := 47) (lv' := lv11) (st' := [.int (Int32.ofInt 5), .ref 117]) aj_d222 rfl (Nat.le_succ _) (fun _ => rfl) ?_
          refine fx_i2 aj_d222 rfl (Nat.le_succ _) (fun _ => rfl) hlv11_0 ?_
          refine fx_gI aj_d222 rfl (Nat.le_succ _) rfl rfl (Or.inl rfl) ?_
          refine fx_cv aj_d222 rfl (Nat.le_succ _) rfl [_, _] rfl rfl (gx_218_ok (Int32.ofInt 5) (X5.1 117 36)) ?_
          rintro _ X20 ⟨w21, rfl, hR20⟩ hok20 hle20
          refine fx_qc hR20 ?_
          show fx_W _ _ _ 54 lv11 [] _ _
          refine fx_n (pc' := 55) (lv' := lv11) (st' := [.int (Int32.ofInt 1)]) aj_d222 rfl (Nat.le_succ _) (fun _ => rfl) ?_
          exact fx_ri aj_d222 rfl ⟨_, rfl, 0, rfl, rfl⟩
    · skip
      refine fx_qi (c := (w6).toInt = 0) (fx_f_ne q7) ?_
      show fx_W _ _ _ 14 lv1 [] _ _
      refine fx_n (pc' := 15) (lv' := lv1) (st' := [.int (Int32.ofInt 0)]) aj_d222 rfl (Nat.le_succ _) (fun _ => rfl) ?_
      exact fx_ri aj_d222 rfl ⟨_, rfl, 0, rfl, rfl⟩
def gxT_226_13 (p1 : Nat) (p2 : Int32) (p3 : Int32) (P : Nat → List Int32 → List Int64 → List Nat → fx_X → Unit → fx_X → Prop) (y4 : Int32) (X : fx_X) (v : Unit) (X' : fx_X) : Prop :=
  (if (y4).toInt < 0 then (X' = X) else (p3 ≠ 0 ∧ ∃ (w9 : Int32) (X8 : fx_X), gx_227 p1 p2 (y4 / p3) X w9 X8 ∧ ∃ (w11 : Unit) (X10 : fx_X), gx_228 p1 p2 y4 w9 X8 w11 X10 ∧ ∃ x12 : Int32, x12 = y4 + Int32.ofInt (-1) ∧ P 13 [x12] [] [] X10 v X'))
def gxE_226 (p1 : Nat) (p2 : Int32) (p3 : Int32) (P : Nat → List Int32 → List Int64 → List Nat → fx_X → Unit → fx_X → Prop) (X : fx_X) (v : Unit) (X' : fx_X) : Prop :=
  (0 ≤ ((X.1 117 37)).toInt ∧ ((X.1 117 37)).toInt < ((2 : Nat) : Int)) ∧ ∃ x4 : Int32, x4 = ((X.1 122 ((X.1 117 37)).toInt.toNat) - (Int32.ofInt 1)) ∧ P 13 [x4] [] [] X v X'
noncomputable def gxF_226 (p1 : Nat) (p2 : Int32) (p3 : Int32) (n : Nat) : Nat → List Int32 → List Int64 → List Nat → fx_X → Unit → fx_X → Prop := Nat.rec (motive := fun _ => Nat → List Int32 → List Int64 → List Nat → fx_X → Unit → fx_X → Prop) (fun _ _ _ _ _ _ _ => False) (fun _ P l is ls rs X v X' => (l = 13 ∧ ∃ (y4 : Int32), is = [y4] ∧ ls = [] ∧ rs = [] ∧ gxT_226_13 p1 p2 p3 P y4 X v X')) n
theorem gxI_226_13 {p1 : Nat} {p2 : Int32} {p3 : Int32} {n : Nat} {y4 : Int32} {X : fx_X} {v : Unit} {X' : fx_X} (h : gxT_226_13 p1 p2 p3 (gxF_226 p1 p2 p3 n) y4 X v X') : gxF_226 p1 p2 p3 (n + 1) 13 [y4] [] [] X v X' := ⟨rfl, y4, rfl, rfl, rfl, h⟩
theorem gxO_226_13 {p1 : Nat} {p2 : Int32} {p3 : Int32} {n : Nat} {y4 : Int32} {X : fx_X} {v : Unit} {X' : fx_X} (h : gxF_226 p1 p2 p3 (n + 1) 13 [y4] [] [] X v X') : gxT_226_13 p1 p2 p3 (gxF_226 p1 p2 p3 n) y4 X v X' := by
  rcases h with ⟨-, _, e1, e2, e3, h⟩
  · cases e1; cases e2; cases e3; exact h
def gx_226 (p1 : Nat) (p2 : Int32) (p3 : Int32) (X : fx_X) (v : Unit) (X' : fx_X) : Prop := ∃ n : Nat, gxE_226 p1 p2 p3 (gxF_226 p1 p2 p3 n) X v X'
theorem gxL_226 {tb : aj_T} (p1 : Nat) (p2 : Int32) (p3 : Int32) : ∀ N : Nat, (∀ (lv : aj_V) (y4 : Int32) (X : fx_X), aj_lv lv 1 = some (.ref p1) → aj_lv lv 2 = some (.int p2) → aj_lv lv 3 = some (.int p3) → aj_lv lv 4 = some (.int y4) → fx_W tb aj_m226 N 13 lv [] X (fx_Q fx_qN (fun v X' => ∃ n : Nat, gxF_226 p1 p2 p3 n 13 [y4] [] [] X v X'))) := by
  intro N
  induction N with
  | zero => exact (by intros; exact fx_z)
  | succ N ih =>
    skip
    · intro lv y4 X hlv_1 hlv_2 hlv_3 hlv_4
      refine fx_mono (Q := fx_Q fx_qN (fun v X' => ∃ n : Nat, gxT_226_13 p1 p2 p3 (gxF_226 p1 p2 p3 n) y4 X v X')) (fun r X' ⟨v, e, n, z⟩ => ⟨v, e, n + 1, gxI_226_13 z⟩) ?_
      unfold gxT_226_13
      refine fx_i0 aj_d226 rfl (Nat.le_refl _) (fun _ => rfl) hlv_4 ?_
      refine fx_b0 (tgt := 40) aj_d226 rfl (Nat.le_succ _) rfl (fun q6 => ?_) (fun q6 => ?_)
      · skip
        refine fx_qi (c := (y4).toInt < 0) (fx_t_lt q6) ?_
        show fx_W _ _ _ 40 lv [] _ _
        exact fx_rn aj_d226 rfl ⟨(), rfl, 0, rfl⟩
      · skip
        refine fx_qe (c := (y4).toInt < 0) (fx_f_lt q6) ?_
        show fx_W _ _ _ 18 lv [] _ _
        refine fx_i2 aj_d226 rfl (Nat.le_succ _) (fun _ => rfl) hlv_1 ?_
        refine fx_i0 aj_d226 rfl (Nat.le_succ _) (fun _ => rfl) hlv_2 ?_
        refine fx_i0 aj_d226 rfl (Nat.le_succ _) (fun _ => rfl) hlv_4 ?_
        refine fx_i2 aj_d226 rfl (Nat.le_succ _) (fun _ => rfl) hlv_1 ?_
        refine fx_i0 aj_d226 rfl (Nat.le_succ _) (fun _ => rfl) hlv_2 ?_
        refine fx_i0 aj_d226 rfl (Nat.le_succ _) (fun _ => rfl) hlv_4 ?_
        refine fx_i0 aj_d226 rfl (Nat.le_succ _) (fun _ => rfl) hlv_3 ?_
        refine fx_dv aj_d226 rfl (Nat.le_succ _) (fun q7 => ?_)
        refine fx_qa (c := p3 ≠ 0) q7 ?_
        refine fx_cs aj_d226 rfl (Nat.le_succ _) rfl rfl [_, _, _] rfl rfl (gx_227_ok p1 p2 (y4 / p3)) ?_
        rintro _ X8 ⟨w9, rfl, hR8⟩ hok8 hle8
        refine fx_qc hR8 ?_
        show fx_W _ _ _ 31 lv [.int w9, .int y4, .int p2, .ref p1] _ _
        refine fx_cs aj_d226 rfl (Nat.le_succ _) rfl rfl [_, _, _, _] rfl rfl (gx_228_ok p1 p2 y4 w9) ?_
        rintro _ X10 ⟨w11, rfl, hR10⟩ hok10 hle10
        refine fx_qc hR10 ?_
        show fx_W _ _ _ 34 lv [] _ _
        refine fx_incq aj_d226 rfl (Nat.le_succ _) hlv_4 (by decide) (fun x12 ex12 => ?_)
        obtain ⟨lv13, elv13⟩ : ∃ l, l = aj_set1 lv 4 (.int x12) := ⟨_, rfl⟩
        rw [← elv13]
        have hlv13_1 : aj_lv lv13 1 = some (.ref p1) := fx_e1 elv13 hlv_1 (by decide) (Or.inl (by decide))
        have hlv13_2 : aj_lv lv13 2 = some (.int p2) := fx_e1 elv13 hlv_2 (by decide) (Or.inl (by decide))
        have hlv13_3 : aj_lv lv13 3 = some (.int p3) := fx_e1 elv13 hlv_3 (by decide) (Or.inr rfl)
        have hlv13_4 : aj_lv lv13 4 = some (.int x12) := by rw [elv13]; exact ak_set1_eq _ _ _
        show fx_W _ _ _ 37 lv13 [] _ _
        refine fx_n (pc' := 13) (lv' := lv13) (st' := []) aj_d226 rfl (Nat.le_succ _) (fun _ => rfl) ?_
        exact (ih) lv13 (x12) X10  hlv13_1 hlv13_2 hlv13_3 hlv13_4
theorem gx_226_ok {tb : aj_T} (p1 : Nat) (p2 : Int32) (p3 : Int32) {X : fx_X} : fx_K tb 226 [.ref 117, .ref p1, .int p2, .int p3] X (fx_Q fx_qN (fun v X' => gx_226 p1 p2 p3 X v X')) := by
  refine fx_m aj_m226_at rfl (fun N => ?_)
  refine fx_mono (Q := fx_Q fx_qN (fun v X' => ∃ n : Nat, gxE_226 p1 p2 p3 (gxF_226 p1 p2 p3 n) X v X')) (fun r X' h => h) ?_
  unfold gxE_226
  show fx_W _ _ _ 0 [(0, .ref 117), (1, .ref p1), (2, .int p2), (3, .int p3)] [] _ _
  obtain ⟨lv1, elv1⟩ : ∃ l : aj_V, l = [(0, .ref 117), (1, .ref p1), (2, .int p2), (3, .int p3)] := ⟨_, rfl⟩
  rw [← elv1]
  have hlv1_0 : aj_lv lv1 0 = some (.ref 117) := by rw [elv1]; rfl
  have hlv1_1 : aj_lv lv1 1 = some (.ref p1) := by rw [elv1]; rfl
  have hlv1_2 : aj_lv lv1 2 = some (.int p2) := by rw [elv1]; rfl
  have hlv1_3 : aj_lv lv1 3 = some (.int p3) := by rw [elv1]; rfl
  refine fx_i2 aj_d226 rfl (Nat.le_succ _) (fun _ => rfl) hlv1_0 ?_
  refine fx_gF aj_d226 rfl (Nat.le_succ _) rfl rfl fx_in_11_5 (t := 122) rfl (fun hA2 => ?_)
  refine fx_i2 aj_d226 rfl (Nat.le_succ _) (fun _ => rfl) hlv1_0 ?_
  refine fx_gI aj_d226 rfl (Nat.le_succ _) rfl rfl (Or.inl rfl) ?_
  refine fx_ld aj_d226 (Or.inl rfl) rfl (Nat.le_succ _) (fun g30 g31 => ?_)
  show fx_W _ _ _ 9 lv1 [.int (X.1 122 ((X.1 117 37)).toInt.toNat)] _ _
  refine fx_qa (c := 0 ≤ ((X.1 117 37)).toInt ∧ ((X.1 117 37)).toInt < ((2 : Nat) : Int)) ⟨g30, fx_lnk g31 hA2⟩ ?_
  refine fx_n (pc' := 10) (lv' := lv1) (st' := [.int (Int32.ofInt 1), .int (X.1 122 ((X.1 117 37)).toInt.toNat)]) aj_d226 rfl (Nat.le_succ _) (fun _ => rfl) ?_
  refine fx_n (pc' := 11) (lv' := lv1) (st' := [.int ((X.1 122 ((X.1 117 37)).toInt.toNat) - (Int32.ofInt 1))]) aj_d226 rfl (Nat.le_succ _) (fun _ => rfl) ?_
  refine fx_qxI (fun x4 ex4 => ?_)
  refine fx_s0 (j := 4) aj_d226 rfl (Nat.le_succ _) (by decide) (fun _ => rfl) ?_
  obtain ⟨lv5, elv5⟩ : ∃ l, l = aj_set1 lv1 4 (.int x4) := ⟨_, rfl⟩
  rw [← elv5]
  have hlv5_1 : aj_lv lv5 1 = some (.ref p1) := fx_e1 elv5 hlv1_1 (by decide) (Or.inl (by decide))
  have hlv5_2 : aj_lv lv5 2 = some (.int p2) := fx_e1 elv5 hlv1_2 (by decide) (Or.inl (by decide))
  have hlv5_3 : aj_lv lv5 3 = some (.int p3) := fx_e1 elv5 hlv1_3 (by decide) (Or.inr rfl)
  have hlv5_4 : aj_lv lv5 4 = some (.int x4) := by rw [elv5]; exact ak_set1_eq _ _ _
  show fx_W _ _ _ 13 lv5 [] _ _
  exact ((gxL_226 p1 p2 p3 N)) lv5 (x4) X  hlv5_1 hlv5_2 hlv5_3 hlv5_4
def gxT_224_26 (P : Nat → List Int32 → List Int64 → List Nat → fx_X → Unit → fx_X → Prop) (y1 : Int32) (y2 : Int32) (y3 : Int32) (X : fx_X) (v : Unit) (X' : fx_X) : Prop :=
  (0 ≤ (y1).toInt ∧ (y1).toInt < ((2 : Nat) : Int)) ∧ (if (y3).toInt < ((X.1 122 (y1).toInt.toNat)).toInt then ((0 ≤ (y1).toInt ∧ (y1).toInt < ((2 : Nat) : Int)) ∧ ∃ x18 : Int32, x18 = ((X.1 118 (y1).toInt.toNat) - (Int32.ofInt 1)) ∧ P 49 [y1, y2, y3, y3, x18] [] [] X v X') else (P 123 [y1, y2, (Int32.ofInt 0)] [] [] X v X'))
def gxT_224_49 (P : Nat → List Int32 → List Int64 → List Nat → fx_X → Unit → fx_X → Prop) (y1 : Int32) (y2 : Int32) (y3 : Int32) (y4 : Int32) (y5 : Int32) (X : fx_X) (v : Unit) (X' : fx_X) : Prop :=
  (if (y5).toInt < 0 then (∃ x28 : Int32, x28 = y3 + Int32.ofInt 1 ∧ P 26 [y1, y2, x28] [] [] X v X') else (∃ x30 : Int32, x30 = ((y1 * ((Int8.ofInt 8).toInt32)) + y5) ∧ (0 ≤ (x30).toInt ∧ (x30).toInt < ((16 : Nat) : Int)) ∧ (X.1 120 (x30).toInt.toNat) ≠ 0 ∧ (0 ≤ (((x30 * ((Int8.ofInt 64).toInt32)) + (y4 - y4 / (X.1 120 (x30).toInt.toNat) * (X.1 120 (x30).toInt.toNat)))).toInt ∧ (((x30 * ((Int8.ofInt 64).toInt32)) + (y4 - y4 / (X.1 120 (x30).toInt.toNat) * (X.1 120 (x30).toInt.toNat)))).toInt < ((1024 : Nat) : Int)) ∧ (0 ≤ (((x30 * ((Int16.ofInt 1024).toInt32)) + y3)).toInt ∧ (((x30 * ((Int16.ofInt 1024).toInt32)) + y3)).toInt < ((16384 : Nat) : Int)) ∧ ∃ X39 : fx_X, X39 = (fx_wI X 123 (((x30 * ((Int16.ofInt 1024).toInt32)) + y3)).toInt.toNat (X.1 121 (((x30 * ((Int8.ofInt 64).toInt32)) + (y4 - y4 / (X.1 120 (x30).toInt.toNat) * (X.1 120 (x30).toInt.toNat)))).toInt.toNat)) ∧ (0 ≤ (x30).toInt ∧ (x30).toInt < ((16 : Nat) : Int)) ∧ (X39.1 120 (x30).toInt.toNat) ≠ 0 ∧ ∃ x43 : Int32, x43 = (y4 / (X39.1 120 (x30).toInt.toNat)) ∧ ∃ x45 : Int32, x45 = y5 + Int32.ofInt (-1) ∧ P 49 [y1, y2, y3, x43, x45] [] [] X39 v X'))
def gxT_224_123 (P : Nat → List Int32 → List Int64 → List Nat → fx_X → Unit → fx_X → Prop) (y1 : Int32) (y2 : Int32) (y3 : Int32) (X : fx_X) (v : Unit) (X' : fx_X) : Prop :=
  (0 ≤ (y1).toInt ∧ (y1).toInt < ((2 : Nat) : Int)) ∧ (if (y3).toInt < ((X.1 124 (y1).toInt.toNat)).toInt then (∃ x24 : Int32, x24 = ((y1 * ((Int8.ofInt 10).toInt32)) + y3) ∧ P 144 [y1, y2, y3, x24, (Int32.ofInt 0)] [] [] X v X') else (P 187 [y1, y2, (Int32.ofInt 0)] [] [] X v X'))
def gxT_224_144 (P : Nat → List Int32 → List Int64 → List Nat → fx_X → Unit → fx_X → Prop) (y1 : Int32) (y2 : Int32) (y3 : Int32) (y4 : Int32) (y5 : Int32) (X : fx_X) (v : Unit) (X' : fx_X) : Prop :=
  (0 ≤ (y4).toInt ∧ (y4).toInt < ((50 : Nat) : Int)) ∧ (if (y5).toInt < ((X.1 131 (y4).toInt.toNat)).toInt then (∃ (w62 : Int32) (X61 : fx_X), gx_225 y4 y5 X w62 X61 ∧ ∃ (w64 : Unit) (X63 : fx_X), gx_226 136 w62 y2 X61 w64 X63 ∧ ∃ x65 : Int32, x65 = y5 + Int32.ofInt 1 ∧ P 144 [y1, y2, y3, y4, x65] [] [] X63 v X') else (∃ x58 : Int32, x58 = y3 + Int32.ofInt 1 ∧ P 123 [y1, y2, x58] [] [] X v X'))
def gxT_224_187 (P : Nat → List Int32 → List Int64 → List Nat → fx_X → Unit → fx_X → Prop) (y1 : Int32) (y2 : Int32) (y3 : Int32) (X : fx_X) (v : Unit) (X' : fx_X) : Prop :=
  (0 ≤ (y1).toInt ∧ (y1).toInt < ((2 : Nat) : Int)) ∧ (if (y3).toInt < ((X.1 127 (y1).toInt.toNat)).toInt then (∃ (w52 : Unit) (X51 : fx_X), gx_226 129 (((y1 * ((Int8.ofInt 20).toInt32)) + y3) * ((Int8.ofInt 32).toInt32)) y2 X w52 X51 ∧ ∃ x53 : Int32, x53 = y3 + Int32.ofInt 1 ∧ P 187 [y1, y2, x53] [] [] X51 v X') else (X' = X))
def gxE_224 (P : Nat → List Int32 → List Int64 → List Nat → fx_X → Unit → fx_X → Prop) (X : fx_X) (v : Unit) (X' : fx_X) : Prop :=
  ∃ x2 : Int32, x2 = (X.1 117 37) ∧ (0 ≤ (x2).toInt ∧ (x2).toInt < ((2 : Nat) : Int)) ∧ (0 ≤ ((((x2 * ((Int8.ofInt 8).toInt32)) + (X.1 118 (x2).toInt.toNat)) - (Int32.ofInt 1))).toInt ∧ ((((x2 * ((Int8.ofInt 8).toInt32)) + (X.1 118 (x2).toInt.toNat)) - (Int32.ofInt 1))).toInt < ((16 : Nat) : Int)) ∧ ∃ x8 : Int32, x8 = (X.1 120 ((((x2 * ((Int8.ofInt 8).toInt32)) + (X.1 118 (x2).toInt.toNat)) - (Int32.ofInt 1))).toInt.toNat) ∧ P 26 [x2, x8, (Int32.ofInt 0)] [] [] X v X'
noncomputable def gxF_224 (n : Nat) : Nat → List Int32 → List Int64 → List Nat → fx_X → Unit → fx_X → Prop := Nat.rec (motive := fun _ => Nat → List Int32 → List Int64 → List Nat → fx_X → Unit → fx_X → Prop) (fun _ _ _ _ _ _ _ => False) (fun _ P l is ls rs X v X' => (l = 26 ∧ ∃ (y1 : Int32) (y2 : Int32) (y3 : Int32), is = [y1, y2, y3] ∧ ls = [] ∧ rs = [] ∧ gxT_224_26 P y1 y2 y3 X v X') ∨ (l = 49 ∧ ∃ (y1 : Int32) (y2 : Int32) (y3 : Int32) (y4 : Int32) (y5 : Int32), is = [y1, y2, y3, y4, y5] ∧ ls = [] ∧ rs = [] ∧ gxT_224_49 P y1 y2 y3 y4 y5 X v X') ∨ (l = 123 ∧ ∃ (y1 : Int32) (y2 : Int32) (y3 : Int32), is = [y1, y2, y3] ∧ ls = [] ∧ rs = [] ∧ gxT_224_123 P y1 y2 y3 X v X') ∨ (l = 144 ∧ ∃ (y1 : Int32) (y2 : Int32) (y3 : Int32) (y4 : Int32) (y5 : Int32), is = [y1, y2, y3, y4, y5] ∧ ls = [] ∧ rs = [] ∧ gxT_224_144 P y1 y2 y3 y4 y5 X v X') ∨ (l = 187 ∧ ∃ (y1 : Int32) (y2 : Int32) (y3 : Int32), is = [y1, y2, y3] ∧ ls = [] ∧ rs = [] ∧ gxT_224_187 P y1 y2 y3 X v X')) n
theorem gxI_224_26 {n : Nat} {y1 : Int32} {y2 : Int32} {y3 : Int32} {X : fx_X} {v : Unit} {X' : fx_X} (h : gxT_224_26 (gxF_224 n) y1 y2 y3 X v X') : gxF_224 (n + 1) 26 [y1, y2, y3] [] [] X v X' := Or.inl ⟨rfl, y1, y2, y3, rfl, rfl, rfl, h⟩
theorem gxO_224_26 {n : Nat} {y1 : Int32} {y2 : Int32} {y3 : Int32} {X : fx_X} {v : Unit} {X' : fx_X} (h : gxF_224 (n + 1) 26 [y1, y2, y3] [] [] X v X') : gxT_224_26 (gxF_224 n) y1 y2 y3 X v X' := by
  rcases h with ⟨-, _, _, _, e1, e2, e3, h⟩ | ⟨e, -⟩ | ⟨e, -⟩ | ⟨e, -⟩ | ⟨e, -⟩
  · cases e1; cases e2; cases e3; exact h
  · exact absurd e (by decide)
  · exact absurd e (by decide)
  · exact absurd e (by decide)
  · exact absurd e (by decide)
theorem gxI_224_49 {n : Nat} {y1 : Int32} {y2 : Int32} {y3 : Int32} {y4 : Int32} {y5 : Int32} {X : fx_X} {v : Unit} {X' : fx_X} (h : gxT_224_49 (gxF_224 n) y1 y2 y3 y4 y5 X v X') : gxF_224 (n + 1) 49 [y1, y2, y3, y4, y5] [] [] X v X' := Or.inr (Or.inl ⟨rfl, y1, y2, y3, y4, y5, rfl, rfl, rfl, h⟩)
theorem gxO_224_49 {n : Nat} {y1 : Int32} {y2 : Int32} {y3 : Int32} {y4 : Int32} {y5 : Int32} {X : fx_X} {v : Unit} {X' : fx_X} (h : gxF_224 (n + 1) 49 [y1, y2, y3, y4, y5] [] [] X v X') : gxT_224_49 (gxF_224 n) y1 y2 y3 y4 y5 X v X' := by
  rcases h with ⟨e, -⟩ | ⟨-, _, _, _, _, _, e1, e2, e3, h⟩ | ⟨e, -⟩ | ⟨e, -⟩ | ⟨e, -⟩
  · exact absurd e (by decide)
  · cases e1; cases e2; cases e3; exact h
  · exact absurd e (by decide)
  · exact absurd e (by decide)
  · exact absurd e (by decide)
theorem gxI_224_123 {n : Nat} {y1 : Int32} {y2 : Int32} {y3 : Int32} {X : fx_X} {v : Unit} {X' : fx_X} (h : gxT_224_123 (gxF_224 n) y1 y2 y3 X v X') : gxF_224 (n + 1) 123 [y1, y2, y3] [] [] X v X' := Or.inr (Or.inr (Or.inl ⟨rfl, y1, y2, y3, rfl, rfl, rfl, h⟩))
theorem gxO_224_123 {n : Nat} {y1 : Int32} {y2 : Int32} {y3 : Int32} {X : fx_X} {v : Unit} {X' : fx_X} (h : gxF_224 (n + 1) 123 [y1, y2, y3] [] [] X v X') : gxT_224_123 (gxF_224 n) y1 y2 y3 X v X' := by
  rcases h with ⟨e, -⟩ | ⟨e, -⟩ | ⟨-, _, _, _, e1, e2, e3, h⟩ | ⟨e, -⟩ | ⟨e, -⟩
  · exact absurd e (by decide)
  · exact absurd e (by decide)
  · cases e1; cases e2; cases e3; exact h
  · exact absurd e (by decide)
  · exact absurd e (by decide)
theorem gxI_224_144 {n : Nat} {y1 : Int32} {y2 : Int32} {y3 : Int32} {y4 : Int32} {y5 : Int32} {X : fx_X} {v : Unit} {X' : fx_X} (h : gxT_224_144 (gxF_224 n) y1 y2 y3 y4 y5 X v X') : gxF_224 (n + 1) 144 [y1, y2, y3, y4, y5] [] [] X v X' := Or.inr (Or.inr (Or.inr (Or.inl ⟨rfl, y1, y2, y3, y4, y5, rfl, rfl, rfl, h⟩)))
theorem gxO_224_144 {n : Nat} {y1 : Int32} {y2 : Int32} {y3 : Int32} {y4 : Int32} {y5 : Int32} {X : fx_X} {v : Unit} {X' : fx_X} (h : gxF_224 (n + 1) 144 [y1, y2, y3, y4, y5] [] [] X v X') : gxT_224_144 (gxF_224 n) y1 y2 y3 y4 y5 X v X' := by
  rcases h with ⟨e, -⟩ | ⟨e, -⟩ | ⟨e, -⟩ | ⟨-, _, _, _, _, _, e1, e2, e3, h⟩ | ⟨e, -⟩
  · exact absurd e (by decide)
  · exact absurd e (by decide)
  · exact absurd e (by decide)
  · cases e1; cases e2; cases e3; exact h
  · exact absurd e (by decide)
theorem gxI_224_187 {n : Nat} {y1 : Int32} {y2 : Int32} {y3 : Int32} {X : fx_X} {v : Unit} {X' : fx_X} (h : gxT_224_187 (gxF_224 n) y1 y2 y3 X v X') : gxF_224 (n + 1) 187 [y1, y2, y3] [] [] X v X' := Or.inr (Or.inr (Or.inr (Or.inr (⟨rfl, y1, y2, y3, rfl, rfl, rfl, h⟩))))
theorem gxO_224_187 {n : Nat} {y1 : Int32} {y2 : Int32} {y3 : Int32} {X : fx_X} {v : Unit} {X' : fx_X} (h : gxF_224 (n + 1) 187 [y1, y2, y3] [] [] X v X') : gxT_224_187 (gxF_224 n) y1 y2 y3 X v X' := by
  rcases h with ⟨e, -⟩ | ⟨e, -⟩ | ⟨e, -⟩ | ⟨e, -⟩ | ⟨-, _, _, _, e1, e2, e3, h⟩
  · exact absurd e (by decide)
  · exact absurd e (by decide)
  · exact absurd e (by decide)
  · exact absurd e (by decide)
  · cases e1; cases e2; cases e3; exact h
def gx_224 (X : fx_X) (v : Unit) (X' : fx_X) : Prop := ∃ n : Nat, gxE_224 (gxF_224 n) X v X'
theorem gxL_224 {tb : aj_T} : ∀ N : Nat, (∀ (lv : aj_V) (y1 : Int32) (y2 : Int32) (y3 : Int32) (X : fx_X), aj_lv lv 0 = some (.ref 117) → aj_lv lv 1 = some (.int y1) → aj_lv lv 2 = some (.int y2) → aj_lv lv 3 = some (.int y3) → fx_W tb aj_m224 N 26 lv [] X (fx_Q fx_qN (fun v X' => ∃ n : Nat, gxF_224 n 26 [y1, y2, y3] [] [] X v X'))) ∧ (∀ (lv : aj_V) (y1 : Int32) (y2 : Int32) (y3 : Int32) (y4 : Int32) (y5 : Int32) (X : fx_X), aj_lv lv 0 = some (.ref 117) → aj_lv lv 1 = some (.int y1) → aj_lv lv 2 = some (.int y2) → aj_lv lv 3 = some (.int y3) → aj_lv lv 4 = some (.int y4) → aj_lv lv 5 = some (.int y5) → fx_W tb aj_m224 N 49 lv [] X (fx_Q fx_qN (fun v X' => ∃ n : Nat, gxF_224 n 49 [y1, y2, y3, y4, y5] [] [] X v X'))) ∧ (∀ (lv : aj_V) (y1 : Int32) (y2 : Int32) (y3 : Int32) (X : fx_X), aj_lv lv 0 = some (.ref 117) → aj_lv lv 1 = some (.int y1) → aj_lv lv 2 = some (.int y2) → aj_lv lv 3 = some (.int y3) → fx_W tb aj_m224 N 123 lv [] X (fx_Q fx_qN (fun v X' => ∃ n : Nat, gxF_224 n 123 [y1, y2, y3] [] [] X v X'))) ∧ (∀ (lv : aj_V) (y1 : Int32) (y2 : Int32) (y3 : Int32) (y4 : Int32) (y5 : Int32) (X : fx_X), aj_lv lv 0 = some (.ref 117) → aj_lv lv 1 = some (.int y1) → aj_lv lv 2 = some (.int y2) → aj_lv lv 3 = some (.int y3) → aj_lv lv 4 = some (.int y4) → aj_lv lv 5 = some (.int y5) → fx_W tb aj_m224 N 144 lv [] X (fx_Q fx_qN (fun v X' => ∃ n : Nat, gxF_224 n 144 [y1, y2, y3, y4, y5] [] [] X v X'))) ∧ (∀ (lv : aj_V) (y1 : Int32) (y2 : Int32) (y3 : Int32) (X : fx_X), aj_lv lv 0 = some (.ref 117) → aj_lv lv 1 = some (.int y1) → aj_lv lv 2 = some (.int y2) → aj_lv lv 3 = some (.int y3) → fx_W tb aj_m224 N 187 lv [] X (fx_Q fx_qN (fun v X' => ∃ n : Nat, gxF_224 n 187 [y1, y2, y3] [] [] X v X'))) := by
  intro N
  induction N with
  | zero => exact ⟨(by intros; exact fx_z), (by intros; exact fx_z), (by intros; exact fx_z), (by intros; exact fx_z), (by intros; exact fx_z)⟩
  | succ N ih =>
    refine ⟨?_, ?_, ?_, ?_, ?_⟩
    · intro lv y1 y2 y3 X hlv_0 hlv_1 hlv_2 hlv_3
      refine fx_mono (Q := fx_Q fx_qN (fun v X' => ∃ n : Nat, gxT_224_26 (gxF_224 n) y1 y2 y3 X v X')) (fun r X' ⟨v, e, n, z⟩ => ⟨v, e, n + 1, gxI_224_26 z⟩) ?_
      unfold gxT_224_26
      refine fx_i0 aj_d224 rfl (Nat.le_refl _) (fun _ => rfl) hlv_3 ?_
      refine fx_i2 aj_d224 rfl (Nat.le_succ _) (fun _ => rfl) hlv_0 ?_
      refine fx_gF aj_d224 rfl (Nat.le_succ _) rfl rfl fx_in_11_5 (t := 122) rfl (fun hA11 => ?_)
      refine fx_i0 aj_d224 rfl (Nat.le_succ _) (fun _ => rfl) hlv_1 ?_
      refine fx_ld aj_d224 (Or.inl rfl) rfl (Nat.le_succ _) (fun g120 g121 => ?_)
      show fx_W _ _ _ 33 lv [.int (X.1 122 (y1).toInt.toNat), .int y3] _ _
      refine fx_qa (c := 0 ≤ (y1).toInt ∧ (y1).toInt < ((2 : Nat) : Int)) ⟨g120, fx_lnk g121 hA11⟩ ?_
      refine fx_b (tgt := 121) aj_d224 rfl (Nat.le_succ _) rfl (fun q13 => ?_) (fun q13 => ?_)
      · skip
        refine fx_qe (c := (y3).toInt < ((X.1 122 (y1).toInt.toNat)).toInt) (fx_t_ge q13) ?_
        show fx_W _ _ _ 121 lv [] _ _
        refine fx_n (pc' := 122) (lv' := lv) (st' := [.int (Int32.ofInt 0)]) aj_d224 rfl (Nat.le_succ _) (fun _ => rfl) ?_
        refine fx_s0 (j := 3) aj_d224 rfl (Nat.le_succ _) (by decide) (fun _ => rfl) ?_
        obtain ⟨lv14, elv14⟩ : ∃ l, l = aj_set1 lv 3 (.int (Int32.ofInt 0)) := ⟨_, rfl⟩
        rw [← elv14]
        have hlv14_0 : aj_lv lv14 0 = some (.ref 117) := fx_e1 elv14 hlv_0 (by decide) (Or.inl (by decide))
        have hlv14_1 : aj_lv lv14 1 = some (.int y1) := fx_e1 elv14 hlv_1 (by decide) (Or.inl (by decide))
        have hlv14_2 : aj_lv lv14 2 = some (.int y2) := fx_e1 elv14 hlv_2 (by decide) (Or.inr rfl)
        have hlv14_3 : aj_lv lv14 3 = some (.int (Int32.ofInt 0)) := by rw [elv14]; exact ak_set1_eq _ _ _
        show fx_W _ _ _ 123 lv14 [] _ _
        exact (ih.2.2.1) lv14 (y1) (y2) ((Int32.ofInt 0)) X  hlv14_0 hlv14_1 hlv14_2 hlv14_3
      · skip
        refine fx_qi (c := (y3).toInt < ((X.1 122 (y1).toInt.toNat)).toInt) (fx_f_ge q13) ?_
        show fx_W _ _ _ 36 lv [] _ _
        refine fx_i0 aj_d224 rfl (Nat.le_succ _) (fun _ => rfl) hlv_3 ?_
        refine fx_s0 (j := 4) aj_d224 rfl (Nat.le_succ _) (by decide) (fun _ => rfl) ?_
        obtain ⟨lv15, elv15⟩ : ∃ l, l = aj_set1 lv 4 (.int y3) := ⟨_, rfl⟩
        rw [← elv15]
        have hlv15_0 : aj_lv lv15 0 = some (.ref 117) := fx_e1 elv15 hlv_0 (by decide) (Or.inl (by decide))
        have hlv15_1 : aj_lv lv15 1 = some (.int y1) := fx_e1 elv15 hlv_1 (by decide) (Or.inl (by decide))
        have hlv15_2 : aj_lv lv15 2 = some (.int y2) := fx_e1 elv15 hlv_2 (by decide) (Or.inl (by decide))
        have hlv15_3 : aj_lv lv15 3 = some (.int y3) := fx_e1 elv15 hlv_3 (by decide) (Or.inr rfl)
        have hlv15_4 : aj_lv lv15 4 = some (.int y3) := by rw [elv15]; exact ak_set1_eq _ _ _
        show fx_W _ _ _ 39 lv15 [] _ _
        refine fx_i2 aj_d224 rfl (Nat.le_succ _) (fun _ => rfl) hlv15_0 ?_
        refine fx_gF aj_d224 rfl (Nat.le_succ _) rfl rfl fx_in_11_1 (t := 118) rfl (fun hA16 => ?_)
        refine fx_i0 aj_d224 rfl (Nat.le_succ _) (fun _ => rfl) hlv15_1 ?_
        refine fx_ld aj_d224 (Or.inl rfl) rfl (Nat.le_succ _) (fun g170 g171 => ?_)
        show fx_W _ _ _ 45 lv15 [.int (X.1 118 (y1).toInt.toNat)] _ _
        refine fx_qa (c := 0 ≤ (y1).toInt ∧ (y1).toInt < ((2 : Nat) : Int)) ⟨g170, fx_lnk g171 hA16⟩ ?_
        refine fx_n (pc' := 46) (lv' := lv15) (st' := [.int (Int32.ofInt 1), .int (X.1 118 (y1).toInt.toNat)]) aj_d224 rfl (Nat.le_succ _) (fun _ => rfl) ?_
        refine fx_n (pc' := 47) (lv' := lv15) (st' := [.int ((X.1 118 (y1).toInt.toNat) - (Int32.ofInt 1))]) aj_d224 rfl (Nat.le_succ _) (fun _ => rfl) ?_
        refine fx_qxI (fun x18 ex18 => ?_)
        refine fx_s0 (j := 5) aj_d224 rfl (Nat.le_succ _) (by decide) (fun _ => rfl) ?_
        obtain ⟨lv19, elv19⟩ : ∃ l, l = aj_set1 lv15 5 (.int x18) := ⟨_, rfl⟩
        rw [← elv19]
        have hlv19_0 : aj_lv lv19 0 = some (.ref 117) := fx_e1 elv19 hlv15_0 (by decide) (Or.inl (by decide))
        have hlv19_1 : aj_lv lv19 1 = some (.int y1) := fx_e1 elv19 hlv15_1 (by decide) (Or.inl (by decide))
        have hlv19_2 : aj_lv lv19 2 = some (.int y2) := fx_e1 elv19 hlv15_2 (by decide) (Or.inl (by decide))
        have hlv19_3 : aj_lv lv19 3 = some (.int y3) := fx_e1 elv19 hlv15_3 (by decide) (Or.inl (by decide))
        have hlv19_4 : aj_lv lv19 4 = some (.int y3) := fx_e1 elv19 hlv15_4 (by decide) (Or.inr rfl)
        have hlv19_5 : aj_lv lv19 5 = some (.int x18) := by rw [elv19]; exact ak_set1_eq _ _ _
        show fx_W _ _ _ 49 lv19 [] _ _
        exact (ih.2.1) lv19 (y1) (y2) (y3) (y3) (x18) X  hlv19_0 hlv19_1 hlv19_2 hlv19_3 hlv19_4 hlv19_5
    · intro lv y1 y2 y3 y4 y5 X hlv_0 hlv_1 hlv_2 hlv_3 hlv_4 hlv_5
      refine fx_mono (Q := fx_Q fx_qN (fun v X' => ∃ n : Nat, gxT_224_49 (gxF_224 n) y1 y2 y3 y4 y5 X v X')) (fun r X' ⟨v, e, n, z⟩ => ⟨v, e, n + 1, gxI_224_49 z⟩) ?_
      unfold gxT_224_49
      refine fx_i0 aj_d224 rfl (Nat.le_refl _) (fun _ => rfl) hlv_5 ?_
      refine fx_b0 (tgt := 115) aj_d224 rfl (Nat.le_succ _) rfl (fun q27 => ?_) (fun q27 => ?_)
      · skip
        refine fx_qi (c := (y5).toInt < 0) (fx_t_lt q27) ?_
        show fx_W _ _ _ 115 lv [] _ _
        refine fx_incq aj_d224 rfl (Nat.le_succ _) hlv_3 (by decide) (fun x28 ex28 => ?_)
        obtain ⟨lv29, elv29⟩ : ∃ l, l = aj_set1 lv 3 (.int x28) := ⟨_, rfl⟩
        rw [← elv29]
        have hlv29_0 : aj_lv lv29 0 = some (.ref 117) := fx_e1 elv29 hlv_0 (by decide) (Or.inl (by decide))
        have hlv29_1 : aj_lv lv29 1 = some (.int y1) := fx_e1 elv29 hlv_1 (by decide) (Or.inl (by decide))
        have hlv29_2 : aj_lv lv29 2 = some (.int y2) := fx_e1 elv29 hlv_2 (by decide) (Or.inr rfl)
        have hlv29_3 : aj_lv lv29 3 = some (.int x28) := by rw [elv29]; exact ak_set1_eq _ _ _
        show fx_W _ _ _ 118 lv29 [] _ _
        refine fx_n (pc' := 26) (lv' := lv29) (st' := []) aj_d224 rfl (Nat.le_succ _) (fun _ => rfl) ?_
        exact (ih.1) lv29 (y1) (y2) (x28) X  hlv29_0 hlv29_1 hlv29_2 hlv29_3
      · skip
        refine fx_qe (c := (y5).toInt < 0) (fx_f_lt q27) ?_
        show fx_W _ _ _ 54 lv [] _ _
        refine fx_i0 aj_d224 rfl (Nat.le_succ _) (fun _ => rfl) hlv_1 ?_
        refine fx_n (pc' := 57) (lv' := lv) (st' := [.int ((Int8.ofInt 8).toInt32), .int y1]) aj_d224 rfl (Nat.le_succ _) (fun _ => rfl) ?_
        refine fx_n (pc' := 58) (lv' := lv) (st' := [.int (y1 * ((Int8.ofInt 8).toInt32))]) aj_d224 rfl (Nat.le_succ _) (fun _ => rfl) ?_
        refine fx_i0 aj_d224 rfl (Nat.le_succ _) (fun _ => rfl) hlv_5 ?_
        refine fx_n (pc' := 61) (lv' := lv) (st' := [.int ((y1 * ((Int8.ofInt 8).toInt32)) + y5)]) aj_d224 rfl (Nat.le_succ _) (fun _ => rfl) ?_
        refine fx_qxI (fun x30 ex30 => ?_)
        refine fx_s0 (j := 6) aj_d224 rfl (Nat.le_succ _) (by decide) (fun _ => rfl) ?_
        obtain ⟨lv31, elv31⟩ : ∃ l, l = aj_set1 lv 6 (.int x30) := ⟨_, rfl⟩
        rw [← elv31]
        have hlv31_0 : aj_lv lv31 0 = some (.ref 117) := fx_e1 elv31 hlv_0 (by decide) (Or.inl (by decide))
        have hlv31_1 : aj_lv lv31 1 = some (.int y1) := fx_e1 elv31 hlv_1 (by decide) (Or.inl (by decide))
        have hlv31_2 : aj_lv lv31 2 = some (.int y2) := fx_e1 elv31 hlv_2 (by decide) (Or.inl (by decide))
        have hlv31_3 : aj_lv lv31 3 = some (.int y3) := fx_e1 elv31 hlv_3 (by decide) (Or.inl (by decide))
        have hlv31_4 : aj_lv lv31 4 = some (.int y4) := fx_e1 elv31 hlv_4 (by decide) (Or.inl (by decide))
        have hlv31_5 : aj_lv lv31 5 = some (.int y5) := fx_e1 elv31 hlv_5 (by decide) (Or.inr rfl)
        have hlv31_6 : aj_lv lv31 6 = some (.int x30) := by rw [elv31]; exact ak_set1_eq _ _ _
        show fx_W _ _ _ 63 lv31 [] _ _
        refine fx_i2 aj_d224 rfl (Nat.le_succ _) (fun _ => rfl) hlv31_0 ?_
        refine fx_gF aj_d224 rfl (Nat.le_succ _) rfl rfl fx_in_11_6 (t := 123) rfl (fun hA32 => ?_)
        refine fx_i0 aj_d224 rfl (Nat.le_succ _) (fun _ => rfl) hlv31_6 ?_
        refine fx_n (pc' := 72) (lv' := lv31) (st' := [.int ((Int16.ofInt 1024).toInt32), .int x30, .ref 123]) aj_d224 rfl (Nat.le_succ _) (fun _ => rfl) ?_
        refine fx_n (pc' := 73) (lv' := lv31) (st' := [.int (x30 * ((Int16.ofInt 1024).toInt32)), .ref 123]) aj_d224 rfl (Nat.le_succ _) (fun _ => rfl) ?_
        refine fx_i0 aj_d224 rfl (Nat.le_succ _) (fun _ => rfl) hlv31_3 ?_
        refine fx_n (pc' := 75) (lv' := lv31) (st' := [.int ((x30 * ((Int16.ofInt 1024).toInt32)) + y3), .ref 123]) aj_d224 rfl (Nat.le_succ _) (fun _ => rfl) ?_
        refine fx_i2 aj_d224 rfl (Nat.le_succ _) (fun _ => rfl) hlv31_0 ?_
        refine fx_gF aj_d224 rfl (Nat.le_succ _) rfl rfl fx_in_11_4 (t := 121) rfl (fun hA33 => ?_)
        refine fx_i0 aj_d224 rfl (Nat.le_succ _) (fun _ => rfl) hlv31_6 ?_
        refine fx_n (pc' := 83) (lv' := lv31) (st' := [.int ((Int8.ofInt 64).toInt32), .int x30, .ref 121, .int ((x30 * ((Int16.ofInt 1024).toInt32)) + y3), .ref 123]) aj_d224 rfl (Nat.le_succ _) (fun _ => rfl) ?_
        refine fx_n (pc' := 84) (lv' := lv31) (st' := [.int (x30 * ((Int8.ofInt 64).toInt32)), .ref 121, .int ((x30 * ((Int16.ofInt 1024).toInt32)) + y3), .ref 123]) aj_d224 rfl (Nat.le_succ _) (fun _ => rfl) ?_
        refine fx_i0 aj_d224 rfl (Nat.le_succ _) (fun _ => rfl) hlv31_4 ?_
        refine fx_i2 aj_d224 rfl (Nat.le_succ _) (fun _ => rfl) hlv31_0 ?_
        refine fx_gF aj_d224 rfl (Nat.le_succ _) rfl rfl fx_in_11_3 (t := 120) rfl (fun hA34 => ?_)
        refine fx_i0 aj_d224 rfl (Nat.le_succ _) (fun _ => rfl) hlv31_6 ?_
        refine fx_ld aj_d224 (Or.inl rfl) rfl (Nat.le_succ _) (fun g350 g351 => ?_)
        show fx_W _ _ _ 93 lv31 [.int (X.1 120 (x30).toInt.toNat), .int y4, .int (x30 * ((Int8.ofInt 64).toInt32)), .ref 121, .int ((x30 * ((Int16.ofInt 1024).toInt32)) + y3), .ref 123] _ _
        refine fx_qa (c := 0 ≤ (x30).toInt ∧ (x30).toInt < ((16 : Nat) : Int)) ⟨g350, fx_lnk g351 hA34⟩ ?_
        refine fx_rm aj_d224 rfl (Nat.le_succ _) (fun q36 => ?_)
        refine fx_qa (c := (X.1 120 (x30).toInt.toNat) ≠ 0) q36 ?_
        refine fx_n (pc' := 95) (lv' := lv31) (st' := [.int ((x30 * ((Int8.ofInt 64).toInt32)) + (y4 - y4 / (X.1 120 (x30).toInt.toNat) * (X.1 120 (x30).toInt.toNat))), .ref 121, .int ((x30 * ((Int16.ofInt 1024).toInt32)) + y3), .ref 123]) aj_d224 rfl (Nat.le_succ _) (fun _ => rfl) ?_
        refine fx_ld aj_d224 (Or.inl rfl) rfl (Nat.le_succ _) (fun g370 g371 => ?_)
        show fx_W _ _ _ 96 lv31 [.int (X.1 121 (((x30 * ((Int8.ofInt 64).toInt32)) + (y4 - y4 / (X.1 120 (x30).toInt.toNat) * (X.1 120 (x30).toInt.toNat)))).toInt.toNat), .int ((x30 * ((Int16.ofInt 1024).toInt32)) + y3), .ref 123] _ _
        refine fx_qa (c := 0 ≤ (((x30 * ((Int8.ofInt 64).toInt32)) + (y4 - y4 / (X.1 120 (x30).toInt.toNat) * (X.1 120 (x30).toInt.toNat)))).toInt ∧ (((x30 * ((Int8.ofInt 64).toInt32)) + (y4 - y4 / (X.1 120 (x30).toInt.toNat) * (X.1 120 (x30).toInt.toNat)))).toInt < ((1024 : Nat) : Int)) ⟨g370, fx_lnk g371 hA33⟩ ?_
        refine fx_st aj_d224 (Or.inl ⟨rfl, rfl⟩) rfl (Nat.le_succ _) (fun g380 g381 => ?_)
        show fx_W _ _ _ _ _ _ (fx_wI X 123 (((x30 * ((Int16.ofInt 1024).toInt32)) + y3)).toInt.toNat (X.1 121 (((x30 * ((Int8.ofInt 64).toInt32)) + (y4 - y4 / (X.1 120 (x30).toInt.toNat) * (X.1 120 (x30).toInt.toNat)))).toInt.toNat)) _
        refine fx_qa (c := 0 ≤ (((x30 * ((Int16.ofInt 1024).toInt32)) + y3)).toInt ∧ (((x30 * ((Int16.ofInt 1024).toInt32)) + y3)).toInt < ((16384 : Nat) : Int)) ⟨g380, fx_lnk g381 hA32⟩ ?_
        refine fx_qX (fun X39 eX39 => ?_)
        show fx_W _ _ _ 97 lv31 [] _ _
        refine fx_i0 aj_d224 rfl (Nat.le_succ _) (fun _ => rfl) hlv31_4 ?_
        refine fx_i2 aj_d224 rfl (Nat.le_succ _) (fun _ => rfl) hlv31_0 ?_
        refine fx_gF aj_d224 rfl (Nat.le_succ _) rfl rfl fx_in_11_3 (t := 120) rfl (fun hA40 => ?_)
        refine fx_i0 aj_d224 rfl (Nat.le_succ _) (fun _ => rfl) hlv31_6 ?_
        refine fx_ld aj_d224 (Or.inl rfl) rfl (Nat.le_succ _) (fun g410 g411 => ?_)
        show fx_W _ _ _ 106 lv31 [.int (X39.1 120 (x30).toInt.toNat), .int y4] _ _
        refine fx_qa (c := 0 ≤ (x30).toInt ∧ (x30).toInt < ((16 : Nat) : Int)) ⟨g410, fx_lnk g411 hA40⟩ ?_
        refine fx_dv aj_d224 rfl (Nat.le_succ _) (fun q42 => ?_)
        refine fx_qa (c := (X39.1 120 (x30).toInt.toNat) ≠ 0) q42 ?_
        refine fx_qxI (fun x43 ex43 => ?_)
        refine fx_s0 (j := 4) aj_d224 rfl (Nat.le_succ _) (by decide) (fun _ => rfl) ?_
        obtain ⟨lv44, elv44⟩ : ∃ l, l = aj_set1 lv31 4 (.int x43) := ⟨_, rfl⟩
        rw [← elv44]
        have hlv44_0 : aj_lv lv44 0 = some (.ref 117) := fx_e1 elv44 hlv31_0 (by decide) (Or.inl (by decide))
        have hlv44_1 : aj_lv lv44 1 = some (.int y1) := fx_e1 elv44 hlv31_1 (by decide) (Or.inl (by decide))
        have hlv44_2 : aj_lv lv44 2 = some (.int y2) := fx_e1 elv44 hlv31_2 (by decide) (Or.inl (by decide))
        have hlv44_3 : aj_lv lv44 3 = some (.int y3) := fx_e1 elv44 hlv31_3 (by decide) (Or.inr rfl)
        have hlv44_5 : aj_lv lv44 5 = some (.int y5) := fx_e1 elv44 hlv31_5 (by decide) (Or.inl (by decide))
        have hlv44_4 : aj_lv lv44 4 = some (.int x43) := by rw [elv44]; exact ak_set1_eq _ _ _
        show fx_W _ _ _ 109 lv44 [] _ _
        refine fx_incq aj_d224 rfl (Nat.le_succ _) hlv44_5 (by decide) (fun x45 ex45 => ?_)
        obtain ⟨lv46, elv46⟩ : ∃ l, l = aj_set1 lv44 5 (.int x45) := ⟨_, rfl⟩
        rw [← elv46]
        have hlv46_0 : aj_lv lv46 0 = some (.ref 117) := fx_e1 elv46 hlv44_0 (by decide) (Or.inl (by decide))
        have hlv46_1 : aj_lv lv46 1 = some (.int y1) := fx_e1 elv46 hlv44_1 (by decide) (Or.inl (by decide))
        have hlv46_2 : aj_lv lv46 2 = some (.int y2) := fx_e1 elv46 hlv44_2 (by decide) (Or.inl (by decide))
        have hlv46_3 : aj_lv lv46 3 = some (.int y3) := fx_e1 elv46 hlv44_3 (by decide) (Or.inl (by decide))
        have hlv46_4 : aj_lv lv46 4 = some (.int x43) := fx_e1 elv46 hlv44_4 (by decide) (Or.inr rfl)
        have hlv46_5 : aj_lv lv46 5 = some (.int x45) := by rw [elv46]; exact ak_set1_eq _ _ _
        show fx_W _ _ _ 112 lv46 [] _ _
        refine fx_n (pc' := 49) (lv' := lv46) (st' := []) aj_d224 rfl (Nat.le_succ _) (fun _ => rfl) ?_
        exact (ih.2.1) lv46 (y1) (y2) (y3) (x43) (x45) X39  hlv46_0 hlv46_1 hlv46_2 hlv46_3 hlv46_4 hlv46_5
    · intro lv y1 y2 y3 X hlv_0 hlv_1 hlv_2 hlv_3
      refine fx_mono (Q := fx_Q fx_qN (fun v X' => ∃ n : Nat, gxT_224_123 (gxF_224 n) y1 y2 y3 X v X')) (fun r X' ⟨v, e, n, z⟩ => ⟨v, e, n + 1, gxI_224_123 z⟩) ?_
      unfold gxT_224_123
      refine fx_i0 aj_d224 rfl (Nat.le_refl _) (fun _ => rfl) hlv_3 ?_
      refine fx_i2 aj_d224 rfl (Nat.le_succ _) (fun _ => rfl) hlv_0 ?_
      refine fx_gF aj_d224 rfl (Nat.le_succ _) rfl rfl fx_in_11_7 (t := 124) rfl (fun hA20 => ?_)
      refine fx_i0 aj_d224 rfl (Nat.le_succ _) (fun _ => rfl) hlv_1 ?_
      refine fx_ld aj_d224 (Or.inl rfl) rfl (Nat.le_succ _) (fun g210 g211 => ?_)
      show fx_W _ _ _ 130 lv [.int (X.1 124 (y1).toInt.toNat), .int y3] _ _
      refine fx_qa (c := 0 ≤ (y1).toInt ∧ (y1).toInt < ((2 : Nat) : Int)) ⟨g210, fx_lnk g211 hA20⟩ ?_
      refine fx_b (tgt := 185) aj_d224 rfl (Nat.le_succ _) rfl (fun q22 => ?_) (fun q22 => ?_)
      · skip
        refine fx_qe (c := (y3).toInt < ((X.1 124 (y1).toInt.toNat)).toInt) (fx_t_ge q22) ?_
        show fx_W _ _ _ 185 lv [] _ _
        refine fx_n (pc' := 186) (lv' := lv) (st' := [.int (Int32.ofInt 0)]) aj_d224 rfl (Nat.le_succ _) (fun _ => rfl) ?_
        refine fx_s0 (j := 3) aj_d224 rfl (Nat.le_succ _) (by decide) (fun _ => rfl) ?_
        obtain ⟨lv23, elv23⟩ : ∃ l, l = aj_set1 lv 3 (.int (Int32.ofInt 0)) := ⟨_, rfl⟩
        rw [← elv23]
        have hlv23_0 : aj_lv lv23 0 = some (.ref 117) := fx_e1 elv23 hlv_0 (by decide) (Or.inl (by decide))
        have hlv23_1 : aj_lv lv23 1 = some (.int y1) := fx_e1 elv23 hlv_1 (by decide) (Or.inl (by decide))
        have hlv23_2 : aj_lv lv23 2 = some (.int y2) := fx_e1 elv23 hlv_2 (by decide) (Or.inr rfl)
        have hlv23_3 : aj_lv lv23 3 = some (.int (Int32.ofInt 0)) := by rw [elv23]; exact ak_set1_eq _ _ _
        show fx_W _ _ _ 187 lv23 [] _ _
        exact (ih.2.2.2.2) lv23 (y1) (y2) ((Int32.ofInt 0)) X  hlv23_0 hlv23_1 hlv23_2 hlv23_3
      · skip
        refine fx_qi (c := (y3).toInt < ((X.1 124 (y1).toInt.toNat)).toInt) (fx_f_ge q22) ?_
        show fx_W _ _ _ 133 lv [] _ _
        refine fx_i0 aj_d224 rfl (Nat.le_succ _) (fun _ => rfl) hlv_1 ?_
        refine fx_n (pc' := 136) (lv' := lv) (st' := [.int ((Int8.ofInt 10).toInt32), .int y1]) aj_d224 rfl (Nat.le_succ _) (fun _ => rfl) ?_
        refine fx_n (pc' := 137) (lv' := lv) (st' := [.int (y1 * ((Int8.ofInt 10).toInt32))]) aj_d224 rfl (Nat.le_succ _) (fun _ => rfl) ?_
        refine fx_i0 aj_d224 rfl (Nat.le_succ _) (fun _ => rfl) hlv_3 ?_
        refine fx_n (pc' := 139) (lv' := lv) (st' := [.int ((y1 * ((Int8.ofInt 10).toInt32)) + y3)]) aj_d224 rfl (Nat.le_succ _) (fun _ => rfl) ?_
        refine fx_qxI (fun x24 ex24 => ?_)
        refine fx_s0 (j := 4) aj_d224 rfl (Nat.le_succ _) (by decide) (fun _ => rfl) ?_
        obtain ⟨lv25, elv25⟩ : ∃ l, l = aj_set1 lv 4 (.int x24) := ⟨_, rfl⟩
        rw [← elv25]
        have hlv25_0 : aj_lv lv25 0 = some (.ref 117) := fx_e1 elv25 hlv_0 (by decide) (Or.inl (by decide))
        have hlv25_1 : aj_lv lv25 1 = some (.int y1) := fx_e1 elv25 hlv_1 (by decide) (Or.inl (by decide))
        have hlv25_2 : aj_lv lv25 2 = some (.int y2) := fx_e1 elv25 hlv_2 (by decide) (Or.inl (by decide))
        have hlv25_3 : aj_lv lv25 3 = some (.int y3) := fx_e1 elv25 hlv_3 (by decide) (Or.inr rfl)
        have hlv25_4 : aj_lv lv25 4 = some (.int x24) := by rw [elv25]; exact ak_set1_eq _ _ _
        show fx_W _ _ _ 141 lv25 [] _ _
        refine fx_n (pc' := 142) (lv' := lv25) (st' := [.int (Int32.ofInt 0)]) aj_d224 rfl (Nat.le_succ _) (fun _ => rfl) ?_
        refine fx_s0 (j := 5) aj_d224 rfl (Nat.le_succ _) (by decide) (fun _ => rfl) ?_
        obtain ⟨lv26, elv26⟩ : ∃ l, l = aj_set1 lv25 5 (.int (Int32.ofInt 0)) := ⟨_, rfl⟩
        rw [← elv26]
        have hlv26_0 : aj_lv lv26 0 = some (.ref 117) := fx_e1 elv26 hlv25_0 (by decide) (Or.inl (by decide))
        have hlv26_1 : aj_lv lv26 1 = some (.int y1) := fx_e1 elv26 hlv25_1 (by decide) (Or.inl (by decide))
        have hlv26_2 : aj_lv lv26 2 = some (.int y2) := fx_e1 elv26 hlv25_2 (by decide) (Or.inl (by decide))
        have hlv26_3 : aj_lv lv26 3 = some (.int y3) := fx_e1 elv26 hlv25_3 (by decide) (Or.inl (by decide))
        have hlv26_4 : aj_lv lv26 4 = some (.int x24) := fx_e1 elv26 hlv25_4 (by decide) (Or.inr rfl)
        have hlv26_5 : aj_lv lv26 5 = some (.int (Int32.ofInt 0)) := by rw [elv26]; exact ak_set1_eq _ _ _
        show fx_W _ _ _ 144 lv26 [] _ _
        exact (ih.2.2.2.1) lv26 (y1) (y2) (y3) (x24) ((Int32.ofInt 0)) X  hlv26_0 hlv26_1 hlv26_2 hlv26_3 hlv26_4 hlv26_5
    · intro lv y1 y2 y3 y4 y5 X hlv_0 hlv_1 hlv_2 hlv_3 hlv_4 hlv_5
      refine fx_mono (Q := fx_Q fx_qN (fun v X' => ∃ n : Nat, gxT_224_144 (gxF_224 n) y1 y2 y3 y4 y5 X v X')) (fun r X' ⟨v, e, n, z⟩ => ⟨v, e, n + 1, gxI_224_144 z⟩) ?_
      unfold gxT_224_144
      refine fx_i0 aj_d224 rfl (Nat.le_refl _) (fun _ => rfl) hlv_5 ?_
      refine fx_i2 aj_d224 rfl (Nat.le_succ _) (fun _ => rfl) hlv_0 ?_
      refine fx_gF aj_d224 rfl (Nat.le_succ _) rfl rfl fx_in_11_15 (t := 131) rfl (fun hA55 => ?_)
      refine fx_i0 aj_d224 rfl (Nat.le_succ _) (fun _ => rfl) hlv_4 ?_
      refine fx_ld aj_d224 (Or.inl rfl) rfl (Nat.le_succ _) (fun g560 g561 => ?_)
      show fx_W _ _ _ 153 lv [.int (X.1 131 (y4).toInt.toNat), .int y5] _ _
      refine fx_qa (c := 0 ≤ (y4).toInt ∧ (y4).toInt < ((50 : Nat) : Int)) ⟨g560, fx_lnk g561 hA55⟩ ?_
      refine fx_b (tgt := 179) aj_d224 rfl (Nat.le_succ _) rfl (fun q57 => ?_) (fun q57 => ?_)
      · skip
        refine fx_qe (c := (y5).toInt < ((X.1 131 (y4).toInt.toNat)).toInt) (fx_t_ge q57) ?_
        show fx_W _ _ _ 179 lv [] _ _
        refine fx_incq aj_d224 rfl (Nat.le_succ _) hlv_3 (by decide) (fun x58 ex58 => ?_)
        obtain ⟨lv59, elv59⟩ : ∃ l, l = aj_set1 lv 3 (.int x58) := ⟨_, rfl⟩
        rw [← elv59]
        have hlv59_0 : aj_lv lv59 0 = some (.ref 117) := fx_e1 elv59 hlv_0 (by decide) (Or.inl (by decide))
        have hlv59_1 : aj_lv lv59 1 = some (.int y1) := fx_e1 elv59 hlv_1 (by decide) (Or.inl (by decide))
        have hlv59_2 : aj_lv lv59 2 = some (.int y2) := fx_e1 elv59 hlv_2 (by decide) (Or.inr rfl)
        have hlv59_3 : aj_lv lv59 3 = some (.int x58) := by rw [elv59]; exact ak_set1_eq _ _ _
        show fx_W _ _ _ 182 lv59 [] _ _
        refine fx_n (pc' := 123) (lv' := lv59) (st' := []) aj_d224 rfl (Nat.le_succ _) (fun _ => rfl) ?_
        exact (ih.2.2.1) lv59 (y1) (y2) (x58) X  hlv59_0 hlv59_1 hlv59_2 hlv59_3
      · skip
        refine fx_qi (c := (y5).toInt < ((X.1 131 (y4).toInt.toNat)).toInt) (fx_f_ge q57) ?_
        show fx_W _ _ _ 156 lv [] _ _
        refine fx_i2 aj_d224 rfl (Nat.le_succ _) (fun _ => rfl) hlv_0 ?_
        refine fx_i2 aj_d224 rfl (Nat.le_succ _) (fun _ => rfl) hlv_0 ?_
        refine fx_gF aj_d224 rfl (Nat.le_succ _) rfl rfl fx_in_11_20 (t := 136) rfl (fun hA60 => ?_)
        refine fx_i2 aj_d224 rfl (Nat.le_succ _) (fun _ => rfl) hlv_0 ?_
        refine fx_i0 aj_d224 rfl (Nat.le_succ _) (fun _ => rfl) hlv_4 ?_
        refine fx_i0 aj_d224 rfl (Nat.le_succ _) (fun _ => rfl) hlv_5 ?_
        refine fx_cv aj_d224 rfl (Nat.le_succ _) rfl [_, _] rfl rfl (gx_225_ok y4 y5) ?_
        rintro _ X61 ⟨w62, rfl, hR61⟩ hok61 hle61
        refine fx_qc hR61 ?_
        show fx_W _ _ _ 169 lv [.int w62, .ref 136, .ref 117] _ _
        refine fx_i0 aj_d224 rfl (Nat.le_succ _) (fun _ => rfl) hlv_2 ?_
        refine fx_cv aj_d224 rfl (Nat.le_succ _) rfl [_, _, _] rfl rfl (gx_226_ok 136 w62 y2) ?_
        rintro _ X63 ⟨w64, rfl, hR63⟩ hok63 hle63
        refine fx_qc hR63 ?_
        show fx_W _ _ _ 173 lv [] _ _
        refine fx_incq aj_d224 rfl (Nat.le_succ _) hlv_5 (by decide) (fun x65 ex65 => ?_)
        obtain ⟨lv66, elv66⟩ : ∃ l, l = aj_set1 lv 5 (.int x65) := ⟨_, rfl⟩
        rw [← elv66]
        have hlv66_0 : aj_lv lv66 0 = some (.ref 117) := fx_e1 elv66 hlv_0 (by decide) (Or.inl (by decide))
        have hlv66_1 : aj_lv lv66 1 = some (.int y1) := fx_e1 elv66 hlv_1 (by decide) (Or.inl (by decide))
        have hlv66_2 : aj_lv lv66 2 = some (.int y2) := fx_e1 elv66 hlv_2 (by decide) (Or.inl (by decide))
        have hlv66_3 : aj_lv lv66 3 = some (.int y3) := fx_e1 elv66 hlv_3 (by decide) (Or.inl (by decide))
        have hlv66_4 : aj_lv lv66 4 = some (.int y4) := fx_e1 elv66 hlv_4 (by decide) (Or.inr rfl)
        have hlv66_5 : aj_lv lv66 5 = some (.int x65) := by rw [elv66]; exact ak_set1_eq _ _ _
        show fx_W _ _ _ 176 lv66 [] _ _
        refine fx_n (pc' := 144) (lv' := lv66) (st' := []) aj_d224 rfl (Nat.le_succ _) (fun _ => rfl) ?_
        exact (ih.2.2.2.1) lv66 (y1) (y2) (y3) (y4) (x65) X63  hlv66_0 hlv66_1 hlv66_2 hlv66_3 hlv66_4 hlv66_5
    · intro lv y1 y2 y3 X hlv_0 hlv_1 hlv_2 hlv_3
      refine fx_mono (Q := fx_Q fx_qN (fun v X' => ∃ n : Nat, gxT_224_187 (gxF_224 n) y1 y2 y3 X v X')) (fun r X' ⟨v, e, n, z⟩ => ⟨v, e, n + 1, gxI_224_187 z⟩) ?_
      unfold gxT_224_187
      refine fx_i0 aj_d224 rfl (Nat.le_refl _) (fun _ => rfl) hlv_3 ?_
      refine fx_i2 aj_d224 rfl (Nat.le_succ _) (fun _ => rfl) hlv_0 ?_
      refine fx_gF aj_d224 rfl (Nat.le_succ _) rfl rfl fx_in_11_10 (t := 127) rfl (fun hA47 => ?_)
      refine fx_i0 aj_d224 rfl (Nat.le_succ _) (fun _ => rfl) hlv_1 ?_
      refine fx_ld aj_d224 (Or.inl rfl) rfl (Nat.le_succ _) (fun g480 g481 => ?_)
      show fx_W _ _ _ 194 lv [.int (X.1 127 (y1).toInt.toNat), .int y3] _ _
      refine fx_qa (c := 0 ≤ (y1).toInt ∧ (y1).toInt < ((2 : Nat) : Int)) ⟨g480, fx_lnk g481 hA47⟩ ?_
      refine fx_b (tgt := 221) aj_d224 rfl (Nat.le_succ _) rfl (fun q49 => ?_) (fun q49 => ?_)
      · skip
        refine fx_qe (c := (y3).toInt < ((X.1 127 (y1).toInt.toNat)).toInt) (fx_t_ge q49) ?_
        show fx_W _ _ _ 221 lv [] _ _
        exact fx_rn aj_d224 rfl ⟨(), rfl, 0, rfl⟩
      · skip
        refine fx_qi (c := (y3).toInt < ((X.1 127 (y1).toInt.toNat)).toInt) (fx_f_ge q49) ?_
        show fx_W _ _ _ 197 lv [] _ _
        refine fx_i2 aj_d224 rfl (Nat.le_succ _) (fun _ => rfl) hlv_0 ?_
        refine fx_i2 aj_d224 rfl (Nat.le_succ _) (fun _ => rfl) hlv_0 ?_
        refine fx_gF aj_d224 rfl (Nat.le_succ _) rfl rfl fx_in_11_12 (t := 129) rfl (fun hA50 => ?_)
        refine fx_i0 aj_d224 rfl (Nat.le_succ _) (fun _ => rfl) hlv_1 ?_
        refine fx_n (pc' := 205) (lv' := lv) (st' := [.int ((Int8.ofInt 20).toInt32), .int y1, .ref 129, .ref 117]) aj_d224 rfl (Nat.le_succ _) (fun _ => rfl) ?_
        refine fx_n (pc' := 206) (lv' := lv) (st' := [.int (y1 * ((Int8.ofInt 20).toInt32)), .ref 129, .ref 117]) aj_d224 rfl (Nat.le_succ _) (fun _ => rfl) ?_
        refine fx_i0 aj_d224 rfl (Nat.le_succ _) (fun _ => rfl) hlv_3 ?_
        refine fx_n (pc' := 208) (lv' := lv) (st' := [.int ((y1 * ((Int8.ofInt 20).toInt32)) + y3), .ref 129, .ref 117]) aj_d224 rfl (Nat.le_succ _) (fun _ => rfl) ?_
        refine fx_n (pc' := 210) (lv' := lv) (st' := [.int ((Int8.ofInt 32).toInt32), .int ((y1 * ((Int8.ofInt 20).toInt32)) + y3), .ref 129, .ref 117]) aj_d224 rfl (Nat.le_succ _) (fun _ => rfl) ?_
        refine fx_n (pc' := 211) (lv' := lv) (st' := [.int (((y1 * ((Int8.ofInt 20).toInt32)) + y3) * ((Int8.ofInt 32).toInt32)), .ref 129, .ref 117]) aj_d224 rfl (Nat.le_succ _) (fun _ => rfl) ?_
        refine fx_i0 aj_d224 rfl (Nat.le_succ _) (fun _ => rfl) hlv_2 ?_
        refine fx_cv aj_d224 rfl (Nat.le_succ _) rfl [_, _, _] rfl rfl (gx_226_ok 129 (((y1 * ((Int8.ofInt 20).toInt32)) + y3) * ((Int8.ofInt 32).toInt32)) y2) ?_
        rintro _ X51 ⟨w52, rfl, hR51⟩ hok51 hle51
        refine fx_qc hR51 ?_
        show fx_W _ _ _ 215 lv [] _ _
        refine fx_incq aj_d224 rfl (Nat.le_succ _) hlv_3 (by decide) (fun x53 ex53 => ?_)
        obtain ⟨lv54, elv54⟩ : ∃ l, l = aj_set1 lv 3 (.int x53) := ⟨_, rfl⟩
        rw [← elv54]
        have hlv54_0 : aj_lv lv54 0 = some (.ref 117) := fx_e1 elv54 hlv_0 (by decide) (Or.inl (by decide))
        have hlv54_1 : aj_lv lv54 1 = some (.int y1) := fx_e1 elv54 hlv_1 (by decide) (Or.inl (by decide))
        have hlv54_2 : aj_lv lv54 2 = some (.int y2) := fx_e1 elv54 hlv_2 (by decide) (Or.inr rfl)
        have hlv54_3 : aj_lv lv54 3 = some (.int x53) := by rw [elv54]; exact ak_set1_eq _ _ _
        show fx_W _ _ _ 218 lv54 [] _ _
        refine fx_n (pc' := 187) (lv' := lv54) (st' := []) aj_d224 rfl (Nat.le_succ _) (fun _ => rfl) ?_
        exact (ih.2.2.2.2) lv54 (y1) (y2) (x53) X51  hlv54_0 hlv54_1 hlv54_2 hlv54_3
theorem gx_224_ok {tb : aj_T} {X : fx_X} : fx_K tb 224 [.ref 117] X (fx_Q fx_qN (fun v X' => gx_224 X v X')) := by
  refine fx_m aj_m224_at rfl (fun N => ?_)
  refine fx_mono (Q := fx_Q fx_qN (fun v X' => ∃ n : Nat, gxE_224 (gxF_224 n) X v X')) (fun r X' h => h) ?_
  unfold gxE_224
  show fx_W _ _ _ 0 [(0, .ref 117)] [] _ _
  obtain ⟨lv1, elv1⟩ : ∃ l : aj_V, l = [(0, .ref 117)] := ⟨_, rfl⟩
  rw [← elv1]
  have hlv1_0 : aj_lv lv1 0 = some (.ref 117) := by rw [elv1]; rfl
  refine fx_i2 aj_d224 rfl (Nat.le_succ _) (fun _ => rfl) hlv1_0 ?_
  refine fx_gI aj_d224 rfl (Nat.le_succ _) rfl rfl (Or.inl rfl) ?_
  refine fx_qxI (fun x2 ex2 => ?_)
  refine fx_s0 (j := 1) aj_d224 rfl (Nat.le_succ _) (by decide) (fun _ => rfl) ?_
  obtain ⟨lv3, elv3⟩ : ∃ l, l = aj_set1 lv1 1 (.int x2) := ⟨_, rfl⟩
  rw [← elv3]
  have hlv3_0 : aj_lv lv3 0 = some (.ref 117) := fx_e1 elv3 hlv1_0 (by decide) (Or.inr rfl)
  have hlv3_1 : aj_lv lv3 1 = some (.int x2) := by rw [elv3]; exact ak_set1_eq _ _ _
  show fx_W _ _ _ 5 lv3 [] _ _
  refine fx_i2 aj_d224 rfl (Nat.le_succ _) (fun _ => rfl) hlv3_0 ?_
  refine fx_gF aj_d224 rfl (Nat.le_succ _) rfl rfl fx_in_11_3 (t := 120) rfl (fun hA4 => ?_)
  refine fx_i0 aj_d224 rfl (Nat.le_succ _) (fun _ => rfl) hlv3_1 ?_
  refine fx_n (pc' := 12) (lv' := lv3) (st' := [.int ((Int8.ofInt 8).toInt32), .int x2, .ref 120]) aj_d224 rfl (Nat.le_succ _) (fun _ => rfl) ?_
  refine fx_n (pc' := 13) (lv' := lv3) (st' := [.int (x2 * ((Int8.ofInt 8).toInt32)), .ref 120]) aj_d224 rfl (Nat.le_succ _) (fun _ => rfl) ?_
  refine fx_i2 aj_d224 rfl (Nat.le_succ _) (fun _ => rfl) hlv3_0 ?_
  refine fx_gF aj_d224 rfl (Nat.le_succ _) rfl rfl fx_in_11_1 (t := 118) rfl (fun hA5 => ?_)
  refine fx_i0 aj_d224 rfl (Nat.le_succ _) (fun _ => rfl) hlv3_1 ?_
  refine fx_ld aj_d224 (Or.inl rfl) rfl (Nat.le_succ _) (fun g60 g61 => ?_)
  show fx_W _ _ _ 19 lv3 [.int (X.1 118 (x2).toInt.toNat), .int (x2 * ((Int8.ofInt 8).toInt32)), .ref 120] _ _
  refine fx_qa (c := 0 ≤ (x2).toInt ∧ (x2).toInt < ((2 : Nat) : Int)) ⟨g60, fx_lnk g61 hA5⟩ ?_
  refine fx_n (pc' := 20) (lv' := lv3) (st' := [.int ((x2 * ((Int8.ofInt 8).toInt32)) + (X.1 118 (x2).toInt.toNat)), .ref 120]) aj_d224 rfl (Nat.le_succ _) (fun _ => rfl) ?_
  refine fx_n (pc' := 21) (lv' := lv3) (st' := [.int (Int32.ofInt 1), .int ((x2 * ((Int8.ofInt 8).toInt32)) + (X.1 118 (x2).toInt.toNat)), .ref 120]) aj_d224 rfl (Nat.le_succ _) (fun _ => rfl) ?_
  refine fx_n (pc' := 22) (lv' := lv3) (st' := [.int (((x2 * ((Int8.ofInt 8).toInt32)) + (X.1 118 (x2).toInt.toNat)) - (Int32.ofInt 1)), .ref 120]) aj_d224 rfl (Nat.le_succ _) (fun _ => rfl) ?_
  refine fx_ld aj_d224 (Or.inl rfl) rfl (Nat.le_succ _) (fun g70 g71 => ?_)
  show fx_W _ _ _ 23 lv3 [.int (X.1 120 ((((x2 * ((Int8.ofInt 8).toInt32)) + (X.1 118 (x2).toInt.toNat)) - (Int32.ofInt 1))).toInt.toNat)] _ _
  refine fx_qa (c := 0 ≤ ((((x2 * ((Int8.ofInt 8).toInt32)) + (X.1 118 (x2).toInt.toNat)) - (Int32.ofInt 1))).toInt ∧ ((((x2 * ((Int8.ofInt 8).toInt32)) + (X.1 118 (x2).toInt.toNat)) - (Int32.ofInt 1))).toInt < ((16 : Nat) : Int)) ⟨g70, fx_lnk g71 hA4⟩ ?_
  refine fx_qxI (fun x8 ex8 => ?_)
  refine fx_s0 (j := 2) aj_d224 rfl (Nat.le_succ _) (by decide) (fun _ => rfl) ?_
  obtain ⟨lv9, elv9⟩ : ∃ l, l = aj_set1 lv3 2 (.int x8) := ⟨_, rfl⟩
  rw [← elv9]
  have hlv9_0 : aj_lv lv9 0 = some (.ref 117) := fx_e1 elv9 hlv3_0 (by decide) (Or.inl (by decide))
  have hlv9_1 : aj_lv lv9 1 = some (.int x2) := fx_e1 elv9 hlv3_1 (by decide) (Or.inr rfl)
  have hlv9_2 : aj_lv lv9 2 = some (.int x8) := by rw [elv9]; exact ak_set1_eq _ _ _
  show fx_W _ _ _ 24 lv9 [] _ _
  refine fx_n (pc' := 25) (lv' := lv9) (st' := [.int (Int32.ofInt 0)]) aj_d224 rfl (Nat.le_succ _) (fun _ => rfl) ?_
  refine fx_s0 (j := 3) aj_d224 rfl (Nat.le_succ _) (by decide) (fun _ => rfl) ?_
  obtain ⟨lv10, elv10⟩ : ∃ l, l = aj_set1 lv9 3 (.int (Int32.ofInt 0)) := ⟨_, rfl⟩
  rw [← elv10]
  have hlv10_0 : aj_lv lv10 0 = some (.ref 117) := fx_e1 elv10 hlv9_0 (by decide) (Or.inl (by decide))
  have hlv10_1 : aj_lv lv10 1 = some (.int x2) := fx_e1 elv10 hlv9_1 (by decide) (Or.inl (by decide))
  have hlv10_2 : aj_lv lv10 2 = some (.int x8) := fx_e1 elv10 hlv9_2 (by decide) (Or.inr rfl)
  have hlv10_3 : aj_lv lv10 3 = some (.int (Int32.ofInt 0)) := by rw [elv10]; exact ak_set1_eq _ _ _
  show fx_W _ _ _ 26 lv10 [] _ _
  exact ((gxL_224 N).1) lv10 (x2) (x8) ((Int32.ofInt 0)) X  hlv10_0 hlv10_1 hlv10_2 hlv10_3
def gxT_213_94 (P : Nat → List Int32 → List Int64 → List Nat → fx_X → Int32 → fx_X → Prop) (y1 : Int32) (y2 : Int64) (X : fx_X) (v : Int32) (X' : fx_X) : Prop :=
  ∃ (w40 : Int32) (X39 : fx_X), gx_219 ((Int8.ofInt 58).toInt32) X w40 X39 ∧ (if (w40).toInt = 0 then (v = (Int32.ofInt 0) ∧ X' = X39) else (∃ (w43 : Int32) (X42 : fx_X), gx_221 X39 w43 X42 ∧ (if (w43).toInt = 0 then (v = (Int32.ofInt 0) ∧ X' = X42) else ((0 ≤ ((y1 * ((Int8.ofInt 64).toInt32))).toInt ∧ ((y1 * ((Int8.ofInt 64).toInt32))).toInt < ((1024 : Nat) : Int)) ∧ ∃ X47 : fx_X, X47 = (fx_wI X42 121 ((y1 * ((Int8.ofInt 64).toInt32))).toInt.toNat (X42.1 117 35)) ∧ (0 ≤ (y1).toInt ∧ (y1).toInt < ((16 : Nat) : Int)) ∧ ∃ X50 : fx_X, X50 = (fx_wI X47 120 (y1).toInt.toNat (Int32.ofInt 1)) ∧ ∃ (w52 : Int32) (X51 : fx_X), gx_220 ((Int16.ofInt 256).toInt32) X50 w52 X51 ∧ (if (w52).toInt = 0 then (∃ (w55 : Int32) (X54 : fx_X), gx_223 y1 X51 w55 X54 ∧ (if (w55).toInt = 0 then (v = (Int32.ofInt 0) ∧ X' = X54) else ((0 ≤ ((X54.1 117 37)).toInt ∧ ((X54.1 117 37)).toInt < ((2 : Nat) : Int)) ∧ (0 ≤ (y1).toInt ∧ (y1).toInt < ((16 : Nat) : Int)) ∧ ∃ x62 : Int32, x62 = ((X54.1 122 ((X54.1 117 37)).toInt.toNat) * (X54.1 120 (y1).toInt.toNat)) ∧ ∃ (w65 : Int32) (X64 : fx_X), gx_220 ((Int8.ofInt 59).toInt32) X54 w65 X64 ∧ (if (w65).toInt = 0 then (P 208 [y1, x62] [y2] [] X64 v X') else ((if 1024 < (x62).toInt then (∃ (w69 : Unit) (X68 : fx_X), gx_218 (Int32.ofInt 5) (X64.1 117 27) X64 w69 X68 ∧ P 208 [y1, x62] [y2] [] X68 v X') else (P 208 [y1, x62] [y2] [] X64 v X'))))))) else (∃ (w71 : Int32) (X70 : fx_X), gx_222 y1 X51 w71 X70 ∧ (if (w71).toInt = 0 then (v = (Int32.ofInt 0) ∧ X' = X70) else ((0 ≤ ((X70.1 117 37)).toInt ∧ ((X70.1 117 37)).toInt < ((2 : Nat) : Int)) ∧ (0 ≤ (y1).toInt ∧ (y1).toInt < ((16 : Nat) : Int)) ∧ ∃ x78 : Int32, x78 = ((X70.1 122 ((X70.1 117 37)).toInt.toNat) * (X70.1 120 (y1).toInt.toNat)) ∧ ∃ (w81 : Int32) (X80 : fx_X), gx_220 ((Int8.ofInt 59).toInt32) X70 w81 X80 ∧ (if (w81).toInt = 0 then (P 208 [y1, x78] [y2] [] X80 v X') else ((if 1024 < (x78).toInt then (∃ (w85 : Unit) (X84 : fx_X), gx_218 (Int32.ofInt 5) (X80.1 117 27) X80 w85 X84 ∧ P 208 [y1, x78] [y2] [] X84 v X') else (P 208 [y1, x78] [y2] [] X80 v X'))))))))))))
def gxT_213_208 (P : Nat → List Int32 → List Int64 → List Nat → fx_X → Int32 → fx_X → Prop) (y1 : Int32) (y2 : Int64) (y5 : Int32) (X : fx_X) (v : Int32) (X' : fx_X) : Prop :=
  ∃ (w87 : Int32) (X86 : fx_X), gx_219 ((Int8.ofInt 59).toInt32) X w87 X86 ∧ (if (w87).toInt = 0 then (v = (Int32.ofInt 0) ∧ X' = X86) else ((0 ≤ (y1).toInt ∧ (y1).toInt < ((16 : Nat) : Int)) ∧ ∃ X91 : fx_X, X91 = (fx_wL X86 119 (y1).toInt.toNat y2) ∧ (0 ≤ ((X91.1 117 37)).toInt ∧ ((X91.1 117 37)).toInt < ((2 : Nat) : Int)) ∧ (0 ≤ ((X91.1 117 37)).toInt ∧ ((X91.1 117 37)).toInt < ((2 : Nat) : Int)) ∧ ∃ X95 : fx_X, X95 = (fx_wI X91 118 ((X91.1 117 37)).toInt.toNat ((X91.1 118 ((X91.1 117 37)).toInt.toNat) + (Int32.ofInt 1))) ∧ (if 1024 < (y5).toInt then ((0 ≤ ((X95.1 117 37)).toInt ∧ ((X95.1 117 37)).toInt < ((2 : Nat) : Int)) ∧ ∃ X104 : fx_X, X104 = (fx_wI X95 122 ((X95.1 117 37)).toInt.toNat ((Int16.ofInt 1024).toInt32)) ∧ (if ((X104.1 117 32)).toInt = 0 then (v = (Int32.ofInt 1) ∧ X' = X104) else (∃ (w107 : Unit) (X106 : fx_X), gx_224 X104 w107 X106 ∧ v = (Int32.ofInt 1) ∧ X' = X106))) else ((0 ≤ ((X95.1 117 37)).toInt ∧ ((X95.1 117 37)).toInt < ((2 : Nat) : Int)) ∧ ∃ X99 : fx_X, X99 = (fx_wI X95 122 ((X95.1 117 37)).toInt.toNat y5) ∧ (if ((X99.1 117 32)).toInt = 0 then (v = (Int32.ofInt 1) ∧ X' = X99) else (∃ (w102 : Unit) (X101 : fx_X), gx_224 X99 w102 X101 ∧ v = (Int32.ofInt 1) ∧ X' = X101))))))
def gxE_213 (P : Nat → List Int32 → List Int64 → List Nat → fx_X → Int32 → fx_X → Prop) (X : fx_X) (v : Int32) (X' : fx_X) : Prop :=
  ∃ (w3 : Int32) (X2 : fx_X), gx_214 X w3 X2 ∧ (if (w3).toInt = 0 then (v = (Int32.ofInt 0) ∧ X' = X2) else ((if ((X2.1 117 26)).toInt = 1 then ((0 ≤ ((X2.1 117 37)).toInt ∧ ((X2.1 117 37)).toInt < ((2 : Nat) : Int)) ∧ (if ((X2.1 118 ((X2.1 117 37)).toInt.toNat)).toInt = 8 then (∃ (w38 : Int32) (X37 : fx_X), gx_215 (Int32.ofInt 2) (X2.1 117 27) X2 w38 X37 ∧ v = w38 ∧ X' = X37) else (∃ (w24 : Int32) (X23 : fx_X), gx_216 X2 w24 X23 ∧ (if (w24).toInt = 0 then (v = (Int32.ofInt 0) ∧ X' = X23) else ((0 ≤ ((X23.1 117 37)).toInt ∧ ((X23.1 117 37)).toInt < ((2 : Nat) : Int)) ∧ ∃ x28 : Int32, x28 = (((X23.1 117 37) * ((Int8.ofInt 8).toInt32)) + (X23.1 118 ((X23.1 117 37)).toInt.toNat)) ∧ ∃ x30 : Int64, x30 = (X23.2.1 117 33) ∧ ∃ (w33 : Int32) (X32 : fx_X), gx_217 (X23.1 117 37) x30 X23 w33 X32 ∧ (if (w33).toInt < 0 then (P 94 [x28] [x30] [] X32 v X') else (∃ (w36 : Unit) (X35 : fx_X), gx_218 (Int32.ofInt 3) (X32.1 117 34) X32 w36 X35 ∧ P 94 [x28] [x30] [] X35 v X'))))))) else (∃ (w7 : Int32) (X6 : fx_X), gx_216 X2 w7 X6 ∧ (if (w7).toInt = 0 then (v = (Int32.ofInt 0) ∧ X' = X6) else ((0 ≤ ((X6.1 117 37)).toInt ∧ ((X6.1 117 37)).toInt < ((2 : Nat) : Int)) ∧ ∃ x11 : Int32, x11 = (((X6.1 117 37) * ((Int8.ofInt 8).toInt32)) + (X6.1 118 ((X6.1 117 37)).toInt.toNat)) ∧ ∃ x13 : Int64, x13 = (X6.2.1 117 33) ∧ ∃ (w16 : Int32) (X15 : fx_X), gx_217 (X6.1 117 37) x13 X6 w16 X15 ∧ (if (w16).toInt < 0 then (P 94 [x11] [x13] [] X15 v X') else (∃ (w19 : Unit) (X18 : fx_X), gx_218 (Int32.ofInt 3) (X15.1 117 34) X15 w19 X18 ∧ P 94 [x11] [x13] [] X18 v X'))))))))
noncomputable def gxF_213 (n : Nat) : Nat → List Int32 → List Int64 → List Nat → fx_X → Int32 → fx_X → Prop := Nat.rec (motive := fun _ => Nat → List Int32 → List Int64 → List Nat → fx_X → Int32 → fx_X → Prop) (fun _ _ _ _ _ _ _ => False) (fun _ P l is ls rs X v X' => (l = 94 ∧ ∃ (y1 : Int32) (y2 : Int64), is = [y1] ∧ ls = [y2] ∧ rs = [] ∧ gxT_213_94 P y1 y2 X v X') ∨ (l = 208 ∧ ∃ (y1 : Int32) (y2 : Int64) (y5 : Int32), is = [y1, y5] ∧ ls = [y2] ∧ rs = [] ∧ gxT_213_208 P y1 y2 y5 X v X')) n
theorem gxI_213_94 {n : Nat} {y1 : Int32} {y2 : Int64} {X : fx_X} {v : Int32} {X' : fx_X} (h : gxT_213_94 (gxF_213 n) y1 y2 X v X') : gxF_213 (n + 1) 94 [y1] [y2] [] X v X' := Or.inl ⟨rfl, y1, y2, rfl, rfl, rfl, h⟩
theorem gxO_213_94 {n : Nat} {y1 : Int32} {y2 : Int64} {X : fx_X} {v : Int32} {X' : fx_X} (h : gxF_213 (n + 1) 94 [y1] [y2] [] X v X') : gxT_213_94 (gxF_213 n) y1 y2 X v X' := by
  rcases h with ⟨-, _, _, e1, e2, e3, h⟩ | ⟨e, -⟩
  · cases e1; cases e2; cases e3; exact h
  · exact absurd e (by decide)
theorem gxI_213_208 {n : Nat} {y1 : Int32} {y2 : Int64} {y5 : Int32} {X : fx_X} {v : Int32} {X' : fx_X} (h : gxT_213_208 (gxF_213 n) y1 y2 y5 X v X') : gxF_213 (n + 1) 208 [y1, y5] [y2] [] X v X' := Or.inr (⟨rfl, y1, y2, y5, rfl, rfl, rfl, h⟩)
theorem gxO_213_208 {n : Nat} {y1 : Int32} {y2 : Int64} {y5 : Int32} {X : fx_X} {v : Int32} {X' : fx_X} (h : gxF_213 (n + 1) 208 [y1, y5] [y2] [] X v X') : gxT_213_208 (gxF_213 n) y1 y2 y5 X v X' := by
  rcases h with ⟨e, -⟩ | ⟨-, _, _, _, e1, e2, e3, h⟩
  · exact absurd e (by decide)
  · cases e1; cases e2; cases e3; exact h
def gx_213 (X : fx_X) (v : Int32) (X' : fx_X) : Prop := ∃ n : Nat, gxE_213 (gxF_213 n) X v X'
theorem gxL_213 {tb : aj_T} : ∀ N : Nat, (∀ (lv : aj_V) (y1 : Int32) (y2 : Int64) (X : fx_X), aj_lv lv 0 = some (.ref 117) → aj_lv lv 1 = some (.int y1) → aj_lv lv 2 = some (.long y2) → fx_W tb aj_m213 N 94 lv [] X (fx_Q fx_qI (fun v X' => ∃ n : Nat, gxF_213 n 94 [y1] [y2] [] X v X'))) ∧ (∀ (lv : aj_V) (y1 : Int32) (y2 : Int64) (y5 : Int32) (X : fx_X), aj_lv lv 0 = some (.ref 117) → aj_lv lv 1 = some (.int y1) → aj_lv lv 2 = some (.long y2) → aj_lv lv 5 = some (.int y5) → fx_W tb aj_m213 N 208 lv [] X (fx_Q fx_qI (fun v X' => ∃ n : Nat, gxF_213 n 208 [y1, y5] [y2] [] X v X'))) := by
  intro N
  induction N with
  | zero => exact ⟨(by intros; exact fx_z), (by intros; exact fx_z)⟩
  | succ N ih =>
    refine ⟨?_, ?_⟩
    · intro lv y1 y2 X hlv_0 hlv_1 hlv_2
      refine fx_mono (Q := fx_Q fx_qI (fun v X' => ∃ n : Nat, gxT_213_94 (gxF_213 n) y1 y2 X v X')) (fun r X' ⟨v, e, n, z⟩ => ⟨v, e, n + 1, gxI_213_94 z⟩) ?_
      unfold gxT_213_94
      refine fx_i2 aj_d213 rfl (Nat.le_refl _) (fun _ => rfl) hlv_0 ?_
      refine fx_n (pc' := 97) (lv' := lv) (st' := [.int ((Int8.ofInt 58).toInt32), .ref 117]) aj_d213 rfl (Nat.le_succ _) (fun _ => rfl) ?_
      refine fx_cv aj_d213 rfl (Nat.le_succ _) rfl [_] rfl rfl (gx_219_ok ((Int8.ofInt 58).toInt32)) ?_
      rintro _ X39 ⟨w40, rfl, hR39⟩ hok39 hle39
      refine fx_qc hR39 ?_
      show fx_W _ _ _ 100 lv [.int w40] _ _
      refine fx_b0 (tgt := 110) aj_d213 rfl (Nat.le_succ _) rfl (fun q41 => ?_) (fun q41 => ?_)
      · skip
        refine fx_qi (c := (w40).toInt = 0) (fx_t_eq q41) ?_
        show fx_W _ _ _ 110 lv [] _ _
        refine fx_n (pc' := 111) (lv' := lv) (st' := [.int (Int32.ofInt 0)]) aj_d213 rfl (Nat.le_succ _) (fun _ => rfl) ?_
        exact fx_ri aj_d213 rfl ⟨_, rfl, 0, rfl, rfl⟩
      · skip
        refine fx_qe (c := (w40).toInt = 0) (fx_f_eq q41) ?_
        show fx_W _ _ _ 103 lv [] _ _
        refine fx_i2 aj_d213 rfl (Nat.le_succ _) (fun _ => rfl) hlv_0 ?_
        refine fx_cv aj_d213 rfl (Nat.le_succ _) rfl [] rfl rfl (gx_221_ok) ?_
        rintro _ X42 ⟨w43, rfl, hR42⟩ hok42 hle42
        refine fx_qc hR42 ?_
        show fx_W _ _ _ 107 lv [.int w43] _ _
        refine fx_b0 (tgt := 112) aj_d213 rfl (Nat.le_succ _) rfl (fun q44 => ?_) (fun q44 => ?_)
        · skip
          refine fx_qe (c := (w43).toInt = 0) (fx_t_ne q44) ?_
          show fx_W _ _ _ 112 lv [] _ _
          refine fx_i2 aj_d213 rfl (Nat.le_succ _) (fun _ => rfl) hlv_0 ?_
          refine fx_gF aj_d213 rfl (Nat.le_succ _) rfl rfl fx_in_11_4 (t := 121) rfl (fun hA45 => ?_)
          refine fx_i0 aj_d213 rfl (Nat.le_succ _) (fun _ => rfl) hlv_1 ?_
          refine fx_n (pc' := 119) (lv' := lv) (st' := [.int ((Int8.ofInt 64).toInt32), .int y1, .ref 121]) aj_d213 rfl (Nat.le_succ _) (fun _ => rfl) ?_
          refine fx_n (pc' := 120) (lv' := lv) (st' := [.int (y1 * ((Int8.ofInt 64).toInt32)), .ref 121]) aj_d213 rfl (Nat.le_succ _) (fun _ => rfl) ?_
          refine fx_i2 aj_d213 rfl (Nat.le_succ _) (fun _ => rfl) hlv_0 ?_
          refine fx_gI aj_d213 rfl (Nat.le_succ _) rfl rfl (Or.inl rfl) ?_
          refine fx_st aj_d213 (Or.inl ⟨rfl, rfl⟩) rfl (Nat.le_succ _) (fun g460 g461 => ?_)
          show fx_W _ _ _ _ _ _ (fx_wI X42 121 ((y1 * ((Int8.ofInt 64).toInt32))).toInt.toNat (X42.1 117 35)) _
          refine fx_qa (c := 0 ≤ ((y1 * ((Int8.ofInt 64).toInt32))).toInt ∧ ((y1 * ((Int8.ofInt 64).toInt32))).toInt < ((1024 : Nat) : Int)) ⟨g460, fx_lnk g461 hA45⟩ ?_
          refine fx_qX (fun X47 eX47 => ?_)
          show fx_W _ _ _ 125 lv [] _ _
          refine fx_i2 aj_d213 rfl (Nat.le_succ _) (fun _ => rfl) hlv_0 ?_
          refine fx_gF aj_d213 rfl (Nat.le_succ _) rfl rfl fx_in_11_3 (t := 120) rfl (fun hA48 => ?_)
          refine fx_i0 aj_d213 rfl (Nat.le_succ _) (fun _ => rfl) hlv_1 ?_
          refine fx_n (pc' := 131) (lv' := lv) (st' := [.int (Int32.ofInt 1), .int y1, .ref 120]) aj_d213 rfl (Nat.le_succ _) (fun _ => rfl) ?_
          refine fx_st aj_d213 (Or.inl ⟨rfl, rfl⟩) rfl (Nat.le_succ _) (fun g490 g491 => ?_)
          show fx_W _ _ _ _ _ _ (fx_wI X47 120 (y1).toInt.toNat (Int32.ofInt 1)) _
          refine fx_qa (c := 0 ≤ (y1).toInt ∧ (y1).toInt < ((16 : Nat) : Int)) ⟨g490, fx_lnk g491 hA48⟩ ?_
          refine fx_qX (fun X50 eX50 => ?_)
          show fx_W _ _ _ 132 lv [] _ _
          refine fx_i2 aj_d213 rfl (Nat.le_succ _) (fun _ => rfl) hlv_0 ?_
          refine fx_n (pc' := 136) (lv' := lv) (st' := [.int ((Int16.ofInt 256).toInt32), .ref 117]) aj_d213 rfl (Nat.le_succ _) (fun _ => rfl) ?_
          refine fx_cv aj_d213 rfl (Nat.le_succ _) rfl [_] rfl rfl (gx_220_ok ((Int16.ofInt 256).toInt32)) ?_
          rintro _ X51 ⟨w52, rfl, hR51⟩ hok51 hle51
          refine fx_qc hR51 ?_
          show fx_W _ _ _ 139 lv [.int w52] _ _
          refine fx_b0 (tgt := 150) aj_d213 rfl (Nat.le_succ _) rfl (fun q53 => ?_) (fun q53 => ?_)
          · skip
            refine fx_qi (c := (w52).toInt = 0) (fx_t_eq q53) ?_
            show fx_W _ _ _ 150 lv [] _ _
            refine fx_i2 aj_d213 rfl (Nat.le_succ _) (fun _ => rfl) hlv_0 ?_
            refine fx_i0 aj_d213 rfl (Nat.le_succ _) (fun _ => rfl) hlv_1 ?_
            refine fx_cv aj_d213 rfl (Nat.le_succ _) rfl [_] rfl rfl (gx_223_ok y1) ?_
            rintro _ X54 ⟨w55, rfl, hR54⟩ hok54 hle54
            refine fx_qc hR54 ?_
            show fx_W _ _ _ 155 lv [.int w55] _ _
            refine fx_s0 (j := 4) aj_d213 rfl (Nat.le_succ _) (by decide) (fun _ => rfl) ?_
            obtain ⟨lv56, elv56⟩ : ∃ l, l = aj_set1 lv 4 (.int w55) := ⟨_, rfl⟩
            rw [← elv56]
            have hlv56_0 : aj_lv lv56 0 = some (.ref 117) := fx_e1 elv56 hlv_0 (by decide) (Or.inl (by decide))
            have hlv56_1 : aj_lv lv56 1 = some (.int y1) := fx_e1 elv56 hlv_1 (by decide) (Or.inl (by decide))
            have hlv56_2 : aj_lv lv56 2 = some (.long y2) := fx_e1 elv56 hlv_2 (by decide) (Or.inl (by decide))
            have hlv56_4 : aj_lv lv56 4 = some (.int w55) := by rw [elv56]; exact ak_set1_eq _ _ _
            show fx_W _ _ _ 157 lv56 [] _ _
            refine fx_i0 aj_d213 rfl (Nat.le_succ _) (fun _ => rfl) hlv56_4 ?_
            refine fx_b0 (tgt := 164) aj_d213 rfl (Nat.le_succ _) rfl (fun q57 => ?_) (fun q57 => ?_)
            · skip
              refine fx_qe (c := (w55).toInt = 0) (fx_t_ne q57) ?_
              show fx_W _ _ _ 164 lv56 [] _ _
              refine fx_i2 aj_d213 rfl (Nat.le_succ _) (fun _ => rfl) hlv56_0 ?_
              refine fx_gF aj_d213 rfl (Nat.le_succ _) rfl rfl fx_in_11_5 (t := 122) rfl (fun hA58 => ?_)
              refine fx_i2 aj_d213 rfl (Nat.le_succ _) (fun _ => rfl) hlv56_0 ?_
              refine fx_gI aj_d213 rfl (Nat.le_succ _) rfl rfl (Or.inl rfl) ?_
              refine fx_ld aj_d213 (Or.inl rfl) rfl (Nat.le_succ _) (fun g590 g591 => ?_)
              show fx_W _ _ _ 173 lv56 [.int (X54.1 122 ((X54.1 117 37)).toInt.toNat)] _ _
              refine fx_qa (c := 0 ≤ ((X54.1 117 37)).toInt ∧ ((X54.1 117 37)).toInt < ((2 : Nat) : Int)) ⟨g590, fx_lnk g591 hA58⟩ ?_
              refine fx_i2 aj_d213 rfl (Nat.le_succ _) (fun _ => rfl) hlv56_0 ?_
              refine fx_gF aj_d213 rfl (Nat.le_succ _) rfl rfl fx_in_11_3 (t := 120) rfl (fun hA60 => ?_)
              refine fx_i0 aj_d213 rfl (Nat.le_succ _) (fun _ => rfl) hlv56_1 ?_
              refine fx_ld aj_d213 (Or.inl rfl) rfl (Nat.le_succ _) (fun g610 g611 => ?_)
              show fx_W _ _ _ 179 lv56 [.int (X54.1 120 (y1).toInt.toNat), .int (X54.1 122 ((X54.1 117 37)).toInt.toNat)] _ _
              refine fx_qa (c := 0 ≤ (y1).toInt ∧ (y1).toInt < ((16 : Nat) : Int)) ⟨g610, fx_lnk g611 hA60⟩ ?_
              refine fx_n (pc' := 180) (lv' := lv56) (st' := [.int ((X54.1 122 ((X54.1 117 37)).toInt.toNat) * (X54.1 120 (y1).toInt.toNat))]) aj_d213 rfl (Nat.le_succ _) (fun _ => rfl) ?_
              refine fx_qxI (fun x62 ex62 => ?_)
              refine fx_s0 (j := 5) aj_d213 rfl (Nat.le_succ _) (by decide) (fun _ => rfl) ?_
              obtain ⟨lv63, elv63⟩ : ∃ l, l = aj_set1 lv56 5 (.int x62) := ⟨_, rfl⟩
              rw [← elv63]
              have hlv63_0 : aj_lv lv63 0 = some (.ref 117) := fx_e1 elv63 hlv56_0 (by decide) (Or.inl (by decide))
              have hlv63_1 : aj_lv lv63 1 = some (.int y1) := fx_e1 elv63 hlv56_1 (by decide) (Or.inl (by decide))
              have hlv63_2 : aj_lv lv63 2 = some (.long y2) := fx_e1 elv63 hlv56_2 (by decide) (Or.inl (by decide))
              have hlv63_5 : aj_lv lv63 5 = some (.int x62) := by rw [elv63]; exact ak_set1_eq _ _ _
              show fx_W _ _ _ 182 lv63 [] _ _
              refine fx_i2 aj_d213 rfl (Nat.le_succ _) (fun _ => rfl) hlv63_0 ?_
              refine fx_n (pc' := 185) (lv' := lv63) (st' := [.int ((Int8.ofInt 59).toInt32), .ref 117]) aj_d213 rfl (Nat.le_succ _) (fun _ => rfl) ?_
              refine fx_cv aj_d213 rfl (Nat.le_succ _) rfl [_] rfl rfl (gx_220_ok ((Int8.ofInt 59).toInt32)) ?_
              rintro _ X64 ⟨w65, rfl, hR64⟩ hok64 hle64
              refine fx_qc hR64 ?_
              show fx_W _ _ _ 188 lv63 [.int w65] _ _
              refine fx_b0 (tgt := 208) aj_d213 rfl (Nat.le_succ _) rfl (fun q66 => ?_) (fun q66 => ?_)
              · skip
                refine fx_qi (c := (w65).toInt = 0) (fx_t_eq q66) ?_
                show fx_W _ _ _ 208 lv63 [] _ _
                exact (ih.2) lv63 (y1) (y2) (x62) X64  hlv63_0 hlv63_1 hlv63_2 hlv63_5
              · skip
                refine fx_qe (c := (w65).toInt = 0) (fx_f_eq q66) ?_
                show fx_W _ _ _ 191 lv63 [] _ _
                refine fx_i0 aj_d213 rfl (Nat.le_succ _) (fun _ => rfl) hlv63_5 ?_
                refine fx_n (pc' := 196) (lv' := lv63) (st' := [.int ((Int16.ofInt 1024).toInt32), .int x62]) aj_d213 rfl (Nat.le_succ _) (fun _ => rfl) ?_
                refine fx_b (tgt := 208) aj_d213 rfl (Nat.le_succ _) rfl (fun q67 => ?_) (fun q67 => ?_)
                · skip
                  refine fx_qe (c := 1024 < (x62).toInt) (fx_t_le q67) ?_
                  show fx_W _ _ _ 208 lv63 [] _ _
                  exact (ih.2) lv63 (y1) (y2) (x62) X64  hlv63_0 hlv63_1 hlv63_2 hlv63_5
                · skip
                  refine fx_qi (c := 1024 < (x62).toInt) (fx_f_le q67) ?_
                  show fx_W _ _ _ 199 lv63 [] _ _
                  refine fx_i2 aj_d213 rfl (Nat.le_succ _) (fun _ => rfl) hlv63_0 ?_
                  refine fx_n (pc' := 201) (lv' := lv63) (st' := [.int (Int32.ofInt 5), .ref 117]) aj_d213 rfl (Nat.le_succ _) (fun _ => rfl) ?_
                  refine fx_i2 aj_d213 rfl (Nat.le_succ _) (fun _ => rfl) hlv63_0 ?_
                  refine fx_gI aj_d213 rfl (Nat.le_succ _) rfl rfl (Or.inl rfl) ?_
                  refine fx_cv aj_d213 rfl (Nat.le_succ _) rfl [_, _] rfl rfl (gx_218_ok (Int32.ofInt 5) (X64.1 117 27)) ?_
                  rintro _ X68 ⟨w69, rfl, hR68⟩ hok68 hle68
                  refine fx_qc hR68 ?_
                  show fx_W _ _ _ 208 lv63 [] _ _
                  exact (ih.2) lv63 (y1) (y2) (x62) X68  hlv63_0 hlv63_1 hlv63_2 hlv63_5
            · skip
              refine fx_qi (c := (w55).toInt = 0) (fx_f_ne q57) ?_
              show fx_W _ _ _ 162 lv56 [] _ _
              refine fx_n (pc' := 163) (lv' := lv56) (st' := [.int (Int32.ofInt 0)]) aj_d213 rfl (Nat.le_succ _) (fun _ => rfl) ?_
              exact fx_ri aj_d213 rfl ⟨_, rfl, 0, rfl, rfl⟩
          · skip
            refine fx_qe (c := (w52).toInt = 0) (fx_f_eq q53) ?_
            show fx_W _ _ _ 142 lv [] _ _
            refine fx_i2 aj_d213 rfl (Nat.le_succ _) (fun _ => rfl) hlv_0 ?_
            refine fx_i0 aj_d213 rfl (Nat.le_succ _) (fun _ => rfl) hlv_1 ?_
            refine fx_cv aj_d213 rfl (Nat.le_succ _) rfl [_] rfl rfl (gx_222_ok y1) ?_
            rintro _ X70 ⟨w71, rfl, hR70⟩ hok70 hle70
            refine fx_qc hR70 ?_
            show fx_W _ _ _ 147 lv [.int w71] _ _
            refine fx_n (pc' := 155) (lv' := lv) (st' := [.int w71]) aj_d213 rfl (Nat.le_succ _) (fun _ => rfl) ?_
            refine fx_s0 (j := 4) aj_d213 rfl (Nat.le_succ _) (by decide) (fun _ => rfl) ?_
            obtain ⟨lv72, elv72⟩ : ∃ l, l = aj_set1 lv 4 (.int w71) := ⟨_, rfl⟩
            rw [← elv72]
            have hlv72_0 : aj_lv lv72 0 = some (.ref 117) := fx_e1 elv72 hlv_0 (by decide) (Or.inl (by decide))
            have hlv72_1 : aj_lv lv72 1 = some (.int y1) := fx_e1 elv72 hlv_1 (by decide) (Or.inl (by decide))
            have hlv72_2 : aj_lv lv72 2 = some (.long y2) := fx_e1 elv72 hlv_2 (by decide) (Or.inl (by decide))
            have hlv72_4 : aj_lv lv72 4 = some (.int w71) := by rw [elv72]; exact ak_set1_eq _ _ _
            show fx_W _ _ _ 157 lv72 [] _ _
            refine fx_i0 aj_d213 rfl (Nat.le_succ _) (fun _ => rfl) hlv72_4 ?_
            refine fx_b0 (tgt := 164) aj_d213 rfl (Nat.le_succ _) rfl (fun q73 => ?_) (fun q73 => ?_)
            · skip
              refine fx_qe (c := (w71).toInt = 0) (fx_t_ne q73) ?_
              show fx_W _ _ _ 164 lv72 [] _ _
              refine fx_i2 aj_d213 rfl (Nat.le_succ _) (fun _ => rfl) hlv72_0 ?_
              refine fx_gF aj_d213 rfl (Nat.le_succ _) rfl rfl fx_in_11_5 (t := 122) rfl (fun hA74 => ?_)
              refine fx_i2 aj_d213 rfl (Nat.le_succ _) (fun _ => rfl) hlv72_0 ?_
              refine fx_gI aj_d213 rfl (Nat.le_succ _) rfl rfl (Or.inl rfl) ?_
              refine fx_ld aj_d213 (Or.inl rfl) rfl (Nat.le_succ _) (fun g750 g751 => ?_)
              show fx_W _ _ _ 173 lv72 [.int (X70.1 122 ((X70.1 117 37)).toInt.toNat)] _ _
              refine fx_qa (c := 0 ≤ ((X70.1 117 37)).toInt ∧ ((X70.1 117 37)).toInt < ((2 : Nat) : Int)) ⟨g750, fx_lnk g751 hA74⟩ ?_
              refine fx_i2 aj_d213 rfl (Nat.le_succ _) (fun _ => rfl) hlv72_0 ?_
              refine fx_gF aj_d213 rfl (Nat.le_succ _) rfl rfl fx_in_11_3 (t := 120) rfl (fun hA76 => ?_)
              refine fx_i0 aj_d213 rfl (Nat.le_succ _) (fun _ => rfl) hlv72_1 ?_
              refine fx_ld aj_d213 (Or.inl rfl) rfl (Nat.le_succ _) (fun g770 g771 => ?_)
              show fx_W _ _ _ 179 lv72 [.int (X70.1 120 (y1).toInt.toNat), .int (X70.1 122 ((X70.1 117 37)).toInt.toNat)] _ _
              refine fx_qa (c := 0 ≤ (y1).toInt ∧ (y1).toInt < ((16 : Nat) : Int)) ⟨g770, fx_lnk g771 hA76⟩ ?_
              refine fx_n (pc' := 180) (lv' := lv72) (st' := [.int ((X70.1 122 ((X70.1 117 37)).toInt.toNat) * (X70.1 120 (y1).toInt.toNat))]) aj_d213 rfl (Nat.le_succ _) (fun _ => rfl) ?_
              refine fx_qxI (fun x78 ex78 => ?_)
              refine fx_s0 (j := 5) aj_d213 rfl (Nat.le_succ _) (by decide) (fun _ => rfl) ?_
              obtain ⟨lv79, elv79⟩ : ∃ l, l = aj_set1 lv72 5 (.int x78) := ⟨_, rfl⟩
              rw [← elv79]
              have hlv79_0 : aj_lv lv79 0 = some (.ref 117) := fx_e1 elv79 hlv72_0 (by decide) (Or.inl (by decide))
              have hlv79_1 : aj_lv lv79 1 = some (.int y1) := fx_e1 elv79 hlv72_1 (by decide) (Or.inl (by decide))
              have hlv79_2 : aj_lv lv79 2 = some (.long y2) := fx_e1 elv79 hlv72_2 (by decide) (Or.inl (by decide))
              have hlv79_5 : aj_lv lv79 5 = some (.int x78) := by rw [elv79]; exact ak_set1_eq _ _ _
              show fx_W _ _ _ 182 lv79 [] _ _
              refine fx_i2 aj_d213 rfl (Nat.le_succ _) (fun _ => rfl) hlv79_0 ?_
              refine fx_n (pc' := 185) (lv' := lv79) (st' := [.int ((Int8.ofInt 59).toInt32), .ref 117]) aj_d213 rfl (Nat.le_succ _) (fun _ => rfl) ?_
              refine fx_cv aj_d213 rfl (Nat.le_succ _) rfl [_] rfl rfl (gx_220_ok ((Int8.ofInt 59).toInt32)) ?_
              rintro _ X80 ⟨w81, rfl, hR80⟩ hok80 hle80
              refine fx_qc hR80 ?_
              show fx_W _ _ _ 188 lv79 [.int w81] _ _
              refine fx_b0 (tgt := 208) aj_d213 rfl (Nat.le_succ _) rfl (fun q82 => ?_) (fun q82 => ?_)
              · skip
                refine fx_qi (c := (w81).toInt = 0) (fx_t_eq q82) ?_
                show fx_W _ _ _ 208 lv79 [] _ _
                exact (ih.2) lv79 (y1) (y2) (x78) X80  hlv79_0 hlv79_1 hlv79_2 hlv79_5
              · skip
                refine fx_qe (c := (w81).toInt = 0) (fx_f_eq q82) ?_
                show fx_W _ _ _ 191 lv79 [] _ _
                refine fx_i0 aj_d213 rfl (Nat.le_succ _) (fun _ => rfl) hlv79_5 ?_
                refine fx_n (pc' := 196) (lv' := lv79) (st' := [.int ((Int16.ofInt 1024).toInt32), .int x78]) aj_d213 rfl (Nat.le_succ _) (fun _ => rfl) ?_
                refine fx_b (tgt := 208) aj_d213 rfl (Nat.le_succ _) rfl (fun q83 => ?_) (fun q83 => ?_)
                · skip
                  refine fx_qe (c := 1024 < (x78).toInt) (fx_t_le q83) ?_
                  show fx_W _ _ _ 208 lv79 [] _ _
                  exact (ih.2) lv79 (y1) (y2) (x78) X80  hlv79_0 hlv79_1 hlv79_2 hlv79_5
                · skip
                  refine fx_qi (c := 1024 < (x78).toInt) (fx_f_le q83) ?_
                  show fx_W _ _ _ 199 lv79 [] _ _
                  refine fx_i2 aj_d213 rfl (Nat.le_succ _) (fun _ => rfl) hlv79_0 ?_
                  refine fx_n (pc' := 201) (lv' := lv79) (st' := [.int (Int32.ofInt 5), .ref 117]) aj_d213 rfl (Nat.le_succ _) (fun _ => rfl) ?_
                  refine fx_i2 aj_d213 rfl (Nat.le_succ _) (fun _ => rfl) hlv79_0 ?_
                  refine fx_gI aj_d213 rfl (Nat.le_succ _) rfl rfl (Or.inl rfl) ?_
                  refine fx_cv aj_d213 rfl (Nat.le_succ _) rfl [_, _] rfl rfl (gx_218_ok (Int32.ofInt 5) (X80.1 117 27)) ?_
                  rintro _ X84 ⟨w85, rfl, hR84⟩ hok84 hle84
                  refine fx_qc hR84 ?_
                  show fx_W _ _ _ 208 lv79 [] _ _
                  exact (ih.2) lv79 (y1) (y2) (x78) X84  hlv79_0 hlv79_1 hlv79_2 hlv79_5
            · skip
              refine fx_qi (c := (w71).toInt = 0) (fx_f_ne q73) ?_
              show fx_W _ _ _ 162 lv72 [] _ _
              refine fx_n (pc' := 163) (lv' := lv72) (st' := [.int (Int32.ofInt 0)]) aj_d213 rfl (Nat.le_succ _) (fun _ => rfl) ?_
              exact fx_ri aj_d213 rfl ⟨_, rfl, 0, rfl, rfl⟩
        · skip
          refine fx_qi (c := (w43).toInt = 0) (fx_f_ne q44) ?_
          show fx_W _ _ _ 110 lv [] _ _
          refine fx_n (pc' := 111) (lv' := lv) (st' := [.int (Int32.ofInt 0)]) aj_d213 rfl (Nat.le_succ _) (fun _ => rfl) ?_
          exact fx_ri aj_d213 rfl ⟨_, rfl, 0, rfl, rfl⟩
    · intro lv y1 y2 y5 X hlv_0 hlv_1 hlv_2 hlv_5
      refine fx_mono (Q := fx_Q fx_qI (fun v X' => ∃ n : Nat, gxT_213_208 (gxF_213 n) y1 y2 y5 X v X')) (fun r X' ⟨v, e, n, z⟩ => ⟨v, e, n + 1, gxI_213_208 z⟩) ?_
      unfold gxT_213_208
      refine fx_i2 aj_d213 rfl (Nat.le_refl _) (fun _ => rfl) hlv_0 ?_
      refine fx_n (pc' := 211) (lv' := lv) (st' := [.int ((Int8.ofInt 59).toInt32), .ref 117]) aj_d213 rfl (Nat.le_succ _) (fun _ => rfl) ?_
      refine fx_cv aj_d213 rfl (Nat.le_succ _) rfl [_] rfl rfl (gx_219_ok ((Int8.ofInt 59).toInt32)) ?_
      rintro _ X86 ⟨w87, rfl, hR86⟩ hok86 hle86
      refine fx_qc hR86 ?_
      show fx_W _ _ _ 214 lv [.int w87] _ _
      refine fx_b0 (tgt := 219) aj_d213 rfl (Nat.le_succ _) rfl (fun q88 => ?_) (fun q88 => ?_)
      · skip
        refine fx_qe (c := (w87).toInt = 0) (fx_t_ne q88) ?_
        show fx_W _ _ _ 219 lv [] _ _
        refine fx_i2 aj_d213 rfl (Nat.le_succ _) (fun _ => rfl) hlv_0 ?_
        refine fx_gF aj_d213 rfl (Nat.le_succ _) rfl rfl fx_in_11_2 (t := 119) rfl (fun hA89 => ?_)
        refine fx_i0 aj_d213 rfl (Nat.le_succ _) (fun _ => rfl) hlv_1 ?_
        refine fx_i1 aj_d213 rfl (Nat.le_succ _) (fun _ => rfl) hlv_2 ?_
        refine fx_sL aj_d213 rfl (Nat.le_succ _) (fun g900 g901 => ?_)
        refine fx_qa (c := 0 ≤ (y1).toInt ∧ (y1).toInt < ((16 : Nat) : Int)) ⟨g900, fx_lnk g901 hA89⟩ ?_
        refine fx_qX (fun X91 eX91 => ?_)
        show fx_W _ _ _ 226 lv [] _ _
        refine fx_i2 aj_d213 rfl (Nat.le_succ _) (fun _ => rfl) hlv_0 ?_
        refine fx_gF aj_d213 rfl (Nat.le_succ _) rfl rfl fx_in_11_1 (t := 118) rfl (fun hA92 => ?_)
        refine fx_i2 aj_d213 rfl (Nat.le_succ _) (fun _ => rfl) hlv_0 ?_
        refine fx_gI aj_d213 rfl (Nat.le_succ _) rfl rfl (Or.inl rfl) ?_
        refine fx_n (pc' := 235) (lv' := lv) (st' := [.int (X91.1 117 37), .ref 118, .int (X91.1 117 37), .ref 118]) aj_d213 rfl (Nat.le_succ _) (fun _ => rfl) ?_
        refine fx_ld aj_d213 (Or.inl rfl) rfl (Nat.le_succ _) (fun g930 g931 => ?_)
        show fx_W _ _ _ 236 lv [.int (X91.1 118 ((X91.1 117 37)).toInt.toNat), .int (X91.1 117 37), .ref 118] _ _
        refine fx_qa (c := 0 ≤ ((X91.1 117 37)).toInt ∧ ((X91.1 117 37)).toInt < ((2 : Nat) : Int)) ⟨g930, fx_lnk g931 hA92⟩ ?_
        refine fx_n (pc' := 237) (lv' := lv) (st' := [.int (Int32.ofInt 1), .int (X91.1 118 ((X91.1 117 37)).toInt.toNat), .int (X91.1 117 37), .ref 118]) aj_d213 rfl (Nat.le_succ _) (fun _ => rfl) ?_
        refine fx_n (pc' := 238) (lv' := lv) (st' := [.int ((X91.1 118 ((X91.1 117 37)).toInt.toNat) + (Int32.ofInt 1)), .int (X91.1 117 37), .ref 118]) aj_d213 rfl (Nat.le_succ _) (fun _ => rfl) ?_
        refine fx_st aj_d213 (Or.inl ⟨rfl, rfl⟩) rfl (Nat.le_succ _) (fun g940 g941 => ?_)
        show fx_W _ _ _ _ _ _ (fx_wI X91 118 ((X91.1 117 37)).toInt.toNat ((X91.1 118 ((X91.1 117 37)).toInt.toNat) + (Int32.ofInt 1))) _
        refine fx_qa (c := 0 ≤ ((X91.1 117 37)).toInt ∧ ((X91.1 117 37)).toInt < ((2 : Nat) : Int)) ⟨g940, fx_lnk g941 hA92⟩ ?_
        refine fx_qX (fun X95 eX95 => ?_)
        show fx_W _ _ _ 239 lv [] _ _
        refine fx_i2 aj_d213 rfl (Nat.le_succ _) (fun _ => rfl) hlv_0 ?_
        refine fx_gF aj_d213 rfl (Nat.le_succ _) rfl rfl fx_in_11_5 (t := 122) rfl (fun hA96 => ?_)
        refine fx_i2 aj_d213 rfl (Nat.le_succ _) (fun _ => rfl) hlv_0 ?_
        refine fx_gI aj_d213 rfl (Nat.le_succ _) rfl rfl (Or.inl rfl) ?_
        refine fx_i0 aj_d213 rfl (Nat.le_succ _) (fun _ => rfl) hlv_5 ?_
        refine fx_n (pc' := 252) (lv' := lv) (st' := [.int ((Int16.ofInt 1024).toInt32), .int y5, .int (X95.1 117 37), .ref 122]) aj_d213 rfl (Nat.le_succ _) (fun _ => rfl) ?_
        refine fx_b (tgt := 261) aj_d213 rfl (Nat.le_succ _) rfl (fun q97 => ?_) (fun q97 => ?_)
        · skip
          refine fx_qe (c := 1024 < (y5).toInt) (fx_t_le q97) ?_
          show fx_W _ _ _ 261 lv [.int (X95.1 117 37), .ref 122] _ _
          refine fx_i0 aj_d213 rfl (Nat.le_succ _) (fun _ => rfl) hlv_5 ?_
          refine fx_st aj_d213 (Or.inl ⟨rfl, rfl⟩) rfl (Nat.le_succ _) (fun g980 g981 => ?_)
          show fx_W _ _ _ _ _ _ (fx_wI X95 122 ((X95.1 117 37)).toInt.toNat y5) _
          refine fx_qa (c := 0 ≤ ((X95.1 117 37)).toInt ∧ ((X95.1 117 37)).toInt < ((2 : Nat) : Int)) ⟨g980, fx_lnk g981 hA96⟩ ?_
          refine fx_qX (fun X99 eX99 => ?_)
          show fx_W _ _ _ 264 lv [] _ _
          refine fx_i2 aj_d213 rfl (Nat.le_succ _) (fun _ => rfl) hlv_0 ?_
          refine fx_gI aj_d213 rfl (Nat.le_succ _) rfl rfl (Or.inr (Or.inl rfl)) ?_
          refine fx_b0 (tgt := 275) aj_d213 rfl (Nat.le_succ _) rfl (fun q100 => ?_) (fun q100 => ?_)
          · skip
            refine fx_qi (c := ((X99.1 117 32)).toInt = 0) (fx_t_eq q100) ?_
            show fx_W _ _ _ 275 lv [] _ _
            refine fx_n (pc' := 276) (lv' := lv) (st' := [.int (Int32.ofInt 1)]) aj_d213 rfl (Nat.le_succ _) (fun _ => rfl) ?_
            exact fx_ri aj_d213 rfl ⟨_, rfl, 0, rfl, rfl⟩
          · skip
            refine fx_qe (c := ((X99.1 117 32)).toInt = 0) (fx_f_eq q100) ?_
            show fx_W _ _ _ 271 lv [] _ _
            refine fx_i2 aj_d213 rfl (Nat.le_succ _) (fun _ => rfl) hlv_0 ?_
            refine fx_cv aj_d213 rfl (Nat.le_succ _) rfl [] rfl rfl (gx_224_ok) ?_
            rintro _ X101 ⟨w102, rfl, hR101⟩ hok101 hle101
            refine fx_qc hR101 ?_
            show fx_W _ _ _ 275 lv [] _ _
            refine fx_n (pc' := 276) (lv' := lv) (st' := [.int (Int32.ofInt 1)]) aj_d213 rfl (Nat.le_succ _) (fun _ => rfl) ?_
            exact fx_ri aj_d213 rfl ⟨_, rfl, 0, rfl, rfl⟩
        · skip
          refine fx_qi (c := 1024 < (y5).toInt) (fx_f_le q97) ?_
          show fx_W _ _ _ 255 lv [.int (X95.1 117 37), .ref 122] _ _
          refine fx_n (pc' := 258) (lv' := lv) (st' := [.int ((Int16.ofInt 1024).toInt32), .int (X95.1 117 37), .ref 122]) aj_d213 rfl (Nat.le_succ _) (fun _ => rfl) ?_
          refine fx_n (pc' := 263) (lv' := lv) (st' := [.int ((Int16.ofInt 1024).toInt32), .int (X95.1 117 37), .ref 122]) aj_d213 rfl (Nat.le_succ _) (fun _ => rfl) ?_
          refine fx_st aj_d213 (Or.inl ⟨rfl, rfl⟩) rfl (Nat.le_succ _) (fun g1030 g1031 => ?_)
          show fx_W _ _ _ _ _ _ (fx_wI X95 122 ((X95.1 117 37)).toInt.toNat ((Int16.ofInt 1024).toInt32)) _
          refine fx_qa (c := 0 ≤ ((X95.1 117 37)).toInt ∧ ((X95.1 117 37)).toInt < ((2 : Nat) : Int)) ⟨g1030, fx_lnk g1031 hA96⟩ ?_
          refine fx_qX (fun X104 eX104 => ?_)
          show fx_W _ _ _ 264 lv [] _ _
          refine fx_i2 aj_d213 rfl (Nat.le_succ _) (fun _ => rfl) hlv_0 ?_
          refine fx_gI aj_d213 rfl (Nat.le_succ _) rfl rfl (Or.inr (Or.inl rfl)) ?_
          refine fx_b0 (tgt := 275) aj_d213 rfl (Nat.le_succ _) rfl (fun q105 => ?_) (fun q105 => ?_)
          · skip
            refine fx_qi (c := ((X104.1 117 32)).toInt = 0) (fx_t_eq q105) ?_
            show fx_W _ _ _ 275 lv [] _ _
            refine fx_n (pc' := 276) (lv' := lv) (st' := [.int (Int32.ofInt 1)]) aj_d213 rfl (Nat.le_succ _) (fun _ => rfl) ?_
            exact fx_ri aj_d213 rfl ⟨_, rfl, 0, rfl, rfl⟩
          · skip
            refine fx_qe (c := ((X104.1 117 32)).toInt = 0) (fx_f_eq q105) ?_
            show fx_W _ _ _ 271 lv [] _ _
            refine fx_i2 aj_d213 rfl (Nat.le_succ _) (fun _ => rfl) hlv_0 ?_
            refine fx_cv aj_d213 rfl (Nat.le_succ _) rfl [] rfl rfl (gx_224_ok) ?_
            rintro _ X106 ⟨w107, rfl, hR106⟩ hok106 hle106
            refine fx_qc hR106 ?_
            show fx_W _ _ _ 275 lv [] _ _
            refine fx_n (pc' := 276) (lv' := lv) (st' := [.int (Int32.ofInt 1)]) aj_d213 rfl (Nat.le_succ _) (fun _ => rfl) ?_
            exact fx_ri aj_d213 rfl ⟨_, rfl, 0, rfl, rfl⟩
      · skip
        refine fx_qi (c := (w87).toInt = 0) (fx_f_ne q88) ?_
        show fx_W _ _ _ 217 lv [] _ _
        refine fx_n (pc' := 218) (lv' := lv) (st' := [.int (Int32.ofInt 0)]) aj_d213 rfl (Nat.le_succ _) (fun _ => rfl) ?_
        exact fx_ri aj_d213 rfl ⟨_, rfl, 0, rfl, rfl⟩
theorem gx_213_ok {tb : aj_T} {X : fx_X} : fx_K tb 213 [.ref 117] X (fx_Q fx_qI (fun v X' => gx_213 X v X')) := by
  refine fx_m aj_m213_at rfl (fun N => ?_)
  refine fx_mono (Q := fx_Q fx_qI (fun v X' => ∃ n : Nat, gxE_213 (gxF_213 n) X v X')) (fun r X' h => h) ?_
  unfold gxE_213
  show fx_W _ _ _ 0 [(0, .ref 117)] [] _ _
  obtain ⟨lv1, elv1⟩ : ∃ l : aj_V, l = [(0, .ref 117)] := ⟨_, rfl⟩
  rw [← elv1]
  have hlv1_0 : aj_lv lv1 0 = some (.ref 117) := by rw [elv1]; rfl
  refine fx_i2 aj_d213 rfl (Nat.le_succ _) (fun _ => rfl) hlv1_0 ?_
  refine fx_cv aj_d213 rfl (Nat.le_succ _) rfl [] rfl rfl (gx_214_ok) ?_
  rintro _ X2 ⟨w3, rfl, hR2⟩ hok2 hle2
  refine fx_qc hR2 ?_
  show fx_W _ _ _ 4 lv1 [.int w3] _ _
  refine fx_b0 (tgt := 9) aj_d213 rfl (Nat.le_succ _) rfl (fun q4 => ?_) (fun q4 => ?_)
  · skip
    refine fx_qe (c := (w3).toInt = 0) (fx_t_ne q4) ?_
    show fx_W _ _ _ 9 lv1 [] _ _
    refine fx_i2 aj_d213 rfl (Nat.le_succ _) (fun _ => rfl) hlv1_0 ?_
    refine fx_gI aj_d213 rfl (Nat.le_succ _) rfl rfl (Or.inl rfl) ?_
    refine fx_n (pc' := 14) (lv' := lv1) (st' := [.int (Int32.ofInt 1), .int (X2.1 117 26)]) aj_d213 rfl (Nat.le_succ _) (fun _ => rfl) ?_
    refine fx_b (tgt := 41) aj_d213 rfl (Nat.le_succ _) rfl (fun q5 => ?_) (fun q5 => ?_)
    · skip
      refine fx_qe (c := ((X2.1 117 26)).toInt = 1) (fx_t_ne q5) ?_
      show fx_W _ _ _ 41 lv1 [] _ _
      refine fx_i2 aj_d213 rfl (Nat.le_succ _) (fun _ => rfl) hlv1_0 ?_
      refine fx_cv aj_d213 rfl (Nat.le_succ _) rfl [] rfl rfl (gx_216_ok) ?_
      rintro _ X6 ⟨w7, rfl, hR6⟩ hok6 hle6
      refine fx_qc hR6 ?_
      show fx_W _ _ _ 45 lv1 [.int w7] _ _
      refine fx_b0 (tgt := 50) aj_d213 rfl (Nat.le_succ _) rfl (fun q8 => ?_) (fun q8 => ?_)
      · skip
        refine fx_qe (c := (w7).toInt = 0) (fx_t_ne q8) ?_
        show fx_W _ _ _ 50 lv1 [] _ _
        refine fx_i2 aj_d213 rfl (Nat.le_succ _) (fun _ => rfl) hlv1_0 ?_
        refine fx_gI aj_d213 rfl (Nat.le_succ _) rfl rfl (Or.inl rfl) ?_
        refine fx_n (pc' := 56) (lv' := lv1) (st' := [.int ((Int8.ofInt 8).toInt32), .int (X6.1 117 37)]) aj_d213 rfl (Nat.le_succ _) (fun _ => rfl) ?_
        refine fx_n (pc' := 57) (lv' := lv1) (st' := [.int ((X6.1 117 37) * ((Int8.ofInt 8).toInt32))]) aj_d213 rfl (Nat.le_succ _) (fun _ => rfl) ?_
        refine fx_i2 aj_d213 rfl (Nat.le_succ _) (fun _ => rfl) hlv1_0 ?_
        refine fx_gF aj_d213 rfl (Nat.le_succ _) rfl rfl fx_in_11_1 (t := 118) rfl (fun hA9 => ?_)
        refine fx_i2 aj_d213 rfl (Nat.le_succ _) (fun _ => rfl) hlv1_0 ?_
        refine fx_gI aj_d213 rfl (Nat.le_succ _) rfl rfl (Or.inl rfl) ?_
        refine fx_ld aj_d213 (Or.inl rfl) rfl (Nat.le_succ _) (fun g100 g101 => ?_)
        show fx_W _ _ _ 66 lv1 [.int (X6.1 118 ((X6.1 117 37)).toInt.toNat), .int ((X6.1 117 37) * ((Int8.ofInt 8).toInt32))] _ _
        refine fx_qa (c := 0 ≤ ((X6.1 117 37)).toInt ∧ ((X6.1 117 37)).toInt < ((2 : Nat) : Int)) ⟨g100, fx_lnk g101 hA9⟩ ?_
        refine fx_n (pc' := 67) (lv' := lv1) (st' := [.int (((X6.1 117 37) * ((Int8.ofInt 8).toInt32)) + (X6.1 118 ((X6.1 117 37)).toInt.toNat))]) aj_d213 rfl (Nat.le_succ _) (fun _ => rfl) ?_
        refine fx_qxI (fun x11 ex11 => ?_)
        refine fx_s0 (j := 1) aj_d213 rfl (Nat.le_succ _) (by decide) (fun _ => rfl) ?_
        obtain ⟨lv12, elv12⟩ : ∃ l, l = aj_set1 lv1 1 (.int x11) := ⟨_, rfl⟩
        rw [← elv12]
        have hlv12_0 : aj_lv lv12 0 = some (.ref 117) := fx_e1 elv12 hlv1_0 (by decide) (Or.inr rfl)
        have hlv12_1 : aj_lv lv12 1 = some (.int x11) := by rw [elv12]; exact ak_set1_eq _ _ _
        show fx_W _ _ _ 68 lv12 [] _ _
        refine fx_i2 aj_d213 rfl (Nat.le_succ _) (fun _ => rfl) hlv12_0 ?_
        refine fx_gL aj_d213 rfl (Nat.le_succ _) rfl rfl rfl ?_
        refine fx_qxL (fun x13 ex13 => ?_)
        refine fx_s1 (j := 2) aj_d213 rfl (Nat.le_succ _) (by decide) (fun _ => rfl) ?_
        obtain ⟨lv14, elv14⟩ : ∃ l, l = aj_set2 lv12 2 (.long x13) := ⟨_, rfl⟩
        rw [← elv14]
        have hlv14_0 : aj_lv lv14 0 = some (.ref 117) := fx_e2 elv14 hlv12_0 (by decide) (by decide) (Or.inl (by decide))
        have hlv14_1 : aj_lv lv14 1 = some (.int x11) := fx_e2 elv14 hlv12_1 (by decide) (by decide) (Or.inr rfl)
        have hlv14_2 : aj_lv lv14 2 = some (.long x13) := by rw [elv14]; exact ak_set2_eq _ _ _
        show fx_W _ _ _ 73 lv14 [] _ _
        refine fx_i2 aj_d213 rfl (Nat.le_succ _) (fun _ => rfl) hlv14_0 ?_
        refine fx_i2 aj_d213 rfl (Nat.le_succ _) (fun _ => rfl) hlv14_0 ?_
        refine fx_gI aj_d213 rfl (Nat.le_succ _) rfl rfl (Or.inl rfl) ?_
        refine fx_i1 aj_d213 rfl (Nat.le_succ _) (fun _ => rfl) hlv14_2 ?_
        refine fx_cv aj_d213 rfl (Nat.le_succ _) rfl [_, _] rfl rfl (gx_217_ok (X6.1 117 37) x13) ?_
        rintro _ X15 ⟨w16, rfl, hR15⟩ hok15 hle15
        refine fx_qc hR15 ?_
        show fx_W _ _ _ 82 lv14 [.int w16] _ _
        refine fx_b0 (tgt := 94) aj_d213 rfl (Nat.le_succ _) rfl (fun q17 => ?_) (fun q17 => ?_)
        · skip
          refine fx_qi (c := (w16).toInt < 0) (fx_t_lt q17) ?_
          show fx_W _ _ _ 94 lv14 [] _ _
          exact ((gxL_213 N).1) lv14 (x11) (x13) X15  hlv14_0 hlv14_1 hlv14_2
        · skip
          refine fx_qe (c := (w16).toInt < 0) (fx_f_lt q17) ?_
          show fx_W _ _ _ 85 lv14 [] _ _
          refine fx_i2 aj_d213 rfl (Nat.le_succ _) (fun _ => rfl) hlv14_0 ?_
          refine fx_n (pc' := 87) (lv' := lv14) (st' := [.int (Int32.ofInt 3), .ref 117]) aj_d213 rfl (Nat.le_succ _) (fun _ => rfl) ?_
          refine fx_i2 aj_d213 rfl (Nat.le_succ _) (fun _ => rfl) hlv14_0 ?_
          refine fx_gI aj_d213 rfl (Nat.le_succ _) rfl rfl (Or.inl rfl) ?_
          refine fx_cv aj_d213 rfl (Nat.le_succ _) rfl [_, _] rfl rfl (gx_218_ok (Int32.ofInt 3) (X15.1 117 34)) ?_
          rintro _ X18 ⟨w19, rfl, hR18⟩ hok18 hle18
          refine fx_qc hR18 ?_
          show fx_W _ _ _ 94 lv14 [] _ _
          exact ((gxL_213 N).1) lv14 (x11) (x13) X18  hlv14_0 hlv14_1 hlv14_2
      · skip
        refine fx_qi (c := (w7).toInt = 0) (fx_f_ne q8) ?_
        show fx_W _ _ _ 48 lv1 [] _ _
        refine fx_n (pc' := 49) (lv' := lv1) (st' := [.int (Int32.ofInt 0)]) aj_d213 rfl (Nat.le_succ _) (fun _ => rfl) ?_
        exact fx_ri aj_d213 rfl ⟨_, rfl, 0, rfl, rfl⟩
    · skip
      refine fx_qi (c := ((X2.1 117 26)).toInt = 1) (fx_f_ne q5) ?_
      show fx_W _ _ _ 17 lv1 [] _ _
      refine fx_i2 aj_d213 rfl (Nat.le_succ _) (fun _ => rfl) hlv1_0 ?_
      refine fx_gF aj_d213 rfl (Nat.le_succ _) rfl rfl fx_in_11_1 (t := 118) rfl (fun hA20 => ?_)
      refine fx_i2 aj_d213 rfl (Nat.le_succ _) (fun _ => rfl) hlv1_0 ?_
      refine fx_gI aj_d213 rfl (Nat.le_succ _) rfl rfl (Or.inl rfl) ?_
      refine fx_ld aj_d213 (Or.inl rfl) rfl (Nat.le_succ _) (fun g210 g211 => ?_)
      show fx_W _ _ _ 26 lv1 [.int (X2.1 118 ((X2.1 117 37)).toInt.toNat)] _ _
      refine fx_qa (c := 0 ≤ ((X2.1 117 37)).toInt ∧ ((X2.1 117 37)).toInt < ((2 : Nat) : Int)) ⟨g210, fx_lnk g211 hA20⟩ ?_
      refine fx_n (pc' := 28) (lv' := lv1) (st' := [.int ((Int8.ofInt 8).toInt32), .int (X2.1 118 ((X2.1 117 37)).toInt.toNat)]) aj_d213 rfl (Nat.le_succ _) (fun _ => rfl) ?_
      refine fx_b (tgt := 41) aj_d213 rfl (Nat.le_succ _) rfl (fun q22 => ?_) (fun q22 => ?_)
      · skip
        refine fx_qe (c := ((X2.1 118 ((X2.1 117 37)).toInt.toNat)).toInt = 8) (fx_t_ne q22) ?_
        show fx_W _ _ _ 41 lv1 [] _ _
        refine fx_i2 aj_d213 rfl (Nat.le_succ _) (fun _ => rfl) hlv1_0 ?_
        refine fx_cv aj_d213 rfl (Nat.le_succ _) rfl [] rfl rfl (gx_216_ok) ?_
        rintro _ X23 ⟨w24, rfl, hR23⟩ hok23 hle23
        refine fx_qc hR23 ?_
        show fx_W _ _ _ 45 lv1 [.int w24] _ _
        refine fx_b0 (tgt := 50) aj_d213 rfl (Nat.le_succ _) rfl (fun q25 => ?_) (fun q25 => ?_)
        · skip
          refine fx_qe (c := (w24).toInt = 0) (fx_t_ne q25) ?_
          show fx_W _ _ _ 50 lv1 [] _ _
          refine fx_i2 aj_d213 rfl (Nat.le_succ _) (fun _ => rfl) hlv1_0 ?_
          refine fx_gI aj_d213 rfl (Nat.le_succ _) rfl rfl (Or.inl rfl) ?_
          refine fx_n (pc' := 56) (lv' := lv1) (st' := [.int ((Int8.ofInt 8).toInt32), .int (X23.1 117 37)]) aj_d213 rfl (Nat.le_succ _) (fun _ => rfl) ?_
          refine fx_n (pc' := 57) (lv' := lv1) (st' := [.int ((X23.1 117 37) * ((Int8.ofInt 8).toInt32))]) aj_d213 rfl (Nat.le_succ _) (fun _ => rfl) ?_
          refine fx_i2 aj_d213 rfl (Nat.le_succ _) (fun _ => rfl) hlv1_0 ?_
          refine fx_gF aj_d213 rfl (Nat.le_succ _) rfl rfl fx_in_11_1 (t := 118) rfl (fun hA26 => ?_)
          refine fx_i2 aj_d213 rfl (Nat.le_succ _) (fun _ => rfl) hlv1_0 ?_
          refine fx_gI aj_d213 rfl (Nat.le_succ _) rfl rfl (Or.inl rfl) ?_
          refine fx_ld aj_d213 (Or.inl rfl) rfl (Nat.le_succ _) (fun g270 g271 => ?_)
          show fx_W _ _ _ 66 lv1 [.int (X23.1 118 ((X23.1 117 37)).toInt.toNat), .int ((X23.1 117 37) * ((Int8.ofInt 8).toInt32))] _ _
          refine fx_qa (c := 0 ≤ ((X23.1 117 37)).toInt ∧ ((X23.1 117 37)).toInt < ((2 : Nat) : Int)) ⟨g270, fx_lnk g271 hA26⟩ ?_
          refine fx_n (pc' := 67) (lv' := lv1) (st' := [.int (((X23.1 117 37) * ((Int8.ofInt 8).toInt32)) + (X23.1 118 ((X23.1 117 37)).toInt.toNat))]) aj_d213 rfl (Nat.le_succ _) (fun _ => rfl) ?_
          refine fx_qxI (fun x28 ex28 => ?_)
          refine fx_s0 (j := 1) aj_d213 rfl (Nat.le_succ _) (by decide) (fun _ => rfl) ?_
          obtain ⟨lv29, elv29⟩ : ∃ l, l = aj_set1 lv1 1 (.int x28) := ⟨_, rfl⟩
          rw [← elv29]
          have hlv29_0 : aj_lv lv29 0 = some (.ref 117) := fx_e1 elv29 hlv1_0 (by decide) (Or.inr rfl)
          have hlv29_1 : aj_lv lv29 1 = some (.int x28) := by rw [elv29]; exact ak_set1_eq _ _ _
          show fx_W _ _ _ 68 lv29 [] _ _
          refine fx_i2 aj_d213 rfl (Nat.le_succ _) (fun _ => rfl) hlv29_0 ?_
          refine fx_gL aj_d213 rfl (Nat.le_succ _) rfl rfl rfl ?_
          refine fx_qxL (fun x30 ex30 => ?_)
          refine fx_s1 (j := 2) aj_d213 rfl (Nat.le_succ _) (by decide) (fun _ => rfl) ?_
          obtain ⟨lv31, elv31⟩ : ∃ l, l = aj_set2 lv29 2 (.long x30) := ⟨_, rfl⟩
          rw [← elv31]
          have hlv31_0 : aj_lv lv31 0 = some (.ref 117) := fx_e2 elv31 hlv29_0 (by decide) (by decide) (Or.inl (by decide))
          have hlv31_1 : aj_lv lv31 1 = some (.int x28) := fx_e2 elv31 hlv29_1 (by decide) (by decide) (Or.inr rfl)
          have hlv31_2 : aj_lv lv31 2 = some (.long x30) := by rw [elv31]; exact ak_set2_eq _ _ _
          show fx_W _ _ _ 73 lv31 [] _ _
          refine fx_i2 aj_d213 rfl (Nat.le_succ _) (fun _ => rfl) hlv31_0 ?_
          refine fx_i2 aj_d213 rfl (Nat.le_succ _) (fun _ => rfl) hlv31_0 ?_
          refine fx_gI aj_d213 rfl (Nat.le_succ _) rfl rfl (Or.inl rfl) ?_
          refine fx_i1 aj_d213 rfl (Nat.le_succ _) (fun _ => rfl) hlv31_2 ?_
          refine fx_cv aj_d213 rfl (Nat.le_succ _) rfl [_, _] rfl rfl (gx_217_ok (X23.1 117 37) x30) ?_
          rintro _ X32 ⟨w33, rfl, hR32⟩ hok32 hle32
          refine fx_qc hR32 ?_
          show fx_W _ _ _ 82 lv31 [.int w33] _ _
          refine fx_b0 (tgt := 94) aj_d213 rfl (Nat.le_succ _) rfl (fun q34 => ?_) (fun q34 => ?_)
          · skip
            refine fx_qi (c := (w33).toInt < 0) (fx_t_lt q34) ?_
            show fx_W _ _ _ 94 lv31 [] _ _
            exact ((gxL_213 N).1) lv31 (x28) (x30) X32  hlv31_0 hlv31_1 hlv31_2
          · skip
            refine fx_qe (c := (w33).toInt < 0) (fx_f_lt q34) ?_
            show fx_W _ _ _ 85 lv31 [] _ _
            refine fx_i2 aj_d213 rfl (Nat.le_succ _) (fun _ => rfl) hlv31_0 ?_
            refine fx_n (pc' := 87) (lv' := lv31) (st' := [.int (Int32.ofInt 3), .ref 117]) aj_d213 rfl (Nat.le_succ _) (fun _ => rfl) ?_
            refine fx_i2 aj_d213 rfl (Nat.le_succ _) (fun _ => rfl) hlv31_0 ?_
            refine fx_gI aj_d213 rfl (Nat.le_succ _) rfl rfl (Or.inl rfl) ?_
            refine fx_cv aj_d213 rfl (Nat.le_succ _) rfl [_, _] rfl rfl (gx_218_ok (Int32.ofInt 3) (X32.1 117 34)) ?_
            rintro _ X35 ⟨w36, rfl, hR35⟩ hok35 hle35
            refine fx_qc hR35 ?_
            show fx_W _ _ _ 94 lv31 [] _ _
            exact ((gxL_213 N).1) lv31 (x28) (x30) X35  hlv31_0 hlv31_1 hlv31_2
        · skip
          refine fx_qi (c := (w24).toInt = 0) (fx_f_ne q25) ?_
          show fx_W _ _ _ 48 lv1 [] _ _
          refine fx_n (pc' := 49) (lv' := lv1) (st' := [.int (Int32.ofInt 0)]) aj_d213 rfl (Nat.le_succ _) (fun _ => rfl) ?_
          exact fx_ri aj_d213 rfl ⟨_, rfl, 0, rfl, rfl⟩
      · skip
        refine fx_qi (c := ((X2.1 118 ((X2.1 117 37)).toInt.toNat)).toInt = 8) (fx_f_ne q22) ?_
        show fx_W _ _ _ 31 lv1 [] _ _
        refine fx_i2 aj_d213 rfl (Nat.le_succ _) (fun _ => rfl) hlv1_0 ?_
        refine fx_n (pc' := 33) (lv' := lv1) (st' := [.int (Int32.ofInt 2), .ref 117]) aj_d213 rfl (Nat.le_succ _) (fun _ => rfl) ?_
        refine fx_i2 aj_d213 rfl (Nat.le_succ _) (fun _ => rfl) hlv1_0 ?_
        refine fx_gI aj_d213 rfl (Nat.le_succ _) rfl rfl (Or.inl rfl) ?_
        refine fx_cv aj_d213 rfl (Nat.le_succ _) rfl [_, _] rfl rfl (gx_215_ok (Int32.ofInt 2) (X2.1 117 27)) ?_
        rintro _ X37 ⟨w38, rfl, hR37⟩ hok37 hle37
        refine fx_qc hR37 ?_
        show fx_W _ _ _ 40 lv1 [.int w38] _ _
        exact fx_ri aj_d213 rfl ⟨_, rfl, 0, rfl, rfl⟩
  · skip
    refine fx_qi (c := (w3).toInt = 0) (fx_f_ne q4) ?_
    show fx_W _ _ _ 7 lv1 [] _ _
    refine fx_n (pc' := 8) (lv' := lv1) (st' := [.int (Int32.ofInt 0)]) aj_d213 rfl (Nat.le_succ _) (fun _ => rfl) ?_
    exact fx_ri aj_d213 rfl ⟨_, rfl, 0, rfl, rfl⟩
def gxT_204_54 (P : Nat → List Int32 → List Int64 → List Nat → fx_X → Int32 → fx_X → Prop) (X : fx_X) (v : Int32) (X' : fx_X) : Prop :=
  (if ((X.1 117 31)).toInt = 0 then ((if ((X.1 117 26)).toInt = 0 then ((if ((X.1 117 31)).toInt = 0 then (v = (Int32.ofInt 1) ∧ X' = X) else (v = (Int32.ofInt 0) ∧ X' = X))) else (∃ (w24 : Int32) (X23 : fx_X), gx_212 (Int32.ofInt 0) X w24 X23 ∧ (if (w24).toInt = 0 then (∃ (w27 : Int32) (X26 : fx_X), gx_212 (Int32.ofInt 1) X23 w27 X26 ∧ (if (w27).toInt = 0 then (∃ (w30 : Int32) (X29 : fx_X), gx_212 (Int32.ofInt 2) X26 w30 X29 ∧ (if (w30).toInt = 0 then (∃ (w33 : Int32) (X32 : fx_X), gx_212 (Int32.ofInt 4) X29 w33 X32 ∧ (if (w33).toInt = 0 then (∃ (w36 : Int32) (X35 : fx_X), gx_212 (Int32.ofInt 5) X32 w36 X35 ∧ (if (w36).toInt = 0 then (∃ (w39 : Int32) (X38 : fx_X), gx_215 (Int32.ofInt 1) (X35.1 117 27) X35 w39 X38 ∧ (if (w39).toInt = 0 then (v = (Int32.ofInt 0) ∧ X' = X38) else (P 54 [] [] [] X38 v X'))) else (∃ (w43 : Int32) (X42 : fx_X), gx_248 X35 w43 X42 ∧ (if (w43).toInt = 0 then (v = (Int32.ofInt 0) ∧ X' = X42) else (P 54 [] [] [] X42 v X'))))) else (∃ (w47 : Int32) (X46 : fx_X), gx_246 X32 w47 X46 ∧ (if (w47).toInt = 0 then (v = (Int32.ofInt 0) ∧ X' = X46) else (P 54 [] [] [] X46 v X'))))) else (∃ (w51 : Int32) (X50 : fx_X), gx_234 X29 w51 X50 ∧ (if (w51).toInt = 0 then (v = (Int32.ofInt 0) ∧ X' = X50) else (P 54 [] [] [] X50 v X'))))) else (∃ (w55 : Int32) (X54 : fx_X), gx_229 X26 w55 X54 ∧ (if (w55).toInt = 0 then (v = (Int32.ofInt 0) ∧ X' = X54) else (P 54 [] [] [] X54 v X'))))) else (∃ (w59 : Int32) (X58 : fx_X), gx_213 X23 w59 X58 ∧ (if (w59).toInt = 0 then (v = (Int32.ofInt 0) ∧ X' = X58) else (P 54 [] [] [] X58 v X'))))))) else ((if ((X.1 117 31)).toInt = 0 then (v = (Int32.ofInt 1) ∧ X' = X) else (v = (Int32.ofInt 0) ∧ X' = X))))
def gxE_204 (P : Nat → List Int32 → List Int64 → List Nat → fx_X → Int32 → fx_X → Prop) (X : fx_X) (v : Int32) (X' : fx_X) : Prop :=
  (0 ≤ ((X.1 117 37)).toInt ∧ ((X.1 117 37)).toInt < ((2 : Nat) : Int)) ∧ ∃ X4 : fx_X, X4 = (fx_wI X 118 ((X.1 117 37)).toInt.toNat (Int32.ofInt 0)) ∧ (0 ≤ ((X4.1 117 37)).toInt ∧ ((X4.1 117 37)).toInt < ((2 : Nat) : Int)) ∧ ∃ X7 : fx_X, X7 = (fx_wI X4 124 ((X4.1 117 37)).toInt.toNat (Int32.ofInt 0)) ∧ (0 ≤ ((X7.1 117 37)).toInt ∧ ((X7.1 117 37)).toInt < ((2 : Nat) : Int)) ∧ ∃ X10 : fx_X, X10 = (fx_wI X7 127 ((X7.1 117 37)).toInt.toNat (Int32.ofInt 0)) ∧ (0 ≤ ((X10.1 117 37)).toInt ∧ ((X10.1 117 37)).toInt < ((2 : Nat) : Int)) ∧ ∃ X13 : fx_X, X13 = (fx_wI X10 128 ((X10.1 117 37)).toInt.toNat (Int32.ofInt 0)) ∧ (0 ≤ ((X13.1 117 37)).toInt ∧ ((X13.1 117 37)).toInt < ((2 : Nat) : Int)) ∧ ∃ X16 : fx_X, X16 = (fx_wI X13 122 ((X13.1 117 37)).toInt.toNat (Int32.ofInt 1)) ∧ ∃ (w18 : Unit) (X17 : fx_X), gx_205 X16 w18 X17 ∧ P 54 [] [] [] X17 v X'
noncomputable def gxF_204 (n : Nat) : Nat → List Int32 → List Int64 → List Nat → fx_X → Int32 → fx_X → Prop := Nat.rec (motive := fun _ => Nat → List Int32 → List Int64 → List Nat → fx_X → Int32 → fx_X → Prop) (fun _ _ _ _ _ _ _ => False) (fun _ P l is ls rs X v X' => (l = 54 ∧ is = [] ∧ ls = [] ∧ rs = [] ∧ gxT_204_54 P X v X')) n
theorem gxI_204_54 {n : Nat} {X : fx_X} {v : Int32} {X' : fx_X} (h : gxT_204_54 (gxF_204 n) X v X') : gxF_204 (n + 1) 54 [] [] [] X v X' := ⟨rfl, rfl, rfl, rfl, h⟩
theorem gxO_204_54 {n : Nat} {X : fx_X} {v : Int32} {X' : fx_X} (h : gxF_204 (n + 1) 54 [] [] [] X v X') : gxT_204_54 (gxF_204 n) X v X' := by
  rcases h with ⟨-, e1, e2, e3, h⟩
  · cases e1; cases e2; cases e3; exact h
def gx_204 (X : fx_X) (v : Int32) (X' : fx_X) : Prop := ∃ n : Nat, gxE_204 (gxF_204 n) X v X'
theorem gxL_204 {tb : aj_T} : ∀ N : Nat, (∀ (lv : aj_V) (X : fx_X), aj_lv lv 0 = some (.ref 117) → fx_W tb aj_m204 N 54 lv [] X (fx_Q fx_qI (fun v X' => ∃ n : Nat, gxF_204 n 54 [] [] [] X v X'))) := by
  intro N
  induction N with
  | zero => exact (by intros; exact fx_z)
  | succ N ih =>
    skip
    · intro lv X hlv_0
      refine fx_mono (Q := fx_Q fx_qI (fun v X' => ∃ n : Nat, gxT_204_54 (gxF_204 n) X v X')) (fun r X' ⟨v, e, n, z⟩ => ⟨v, e, n + 1, gxI_204_54 z⟩) ?_
      unfold gxT_204_54
      refine fx_i2 aj_d204 rfl (Nat.le_refl _) (fun _ => rfl) hlv_0 ?_
      refine fx_gI aj_d204 rfl (Nat.le_succ _) rfl rfl (Or.inr (Or.inl rfl)) ?_
      refine fx_b0 (tgt := 162) aj_d204 rfl (Nat.le_succ _) rfl (fun q19 => ?_) (fun q19 => ?_)
      · skip
        refine fx_qe (c := ((X.1 117 31)).toInt = 0) (fx_t_ne q19) ?_
        show fx_W _ _ _ 162 lv [] _ _
        refine fx_i2 aj_d204 rfl (Nat.le_succ _) (fun _ => rfl) hlv_0 ?_
        refine fx_gI aj_d204 rfl (Nat.le_succ _) rfl rfl (Or.inr (Or.inl rfl)) ?_
        refine fx_b0 (tgt := 173) aj_d204 rfl (Nat.le_succ _) rfl (fun q20 => ?_) (fun q20 => ?_)
        · skip
          refine fx_qe (c := ((X.1 117 31)).toInt = 0) (fx_t_ne q20) ?_
          show fx_W _ _ _ 173 lv [] _ _
          refine fx_n (pc' := 174) (lv' := lv) (st' := [.int (Int32.ofInt 0)]) aj_d204 rfl (Nat.le_succ _) (fun _ => rfl) ?_
          exact fx_ri aj_d204 rfl ⟨_, rfl, 0, rfl, rfl⟩
        · skip
          refine fx_qi (c := ((X.1 117 31)).toInt = 0) (fx_f_ne q20) ?_
          show fx_W _ _ _ 169 lv [] _ _
          refine fx_n (pc' := 170) (lv' := lv) (st' := [.int (Int32.ofInt 1)]) aj_d204 rfl (Nat.le_succ _) (fun _ => rfl) ?_
          refine fx_n (pc' := 174) (lv' := lv) (st' := [.int (Int32.ofInt 1)]) aj_d204 rfl (Nat.le_succ _) (fun _ => rfl) ?_
          exact fx_ri aj_d204 rfl ⟨_, rfl, 0, rfl, rfl⟩
      · skip
        refine fx_qi (c := ((X.1 117 31)).toInt = 0) (fx_f_ne q19) ?_
        show fx_W _ _ _ 61 lv [] _ _
        refine fx_i2 aj_d204 rfl (Nat.le_succ _) (fun _ => rfl) hlv_0 ?_
        refine fx_gI aj_d204 rfl (Nat.le_succ _) rfl rfl (Or.inl rfl) ?_
        refine fx_b0 (tgt := 162) aj_d204 rfl (Nat.le_succ _) rfl (fun q21 => ?_) (fun q21 => ?_)
        · skip
          refine fx_qi (c := ((X.1 117 26)).toInt = 0) (fx_t_eq q21) ?_
          show fx_W _ _ _ 162 lv [] _ _
          refine fx_i2 aj_d204 rfl (Nat.le_succ _) (fun _ => rfl) hlv_0 ?_
          refine fx_gI aj_d204 rfl (Nat.le_succ _) rfl rfl (Or.inr (Or.inl rfl)) ?_
          refine fx_b0 (tgt := 173) aj_d204 rfl (Nat.le_succ _) rfl (fun q22 => ?_) (fun q22 => ?_)
          · skip
            refine fx_qe (c := ((X.1 117 31)).toInt = 0) (fx_t_ne q22) ?_
            show fx_W _ _ _ 173 lv [] _ _
            refine fx_n (pc' := 174) (lv' := lv) (st' := [.int (Int32.ofInt 0)]) aj_d204 rfl (Nat.le_succ _) (fun _ => rfl) ?_
            exact fx_ri aj_d204 rfl ⟨_, rfl, 0, rfl, rfl⟩
          · skip
            refine fx_qi (c := ((X.1 117 31)).toInt = 0) (fx_f_ne q22) ?_
            show fx_W _ _ _ 169 lv [] _ _
            refine fx_n (pc' := 170) (lv' := lv) (st' := [.int (Int32.ofInt 1)]) aj_d204 rfl (Nat.le_succ _) (fun _ => rfl) ?_
            refine fx_n (pc' := 174) (lv' := lv) (st' := [.int (Int32.ofInt 1)]) aj_d204 rfl (Nat.le_succ _) (fun _ => rfl) ?_
            exact fx_ri aj_d204 rfl ⟨_, rfl, 0, rfl, rfl⟩
        · skip
          refine fx_qe (c := ((X.1 117 26)).toInt = 0) (fx_f_eq q21) ?_
          show fx_W _ _ _ 68 lv [] _ _
          refine fx_i2 aj_d204 rfl (Nat.le_succ _) (fun _ => rfl) hlv_0 ?_
          refine fx_n (pc' := 70) (lv' := lv) (st' := [.int (Int32.ofInt 0), .ref 117]) aj_d204 rfl (Nat.le_succ _) (fun _ => rfl) ?_
          refine fx_cv aj_d204 rfl (Nat.le_succ _) rfl [_] rfl rfl (gx_212_ok (Int32.ofInt 0)) ?_
          rintro _ X23 ⟨w24, rfl, hR23⟩ hok23 hle23
          refine fx_qc hR23 ?_
          show fx_W _ _ _ 73 lv [.int w24] _ _
          refine fx_b0 (tgt := 83) aj_d204 rfl (Nat.le_succ _) rfl (fun q25 => ?_) (fun q25 => ?_)
          · skip
            refine fx_qi (c := (w24).toInt = 0) (fx_t_eq q25) ?_
            show fx_W _ _ _ 83 lv [] _ _
            refine fx_i2 aj_d204 rfl (Nat.le_succ _) (fun _ => rfl) hlv_0 ?_
            refine fx_n (pc' := 85) (lv' := lv) (st' := [.int (Int32.ofInt 1), .ref 117]) aj_d204 rfl (Nat.le_succ _) (fun _ => rfl) ?_
            refine fx_cv aj_d204 rfl (Nat.le_succ _) rfl [_] rfl rfl (gx_212_ok (Int32.ofInt 1)) ?_
            rintro _ X26 ⟨w27, rfl, hR26⟩ hok26 hle26
            refine fx_qc hR26 ?_
            show fx_W _ _ _ 88 lv [.int w27] _ _
            refine fx_b0 (tgt := 98) aj_d204 rfl (Nat.le_succ _) rfl (fun q28 => ?_) (fun q28 => ?_)
            · skip
              refine fx_qi (c := (w27).toInt = 0) (fx_t_eq q28) ?_
              show fx_W _ _ _ 98 lv [] _ _
              refine fx_i2 aj_d204 rfl (Nat.le_succ _) (fun _ => rfl) hlv_0 ?_
              refine fx_n (pc' := 100) (lv' := lv) (st' := [.int (Int32.ofInt 2), .ref 117]) aj_d204 rfl (Nat.le_succ _) (fun _ => rfl) ?_
              refine fx_cv aj_d204 rfl (Nat.le_succ _) rfl [_] rfl rfl (gx_212_ok (Int32.ofInt 2)) ?_
              rintro _ X29 ⟨w30, rfl, hR29⟩ hok29 hle29
              refine fx_qc hR29 ?_
              show fx_W _ _ _ 103 lv [.int w30] _ _
              refine fx_b0 (tgt := 113) aj_d204 rfl (Nat.le_succ _) rfl (fun q31 => ?_) (fun q31 => ?_)
              · skip
                refine fx_qi (c := (w30).toInt = 0) (fx_t_eq q31) ?_
                show fx_W _ _ _ 113 lv [] _ _
                refine fx_i2 aj_d204 rfl (Nat.le_succ _) (fun _ => rfl) hlv_0 ?_
                refine fx_n (pc' := 115) (lv' := lv) (st' := [.int (Int32.ofInt 4), .ref 117]) aj_d204 rfl (Nat.le_succ _) (fun _ => rfl) ?_
                refine fx_cv aj_d204 rfl (Nat.le_succ _) rfl [_] rfl rfl (gx_212_ok (Int32.ofInt 4)) ?_
                rintro _ X32 ⟨w33, rfl, hR32⟩ hok32 hle32
                refine fx_qc hR32 ?_
                show fx_W _ _ _ 118 lv [.int w33] _ _
                refine fx_b0 (tgt := 128) aj_d204 rfl (Nat.le_succ _) rfl (fun q34 => ?_) (fun q34 => ?_)
                · skip
                  refine fx_qi (c := (w33).toInt = 0) (fx_t_eq q34) ?_
                  show fx_W _ _ _ 128 lv [] _ _
                  refine fx_i2 aj_d204 rfl (Nat.le_succ _) (fun _ => rfl) hlv_0 ?_
                  refine fx_n (pc' := 130) (lv' := lv) (st' := [.int (Int32.ofInt 5), .ref 117]) aj_d204 rfl (Nat.le_succ _) (fun _ => rfl) ?_
                  refine fx_cv aj_d204 rfl (Nat.le_succ _) rfl [_] rfl rfl (gx_212_ok (Int32.ofInt 5)) ?_
                  rintro _ X35 ⟨w36, rfl, hR35⟩ hok35 hle35
                  refine fx_qc hR35 ?_
                  show fx_W _ _ _ 133 lv [.int w36] _ _
                  refine fx_b0 (tgt := 143) aj_d204 rfl (Nat.le_succ _) rfl (fun q37 => ?_) (fun q37 => ?_)
                  · skip
                    refine fx_qi (c := (w36).toInt = 0) (fx_t_eq q37) ?_
                    show fx_W _ _ _ 143 lv [] _ _
                    refine fx_i2 aj_d204 rfl (Nat.le_succ _) (fun _ => rfl) hlv_0 ?_
                    refine fx_n (pc' := 145) (lv' := lv) (st' := [.int (Int32.ofInt 1), .ref 117]) aj_d204 rfl (Nat.le_succ _) (fun _ => rfl) ?_
                    refine fx_i2 aj_d204 rfl (Nat.le_succ _) (fun _ => rfl) hlv_0 ?_
                    refine fx_gI aj_d204 rfl (Nat.le_succ _) rfl rfl (Or.inl rfl) ?_
                    refine fx_cv aj_d204 rfl (Nat.le_succ _) rfl [_, _] rfl rfl (gx_215_ok (Int32.ofInt 1) (X35.1 117 27)) ?_
                    rintro _ X38 ⟨w39, rfl, hR38⟩ hok38 hle38
                    refine fx_qc hR38 ?_
                    show fx_W _ _ _ 152 lv [.int w39] _ _
                    refine fx_s0 (j := 1) aj_d204 rfl (Nat.le_succ _) (by decide) (fun _ => rfl) ?_
                    obtain ⟨lv40, elv40⟩ : ∃ l, l = aj_set1 lv 1 (.int w39) := ⟨_, rfl⟩
                    rw [← elv40]
                    have hlv40_0 : aj_lv lv40 0 = some (.ref 117) := fx_e1 elv40 hlv_0 (by decide) (Or.inr rfl)
                    have hlv40_1 : aj_lv lv40 1 = some (.int w39) := by rw [elv40]; exact ak_set1_eq _ _ _
                    show fx_W _ _ _ 153 lv40 [] _ _
                    refine fx_i0 aj_d204 rfl (Nat.le_succ _) (fun _ => rfl) hlv40_1 ?_
                    refine fx_b0 (tgt := 159) aj_d204 rfl (Nat.le_succ _) rfl (fun q41 => ?_) (fun q41 => ?_)
                    · skip
                      refine fx_qe (c := (w39).toInt = 0) (fx_t_ne q41) ?_
                      show fx_W _ _ _ 159 lv40 [] _ _
                      refine fx_n (pc' := 54) (lv' := lv40) (st' := []) aj_d204 rfl (Nat.le_succ _) (fun _ => rfl) ?_
                      exact (ih) lv40 X38  hlv40_0
                    · skip
                      refine fx_qi (c := (w39).toInt = 0) (fx_f_ne q41) ?_
                      show fx_W _ _ _ 157 lv40 [] _ _
                      refine fx_n (pc' := 158) (lv' := lv40) (st' := [.int (Int32.ofInt 0)]) aj_d204 rfl (Nat.le_succ _) (fun _ => rfl) ?_
                      exact fx_ri aj_d204 rfl ⟨_, rfl, 0, rfl, rfl⟩
                  · skip
                    refine fx_qe (c := (w36).toInt = 0) (fx_f_eq q37) ?_
                    show fx_W _ _ _ 136 lv [] _ _
                    refine fx_i2 aj_d204 rfl (Nat.le_succ _) (fun _ => rfl) hlv_0 ?_
                    refine fx_cv aj_d204 rfl (Nat.le_succ _) rfl [] rfl rfl (gx_248_ok) ?_
                    rintro _ X42 ⟨w43, rfl, hR42⟩ hok42 hle42
                    refine fx_qc hR42 ?_
                    show fx_W _ _ _ 140 lv [.int w43] _ _
                    refine fx_n (pc' := 152) (lv' := lv) (st' := [.int w43]) aj_d204 rfl (Nat.le_succ _) (fun _ => rfl) ?_
                    refine fx_s0 (j := 1) aj_d204 rfl (Nat.le_succ _) (by decide) (fun _ => rfl) ?_
                    obtain ⟨lv44, elv44⟩ : ∃ l, l = aj_set1 lv 1 (.int w43) := ⟨_, rfl⟩
                    rw [← elv44]
                    have hlv44_0 : aj_lv lv44 0 = some (.ref 117) := fx_e1 elv44 hlv_0 (by decide) (Or.inr rfl)
                    have hlv44_1 : aj_lv lv44 1 = some (.int w43) := by rw [elv44]; exact ak_set1_eq _ _ _
                    show fx_W _ _ _ 153 lv44 [] _ _
                    refine fx_i0 aj_d204 rfl (Nat.le_succ _) (fun _ => rfl) hlv44_1 ?_
                    refine fx_b0 (tgt := 159) aj_d204 rfl (Nat.le_succ _) rfl (fun q45 => ?_) (fun q45 => ?_)
                    · skip
                      refine fx_qe (c := (w43).toInt = 0) (fx_t_ne q45) ?_
                      show fx_W _ _ _ 159 lv44 [] _ _
                      refine fx_n (pc' := 54) (lv' := lv44) (st' := []) aj_d204 rfl (Nat.le_succ _) (fun _ => rfl) ?_
                      exact (ih) lv44 X42  hlv44_0
                    · skip
                      refine fx_qi (c := (w43).toInt = 0) (fx_f_ne q45) ?_
                      show fx_W _ _ _ 157 lv44 [] _ _
                      refine fx_n (pc' := 158) (lv' := lv44) (st' := [.int (Int32.ofInt 0)]) aj_d204 rfl (Nat.le_succ _) (fun _ => rfl) ?_
                      exact fx_ri aj_d204 rfl ⟨_, rfl, 0, rfl, rfl⟩
                · skip
                  refine fx_qe (c := (w33).toInt = 0) (fx_f_eq q34) ?_
                  show fx_W _ _ _ 121 lv [] _ _
                  refine fx_i2 aj_d204 rfl (Nat.le_succ _) (fun _ => rfl) hlv_0 ?_
                  refine fx_cv aj_d204 rfl (Nat.le_succ _) rfl [] rfl rfl (gx_246_ok) ?_
                  rintro _ X46 ⟨w47, rfl, hR46⟩ hok46 hle46
                  refine fx_qc hR46 ?_
                  show fx_W _ _ _ 125 lv [.int w47] _ _
                  refine fx_n (pc' := 152) (lv' := lv) (st' := [.int w47]) aj_d204 rfl (Nat.le_succ _) (fun _ => rfl) ?_
                  refine fx_s0 (j := 1) aj_d204 rfl (Nat.le_succ _) (by decide) (fun _ => rfl) ?_
                  obtain ⟨lv48, elv48⟩ : ∃ l, l = aj_set1 lv 1 (.int w47) := ⟨_, rfl⟩
                  rw [← elv48]
                  have hlv48_0 : aj_lv lv48 0 = some (.ref 117) := fx_e1 elv48 hlv_0 (by decide) (Or.inr rfl)
                  have hlv48_1 : aj_lv lv48 1 = some (.int w47) := by rw [elv48]; exact ak_set1_eq _ _ _
                  show fx_W _ _ _ 153 lv48 [] _ _
                  refine fx_i0 aj_d204 rfl (Nat.le_succ _) (fun _ => rfl) hlv48_1 ?_
                  refine fx_b0 (tgt := 159) aj_d204 rfl (Nat.le_succ _) rfl (fun q49 => ?_) (fun q49 => ?_)
                  · skip
                    refine fx_qe (c := (w47).toInt = 0) (fx_t_ne q49) ?_
                    show fx_W _ _ _ 159 lv48 [] _ _
                    refine fx_n (pc' := 54) (lv' := lv48) (st' := []) aj_d204 rfl (Nat.le_succ _) (fun _ => rfl) ?_
                    exact (ih) lv48 X46  hlv48_0
                  · skip
                    refine fx_qi (c := (w47).toInt = 0) (fx_f_ne q49) ?_
                    show fx_W _ _ _ 157 lv48 [] _ _
                    refine fx_n (pc' := 158) (lv' := lv48) (st' := [.int (Int32.ofInt 0)]) aj_d204 rfl (Nat.le_succ _) (fun _ => rfl) ?_
                    exact fx_ri aj_d204 rfl ⟨_, rfl, 0, rfl, rfl⟩
              · skip
                refine fx_qe (c := (w30).toInt = 0) (fx_f_eq q31) ?_
                show fx_W _ _ _ 106 lv [] _ _
                refine fx_i2 aj_d204 rfl (Nat.le_succ _) (fun _ => rfl) hlv_0 ?_
                refine fx_cv aj_d204 rfl (Nat.le_succ _) rfl [] rfl rfl (gx_234_ok) ?_
                rintro _ X50 ⟨w51, rfl, hR50⟩ hok50 hle50
                refine fx_qc hR50 ?_
                show fx_W _ _ _ 110 lv [.int w51] _ _
                refine fx_n (pc' := 152) (lv' := lv) (st' := [.int w51]) aj_d204 rfl (Nat.le_succ _) (fun _ => rfl) ?_
                refine fx_s0 (j := 1) aj_d204 rfl (Nat.le_succ _) (by decide) (fun _ => rfl) ?_
                obtain ⟨lv52, elv52⟩ : ∃ l, l = aj_set1 lv 1 (.int w51) := ⟨_, rfl⟩
                rw [← elv52]
                have hlv52_0 : aj_lv lv52 0 = some (.ref 117) := fx_e1 elv52 hlv_0 (by decide) (Or.inr rfl)
                have hlv52_1 : aj_lv lv52 1 = some (.int w51) := by rw [elv52]; exact ak_set1_eq _ _ _
                show fx_W _ _ _ 153 lv52 [] _ _
                refine fx_i0 aj_d204 rfl (Nat.le_succ _) (fun _ => rfl) hlv52_1 ?_
                refine fx_b0 (tgt := 159) aj_d204 rfl (Nat.le_succ _) rfl (fun q53 => ?_) (fun q53 => ?_)
                · skip
                  refine fx_qe (c := (w51).toInt = 0) (fx_t_ne q53) ?_
                  show fx_W _ _ _ 159 lv52 [] _ _
                  refine fx_n (pc' := 54) (lv' := lv52) (st' := []) aj_d204 rfl (Nat.le_succ _) (fun _ => rfl) ?_
                  exact (ih) lv52 X50  hlv52_0
                · skip
                  refine fx_qi (c := (w51).toInt = 0) (fx_f_ne q53) ?_
                  show fx_W _ _ _ 157 lv52 [] _ _
                  refine fx_n (pc' := 158) (lv' := lv52) (st' := [.int (Int32.ofInt 0)]) aj_d204 rfl (Nat.le_succ _) (fun _ => rfl) ?_
                  exact fx_ri aj_d204 rfl ⟨_, rfl, 0, rfl, rfl⟩
            · skip
              refine fx_qe (c := (w27).toInt = 0) (fx_f_eq q28) ?_
              show fx_W _ _ _ 91 lv [] _ _
              refine fx_i2 aj_d204 rfl (Nat.le_succ _) (fun _ => rfl) hlv_0 ?_
              refine fx_cv aj_d204 rfl (Nat.le_succ _) rfl [] rfl rfl (gx_229_ok) ?_
              rintro _ X54 ⟨w55, rfl, hR54⟩ hok54 hle54
              refine fx_qc hR54 ?_
              show fx_W _ _ _ 95 lv [.int w55] _ _
              refine fx_n (pc' := 152) (lv' := lv) (st' := [.int w55]) aj_d204 rfl (Nat.le_succ _) (fun _ => rfl) ?_
              refine fx_s0 (j := 1) aj_d204 rfl (Nat.le_succ _) (by decide) (fun _ => rfl) ?_
              obtain ⟨lv56, elv56⟩ : ∃ l, l = aj_set1 lv 1 (.int w55) := ⟨_, rfl⟩
              rw [← elv56]
              have hlv56_0 : aj_lv lv56 0 = some (.ref 117) := fx_e1 elv56 hlv_0 (by decide) (Or.inr rfl)
              have hlv56_1 : aj_lv lv56 1 = some (.int w55) := by rw [elv56]; exact ak_set1_eq _ _ _
              show fx_W _ _ _ 153 lv56 [] _ _
              refine fx_i0 aj_d204 rfl (Nat.le_succ _) (fun _ => rfl) hlv56_1 ?_
              refine fx_b0 (tgt := 159) aj_d204 rfl (Nat.le_succ _) rfl (fun q57 => ?_) (fun q57 => ?_)
              · skip
                refine fx_qe (c := (w55).toInt = 0) (fx_t_ne q57) ?_
                show fx_W _ _ _ 159 lv56 [] _ _
                refine fx_n (pc' := 54) (lv' := lv56) (st' := []) aj_d204 rfl (Nat.le_succ _) (fun _ => rfl) ?_
                exact (ih) lv56 X54  hlv56_0
              · skip
                refine fx_qi (c := (w55).toInt = 0) (fx_f_ne q57) ?_
                show fx_W _ _ _ 157 lv56 [] _ _
                refine fx_n (pc' := 158) (lv' := lv56) (st' := [.int (Int32.ofInt 0)]) aj_d204 rfl (Nat.le_succ _) (fun _ => rfl) ?_
                exact fx_ri aj_d204 rfl ⟨_, rfl, 0, rfl, rfl⟩
          · skip
            refine fx_qe (c := (w24).toInt = 0) (fx_f_eq q25) ?_
            show fx_W _ _ _ 76 lv [] _ _
            refine fx_i2 aj_d204 rfl (Nat.le_succ _) (fun _ => rfl) hlv_0 ?_
            refine fx_cv aj_d204 rfl (Nat.le_succ _) rfl [] rfl rfl (gx_213_ok) ?_
            rintro _ X58 ⟨w59, rfl, hR58⟩ hok58 hle58
            refine fx_qc hR58 ?_
            show fx_W _ _ _ 80 lv [.int w59] _ _
            refine fx_n (pc' := 152) (lv' := lv) (st' := [.int w59]) aj_d204 rfl (Nat.le_succ _) (fun _ => rfl) ?_
            refine fx_s0 (j := 1) aj_d204 rfl (Nat.le_succ _) (by decide) (fun _ => rfl) ?_
            obtain ⟨lv60, elv60⟩ : ∃ l, l = aj_set1 lv 1 (.int w59) := ⟨_, rfl⟩
            rw [← elv60]
            have hlv60_0 : aj_lv lv60 0 = some (.ref 117) := fx_e1 elv60 hlv_0 (by decide) (Or.inr rfl)
            have hlv60_1 : aj_lv lv60 1 = some (.int w59) := by rw [elv60]; exact ak_set1_eq _ _ _
            show fx_W _ _ _ 153 lv60 [] _ _
            refine fx_i0 aj_d204 rfl (Nat.le_succ _) (fun _ => rfl) hlv60_1 ?_
            refine fx_b0 (tgt := 159) aj_d204 rfl (Nat.le_succ _) rfl (fun q61 => ?_) (fun q61 => ?_)
            · skip
              refine fx_qe (c := (w59).toInt = 0) (fx_t_ne q61) ?_
              show fx_W _ _ _ 159 lv60 [] _ _
              refine fx_n (pc' := 54) (lv' := lv60) (st' := []) aj_d204 rfl (Nat.le_succ _) (fun _ => rfl) ?_
              exact (ih) lv60 X58  hlv60_0
            · skip
              refine fx_qi (c := (w59).toInt = 0) (fx_f_ne q61) ?_
              show fx_W _ _ _ 157 lv60 [] _ _
              refine fx_n (pc' := 158) (lv' := lv60) (st' := [.int (Int32.ofInt 0)]) aj_d204 rfl (Nat.le_succ _) (fun _ => rfl) ?_
              exact fx_ri aj_d204 rfl ⟨_, rfl, 0, rfl, rfl⟩
theorem gx_204_ok {tb : aj_T} {X : fx_X} : fx_K tb 204 [.ref 117] X (fx_Q fx_qI (fun v X' => gx_204 X v X')) := by
  refine fx_m aj_m204_at rfl (fun N => ?_)
  refine fx_mono (Q := fx_Q fx_qI (fun v X' => ∃ n : Nat, gxE_204 (gxF_204 n) X v X')) (fun r X' h => h) ?_
  unfold gxE_204
  show fx_W _ _ _ 0 [(0, .ref 117)] [] _ _
  obtain ⟨lv1, elv1⟩ : ∃ l : aj_V, l = [(0, .ref 117)] := ⟨_, rfl⟩
  rw [← elv1]
  have hlv1_0 : aj_lv lv1 0 = some (.ref 117) := by rw [elv1]; rfl
  refine fx_i2 aj_d204 rfl (Nat.le_succ _) (fun _ => rfl) hlv1_0 ?_
  refine fx_gF aj_d204 rfl (Nat.le_succ _) rfl rfl fx_in_11_1 (t := 118) rfl (fun hA2 => ?_)
  refine fx_i2 aj_d204 rfl (Nat.le_succ _) (fun _ => rfl) hlv1_0 ?_
  refine fx_gI aj_d204 rfl (Nat.le_succ _) rfl rfl (Or.inl rfl) ?_
  refine fx_n (pc' := 9) (lv' := lv1) (st' := [.int (Int32.ofInt 0), .int (X.1 117 37), .ref 118]) aj_d204 rfl (Nat.le_succ _) (fun _ => rfl) ?_
  refine fx_st aj_d204 (Or.inl ⟨rfl, rfl⟩) rfl (Nat.le_succ _) (fun g30 g31 => ?_)
  show fx_W _ _ _ _ _ _ (fx_wI X 118 ((X.1 117 37)).toInt.toNat (Int32.ofInt 0)) _
  refine fx_qa (c := 0 ≤ ((X.1 117 37)).toInt ∧ ((X.1 117 37)).toInt < ((2 : Nat) : Int)) ⟨g30, fx_lnk g31 hA2⟩ ?_
  refine fx_qX (fun X4 eX4 => ?_)
  show fx_W _ _ _ 10 lv1 [] _ _
  refine fx_i2 aj_d204 rfl (Nat.le_succ _) (fun _ => rfl) hlv1_0 ?_
  refine fx_gF aj_d204 rfl (Nat.le_succ _) rfl rfl fx_in_11_7 (t := 124) rfl (fun hA5 => ?_)
  refine fx_i2 aj_d204 rfl (Nat.le_succ _) (fun _ => rfl) hlv1_0 ?_
  refine fx_gI aj_d204 rfl (Nat.le_succ _) rfl rfl (Or.inl rfl) ?_
  refine fx_n (pc' := 19) (lv' := lv1) (st' := [.int (Int32.ofInt 0), .int (X4.1 117 37), .ref 124]) aj_d204 rfl (Nat.le_succ _) (fun _ => rfl) ?_
  refine fx_st aj_d204 (Or.inl ⟨rfl, rfl⟩) rfl (Nat.le_succ _) (fun g60 g61 => ?_)
  show fx_W _ _ _ _ _ _ (fx_wI X4 124 ((X4.1 117 37)).toInt.toNat (Int32.ofInt 0)) _
  refine fx_qa (c := 0 ≤ ((X4.1 117 37)).toInt ∧ ((X4.1 117 37)).toInt < ((2 : Nat) : Int)) ⟨g60, fx_lnk g61 hA5⟩ ?_
  refine fx_qX (fun X7 eX7 => ?_)
  show fx_W _ _ _ 20 lv1 [] _ _
  refine fx_i2 aj_d204 rfl (Nat.le_succ _) (fun _ => rfl) hlv1_0 ?_
  refine fx_gF aj_d204 rfl (Nat.le_succ _) rfl rfl fx_in_11_10 (t := 127) rfl (fun hA8 => ?_)
  refine fx_i2 aj_d204 rfl (Nat.le_succ _) (fun _ => rfl) hlv1_0 ?_
  refine fx_gI aj_d204 rfl (Nat.le_succ _) rfl rfl (Or.inl rfl) ?_
  refine fx_n (pc' := 29) (lv' := lv1) (st' := [.int (Int32.ofInt 0), .int (X7.1 117 37), .ref 127]) aj_d204 rfl (Nat.le_succ _) (fun _ => rfl) ?_
  refine fx_st aj_d204 (Or.inl ⟨rfl, rfl⟩) rfl (Nat.le_succ _) (fun g90 g91 => ?_)
  show fx_W _ _ _ _ _ _ (fx_wI X7 127 ((X7.1 117 37)).toInt.toNat (Int32.ofInt 0)) _
  refine fx_qa (c := 0 ≤ ((X7.1 117 37)).toInt ∧ ((X7.1 117 37)).toInt < ((2 : Nat) : Int)) ⟨g90, fx_lnk g91 hA8⟩ ?_
  refine fx_qX (fun X10 eX10 => ?_)
  show fx_W _ _ _ 30 lv1 [] _ _
  refine fx_i2 aj_d204 rfl (Nat.le_succ _) (fun _ => rfl) hlv1_0 ?_
  refine fx_gF aj_d204 rfl (Nat.le_succ _) rfl rfl fx_in_11_11 (t := 128) rfl (fun hA11 => ?_)
  refine fx_i2 aj_d204 rfl (Nat.le_succ _) (fun _ => rfl) hlv1_0 ?_
  refine fx_gI aj_d204 rfl (Nat.le_succ _) rfl rfl (Or.inl rfl) ?_
  refine fx_n (pc' := 39) (lv' := lv1) (st' := [.int (Int32.ofInt 0), .int (X10.1 117 37), .ref 128]) aj_d204 rfl (Nat.le_succ _) (fun _ => rfl) ?_
  refine fx_st aj_d204 (Or.inl ⟨rfl, rfl⟩) rfl (Nat.le_succ _) (fun g120 g121 => ?_)
  show fx_W _ _ _ _ _ _ (fx_wI X10 128 ((X10.1 117 37)).toInt.toNat (Int32.ofInt 0)) _
  refine fx_qa (c := 0 ≤ ((X10.1 117 37)).toInt ∧ ((X10.1 117 37)).toInt < ((2 : Nat) : Int)) ⟨g120, fx_lnk g121 hA11⟩ ?_
  refine fx_qX (fun X13 eX13 => ?_)
  show fx_W _ _ _ 40 lv1 [] _ _
  refine fx_i2 aj_d204 rfl (Nat.le_succ _) (fun _ => rfl) hlv1_0 ?_
  refine fx_gF aj_d204 rfl (Nat.le_succ _) rfl rfl fx_in_11_5 (t := 122) rfl (fun hA14 => ?_)
  refine fx_i2 aj_d204 rfl (Nat.le_succ _) (fun _ => rfl) hlv1_0 ?_
  refine fx_gI aj_d204 rfl (Nat.le_succ _) rfl rfl (Or.inl rfl) ?_
  refine fx_n (pc' := 49) (lv' := lv1) (st' := [.int (Int32.ofInt 1), .int (X13.1 117 37), .ref 122]) aj_d204 rfl (Nat.le_succ _) (fun _ => rfl) ?_
  refine fx_st aj_d204 (Or.inl ⟨rfl, rfl⟩) rfl (Nat.le_succ _) (fun g150 g151 => ?_)
  show fx_W _ _ _ _ _ _ (fx_wI X13 122 ((X13.1 117 37)).toInt.toNat (Int32.ofInt 1)) _
  refine fx_qa (c := 0 ≤ ((X13.1 117 37)).toInt ∧ ((X13.1 117 37)).toInt < ((2 : Nat) : Int)) ⟨g150, fx_lnk g151 hA14⟩ ?_
  refine fx_qX (fun X16 eX16 => ?_)
  show fx_W _ _ _ 50 lv1 [] _ _
  refine fx_i2 aj_d204 rfl (Nat.le_succ _) (fun _ => rfl) hlv1_0 ?_
  refine fx_cv aj_d204 rfl (Nat.le_succ _) rfl [] rfl rfl (gx_205_ok) ?_
  rintro _ X17 ⟨w18, rfl, hR17⟩ hok17 hle17
  refine fx_qc hR17 ?_
  show fx_W _ _ _ 54 lv1 [] _ _
  exact ((gxL_204 N)) lv1 X17  hlv1_0
def gx_203 (X : fx_X) (v : Int32) (X' : fx_X) : Prop :=
  ∃ X2 : fx_X, X2 = (fx_wI X 117 24 (Int32.ofInt 0)) ∧ ∃ X3 : fx_X, X3 = (fx_wI X2 117 25 (Int32.ofInt (-1))) ∧ ∃ X4 : fx_X, X4 = (fx_wI X3 117 37 ((Int32.ofInt 1) - (X3.1 117 0))) ∧ ∃ X5 : fx_X, X5 = (fx_wI X4 117 32 (Int32.ofInt 0)) ∧ ∃ (w7 : Int32) (X6 : fx_X), gx_204 X5 w7 X6 ∧ (if (w7).toInt = 0 then (∃ X11 : fx_X, X11 = (fx_wI X6 117 23 (Int32.ofInt 0)) ∧ v = (X11.1 117 24) ∧ X' = X11) else ((if ((X6.1 117 24)).toInt = 0 then (∃ X20 : fx_X, X20 = (fx_wI X6 117 32 (Int32.ofInt 1)) ∧ ∃ (w22 : Int32) (X21 : fx_X), gx_204 X20 w22 X21 ∧ ∃ X24 : fx_X, X24 = (fx_wI X21 117 23 (Int32.ofInt 0)) ∧ (if (w22).toInt = 0 then (v = (X24.1 117 24) ∧ X' = X24) else (∃ X26 : fx_X, X26 = (fx_wI X24 117 0 (X24.1 117 37)) ∧ ∃ X27 : fx_X, X27 = (fx_wI X26 117 13 (Int32.ofInt 0)) ∧ ∃ X28 : fx_X, X28 = (fx_wL X27 117 68 ((X27.2.1 117 68) + (Int64.ofNat 1))) ∧ v = (Int32.ofInt 0) ∧ X' = X28))) else (∃ X16 : fx_X, X16 = (fx_wI X6 117 23 (Int32.ofInt 0)) ∧ v = (X16.1 117 24) ∧ X' = X16))))
theorem gx_203_ok {tb : aj_T} {X : fx_X} : fx_K tb 203 [.ref 117] X (fx_Q fx_qI (fun v X' => gx_203 X v X')) := by
  refine fx_m aj_m203_at rfl (fun N => ?_)
  refine fx_mono (Q := fx_Q fx_qI (fun v X' => ∃ n : Nat, gx_203 X v X')) (fun r X' ⟨v, e, _, z⟩ => ⟨v, e, z⟩) ?_
  unfold gx_203
  show fx_W _ _ _ 0 [(0, .ref 117)] [] _ _
  obtain ⟨lv1, elv1⟩ : ∃ l : aj_V, l = [(0, .ref 117)] := ⟨_, rfl⟩
  rw [← elv1]
  have hlv1_0 : aj_lv lv1 0 = some (.ref 117) := by rw [elv1]; rfl
  refine fx_i2 aj_d203 rfl (Nat.le_succ _) (fun _ => rfl) hlv1_0 ?_
  refine fx_n (pc' := 2) (lv' := lv1) (st' := [.int (Int32.ofInt 0), .ref 117]) aj_d203 rfl (Nat.le_succ _) (fun _ => rfl) ?_
  refine fx_pI aj_d203 rfl (Nat.le_succ _) rfl rfl (Or.inl rfl) fx_no_11_24 (by decide) ?_
  refine fx_qX (fun X2 eX2 => ?_)
  show fx_W _ _ _ 5 lv1 [] _ _
  refine fx_i2 aj_d203 rfl (Nat.le_succ _) (fun _ => rfl) hlv1_0 ?_
  refine fx_n (pc' := 7) (lv' := lv1) (st' := [.int (Int32.ofInt (-1)), .ref 117]) aj_d203 rfl (Nat.le_succ _) (fun _ => rfl) ?_
  refine fx_pI aj_d203 rfl (Nat.le_succ _) rfl rfl (Or.inl rfl) fx_no_11_25 (by decide) ?_
  refine fx_qX (fun X3 eX3 => ?_)
  show fx_W _ _ _ 10 lv1 [] _ _
  refine fx_i2 aj_d203 rfl (Nat.le_succ _) (fun _ => rfl) hlv1_0 ?_
  refine fx_n (pc' := 12) (lv' := lv1) (st' := [.int (Int32.ofInt 1), .ref 117]) aj_d203 rfl (Nat.le_succ _) (fun _ => rfl) ?_
  refine fx_i2 aj_d203 rfl (Nat.le_succ _) (fun _ => rfl) hlv1_0 ?_
  refine fx_gI aj_d203 rfl (Nat.le_succ _) rfl rfl (Or.inl rfl) ?_
  refine fx_n (pc' := 17) (lv' := lv1) (st' := [.int ((Int32.ofInt 1) - (X3.1 117 0)), .ref 117]) aj_d203 rfl (Nat.le_succ _) (fun _ => rfl) ?_
  refine fx_pI aj_d203 rfl (Nat.le_succ _) rfl rfl (Or.inl rfl) fx_no_11_37 (by decide) ?_
  refine fx_qX (fun X4 eX4 => ?_)
  show fx_W _ _ _ 20 lv1 [] _ _
  refine fx_i2 aj_d203 rfl (Nat.le_succ _) (fun _ => rfl) hlv1_0 ?_
  refine fx_n (pc' := 22) (lv' := lv1) (st' := [.int (Int32.ofInt 0), .ref 117]) aj_d203 rfl (Nat.le_succ _) (fun _ => rfl) ?_
  refine fx_pI aj_d203 rfl (Nat.le_succ _) rfl rfl (Or.inr (Or.inl rfl)) fx_no_11_32 (by decide) ?_
  refine fx_qX (fun X5 eX5 => ?_)
  show fx_W _ _ _ 25 lv1 [] _ _
  refine fx_i2 aj_d203 rfl (Nat.le_succ _) (fun _ => rfl) hlv1_0 ?_
  refine fx_cv aj_d203 rfl (Nat.le_succ _) rfl [] rfl rfl (gx_204_ok) ?_
  rintro _ X6 ⟨w7, rfl, hR6⟩ hok6 hle6
  refine fx_qc hR6 ?_
  show fx_W _ _ _ 29 lv1 [.int w7] _ _
  refine fx_b0 (tgt := 43) aj_d203 rfl (Nat.le_succ _) rfl (fun q8 => ?_) (fun q8 => ?_)
  · skip
    refine fx_qi (c := (w7).toInt = 0) (fx_t_eq q8) ?_
    show fx_W _ _ _ 43 lv1 [] _ _
    refine fx_n (pc' := 44) (lv' := lv1) (st' := [.int (Int32.ofInt 0)]) aj_d203 rfl (Nat.le_succ _) (fun _ => rfl) ?_
    refine fx_s0 (j := 1) aj_d203 rfl (Nat.le_succ _) (by decide) (fun _ => rfl) ?_
    obtain ⟨lv9, elv9⟩ : ∃ l, l = aj_set1 lv1 1 (.int (Int32.ofInt 0)) := ⟨_, rfl⟩
    rw [← elv9]
    have hlv9_0 : aj_lv lv9 0 = some (.ref 117) := fx_e1 elv9 hlv1_0 (by decide) (Or.inr rfl)
    have hlv9_1 : aj_lv lv9 1 = some (.int (Int32.ofInt 0)) := by rw [elv9]; exact ak_set1_eq _ _ _
    show fx_W _ _ _ 45 lv9 [] _ _
    refine fx_i0 aj_d203 rfl (Nat.le_succ _) (fun _ => rfl) hlv9_1 ?_
    refine fx_b0 (tgt := 59) aj_d203 rfl (Nat.le_succ _) rfl (fun q10 => ?_) (fun q10 => ?_)
    · skip
      show fx_W _ _ _ 59 lv9 [] _ _
      refine fx_i2 aj_d203 rfl (Nat.le_succ _) (fun _ => rfl) hlv9_0 ?_
      refine fx_n (pc' := 61) (lv' := lv9) (st' := [.int (Int32.ofInt 0), .ref 117]) aj_d203 rfl (Nat.le_succ _) (fun _ => rfl) ?_
      refine fx_pI aj_d203 rfl (Nat.le_succ _) rfl rfl (Or.inl rfl) fx_no_11_23 (by decide) ?_
      refine fx_qX (fun X11 eX11 => ?_)
      show fx_W _ _ _ 64 lv9 [] _ _
      refine fx_i0 aj_d203 rfl (Nat.le_succ _) (fun _ => rfl) hlv9_1 ?_
      refine fx_b0 (tgt := 73) aj_d203 rfl (Nat.le_succ _) rfl (fun q12 => ?_) (fun q12 => ?_)
      · exact absurd q12 (by decide)
      · skip
        show fx_W _ _ _ 68 lv9 [] _ _
        refine fx_i2 aj_d203 rfl (Nat.le_succ _) (fun _ => rfl) hlv9_0 ?_
        refine fx_gI aj_d203 rfl (Nat.le_succ _) rfl rfl (Or.inl rfl) ?_
        exact fx_ri aj_d203 rfl ⟨_, rfl, 0, rfl, rfl⟩
    · exact absurd q10 (by decide)
  · skip
    refine fx_qe (c := (w7).toInt = 0) (fx_f_eq q8) ?_
    show fx_W _ _ _ 32 lv1 [] _ _
    refine fx_i2 aj_d203 rfl (Nat.le_succ _) (fun _ => rfl) hlv1_0 ?_
    refine fx_gI aj_d203 rfl (Nat.le_succ _) rfl rfl (Or.inl rfl) ?_
    refine fx_b0 (tgt := 43) aj_d203 rfl (Nat.le_succ _) rfl (fun q13 => ?_) (fun q13 => ?_)
    · skip
      refine fx_qe (c := ((X6.1 117 24)).toInt = 0) (fx_t_ne q13) ?_
      show fx_W _ _ _ 43 lv1 [] _ _
      refine fx_n (pc' := 44) (lv' := lv1) (st' := [.int (Int32.ofInt 0)]) aj_d203 rfl (Nat.le_succ _) (fun _ => rfl) ?_
      refine fx_s0 (j := 1) aj_d203 rfl (Nat.le_succ _) (by decide) (fun _ => rfl) ?_
      obtain ⟨lv14, elv14⟩ : ∃ l, l = aj_set1 lv1 1 (.int (Int32.ofInt 0)) := ⟨_, rfl⟩
      rw [← elv14]
      have hlv14_0 : aj_lv lv14 0 = some (.ref 117) := fx_e1 elv14 hlv1_0 (by decide) (Or.inr rfl)
      have hlv14_1 : aj_lv lv14 1 = some (.int (Int32.ofInt 0)) := by rw [elv14]; exact ak_set1_eq _ _ _
      show fx_W _ _ _ 45 lv14 [] _ _
      refine fx_i0 aj_d203 rfl (Nat.le_succ _) (fun _ => rfl) hlv14_1 ?_
      refine fx_b0 (tgt := 59) aj_d203 rfl (Nat.le_succ _) rfl (fun q15 => ?_) (fun q15 => ?_)
      · skip
        show fx_W _ _ _ 59 lv14 [] _ _
        refine fx_i2 aj_d203 rfl (Nat.le_succ _) (fun _ => rfl) hlv14_0 ?_
        refine fx_n (pc' := 61) (lv' := lv14) (st' := [.int (Int32.ofInt 0), .ref 117]) aj_d203 rfl (Nat.le_succ _) (fun _ => rfl) ?_
        refine fx_pI aj_d203 rfl (Nat.le_succ _) rfl rfl (Or.inl rfl) fx_no_11_23 (by decide) ?_
        refine fx_qX (fun X16 eX16 => ?_)
        show fx_W _ _ _ 64 lv14 [] _ _
        refine fx_i0 aj_d203 rfl (Nat.le_succ _) (fun _ => rfl) hlv14_1 ?_
        refine fx_b0 (tgt := 73) aj_d203 rfl (Nat.le_succ _) rfl (fun q17 => ?_) (fun q17 => ?_)
        · exact absurd q17 (by decide)
        · skip
          show fx_W _ _ _ 68 lv14 [] _ _
          refine fx_i2 aj_d203 rfl (Nat.le_succ _) (fun _ => rfl) hlv14_0 ?_
          refine fx_gI aj_d203 rfl (Nat.le_succ _) rfl rfl (Or.inl rfl) ?_
          exact fx_ri aj_d203 rfl ⟨_, rfl, 0, rfl, rfl⟩
      · exact absurd q15 (by decide)
    · skip
      refine fx_qi (c := ((X6.1 117 24)).toInt = 0) (fx_f_ne q13) ?_
      show fx_W _ _ _ 39 lv1 [] _ _
      refine fx_n (pc' := 40) (lv' := lv1) (st' := [.int (Int32.ofInt 1)]) aj_d203 rfl (Nat.le_succ _) (fun _ => rfl) ?_
      refine fx_n (pc' := 44) (lv' := lv1) (st' := [.int (Int32.ofInt 1)]) aj_d203 rfl (Nat.le_succ _) (fun _ => rfl) ?_
      refine fx_s0 (j := 1) aj_d203 rfl (Nat.le_succ _) (by decide) (fun _ => rfl) ?_
      obtain ⟨lv18, elv18⟩ : ∃ l, l = aj_set1 lv1 1 (.int (Int32.ofInt 1)) := ⟨_, rfl⟩
      rw [← elv18]
      have hlv18_0 : aj_lv lv18 0 = some (.ref 117) := fx_e1 elv18 hlv1_0 (by decide) (Or.inr rfl)
      have hlv18_1 : aj_lv lv18 1 = some (.int (Int32.ofInt 1)) := by rw [elv18]; exact ak_set1_eq _ _ _
      show fx_W _ _ _ 45 lv18 [] _ _
      refine fx_i0 aj_d203 rfl (Nat.le_succ _) (fun _ => rfl) hlv18_1 ?_
      refine fx_b0 (tgt := 59) aj_d203 rfl (Nat.le_succ _) rfl (fun q19 => ?_) (fun q19 => ?_)
      · exact absurd q19 (by decide)
      · skip
        show fx_W _ _ _ 49 lv18 [] _ _
        refine fx_i2 aj_d203 rfl (Nat.le_succ _) (fun _ => rfl) hlv18_0 ?_
        refine fx_n (pc' := 51) (lv' := lv18) (st' := [.int (Int32.ofInt 1), .ref 117]) aj_d203 rfl (Nat.le_succ _) (fun _ => rfl) ?_
        refine fx_pI aj_d203 rfl (Nat.le_succ _) rfl rfl (Or.inr (Or.inl rfl)) fx_no_11_32 (by decide) ?_
        refine fx_qX (fun X20 eX20 => ?_)
        show fx_W _ _ _ 54 lv18 [] _ _
        refine fx_i2 aj_d203 rfl (Nat.le_succ _) (fun _ => rfl) hlv18_0 ?_
        refine fx_cv aj_d203 rfl (Nat.le_succ _) rfl [] rfl rfl (gx_204_ok) ?_
        rintro _ X21 ⟨w22, rfl, hR21⟩ hok21 hle21
        refine fx_qc hR21 ?_
        show fx_W _ _ _ 58 lv18 [.int w22] _ _
        refine fx_s0 (j := 1) aj_d203 rfl (Nat.le_succ _) (by decide) (fun _ => rfl) ?_
        obtain ⟨lv23, elv23⟩ : ∃ l, l = aj_set1 lv18 1 (.int w22) := ⟨_, rfl⟩
        rw [← elv23]
        have hlv23_0 : aj_lv lv23 0 = some (.ref 117) := fx_e1 elv23 hlv18_0 (by decide) (Or.inr rfl)
        have hlv23_1 : aj_lv lv23 1 = some (.int w22) := by rw [elv23]; exact ak_set1_eq _ _ _
        show fx_W _ _ _ 59 lv23 [] _ _
        refine fx_i2 aj_d203 rfl (Nat.le_succ _) (fun _ => rfl) hlv23_0 ?_
        refine fx_n (pc' := 61) (lv' := lv23) (st' := [.int (Int32.ofInt 0), .ref 117]) aj_d203 rfl (Nat.le_succ _) (fun _ => rfl) ?_
        refine fx_pI aj_d203 rfl (Nat.le_succ _) rfl rfl (Or.inl rfl) fx_no_11_23 (by decide) ?_
        refine fx_qX (fun X24 eX24 => ?_)
        show fx_W _ _ _ 64 lv23 [] _ _
        refine fx_i0 aj_d203 rfl (Nat.le_succ _) (fun _ => rfl) hlv23_1 ?_
        refine fx_b0 (tgt := 73) aj_d203 rfl (Nat.le_succ _) rfl (fun q25 => ?_) (fun q25 => ?_)
        · skip
          refine fx_qe (c := (w22).toInt = 0) (fx_t_ne q25) ?_
          show fx_W _ _ _ 73 lv23 [] _ _
          refine fx_i2 aj_d203 rfl (Nat.le_succ _) (fun _ => rfl) hlv23_0 ?_
          refine fx_i2 aj_d203 rfl (Nat.le_succ _) (fun _ => rfl) hlv23_0 ?_
          refine fx_gI aj_d203 rfl (Nat.le_succ _) rfl rfl (Or.inl rfl) ?_
          refine fx_pI aj_d203 rfl (Nat.le_succ _) rfl rfl (Or.inl rfl) fx_no_11_0 (by decide) ?_
          refine fx_qX (fun X26 eX26 => ?_)
          show fx_W _ _ _ 81 lv23 [] _ _
          refine fx_i2 aj_d203 rfl (Nat.le_succ _) (fun _ => rfl) hlv23_0 ?_
          refine fx_n (pc' := 83) (lv' := lv23) (st' := [.int (Int32.ofInt 0), .ref 117]) aj_d203 rfl (Nat.le_succ _) (fun _ => rfl) ?_
          refine fx_pI aj_d203 rfl (Nat.le_succ _) rfl rfl (Or.inr (Or.inl rfl)) fx_no_11_13 (by decide) ?_
          refine fx_qX (fun X27 eX27 => ?_)
          show fx_W _ _ _ 86 lv23 [] _ _
          refine fx_i2 aj_d203 rfl (Nat.le_succ _) (fun _ => rfl) hlv23_0 ?_
          refine fx_n (pc' := 88) (lv' := lv23) (st' := [.ref 117, .ref 117]) aj_d203 rfl (Nat.le_succ _) (fun _ => rfl) ?_
          refine fx_gL aj_d203 rfl (Nat.le_succ _) rfl rfl rfl ?_
          refine fx_n (pc' := 92) (lv' := lv23) (st' := [.long (Int64.ofNat 1), .long (X27.2.1 117 68), .ref 117]) aj_d203 rfl (Nat.le_succ _) (fun _ => rfl) ?_
          refine fx_n (pc' := 93) (lv' := lv23) (st' := [.long ((X27.2.1 117 68) + (Int64.ofNat 1)), .ref 117]) aj_d203 rfl (Nat.le_succ _) (fun _ => rfl) ?_
          refine fx_pL aj_d203 rfl (Nat.le_succ _) rfl rfl rfl fx_no_11_68 (by decide) ?_
          refine fx_qX (fun X28 eX28 => ?_)
          show fx_W _ _ _ 96 lv23 [] _ _
          refine fx_n (pc' := 97) (lv' := lv23) (st' := [.int (Int32.ofInt 0)]) aj_d203 rfl (Nat.le_succ _) (fun _ => rfl) ?_
          exact fx_ri aj_d203 rfl ⟨_, rfl, 0, rfl, rfl⟩
        · skip
          refine fx_qi (c := (w22).toInt = 0) (fx_f_ne q25) ?_
          show fx_W _ _ _ 68 lv23 [] _ _
          refine fx_i2 aj_d203 rfl (Nat.le_succ _) (fun _ => rfl) hlv23_0 ?_
          refine fx_gI aj_d203 rfl (Nat.le_succ _) rfl rfl (Or.inl rfl) ?_
          exact fx_ri aj_d203 rfl ⟨_, rfl, 0, rfl, rfl⟩
def gx_280 (X : fx_X) (v : Int32) (X' : fx_X) : Prop :=
  v = (X.1 117 25) ∧ X' = X
theorem gx_280_ok {tb : aj_T} {X : fx_X} : fx_K tb 280 [.ref 117] X (fx_Q fx_qI (fun v X' => gx_280 X v X')) := by
  refine fx_m aj_m280_at rfl (fun N => ?_)
  refine fx_mono (Q := fx_Q fx_qI (fun v X' => ∃ n : Nat, gx_280 X v X')) (fun r X' ⟨v, e, _, z⟩ => ⟨v, e, z⟩) ?_
  unfold gx_280
  show fx_W _ _ _ 0 [(0, .ref 117)] [] _ _
  obtain ⟨lv1, elv1⟩ : ∃ l : aj_V, l = [(0, .ref 117)] := ⟨_, rfl⟩
  rw [← elv1]
  have hlv1_0 : aj_lv lv1 0 = some (.ref 117) := by rw [elv1]; rfl
  refine fx_i2 aj_d280 rfl (Nat.le_succ _) (fun _ => rfl) hlv1_0 ?_
  refine fx_gI aj_d280 rfl (Nat.le_succ _) rfl rfl (Or.inl rfl) ?_
  exact fx_ri aj_d280 rfl ⟨_, rfl, 0, rfl, rfl⟩
def gx_282 (X : fx_X) (v : Int32) (X' : fx_X) : Prop :=
  ∃ X2 : fx_X, X2 = (fx_wI X 117 24 (Int32.ofInt 0)) ∧ ∃ X3 : fx_X, X3 = (fx_wI X2 117 25 (Int32.ofInt (-1))) ∧ ∃ X4 : fx_X, X4 = (fx_wI X3 117 37 (X3.1 117 0)) ∧ ∃ X5 : fx_X, X5 = (fx_wI X4 117 32 (Int32.ofInt 0)) ∧ ∃ (w7 : Unit) (X6 : fx_X), gx_205 X5 w7 X6 ∧ ∃ (w9 : Int32) (X8 : fx_X), gx_237 X6 w9 X8 ∧ (if (w9).toInt = 0 then (∃ X13 : fx_X, X13 = (fx_wI X8 117 23 (Int32.ofInt 0)) ∧ v = (Int32.ofInt 0) ∧ X' = X13) else ((if ((X8.1 117 26)).toInt = 0 then ((if ((X8.1 117 24)).toInt = 0 then (∃ X21 : fx_X, X21 = (fx_wI X8 117 32 (Int32.ofInt 1)) ∧ ∃ (w23 : Unit) (X22 : fx_X), gx_205 X21 w23 X22 ∧ ∃ (w25 : Int32) (X24 : fx_X), gx_237 X22 w25 X24 ∧ ∃ X27 : fx_X, X27 = (fx_wI X24 117 23 (Int32.ofInt 0)) ∧ v = w25 ∧ X' = X27) else (∃ X18 : fx_X, X18 = (fx_wI X8 117 23 (Int32.ofInt 0)) ∧ v = (Int32.ofInt 0) ∧ X' = X18))) else (∃ (w29 : Int32) (X28 : fx_X), gx_215 (Int32.ofInt 1) (X8.1 117 27) X8 w29 X28 ∧ (if (w29).toInt = 0 then (∃ X33 : fx_X, X33 = (fx_wI X28 117 23 (Int32.ofInt 0)) ∧ v = (Int32.ofInt 0) ∧ X' = X33) else ((if ((X28.1 117 24)).toInt = 0 then (∃ X40 : fx_X, X40 = (fx_wI X28 117 32 (Int32.ofInt 1)) ∧ ∃ (w42 : Unit) (X41 : fx_X), gx_205 X40 w42 X41 ∧ ∃ (w44 : Int32) (X43 : fx_X), gx_237 X41 w44 X43 ∧ ∃ X46 : fx_X, X46 = (fx_wI X43 117 23 (Int32.ofInt 0)) ∧ v = w44 ∧ X' = X46) else (∃ X37 : fx_X, X37 = (fx_wI X28 117 23 (Int32.ofInt 0)) ∧ v = (Int32.ofInt 0) ∧ X' = X37))))))))
theorem gx_282_ok {tb : aj_T} {X : fx_X} : fx_K tb 282 [.ref 117] X (fx_Q fx_qI (fun v X' => gx_282 X v X')) := by
  refine fx_m aj_m282_at rfl (fun N => ?_)
  refine fx_mono (Q := fx_Q fx_qI (fun v X' => ∃ n : Nat, gx_282 X v X')) (fun r X' ⟨v, e, _, z⟩ => ⟨v, e, z⟩) ?_
  unfold gx_282
  show fx_W _ _ _ 0 [(0, .ref 117)] [] _ _
  obtain ⟨lv1, elv1⟩ : ∃ l : aj_V, l = [(0, .ref 117)] := ⟨_, rfl⟩
  rw [← elv1]
  have hlv1_0 : aj_lv lv1 0 = some (.ref 117) := by rw [elv1]; rfl
  refine fx_i2 aj_d282 rfl (Nat.le_succ _) (fun _ => rfl) hlv1_0 ?_
  refine fx_n (pc' := 2) (lv' := lv1) (st' := [.int (Int32.ofInt 0), .ref 117]) aj_d282 rfl (Nat.le_succ _) (fun _ => rfl) ?_
  refine fx_pI aj_d282 rfl (Nat.le_succ _) rfl rfl (Or.inl rfl) fx_no_11_24 (by decide) ?_
  refine fx_qX (fun X2 eX2 => ?_)
  show fx_W _ _ _ 5 lv1 [] _ _
  refine fx_i2 aj_d282 rfl (Nat.le_succ _) (fun _ => rfl) hlv1_0 ?_
  refine fx_n (pc' := 7) (lv' := lv1) (st' := [.int (Int32.ofInt (-1)), .ref 117]) aj_d282 rfl (Nat.le_succ _) (fun _ => rfl) ?_
  refine fx_pI aj_d282 rfl (Nat.le_succ _) rfl rfl (Or.inl rfl) fx_no_11_25 (by decide) ?_
  refine fx_qX (fun X3 eX3 => ?_)
  show fx_W _ _ _ 10 lv1 [] _ _
  refine fx_i2 aj_d282 rfl (Nat.le_succ _) (fun _ => rfl) hlv1_0 ?_
  refine fx_i2 aj_d282 rfl (Nat.le_succ _) (fun _ => rfl) hlv1_0 ?_
  refine fx_gI aj_d282 rfl (Nat.le_succ _) rfl rfl (Or.inl rfl) ?_
  refine fx_pI aj_d282 rfl (Nat.le_succ _) rfl rfl (Or.inl rfl) fx_no_11_37 (by decide) ?_
  refine fx_qX (fun X4 eX4 => ?_)
  show fx_W _ _ _ 18 lv1 [] _ _
  refine fx_i2 aj_d282 rfl (Nat.le_succ _) (fun _ => rfl) hlv1_0 ?_
  refine fx_n (pc' := 20) (lv' := lv1) (st' := [.int (Int32.ofInt 0), .ref 117]) aj_d282 rfl (Nat.le_succ _) (fun _ => rfl) ?_
  refine fx_pI aj_d282 rfl (Nat.le_succ _) rfl rfl (Or.inr (Or.inl rfl)) fx_no_11_32 (by decide) ?_
  refine fx_qX (fun X5 eX5 => ?_)
  show fx_W _ _ _ 23 lv1 [] _ _
  refine fx_i2 aj_d282 rfl (Nat.le_succ _) (fun _ => rfl) hlv1_0 ?_
  refine fx_cv aj_d282 rfl (Nat.le_succ _) rfl [] rfl rfl (gx_205_ok) ?_
  rintro _ X6 ⟨w7, rfl, hR6⟩ hok6 hle6
  refine fx_qc hR6 ?_
  show fx_W _ _ _ 27 lv1 [] _ _
  refine fx_i2 aj_d282 rfl (Nat.le_succ _) (fun _ => rfl) hlv1_0 ?_
  refine fx_cv aj_d282 rfl (Nat.le_succ _) rfl [] rfl rfl (gx_237_ok) ?_
  rintro _ X8 ⟨w9, rfl, hR8⟩ hok8 hle8
  refine fx_qc hR8 ?_
  show fx_W _ _ _ 31 lv1 [.int w9] _ _
  refine fx_b0 (tgt := 64) aj_d282 rfl (Nat.le_succ _) rfl (fun q10 => ?_) (fun q10 => ?_)
  · skip
    refine fx_qi (c := (w9).toInt = 0) (fx_t_eq q10) ?_
    show fx_W _ _ _ 64 lv1 [] _ _
    refine fx_n (pc' := 65) (lv' := lv1) (st' := [.int (Int32.ofInt 0)]) aj_d282 rfl (Nat.le_succ _) (fun _ => rfl) ?_
    refine fx_s0 (j := 1) aj_d282 rfl (Nat.le_succ _) (by decide) (fun _ => rfl) ?_
    obtain ⟨lv11, elv11⟩ : ∃ l, l = aj_set1 lv1 1 (.int (Int32.ofInt 0)) := ⟨_, rfl⟩
    rw [← elv11]
    have hlv11_0 : aj_lv lv11 0 = some (.ref 117) := fx_e1 elv11 hlv1_0 (by decide) (Or.inr rfl)
    have hlv11_1 : aj_lv lv11 1 = some (.int (Int32.ofInt 0)) := by rw [elv11]; exact ak_set1_eq _ _ _
    show fx_W _ _ _ 66 lv11 [] _ _
    refine fx_i0 aj_d282 rfl (Nat.le_succ _) (fun _ => rfl) hlv11_1 ?_
    refine fx_b0 (tgt := 84) aj_d282 rfl (Nat.le_succ _) rfl (fun q12 => ?_) (fun q12 => ?_)
    · skip
      show fx_W _ _ _ 84 lv11 [] _ _
      refine fx_i2 aj_d282 rfl (Nat.le_succ _) (fun _ => rfl) hlv11_0 ?_
      refine fx_n (pc' := 86) (lv' := lv11) (st' := [.int (Int32.ofInt 0), .ref 117]) aj_d282 rfl (Nat.le_succ _) (fun _ => rfl) ?_
      refine fx_pI aj_d282 rfl (Nat.le_succ _) rfl rfl (Or.inl rfl) fx_no_11_23 (by decide) ?_
      refine fx_qX (fun X13 eX13 => ?_)
      show fx_W _ _ _ 89 lv11 [] _ _
      refine fx_i0 aj_d282 rfl (Nat.le_succ _) (fun _ => rfl) hlv11_1 ?_
      exact fx_ri aj_d282 rfl ⟨_, rfl, 0, rfl, rfl⟩
    · exact absurd q12 (by decide)
  · skip
    refine fx_qe (c := (w9).toInt = 0) (fx_f_eq q10) ?_
    show fx_W _ _ _ 34 lv1 [] _ _
    refine fx_i2 aj_d282 rfl (Nat.le_succ _) (fun _ => rfl) hlv1_0 ?_
    refine fx_gI aj_d282 rfl (Nat.le_succ _) rfl rfl (Or.inl rfl) ?_
    refine fx_b0 (tgt := 53) aj_d282 rfl (Nat.le_succ _) rfl (fun q14 => ?_) (fun q14 => ?_)
    · skip
      refine fx_qi (c := ((X8.1 117 26)).toInt = 0) (fx_t_eq q14) ?_
      show fx_W _ _ _ 53 lv1 [] _ _
      refine fx_i2 aj_d282 rfl (Nat.le_succ _) (fun _ => rfl) hlv1_0 ?_
      refine fx_gI aj_d282 rfl (Nat.le_succ _) rfl rfl (Or.inl rfl) ?_
      refine fx_b0 (tgt := 64) aj_d282 rfl (Nat.le_succ _) rfl (fun q15 => ?_) (fun q15 => ?_)
      · skip
        refine fx_qe (c := ((X8.1 117 24)).toInt = 0) (fx_t_ne q15) ?_
        show fx_W _ _ _ 64 lv1 [] _ _
        refine fx_n (pc' := 65) (lv' := lv1) (st' := [.int (Int32.ofInt 0)]) aj_d282 rfl (Nat.le_succ _) (fun _ => rfl) ?_
        refine fx_s0 (j := 1) aj_d282 rfl (Nat.le_succ _) (by decide) (fun _ => rfl) ?_
        obtain ⟨lv16, elv16⟩ : ∃ l, l = aj_set1 lv1 1 (.int (Int32.ofInt 0)) := ⟨_, rfl⟩
        rw [← elv16]
        have hlv16_0 : aj_lv lv16 0 = some (.ref 117) := fx_e1 elv16 hlv1_0 (by decide) (Or.inr rfl)
        have hlv16_1 : aj_lv lv16 1 = some (.int (Int32.ofInt 0)) := by rw [elv16]; exact ak_set1_eq _ _ _
        show fx_W _ _ _ 66 lv16 [] _ _
        refine fx_i0 aj_d282 rfl (Nat.le_succ _) (fun _ => rfl) hlv16_1 ?_
        refine fx_b0 (tgt := 84) aj_d282 rfl (Nat.le_succ _) rfl (fun q17 => ?_) (fun q17 => ?_)
        · skip
          show fx_W _ _ _ 84 lv16 [] _ _
          refine fx_i2 aj_d282 rfl (Nat.le_succ _) (fun _ => rfl) hlv16_0 ?_
          refine fx_n (pc' := 86) (lv' := lv16) (st' := [.int (Int32.ofInt 0), .ref 117]) aj_d282 rfl (Nat.le_succ _) (fun _ => rfl) ?_
          refine fx_pI aj_d282 rfl (Nat.le_succ _) rfl rfl (Or.inl rfl) fx_no_11_23 (by decide) ?_
          refine fx_qX (fun X18 eX18 => ?_)
          show fx_W _ _ _ 89 lv16 [] _ _
          refine fx_i0 aj_d282 rfl (Nat.le_succ _) (fun _ => rfl) hlv16_1 ?_
          exact fx_ri aj_d282 rfl ⟨_, rfl, 0, rfl, rfl⟩
        · exact absurd q17 (by decide)
      · skip
        refine fx_qi (c := ((X8.1 117 24)).toInt = 0) (fx_f_ne q15) ?_
        show fx_W _ _ _ 60 lv1 [] _ _
        refine fx_n (pc' := 61) (lv' := lv1) (st' := [.int (Int32.ofInt 1)]) aj_d282 rfl (Nat.le_succ _) (fun _ => rfl) ?_
        refine fx_n (pc' := 65) (lv' := lv1) (st' := [.int (Int32.ofInt 1)]) aj_d282 rfl (Nat.le_succ _) (fun _ => rfl) ?_
        refine fx_s0 (j := 1) aj_d282 rfl (Nat.le_succ _) (by decide) (fun _ => rfl) ?_
        obtain ⟨lv19, elv19⟩ : ∃ l, l = aj_set1 lv1 1 (.int (Int32.ofInt 1)) := ⟨_, rfl⟩
        rw [← elv19]
        have hlv19_0 : aj_lv lv19 0 = some (.ref 117) := fx_e1 elv19 hlv1_0 (by decide) (Or.inr rfl)
        have hlv19_1 : aj_lv lv19 1 = some (.int (Int32.ofInt 1)) := by rw [elv19]; exact ak_set1_eq _ _ _
        show fx_W _ _ _ 66 lv19 [] _ _
        refine fx_i0 aj_d282 rfl (Nat.le_succ _) (fun _ => rfl) hlv19_1 ?_
        refine fx_b0 (tgt := 84) aj_d282 rfl (Nat.le_succ _) rfl (fun q20 => ?_) (fun q20 => ?_)
        · exact absurd q20 (by decide)
        · skip
          show fx_W _ _ _ 70 lv19 [] _ _
          refine fx_i2 aj_d282 rfl (Nat.le_succ _) (fun _ => rfl) hlv19_0 ?_
          refine fx_n (pc' := 72) (lv' := lv19) (st' := [.int (Int32.ofInt 1), .ref 117]) aj_d282 rfl (Nat.le_succ _) (fun _ => rfl) ?_
          refine fx_pI aj_d282 rfl (Nat.le_succ _) rfl rfl (Or.inr (Or.inl rfl)) fx_no_11_32 (by decide) ?_
          refine fx_qX (fun X21 eX21 => ?_)
          show fx_W _ _ _ 75 lv19 [] _ _
          refine fx_i2 aj_d282 rfl (Nat.le_succ _) (fun _ => rfl) hlv19_0 ?_
          refine fx_cv aj_d282 rfl (Nat.le_succ _) rfl [] rfl rfl (gx_205_ok) ?_
          rintro _ X22 ⟨w23, rfl, hR22⟩ hok22 hle22
          refine fx_qc hR22 ?_
          show fx_W _ _ _ 79 lv19 [] _ _
          refine fx_i2 aj_d282 rfl (Nat.le_succ _) (fun _ => rfl) hlv19_0 ?_
          refine fx_cv aj_d282 rfl (Nat.le_succ _) rfl [] rfl rfl (gx_237_ok) ?_
          rintro _ X24 ⟨w25, rfl, hR24⟩ hok24 hle24
          refine fx_qc hR24 ?_
          show fx_W _ _ _ 83 lv19 [.int w25] _ _
          refine fx_s0 (j := 1) aj_d282 rfl (Nat.le_succ _) (by decide) (fun _ => rfl) ?_
          obtain ⟨lv26, elv26⟩ : ∃ l, l = aj_set1 lv19 1 (.int w25) := ⟨_, rfl⟩
          rw [← elv26]
          have hlv26_0 : aj_lv lv26 0 = some (.ref 117) := fx_e1 elv26 hlv19_0 (by decide) (Or.inr rfl)
          have hlv26_1 : aj_lv lv26 1 = some (.int w25) := by rw [elv26]; exact ak_set1_eq _ _ _
          show fx_W _ _ _ 84 lv26 [] _ _
          refine fx_i2 aj_d282 rfl (Nat.le_succ _) (fun _ => rfl) hlv26_0 ?_
          refine fx_n (pc' := 86) (lv' := lv26) (st' := [.int (Int32.ofInt 0), .ref 117]) aj_d282 rfl (Nat.le_succ _) (fun _ => rfl) ?_
          refine fx_pI aj_d282 rfl (Nat.le_succ _) rfl rfl (Or.inl rfl) fx_no_11_23 (by decide) ?_
          refine fx_qX (fun X27 eX27 => ?_)
          show fx_W _ _ _ 89 lv26 [] _ _
          refine fx_i0 aj_d282 rfl (Nat.le_succ _) (fun _ => rfl) hlv26_1 ?_
          exact fx_ri aj_d282 rfl ⟨_, rfl, 0, rfl, rfl⟩
    · skip
      refine fx_qe (c := ((X8.1 117 26)).toInt = 0) (fx_f_eq q14) ?_
      show fx_W _ _ _ 41 lv1 [] _ _
      refine fx_i2 aj_d282 rfl (Nat.le_succ _) (fun _ => rfl) hlv1_0 ?_
      refine fx_n (pc' := 43) (lv' := lv1) (st' := [.int (Int32.ofInt 1), .ref 117]) aj_d282 rfl (Nat.le_succ _) (fun _ => rfl) ?_
      refine fx_i2 aj_d282 rfl (Nat.le_succ _) (fun _ => rfl) hlv1_0 ?_
      refine fx_gI aj_d282 rfl (Nat.le_succ _) rfl rfl (Or.inl rfl) ?_
      refine fx_cv aj_d282 rfl (Nat.le_succ _) rfl [_, _] rfl rfl (gx_215_ok (Int32.ofInt 1) (X8.1 117 27)) ?_
      rintro _ X28 ⟨w29, rfl, hR28⟩ hok28 hle28
      refine fx_qc hR28 ?_
      show fx_W _ _ _ 50 lv1 [.int w29] _ _
      refine fx_b0 (tgt := 64) aj_d282 rfl (Nat.le_succ _) rfl (fun q30 => ?_) (fun q30 => ?_)
      · skip
        refine fx_qi (c := (w29).toInt = 0) (fx_t_eq q30) ?_
        show fx_W _ _ _ 64 lv1 [] _ _
        refine fx_n (pc' := 65) (lv' := lv1) (st' := [.int (Int32.ofInt 0)]) aj_d282 rfl (Nat.le_succ _) (fun _ => rfl) ?_
        refine fx_s0 (j := 1) aj_d282 rfl (Nat.le_succ _) (by decide) (fun _ => rfl) ?_
        obtain ⟨lv31, elv31⟩ : ∃ l, l = aj_set1 lv1 1 (.int (Int32.ofInt 0)) := ⟨_, rfl⟩
        rw [← elv31]
        have hlv31_0 : aj_lv lv31 0 = some (.ref 117) := fx_e1 elv31 hlv1_0 (by decide) (Or.inr rfl)
        have hlv31_1 : aj_lv lv31 1 = some (.int (Int32.ofInt 0)) := by rw [elv31]; exact ak_set1_eq _ _ _
        show fx_W _ _ _ 66 lv31 [] _ _
        refine fx_i0 aj_d282 rfl (Nat.le_succ _) (fun _ => rfl) hlv31_1 ?_
        refine fx_b0 (tgt := 84) aj_d282 rfl (Nat.le_succ _) rfl (fun q32 => ?_) (fun q32 => ?_)
        · skip
          show fx_W _ _ _ 84 lv31 [] _ _
          refine fx_i2 aj_d282 rfl (Nat.le_succ _) (fun _ => rfl) hlv31_0 ?_
          refine fx_n (pc' := 86) (lv' := lv31) (st' := [.int (Int32.ofInt 0), .ref 117]) aj_d282 rfl (Nat.le_succ _) (fun _ => rfl) ?_
          refine fx_pI aj_d282 rfl (Nat.le_succ _) rfl rfl (Or.inl rfl) fx_no_11_23 (by decide) ?_
          refine fx_qX (fun X33 eX33 => ?_)
          show fx_W _ _ _ 89 lv31 [] _ _
          refine fx_i0 aj_d282 rfl (Nat.le_succ _) (fun _ => rfl) hlv31_1 ?_
          exact fx_ri aj_d282 rfl ⟨_, rfl, 0, rfl, rfl⟩
        · exact absurd q32 (by decide)
      · skip
        refine fx_qe (c := (w29).toInt = 0) (fx_f_eq q30) ?_
        show fx_W _ _ _ 53 lv1 [] _ _
        refine fx_i2 aj_d282 rfl (Nat.le_succ _) (fun _ => rfl) hlv1_0 ?_
        refine fx_gI aj_d282 rfl (Nat.le_succ _) rfl rfl (Or.inl rfl) ?_
        refine fx_b0 (tgt := 64) aj_d282 rfl (Nat.le_succ _) rfl (fun q34 => ?_) (fun q34 => ?_)
        · skip
          refine fx_qe (c := ((X28.1 117 24)).toInt = 0) (fx_t_ne q34) ?_
          show fx_W _ _ _ 64 lv1 [] _ _
          refine fx_n (pc' := 65) (lv' := lv1) (st' := [.int (Int32.ofInt 0)]) aj_d282 rfl (Nat.le_succ _) (fun _ => rfl) ?_
          refine fx_s0 (j := 1) aj_d282 rfl (Nat.le_succ _) (by decide) (fun _ => rfl) ?_
          obtain ⟨lv35, elv35⟩ : ∃ l, l = aj_set1 lv1 1 (.int (Int32.ofInt 0)) := ⟨_, rfl⟩
          rw [← elv35]
          have hlv35_0 : aj_lv lv35 0 = some (.ref 117) := fx_e1 elv35 hlv1_0 (by decide) (Or.inr rfl)
          have hlv35_1 : aj_lv lv35 1 = some (.int (Int32.ofInt 0)) := by rw [elv35]; exact ak_set1_eq _ _ _
          show fx_W _ _ _ 66 lv35 [] _ _
          refine fx_i0 aj_d282 rfl (Nat.le_succ _) (fun _ => rfl) hlv35_1 ?_
          refine fx_b0 (tgt := 84) aj_d282 rfl (Nat.le_succ _) rfl (fun q36 => ?_) (fun q36 => ?_)
          · skip
            show fx_W _ _ _ 84 lv35 [] _ _
            refine fx_i2 aj_d282 rfl (Nat.le_succ _) (fun _ => rfl) hlv35_0 ?_
            refine fx_n (pc' := 86) (lv' := lv35) (st' := [.int (Int32.ofInt 0), .ref 117]) aj_d282 rfl (Nat.le_succ _) (fun _ => rfl) ?_
            refine fx_pI aj_d282 rfl (Nat.le_succ _) rfl rfl (Or.inl rfl) fx_no_11_23 (by decide) ?_
            refine fx_qX (fun X37 eX37 => ?_)
            show fx_W _ _ _ 89 lv35 [] _ _
            refine fx_i0 aj_d282 rfl (Nat.le_succ _) (fun _ => rfl) hlv35_1 ?_
            exact fx_ri aj_d282 rfl ⟨_, rfl, 0, rfl, rfl⟩
          · exact absurd q36 (by decide)
        · skip
          refine fx_qi (c := ((X28.1 117 24)).toInt = 0) (fx_f_ne q34) ?_
          show fx_W _ _ _ 60 lv1 [] _ _
          refine fx_n (pc' := 61) (lv' := lv1) (st' := [.int (Int32.ofInt 1)]) aj_d282 rfl (Nat.le_succ _) (fun _ => rfl) ?_
          refine fx_n (pc' := 65) (lv' := lv1) (st' := [.int (Int32.ofInt 1)]) aj_d282 rfl (Nat.le_succ _) (fun _ => rfl) ?_
          refine fx_s0 (j := 1) aj_d282 rfl (Nat.le_succ _) (by decide) (fun _ => rfl) ?_
          obtain ⟨lv38, elv38⟩ : ∃ l, l = aj_set1 lv1 1 (.int (Int32.ofInt 1)) := ⟨_, rfl⟩
          rw [← elv38]
          have hlv38_0 : aj_lv lv38 0 = some (.ref 117) := fx_e1 elv38 hlv1_0 (by decide) (Or.inr rfl)
          have hlv38_1 : aj_lv lv38 1 = some (.int (Int32.ofInt 1)) := by rw [elv38]; exact ak_set1_eq _ _ _
          show fx_W _ _ _ 66 lv38 [] _ _
          refine fx_i0 aj_d282 rfl (Nat.le_succ _) (fun _ => rfl) hlv38_1 ?_
          refine fx_b0 (tgt := 84) aj_d282 rfl (Nat.le_succ _) rfl (fun q39 => ?_) (fun q39 => ?_)
          · exact absurd q39 (by decide)
          · skip
            show fx_W _ _ _ 70 lv38 [] _ _
            refine fx_i2 aj_d282 rfl (Nat.le_succ _) (fun _ => rfl) hlv38_0 ?_
            refine fx_n (pc' := 72) (lv' := lv38) (st' := [.int (Int32.ofInt 1), .ref 117]) aj_d282 rfl (Nat.le_succ _) (fun _ => rfl) ?_
            refine fx_pI aj_d282 rfl (Nat.le_succ _) rfl rfl (Or.inr (Or.inl rfl)) fx_no_11_32 (by decide) ?_
            refine fx_qX (fun X40 eX40 => ?_)
            show fx_W _ _ _ 75 lv38 [] _ _
            refine fx_i2 aj_d282 rfl (Nat.le_succ _) (fun _ => rfl) hlv38_0 ?_
            refine fx_cv aj_d282 rfl (Nat.le_succ _) rfl [] rfl rfl (gx_205_ok) ?_
            rintro _ X41 ⟨w42, rfl, hR41⟩ hok41 hle41
            refine fx_qc hR41 ?_
            show fx_W _ _ _ 79 lv38 [] _ _
            refine fx_i2 aj_d282 rfl (Nat.le_succ _) (fun _ => rfl) hlv38_0 ?_
            refine fx_cv aj_d282 rfl (Nat.le_succ _) rfl [] rfl rfl (gx_237_ok) ?_
            rintro _ X43 ⟨w44, rfl, hR43⟩ hok43 hle43
            refine fx_qc hR43 ?_
            show fx_W _ _ _ 83 lv38 [.int w44] _ _
            refine fx_s0 (j := 1) aj_d282 rfl (Nat.le_succ _) (by decide) (fun _ => rfl) ?_
            obtain ⟨lv45, elv45⟩ : ∃ l, l = aj_set1 lv38 1 (.int w44) := ⟨_, rfl⟩
            rw [← elv45]
            have hlv45_0 : aj_lv lv45 0 = some (.ref 117) := fx_e1 elv45 hlv38_0 (by decide) (Or.inr rfl)
            have hlv45_1 : aj_lv lv45 1 = some (.int w44) := by rw [elv45]; exact ak_set1_eq _ _ _
            show fx_W _ _ _ 84 lv45 [] _ _
            refine fx_i2 aj_d282 rfl (Nat.le_succ _) (fun _ => rfl) hlv45_0 ?_
            refine fx_n (pc' := 86) (lv' := lv45) (st' := [.int (Int32.ofInt 0), .ref 117]) aj_d282 rfl (Nat.le_succ _) (fun _ => rfl) ?_
            refine fx_pI aj_d282 rfl (Nat.le_succ _) rfl rfl (Or.inl rfl) fx_no_11_23 (by decide) ?_
            refine fx_qX (fun X46 eX46 => ?_)
            show fx_W _ _ _ 89 lv45 [] _ _
            refine fx_i0 aj_d282 rfl (Nat.le_succ _) (fun _ => rfl) hlv45_1 ?_
            exact fx_ri aj_d282 rfl ⟨_, rfl, 0, rfl, rfl⟩
def gxT_281_13 (P : Nat → List Int32 → List Int64 → List Nat → fx_X → Int32 → fx_X → Prop) (y1 : Int32) (y2 : Int32) (X : fx_X) (v : Int32) (X' : fx_X) : Prop :=
  (0 ≤ ((X.1 117 0)).toInt ∧ ((X.1 117 0)).toInt < ((2 : Nat) : Int)) ∧ (if (y2).toInt < ((X.1 122 ((X.1 117 0)).toInt.toNat)).toInt then (∃ (w20 : Int32) (X19 : fx_X), gx_247 (X.1 117 0) y2 X w20 X19 ∧ (if (w20).toInt = 0 then (∃ x23 : Int32, x23 = y2 + Int32.ofInt 1 ∧ P 13 [y1, x23] [] [] X19 v X') else (∃ (w27 : Int32) (X26 : fx_X), gx_227 137 (Int32.ofInt 0) y2 X19 w27 X26 ∧ (if (w27).toInt = 0 then (∃ x30 : Int32, x30 = y2 + Int32.ofInt 1 ∧ P 13 [y1, x30] [] [] X26 v X') else (∃ x32 : Int32, x32 = (y1 + (Int32.ofInt 1)) ∧ ∃ x34 : Int32, x34 = y2 + Int32.ofInt 1 ∧ P 13 [x32, x34] [] [] X26 v X'))))) else ((if (y1).toInt = 0 then (v = ((Int8.ofInt (-2)).toInt32) ∧ X' = X) else ((0 ≤ ((X.1 117 0)).toInt ∧ ((X.1 117 0)).toInt < ((2 : Nat) : Int)) ∧ (if ((X.1 128 ((X.1 117 0)).toInt.toNat)).toInt = 8 then (v = ((Int8.ofInt (-3)).toInt32) ∧ X' = X) else ((0 ≤ ((X.1 117 0)).toInt ∧ ((X.1 117 0)).toInt < ((2 : Nat) : Int)) ∧ ∃ x16 : Int32, x16 = ((((X.1 117 0) * ((Int8.ofInt 20).toInt32)) + (X.1 127 ((X.1 117 0)).toInt.toNat)) * ((Int8.ofInt 32).toInt32)) ∧ P 111 [y1, x16, (Int32.ofInt 0)] [] [] X v X'))))))
def gxT_281_111 (P : Nat → List Int32 → List Int64 → List Nat → fx_X → Int32 → fx_X → Prop) (y1 : Int32) (y2 : Int32) (y3 : Int32) (X : fx_X) (v : Int32) (X' : fx_X) : Prop :=
  (if (y3).toInt < 32 then ((0 ≤ (y3).toInt ∧ (y3).toInt < ((1024 : Nat) : Int)) ∧ (0 ≤ ((y2 + y3)).toInt ∧ ((y2 + y3)).toInt < ((1280 : Nat) : Int)) ∧ ∃ X50 : fx_X, X50 = (fx_wI X 129 ((y2 + y3)).toInt.toNat (X.1 137 (y3).toInt.toNat)) ∧ ∃ x51 : Int32, x51 = y3 + Int32.ofInt 1 ∧ P 111 [y1, y2, x51] [] [] X50 v X') else ((0 ≤ ((X.1 117 0)).toInt ∧ ((X.1 117 0)).toInt < ((2 : Nat) : Int)) ∧ (0 ≤ ((X.1 117 0)).toInt ∧ ((X.1 117 0)).toInt < ((2 : Nat) : Int)) ∧ ∃ X40 : fx_X, X40 = (fx_wI X 127 ((X.1 117 0)).toInt.toNat ((X.1 127 ((X.1 117 0)).toInt.toNat) + (Int32.ofInt 1))) ∧ (0 ≤ ((X40.1 117 0)).toInt ∧ ((X40.1 117 0)).toInt < ((2 : Nat) : Int)) ∧ (0 ≤ ((X40.1 117 0)).toInt ∧ ((X40.1 117 0)).toInt < ((2 : Nat) : Int)) ∧ ∃ X44 : fx_X, X44 = (fx_wI X40 128 ((X40.1 117 0)).toInt.toNat ((X40.1 128 ((X40.1 117 0)).toInt.toNat) + (Int32.ofInt 1))) ∧ ∃ X45 : fx_X, X45 = (fx_wL X44 117 68 ((X44.2.1 117 68) + (Int64.ofNat 1))) ∧ v = y1 ∧ X' = X45))
def gxE_281 (P : Nat → List Int32 → List Int64 → List Nat → fx_X → Int32 → fx_X → Prop) (X : fx_X) (v : Int32) (X' : fx_X) : Prop :=
  ∃ (w3 : Int32) (X2 : fx_X), gx_282 X w3 X2 ∧ (if (w3).toInt = 0 then (v = (Int32.ofInt (-1)) ∧ X' = X2) else (P 13 [(Int32.ofInt 0), (Int32.ofInt 0)] [] [] X2 v X'))
noncomputable def gxF_281 (n : Nat) : Nat → List Int32 → List Int64 → List Nat → fx_X → Int32 → fx_X → Prop := Nat.rec (motive := fun _ => Nat → List Int32 → List Int64 → List Nat → fx_X → Int32 → fx_X → Prop) (fun _ _ _ _ _ _ _ => False) (fun _ P l is ls rs X v X' => (l = 13 ∧ ∃ (y1 : Int32) (y2 : Int32), is = [y1, y2] ∧ ls = [] ∧ rs = [] ∧ gxT_281_13 P y1 y2 X v X') ∨ (l = 111 ∧ ∃ (y1 : Int32) (y2 : Int32) (y3 : Int32), is = [y1, y2, y3] ∧ ls = [] ∧ rs = [] ∧ gxT_281_111 P y1 y2 y3 X v X')) n
theorem gxI_281_13 {n : Nat} {y1 : Int32} {y2 : Int32} {X : fx_X} {v : Int32} {X' : fx_X} (h : gxT_281_13 (gxF_281 n) y1 y2 X v X') : gxF_281 (n + 1) 13 [y1, y2] [] [] X v X' := Or.inl ⟨rfl, y1, y2, rfl, rfl, rfl, h⟩
theorem gxO_281_13 {n : Nat} {y1 : Int32} {y2 : Int32} {X : fx_X} {v : Int32} {X' : fx_X} (h : gxF_281 (n + 1) 13 [y1, y2] [] [] X v X') : gxT_281_13 (gxF_281 n) y1 y2 X v X' := by
  rcases h with ⟨-, _, _, e1, e2, e3, h⟩ | ⟨e, -⟩
  · cases e1; cases e2; cases e3; exact h
  · exact absurd e (by decide)
theorem gxI_281_111 {n : Nat} {y1 : Int32} {y2 : Int32} {y3 : Int32} {X : fx_X} {v : Int32} {X' : fx_X} (h : gxT_281_111 (gxF_281 n) y1 y2 y3 X v X') : gxF_281 (n + 1) 111 [y1, y2, y3] [] [] X v X' := Or.inr (⟨rfl, y1, y2, y3, rfl, rfl, rfl, h⟩)
theorem gxO_281_111 {n : Nat} {y1 : Int32} {y2 : Int32} {y3 : Int32} {X : fx_X} {v : Int32} {X' : fx_X} (h : gxF_281 (n + 1) 111 [y1, y2, y3] [] [] X v X') : gxT_281_111 (gxF_281 n) y1 y2 y3 X v X' := by
  rcases h with ⟨e, -⟩ | ⟨-, _, _, _, e1, e2, e3, h⟩
  · exact absurd e (by decide)
  · cases e1; cases e2; cases e3; exact h
def gx_281 (X : fx_X) (v : Int32) (X' : fx_X) : Prop := ∃ n : Nat, gxE_281 (gxF_281 n) X v X'
theorem gxL_281 {tb : aj_T} : ∀ N : Nat, (∀ (lv : aj_V) (y1 : Int32) (y2 : Int32) (X : fx_X), aj_lv lv 0 = some (.ref 117) → aj_lv lv 1 = some (.int y1) → aj_lv lv 2 = some (.int y2) → fx_W tb aj_m281 N 13 lv [] X (fx_Q fx_qI (fun v X' => ∃ n : Nat, gxF_281 n 13 [y1, y2] [] [] X v X'))) ∧ (∀ (lv : aj_V) (y1 : Int32) (y2 : Int32) (y3 : Int32) (X : fx_X), aj_lv lv 0 = some (.ref 117) → aj_lv lv 1 = some (.int y1) → aj_lv lv 2 = some (.int y2) → aj_lv lv 3 = some (.int y3) → fx_W tb aj_m281 N 111 lv [] X (fx_Q fx_qI (fun v X' => ∃ n : Nat, gxF_281 n 111 [y1, y2, y3] [] [] X v X'))) := by
  intro N
  induction N with
  | zero => exact ⟨(by intros; exact fx_z), (by intros; exact fx_z)⟩
  | succ N ih =>
    refine ⟨?_, ?_⟩
    · intro lv y1 y2 X hlv_0 hlv_1 hlv_2
      refine fx_mono (Q := fx_Q fx_qI (fun v X' => ∃ n : Nat, gxT_281_13 (gxF_281 n) y1 y2 X v X')) (fun r X' ⟨v, e, n, z⟩ => ⟨v, e, n + 1, gxI_281_13 z⟩) ?_
      unfold gxT_281_13
      refine fx_i0 aj_d281 rfl (Nat.le_refl _) (fun _ => rfl) hlv_2 ?_
      refine fx_i2 aj_d281 rfl (Nat.le_succ _) (fun _ => rfl) hlv_0 ?_
      refine fx_gF aj_d281 rfl (Nat.le_succ _) rfl rfl fx_in_11_5 (t := 122) rfl (fun hA7 => ?_)
      refine fx_i2 aj_d281 rfl (Nat.le_succ _) (fun _ => rfl) hlv_0 ?_
      refine fx_gI aj_d281 rfl (Nat.le_succ _) rfl rfl (Or.inl rfl) ?_
      refine fx_ld aj_d281 (Or.inl rfl) rfl (Nat.le_succ _) (fun g80 g81 => ?_)
      show fx_W _ _ _ 23 lv [.int (X.1 122 ((X.1 117 0)).toInt.toNat), .int y2] _ _
      refine fx_qa (c := 0 ≤ ((X.1 117 0)).toInt ∧ ((X.1 117 0)).toInt < ((2 : Nat) : Int)) ⟨g80, fx_lnk g81 hA7⟩ ?_
      refine fx_b (tgt := 64) aj_d281 rfl (Nat.le_succ _) rfl (fun q9 => ?_) (fun q9 => ?_)
      · skip
        refine fx_qe (c := (y2).toInt < ((X.1 122 ((X.1 117 0)).toInt.toNat)).toInt) (fx_t_ge q9) ?_
        show fx_W _ _ _ 64 lv [] _ _
        refine fx_i0 aj_d281 rfl (Nat.le_succ _) (fun _ => rfl) hlv_1 ?_
        refine fx_b0 (tgt := 71) aj_d281 rfl (Nat.le_succ _) rfl (fun q10 => ?_) (fun q10 => ?_)
        · skip
          refine fx_qe (c := (y1).toInt = 0) (fx_t_ne q10) ?_
          show fx_W _ _ _ 71 lv [] _ _
          refine fx_i2 aj_d281 rfl (Nat.le_succ _) (fun _ => rfl) hlv_0 ?_
          refine fx_gF aj_d281 rfl (Nat.le_succ _) rfl rfl fx_in_11_11 (t := 128) rfl (fun hA11 => ?_)
          refine fx_i2 aj_d281 rfl (Nat.le_succ _) (fun _ => rfl) hlv_0 ?_
          refine fx_gI aj_d281 rfl (Nat.le_succ _) rfl rfl (Or.inl rfl) ?_
          refine fx_ld aj_d281 (Or.inl rfl) rfl (Nat.le_succ _) (fun g120 g121 => ?_)
          show fx_W _ _ _ 80 lv [.int (X.1 128 ((X.1 117 0)).toInt.toNat)] _ _
          refine fx_qa (c := 0 ≤ ((X.1 117 0)).toInt ∧ ((X.1 117 0)).toInt < ((2 : Nat) : Int)) ⟨g120, fx_lnk g121 hA11⟩ ?_
          refine fx_n (pc' := 82) (lv' := lv) (st' := [.int ((Int8.ofInt 8).toInt32), .int (X.1 128 ((X.1 117 0)).toInt.toNat)]) aj_d281 rfl (Nat.le_succ _) (fun _ => rfl) ?_
          refine fx_b (tgt := 88) aj_d281 rfl (Nat.le_succ _) rfl (fun q13 => ?_) (fun q13 => ?_)
          · skip
            refine fx_qe (c := ((X.1 128 ((X.1 117 0)).toInt.toNat)).toInt = 8) (fx_t_ne q13) ?_
            show fx_W _ _ _ 88 lv [] _ _
            refine fx_i2 aj_d281 rfl (Nat.le_succ _) (fun _ => rfl) hlv_0 ?_
            refine fx_gI aj_d281 rfl (Nat.le_succ _) rfl rfl (Or.inl rfl) ?_
            refine fx_n (pc' := 94) (lv' := lv) (st' := [.int ((Int8.ofInt 20).toInt32), .int (X.1 117 0)]) aj_d281 rfl (Nat.le_succ _) (fun _ => rfl) ?_
            refine fx_n (pc' := 95) (lv' := lv) (st' := [.int ((X.1 117 0) * ((Int8.ofInt 20).toInt32))]) aj_d281 rfl (Nat.le_succ _) (fun _ => rfl) ?_
            refine fx_i2 aj_d281 rfl (Nat.le_succ _) (fun _ => rfl) hlv_0 ?_
            refine fx_gF aj_d281 rfl (Nat.le_succ _) rfl rfl fx_in_11_10 (t := 127) rfl (fun hA14 => ?_)
            refine fx_i2 aj_d281 rfl (Nat.le_succ _) (fun _ => rfl) hlv_0 ?_
            refine fx_gI aj_d281 rfl (Nat.le_succ _) rfl rfl (Or.inl rfl) ?_
            refine fx_ld aj_d281 (Or.inl rfl) rfl (Nat.le_succ _) (fun g150 g151 => ?_)
            show fx_W _ _ _ 104 lv [.int (X.1 127 ((X.1 117 0)).toInt.toNat), .int ((X.1 117 0) * ((Int8.ofInt 20).toInt32))] _ _
            refine fx_qa (c := 0 ≤ ((X.1 117 0)).toInt ∧ ((X.1 117 0)).toInt < ((2 : Nat) : Int)) ⟨g150, fx_lnk g151 hA14⟩ ?_
            refine fx_n (pc' := 105) (lv' := lv) (st' := [.int (((X.1 117 0) * ((Int8.ofInt 20).toInt32)) + (X.1 127 ((X.1 117 0)).toInt.toNat))]) aj_d281 rfl (Nat.le_succ _) (fun _ => rfl) ?_
            refine fx_n (pc' := 107) (lv' := lv) (st' := [.int ((Int8.ofInt 32).toInt32), .int (((X.1 117 0) * ((Int8.ofInt 20).toInt32)) + (X.1 127 ((X.1 117 0)).toInt.toNat))]) aj_d281 rfl (Nat.le_succ _) (fun _ => rfl) ?_
            refine fx_n (pc' := 108) (lv' := lv) (st' := [.int ((((X.1 117 0) * ((Int8.ofInt 20).toInt32)) + (X.1 127 ((X.1 117 0)).toInt.toNat)) * ((Int8.ofInt 32).toInt32))]) aj_d281 rfl (Nat.le_succ _) (fun _ => rfl) ?_
            refine fx_qxI (fun x16 ex16 => ?_)
            refine fx_s0 (j := 2) aj_d281 rfl (Nat.le_succ _) (by decide) (fun _ => rfl) ?_
            obtain ⟨lv17, elv17⟩ : ∃ l, l = aj_set1 lv 2 (.int x16) := ⟨_, rfl⟩
            rw [← elv17]
            have hlv17_0 : aj_lv lv17 0 = some (.ref 117) := fx_e1 elv17 hlv_0 (by decide) (Or.inl (by decide))
            have hlv17_1 : aj_lv lv17 1 = some (.int y1) := fx_e1 elv17 hlv_1 (by decide) (Or.inr rfl)
            have hlv17_2 : aj_lv lv17 2 = some (.int x16) := by rw [elv17]; exact ak_set1_eq _ _ _
            show fx_W _ _ _ 109 lv17 [] _ _
            refine fx_n (pc' := 110) (lv' := lv17) (st' := [.int (Int32.ofInt 0)]) aj_d281 rfl (Nat.le_succ _) (fun _ => rfl) ?_
            refine fx_s0 (j := 3) aj_d281 rfl (Nat.le_succ _) (by decide) (fun _ => rfl) ?_
            obtain ⟨lv18, elv18⟩ : ∃ l, l = aj_set1 lv17 3 (.int (Int32.ofInt 0)) := ⟨_, rfl⟩
            rw [← elv18]
            have hlv18_0 : aj_lv lv18 0 = some (.ref 117) := fx_e1 elv18 hlv17_0 (by decide) (Or.inl (by decide))
            have hlv18_1 : aj_lv lv18 1 = some (.int y1) := fx_e1 elv18 hlv17_1 (by decide) (Or.inl (by decide))
            have hlv18_2 : aj_lv lv18 2 = some (.int x16) := fx_e1 elv18 hlv17_2 (by decide) (Or.inr rfl)
            have hlv18_3 : aj_lv lv18 3 = some (.int (Int32.ofInt 0)) := by rw [elv18]; exact ak_set1_eq _ _ _
            show fx_W _ _ _ 111 lv18 [] _ _
            exact (ih.2) lv18 (y1) (x16) ((Int32.ofInt 0)) X  hlv18_0 hlv18_1 hlv18_2 hlv18_3
          · skip
            refine fx_qi (c := ((X.1 128 ((X.1 117 0)).toInt.toNat)).toInt = 8) (fx_f_ne q13) ?_
            show fx_W _ _ _ 85 lv [] _ _
            refine fx_n (pc' := 87) (lv' := lv) (st' := [.int ((Int8.ofInt (-3)).toInt32)]) aj_d281 rfl (Nat.le_succ _) (fun _ => rfl) ?_
            exact fx_ri aj_d281 rfl ⟨_, rfl, 0, rfl, rfl⟩
        · skip
          refine fx_qi (c := (y1).toInt = 0) (fx_f_ne q10) ?_
          show fx_W _ _ _ 68 lv [] _ _
          refine fx_n (pc' := 70) (lv' := lv) (st' := [.int ((Int8.ofInt (-2)).toInt32)]) aj_d281 rfl (Nat.le_succ _) (fun _ => rfl) ?_
          exact fx_ri aj_d281 rfl ⟨_, rfl, 0, rfl, rfl⟩
      · skip
        refine fx_qi (c := (y2).toInt < ((X.1 122 ((X.1 117 0)).toInt.toNat)).toInt) (fx_f_ge q9) ?_
        show fx_W _ _ _ 26 lv [] _ _
        refine fx_i2 aj_d281 rfl (Nat.le_succ _) (fun _ => rfl) hlv_0 ?_
        refine fx_i2 aj_d281 rfl (Nat.le_succ _) (fun _ => rfl) hlv_0 ?_
        refine fx_gI aj_d281 rfl (Nat.le_succ _) rfl rfl (Or.inl rfl) ?_
        refine fx_i0 aj_d281 rfl (Nat.le_succ _) (fun _ => rfl) hlv_2 ?_
        refine fx_cv aj_d281 rfl (Nat.le_succ _) rfl [_, _] rfl rfl (gx_247_ok (X.1 117 0) y2) ?_
        rintro _ X19 ⟨w20, rfl, hR19⟩ hok19 hle19
        refine fx_qc hR19 ?_
        show fx_W _ _ _ 35 lv [.int w20] _ _
        refine fx_b0 (tgt := 56) aj_d281 rfl (Nat.le_succ _) rfl (fun q21 => ?_) (fun q21 => ?_)
        · skip
          refine fx_qi (c := (w20).toInt = 0) (fx_t_eq q21) ?_
          show fx_W _ _ _ 56 lv [] _ _
          refine fx_i0 aj_d281 rfl (Nat.le_succ _) (fun _ => rfl) hlv_1 ?_
          refine fx_s0 (j := 1) aj_d281 rfl (Nat.le_succ _) (by decide) (fun _ => rfl) ?_
          obtain ⟨lv22, elv22⟩ : ∃ l, l = aj_set1 lv 1 (.int y1) := ⟨_, rfl⟩
          rw [← elv22]
          have hlv22_0 : aj_lv lv22 0 = some (.ref 117) := fx_e1 elv22 hlv_0 (by decide) (Or.inr rfl)
          have hlv22_2 : aj_lv lv22 2 = some (.int y2) := fx_e1 elv22 hlv_2 (by decide) (Or.inl (by decide))
          have hlv22_1 : aj_lv lv22 1 = some (.int y1) := by rw [elv22]; exact ak_set1_eq _ _ _
          show fx_W _ _ _ 58 lv22 [] _ _
          refine fx_incq aj_d281 rfl (Nat.le_succ _) hlv22_2 (by decide) (fun x23 ex23 => ?_)
          obtain ⟨lv24, elv24⟩ : ∃ l, l = aj_set1 lv22 2 (.int x23) := ⟨_, rfl⟩
          rw [← elv24]
          have hlv24_0 : aj_lv lv24 0 = some (.ref 117) := fx_e1 elv24 hlv22_0 (by decide) (Or.inl (by decide))
          have hlv24_1 : aj_lv lv24 1 = some (.int y1) := fx_e1 elv24 hlv22_1 (by decide) (Or.inr rfl)
          have hlv24_2 : aj_lv lv24 2 = some (.int x23) := by rw [elv24]; exact ak_set1_eq _ _ _
          show fx_W _ _ _ 61 lv24 [] _ _
          refine fx_n (pc' := 13) (lv' := lv24) (st' := []) aj_d281 rfl (Nat.le_succ _) (fun _ => rfl) ?_
          exact (ih.1) lv24 (y1) (x23) X19  hlv24_0 hlv24_1 hlv24_2
        · skip
          refine fx_qe (c := (w20).toInt = 0) (fx_f_eq q21) ?_
          show fx_W _ _ _ 38 lv [] _ _
          refine fx_i2 aj_d281 rfl (Nat.le_succ _) (fun _ => rfl) hlv_0 ?_
          refine fx_gF aj_d281 rfl (Nat.le_succ _) rfl rfl fx_in_11_21 (t := 137) rfl (fun hA25 => ?_)
          refine fx_n (pc' := 43) (lv' := lv) (st' := [.int (Int32.ofInt 0), .ref 137]) aj_d281 rfl (Nat.le_succ _) (fun _ => rfl) ?_
          refine fx_i0 aj_d281 rfl (Nat.le_succ _) (fun _ => rfl) hlv_2 ?_
          refine fx_cs aj_d281 rfl (Nat.le_succ _) rfl rfl [_, _, _] rfl rfl (gx_227_ok 137 (Int32.ofInt 0) y2) ?_
          rintro _ X26 ⟨w27, rfl, hR26⟩ hok26 hle26
          refine fx_qc hR26 ?_
          show fx_W _ _ _ 47 lv [.int w27] _ _
          refine fx_b0 (tgt := 56) aj_d281 rfl (Nat.le_succ _) rfl (fun q28 => ?_) (fun q28 => ?_)
          · skip
            refine fx_qi (c := (w27).toInt = 0) (fx_t_eq q28) ?_
            show fx_W _ _ _ 56 lv [] _ _
            refine fx_i0 aj_d281 rfl (Nat.le_succ _) (fun _ => rfl) hlv_1 ?_
            refine fx_s0 (j := 1) aj_d281 rfl (Nat.le_succ _) (by decide) (fun _ => rfl) ?_
            obtain ⟨lv29, elv29⟩ : ∃ l, l = aj_set1 lv 1 (.int y1) := ⟨_, rfl⟩
            rw [← elv29]
            have hlv29_0 : aj_lv lv29 0 = some (.ref 117) := fx_e1 elv29 hlv_0 (by decide) (Or.inr rfl)
            have hlv29_2 : aj_lv lv29 2 = some (.int y2) := fx_e1 elv29 hlv_2 (by decide) (Or.inl (by decide))
            have hlv29_1 : aj_lv lv29 1 = some (.int y1) := by rw [elv29]; exact ak_set1_eq _ _ _
            show fx_W _ _ _ 58 lv29 [] _ _
            refine fx_incq aj_d281 rfl (Nat.le_succ _) hlv29_2 (by decide) (fun x30 ex30 => ?_)
            obtain ⟨lv31, elv31⟩ : ∃ l, l = aj_set1 lv29 2 (.int x30) := ⟨_, rfl⟩
            rw [← elv31]
            have hlv31_0 : aj_lv lv31 0 = some (.ref 117) := fx_e1 elv31 hlv29_0 (by decide) (Or.inl (by decide))
            have hlv31_1 : aj_lv lv31 1 = some (.int y1) := fx_e1 elv31 hlv29_1 (by decide) (Or.inr rfl)
            have hlv31_2 : aj_lv lv31 2 = some (.int x30) := by rw [elv31]; exact ak_set1_eq _ _ _
            show fx_W _ _ _ 61 lv31 [] _ _
            refine fx_n (pc' := 13) (lv' := lv31) (st' := []) aj_d281 rfl (Nat.le_succ _) (fun _ => rfl) ?_
            exact (ih.1) lv31 (y1) (x30) X26  hlv31_0 hlv31_1 hlv31_2
          · skip
            refine fx_qe (c := (w27).toInt = 0) (fx_f_eq q28) ?_
            show fx_W _ _ _ 50 lv [] _ _
            refine fx_i0 aj_d281 rfl (Nat.le_succ _) (fun _ => rfl) hlv_1 ?_
            refine fx_n (pc' := 52) (lv' := lv) (st' := [.int (Int32.ofInt 1), .int y1]) aj_d281 rfl (Nat.le_succ _) (fun _ => rfl) ?_
            refine fx_n (pc' := 53) (lv' := lv) (st' := [.int (y1 + (Int32.ofInt 1))]) aj_d281 rfl (Nat.le_succ _) (fun _ => rfl) ?_
            refine fx_n (pc' := 57) (lv' := lv) (st' := [.int (y1 + (Int32.ofInt 1))]) aj_d281 rfl (Nat.le_succ _) (fun _ => rfl) ?_
            refine fx_qxI (fun x32 ex32 => ?_)
            refine fx_s0 (j := 1) aj_d281 rfl (Nat.le_succ _) (by decide) (fun _ => rfl) ?_
            obtain ⟨lv33, elv33⟩ : ∃ l, l = aj_set1 lv 1 (.int x32) := ⟨_, rfl⟩
            rw [← elv33]
            have hlv33_0 : aj_lv lv33 0 = some (.ref 117) := fx_e1 elv33 hlv_0 (by decide) (Or.inr rfl)
            have hlv33_2 : aj_lv lv33 2 = some (.int y2) := fx_e1 elv33 hlv_2 (by decide) (Or.inl (by decide))
            have hlv33_1 : aj_lv lv33 1 = some (.int x32) := by rw [elv33]; exact ak_set1_eq _ _ _
            show fx_W _ _ _ 58 lv33 [] _ _
            refine fx_incq aj_d281 rfl (Nat.le_succ _) hlv33_2 (by decide) (fun x34 ex34 => ?_)
            obtain ⟨lv35, elv35⟩ : ∃ l, l = aj_set1 lv33 2 (.int x34) := ⟨_, rfl⟩
            rw [← elv35]
            have hlv35_0 : aj_lv lv35 0 = some (.ref 117) := fx_e1 elv35 hlv33_0 (by decide) (Or.inl (by decide))
            have hlv35_1 : aj_lv lv35 1 = some (.int x32) := fx_e1 elv35 hlv33_1 (by decide) (Or.inr rfl)
            have hlv35_2 : aj_lv lv35 2 = some (.int x34) := by rw [elv35]; exact ak_set1_eq _ _ _
            show fx_W _ _ _ 61 lv35 [] _ _
            refine fx_n (pc' := 13) (lv' := lv35) (st' := []) aj_d281 rfl (Nat.le_succ _) (fun _ => rfl) ?_
            exact (ih.1) lv35 (x32) (x34) X26  hlv35_0 hlv35_1 hlv35_2
    · intro lv y1 y2 y3 X hlv_0 hlv_1 hlv_2 hlv_3
      refine fx_mono (Q := fx_Q fx_qI (fun v X' => ∃ n : Nat, gxT_281_111 (gxF_281 n) y1 y2 y3 X v X')) (fun r X' ⟨v, e, n, z⟩ => ⟨v, e, n + 1, gxI_281_111 z⟩) ?_
      unfold gxT_281_111
      refine fx_i0 aj_d281 rfl (Nat.le_refl _) (fun _ => rfl) hlv_3 ?_
      refine fx_n (pc' := 114) (lv' := lv) (st' := [.int ((Int8.ofInt 32).toInt32), .int y3]) aj_d281 rfl (Nat.le_succ _) (fun _ => rfl) ?_
      refine fx_b (tgt := 137) aj_d281 rfl (Nat.le_succ _) rfl (fun q36 => ?_) (fun q36 => ?_)
      · skip
        refine fx_qe (c := (y3).toInt < 32) (fx_t_ge q36) ?_
        show fx_W _ _ _ 137 lv [] _ _
        refine fx_i2 aj_d281 rfl (Nat.le_succ _) (fun _ => rfl) hlv_0 ?_
        refine fx_gF aj_d281 rfl (Nat.le_succ _) rfl rfl fx_in_11_10 (t := 127) rfl (fun hA37 => ?_)
        refine fx_i2 aj_d281 rfl (Nat.le_succ _) (fun _ => rfl) hlv_0 ?_
        refine fx_gI aj_d281 rfl (Nat.le_succ _) rfl rfl (Or.inl rfl) ?_
        refine fx_n (pc' := 146) (lv' := lv) (st' := [.int (X.1 117 0), .ref 127, .int (X.1 117 0), .ref 127]) aj_d281 rfl (Nat.le_succ _) (fun _ => rfl) ?_
        refine fx_ld aj_d281 (Or.inl rfl) rfl (Nat.le_succ _) (fun g380 g381 => ?_)
        show fx_W _ _ _ 147 lv [.int (X.1 127 ((X.1 117 0)).toInt.toNat), .int (X.1 117 0), .ref 127] _ _
        refine fx_qa (c := 0 ≤ ((X.1 117 0)).toInt ∧ ((X.1 117 0)).toInt < ((2 : Nat) : Int)) ⟨g380, fx_lnk g381 hA37⟩ ?_
        refine fx_n (pc' := 148) (lv' := lv) (st' := [.int (Int32.ofInt 1), .int (X.1 127 ((X.1 117 0)).toInt.toNat), .int (X.1 117 0), .ref 127]) aj_d281 rfl (Nat.le_succ _) (fun _ => rfl) ?_
        refine fx_n (pc' := 149) (lv' := lv) (st' := [.int ((X.1 127 ((X.1 117 0)).toInt.toNat) + (Int32.ofInt 1)), .int (X.1 117 0), .ref 127]) aj_d281 rfl (Nat.le_succ _) (fun _ => rfl) ?_
        refine fx_st aj_d281 (Or.inl ⟨rfl, rfl⟩) rfl (Nat.le_succ _) (fun g390 g391 => ?_)
        show fx_W _ _ _ _ _ _ (fx_wI X 127 ((X.1 117 0)).toInt.toNat ((X.1 127 ((X.1 117 0)).toInt.toNat) + (Int32.ofInt 1))) _
        refine fx_qa (c := 0 ≤ ((X.1 117 0)).toInt ∧ ((X.1 117 0)).toInt < ((2 : Nat) : Int)) ⟨g390, fx_lnk g391 hA37⟩ ?_
        refine fx_qX (fun X40 eX40 => ?_)
        show fx_W _ _ _ 150 lv [] _ _
        refine fx_i2 aj_d281 rfl (Nat.le_succ _) (fun _ => rfl) hlv_0 ?_
        refine fx_gF aj_d281 rfl (Nat.le_succ _) rfl rfl fx_in_11_11 (t := 128) rfl (fun hA41 => ?_)
        refine fx_i2 aj_d281 rfl (Nat.le_succ _) (fun _ => rfl) hlv_0 ?_
        refine fx_gI aj_d281 rfl (Nat.le_succ _) rfl rfl (Or.inl rfl) ?_
        refine fx_n (pc' := 159) (lv' := lv) (st' := [.int (X40.1 117 0), .ref 128, .int (X40.1 117 0), .ref 128]) aj_d281 rfl (Nat.le_succ _) (fun _ => rfl) ?_
        refine fx_ld aj_d281 (Or.inl rfl) rfl (Nat.le_succ _) (fun g420 g421 => ?_)
        show fx_W _ _ _ 160 lv [.int (X40.1 128 ((X40.1 117 0)).toInt.toNat), .int (X40.1 117 0), .ref 128] _ _
        refine fx_qa (c := 0 ≤ ((X40.1 117 0)).toInt ∧ ((X40.1 117 0)).toInt < ((2 : Nat) : Int)) ⟨g420, fx_lnk g421 hA41⟩ ?_
        refine fx_n (pc' := 161) (lv' := lv) (st' := [.int (Int32.ofInt 1), .int (X40.1 128 ((X40.1 117 0)).toInt.toNat), .int (X40.1 117 0), .ref 128]) aj_d281 rfl (Nat.le_succ _) (fun _ => rfl) ?_
        refine fx_n (pc' := 162) (lv' := lv) (st' := [.int ((X40.1 128 ((X40.1 117 0)).toInt.toNat) + (Int32.ofInt 1)), .int (X40.1 117 0), .ref 128]) aj_d281 rfl (Nat.le_succ _) (fun _ => rfl) ?_
        refine fx_st aj_d281 (Or.inl ⟨rfl, rfl⟩) rfl (Nat.le_succ _) (fun g430 g431 => ?_)
        show fx_W _ _ _ _ _ _ (fx_wI X40 128 ((X40.1 117 0)).toInt.toNat ((X40.1 128 ((X40.1 117 0)).toInt.toNat) + (Int32.ofInt 1))) _
        refine fx_qa (c := 0 ≤ ((X40.1 117 0)).toInt ∧ ((X40.1 117 0)).toInt < ((2 : Nat) : Int)) ⟨g430, fx_lnk g431 hA41⟩ ?_
        refine fx_qX (fun X44 eX44 => ?_)
        show fx_W _ _ _ 163 lv [] _ _
        refine fx_i2 aj_d281 rfl (Nat.le_succ _) (fun _ => rfl) hlv_0 ?_
        refine fx_n (pc' := 165) (lv' := lv) (st' := [.ref 117, .ref 117]) aj_d281 rfl (Nat.le_succ _) (fun _ => rfl) ?_
        refine fx_gL aj_d281 rfl (Nat.le_succ _) rfl rfl rfl ?_
        refine fx_n (pc' := 169) (lv' := lv) (st' := [.long (Int64.ofNat 1), .long (X44.2.1 117 68), .ref 117]) aj_d281 rfl (Nat.le_succ _) (fun _ => rfl) ?_
        refine fx_n (pc' := 170) (lv' := lv) (st' := [.long ((X44.2.1 117 68) + (Int64.ofNat 1)), .ref 117]) aj_d281 rfl (Nat.le_succ _) (fun _ => rfl) ?_
        refine fx_pL aj_d281 rfl (Nat.le_succ _) rfl rfl rfl fx_no_11_68 (by decide) ?_
        refine fx_qX (fun X45 eX45 => ?_)
        show fx_W _ _ _ 173 lv [] _ _
        refine fx_i0 aj_d281 rfl (Nat.le_succ _) (fun _ => rfl) hlv_1 ?_
        exact fx_ri aj_d281 rfl ⟨_, rfl, 0, rfl, rfl⟩
      · skip
        refine fx_qi (c := (y3).toInt < 32) (fx_f_ge q36) ?_
        show fx_W _ _ _ 117 lv [] _ _
        refine fx_i2 aj_d281 rfl (Nat.le_succ _) (fun _ => rfl) hlv_0 ?_
        refine fx_gF aj_d281 rfl (Nat.le_succ _) rfl rfl fx_in_11_12 (t := 129) rfl (fun hA46 => ?_)
        refine fx_i0 aj_d281 rfl (Nat.le_succ _) (fun _ => rfl) hlv_2 ?_
        refine fx_i0 aj_d281 rfl (Nat.le_succ _) (fun _ => rfl) hlv_3 ?_
        refine fx_n (pc' := 124) (lv' := lv) (st' := [.int (y2 + y3), .ref 129]) aj_d281 rfl (Nat.le_succ _) (fun _ => rfl) ?_
        refine fx_i2 aj_d281 rfl (Nat.le_succ _) (fun _ => rfl) hlv_0 ?_
        refine fx_gF aj_d281 rfl (Nat.le_succ _) rfl rfl fx_in_11_21 (t := 137) rfl (fun hA47 => ?_)
        refine fx_i0 aj_d281 rfl (Nat.le_succ _) (fun _ => rfl) hlv_3 ?_
        refine fx_ld aj_d281 (Or.inl rfl) rfl (Nat.le_succ _) (fun g480 g481 => ?_)
        show fx_W _ _ _ 130 lv [.int (X.1 137 (y3).toInt.toNat), .int (y2 + y3), .ref 129] _ _
        refine fx_qa (c := 0 ≤ (y3).toInt ∧ (y3).toInt < ((1024 : Nat) : Int)) ⟨g480, fx_lnk g481 hA47⟩ ?_
        refine fx_st aj_d281 (Or.inl ⟨rfl, rfl⟩) rfl (Nat.le_succ _) (fun g490 g491 => ?_)
        show fx_W _ _ _ _ _ _ (fx_wI X 129 ((y2 + y3)).toInt.toNat (X.1 137 (y3).toInt.toNat)) _
        refine fx_qa (c := 0 ≤ ((y2 + y3)).toInt ∧ ((y2 + y3)).toInt < ((1280 : Nat) : Int)) ⟨g490, fx_lnk g491 hA46⟩ ?_
        refine fx_qX (fun X50 eX50 => ?_)
        show fx_W _ _ _ 131 lv [] _ _
        refine fx_incq aj_d281 rfl (Nat.le_succ _) hlv_3 (by decide) (fun x51 ex51 => ?_)
        obtain ⟨lv52, elv52⟩ : ∃ l, l = aj_set1 lv 3 (.int x51) := ⟨_, rfl⟩
        rw [← elv52]
        have hlv52_0 : aj_lv lv52 0 = some (.ref 117) := fx_e1 elv52 hlv_0 (by decide) (Or.inl (by decide))
        have hlv52_1 : aj_lv lv52 1 = some (.int y1) := fx_e1 elv52 hlv_1 (by decide) (Or.inl (by decide))
        have hlv52_2 : aj_lv lv52 2 = some (.int y2) := fx_e1 elv52 hlv_2 (by decide) (Or.inr rfl)
        have hlv52_3 : aj_lv lv52 3 = some (.int x51) := by rw [elv52]; exact ak_set1_eq _ _ _
        show fx_W _ _ _ 134 lv52 [] _ _
        refine fx_n (pc' := 111) (lv' := lv52) (st' := []) aj_d281 rfl (Nat.le_succ _) (fun _ => rfl) ?_
        exact (ih.2) lv52 (y1) (y2) (x51) X50  hlv52_0 hlv52_1 hlv52_2 hlv52_3
theorem gx_281_ok {tb : aj_T} {X : fx_X} : fx_K tb 281 [.ref 117] X (fx_Q fx_qI (fun v X' => gx_281 X v X')) := by
  refine fx_m aj_m281_at rfl (fun N => ?_)
  refine fx_mono (Q := fx_Q fx_qI (fun v X' => ∃ n : Nat, gxE_281 (gxF_281 n) X v X')) (fun r X' h => h) ?_
  unfold gxE_281
  show fx_W _ _ _ 0 [(0, .ref 117)] [] _ _
  obtain ⟨lv1, elv1⟩ : ∃ l : aj_V, l = [(0, .ref 117)] := ⟨_, rfl⟩
  rw [← elv1]
  have hlv1_0 : aj_lv lv1 0 = some (.ref 117) := by rw [elv1]; rfl
  refine fx_i2 aj_d281 rfl (Nat.le_succ _) (fun _ => rfl) hlv1_0 ?_
  refine fx_cv aj_d281 rfl (Nat.le_succ _) rfl [] rfl rfl (gx_282_ok) ?_
  rintro _ X2 ⟨w3, rfl, hR2⟩ hok2 hle2
  refine fx_qc hR2 ?_
  show fx_W _ _ _ 4 lv1 [.int w3] _ _
  refine fx_b0 (tgt := 9) aj_d281 rfl (Nat.le_succ _) rfl (fun q4 => ?_) (fun q4 => ?_)
  · skip
    refine fx_qe (c := (w3).toInt = 0) (fx_t_ne q4) ?_
    show fx_W _ _ _ 9 lv1 [] _ _
    refine fx_n (pc' := 10) (lv' := lv1) (st' := [.int (Int32.ofInt 0)]) aj_d281 rfl (Nat.le_succ _) (fun _ => rfl) ?_
    refine fx_s0 (j := 1) aj_d281 rfl (Nat.le_succ _) (by decide) (fun _ => rfl) ?_
    obtain ⟨lv5, elv5⟩ : ∃ l, l = aj_set1 lv1 1 (.int (Int32.ofInt 0)) := ⟨_, rfl⟩
    rw [← elv5]
    have hlv5_0 : aj_lv lv5 0 = some (.ref 117) := fx_e1 elv5 hlv1_0 (by decide) (Or.inr rfl)
    have hlv5_1 : aj_lv lv5 1 = some (.int (Int32.ofInt 0)) := by rw [elv5]; exact ak_set1_eq _ _ _
    show fx_W _ _ _ 11 lv5 [] _ _
    refine fx_n (pc' := 12) (lv' := lv5) (st' := [.int (Int32.ofInt 0)]) aj_d281 rfl (Nat.le_succ _) (fun _ => rfl) ?_
    refine fx_s0 (j := 2) aj_d281 rfl (Nat.le_succ _) (by decide) (fun _ => rfl) ?_
    obtain ⟨lv6, elv6⟩ : ∃ l, l = aj_set1 lv5 2 (.int (Int32.ofInt 0)) := ⟨_, rfl⟩
    rw [← elv6]
    have hlv6_0 : aj_lv lv6 0 = some (.ref 117) := fx_e1 elv6 hlv5_0 (by decide) (Or.inl (by decide))
    have hlv6_1 : aj_lv lv6 1 = some (.int (Int32.ofInt 0)) := fx_e1 elv6 hlv5_1 (by decide) (Or.inr rfl)
    have hlv6_2 : aj_lv lv6 2 = some (.int (Int32.ofInt 0)) := by rw [elv6]; exact ak_set1_eq _ _ _
    show fx_W _ _ _ 13 lv6 [] _ _
    exact ((gxL_281 N).1) lv6 ((Int32.ofInt 0)) ((Int32.ofInt 0)) X2  hlv6_0 hlv6_1 hlv6_2
  · skip
    refine fx_qi (c := (w3).toInt = 0) (fx_f_ne q4) ?_
    show fx_W _ _ _ 7 lv1 [] _ _
    refine fx_n (pc' := 8) (lv' := lv1) (st' := [.int (Int32.ofInt (-1))]) aj_d281 rfl (Nat.le_succ _) (fun _ => rfl) ?_
    exact fx_ri aj_d281 rfl ⟨_, rfl, 0, rfl, rfl⟩
