/-! THE CLASS'S CHECKER: what it looks up -/
def cx_sl (s : Nat × Nat) : Prop := (s.1 = 62 ∧ s.2 < 10) ∨ (s.1 = 74 ∧ s.2 < 10) ∨ (s.1 = 101 ∧ s.2 < 20) ∨ (s.1 = 95 ∧ s.2 = 5)
/-- all ROWS are apart -/
def cx_O (X : fx_X) : Prop := 150 ≤ X.2.2.2.2 ∧ (∀ s r, cx_sl s → X.2.2.1 s.1 s.2 = some r → (r = 102 ∨ 150 ≤ r) ∧ r + 4 ≤ X.2.2.2.2) ∧ (∀ s s' r r', cx_sl s → cx_sl s' → X.2.2.1 s.1 s.2 = some r → X.2.2.1 s'.1 s'.2 = some r' → s = s' ∨ r + 4 ≤ r' ∨ r' + 4 ≤ r)
def cx_vs (X : fx_X) (sr u : Nat) (vs : List Int32) : Prop := (X.1 (sr + 2) u).toInt = (vs.length : Int) ∧ ∀ i v, vs[i]? = some v → X.1 (sr + 3) (64 * u + i) = v
def cx_U (X : fx_X) (sr : Nat) (U : md_U) : Prop := (X.1 sr 11).toInt = (U.length : Int) ∧ (X.1 sr 13).toInt = (md_all U : Int) ∧ ∀ u x, U[u]? = some x → X.2.1 (sr + 1) u = x.1 ∧ cx_vs X sr u x.2
def cx_cu (X : fx_X) (sr n : Nat) (cu : Option (Int64 × List Int32)) : Prop := ∀ x, cu = some x → X.2.1 (sr + 1) n = x.1 ∧ cx_vs X sr n x.2
def cx_T1 (X : fx_X) (sr : Nat) (hz : Prop) (t : Nat) (x : Int64 × Bool × List Int64) : Prop := X.2.1 (sr + 9) t = x.1 ∧ (X.1 (sr + 11) t).toInt = (if x.2.1 = true then 1 else 0) ∧ ∃ r, X.2.2.1 (sr + 8) t = some r ∧ (X.1 r 3).toInt = (x.2.2.length : Int) ∧ (hz → (X.1 r 4).toInt = 0) ∧ ∀ c n, x.2.2[c]? = some n → X.2.1 (sr + 10) (6 * t + c) = n
def cx_TB (X : fx_X) (sr : Nat) (hz : Prop) (TB : md_TB) : Prop := (X.1 sr 12).toInt = (TB.length : Int) ∧ ∀ t x, TB[t]? = some x → cx_T1 X sr hz t x
def cx_lv (X : fx_X) : List (List Int64) → Prop
  | [] => True
  | cs :: sk => ((X.1 93 sk.length).toInt = (cs.length : Int) ∧ ∀ c n, cs[c]? = some n → X.2.1 92 (6 * sk.length + c) = n) ∧ cx_lv X sk
def cx_pk (X : fx_X) (pk : List Int64) : Prop := (X.1 91 7).toInt = (pk.length : Int) ∧ ∀ i n, pk[i]? = some n → X.2.1 94 i = n
def cx_CS (X : fx_X) (sr : Nat) (hz : Prop) (s : md_CS) : Prop := md_gd s ∧ cx_U X sr s.1 ∧ cx_cu X sr s.1.length s.2.1 ∧ cx_TB X sr hz s.2.2.1 ∧ ((X.1 91 5).toInt = (s.2.2.2.2.1.length : Int) ∧ cx_lv X s.2.2.2.2.1) ∧ cx_pk X s.2.2.2.2.2.1 ∧ X.2.1 91 8 = s.2.2.2.2.2.2 ∧ cx_O X ∧ X.2.2.1 91 2 = some sr ∧ (sr = 54 ∨ sr = 66)
/-- the note -/
def cx_N (X : fx_X) (i : Nat) (e : md_Ev) : Prop := i < 2500 ∧ (X.1 83 i).toInt = e.1 ∧ (X.1 84 i).toInt = (e.2.1 : Int) ∧ (X.1 85 i).toInt = (e.2.2 : Int)
theorem md_drop {α : Type} {l : List α} {k : Nat} {x : α} (h : l[k]? = some x) : l.drop k = x :: l.drop (k + 1) := by
  obtain ⟨h1, h2⟩ := List.getElem?_eq_some_iff.mp h
  rw [List.drop_eq_getElem_cons h1, h2]
theorem cx_inc {y : Int32} {k : Nat} (hk : y.toInt = (k : Int)) (h : k ≤ 1000000) : (y + Int32.ofInt 1).toInt = ((k + 1 : Nat) : Int) := by
  rw [fx_add (by rw [hk]; show -2147483648 ≤ (k : Int) + 1; omega) (by rw [hk]; show (k : Int) + 1 ≤ 2147483647; omega), hk]; rfl
theorem cx_dec {y : Int32} {k : Nat} (hk : y.toInt = ((k + 1 : Nat) : Int)) (h : k ≤ 1000000) : (y - Int32.ofInt 1).toInt = (k : Int) := by
  rw [fx_sub (by rw [hk]; show -2147483648 ≤ ((k + 1 : Nat) : Int) - 1; omega) (by rw [hk]; show ((k + 1 : Nat) : Int) - 1 ≤ 2147483647; omega), hk]
  show ((k + 1 : Nat) : Int) - 1 = _
  omega
theorem cx_6 {x y : Int32} {a b : Nat} (hx : x.toInt = (a : Int)) (hy : y.toInt = (b : Int)) (h : a ≤ 1000) (h2 : b ≤ 1000) : (x * ((Int8.ofInt 6).toInt32) + y).toInt = ((6 * a + b : Nat) : Int) := by
  have e : ((Int8.ofInt 6).toInt32).toInt = 6 := by decide
  have e2 : (x * ((Int8.ofInt 6).toInt32)).toInt = (a : Int) * 6 := by
    rw [fx_mul (by rw [hx, e]; omega) (by rw [hx, e]; omega), hx, e]
  rw [fx_add (by rw [e2, hy]; omega) (by rw [e2, hy]; omega), e2, hy]
  omega
section CX15
variable {X X' : fx_X} {T : md_T} {v p p0 p1 p2 : Int32} {w q : Int64} {u : Unit} {sr i k near lead : Nat} {U : md_U} {TB : md_TB} {sk : List (List Int64)} {pk cs : List Int64} {hz : Prop} {a : Int}
theorem cx_60 (hT : cx_Tk X T) (hN : cx_N X i (a, near, lead)) (hp : p.toInt = (i : Int)) (g : gx_60 p X w X') : X = X' ∧ w = T.2 near := by
  obtain ⟨w5, X4, r, w7, X6, r2, rfl, rfl⟩ := g
  obtain ⟨rfl, rfl⟩ := cx_61 hp hN.1 r
  exact cx_37T hT hN.2.2.1 r2
theorem cx_84l (hU : cx_U X sr U) (h8 : U.length ≤ 8) : ∀ (n k : Nat) (y3 : Int32), y3.toInt = (k : Int) → k ≤ U.length → gxF_84 sr w n 2 [y3] [] [] X v X' → X = X' ∧ v.toInt = md_ix w ((U.map (·.1)).drop k) k := by
  intro n
  induction n with
  | zero => intro k y3 _ _ g; exact g.elim
  | succ n ih =>
    intro k y3 hk hkl g
    replace g := gxO_84_2 g
    unfold gxT_84_2 at g
    have h1 := hU.1
    by_cases z : k < U.length
    · rw [if_pos (by omega), if_pos (by omega), fx_in hk] at g
      replace g := g.2
      obtain ⟨x, hx⟩ : ∃ x, U[k]? = some x := ⟨U[k], List.getElem?_eq_getElem z⟩
      have e1 := (hU.2.2 k x hx).1
      have e2 : (U.map (·.1))[k]? = some x.1 := by rw [List.getElem?_map, hx]; rfl
      rw [md_drop e2]
      show X = X' ∧ v.toInt = if x.1 = w then (k : Int) else md_ix w ((U.map (·.1)).drop (k + 1)) (k + 1)
      rw [e1] at g
      rcases fy_ifd g with ⟨c, g⟩ | ⟨c, g⟩
      · rw [if_pos c]; exact ⟨g.2.symm, by rw [g.1]; exact hk⟩
      · rw [if_neg c]
        obtain ⟨x9, rfl, g⟩ := g
        exact ih (k + 1) _ (cx_inc hk (by omega)) (by omega) g
    · rw [if_neg (by omega)] at g
      have e : k = (U.map (·.1)).length := by rw [List.length_map]; omega
      rw [e, List.drop_length]
      exact ⟨g.2.symm, by rw [g.1]; rfl⟩
theorem cx_84 (hU : cx_U X sr U) (h8 : U.length ≤ 8) (g : gx_84 sr w X v X') : X = X' ∧ v.toInt = md_ix w (U.map (·.1)) 0 := by
  obtain ⟨n, g⟩ := g
  exact cx_84l hU h8 n 0 _ rfl (Nat.zero_le _) g
theorem cx_62l (hU : cx_TB X sr hz TB) (h8 : TB.length ≤ 10) : ∀ (n k : Nat) (y3 : Int32), y3.toInt = (k : Int) → k ≤ TB.length → gxF_62 sr w n 2 [y3] [] [] X v X' → X = X' ∧ v.toInt = md_ix w ((TB.map (·.1)).drop k) k := by
  intro n
  induction n with
  | zero => intro k y3 _ _ g; exact g.elim
  | succ n ih =>
    intro k y3 hk hkl g
    replace g := gxO_62_2 g
    unfold gxT_62_2 at g
    have h1 := hU.1
    by_cases z : k < TB.length
    · rw [if_pos (by omega), if_pos (by omega), fx_in hk] at g
      replace g := g.2
      obtain ⟨x, hx⟩ : ∃ x, TB[k]? = some x := ⟨TB[k], List.getElem?_eq_getElem z⟩
      have e1 := (hU.2 k x hx).1
      have e2 : (TB.map (·.1))[k]? = some x.1 := by rw [List.getElem?_map, hx]; rfl
      rw [md_drop e2]
      show X = X' ∧ v.toInt = if x.1 = w then (k : Int) else md_ix w ((TB.map (·.1)).drop (k + 1)) (k + 1)
      rw [e1] at g
      rcases fy_ifd g with ⟨c, g⟩ | ⟨c, g⟩
      · rw [if_pos c]; exact ⟨g.2.symm, by rw [g.1]; exact hk⟩
      · rw [if_neg c]
        obtain ⟨x9, rfl, g⟩ := g
        exact ih (k + 1) _ (cx_inc hk (by omega)) (by omega) g
    · rw [if_neg (by omega)] at g
      have e : k = (TB.map (·.1)).length := by rw [List.length_map]; omega
      rw [e, List.drop_length]
      exact ⟨g.2.symm, by rw [g.1]; rfl⟩
theorem cx_62 (hU : cx_TB X sr hz TB) (h8 : TB.length ≤ 10) (g : gx_62 sr w X v X') : X = X' ∧ v.toInt = md_ix w (TB.map (·.1)) 0 := by
  obtain ⟨n, g⟩ := g
  exact cx_62l hU h8 n 0 _ rfl (Nat.zero_le _) g
theorem cx_63 {o : Option Nat} (hU : cx_TB X sr hz TB) (h8 : TB.length ≤ 10) (g : gx_63 sr p X o X') : X = X' ∧ ((p.toInt < 0 ∧ o = none) ∨ ((TB.length : Int) ≤ p.toInt ∧ o = none) ∨ ∃ t x r, p.toInt = (t : Nat) ∧ TB[t]? = some x ∧ o = some r ∧ X.2.2.1 (sr + 8) t = some r ∧ (X.1 r 3).toInt = (x.2.2.length : Int)) := by
  unfold gx_63 at g
  have h1 := hU.1
  rcases fy_ifd g with ⟨c, g⟩ | ⟨c, g⟩
  · exact ⟨g.2.symm, Or.inl ⟨c, g.1⟩⟩
  rcases fy_ifd g with ⟨c1, g⟩ | ⟨c1, g⟩
  · rw [if_pos (by omega)] at g
    obtain ⟨t, ht⟩ : ∃ t : Nat, p.toInt = (t : Int) := ⟨p.toInt.toNat, by omega⟩
    rw [fx_in ht] at g
    replace g := g.2
    obtain ⟨x, hx⟩ : ∃ x, TB[t]? = some x := ⟨TB[t]'(by omega), List.getElem?_eq_getElem (by omega)⟩
    obtain ⟨a1, a2, r, a3, a4, a5⟩ := hU.2 t x hx
    rcases g with ⟨e, -, -⟩ | ⟨b, e, rfl, rfl⟩
    · rw [a3] at e; cases e
    · rw [a3] at e; cases e
      exact ⟨rfl, Or.inr (Or.inr ⟨t, x, r, ht, hx, rfl, a3, a4⟩)⟩
  · exact ⟨g.2.symm, Or.inr (Or.inl ⟨by omega, g.1⟩)⟩
/-- the level's COLUMNS -/
def cx_l1 (X : fx_X) (d : Nat) (cs : List Int64) : Prop := (X.1 93 d).toInt = (cs.length : Int) ∧ ∀ c n, cs[c]? = some n → X.2.1 92 (6 * d + c) = n
theorem cx_69 (h : cx_l1 X i cs) (hi : i < 20) (hp : p.toInt = (i : Int)) (g : gx_69 p X v X') : X = X' ∧ v.toInt = (cs.length : Int) := by
  unfold gx_69 at g
  rw [if_neg (by omega), if_pos (by omega), fx_in hp] at g
  exact ⟨g.2.2.symm, by rw [g.2.1]; exact h.1⟩
theorem cx_70 (h : cx_l1 X i cs) (hi : i < 20) (hc : cs.length ≤ 6) (hp : p.toInt = (i : Int)) {c : Nat} {n : Int64} (hp2 : p2.toInt = (c : Int)) (hn : cs[c]? = some n) (g : gx_70 p p2 X w X') : X = X' ∧ w = n := by
  have hl := (List.getElem?_eq_some_iff.mp hn).1
  obtain ⟨x2, rfl, g⟩ := g
  have e := cx_6 hp hp2 (by omega) (by omega)
  rw [if_neg (by omega), if_neg (by omega), if_pos (by omega), if_pos (by omega), fx_in e] at g
  exact ⟨g.2.2.symm, by rw [g.2.1]; exact h.2 c n hn⟩
theorem cx_74l (h : cx_l1 X i cs) (hi : i < 20) (hc : cs.length ≤ 6) (hp : p.toInt = (i : Int)) : ∀ (n k : Nat) (y3 : Int32), y3.toInt = (k : Int) → k ≤ cs.length → gxF_74 p w n 3 [y3] [] [] X v X' → X = X' ∧ v.toInt = md_ix w (cs.drop k) k := by
  intro n
  induction n with
  | zero => intro k y3 _ _ g; exact g.elim
  | succ n ih =>
    intro k y3 hk hkl g
    replace g := gxO_74_3 g
    obtain ⟨w4, X3, r, g⟩ := g
    obtain ⟨rfl, e⟩ := cx_69 h hi hp r
    by_cases z : k < cs.length
    · rw [if_pos (by omega)] at g
      obtain ⟨w7, X6, r2, g⟩ := g
      obtain ⟨x, hx⟩ : ∃ x, cs[k]? = some x := ⟨cs[k], List.getElem?_eq_getElem z⟩
      obtain ⟨rfl, rfl⟩ := cx_70 h hi hc hp hk hx r2
      rw [md_drop hx]
      show X = X' ∧ v.toInt = if w7 = w then (k : Int) else md_ix w (cs.drop (k + 1)) (k + 1)
      rcases fy_ifd g with ⟨c, g⟩ | ⟨c, g⟩
      · rw [if_pos c]; exact ⟨g.2.symm, by rw [g.1]; exact hk⟩
      · rw [if_neg c]
        obtain ⟨x9, rfl, g⟩ := g
        exact ih (k + 1) _ (cx_inc hk (by omega)) (by omega) g
    · rw [if_neg (by omega)] at g
      have e : k = cs.length := by omega
      rw [e, List.drop_length]
      exact ⟨g.2.symm, by rw [g.1]; rfl⟩
theorem cx_74 (h : cx_l1 X i cs) (hi : i < 20) (hc : cs.length ≤ 6) (hp : p.toInt = (i : Int)) (g : gx_74 p w X v X') : X = X' ∧ v.toInt = md_ix w cs 0 := by
  obtain ⟨n, g⟩ := g
  exact cx_74l h hi hc hp n 0 _ rfl (Nat.zero_le _) g
theorem cx_68l {j : Nat} {ds : List Int64} (h : cx_l1 X i cs) (hi : i < 20) (hc : cs.length ≤ 6) (hp : p1.toInt = (i : Int)) (h' : cx_l1 X j ds) (hj : j < 20) (hd : ds.length = cs.length) (hp2 : p2.toInt = (j : Int)) : ∀ (n k : Nat) (y3 : Int32), y3.toInt = (k : Int) → k ≤ cs.length → gxF_68 p1 p2 n 17 [y3] [] [] X v X' → X = X' ∧ ((cs.drop k = ds.drop k ∧ v.toInt = 1) ∨ (cs.drop k ≠ ds.drop k ∧ v.toInt = 0)) := by
  intro n
  induction n with
  | zero => intro k y3 _ _ g; exact g.elim
  | succ n ih =>
    intro k y3 hk hkl g
    replace g := gxO_68_17 g
    obtain ⟨w4, X3, r, g⟩ := g
    obtain ⟨rfl, e⟩ := cx_69 h hi hp r
    by_cases z : k < cs.length
    · rw [if_pos (by omega)] at g
      obtain ⟨w7, X6, r2, w8, X7, r3, g⟩ := g
      obtain ⟨x, hx⟩ : ∃ x, cs[k]? = some x := ⟨cs[k], List.getElem?_eq_getElem z⟩
      obtain ⟨y, hy⟩ : ∃ y, ds[k]? = some y := ⟨ds[k]'(by omega), List.getElem?_eq_getElem (by omega)⟩
      obtain ⟨rfl, rfl⟩ := cx_70 h hi hc hp hk hx r2
      obtain ⟨rfl, rfl⟩ := cx_70 h' hj (by omega) hp2 hk hy r3
      rw [md_drop hx, md_drop hy]
      replace g := fy_ifd g
      rcases g with ⟨c, g⟩ | ⟨c, g⟩
      · subst c
        obtain ⟨x9, rfl, g⟩ := g
        obtain ⟨e1, e2⟩ := ih (k + 1) _ (cx_inc hk (by omega)) (by omega) g
        refine ⟨e1, ?_⟩
        rcases e2 with ⟨e2, e3⟩ | ⟨e2, e3⟩
        · exact Or.inl ⟨by rw [e2], e3⟩
        · exact Or.inr ⟨fun z => e2 (List.cons.inj z).2, e3⟩
      · exact ⟨g.2.symm, Or.inr ⟨fun z => c (List.cons.inj z).1, by rw [g.1]; rfl⟩⟩
    · rw [if_neg (by omega)] at g
      have e : k = cs.length := by omega
      refine ⟨g.2.symm, Or.inl ⟨?_, by rw [g.1]; rfl⟩⟩
      rw [e, List.drop_length, ← hd, List.drop_length]
theorem cx_68 {j : Nat} {ds : List Int64} (h : cx_l1 X i cs) (hi : i < 20) (hc : cs.length ≤ 6) (hp : p1.toInt = (i : Int)) (h' : cx_l1 X j ds) (hj : j < 20) (hp2 : p2.toInt = (j : Int)) (g : gx_68 p1 p2 X v X') : X = X' ∧ ((cs = ds ∧ v.toInt = 1) ∨ (cs ≠ ds ∧ v.toInt = 0)) := by
  obtain ⟨n, w3, X2, r1, w5, X4, r2, g⟩ := g
  obtain ⟨rfl, e1⟩ := cx_69 h hi hp r1
  obtain ⟨rfl, e2⟩ := cx_69 h' hj hp2 r2
  rcases fy_ifd g with ⟨c, g⟩ | ⟨c, g⟩
  · exact cx_68l h hi hc hp h' hj (by omega) hp2 n 0 _ rfl (Nat.zero_le _) g
  · exact ⟨g.2.symm, Or.inr ⟨fun z => by rw [z] at e1; omega, by rw [g.1]; rfl⟩⟩
theorem cx_76l (h : cx_pk X pk) (hc : pk.length ≤ 6) : ∀ (n k : Nat) (y3 : Int32), y3.toInt = (k : Int) → k ≤ pk.length → gxF_76 w n 2 [y3] [] [] X v X' → X = X' ∧ ((w ∈ pk.drop k ∧ v.toInt = 1) ∨ (w ∉ pk.drop k ∧ v.toInt = 0)) := by
  intro n
  induction n with
  | zero => intro k y3 _ _ g; exact g.elim
  | succ n ih =>
    intro k y3 hk hkl g
    replace g := gxO_76_2 g
    unfold gxT_76_2 at g
    have h1 := h.1
    by_cases z : k < pk.length
    · rw [if_pos (by omega), if_pos (by omega), fx_in hk] at g
      replace g := g.2
      obtain ⟨x, hx⟩ : ∃ x, pk[k]? = some x := ⟨pk[k], List.getElem?_eq_getElem z⟩
      rw [h.2 k x hx] at g
      rw [md_drop hx]
      rcases fy_ifd g with ⟨c, g⟩ | ⟨c, g⟩
      · exact ⟨g.2.symm, Or.inl ⟨by rw [c]; exact List.mem_cons_self, by rw [g.1]; rfl⟩⟩
      · obtain ⟨x9, rfl, g⟩ := g
        obtain ⟨e1, e2⟩ := ih (k + 1) _ (cx_inc hk (by omega)) (by omega) g
        refine ⟨e1, ?_⟩
        rcases e2 with ⟨e2, e3⟩ | ⟨e2, e3⟩
        · exact Or.inl ⟨List.mem_cons_of_mem _ e2, e3⟩
        · refine Or.inr ⟨fun z => ?_, e3⟩
          rcases List.mem_cons.mp z with z | z
          · exact c z.symm
          · exact e2 z
    · rw [if_neg (by omega)] at g
      have e : k = pk.length := by omega
      refine ⟨g.2.symm, Or.inr ⟨?_, by rw [g.1]; rfl⟩⟩
      rw [e, List.drop_length]
      exact List.not_mem_nil
theorem cx_76 (h : cx_pk X pk) (hc : pk.length ≤ 6) (g : gx_76 w X v X') : X = X' ∧ ((w ∈ pk ∧ v.toInt = 1) ∨ (w ∉ pk ∧ v.toInt = 0)) := by
  obtain ⟨n, g⟩ := g
  exact cx_76l h hc n 0 _ rfl (Nat.zero_le _) g
theorem cx_82 (hT : cx_Tk X T) (hN : cx_N X i (a, near, lead)) (hn : near ≤ 2000) (hp : p.toInt = (i : Int)) (g : gx_82 p X v X') : X = X' ∧ v = md_it T near := by
  obtain ⟨w5, X4, r, w7, X6, r2, rfl, rfl⟩ := g
  obtain ⟨rfl, rfl⟩ := cx_61 hp hN.1 r
  have hk : (X.1 84 i).toInt = (near : Int) := hN.2.2.1
  have hk1 := cx_inc hk (by omega)
  unfold gx_83 at r2
  unfold md_it
  rw [if_neg (by omega)] at r2
  by_cases z : near + 1 < 1002
  · rw [if_pos (by omega), if_pos (by omega), fx_in hk, fx_in hk1] at r2
    rw [if_pos z]
    replace r2 := r2.2
    have e1 : T.1 near = (X.1 79 near).toInt := by rw [(hT near).1, if_pos (by omega)]
    have e2 : T.2 near = X.2.1 81 near := by rw [(hT near).2, if_pos (by omega)]
    have e3 : T.2 (near + 1) = X.2.1 81 (near + 1) := by rw [(hT (near + 1)).2, if_pos z]
    rw [e1, e2, e3]
    rcases fy_ifd r2 with ⟨c, r2⟩ | ⟨c, r2⟩
    · rw [if_pos c]; exact ⟨r2.2.2.symm, r2.2.1⟩
    · rw [if_neg c]; exact ⟨r2.2.2.symm, r2.2.1⟩
  · rw [if_neg (by omega)] at r2
    rw [if_neg z]
    exact ⟨r2.2.symm, r2.1⟩
theorem cx_66 {t c : Nat} {x : Int64 × Bool × List Int64} {n : Int64} (hU : ∀ c n, x.2.2[c]? = some n → X.2.1 (sr + 10) (6 * t + c) = n) (ht : t < 10) (h6 : x.2.2.length ≤ 6) (hp1 : p1.toInt = (t : Int)) (hp2 : p2.toInt = (c : Int)) (hn : x.2.2[c]? = some n) (g : gx_66 sr p1 p2 X w X') : X = X' ∧ w = n := by
  have hl := (List.getElem?_eq_some_iff.mp hn).1
  obtain ⟨x2, rfl, g⟩ := g
  have e := cx_6 hp1 hp2 (by omega) (by omega)
  rw [if_neg (by omega), if_pos (by omega), if_neg (by omega), if_pos (by omega), if_pos (by omega), fx_in e] at g
  exact ⟨g.2.2.symm, by rw [g.2.1]; exact hU c n hn⟩
theorem cx_95 {t : Nat} {x : Int64 × Bool × List Int64} (hU : cx_TB X sr hz TB) (h8 : TB.length ≤ 10) (hx : TB[t]? = some x) (hp1 : p1.toInt = (t : Int)) (g : gx_95 sr p1 X v X') : X = X' ∧ v.toInt = (if x.2.1 = true then 1 else 0) := by
  have hl := (List.getElem?_eq_some_iff.mp hx).1
  have h1 := hU.1
  unfold gx_95 at g
  rw [if_neg (by omega), if_pos (by omega), if_pos (by omega), fx_in hp1] at g
  replace g := g.2
  have e := (hU.2 t x hx).2.1
  rw [e] at g
  cases hb : x.2.1 with
  | true => rw [hb] at g; rw [if_neg (by decide)] at g; exact ⟨g.2.symm, by rw [g.1]; rfl⟩
  | false => rw [hb] at g; rw [if_pos (by decide)] at g; exact ⟨g.2.symm, by rw [g.1]; rfl⟩
end CX15
