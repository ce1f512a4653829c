/-! THE CLASS: WORLDS counted; what was learned last dropped -/
section CE01
variable {X X' X0 X1 : fx_X} {v p1 y1 y2 y3 : Int32} {u : Unit} {sr W n k : Nat} {L : List Nat} {pt : List (Nat → Bool)} {f x : Nat → Bool}
theorem cx_157l (hs : sr = 54 ∨ sr = 66) (hW : W ≤ 1024) (hd : cx_hd X sr L) (hL : ∀ w, w ∈ L → w < W) (hl : L.length ≤ W) (hx : ∀ w, w < W → fx_ib (X.1 106 w) 0 = x w) : ∀ (d k n : Nat) (y2 y3 : Int32), k + d = L.length → y3.toInt = (k : Int) → y2.toInt = ((((L.take k).filter x).length : Nat) : Int) → gxF_157 sr n 4 [y2, y3] [] [] X v X' → X = X' ∧ v.toInt = (((L.filter x).length : Nat) : Int) := by
  intro d
  induction d with
  | zero =>
    intro k n y2 y3 hkd h3 h2 g
    cases n with
    | zero => exact g.elim
    | succ n =>
      replace g := gxO_157_4 g
      unfold gxT_157_4 at g
      have h14 := hd.1
      rw [if_neg (by omega)] at g
      rw [List.take_of_length_le (by omega)] at h2
      exact ⟨g.2.symm, by rw [g.1]; exact h2⟩
  | succ d ih =>
    intro k n y2 y3 hkd h3 h2 g
    cases n with
    | zero => exact g.elim
    | succ n =>
      replace g := gxO_157_4 g
      unfold gxT_157_4 at g
      have h14 := hd.1
      have hkl : k < L.length := by omega
      obtain ⟨w, hw⟩ : ∃ w, L[k]? = some w := ⟨L[k], List.getElem?_eq_getElem hkl⟩
      have hwW := hL w (List.mem_of_getElem? hw)
      rw [if_pos (by omega)] at g
      obtain ⟨w6, X5, r1, w8, X7, r2, g1⟩ := g
      unfold gx_158 at r1
      rw [if_neg (by omega), if_pos (by omega), if_pos (by omega), fx_in h3] at r1
      obtain ⟨-, e6, e5⟩ := r1
      subst e5
      have i6 : w6.toInt = (w : Int) := by rw [e6]; exact hd.2 k w hw
      obtain ⟨e7, v8⟩ := cx_147 hx hW hwW i6 r2
      subst e7
      have htk : (L.take (k + 1)).filter x = (L.take k).filter x ++ (if x w = true then [w] else []) := by
        rw [List.take_succ, hw, List.filter_append]
        congr 1
        show List.filter x [w] = _
        by_cases z : x w = true
        · rw [if_pos z, List.filter_cons, if_pos z]; rfl
        · rw [if_neg z, List.filter_cons, if_neg z]; rfl
      have hle : ((L.take k).filter x).length ≤ k := by
        have h1 := List.length_filter_le x (L.take k)
        rw [List.length_take] at h1
        omega
      have nx := cx_inc h3 (by omega)
      cases hxw : x w with
      | false =>
        rw [hxw, if_neg (by decide)] at v8
        subst v8
        rw [if_pos (by decide)] at g1
        obtain ⟨x10, e10, g2⟩ := g1
        refine ih (k + 1) n y2 x10 (by omega) (by rw [e10]; exact nx) ?_ g2
        rw [htk, hxw, if_neg (by decide), List.append_nil]
        exact h2
      | true =>
        rw [hxw, if_pos rfl] at v8
        subst v8
        rw [if_neg (by decide)] at g1
        obtain ⟨x12, e12, x14, e14, g2⟩ := g1
        refine ih (k + 1) n x12 x14 (by omega) (by rw [e14]; exact nx) ?_ g2
        rw [htk, hxw, if_pos rfl, List.length_append, e12]
        exact cx_inc h2 (by omega)
theorem md_hl_app : (md_hl W pt).filter x = md_hl W (pt ++ [x]) := by
  unfold md_hl
  rw [List.filter_filter]
  congr 1
  funext w
  rw [List.all_append]
  show (x w && pt.all (fun p => p w)) = (pt.all (fun p => p w) && (x w && true))
  rw [Bool.and_true, Bool.and_comm]
theorem md_hl_le : (md_hl W pt).length ≤ W := by
  have := List.length_filter_le (fun w => pt.all (fun p => p w)) (List.range W)
  rw [List.length_range] at this
  exact this
theorem md_hl_lt {w : Nat} (h : w ∈ md_hl W pt) : w < W := List.mem_range.mp (List.mem_filter.mp h).1
theorem cx_157 (hs : sr = 54 ∨ sr = 66) (hW : W ≤ 1024) (hd : cx_hd X sr (md_hl W pt)) (hx : ∀ w, w < W → fx_ib (X.1 106 w) 0 = x w) (g : gx_157 sr X v X') : X = X' ∧ v.toInt = (((md_hl W (pt ++ [x])).length : Nat) : Int) := by
  obtain ⟨n, g⟩ := g
  have := cx_157l hs hW hd (fun w hw => md_hl_lt hw) md_hl_le hx _ 0 n _ _ (Nat.zero_add _) rfl rfl g
  rw [md_hl_app] at this
  exact this
/-- the last of what is so, dropped -/
theorem cx_160l (hs : sr = 54 ∨ sr = 66) (hW : W ≤ 1024) (hpt20 : pt.length < 20) (h13 : (X0.1 sr 13).toInt = (W : Int)) (h15 : (X0.1 sr 15).toInt = (pt.length : Int)) (hb : ∀ w p, w < W → p < 32 → fx_ib (X0.1 (sr + 5) w) p = md_br (pt ++ [f]) w p) : ∀ (d k n : Nat) (y1 : Int32) (X : fx_X), k + d = W → y1.toInt = (k : Int) → X.2 = X0.2 → (∀ q i, q ≠ sr + 5 → X.1 q i = X0.1 q i) → (∀ w p, w < W → p < 32 → fx_ib (X.1 (sr + 5) w) p = md_br (if w < k then pt else pt ++ [f]) w p) → gxF_160 sr n 20 [y1] [] [] X u X' → cx_pt X' sr W pt ∧ cx_hd X' sr (md_hl W pt) ∧ X'.2 = X0.2 ∧ ∀ q k, q ≠ sr + 5 → q ≠ sr + 6 → ¬ (q = sr ∧ k = 14) → X'.1 q k = X0.1 q k := by
  have fin : ∀ (X : fx_X) (w : Unit) (Y : fx_X), X.2 = X0.2 → (∀ q i, q ≠ sr + 5 → X.1 q i = X0.1 q i) → (∀ w p, w < W → p < 32 → fx_ib (X.1 (sr + 5) w) p = md_br pt w p) → gx_6 sr X w Y → cx_pt Y sr W pt ∧ cx_hd Y sr (md_hl W pt) ∧ Y.2 = X0.2 ∧ ∀ q k, q ≠ sr + 5 → q ≠ sr + 6 → ¬ (q = sr ∧ k = 14) → Y.1 q k = X0.1 q k := by
    intro X w Y e2 e1 hB r
    have hpt : cx_pt X sr W pt := ⟨by rw [e1 _ _ (by omega)]; exact h15, by omega, hB⟩
    obtain ⟨a1, a2, a3⟩ := cx_hold hs hW (by rw [e1 _ _ (by omega)]; exact h13) hpt r
    refine ⟨⟨by rw [a3 _ _ (by omega) (by omega)]; exact hpt.1, by omega, fun w p hw hp => by rw [a3 _ _ (by omega) (by omega)]; exact hB w p hw hp⟩, a1, a2.trans e2, fun q k z1 z2 z3 => (a3 q k z2 z3).trans (e1 q k z1)⟩
  intro d
  induction d with
  | zero =>
    intro k n y1 X hkd h1 e2 e1 hB g
    cases n with
    | zero => exact g.elim
    | succ n =>
      replace g := gxO_160_20 g
      unfold gxT_160_20 at g
      have i13 : (X.1 sr 13).toInt = (W : Int) := by rw [e1 _ _ (by omega)]; exact h13
      rw [if_neg (by omega)] at g
      obtain ⟨w7, X6, r, e⟩ := g
      rw [e]
      exact fin X w7 X6 e2 e1 (fun w p hw hp => by rw [hB w p hw hp, if_pos (by omega)]) r
  | succ d ih =>
    intro k n y1 X hkd h1 e2 e1 hB g
    cases n with
    | zero => exact g.elim
    | succ n =>
      replace g := gxO_160_20 g
      unfold gxT_160_20 at g
      have i13 : (X.1 sr 13).toInt = (W : Int) := by rw [e1 _ _ (by omega)]; exact h13
      have i15 : (X.1 sr 15).toInt = (pt.length : Int) := by rw [e1 _ _ (by omega)]; exact h15
      rw [if_pos (by omega), if_pos (by omega), fx_in h1] at g
      obtain ⟨-, -, X15, e15, x16, e16, g1⟩ := g
      refine ih (k + 1) n x16 X15 (by omega) (by rw [e16]; exact cx_inc h1 (by omega)) (by rw [e15]; exact e2) (fun q i hq => by rw [e15, fx_rIn hq]; exact e1 q i hq) (fun w p hw hp => ?_) g1
      by_cases z : w = k
      · subst z
        rw [e15, fx_rIe, if_pos (Nat.lt_succ_self _), fx_ib_drop i15 (by omega) hp, hB w p hw hp, if_neg (Nat.lt_irrefl _)]
        unfold md_br
        by_cases zp : p = pt.length
        · subst zp
          rw [decide_eq_true rfl, List.getElem?_eq_none (Nat.le_refl _)]
          rfl
        · rw [decide_eq_false zp]
          by_cases zl : p < pt.length
          · rw [List.getElem?_append_left zl]
            rfl
          · rw [List.getElem?_eq_none (by rw [List.length_append]; show pt.length + 1 ≤ p; omega), List.getElem?_eq_none (by omega)]
            rfl
      · rw [e15, fx_rIk z, hB w p hw hp]
        by_cases zk : w < k
        · rw [if_pos zk, if_pos (by omega)]
        · rw [if_neg zk, if_neg (by omega)]
theorem cx_160 (hs : sr = 54 ∨ sr = 66) (hW : W ≤ 1024) (h13 : (X.1 sr 13).toInt = (W : Int)) (hpt : cx_pt X sr W (pt ++ [f])) (g : gx_160 sr X u X') : cx_pt X' sr W pt ∧ cx_hd X' sr (md_hl W pt) ∧ X'.2 = X.2 ∧ ∀ q k, q ≠ sr + 5 → q ≠ sr + 6 → ¬ (q = sr ∧ (k = 14 ∨ k = 15)) → X'.1 q k = X.1 q k := by
  obtain ⟨n, g⟩ := g
  unfold gxE_160 at g
  obtain ⟨p1, p2, p3⟩ := hpt
  rw [List.length_append] at p1 p2
  have p1 : (X.1 sr 15).toInt = ((pt.length + 1 : Nat) : Int) := p1
  have p2 : pt.length + 1 ≤ 20 := p2
  rw [if_pos (by omega)] at g
  obtain ⟨X3, e3, g1⟩ := g
  obtain ⟨a1, a2, a3, a4⟩ := cx_160l (X0 := X3) (pt := pt) (f := f) hs hW (by omega) (by rw [e3, fx_rIk (by decide)]; exact h13) (by rw [e3, fx_rIe]; exact cx_dec p1 (by omega)) (fun w p hw hp => by rw [e3, fx_rIn (by omega)]; exact p3 w p hw hp) W 0 n _ X3 (by omega) rfl rfl (fun _ _ _ => rfl) (fun w p hw hp => by rw [e3, fx_rIn (by omega), if_neg (Nat.not_lt_zero w)]; exact p3 w p hw hp) g1
  refine ⟨a1, a2, a3.trans (by rw [e3]; rfl), fun q k z1 z2 z3 => ?_⟩
  rw [a4 q k z1 z2 (fun z => z3 ⟨z.1, Or.inl z.2⟩), e3, fx_rI, if_neg (fun z => z3 ⟨z.1, Or.inr z.2⟩)]
end CE01
