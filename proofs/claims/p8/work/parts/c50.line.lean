/-! THE CLASS'S WORKER: a WORLD's rows in their order, lined up -/
def md_fv (val : md_V) (w : Nat) (A : List md_Row) (i : Nat) : List Int32 := md_vl val w (A.getD i ([], fun _ => false))
section CX50
variable {X X' X0 X1 : fx_X} {v p p0 p1 p2 p3 p4 p5 p6 : Int32} {u : Unit} {sr r r' rs W n i j c w w' m k P wd a : Nat} {val : md_V} {A B : List md_Row} {ts us : List md_Tm} {x y : md_Row} {ix : List Nat}
theorem cx_dm {y : Int32} {k : Nat} (hk : y.toInt = ((k + 1 : Nat) : Int)) (h : k ≤ 1000000) : (y + Int32.ofInt (-1)).toInt = (k : Int) := by
  have e : (Int32.ofInt (-1)).toInt = -1 := by decide
  rw [fx_add (by rw [hk, e]; omega) (by rw [hk, e]; omega), hk, e]; omega
/-- room made, one place taken -/
theorem cx_129s {X0 : fx_X} (hr : r ≠ a) (hl : ix.length < 30) (hk30 : k < 30) {y4 y5 y6 : Int32} (h4 : y4.toInt = (ix.length : Int)) (h5 : y5.toInt = (k : Int)) (h6 : y6.toInt = (c : Int)) : ∀ (d e q : Nat) (y8 : Int32) (X : fx_X), c + d = e → e ≤ ix.length → y8.toInt = (e : Int) → cx_af a X0 X → (∀ (j i : Nat), j < e → ix[j]? = some i → (X.1 a j).toInt = (i : Int)) → (∀ (j i : Nat), e ≤ j → ix[j]? = some i → (X.1 a (j + 1)).toInt = (i : Int)) → gxF_129 r sr p2 a q 96 [y4, y5, y6, y8] [] [] X v X' → ∃ (X1 : fx_X) (q' : Nat), cx_af a X0 X1 ∧ cx_ix X1 a (ix.take c ++ k :: ix.drop c) ∧ gxF_129 r sr p2 a q' 6 [y4 + Int32.ofInt 1, y5 + Int32.ofInt 1] [] [] X1 v X' := by
  intro d
  induction d with
  | zero =>
    intro e q y8 X hcd hel h8 hf hlo hhi g
    cases q with
    | zero => exact g.elim
    | succ q =>
      replace g := gxO_129_96 g
      unfold gxT_129_96 at g
      rw [if_neg (by omega), fx_in h6] at g
      obtain ⟨-, X37, rfl, x38, rfl, x40, rfl, g⟩ := g
      refine ⟨fx_wI X a c y5, q, ⟨hf.1, fun q j hq => by rw [fx_rIn hq]; exact hf.2 q j hq⟩, fun j i hji => ?_, g⟩
      rw [List.getElem?_append] at hji
      have htl : (ix.take c).length = c := by rw [List.length_take]; omega
      rw [htl] at hji
      split at hji
      · rename_i hjc
        rw [List.getElem?_take_of_lt hjc] at hji
        rw [fx_rIk (by omega)]
        exact hlo j i (by omega) hji
      · rename_i hjc
        obtain ⟨b, rfl⟩ : ∃ b, j = c + b := ⟨j - c, by omega⟩
        rw [Nat.add_sub_cancel_left] at hji
        cases b with
        | zero =>
          cases hji
          rw [Nat.add_zero, fx_rIe]; exact h5
        | succ b =>
          have hji' : (ix.drop c)[b]? = some i := hji
          rw [List.getElem?_drop] at hji'
          rw [fx_rIk (by omega)]
          exact hhi (c + b) i (by omega) hji'
  | succ d ih =>
    intro e q y8 X hcd hel h8 hf hlo hhi g
    cases q with
    | zero => exact g.elim
    | succ q =>
      replace g := gxO_129_96 g
      unfold gxT_129_96 at g
      obtain ⟨e', rfl⟩ : ∃ e', e = e' + 1 := ⟨e - 1, by omega⟩
      have hd := cx_dec h8 (by omega)
      rw [if_pos (by omega), fx_in hd, fx_in h8] at g
      obtain ⟨-, -, X44, rfl, x45, rfl, g⟩ := g
      clear hd
      have q1 : c + d = e' := by omega
      have q2 : e' ≤ ix.length := by omega
      have q3 : e' ≤ 1000000 := by omega
      refine ih e' q _ (fx_wI X a (e' + 1) (X.1 a e')) q1 q2 (cx_dm h8 q3) ⟨hf.1, fun q j hq => by rw [fx_rIn hq]; exact hf.2 q j hq⟩ (fun j i hj hji => by rw [fx_rIk (by omega)]; exact hlo j i (by omega) hji) (fun j i hj hji => ?_) g
      by_cases z : j = e'
      · subst z
        rw [fx_rIe]
        exact hlo j i (Nat.lt_succ_self _) hji
      · rw [fx_rIk (by omega)]
        exact hhi j i (by omega) hji
/-- the place looked for, from the end -/
theorem cx_129t (hce : cx_ce X sr W n val) (hA : md_okA n wd A) (hR : cx_Rr X r W A) (hw3 : (X.1 r 3).toInt = (wd : Int)) (hw : w < W) (h2 : p2.toInt = (w : Int)) (hix : cx_ix X a ix) (hlt : ∀ i, i ∈ ix → i < A.length) (hl : ix.length < 30) (hso : md_so (ix.map (md_fv val w A))) (hk : k < A.length) {y4 y5 : Int32} (h4 : y4.toInt = (ix.length : Int)) (h5 : y5.toInt = (k : Int)) : ∀ (c q : Nat) (y6 y7 : Int32), y6.toInt = (c : Int) → c ≤ ix.length → (∀ (j i : Nat), c ≤ j → ix[j]? = some i → md_lt (md_fv val w A k) (md_fv val w A i) = true) → gxF_129 r sr p2 a q 42 [y4, y5, y6, y7] [] [] X v X' → (∃ q', md_fv val w A k ∈ ix.map (md_fv val w A) ∧ gxF_129 r sr p2 a q' 6 [y4, y5 + Int32.ofInt 1] [] [] X v X') ∨ (∃ (c q' : Nat) (y6 : Int32), y6.toInt = (c : Int) ∧ c ≤ ix.length ∧ (∀ (j i : Nat), c ≤ j → ix[j]? = some i → md_lt (md_fv val w A k) (md_fv val w A i) = true) ∧ (∀ (j i : Nat), j < c → ix[j]? = some i → md_lt (md_fv val w A i) (md_fv val w A k) = true) ∧ gxF_129 r sr p2 a q' 96 [y4, y5, y6, y4] [] [] X v X') := by
  have hfv : ∀ i x, A[i]? = some x → md_fv val w A i = x.1.map (md_cv val w) := fun i x h => by
    unfold md_fv md_vl
    rw [List.getD_eq_getElem?_getD, h]; rfl
  have h30 := hA.1
  intro c
  induction c with
  | zero =>
    intro q y6 y7 h6 hcl hgt g
    cases q with
    | zero => exact g.elim
    | succ q =>
      replace g := gxO_129_42 g
      unfold gxT_129_42 at g
      rw [if_neg (by omega), if_neg (by omega)] at g
      exact Or.inr ⟨0, q, y6, h6, Nat.zero_le _, hgt, fun j i hj => absurd hj (Nat.not_lt_zero j), g⟩
  | succ c ih =>
    intro q y6 y7 h6 hcl hgt g
    cases q with
    | zero => exact g.elim
    | succ q =>
      replace g := gxO_129_42 g
      unfold gxT_129_42 at g
      have hcl' : c < ix.length := hcl
      have hc6 : c ≤ 1000000 := by omega
      have h6p : 0 < y6.toInt := by rw [h6]; exact Int.natCast_pos.mpr (Nat.succ_pos c)
      have hm := cx_dm h6 hc6
      have hd := cx_dec h6 hc6
      rw [if_pos h6p, fx_in hd] at g
      obtain ⟨-, w24, X23, r1, g⟩ := g
      obtain ⟨i0, hi0⟩ : ∃ i0, ix[c]? = some i0 := ⟨ix[c], List.getElem?_eq_getElem hcl'⟩
      have hi0l := hlt i0 (List.mem_of_getElem? hi0)
      obtain ⟨x, hx⟩ : ∃ x, A[k]? = some x := ⟨A[k], List.getElem?_eq_getElem hk⟩
      obtain ⟨y, hy⟩ : ∃ y, A[i0]? = some y := ⟨A[i0], List.getElem?_eq_getElem hi0l⟩
      obtain ⟨o1, o2⟩ := hA.2 x (List.mem_of_getElem? hx)
      obtain ⟨o3, o4⟩ := hA.2 y (List.mem_of_getElem? hy)
      obtain ⟨rfl, b2, b3⟩ := cx_130 hce (hR.2 k x hx).1 (hR.2 i0 y hy).1 o1 o3 (o2.trans o4.symm) (by rw [o2]; exact hw3) (Nat.lt_of_lt_of_le hk h30) (Nat.lt_of_lt_of_le hi0l h30) hw hw h5 h2 (hix c i0 hi0) h2 r1
      rw [← hfv k x hx, ← hfv i0 y hy] at b2 b3
      rcases fy_ifd g with ⟨e, g⟩ | ⟨e, g⟩
      · obtain ⟨x27, rfl, g⟩ := g
        refine ih q _ _ hm (Nat.le_of_lt hcl') (fun j i hj hji => ?_) g
        by_cases z : j = c
        · subst z
          rw [hi0] at hji
          cases hji
          exact b2.mp e
        · exact hgt j i (Nat.lt_of_le_of_ne hj (fun y => z y.symm)) hji
      · rw [if_pos h6p] at g
        rcases fy_ifd g with ⟨e2, g⟩ | ⟨e2, g⟩
        · obtain ⟨x33, rfl, g⟩ := g
          exact Or.inl ⟨q, by rw [b3.mp e2]; exact List.mem_map.mpr ⟨i0, List.mem_of_getElem? hi0, rfl⟩, g⟩
        · refine Or.inr ⟨c + 1, q, y6, h6, hcl, hgt, fun j i hj hji => ?_, g⟩
          have hlast : md_lt (md_fv val w A i0) (md_fv val w A k) = true := by
            rcases md_lt_tri (md_fv val w A k) (md_fv val w A i0) (by rw [hfv k x hx, hfv i0 y hy, List.length_map, List.length_map]; exact o2.trans o4.symm) with z | z | z
            · exact absurd (b2.mpr z) e
            · exact absurd (b3.mpr z) e2
            · exact z
          by_cases z : j = c
          · subst z
            rw [hi0] at hji
            cases hji
            exact hlast
          · refine md_lt_tr _ _ _ ?_ hlast
            have hjc : j < c := Nat.lt_of_le_of_ne (Nat.le_of_lt_succ hj) z
            have hjl : j < ix.length := Nat.lt_trans hjc hcl'
            have := List.pairwise_iff_getElem.mp hso j c (by rw [List.length_map]; exact hjl) (by rw [List.length_map]; exact hcl') hjc
            rw [List.getElem_map, List.getElem_map] at this
            have e1 : ix[j] = i := (List.getElem?_eq_some_iff.mp hji).2
            have e2 : ix[c] = i0 := (List.getElem?_eq_some_iff.mp hi0).2
            rw [e1, e2] at this
            exact this
end CX50
