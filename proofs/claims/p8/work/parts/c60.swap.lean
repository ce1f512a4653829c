/-! THE CLASS'S WORKER: two GROUPS change places -/
section CX60
variable {X X' X0 X1 : fx_X} {v p p0 p1 p2 p3 p4 p5 p6 : Int32} {u : Unit} {sr r r' rs W n i i' j j' c w w' m k P wd a b : Nat} {x y z : List Int32}
theorem md_fr_at (h : c < x.length) : (md_fr x)[c]? = some (false, x[c]) := by
  unfold md_fr
  rw [List.getElem?_map, List.getElem?_eq_getElem h]; rfl
/-- the values so far: the first c are changed -/
theorem cx_st_mix (hi : i < 30) (hx : x.length = m) (hy : y.length = m) (h6 : m ≤ 6) (hc : c < m) (hT : cx_Rt X rs i (md_fr (y.take c ++ x.drop c))) : cx_Rt (cx_st X rs i c (false, y[c]'(by omega))) rs i (md_fr (y.take (c + 1) ++ x.drop (c + 1))) := by
  intro c' t ht
  have hcy : c < y.length := by omega
  have hl : (y.take c).length = c := by rw [List.length_take]; omega
  have hl1 : (y.take (c + 1)).length = c + 1 := by rw [List.length_take]; omega
  have hc'm : c' < m := by
    have := (List.getElem?_eq_some_iff.mp ht).1
    unfold md_fr at this
    rw [List.length_map, List.length_append, hl1, List.length_drop] at this
    omega
  by_cases z : c' = c
  · subst z
    have e : t = (false, y[c']) := by
      unfold md_fr at ht
      rw [List.getElem?_map, List.getElem?_append_left (by omega), List.getElem?_take_of_lt (Nat.lt_succ_self _), List.getElem?_eq_getElem hcy] at ht
      cases ht; rfl
    rw [e]
    unfold cx_st
    exact ⟨by rw [fx_rIn (by omega), fx_rIe], by rw [fx_rIe]; rfl⟩
  · have e : (md_fr (y.take c ++ x.drop c))[c']? = some t := by
      rw [← ht]
      unfold md_fr
      rw [List.getElem?_map, List.getElem?_map]
      congr 1
      by_cases s : c' < c
      · rw [List.getElem?_append_left (by omega), List.getElem?_append_left (by omega), List.getElem?_take_of_lt s, List.getElem?_take_of_lt (by omega)]
      · rw [List.getElem?_append_right (by omega), List.getElem?_append_right (by omega), hl, hl1, List.getElem?_drop, List.getElem?_drop]
        congr 1
        omega
    obtain ⟨a1, a2⟩ := hT c' t e
    unfold cx_st
    exact ⟨by rw [fx_rIn (by omega), fx_rIk (by omega)]; exact a1, by rw [fx_rIk (by omega), fx_rIn (by omega)]; exact a2⟩
end CX60
