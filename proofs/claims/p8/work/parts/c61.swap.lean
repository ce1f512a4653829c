/-! THE CLASS'S WORKER: two GROUPS change places, their values -/
section CX61
variable {X X' X0 X1 : fx_X} {v p p0 p1 p2 p3 p4 p5 p6 : Int32} {u : Unit} {sr r r' rs W n i i' j j' c w w' m k P wd a b : Nat} {x y z : List Int32}
theorem md_mix_at (hx : x.length = m) (hy : y.length = m) (hc : c < m) : (md_fr (y.take c ++ x.drop c))[c]? = some (false, x[c]'(by omega)) := by
  have hl : (y.take c).length = c := by rw [List.length_take]; omega
  have hcx : c < x.length := by omega
  unfold md_fr
  rw [List.getElem?_map, List.getElem?_append_right (by omega), hl, Nat.sub_self, List.getElem?_drop, Nat.add_zero, List.getElem?_eq_getElem hcx]
  rfl
theorem md_mix_len (hx : x.length = m) (hy : y.length = m) (hc : c ≤ m) : (md_fr (y.take c ++ x.drop c)).length = m := by
  unfold md_fr
  rw [List.length_map, List.length_append, List.length_take, List.length_drop]
  omega
theorem cx_139t {X0 : fx_X} (hij : i ≠ j) (hi : i < 30) (hj : j < 30) (hx : x.length = m) (hy : y.length = m) (h6 : m ≤ 6) (h3 : (X0.1 rs 3).toInt = (m : Int)) (h1 : p1.toInt = (i : Int)) (h2 : p2.toInt = (j : Int)) : ∀ (d c q : Nat) (y4 : Int32) (X : fx_X), c + d = m → y4.toInt = (c : Int) → cx_rf rs X0 X → (∀ k, X.1 rs k = X0.1 rs k) → (∀ k, X.1 (rs + 3) k = X0.1 (rs + 3) k) → cx_Rt X rs i (md_fr (y.take c ++ x.drop c)) → cx_Rt X rs j (md_fr (x.take c ++ y.drop c)) → (∀ l vs, l ≠ i → l ≠ j → vs.length ≤ 6 → cx_Rt X0 rs l vs → cx_Rt X rs l vs) → gxF_139 rs p1 p2 p3 q 3 [y4] [] [] X u X' → ∃ (X1 : fx_X) (q' : Nat), cx_rf rs X0 X1 ∧ (∀ k, X1.1 rs k = X0.1 rs k) ∧ (∀ k, X1.1 (rs + 3) k = X0.1 (rs + 3) k) ∧ cx_Rt X1 rs i (md_fr y) ∧ cx_Rt X1 rs j (md_fr x) ∧ (∀ l vs, l ≠ i → l ≠ j → vs.length ≤ 6 → cx_Rt X0 rs l vs → cx_Rt X1 rs l vs) ∧ gxF_139 rs p1 p2 p3 q' 71 [Int32.ofInt 0] [] [] X1 u X' := by
  intro d
  induction d with
  | zero =>
    intro c q y4 X hcd hc hf h0 hb hTi hTj ho g
    cases q with
    | zero => exact g.elim
    | succ q =>
      replace g := gxO_139_3 g
      unfold gxT_139_3 at g
      have h3' : (X.1 rs 3).toInt = (m : Int) := by rw [h0]; exact h3
      rw [if_neg (by omega)] at g
      rw [List.take_of_length_le (by omega), List.drop_of_length_le (by omega), List.append_nil] at hTi hTj
      exact ⟨X, q, hf, h0, hb, hTi, hTj, ho, g⟩
  | succ d ih =>
    intro c q y4 X hcd hc hf h0 hb hTi hTj ho g
    cases q with
    | zero => exact g.elim
    | succ q =>
      replace g := gxO_139_3 g
      unfold gxT_139_3 at g
      have h3' : (X.1 rs 3).toInt = (m : Int) := by rw [h0]; exact h3
      have hcm : c < m := by omega
      have hc66 : c < 6 := by omega
      have hcd' : c + 1 + d = m := by omega
      have c6 : c ≤ 1000000 := by omega
      have hcle : c ≤ m := Nat.le_of_lt hcm
      rw [if_pos (by omega)] at g
      obtain ⟨w6, X5, r1, w9, X8, r2, w12, X11, r3, w14, X13, r4, w16, X15, r5, w18, X17, r6, x19, rfl, g⟩ := g
      obtain ⟨rfl, e6⟩ := cx_104 hTi hi hc66 h1 hc (md_mix_at hx hy hcm) r1
      obtain ⟨rfl, e9⟩ := cx_103 hTi hi hc66 h1 hc (md_mix_at hx hy hcm) r2
      obtain ⟨rfl, e12⟩ := cx_103 hTj hj hc66 h2 hc (md_mix_at hy hx hcm) r3
      obtain ⟨rfl, e14⟩ := cx_104 hTj hj hc66 h2 hc (md_mix_at hy hx hcm) r4
      have e15 := cx_105 (t := (false, y[c]'(by omega))) hi hc66 h1 hc e12 e14 r5
      have e17 := cx_105 (t := (false, x[c]'(by omega))) hj hc66 h2 hc e9 e6 r6
      have T15i : cx_Rt X15 rs i (md_fr (y.take (c + 1) ++ x.drop (c + 1))) := by rw [e15]; exact cx_st_mix hi hx hy h6 hcm hTi
      have T15j : cx_Rt X15 rs j (md_fr (x.take c ++ y.drop c)) := by rw [e15]; exact cx_st_Ro (fun z => hij z.symm) hc66 (by rw [md_mix_len hy hx hcle]; exact h6) hTj
      have T17j : cx_Rt X17 rs j (md_fr (x.take (c + 1) ++ y.drop (c + 1))) := by rw [e17]; exact cx_st_mix hj hy hx h6 hcm T15j
      have T17i : cx_Rt X17 rs i (md_fr (y.take (c + 1) ++ x.drop (c + 1))) := by rw [e17]; exact cx_st_Ro hij hc66 (by rw [md_mix_len hx hy hcm]; exact h6) T15i
      have f15 : cx_rf rs X X15 := by rw [e15]; exact cx_st_rf
      have f17 : cx_rf rs X15 X17 := by rw [e17]; exact cx_st_rf
      have s15 := cx_st_f (X := X) (r := rs) (i := i) (c := c) (t := (false, y[c]'(by omega)))
      rw [← e15] at s15
      have s17 := cx_st_f (X := X15) (r := rs) (i := j) (c := c) (t := (false, x[c]'(by omega)))
      rw [← e17] at s17
      refine ih (c + 1) q _ X17 hcd' (cx_inc hc c6) (cx_rf_tr hf (cx_rf_tr f15 f17)) (fun k => (s17.1 k).trans ((s15.1 k).trans (h0 k))) (fun k => (s17.2 k).trans ((s15.2 k).trans (hb k))) T17i T17j (fun l vs n1 n2 n3 n4 => ?_) g
      have := ho l vs n1 n2 n3 n4
      have t15 : cx_Rt X15 rs l vs := by rw [e15]; exact cx_st_Ro n1 hc66 n3 this
      rw [e17]; exact cx_st_Ro n2 hc66 n3 t15
end CX61
