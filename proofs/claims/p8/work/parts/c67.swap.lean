/-! THE CLASS'S WORKER: two GROUPS change places -/
section CX67
variable {X X' : fx_X} {p1 p2 p3 : Int32} {u : Unit} {rs W m i j : Nat} {x y : List Int32} {C : List (List Int32)} {D : Nat → List Int32 → Bool}
theorem cx_139 (hW : W ≤ 1024) (h6 : m ≤ 6) (hG : cx_gi X rs W m C D) (hij : i ≠ j) (hi : C[i]? = some x) (hj : C[j]? = some y) (h1 : p1.toInt = (i : Int)) (h2 : p2.toInt = (j : Int)) (h3 : p3.toInt = (W : Int)) (g : gx_139 rs p1 p2 p3 X u X') : ∃ C', md_sw C C' i j ∧ cx_gi X' rs W m C' D ∧ cx_rf rs X X' := by
  obtain ⟨q, g⟩ := g
  obtain ⟨⟨q1, q2, q3⟩, q4, q5, q6, q7, q8⟩ := hG
  have hil := (List.getElem?_eq_some_iff.mp hi).1
  have hjl := (List.getElem?_eq_some_iff.mp hj).1
  have hi30 : i < 30 := by omega
  have hj30 : j < 30 := by omega
  obtain ⟨X1, q', a1, a2, a3, a4, a5, a6, g⟩ := cx_139t hij hi30 hj30 (q3 i x hi).1 (q3 j y hj).1 h6 q2 h1 h2 m 0 q _ X (by omega) rfl cx_rf_rf (fun _ => rfl) (fun _ => rfl) (q3 i x hi).2 (q3 j y hj).2 (fun _ _ _ _ _ h => h) g
  obtain ⟨b1, b2, b3⟩ := cx_139b hi30 hj30 hW h1 h2 h3 q' 0 _ X1 rfl (Nat.zero_le _) rfl (fun _ _ _ => rfl) (fun w hw l hl => by rw [if_neg (Nat.not_lt_zero w)]) g
  have sw : md_sw C ((C.set i y).set j x) i j := by
    refine ⟨by rw [List.length_set, List.length_set], ?_, ?_, fun l z1 z2 => ?_⟩
    · rw [List.getElem?_set_ne (fun z => hij z.symm), List.getElem?_set_self hil, hj]
    · rw [List.getElem?_set_self (by rw [List.length_set]; exact hjl), hi]
    · rw [List.getElem?_set_ne (fun z => z2 z.symm), List.getElem?_set_ne (fun z => z1 z.symm)]
  have rf : cx_rf rs X X' := ⟨b1.trans a1.1, fun q k hq => by rw [b2 _ _ (by omega)]; exact a1.2 q k hq⟩
  have T : ∀ l vs, cx_Rt X1 rs l vs → cx_Rt X' rs l vs := fun l vs h => cx_Rt_e h (fun k => b2 _ _ (by omega)) (fun k => b2 _ _ (by omega))
  refine ⟨_, sw, ⟨⟨by rw [b2 _ _ (by omega), a2, sw.1]; exact q1, by rw [b2 _ _ (by omega), a2]; exact q2, fun g z hz => ?_⟩, by rw [sw.1]; exact q4, md_sw_nd sw q5, fun z => by rw [md_sw_mem sw]; exact q6 z, fun g z hz w hw => ?_, fun g w s1 s2 s3 => ?_⟩, rf⟩
  · rw [md_sw_at sw g] at hz
    by_cases e1 : g = i
    · rw [if_pos e1, hj] at hz
      cases hz
      rw [e1]; exact ⟨(q3 j y hj).1, T _ _ a4⟩
    · by_cases e2 : g = j
      · rw [if_neg e1, if_pos e2, hi] at hz
        cases hz
        rw [e2]; exact ⟨(q3 i x hi).1, T _ _ a5⟩
      · rw [if_neg e1, if_neg e2] at hz
        obtain ⟨c1, c2⟩ := q3 g z hz
        exact ⟨c1, T _ _ (a6 g _ e1 e2 (by unfold md_fr; rw [List.length_map, c1]; exact h6) c2)⟩
  · have hgl := (List.getElem?_eq_some_iff.mp hz).1
    rw [sw.1] at hgl
    rw [md_sw_at sw g] at hz
    rw [b3 w hw g (by omega)]
    by_cases e1 : g = i
    · rw [if_pos e1] at hz ⊢
      rw [a3]; exact q7 j z hz w hw
    · by_cases e2 : g = j
      · rw [if_neg e1, if_pos e2] at hz ⊢
        rw [a3]; exact q7 i z hz w hw
      · rw [if_neg e1, if_neg e2] at hz ⊢
        rw [a3]; exact q7 g z hz w hw
  · rw [sw.1] at s1
    have n1 : ¬ g = i := by omega
    have n2 : ¬ g = j := by omega
    rw [b3 w s3 g s2, if_neg n1, if_neg n2, a3]
    exact q8 g w s1 s2 s3
end CX67
