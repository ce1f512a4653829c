def aj_cuA : List (List (Nat × Instr × Nat)) := aj_cu0 ++ (aj_cu1 ++ (aj_cu2 ++ (aj_cu3 ++ (aj_cu4 ++ (aj_cu5)))))
theorem aj_zip_at {α β : Type} {l1 : List α} {l2 : List β} {i : Nat} {a : α} {b : β} (h1 : l1[i]? = some a) (h2 : l2[i]? = some b) : (a, b) ∈ l1.zip l2 := List.mem_of_getElem? (by rw [List.getElem?_zip_eq_some]; exact ⟨h1, h2⟩)
theorem aj_ln0 : aj_rt0.length = aj_cu0.length := by decide +kernel
theorem aj_ln1 : aj_rt1.length = aj_cu1.length := by decide +kernel
theorem aj_ln2 : aj_rt2.length = aj_cu2.length := by decide +kernel
theorem aj_ln3 : aj_rt3.length = aj_cu3.length := by decide +kernel
theorem aj_ln4 : aj_rt4.length = aj_cu4.length := by decide +kernel
theorem aj_ln5 : aj_rt5.length = aj_cu5.length := by decide +kernel
theorem aj_za4 : ∀ q ∈ (aj_rt4 ++ (aj_rt5)).zip (aj_cu4 ++ (aj_cu5)), aj_ctOK q.2 (aj_bc q.1.2.1) := by
  intro q hq
  rw [List.zip_append aj_ln4] at hq
  rcases List.mem_append.mp hq with h | h
  · exact aj_du4 q h
  · exact aj_du5 q h
theorem aj_za3 : ∀ q ∈ (aj_rt3 ++ (aj_rt4 ++ (aj_rt5))).zip (aj_cu3 ++ (aj_cu4 ++ (aj_cu5))), aj_ctOK q.2 (aj_bc q.1.2.1) := by
  intro q hq
  rw [List.zip_append aj_ln3] at hq
  rcases List.mem_append.mp hq with h | h
  · exact aj_du3 q h
  · exact aj_za4 q h
theorem aj_za2 : ∀ q ∈ (aj_rt2 ++ (aj_rt3 ++ (aj_rt4 ++ (aj_rt5)))).zip (aj_cu2 ++ (aj_cu3 ++ (aj_cu4 ++ (aj_cu5)))), aj_ctOK q.2 (aj_bc q.1.2.1) := by
  intro q hq
  rw [List.zip_append aj_ln2] at hq
  rcases List.mem_append.mp hq with h | h
  · exact aj_du2 q h
  · exact aj_za3 q h
theorem aj_za1 : ∀ q ∈ (aj_rt1 ++ (aj_rt2 ++ (aj_rt3 ++ (aj_rt4 ++ (aj_rt5))))).zip (aj_cu1 ++ (aj_cu2 ++ (aj_cu3 ++ (aj_cu4 ++ (aj_cu5))))), aj_ctOK q.2 (aj_bc q.1.2.1) := by
  intro q hq
  rw [List.zip_append aj_ln1] at hq
  rcases List.mem_append.mp hq with h | h
  · exact aj_du1 q h
  · exact aj_za2 q h
theorem aj_za0 : ∀ q ∈ (aj_rt0 ++ (aj_rt1 ++ (aj_rt2 ++ (aj_rt3 ++ (aj_rt4 ++ (aj_rt5)))))).zip (aj_cu0 ++ (aj_cu1 ++ (aj_cu2 ++ (aj_cu3 ++ (aj_cu4 ++ (aj_cu5)))))), aj_ctOK q.2 (aj_bc q.1.2.1) := by
  intro q hq
  rw [List.zip_append aj_ln0] at hq
  rcases List.mem_append.mp hq with h | h
  · exact aj_du0 q h
  · exact aj_za1 q h
theorem aj_zall : ∀ q ∈ aj_rt.zip aj_cuA, aj_ctOK q.2 (aj_bc q.1.2.1) := by
  unfold aj_rt aj_cuA
  exact aj_za0
theorem aj_cuA_ok : ∀ (i : Nat) (m : aj_M) (ct : List (Nat × Instr × Nat)), aj_mt[i]? = some m → aj_cuA[i]? = some ct → aj_ctOK ct m.2.1 := by
  intro i m ct hm hc
  have hm : (aj_rt.map aj_mk)[i]? = some m := hm
  rw [List.getElem?_map] at hm
  obtain ⟨q, hq, he⟩ := Option.map_eq_some_iff.mp hm
  have h := aj_zall (q, ct) (aj_zip_at hq hc)
  have h2 : m.2.1 = aj_bc q.2.1 := by rw [← he]; rfl
  rw [h2]
  exact h
