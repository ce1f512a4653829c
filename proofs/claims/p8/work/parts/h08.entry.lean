/-! THE PLACES OF WHAT HOLDS AT THE ENTRY (printed by wip/p1/gen_entry.py) -/
def aj_ip : List (Nat × Nat) := [(9, 405), (7, 445), (11, 553), (16, 350), (7, 314), (4, 597), (5, 476), (18, 194), (4, 295), (15, 439), (14, 186), (72, 1549)]
def aj_sp : List (Nat × Nat × Nat) := [(708, 170, 5), (789, 180, 18), (791, 180, 30), (793, 180, 43), (795, 180, 57), (797, 180, 66), (799, 180, 77), (804, 180, 80), (806, 180, 86), (808, 180, 91), (810, 180, 97), (812, 180, 102), (814, 180, 107), (816, 180, 113), (818, 180, 120), (820, 180, 127), (825, 180, 133), (827, 180, 138), (829, 180, 145), (831, 180, 150), (833, 180, 157), (835, 180, 165), (837, 180, 173), (842, 180, 180), (844, 180, 185), (846, 180, 190), (848, 180, 195), (850, 180, 200), (852, 180, 206), (854, 180, 212), (859, 180, 217), (861, 180, 222), (863, 180, 230), (865, 180, 238), (867, 180, 243), (869, 180, 251), (871, 180, 260), (876, 180, 266), (878, 180, 274), (880, 180, 286), (882, 180, 297), (884, 180, 311), (886, 180, 318), (888, 180, 324), (890, 180, 329), (892, 180, 333), (894, 180, 340), (899, 180, 346), (901, 180, 351), (903, 180, 358), (905, 180, 365)]
theorem aj_rcl : aj_cl[aj_rc]? = some ("DimShelf$Rows", aj_T6, 5) := rfl
theorem aj_tbl_len : lw_tbl.length = 2220 ∧ aj_tbS.length = 51 ∧ aj_sf.length = 51 := by decide +kernel
/-! WHAT HOLDS AT THE LAW'S ENTRY -/
theorem aj_D_of {s : State} {args : Array Value} (hts : ∀ w ∈ lw_tbl, w.before args s = true) : ∃ D : va_G, ∀ (ci : Nat) (q : vw_C), aj_cl[ci]? = some q → u_Kn s q.1 q.2.1 q.2.2 (D.1 ci) (D.2 ci) := by
  have hck : (aj_cls.zip aj_ip).all (fun q => decide (lw_tbl[q.2.2]? = some (Cond.instantiable q.1.1 q.2.1))) = true := by decide +kernel
  have hl : aj_cls.length = aj_ip.length := by decide +kernel
  have h : ∀ ci : Nat, ∃ x : ClassId × (Nat → Nat), ∀ q : vw_C, aj_cl[ci]? = some q → u_Kn s q.1 q.2.1 q.2.2 x.1 x.2 := by
    intro ci
    cases hq : aj_cls[ci]? with
    | none => exact ⟨((0 : Nat), fun _ => 0), fun q h => by simp [aj_cl, hq] at h⟩
    | some q' =>
      have hi1 := (List.getElem?_eq_some_iff.mp hq).1
      have h2 : (aj_cls.zip aj_ip)[ci]? = some (q', aj_ip[ci]'(by omega)) := by
        rw [List.getElem?_zip_eq_some]
        exact ⟨hq, List.getElem?_eq_getElem _⟩
      have h3 := of_decide_eq_true (List.all_eq_true.mp hck _ (List.mem_of_getElem? h2))
      obtain ⟨e1, e2, -, -⟩ := aj_clsOK1 ci q' hq
      obtain ⟨cC, iS, hk⟩ := u_known (ws := aj_Tg) (fun w hw => hts w (List.mem_filter.mp hw).1) e2 (hts _ (List.mem_of_getElem? h3))
      refine ⟨(cC, iS), fun q h => ?_⟩
      rw [e1] at h
      cases h
      exact hk
  exact ⟨(fun c => (Classical.choose (h c)).1, fun c => (Classical.choose (h c)).2), fun ci q hq => Classical.choose_spec (h ci) q hq⟩
theorem aj_cA_of {s : State} {args : Array Value} (hts : ∀ w ∈ lw_tbl, w.before args s = true) : ∃ cA : Nat → ClassId, (∀ (k : Nat) (q : ClassId × FieldType), ((List.range 6).map fun k => (cA k, aj_ty "DimShelf$Rows" k))[k]? = some q → ArrOfT s q.1 q.2 ∧ va_RA s q.1 q.2) ∧ va_AO "DimShelf$Rows" s := by
  have hp : lw_tbl[aj_AOp]? = some (Cond.arrayOver (.object "DimShelf$Rows")) := by decide +kernel
  have hao := hts _ (List.mem_of_getElem? hp)
  have h : ∀ k : Nat, ∃ cA : ClassId, ArrOfT s cA (aj_ty "DimShelf$Rows" k) ∧ va_RA s cA (aj_ty "DimShelf$Rows" k) := by
    intro k
    by_cases hk : k < 5
    · obtain ⟨c, kk, comp, h1, h2, h3⟩ := Cond.arrayClass_spec (hts _ (List.mem_filter.mp (aj_arrOK k hk)).1)
      refine ⟨c, fun N z => ⟨(fun k h => by cases h), kk, h2, comp, h3⟩, ?_⟩
      have hk' : k = 0 ∨ k = 1 ∨ k = 2 ∨ k = 3 ∨ k = 4 := by omega
      rcases hk' with rfl | rfl | rfl | rfl | rfl <;> exact h1
    · obtain ⟨comp, c, kk, h1, -, h3, h4, h5⟩ := Cond.arrayOver_spec hao
      have e : aj_ty "DimShelf$Rows" k = .object "DimShelf$Rows" := by
        obtain ⟨j, rfl⟩ : ∃ j, k = j + 5 := ⟨k - 5, by omega⟩
        rfl
      rw [e]
      exact ⟨c, fun N z => ⟨(fun k h => by cases h), kk, h3, comp, h4⟩, kk, comp, h3, h4, h1, h5⟩
  refine ⟨fun k => Classical.choose (h k), fun k q hq => ?_, va_AO.of hao⟩
  rw [List.getElem?_map] at hq
  obtain ⟨j, -, rfl⟩ := Option.map_eq_some_iff.mp hq
  exact Classical.choose_spec (h j)
def aj_G : List Cond := flatC (Jvm.Cond.and given_1 narrow_1)
def aj_stE (q : String × String × String) : Term := .static q.1 q.2.1 q.2.2
/-- the words of one static array, by their places -/
def aj_ckZ (q : (String × String × String) × (Nat × vp_A)) (p : Nat × Nat × Nat) : Bool := decide (lw_tbl[p.1]? = some (.laysStatic q.1.1 q.1.2.1 q.1.2.2)) && decide (lw_tbl[p.2.1]? = some (.initialized q.1.1)) && decide (aj_G[p.2.2]? = some (.arrayOf (aj_stE q.1) (aj_ty "DimShelf$Rows" q.2.1))) && decide (aj_G[p.2.2 + 1]? = some (.eq (.length (aj_stE q.1)) (.int (Int32.ofNat q.2.2.1)))) && decide (q.2.2.1 < 2147483648) && (match q.2.2.2 with
  | .inl f => (List.range q.2.2.1).all fun j => decide (aj_G[p.2.2 + 2 + j]? = some (.eq (.elem (aj_stE q.1) (.int (Int32.ofNat j))) (.int (f j))))
  | .inr (.inl f) => (List.range q.2.2.1).all fun j => decide (aj_G[p.2.2 + 2 + j]? = some (.eq (.elem (aj_stE q.1) (.int (Int32.ofNat j))) (.long (f j))))
  | _ => false)
set_option maxRecDepth 1000000 in
theorem aj_ckZ_all : ((aj_sf.zip aj_tbS).zip aj_sp).all (fun q => aj_ckZ q.1 q.2) = true := by decide +kernel
theorem aj_sp_len : aj_sp.length = 51 := by decide +kernel
theorem aj_Z_one {s : State} {args : Array Value} {A : Nat → Prop} (hts : ∀ w ∈ lw_tbl, w.before args s = true) (hG : ∀ w ∈ aj_G, w.before args s = true) (hA : ∀ a : Nat, a < s.heap.size → ¬ A a) {q : (String × String × String) × (Nat × vp_A)} {p : Nat × Nat × Nat} (h : aj_ckZ q p = true) : ∃ t : Nat, va_Z q.1.1 q.1.2.1 q.1.2.2 (.ref t) A s s.heap ∧ va_T (aj_ty "DimShelf$Rows" q.2.1) t q.2.2.1 (aj_tv q.2.2) A s s.heap := by
  obtain ⟨⟨C, n, d⟩, k, N, x⟩ := q
  unfold aj_ckZ at h
  simp only [Bool.and_eq_true, decide_eq_true_eq] at h
  obtain ⟨⟨⟨⟨⟨h1, h2⟩, h3⟩, h4⟩, h5⟩, h6⟩ := h
  have g := fun (k : Nat) (w : Cond) (e : aj_G[k]? = some w) => hG w (List.mem_of_getElem? e)
  have fin : ∀ {f : Nat → Value}, (∀ j : Nat, j < N → (Term.elem (aj_stE (C, n, d)) (.int (Int32.ofNat j))).eval args s none [] s = some (f j)) → ∃ t : Nat, va_Z C n d (.ref t) A s s.heap ∧ va_T (aj_ty "DimShelf$Rows" k) t N f A s s.heap := by
    intro f hf
    obtain ⟨t, ht, hT⟩ := va_Tof (f := f) (A := A) (N := N) h5 (g _ _ h3) (va_eqt (g _ _ h4)) hf hA
    exact ⟨t, va_Zref (hts _ (List.mem_of_getElem? h1)) (hts _ (List.mem_of_getElem? h2)) ht hA, hT⟩
  rcases x with f | f | f | f | f
  · exact fin (f := fun j => .int (f j)) fun j hj => va_eqt (g _ _ (of_decide_eq_true (List.all_eq_true.mp h6 j (List.mem_range.mpr hj))))
  · exact fin (f := fun j => .long (f j)) fun j hj => va_eqtl (g _ _ (of_decide_eq_true (List.all_eq_true.mp h6 j (List.mem_range.mpr hj))))
  all_goals cases h6
theorem aj_Z1 {s : State} {args : Array Value} {b L : Nat} {xs : Nat → Int32} (hts : ∀ w ∈ lw_tbl, w.before args s = true) (hG : ∀ w ∈ aj_G, w.before args s = true) (hX : va_X b L xs s s.heap) (hb : b < s.heap.size) : ∃ stA : Nat → Nat, stA 51 = b ∧ aj_Z "DimShelf$Rows" (cw_tb L xs) stA aj_sf (fun q => s.heap.size ≤ q) s s.heap := by
  have hA : ∀ a : Nat, a < s.heap.size → ¬ (fun q => s.heap.size ≤ q) a := fun a h1 h2 => by dsimp only at h2; omega
  obtain ⟨-, l2, l3⟩ := aj_tbl_len
  have l4 := aj_sp_len
  have h : ∀ i : Nat, ∃ t : Nat, ∀ (q : String × String × String) (y : Nat × vp_A), aj_sf[i]? = some q → aj_tbS[i]? = some y → va_Z q.1 q.2.1 q.2.2 (.ref t) (fun q => s.heap.size ≤ q) s s.heap ∧ va_T (aj_ty "DimShelf$Rows" y.1) t y.2.1 (aj_tv y.2) (fun q => s.heap.size ≤ q) s s.heap := by
    intro i
    by_cases hi : i < 51
    · have e1 : aj_sf[i]? = some (aj_sf[i]'(by omega)) := List.getElem?_eq_getElem _
      have e2 : aj_tbS[i]? = some (aj_tbS[i]'(by omega)) := List.getElem?_eq_getElem _
      have e3 : aj_sp[i]? = some (aj_sp[i]'(by omega)) := List.getElem?_eq_getElem _
      have e4 : ((aj_sf.zip aj_tbS).zip aj_sp)[i]? = some ((aj_sf[i]'(by omega), aj_tbS[i]'(by omega)), aj_sp[i]'(by omega)) := by
        rw [List.getElem?_zip_eq_some]
        refine ⟨?_, e3⟩
        rw [List.getElem?_zip_eq_some]
        exact ⟨e1, e2⟩
      obtain ⟨t, h1, h2⟩ := aj_Z_one hts hG hA (List.all_eq_true.mp aj_ckZ_all _ (List.mem_of_getElem? e4))
      refine ⟨t, fun q y hq hy => ?_⟩
      rw [e1] at hq
      rw [e2] at hy
      cases hq
      cases hy
      exact ⟨h1, h2⟩
    · refine ⟨0, fun q y hq _ => ?_⟩
      have := (List.getElem?_eq_some_iff.mp hq).1
      omega
  refine ⟨fun i => if i = 51 then b else Classical.choose (h i), if_pos rfl, fun i q hq => ?_, fun i k x hx => ?_⟩
  · have hi := (List.getElem?_eq_some_iff.mp hq).1
    have e : (if i = 51 then b else Classical.choose (h i)) = Classical.choose (h i) := if_neg (by omega)
    show va_Z q.1 q.2.1 q.2.2 (.ref (if i = 51 then b else Classical.choose (h i))) _ s s.heap
    rw [e]
    exact (Classical.choose_spec (h i) q _ hq (List.getElem?_eq_getElem (by omega))).1
  · show va_T (aj_ty "DimShelf$Rows" k) (if i = 51 then b else Classical.choose (h i)) x.1 (aj_tv x) _ s s.heap
    unfold cw_tb at hx
    by_cases hi : i < 51
    · have e : (if i = 51 then b else Classical.choose (h i)) = Classical.choose (h i) := if_neg (by omega)
      rw [e]
      rw [List.getElem?_append_left (by omega)] at hx
      exact (Classical.choose_spec (h i) _ _ (List.getElem?_eq_getElem (by omega)) hx).2
    · rw [List.getElem?_append_right (by omega)] at hx
      cases hz : i - aj_tbS.length with
      | zero =>
        rw [hz] at hx
        cases hx
        rw [if_pos (by omega)]
        obtain ⟨scr, h1, h2, h3, h4, h5⟩ := hX
        exact ⟨scr, h1, h2, h3, Nat.le_of_eq h4.symm, by rw [h4], h5, hA b hb⟩
      | succ n =>
        rw [hz] at hx
        cases hx
