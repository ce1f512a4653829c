/-! THE CLASS'S WORKER: a WORLD's rows in their order, all -/
section CX51
variable {X X' X0 X1 : fx_X} {v p p0 p1 p2 p3 p4 p5 p6 : Int32} {u : Unit} {sr r r' rs W n i j c w w' m k P wd a : Nat} {val : md_V} {A B : List md_Row} {ts us : List md_Tm} {x y : md_Row} {ix : List Nat}
theorem md_line_app : md_line val w (B ++ [x]) = if x.2 w = true then md_ins (md_vl val w x) (md_line val w B) else md_line val w B := by
  unfold md_line
  rw [List.filter_append, List.foldl_append]
  by_cases h : x.2 w = true
  · rw [if_pos h]
    have : [x].filter (fun r => r.2 w) = [x] := by simp [List.filter, h]
    rw [this]; rfl
  · rw [if_neg h]
    have : [x].filter (fun r => r.2 w) = [] := by simp [List.filter, h]
    rw [this]; rfl
theorem cx_af_ce (hce : cx_ce X0 sr W n val) (h : cx_af a X0 X) (ha : a ≠ sr + 4) : cx_ce X sr W n val := ⟨hce.1, hce.2.1, fun w u hw hu => by rw [h.2 _ _ (fun z => ha z.symm)]; exact hce.2.2 w u hw hu⟩
theorem cx_af_Rr (hR : cx_Rr X0 r W A) (h : cx_af a X0 X) (ha : a < r ∨ r + 4 ≤ a) : cx_Rr X r W A := by
  have e : ∀ b, r ≤ b → b < r + 4 → b ≠ a := fun b h1 h2 z => by omega
  exact cx_Rr_e hR (h.2 _ _ (e r (Nat.le_refl _) (by omega))) (fun k => h.2 _ _ (e _ (by omega) (by omega))) (fun k => h.2 _ _ (e _ (by omega) (by omega))) (fun k => h.2 _ _ (e _ (by omega) (by omega)))
theorem cx_129l {X0 : fx_X} (hce : cx_ce X0 sr W n val) (hA : md_okA n wd A) (hR : cx_Rr X0 r W A) (hw3 : (X0.1 r 3).toInt = (wd : Int)) (hw : w < W) (h2 : p2.toInt = (w : Int)) (ha : a ≠ sr + 4) (har : a < r ∨ r + 4 ≤ a) : ∀ (d k q : Nat) (y4 y5 : Int32) (X : fx_X) (ix : List Nat), k + d = A.length → y4.toInt = (ix.length : Int) → y5.toInt = (k : Int) → ix.length ≤ k → cx_af a X0 X → cx_ix X a ix → (∀ i, i ∈ ix → i < k) → ix.map (md_fv val w A) = md_line val w (A.take k) → md_so (ix.map (md_fv val w A)) → gxF_129 r sr p2 a q 6 [y4, y5] [] [] X v X' → ∃ ix', v.toInt = (ix'.length : Int) ∧ ix'.length ≤ A.length ∧ cx_af a X0 X' ∧ cx_ix X' a ix' ∧ (∀ i, i ∈ ix' → i < A.length) ∧ ix'.map (md_fv val w A) = md_line val w A ∧ md_so (ix'.map (md_fv val w A)) := by
  have h30 := hA.1
  have hW := hce.1
  intro d
  induction d with
  | zero =>
    intro k q y4 y5 X ix hkd h4 h5 hlk hf hix hlt hml hso g
    cases q with
    | zero => exact g.elim
    | succ q =>
      replace g := gxO_129_6 g
      unfold gxT_129_6 at g
      have hr4 : (X.1 r 4).toInt = (A.length : Int) := (cx_af_Rr hR hf har).1
      rw [if_neg (by omega)] at g
      obtain ⟨rfl, rfl⟩ := g
      have e : k = A.length := by omega
      subst e
      rw [List.take_length] at hml
      exact ⟨ix, h4, hlk, hf, hix, hlt, hml, hso⟩
  | succ d ih =>
    intro k q y4 y5 X ix hkd h4 h5 hlk hf hix hlt hml hso g
    cases q with
    | zero => exact g.elim
    | succ q =>
      replace g := gxO_129_6 g
      unfold gxT_129_6 at g
      have hRx := cx_af_Rr hR hf har
      have hcex := cx_af_ce hce hf ha
      have hr4 : (X.1 r 4).toInt = (A.length : Int) := hRx.1
      have hkA : k < A.length := by omega
      have hkd' : k + 1 + d = A.length := by omega
      have hk30 : k < 30 := by omega
      have hl30 : ix.length < 30 := by omega
      have c6 : k ≤ 1000000 := by omega
      have c7 : ix.length ≤ 1000000 := by omega
      obtain ⟨x, hx⟩ : ∃ x, A[k]? = some x := ⟨A[k], List.getElem?_eq_getElem hkA⟩
      have htk : A.take (k + 1) = A.take k ++ [x] := by rw [List.take_succ, hx]; rfl
      have hfv : md_fv val w A k = md_vl val w x := by
        unfold md_fv
        rw [List.getD_eq_getElem?_getD, hx]; rfl
      have hw3x : (X.1 r 3).toInt = (wd : Int) := by
        rw [hf.2 _ _ (by omega)]; exact hw3
      rw [if_pos (by omega)] at g
      obtain ⟨w6, X5, r1, g⟩ := g
      obtain ⟨rfl, rfl⟩ := cx_108 (hRx.2 k x hx).2 hW (Nat.lt_trans hk30 (by decide)) hw h5 h2 r1
      have hlt' : ∀ i, i ∈ ix → i < k + 1 := fun i hi => Nat.lt_succ_of_lt (hlt i hi)
      cases hb : x.2 w with
      | false =>
        rw [hb, if_pos (by decide)] at g
        obtain ⟨x8, rfl, g⟩ := g
        exact ih (k + 1) q _ _ X ix hkd' h4 (cx_inc h5 c6) (Nat.le_succ_of_le hlk) hf hix hlt' (by rw [htk, md_line_app, if_neg (by rw [hb]; decide)]; exact hml) hso g
      | true =>
        rw [hb, if_neg (by decide), if_pos (by omega)] at g
        have hltA : ∀ i, i ∈ ix → i < A.length := fun i hi => Nat.lt_trans (hlt i hi) hkA
        rcases cx_129t hcex hA hRx hw3x hw h2 hix hltA hl30 hso hkA h4 h5 ix.length q y4 _ h4 (Nat.le_refl _) (fun j i hj hji => by
          have := (List.getElem?_eq_some_iff.mp hji).1
          exact absurd this (Nat.not_lt.mpr hj)) g with ⟨q', b1, g⟩ | ⟨c, q', y6, b1, b2, b3, b4, g⟩
        · refine ih (k + 1) q' _ _ X ix hkd' h4 (cx_inc h5 c6) (Nat.le_succ_of_le hlk) hf hix hlt' ?_ hso g
          rw [htk, md_line_app, if_pos hb, ← hml, ← hfv, md_ins_in _ hso b1]
        · obtain ⟨X1, q2, e1, e2, g⟩ := cx_129s (r := r) (sr := sr) (p2 := p2) (X0 := X) (a := a) (ix := ix) (k := k) (by omega) hl30 hk30 h4 h5 b1 (ix.length - c) ix.length q' y4 X (by omega) (Nat.le_refl _) h4 ⟨rfl, fun _ _ _ => rfl⟩ (fun j i _ hji => hix j i hji) (fun j i hj hji => absurd (List.getElem?_eq_some_iff.mp hji).1 (Nat.not_lt.mpr hj)) g
          have hlen : (ix.take c ++ k :: ix.drop c).length = ix.length + 1 := by
            rw [List.length_append, List.length_take, List.length_cons, List.length_drop]; omega
          have hmap : (ix.take c ++ k :: ix.drop c).map (md_fv val w A) = (ix.take c).map (md_fv val w A) ++ md_fv val w A k :: (ix.drop c).map (md_fv val w A) := by
            rw [List.map_append, List.map_cons]
          have hspl : ix.map (md_fv val w A) = (ix.take c).map (md_fv val w A) ++ (ix.drop c).map (md_fv val w A) := by
            rw [← List.map_append, List.take_append_drop]
          have i1 : ∀ y, y ∈ (ix.take c).map (md_fv val w A) → md_lt y (md_fv val w A k) = true := fun y hy => by
            obtain ⟨i, hi, rfl⟩ := List.mem_map.mp hy
            obtain ⟨j, hj, hij⟩ := List.mem_iff_getElem.mp hi
            rw [List.length_take] at hj
            have hjc : j < c := Nat.lt_of_lt_of_le hj (Nat.min_le_left _ _)
            refine b4 j i hjc ?_
            rw [← hij, List.getElem_take]
            exact List.getElem?_eq_getElem _
          have i2 : ∀ y, y ∈ (ix.drop c).map (md_fv val w A) → md_lt (md_fv val w A k) y = true := fun y hy => by
            obtain ⟨i, hi, rfl⟩ := List.mem_map.mp hy
            obtain ⟨j, hj, hij⟩ := List.mem_iff_getElem.mp hi
            refine b3 (c + j) i (Nat.le_add_right _ _) ?_
            rw [← hij, List.getElem_drop]
            exact List.getElem?_eq_getElem _
          have hins : (ix.take c ++ k :: ix.drop c).map (md_fv val w A) = md_ins (md_fv val w A k) (ix.map (md_fv val w A)) := by
            rw [hmap, hspl, md_ins_at _ i1 i2]
          refine ih (k + 1) q2 _ _ X1 _ hkd' (by rw [hlen]; exact cx_inc h4 c7) (cx_inc h5 c6) (by rw [hlen]; exact Nat.succ_le_succ hlk) ⟨e1.1.trans hf.1, fun q j hq => (e1.2 q j hq).trans (hf.2 q j hq)⟩ e2 (fun i hi => ?_) ?_ ?_ g
          · rcases List.mem_append.mp hi with z | z
            · exact hlt' i (List.mem_of_mem_take z)
            · rcases List.mem_cons.mp z with z | z
              · rw [z]; exact Nat.lt_succ_self _
              · exact hlt' i (List.mem_of_mem_drop z)
          · rw [htk, md_line_app, if_pos hb, ← hml, ← hfv, hins]
          · rw [hins]
            refine md_ins_so (n := wd) ?_ _ (fun y hy => ?_) hso
            · rw [hfv]
              unfold md_vl
              rw [List.length_map]; exact (hA.2 x (List.mem_of_getElem? hx)).2
            · obtain ⟨i, hi, rfl⟩ := List.mem_map.mp hy
              have hil := hltA i hi
              unfold md_fv md_vl
              rw [List.getD_eq_getElem?_getD, List.getElem?_eq_getElem hil, List.length_map]
              exact (hA.2 _ (List.getElem_mem hil)).2
theorem cx_129 (hce : cx_ce X sr W n val) (hA : md_okA n wd A) (hR : cx_Rr X r W A) (hw3 : (X.1 r 3).toInt = (wd : Int)) (hw : w < W) (h2 : p2.toInt = (w : Int)) (ha : a ≠ sr + 4) (har : a < r ∨ r + 4 ≤ a) (g : gx_129 r sr p2 a X v X') : ∃ ix', v.toInt = (ix'.length : Int) ∧ ix'.length ≤ A.length ∧ cx_af a X X' ∧ cx_ix X' a ix' ∧ (∀ i, i ∈ ix' → i < A.length) ∧ ix'.map (md_fv val w A) = md_line val w A ∧ md_so (ix'.map (md_fv val w A)) := by
  obtain ⟨q, g⟩ := g
  exact cx_129l hce hA hR hw3 hw h2 ha har A.length 0 q _ _ X [] (by omega) rfl rfl (Nat.le_refl _) ⟨rfl, fun _ _ _ => rfl⟩ (fun j i h => by cases h) (fun i h => by cases h) rfl List.Pairwise.nil g
end CX51
