/-! THE CLASS'S WORKER: GROUPS of a WORLD -/
def md_gv (ps : List Nat) (fo : Int) (fd : Nat) (F : Nat → List Int32) (ix : List Nat) (i : Nat) : List Int32 := md_key ps (F i) ++ [md_tal fo (md_al ps fd F (md_key ps (F i)) ix)]
/-- these ROWS and one buffer alone -/
def cx_qf (rs : Nat) (X X' : fx_X) : Prop := X'.2 = X.2 ∧ ∀ q j, q ≠ 99 → (q < rs ∨ rs + 4 ≤ q) → X'.1 q j = X.1 q j
section CX56
variable {X X' X0 X1 : fx_X} {v p p0 p1 p2 p3 p4 p5 p6 : Int32} {u : Unit} {sr r r' rs W n i i' j j' c w w' m k P wd a b : Nat} {val : md_V} {A B : List md_Row} {ix ps : List Nat} {fo fd : Int} {x z : List Int32} {C : List (List Int32)} {D : Nat → List Int32 → Bool} {F : Nat → List Int32}
theorem md_grw_ix : md_grw ps fo k (ix.map F) = ix.map (md_gv ps fo k F ix) := by
  unfold md_grw
  rw [List.map_map]
  apply List.map_congr_left
  intro i _
  show md_key ps (F i) ++ [md_tal fo (((ix.map F).filter (fun y => md_key ps y == md_key ps (F i))).map (fun y => y.getD k (Int32.ofInt 0)))] = _
  rw [List.filter_map, List.map_map]
  rfl
theorem md_gv_key (h : md_key ps (F i) = md_key ps (F i')) : md_gv ps fo k F ix i = md_gv ps fo k F ix i' := by
  unfold md_gv
  rw [h]
theorem md_gv_len : (md_gv ps fo k F ix i).length = ps.length + 1 := by
  unfold md_gv md_key
  rw [List.length_append, List.length_map]; rfl
theorem cx_GS_qf (hs : sr = 54 ∨ sr = 66) (hrs : rs = 102 ∨ 150 ≤ rs) (hr : r = 102 ∨ 150 ≤ r) (hap : rs + 4 ≤ r ∨ r + 4 ≤ rs) (h : cx_GS X sr r W n wd val A ps ix) (hf : cx_qf rs X X') : cx_GS X' sr r W n wd val A ps ix := by
  obtain ⟨h1, h2, hR, h5, h6, h7, hix, h8, h9⟩ := h
  refine ⟨⟨h1.1, h1.2.1, fun w u hw hu => by rw [hf.2 _ _ (by omega) (by omega)]; exact h1.2.2 w u hw hu⟩, h2, cx_Rr_e hR (hf.2 _ _ (by omega) (by omega)) (fun k => hf.2 _ _ (by omega) (by omega)) (fun k => hf.2 _ _ (by omega) (by omega)) (fun k => hf.2 _ _ (by omega) (by omega)), ⟨by rw [hf.2 _ _ (by decide) (by omega)]; exact h5.1, h5.2⟩, fun i c hc => by rw [hf.2 _ _ (by decide) (by omega)]; exact h6 i c hc, h7, fun j i hj => by rw [hf.2 _ _ (by decide) (by omega)]; exact hix j i hj, h8, h9⟩
/-- what is picked of a row, into the buffer -/
theorem cx_128k {X0 : fx_X} (hs : sr = 54 ∨ sr = 66) (hrs : rs = 102 ∨ 150 ≤ rs) (hr : r = 102 ∨ 150 ≤ r) (hap : rs + 4 ≤ r ∨ r + 4 ≤ rs) (h : cx_GS X0 sr r W n wd val A ps ix) (hw : w < W) (hj : ix[j]? = some i) (h4 : p4.toInt = (w : Int)) {y5 y6 y7 : Int32} (h6 : y6.toInt = (j : Int)) (h7 : y7.toInt = (ps.length : Int)) : ∀ (d c q : Nat) (y8 : Int32) (X : fx_X), c + d = ps.length → y8.toInt = (c : Int) → cx_af 99 X0 X → (∀ (l : Nat) (v : Int32), l < c → (md_key ps (md_fv val w A i))[l]? = some v → X.1 99 l = v) → gxF_128 sr r rs p4 q 68 [y5, y6, y7, y8] [] [] X v X' → ∃ (X1 : fx_X) (q' : Nat), cx_af 99 X0 X1 ∧ (∀ (l : Nat) (v : Int32), (md_key ps (md_fv val w A i))[l]? = some v → X1.1 99 l = v) ∧ ∃ (w22 : Int32) (X21 : fx_X), gx_133 sr r y6 y5 p4 X1 w22 X21 ∧ ∃ X24 : fx_X, X24 = fx_wI X21 99 ps.length w22 ∧ ∃ (w26 : Int32) (X25 : fx_X), gx_136 rs X24 w26 X25 ∧ ((w26.toInt < 0 ∧ v = Int32.ofInt 0 ∧ X' = X25) ∨ (¬ w26.toInt < 0 ∧ ∃ (w30 : Unit) (X29 : fx_X), gx_109 rs w26 p4 X25 w30 X29 ∧ gxF_128 sr r rs p4 q' 16 [y5, y6 + Int32.ofInt 1] [] [] X29 v X')) := by
  have hjl := (List.getElem?_eq_some_iff.mp hj).1
  have hj30 : j < 30 := Nat.lt_of_lt_of_le hjl (Nat.le_trans h.2.2.2.2.2.2.2.2 h.2.1.1)
  have hp6 := h.2.2.2.1.2
  have hkl : (md_key ps (md_fv val w A i)).length = ps.length := by unfold md_key; rw [List.length_map]
  intro d
  induction d with
  | zero =>
    intro c q y8 X hcd hc hf hb g
    cases q with
    | zero => exact g.elim
    | succ q =>
      replace g := gxO_128_68 g
      unfold gxT_128_68 at g
      rw [if_neg (by omega), fx_in h7] at g
      obtain ⟨w22, X21, r1, -, X24, rfl, w26, X25, r2, g⟩ := g
      refine ⟨X, q, hf, fun l v hl => hb l v (by have := (List.getElem?_eq_some_iff.mp hl).1; omega) hl, w22, X21, r1, _, rfl, w26, X25, r2, ?_⟩
      rcases fy_ifd g with ⟨e, g⟩ | ⟨e, g⟩
      · exact Or.inl ⟨e, g⟩
      · obtain ⟨w30, X29, r3, x31, rfl, g⟩ := g
        exact Or.inr ⟨e, w30, X29, r3, g⟩
  | succ d ih =>
    intro c q y8 X hcd hc hf hb g
    cases q with
    | zero => exact g.elim
    | succ q =>
      replace g := gxO_128_68 g
      unfold gxT_128_68 at g
      have hcl : c < ps.length := by omega
      have hcd' : c + 1 + d = ps.length := by omega
      have c6 : c ≤ 1000000 := by omega
      obtain ⟨k, hk⟩ : ∃ k, ps[c]? = some k := ⟨ps[c], List.getElem?_eq_getElem hcl⟩
      have hqf : cx_qf rs X0 X := ⟨hf.1, fun q j h1 _ => hf.2 q j h1⟩
      have hX := cx_GS_qf hs hrs hr hap h hqf
      rw [if_pos (by omega), fx_in h6, fx_in hc] at g
      obtain ⟨-, -, w39, X38, r1, -, X41, rfl, x42, rfl, g⟩ := g
      obtain ⟨rfl, rfl⟩ := cx_gv hX hw hj (hX.2.2.2.2.2.1 k (List.mem_of_getElem? hk)) (hX.2.2.2.2.1 c k hk) h4 r1
      refine ih (c + 1) q _ (fx_wI X 99 c ((md_fv val w A i).getD k (Int32.ofInt 0))) hcd' (cx_inc hc c6) ⟨hf.1, fun q j hq => by rw [fx_rIn hq]; exact hf.2 q j hq⟩ (fun l v hl hv => ?_) g
      by_cases z : l = c
      · subst z
        unfold md_key at hv
        rw [List.getElem?_map, hk] at hv
        cases hv
        rw [fx_rIe]
      · rw [fx_rIk z]; exact hb l v (by omega) hv
end CX56
