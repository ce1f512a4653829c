/-! THE CLASS'S WORKER: GROUPS, one found or new -/
def md_fr (x : List Int32) : List md_Tm := x.map (fun v => (false, v))
/-- the groups so far: their values alone -/
def cx_gr (X : fx_X) (rs m : Nat) (C : List (List Int32)) : Prop := (X.1 rs 4).toInt = (C.length : Int) ∧ (X.1 rs 3).toInt = (m : Int) ∧ ∀ g x, C[g]? = some x → x.length = m ∧ cx_Rt X rs g (md_fr x)
section CX54
variable {X X' X0 X1 : fx_X} {v p p0 p1 p2 p3 p4 p5 p6 : Int32} {u : Unit} {sr r r' rs W n i i' j j' c w w' m k P wd a : Nat} {val : md_V} {A B : List md_Row} {ix ps : List Nat} {fo fd : Int} {x z : List Int32} {C : List (List Int32)}
theorem cx_133 (h : cx_GS X sr r W n wd val A ps ix) (hw : w < W) (hj : ix[j]? = some i) (h3 : p3.toInt = (j : Int)) (h4 : p4.toInt = (ix.length : Int)) (h5 : p5.toInt = (w : Int)) (hfo : (X.1 96 2).toInt = fo) (hfd : (X.1 96 3).toInt = fd) (hok : fo = 16 ∨ (0 ≤ fd ∧ fd < (wd : Int))) (hf : ∀ (l b : Nat), l < j → ix[l]? = some b → md_key ps (md_fv val w A b) ≠ md_key ps (md_fv val w A i)) (g : gx_133 sr r p3 p4 p5 X v X') : X = X' ∧ v = md_tal fo (md_al ps fd.toNat (md_fv val w A) (md_key ps (md_fv val w A i)) ix) := by
  obtain ⟨q, g⟩ := g
  have hjl := (List.getElem?_eq_some_iff.mp hj).1
  have h0 : md_al ps fd.toNat (md_fv val w A) (md_key ps (md_fv val w A i)) (ix.take j) = [] := by
    unfold md_al
    rw [List.map_eq_nil_iff, List.filter_eq_nil_iff]
    intro b hb
    obtain ⟨l, hl, hlb⟩ := List.mem_iff_getElem.mp hb
    rw [List.length_take] at hl
    have hlj : l < j := Nat.lt_of_lt_of_le hl (Nat.min_le_left _ _)
    rw [List.getElem_take] at hlb
    have hl' : l < ix.length := Nat.lt_trans hlj hjl
    have := hf l b hlj (by rw [List.getElem?_eq_getElem hl', hlb])
    simpa using this
  exact cx_133l h hw hj h3 h4 h5 hfo hfd hok h0 (ix.length - j) j q _ _ (by omega) (Nat.le_refl _) h3 (by rw [h0]; rfl) g
/-- the same group? -/
theorem cx_137l (hx : x.length = m) (hz : z.length = m) (h6 : m ≤ 6) (hT : cx_Rt X rs i (md_fr x)) (hi : i < 30) (h3 : (X.1 rs 3).toInt = (m : Int)) (h2 : p2.toInt = (i : Int)) (hb : ∀ (c : Nat) (v : Int32), z[c]? = some v → X.1 99 c = v) : ∀ (d c q : Nat) (y3 : Int32), c + d = m → y3.toInt = (c : Int) → x.take c = z.take c → gxF_137 rs p2 q 2 [y3] [] [] X v X' → X = X' ∧ v = (if x = z then Int32.ofInt 1 else Int32.ofInt 0) := by
  intro d
  induction d with
  | zero =>
    intro c q y3 hcd hc hp g
    cases q with
    | zero => exact g.elim
    | succ q =>
      replace g := gxO_137_2 g
      unfold gxT_137_2 at g
      rw [if_neg (by omega)] at g
      obtain ⟨rfl, rfl⟩ := g
      rw [List.take_of_length_le (by omega), List.take_of_length_le (by omega)] at hp
      rw [if_pos hp]
      exact ⟨rfl, rfl⟩
  | succ d ih =>
    intro c q y3 hcd hc hp g
    cases q with
    | zero => exact g.elim
    | succ q =>
      replace g := gxO_137_2 g
      unfold gxT_137_2 at g
      have hcx : c < x.length := by omega
      have hcz : c < z.length := by omega
      have hc66 : c < 6 := by omega
      have hcd' : c + 1 + d = m := by omega
      have c6 : c ≤ 1000000 := by omega
      have ht : (md_fr x)[c]? = some (false, x[c]) := by
        unfold md_fr
        rw [List.getElem?_map, List.getElem?_eq_getElem hcx]; rfl
      rw [if_pos (by omega), if_pos (by omega)] at g
      obtain ⟨w7, X6, r1, -, g⟩ := g
      obtain ⟨rfl, rfl⟩ := cx_104 hT hi hc66 h2 hc ht r1
      rw [fx_in hc, hb c z[c] (List.getElem?_eq_getElem hcz)] at g
      rcases fy_ifd g with ⟨e, g⟩ | ⟨e, g⟩
      · obtain ⟨x11, rfl, g⟩ := g
        refine ih (c + 1) q _ hcd' (cx_inc hc c6) ?_ g
        have e' : x[c] = z[c] := fx_inj e
        rw [List.take_succ, List.take_succ, hp, List.getElem?_eq_getElem hcx, List.getElem?_eq_getElem hcz, e']
      · obtain ⟨rfl, rfl⟩ := g
        have : ¬ x = z := fun y => e (by subst y; rfl)
        rw [if_neg this]
        exact ⟨rfl, rfl⟩
theorem cx_137 (hx : x.length = m) (hz : z.length = m) (h6 : m ≤ 6) (hT : cx_Rt X rs i (md_fr x)) (hi : i < 30) (h3 : (X.1 rs 3).toInt = (m : Int)) (h2 : p2.toInt = (i : Int)) (hb : ∀ (c : Nat) (v : Int32), z[c]? = some v → X.1 99 c = v) (g : gx_137 rs p2 X v X') : X = X' ∧ v = (if x = z then Int32.ofInt 1 else Int32.ofInt 0) := by
  obtain ⟨q, g⟩ := g
  exact cx_137l hx hz h6 hT hi h3 h2 hb m 0 q _ (by omega) rfl rfl g
/-- a new one written -/
theorem cx_136w {X0 : fx_X} (hrs : rs = 102 ∨ 150 ≤ rs) (hz : z.length = m) (h6 : m ≤ 6) (h4 : (X0.1 rs 4).toInt = (k : Int)) (h3 : (X0.1 rs 3).toInt = (m : Int)) (hk : k < 30) (hb : ∀ (c : Nat) (v : Int32), z[c]? = some v → X0.1 99 c = v) : ∀ (d c q : Nat) (y2 : Int32) (X : fx_X), c + d = m → y2.toInt = (c : Int) → cx_rf rs X0 X → (∀ j, X.1 rs j = X0.1 rs j) → (∀ j, X.1 (rs + 3) j = X0.1 (rs + 3) j) → cx_Rt X rs k (md_fr (z.take c)) → (∀ l vs, l ≠ k → vs.length ≤ 6 → cx_Rt X0 rs l vs → cx_Rt X rs l vs) → gxF_136 rs q 40 [y2] [] [] X v X' → v.toInt = (k : Int) ∧ cx_rf rs X0 X' ∧ (X'.1 rs 4).toInt = ((k + 1 : Nat) : Int) ∧ (X'.1 rs 3).toInt = (m : Int) ∧ (∀ j, X'.1 (rs + 3) j = X0.1 (rs + 3) j) ∧ cx_Rt X' rs k (md_fr z) ∧ (∀ l vs, l ≠ k → vs.length ≤ 6 → cx_Rt X0 rs l vs → cx_Rt X' rs l vs) := by
  intro d
  induction d with
  | zero =>
    intro c q y2 X hcd hc hf h0 hb3 hT ho g
    cases q with
    | zero => exact g.elim
    | succ q =>
      replace g := gxO_136_40 g
      unfold gxT_136_40 at g
      have h3' : (X.1 rs 3).toInt = (m : Int) := by rw [h0]; exact h3
      have h4' : (X.1 rs 4).toInt = (k : Int) := by rw [h0]; exact h4
      rw [if_neg (by omega)] at g
      obtain ⟨X12, e12, rfl, rfl⟩ := g
      have hk4 : (X'.1 rs 4).toInt = ((k + 1 : Nat) : Int) := by rw [e12, fx_rIe]; exact cx_inc h4' (by omega)
      rw [List.take_of_length_le (by omega)] at hT
      refine ⟨cx_dec hk4 (by omega), by rw [e12]; exact cx_rf_w hf (by omega), hk4, by rw [e12, fx_rIk (by decide)]; exact h3', fun j => by rw [e12, fx_rIn (by omega)]; exact hb3 j, ?_, fun l vs h1 h2 h5 => ?_⟩
      · rw [e12]; exact cx_Rt_e hT (fun j => by rw [fx_rIn (by omega)]) (fun j => by rw [fx_rIn (by omega)])
      · rw [e12]; exact cx_Rt_e (ho l vs h1 h2 h5) (fun j => by rw [fx_rIn (by omega)]) (fun j => by rw [fx_rIn (by omega)])
  | succ d ih =>
    intro c q y2 X hcd hc hf h0 hb3 hT ho g
    cases q with
    | zero => exact g.elim
    | succ q =>
      replace g := gxO_136_40 g
      unfold gxT_136_40 at g
      have h3' : (X.1 rs 3).toInt = (m : Int) := by rw [h0]; exact h3
      have h4' : (X.1 rs 4).toInt = (k : Int) := by rw [h0]; exact h4
      have hcz : c < z.length := by omega
      have hc66 : c < 6 := by omega
      have hcd' : c + 1 + d = m := by omega
      have c6 : c ≤ 1000000 := by omega
      rw [if_pos (by omega), if_pos (by omega), fx_in hc] at g
      obtain ⟨-, w19, X18, r1, x20, rfl, g⟩ := g
      have e18 := cx_105 (t := (false, z[c])) hk hc66 h4' hc rfl (by rw [hf.2 _ _ (by omega)]; exact hb c _ (List.getElem?_eq_getElem hcz)) r1
      have hlen : (md_fr (z.take c)).length = c := by unfold md_fr; rw [List.length_map, List.length_take]; omega
      have hst : cx_rf rs X X18 := by rw [e18]; exact cx_st_rf
      have hsf := cx_st_f (X := X) (r := rs) (i := k) (c := c) (t := (false, z[c]))
      rw [← e18] at hsf
      have hT' : cx_Rt X18 rs k (md_fr (z.take (c + 1))) := by
        have := cx_st_Rt (t := (false, z[c])) hT
        rw [hlen, ← e18] at this
        rw [List.take_succ, List.getElem?_eq_getElem hcz]
        unfold md_fr at this ⊢
        rw [List.map_append]
        exact this
      refine ih (c + 1) q _ X18 hcd' (cx_inc hc c6) (cx_rf_tr hf hst) (fun j => (hsf.1 j).trans (h0 j)) (fun j => (hsf.2 j).trans (hb3 j)) hT' (fun l vs h1 h2 h5 => ?_) g
      rw [e18]
      exact cx_st_Ro h1 hc66 h2 (ho l vs h1 h2 h5)
/-- found, or new, or no room -/
theorem cx_136l (hrs : rs = 102 ∨ 150 ≤ rs) (hC : cx_gr X rs m C) (hl : C.length ≤ 30) (hz : z.length = m) (h6 : m ≤ 6) (hb : ∀ (c : Nat) (v : Int32), z[c]? = some v → X.1 99 c = v) : ∀ (d c q : Nat) (y2 : Int32), c + d = C.length → y2.toInt = (c : Int) → (∀ x, x ∈ C.take c → x ≠ z) → gxF_136 rs q 2 [y2] [] [] X v X' → (∃ b : Nat, C[b]? = some z ∧ v.toInt = (b : Int) ∧ X' = X) ∨ (z ∉ C ∧ C.length = 30 ∧ v.toInt = -1 ∧ X' = X) ∨ (z ∉ C ∧ C.length < 30 ∧ v.toInt = (C.length : Int) ∧ cx_gr X' rs m (C ++ [z]) ∧ cx_rf rs X X' ∧ (∀ j, X'.1 (rs + 3) j = X.1 (rs + 3) j)) := by
  intro d
  induction d with
  | zero =>
    intro c q y2 hcd hc hp g
    cases q with
    | zero => exact g.elim
    | succ q =>
      replace g := gxO_136_2 g
      unfold gxT_136_2 at g
      have h4 := hC.1
      rw [List.take_of_length_le (by omega)] at hp
      have hnot : z ∉ C := fun y => hp z y rfl
      rw [if_neg (by omega)] at g
      by_cases y : C.length < 30
      · rw [if_pos (by omega)] at g
        cases q with
        | zero => exact g.elim
        | succ q =>
          obtain ⟨a1, a2, a3, a4, a5, a6, a7⟩ := cx_136w hrs hz h6 hC.1 hC.2.1 y hb m 0 (q + 1) _ X (by omega) rfl cx_rf_rf (fun _ => rfl) (fun _ => rfl) (fun c t ht => by cases ht) (fun _ _ _ _ h => h) g
          refine Or.inr (Or.inr ⟨hnot, y, a1, ⟨by rw [a3, List.length_append]; rfl, a4, fun g x hx => ?_⟩, a2, a5⟩)
          rw [List.getElem?_append] at hx
          split at hx
          · rename_i hgl
            obtain ⟨b1, b2⟩ := hC.2.2 g x hx
            exact ⟨b1, a7 g _ (by omega) (by unfold md_fr; rw [List.length_map]; omega) b2⟩
          · have e : g = C.length := by
              have := (List.getElem?_eq_some_iff.mp hx).1
              have : g - C.length < 1 := this
              omega
            subst e
            rw [Nat.sub_self] at hx
            cases hx
            exact ⟨hz, a6⟩
      · rw [if_neg (by omega)] at g
        obtain ⟨rfl, rfl⟩ := g
        exact Or.inr (Or.inl ⟨hnot, by omega, by decide, rfl⟩)
  | succ d ih =>
    intro c q y2 hcd hc hp g
    cases q with
    | zero => exact g.elim
    | succ q =>
      replace g := gxO_136_2 g
      unfold gxT_136_2 at g
      have h4 := hC.1
      have hcl : c < C.length := by omega
      have hc30 : c < 30 := by omega
      have hcd' : c + 1 + d = C.length := by omega
      have c6 : c ≤ 1000000 := by omega
      obtain ⟨x, hx⟩ : ∃ x, C[c]? = some x := ⟨C[c], List.getElem?_eq_getElem hcl⟩
      obtain ⟨b1, b2⟩ := hC.2.2 c x hx
      rw [if_pos (by omega)] at g
      obtain ⟨w7, X6, r1, g⟩ := g
      obtain ⟨rfl, rfl⟩ := cx_137 b1 hz h6 b2 hc30 hC.2.1 hc hb r1
      by_cases e : x = z
      · rw [if_pos e, if_neg (by decide)] at g
        obtain ⟨rfl, rfl⟩ := g
        exact Or.inl ⟨c, by rw [hx, e], hc, rfl⟩
      · rw [if_neg e, if_pos (by decide)] at g
        obtain ⟨x9, rfl, g⟩ := g
        refine ih (c + 1) q _ hcd' (cx_inc hc c6) (fun y hy => ?_) g
        rw [List.take_succ, hx] at hy
        rcases List.mem_append.mp hy with s | s
        · exact hp y s
        · have : y = x := by simpa using s
          rw [this]; exact e
theorem cx_136 (hrs : rs = 102 ∨ 150 ≤ rs) (hC : cx_gr X rs m C) (hl : C.length ≤ 30) (hz : z.length = m) (h6 : m ≤ 6) (hb : ∀ (c : Nat) (v : Int32), z[c]? = some v → X.1 99 c = v) (g : gx_136 rs X v X') : (∃ b : Nat, C[b]? = some z ∧ v.toInt = (b : Int) ∧ X' = X) ∨ (z ∉ C ∧ C.length = 30 ∧ v.toInt = -1 ∧ X' = X) ∨ (z ∉ C ∧ C.length < 30 ∧ v.toInt = (C.length : Int) ∧ cx_gr X' rs m (C ++ [z]) ∧ cx_rf rs X X' ∧ (∀ j, X'.1 (rs + 3) j = X.1 (rs + 3) j)) := by
  obtain ⟨q, g⟩ := g
  exact cx_136l hrs hC hl hz h6 hb C.length 0 q _ (by omega) rfl (fun x hx => by rw [List.take_zero] at hx; cases hx) g
end CX54
