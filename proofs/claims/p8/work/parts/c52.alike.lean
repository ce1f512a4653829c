/-! THE CLASS'S WORKER: GROUPS, rows alike in what is picked -/
/-- where a WORLD's groups are looked at -/
def cx_GS (X : fx_X) (sr r W n wd : Nat) (val : md_V) (A : List md_Row) (ps ix : List Nat) : Prop := cx_ce X sr W n val ∧ md_okA n wd A ∧ cx_Rr X r W A ∧ ((X.1 96 1).toInt = (ps.length : Int) ∧ ps.length < 6) ∧ (∀ (i c : Nat), ps[i]? = some c → (X.1 97 i).toInt = (c : Int)) ∧ (∀ c, c ∈ ps → c < wd) ∧ cx_ix X 98 ix ∧ (∀ i, i ∈ ix → i < A.length) ∧ ix.length ≤ A.length
section CX52
variable {t : md_Tm} {X X' X0 X1 : fx_X} {v p p0 p1 p2 p3 p4 p5 p6 : Int32} {u : Unit} {sr r r' rs W n i i' j j' c w w' m k P wd a : Nat} {val : md_V} {A B : List md_Row} {ts us : List md_Tm} {x y : md_Row} {ix ps : List Nat}
theorem md_fv_at (hi : A[i]? = some x) (hc : x.1[c]? = some t) : (md_fv val w A i).getD c (Int32.ofInt 0) = md_cv val w t := by
  unfold md_fv md_vl
  rw [List.getD_eq_getElem?_getD, List.getD_eq_getElem?_getD, hi]
  show (x.1.map _)[c]?.getD _ = _
  rw [List.getElem?_map, hc]; rfl
/-- one value of a row lined up -/
theorem cx_gv (h : cx_GS X sr r W n wd val A ps ix) (hw : w < W) (hj : ix[j]? = some i) (hc : c < wd) (h3 : p3.toInt = (c : Int)) (h4 : p4.toInt = (w : Int)) (g : gx_114_2 r sr (X.1 98 j) p3 p4 X v X') : X = X' ∧ v = (md_fv val w A i).getD c (Int32.ofInt 0) := by
  obtain ⟨h1, h2, hR, h5, h6, h7, hix, h8, h9⟩ := h
  have hil := h8 i (List.mem_of_getElem? hj)
  obtain ⟨x, hx⟩ : ∃ x, A[i]? = some x := ⟨A[i], List.getElem?_eq_getElem hil⟩
  obtain ⟨o1, o2⟩ := h2.2 x (List.mem_of_getElem? hx)
  obtain ⟨t, ht⟩ : ∃ t, x.1[c]? = some t := ⟨x.1[c]'(by omega), List.getElem?_eq_getElem _⟩
  obtain ⟨a1, a2⟩ := cx_114 h1 (hR.2 i x hx).1 o1 (Nat.lt_of_lt_of_le hil h2.1) hw (hix j i hj) h3 h4 ht g
  exact ⟨a1, by rw [a2, md_fv_at hx ht]⟩
theorem cx_132l (h : cx_GS X sr r W n wd val A ps ix) (hw : w < W) (hj : ix[j]? = some i) (hj' : ix[j']? = some i') (h3 : p3.toInt = (j : Int)) (h4 : p4.toInt = (j' : Int)) (h5 : p5.toInt = (w : Int)) : ∀ (d c q : Nat) (y6 : Int32), c + d = ps.length → y6.toInt = (c : Int) → md_key (ps.take c) (md_fv val w A i) = md_key (ps.take c) (md_fv val w A i') → gxF_132 sr r p3 p4 p5 q 33 [y6] [] [] X v X' → X = X' ∧ v = (if md_key ps (md_fv val w A i) = md_key ps (md_fv val w A i') then Int32.ofInt 1 else Int32.ofInt 0) := by
  have h' := h
  obtain ⟨-, -, -, ⟨e1, e2⟩, e3, e4, -, -, -⟩ := h'
  intro d
  induction d with
  | zero =>
    intro c q y6 hcd hc hp g
    cases q with
    | zero => exact g.elim
    | succ q =>
      replace g := gxO_132_33 g
      unfold gxT_132_33 at g
      rw [if_neg (by omega)] at g
      obtain ⟨rfl, rfl⟩ := g
      rw [List.take_of_length_le (by omega)] at hp
      rw [if_pos hp]
      exact ⟨rfl, rfl⟩
  | succ d ih =>
    intro c q y6 hcd hc hp g
    cases q with
    | zero => exact g.elim
    | succ q =>
      replace g := gxO_132_33 g
      unfold gxT_132_33 at g
      have hcl : c < ps.length := by omega
      have hcd' : c + 1 + d = ps.length := by omega
      have c6 : c ≤ 1000000 := by omega
      obtain ⟨k, hk⟩ : ∃ k, ps[c]? = some k := ⟨ps[c], List.getElem?_eq_getElem hcl⟩
      have hkw := e4 k (List.mem_of_getElem? hk)
      rw [if_pos (by omega), if_pos (by omega), fx_in hc, fx_in h3, fx_in h4] at g
      obtain ⟨-, -, w17, X16, r1, -, -, w23, X22, r2, g⟩ := g
      obtain ⟨rfl, rfl⟩ := cx_gv h hw hj hkw (e3 c k hk) h5 r1
      obtain ⟨rfl, rfl⟩ := cx_gv h hw hj' hkw (e3 c k hk) h5 r2
      rcases fy_ifd g with ⟨e, g⟩ | ⟨e, g⟩
      · obtain ⟨x25, rfl, g⟩ := g
        refine ih (c + 1) q _ hcd' (cx_inc hc c6) ?_ g
        rw [List.take_succ, hk]
        unfold md_key at hp ⊢
        rw [List.map_append, List.map_append, hp]
        show _ ++ [(md_fv val w A i).getD k _] = _ ++ [(md_fv val w A i').getD k _]
        rw [fx_inj e]
      · obtain ⟨rfl, rfl⟩ := g
        have : ¬ md_key ps (md_fv val w A i) = md_key ps (md_fv val w A i') := fun z => e (by
          have := congrArg (fun l => l[c]?) z
          unfold md_key at this
          rw [List.getElem?_map, List.getElem?_map, hk] at this
          exact congrArg _ (Option.some.inj this))
        rw [if_neg this]
        exact ⟨rfl, rfl⟩
theorem cx_132 (h : cx_GS X sr r W n wd val A ps ix) (hw : w < W) (hj : ix[j]? = some i) (hj' : ix[j']? = some i') (h3 : p3.toInt = (j : Int)) (h4 : p4.toInt = (j' : Int)) (h5 : p5.toInt = (w : Int)) (g : gx_132 sr r p3 p4 p5 X v X') : X = X' ∧ v = (if md_key ps (md_fv val w A i) = md_key ps (md_fv val w A i') then Int32.ofInt 1 else Int32.ofInt 0) := by
  obtain ⟨q, g⟩ := g
  have l1 := (List.getElem?_eq_some_iff.mp hj).1
  have l2 := (List.getElem?_eq_some_iff.mp hj').1
  have l3 := h.2.2.2.2.2.2.2.2
  have l4 := h.2.1.1
  unfold gxE_132 at g
  rw [if_neg (by omega), if_pos (by omega), if_neg (by omega), if_pos (by omega)] at g
  exact cx_132l h hw hj hj' h3 h4 h5 ps.length 0 q _ (by omega) rfl rfl g
/-- none alike ahead -/
theorem cx_131l (h : cx_GS X sr r W n wd val A ps ix) (hw : w < W) (hj : ix[j]? = some i) (h3 : p3.toInt = (j : Int)) (h4 : p4.toInt = (w : Int)) : ∀ (d c q : Nat) (y5 : Int32), c + d = j → y5.toInt = (c : Int) → (∀ (l b : Nat), l < c → ix[l]? = some b → md_key ps (md_fv val w A b) ≠ md_key ps (md_fv val w A i)) → gxF_131 sr r p3 p4 q 3 [y5] [] [] X v X' → X = X' ∧ ((v.toInt ≠ 0 ∧ ∀ (l b : Nat), l < j → ix[l]? = some b → md_key ps (md_fv val w A b) ≠ md_key ps (md_fv val w A i)) ∨ (v.toInt = 0 ∧ ∃ (l b : Nat), l < j ∧ ix[l]? = some b ∧ md_key ps (md_fv val w A b) = md_key ps (md_fv val w A i))) := by
  have l1 := (List.getElem?_eq_some_iff.mp hj).1
  have l3 := h.2.2.2.2.2.2.2.2
  have l4 := h.2.1.1
  intro d
  induction d with
  | zero =>
    intro c q y5 hcd hc hp g
    cases q with
    | zero => exact g.elim
    | succ q =>
      replace g := gxO_131_3 g
      unfold gxT_131_3 at g
      rw [if_neg (by omega)] at g
      obtain ⟨rfl, rfl⟩ := g
      have e : c = j := by omega
      subst e
      exact ⟨rfl, Or.inl ⟨by decide, hp⟩⟩
  | succ d ih =>
    intro c q y5 hcd hc hp g
    cases q with
    | zero => exact g.elim
    | succ q =>
      replace g := gxO_131_3 g
      unfold gxT_131_3 at g
      have hcj : c < j := by omega
      have hcl : c < ix.length := by omega
      have hcd' : c + 1 + d = j := by omega
      have c6 : c ≤ 1000000 := by omega
      obtain ⟨b, hb⟩ : ∃ b, ix[c]? = some b := ⟨ix[c], List.getElem?_eq_getElem hcl⟩
      rw [if_pos (by omega), if_pos (by omega)] at g
      obtain ⟨w7, X6, r1, g⟩ := g
      obtain ⟨rfl, rfl⟩ := cx_132 h hw hb hj hc h3 h4 r1
      by_cases e : md_key ps (md_fv val w A b) = md_key ps (md_fv val w A i)
      · rw [if_pos e, if_neg (by decide)] at g
        obtain ⟨rfl, rfl⟩ := g
        exact ⟨rfl, Or.inr ⟨rfl, c, b, hcj, hb, e⟩⟩
      · rw [if_neg e, if_pos (by decide)] at g
        obtain ⟨x9, rfl, g⟩ := g
        refine ih (c + 1) q _ hcd' (cx_inc hc c6) (fun l b' hl hb' => ?_) g
        by_cases z : l = c
        · subst z
          rw [hb] at hb'
          cases hb'
          exact e
        · exact hp l b' (by omega) hb'
theorem cx_131 (h : cx_GS X sr r W n wd val A ps ix) (hw : w < W) (hj : ix[j]? = some i) (h3 : p3.toInt = (j : Int)) (h4 : p4.toInt = (w : Int)) (g : gx_131 sr r p3 p4 X v X') : X = X' ∧ ((v.toInt ≠ 0 ∧ ∀ (l b : Nat), l < j → ix[l]? = some b → md_key ps (md_fv val w A b) ≠ md_key ps (md_fv val w A i)) ∨ (v.toInt = 0 ∧ ∃ (l b : Nat), l < j ∧ ix[l]? = some b ∧ md_key ps (md_fv val w A b) = md_key ps (md_fv val w A i))) := by
  obtain ⟨q, g⟩ := g
  exact cx_131l h hw hj h3 h4 j 0 q _ (by omega) rfl (fun l b hl => absurd hl (Nat.not_lt_zero l)) g
end CX52
