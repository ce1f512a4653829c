/-! THE CLASS'S WORKER: GROUPS, what is folded -/
def md_stp (fo : Int) (s x : Int32) : Int32 := if fo = 16 then s + Int32.ofInt 1 else if fo = 17 then (if x.toInt < s.toInt then x else s) else if fo = 18 then (if s.toInt < x.toInt then x else s) else s + x
def md_al (ps : List Nat) (fd : Nat) (F : Nat → List Int32) (K : List Int32) (l : List Nat) : List Int32 := (l.filter (fun b => md_key ps (F b) == K)).map (fun b => (F b).getD fd (Int32.ofInt 0))
section CX53
variable {X X' X0 X1 : fx_X} {v p p0 p1 p2 p3 p4 p5 p6 : Int32} {u : Unit} {sr r r' rs W n i i' j j' c w w' m k P wd a : Nat} {val : md_V} {A B : List md_Row} {ix ps : List Nat} {fo fd : Int}
theorem md_tal_one {a : Int32} : md_tal fo [a] = if fo = 16 then Int32.ofInt 1 else a := rfl
theorem md_tal_app {a : Int32} : ∀ l : List Int32, l ≠ [] → md_tal fo (l ++ [a]) = md_stp fo (md_tal fo l) a
  | [], h => absurd rfl h
  | b :: l, _ => by
    show (l ++ [a]).foldl (md_stp fo) _ = md_stp fo (l.foldl (md_stp fo) _) a
    rw [List.foldl_append]; rfl
theorem cx_134 (h2 : (X.1 96 2).toInt = fo) (g : gx_134 p1 X v X') : X = X' ∧ v = if fo = 16 then Int32.ofInt 1 else p1 := by
  unfold gx_134 at g
  rw [h2] at g
  rcases fy_ifd g with ⟨e, g⟩ | ⟨e, g⟩
  · rw [if_pos e]; exact ⟨g.2.symm, g.1⟩
  · rw [if_neg e]; exact ⟨g.2.symm, g.1⟩
theorem cx_135 (h2 : (X.1 96 2).toInt = fo) (g : gx_135 p1 p2 X v X') : X = X' ∧ v = md_stp fo p1 p2 := by
  unfold gx_135 at g
  unfold md_stp
  rw [h2] at g
  rcases fy_ifd g with ⟨e, g⟩ | ⟨e, g⟩
  · rw [if_pos e]; exact ⟨g.2.symm, g.1⟩
  · rw [if_neg e]
    rcases fy_ifd g with ⟨e1, g⟩ | ⟨e1, g⟩
    · rw [if_pos e1]
      refine ⟨g.2.symm, g.1.trans ?_⟩
      by_cases z : p2 < p1
      · rw [if_pos z, if_pos (Int32.lt_iff_toInt_lt.mp z)]
      · rw [if_neg z, if_neg (fun y => z (Int32.lt_iff_toInt_lt.mpr y))]
    · rw [if_neg e1]
      rcases fy_ifd g with ⟨e2, g⟩ | ⟨e2, g⟩
      · rw [if_pos e2]
        refine ⟨g.2.symm, g.1.trans ?_⟩
        by_cases z : p1 < p2
        · rw [if_pos z, if_pos (Int32.lt_iff_toInt_lt.mp z)]
        · rw [if_neg z, if_neg (fun y => z (Int32.lt_iff_toInt_lt.mpr y))]
      · rw [if_neg e2]; exact ⟨g.2.symm, g.1⟩
theorem cx_133l (h : cx_GS X sr r W n wd val A ps ix) (hw : w < W) (hj : ix[j]? = some i) (h3 : p3.toInt = (j : Int)) (h4 : p4.toInt = (ix.length : Int)) (h5 : p5.toInt = (w : Int)) (hfo : (X.1 96 2).toInt = fo) (hfd : (X.1 96 3).toInt = fd) (hok : fo = 16 ∨ (0 ≤ fd ∧ fd < (wd : Int))) (h0 : md_al ps fd.toNat (md_fv val w A) (md_key ps (md_fv val w A i)) (ix.take j) = []) : ∀ (d c q : Nat) (y6 y7 : Int32), c + d = ix.length → j ≤ c → y7.toInt = (c : Int) → y6 = md_tal fo (md_al ps fd.toNat (md_fv val w A) (md_key ps (md_fv val w A i)) (ix.take c)) → gxF_133 sr r p3 p4 p5 q 6 [y6, y7] [] [] X v X' → X = X' ∧ v = md_tal fo (md_al ps fd.toNat (md_fv val w A) (md_key ps (md_fv val w A i)) ix) := by
  have l3 := h.2.2.2.2.2.2.2.2
  have l4 := h.2.1.1
  intro d
  induction d with
  | zero =>
    intro c q y6 y7 hcd hjc hc hy g
    cases q with
    | zero => exact g.elim
    | succ q =>
      replace g := gxO_133_6 g
      unfold gxT_133_6 at g
      rw [if_neg (by omega)] at g
      obtain ⟨rfl, rfl⟩ := g
      rw [List.take_of_length_le (by omega)] at hy
      exact ⟨rfl, hy⟩
  | succ d ih =>
    intro c q y6 y7 hcd hjc hc hy g
    cases q with
    | zero => exact g.elim
    | succ q =>
      replace g := gxO_133_6 g
      unfold gxT_133_6 at g
      have hcl : c < ix.length := by omega
      have hcd' : c + 1 + d = ix.length := by omega
      have c6 : c ≤ 1000000 := by omega
      have hjc' : j ≤ c + 1 := by omega
      obtain ⟨b, hb⟩ : ∃ b, ix[c]? = some b := ⟨ix[c], List.getElem?_eq_getElem hcl⟩
      have htk : ix.take (c + 1) = ix.take c ++ [b] := by rw [List.take_succ, hb]; rfl
      rw [if_pos (by omega), if_pos (by omega)] at g
      obtain ⟨w8, X7, r1, g⟩ := g
      obtain ⟨rfl, rfl⟩ := cx_132 h hw hj hb h3 hc h5 r1
      by_cases e : md_key ps (md_fv val w A i) = md_key ps (md_fv val w A b)
      · rw [if_pos e, if_neg (by decide), fx_in hc] at g
        obtain ⟨-, w15, X14, r2, g⟩ := g
        have hal : md_al ps fd.toNat (md_fv val w A) (md_key ps (md_fv val w A i)) (ix.take (c + 1)) = md_al ps fd.toNat (md_fv val w A) (md_key ps (md_fv val w A i)) (ix.take c) ++ [(md_fv val w A b).getD fd.toNat (Int32.ofInt 0)] := by
          rw [htk]
          unfold md_al
          rw [List.filter_append, List.map_append]
          congr 1
          have : [b].filter (fun b => md_key ps (md_fv val w A b) == md_key ps (md_fv val w A i)) = [b] := by
            simp [List.filter, e]
          rw [this]; rfl
        have hv : X = X14 ∧ (fo = 16 ∨ w15 = (md_fv val w A b).getD fd.toNat (Int32.ofInt 0)) := by
          refine ⟨(fy_e (gf_114_2 r2)).symm, ?_⟩
          rcases hok with z | z
          · exact Or.inl z
          · obtain ⟨k, hk⟩ : ∃ k : Nat, fd = (k : Int) := ⟨fd.toNat, (Int.toNat_of_nonneg z.1).symm⟩
            have hkw : k < wd := by omega
            have := (cx_gv h hw hb hkw (hfd.trans hk) h5 r2).2
            rw [hk, Int.toNat_natCast]
            exact Or.inr this
        obtain ⟨rfl, hv⟩ := hv
        rcases fy_ifd g with ⟨e2, g⟩ | ⟨e2, g⟩
        · obtain ⟨w24, X23, r3, x26, rfl, g⟩ := g
          obtain ⟨rfl, rfl⟩ := cx_134 hfo r3
          refine ih (c + 1) q _ _ hcd' hjc' (cx_inc hc c6) ?_ g
          have ecj : c = j := by omega
          rw [hal, ecj, h0, List.nil_append, md_tal_one]
          rcases hv with z | z
          · rw [if_pos z, if_pos z]
          · rw [z]
        · obtain ⟨w19, X18, r3, x21, rfl, g⟩ := g
          obtain ⟨rfl, rfl⟩ := cx_135 hfo r3
          refine ih (c + 1) q _ _ hcd' hjc' (cx_inc hc c6) ?_ g
          have hne : md_al ps fd.toNat (md_fv val w A) (md_key ps (md_fv val w A i)) (ix.take c) ≠ [] := by
            have hjlt : j < c := by omega
            have him : i ∈ ix.take c := by
              have hl := (List.getElem?_eq_some_iff.mp hj)
              obtain ⟨hl1, hl2⟩ := hl
              refine List.mem_iff_getElem.mpr ⟨j, by rw [List.length_take]; omega, ?_⟩
              rw [List.getElem_take]; exact hl2
            unfold md_al
            intro z
            have hm : i ∈ (ix.take c).filter (fun b => md_key ps (md_fv val w A b) == md_key ps (md_fv val w A i)) := List.mem_filter.mpr ⟨him, by simp⟩
            rw [List.map_eq_nil_iff] at z
            rw [z] at hm
            cases hm
          rw [hal, md_tal_app _ hne, hy]
          rcases hv with z | z
          · unfold md_stp
            rw [if_pos z, if_pos z]
          · rw [z]
      · rw [if_neg e, if_pos (by decide)] at g
        obtain ⟨x10, rfl, g⟩ := g
        refine ih (c + 1) q _ _ hcd' hjc' (cx_inc hc c6) ?_ g
        rw [hy, htk]
        unfold md_al
        have : [b].filter (fun b => md_key ps (md_fv val w A b) == md_key ps (md_fv val w A i)) = [] := by
          have : (md_key ps (md_fv val w A b) == md_key ps (md_fv val w A i)) = false := by
            rw [beq_eq_false_iff_ne]; exact fun z => e z.symm
          simp [List.filter, this]
        rw [List.filter_append, this, List.append_nil]
end CX53
