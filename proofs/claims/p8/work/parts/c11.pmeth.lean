/-! THE CLASS'S PARSER: its methods beside the model -/
def cx_Tk (X : fx_X) (T : md_T) : Prop := ∀ i, T.1 i = (if i < 1002 then (X.1 79 i).toInt else 2) ∧ T.2 i = (if i < 1002 then X.2.1 81 i else Int64.ofNat 0)
def cx_stk (f : Nat → Int32) : List md_Sy → Prop
  | [] => True
  | (s, l) :: K => (f K.length).toInt = 256 * (l : Int) + s ∧ cx_stk f K
def cx_ct (X : fx_X) (c : md_C) : Prop := ∀ i, 8 ≤ i → i ≤ 14 → i ≠ 9 → X.1 87 i = c i
def cx_ns (X : fx_X) (nm : md_Nm) : Prop := (X.1 87 9).toInt = (nm.length : Int) ∧ nm.length ≤ 10 ∧ ∀ i x, nm[i]? = some x → X.2.1 89 i = x.1 ∧ X.1 90 i = x.2
abbrev md_Nt : Type := Int × Nat × Nat × Int32
def cx_nt (X : fx_X) (ns : List md_Nt) (rn : Int) : Prop := (X.1 82 4).toInt = (ns.length : Int) ∧ (X.1 87 15).toInt = rn ∧ ∀ i x, ns[i]? = some x → (X.1 83 i).toInt = x.1 ∧ (X.1 84 i).toInt = (x.2.1 : Int) ∧ (X.1 85 i).toInt = (x.2.2.1 : Int) ∧ X.1 86 i = x.2.2.2
section CX11
variable {X X' X1 : fx_X} {T : md_T} {v p p1 p2 : Int32} {w q : Int64} {u : Unit} {j near i k : Nat} {c : md_C} {nm : md_Nm} {K : List md_Sy} {ns : List md_Nt} {rn : Int}
theorem cx_46T (hT : cx_Tk X T) (hp : p.toInt = (j : Int)) (g : gx_46 p X v X') : X = X' ∧ v.toInt = T.1 j := by
  have e := (hT j).1
  by_cases h : j < 1002
  · obtain ⟨rfl, rfl⟩ := cx_46 hp h g
    rw [e, if_pos h]; exact ⟨rfl, rfl⟩
  · unfold gx_46 at g
    rw [if_neg (by omega), if_neg (by omega)] at g
    rw [e, if_neg h]
    exact ⟨g.2.symm, by rw [g.1]; rfl⟩
theorem cx_37T (hT : cx_Tk X T) (hp : p.toInt = (j : Int)) (g : gx_37 p X w X') : X = X' ∧ w = T.2 j := by
  have e := (hT j).2
  by_cases h : j < 1002
  · obtain ⟨rfl, rfl⟩ := cx_37 hp h g
    rw [e, if_pos h]; exact ⟨rfl, rfl⟩
  · unfold gx_37 at g
    rw [if_neg (by omega), if_neg (by omega)] at g
    rw [e, if_neg h]
    exact ⟨g.2.symm, by rw [g.1]⟩
theorem cx_43X (g : gx_43 p X v X') : X = X' := (fy_e (gf_43 g)).symm
theorem cx_Tk_fr {F L : List (Nat × Nat)} {A : List Nat} (hT : cx_Tk X T) (h : fy F L A X X') (h1 : 79 ∉ A) (h2 : ∀ q, q ∈ F → q.1 ≠ 79) (h3 : 81 ∉ A) (h4 : ∀ q, q ∈ L → q.1 ≠ 81) : cx_Tk X' T := by
  intro i
  rw [fy_ra h h1 h2, fy_rl h h3 h4]
  exact hT i
theorem cx_ct_w (h : cx_ct X c) {v : Int32} : cx_ct (fx_wI X 87 i v) (md_u c i v) := by
  intro k h1 h2 h3
  rw [fx_rI]
  unfold md_u
  by_cases z : k = i
  · rw [if_pos ⟨rfl, z⟩, if_pos z]
  · rw [if_neg (fun q => z q.2), if_neg z]
    exact h k h1 h2 h3
theorem cx_ns_w (h : cx_ns X nm) (hi : i ≠ 9) {v : Int32} : cx_ns (fx_wI X 87 i v) nm := by
  refine ⟨?_, h.2.1, fun k x hx => ?_⟩
  · rw [fx_rIk (fun z => hi z.symm)]; exact h.1
  · rw [fx_rIn (by decide)]; exact h.2.2 k x hx
/-- what hasRoom answers -/
def cx_hr (o : Option (md_C × md_Nm)) (v : Int32) (X' : fx_X) : Prop := (o = none ∧ v.toInt = 0) ∨ ∃ c' nm', o = some (c', nm') ∧ v.toInt = 1 ∧ cx_ct X' c' ∧ cx_ns X' nm'
theorem cx_hr_lim (hc : cx_ct X c) (hn : cx_ns X nm) (h1 : 8 ≤ i) (h2 : i ≤ 14) (h3 : i ≠ 9) {m : Int} (g : ∃ X4 : fx_X, X4 = (fx_wI X 87 i ((X.1 87 i) + (Int32.ofInt 1))) ∧ (if m < ((X4.1 87 i)).toInt then (v = (Int32.ofInt 0) ∧ X' = X4) else (v = (Int32.ofInt 1) ∧ X' = X4))) : cx_hr (md_lim m c i nm) v X' := by
  obtain ⟨X4, rfl, g⟩ := g
  rw [fx_rIe, hc i h1 h2 h3] at g
  unfold md_lim
  split at g
  · rename_i z
    rw [if_pos z]
    exact Or.inl ⟨rfl, by rw [g.1]; rfl⟩
  · rename_i z
    rw [if_neg z]
    refine Or.inr ⟨_, _, rfl, by rw [g.1]; rfl, ?_, ?_⟩
    · rw [g.2]; exact cx_ct_w hc
    · rw [g.2]; exact cx_ns_w hn h3
theorem cx_36 (hT : cx_Tk X T) (hne : (X.1 87 7).toInt = (near : Int)) (hc : cx_ct X c) (hn : cx_ns X nm) (g : gx_36 X v X') : cx_hr (if 10 ≤ nm.length then none else some (c, nm ++ [(T.2 near, Int32.ofInt 0)])) v X' := by
  obtain ⟨n1, n2, n3⟩ := hn
  unfold gx_36 at g
  rw [if_neg (by omega)] at g
  by_cases z : 10 ≤ nm.length
  · rw [if_neg (by omega)] at g
    rw [if_pos z]
    exact Or.inl ⟨rfl, by rw [g.1]; rfl⟩
  · rw [if_pos (by omega), if_pos (by omega)] at g
    rw [if_neg z]
    obtain ⟨w, X9, r, g⟩ := g
    obtain ⟨rfl, rfl⟩ := cx_37T hT hne r
    obtain ⟨-, X12, rfl, -, X15, rfl, X16, rfl, rfl, rfl⟩ := g
    refine Or.inr ⟨_, _, rfl, rfl, ?_, ?_, ?_, ?_⟩
    · intro k h1 h2 h3
      rw [fx_rIk h3, fx_rIn (by decide)]
      exact hc k h1 h2 h3
    · rw [fx_rIe, fx_rIn (by decide), fx_rL1, fx_add (by rw [n1]; show -2147483648 ≤ (nm.length : Int) + 1; omega) (by rw [n1]; show (nm.length : Int) + 1 ≤ 2147483647; omega), n1, List.length_append]
      rfl
    · rw [List.length_append]; show nm.length + 1 ≤ 10; omega
    · intro k x hx
      rw [fx_rIn (by decide), fx_rL1, fx_in n1]
      show (fx_wL X 89 nm.length (T.2 near)).2.1 89 k = x.1 ∧ (fx_wI (fx_wL X 89 nm.length (T.2 near)) 90 nm.length (Int32.ofInt 0)).1 90 k = x.2
      rw [List.getElem?_append] at hx
      split at hx
      · rename_i y
        rw [fx_rLk (by omega), fx_rIk (by omega), fx_rL1]
        exact n3 k x hx
      · rename_i y
        have e : k = nm.length := by
          have := (List.getElem?_eq_some_iff.mp hx).1
          have : k - nm.length < 1 := this
          omega
        subst e
        rw [Nat.sub_self] at hx
        cases hx
        rw [fx_rLe, fx_rIe]
        exact ⟨rfl, rfl⟩
theorem cx_38l (hn : cx_ns X nm) : ∀ (n k : Nat) (y3 : Int32), y3.toInt = (k : Int) → k ≤ nm.length → gxF_38 n 14 [y3] [q] [] X v X' → (md_rw q (nm.drop k) = none ∧ v.toInt = 0) ∨ ∃ l', md_rw q (nm.drop k) = some l' ∧ v.toInt = 1 ∧ cx_ns X' (nm.take k ++ l') := by
  obtain ⟨n1, n2, n3⟩ := hn
  intro n
  induction n with
  | zero => intro k y3 _ _ g; exact g.elim
  | succ n ih =>
    intro k y3 hk hkl g
    replace g := gxO_38_14 g
    unfold gxT_38_14 at g
    by_cases z : k < nm.length
    · rw [if_pos (by omega), if_pos (by omega), if_pos (by omega), fx_in hk] at g
      replace g := g.2
      obtain ⟨x, hx⟩ : ∃ x, nm[k]? = some x := ⟨nm[k], List.getElem?_eq_getElem z⟩
      obtain ⟨a1, a2⟩ := n3 k x hx
      have hd : nm.drop k = x :: nm.drop (k + 1) := by
        rw [List.drop_eq_getElem_cons z]
        congr 1
        exact Option.some.inj ((List.getElem?_eq_getElem z).symm.trans hx)
      rw [hd]
      obtain ⟨x1, x2⟩ := x
      unfold md_rw
      rw [a1] at g
      split at g
      · rename_i e
        rw [if_pos e]
        obtain ⟨-, -, X20, rfl, -, g⟩ := g
        rw [fx_rIe, a2] at g
        split at g
        · rename_i e2
          rw [if_pos e2]
          exact Or.inl ⟨rfl, by rw [g.1]; rfl⟩
        · rename_i e2
          rw [if_neg e2]
          refine Or.inr ⟨_, rfl, by rw [g.1]; rfl, ?_⟩
          have hs : nm.take k ++ (x1, x2 + Int32.ofInt 1) :: nm.drop (k + 1) = nm.set k (x1, x2 + Int32.ofInt 1) := by
            rw [List.set_eq_take_append_cons_drop, if_pos z]
          rw [hs, g.2]
          refine ⟨?_, by rw [List.length_set]; exact n2, fun i y hy => ?_⟩
          · rw [fx_rIn (by decide), List.length_set]; exact n1
          · rw [List.getElem?_set] at hy
            rw [fx_rI]
            by_cases ei : k = i
            · subst ei
              rw [if_pos rfl, if_pos z] at hy
              cases hy
              rw [if_pos ⟨rfl, rfl⟩]
              exact ⟨a1, rfl⟩
            · rw [if_neg ei] at hy
              rw [if_neg (fun z => ei z.2.symm)]
              exact n3 i y hy
      · rename_i e
        rw [if_neg e]
        obtain ⟨x15, rfl, g⟩ := g
        rcases ih (k + 1) _ (by rw [fx_add (by rw [hk]; show -2147483648 ≤ (k : Int) + 1; omega) (by rw [hk]; show (k : Int) + 1 ≤ 2147483647; omega), hk]; rfl) (by omega) g with ⟨h1, h2⟩ | ⟨l', h1, h2, h3⟩
        · exact Or.inl ⟨by rw [h1]; rfl, h2⟩
        · refine Or.inr ⟨_, by rw [h1]; rfl, h2, ?_⟩
          have e4 : nm.take (k + 1) = nm.take k ++ [(x1, x2)] := by
            rw [List.take_add_one, hx]; rfl
          rw [e4, List.append_assoc] at h3
          exact h3
    · have e : k = nm.length := by omega
      rw [if_neg (by omega)] at g
      refine Or.inr ⟨[], ?_, by rw [g.1]; rfl, ?_⟩
      · rw [e, List.drop_length]; rfl
      · rw [e, List.take_length, List.append_nil, g.2]
        exact ⟨n1, n2, n3⟩
theorem cx_38 (hT : cx_Tk X T) (hne : (X.1 87 7).toInt = (near : Int)) (hc : cx_ct X c) (hn : cx_ns X nm) (g : gx_38 X v X') : cx_hr ((md_rw (T.2 near) nm).map (fun l => (c, l))) v X' := by
  have hf := gf_38 g
  obtain ⟨n, w, X3, r, g⟩ := g
  obtain ⟨rfl, rfl⟩ := cx_37T hT hne r
  rcases cx_38l hn n 0 _ rfl (Nat.zero_le _) g with ⟨h1, h2⟩ | ⟨l', h1, h2, h3⟩
  · have h1' : md_rw (T.2 near) nm = none := h1
    exact Or.inl ⟨by rw [h1']; rfl, h2⟩
  · have h1' : md_rw (T.2 near) nm = some l' := h1
    refine Or.inr ⟨c, l', by rw [h1']; rfl, h2, fun k a1 a2 a3 => ?_, h3⟩
    rw [fy_ra hf (by decide) (by decide)]
    exact hc k a1 a2 a3
theorem cx_35 (hT : cx_Tk X T) (hne : (X.1 87 7).toInt = (near : Int)) (hc : cx_ct X c) (hn : cx_ns X nm) (g : gx_35 p1 X v X') : cx_hr (md_room p1.toInt (T.2 near) c nm) v X' := by
  unfold gx_35 at g
  unfold md_room
  rcases fy_ifd g with ⟨z, g⟩ | ⟨z, g⟩
  · rw [if_pos z]; exact cx_hr_lim hc hn (by decide) (by decide) (by decide) g
  rw [if_neg z]; clear z
  rcases fy_ifd g with ⟨z, g⟩ | ⟨z, g⟩
  · rw [if_pos z]
    obtain ⟨X7, rfl, rfl, rfl⟩ := g
    exact Or.inr ⟨_, _, rfl, rfl, by rw [hc 14 (by decide) (by decide) (by decide)]; exact cx_ct_w hc, cx_ns_w hn (by decide)⟩
  rw [if_neg z]; clear z
  rcases fy_ifd g with ⟨z, g⟩ | ⟨z, g⟩
  · rw [if_pos z]; exact cx_hr_lim hc hn (by decide) (by decide) (by decide) g
  rw [if_neg z]; clear z
  rcases fy_ifd g with ⟨z, g⟩ | ⟨z, g⟩
  · rw [if_pos z]
    obtain ⟨X12, rfl, g⟩ := g
    exact cx_hr_lim (cx_ct_w hc) (cx_ns_w hn (by decide)) (by decide) (by decide) (by decide) g
  rw [if_neg z]; clear z
  rcases fy_ifd g with ⟨z, g⟩ | ⟨z, g⟩
  · rw [if_pos z]; exact cx_hr_lim hc hn (by decide) (by decide) (by decide) g
  rw [if_neg z]; clear z
  have tb : (∃ X19 : fx_X, X19 = (fx_wI X 87 10 (Int32.ofInt 0)) ∧ ∃ (w21 : Int32) (X20 : fx_X), gx_36 X19 w21 X20 ∧ v = w21 ∧ X' = X20) → cx_hr (md_tb (T.2 near) c nm) v X' := by
    rintro ⟨X19, rfl, w21, X20, r, rfl, rfl⟩
    have hT' : cx_Tk (fx_wI X 87 10 (Int32.ofInt 0)) T := by
      intro i; rw [fx_rIn (by decide)]; exact hT i
    have := cx_36 hT' (near := near) (by rw [fx_rIk (by decide)]; exact hne) (cx_ct_w hc) (cx_ns_w hn (by decide)) r
    unfold md_tb
    exact this
  rcases fy_ifd g with ⟨z, g⟩ | ⟨z, g⟩
  · rw [if_pos z]; exact tb g
  rw [if_neg z]; clear z
  rcases fy_ifd g with ⟨z, g⟩ | ⟨z, g⟩
  · rw [if_pos z]; exact cx_hr_lim hc hn (by decide) (by decide) (by decide) g
  rw [if_neg z]; clear z
  rcases fy_ifd g with ⟨z, g⟩ | ⟨z, g⟩
  · rw [if_pos z]
    obtain ⟨w27, X26, r, rfl, rfl⟩ := g
    exact cx_38 hT hne hc hn r
  rw [if_neg z]; clear z
  rcases fy_ifd g with ⟨z, g⟩ | ⟨z, g⟩
  · rw [if_pos z]; exact cx_hr_lim hc hn (by decide) (by decide) (by decide) g
  rw [if_neg z]; clear z
  rcases fy_ifd g with ⟨z, g⟩ | ⟨z, g⟩
  · rw [if_pos z]; exact tb g
  · rw [if_neg z]
    obtain ⟨rfl, rfl⟩ := g
    exact Or.inr ⟨c, nm, rfl, rfl, hc, hn⟩
/-- a note that is kept -/
def md_quiet (s : Int) : Bool := s == 170 || s == 171 || s == 172 || s == 137
def md_inc (ns : List md_Nt) (rn : Int) : List md_Nt := if 0 ≤ rn then ns.modify rn.toNat (fun x => (x.1, x.2.1, x.2.2.1, x.2.2.2 + Int32.ofInt 1)) else ns
def md_ac (q : List md_Nt × Int) (e : md_Ev) : List md_Nt × Int :=
  if md_quiet e.1 = true then q
  else if e.1 = 186 then (q.1 ++ [(e.1, e.2.1, e.2.2, Int32.ofInt 0)], (q.1.length : Int))
  else if e.1 = 187 then (md_inc q.1 q.2 ++ [(e.1, e.2.1, e.2.2, Int32.ofInt 0)], q.2)
  else (q.1 ++ [(e.1, e.2.1, e.2.2, Int32.ofInt 0)], q.2)
theorem md_inc_len : (md_inc ns rn).length = ns.length := by
  unfold md_inc; split
  · exact List.length_modify _ _ _
  · rfl
theorem cx_nt_add {l : Nat} {s : Int} {p3 p4 : Int32} (h : cx_nt X ns rn) (hl : ns.length < 2500) (h1 : p1.toInt = s) (h2 : p2.toInt = (near : Int)) (h3 : p3.toInt = (l : Int)) : cx_nt (cx_no X ns.length p1 p2 p3 p4) (ns ++ [(s, near, l, p4)]) rn := by
  obtain ⟨n1, n2, n3⟩ := h
  unfold cx_no
  refine ⟨?_, ?_, fun i x hx => ?_⟩
  · rw [fx_rIe, fx_add (by rw [n1]; show -2147483648 ≤ (ns.length : Int) + 1; omega) (by rw [n1]; show (ns.length : Int) + 1 ≤ 2147483647; omega), n1, List.length_append]
    rfl
  · rw [fx_rIn (by decide), fx_rIn (by decide), fx_rIn (by decide), fx_rIn (by decide), fx_rIn (by decide)]
    exact n2
  · simp only [fx_rI]
    rw [List.getElem?_append] at hx
    split at hx
    · rename_i y
      have hi : i ≠ ns.length := by omega
      simp [hi]
      exact n3 i x hx
    · rename_i y
      have e : i = ns.length := by
        have := (List.getElem?_eq_some_iff.mp hx).1
        have : i - ns.length < 1 := this
        omega
      subst e
      rw [Nat.sub_self] at hx
      cases hx
      simp [h1, h2, h3]
theorem cx_39 {l : Nat} {s : Int} (h : cx_nt X ns rn) (hl : ns.length < 2500) (hr : rn < (ns.length : Int)) (h1 : p1.toInt = s) (h137 : s ≠ 137) (h2 : (X.1 87 7).toInt = (near : Int)) (h3 : p2.toInt = (l : Int)) (g : gx_39 p1 p2 X u X') : cx_nt X' (md_ac (ns, rn) (s, near, l)).1 (md_ac (ns, rn) (s, near, l)).2 := by
  unfold gx_39 at g
  rw [h1] at g
  unfold md_ac
  have hq : ∀ z : Int, md_quiet s = true ↔ (s = 170 ∨ s = 171 ∨ s = 172) := by
    intro z
    unfold md_quiet
    simp
    omega
  by_cases z1 : s = 170
  · rw [if_pos z1] at g
    rw [if_pos ((hq 0).mpr (by omega)), g]; exact h
  rw [if_neg z1] at g
  by_cases z2 : s = 171
  · rw [if_pos z2] at g
    rw [if_pos ((hq 0).mpr (by omega)), g]; exact h
  rw [if_neg z2] at g
  by_cases z3 : s = 172
  · rw [if_pos z3] at g
    rw [if_pos ((hq 0).mpr (by omega)), g]; exact h
  rw [if_neg z3] at g
  have hq' : ¬ md_quiet (s, near, l).1 = true := fun y => by rcases (hq 0).mp y with y | y | y <;> omega
  rw [if_neg hq']
  dsimp only
  by_cases z4 : s = 186
  · rw [if_pos z4] at g
    rw [if_pos z4]
    obtain ⟨X8, rfl, w11, X10, r, rfl⟩ := g
    have k : cx_nt (fx_wI X 87 15 (X.1 82 4)) ns (ns.length : Int) := ⟨by rw [fx_rIn (by decide)]; exact h.1, by rw [fx_rIe]; exact h.1, fun i x hx => by
      rw [fx_rIn (by decide), fx_rIn (by decide), fx_rIn (by decide), fx_rIn (by decide)]
      exact h.2.2 i x hx⟩
    have e := cx_42 k.1 hl r
    rw [e]
    exact cx_nt_add k hl h1 (by rw [fx_rIk (by decide)]; exact h2) h3
  rw [if_neg z4] at g
  rw [if_neg z4]
  by_cases z5 : s = 187
  · rw [if_pos z5] at g
    rw [if_pos z5]
    obtain ⟨w16, X15, r1, w18, X17, r2, w21, X20, r3, rfl⟩ := g
    have e15 : X15 = X := fy_e (gf_40 r1)
    have k : cx_nt X17 (md_inc ns rn) rn ∧ (X17.1 87 7).toInt = (near : Int) := by
      by_cases zr : 0 ≤ rn
      · obtain ⟨m, hm⟩ : ∃ m : Nat, rn = (m : Int) := ⟨rn.toNat, by omega⟩
        obtain ⟨-, e16⟩ := cx_40 (h.2.1.trans hm) (by omega) r1
        rw [e15] at r2
        have e17 := cx_41 (h.2.1.trans hm) (by omega) r2
        rw [e17, e16]
        refine ⟨⟨by rw [fx_rIn (by decide), md_inc_len]; exact h.1, by rw [fx_rIn (by decide)]; exact h.2.1, fun i x hx => ?_⟩, by rw [fx_rIn (by decide)]; exact h2⟩
        rw [fx_rIn (by decide), fx_rIn (by decide), fx_rIn (by decide)]
        unfold md_inc at hx
        rw [if_pos zr, show rn.toNat = m by omega, List.getElem?_modify] at hx
        by_cases em : m = i
        · subst em
          cases ex : ns[m]? with
          | none => rw [ex] at hx; cases hx
          | some y =>
            rw [ex] at hx
            obtain ⟨a1, a2, a3, a4⟩ := h.2.2 m y ex
            have hx2 : (if m = m then (y.1, y.2.1, y.2.2.1, y.2.2.2 + Int32.ofInt 1) else y) = x := Option.some.inj hx
            rw [if_pos rfl] at hx2
            subst hx2
            rw [fx_rIe, a4]
            exact ⟨a1, a2, a3, rfl⟩
        · rw [fx_rIk (fun z => em z.symm)]
          have hx' : ns[i]? = some x := by
            cases ex : ns[i]? with
            | none => rw [ex] at hx; cases hx
            | some y =>
              rw [ex] at hx
              have hx2 : (if m = i then (y.1, y.2.1, y.2.2.1, y.2.2.2 + Int32.ofInt 1) else y) = x := Option.some.inj hx
              rw [if_neg em] at hx2
              rw [hx2]
          exact h.2.2 i x hx'
      · have e17 : X17 = X15 := by
          unfold gx_41 at r2
          rw [if_pos (by have := h.2.1; omega)] at r2
          exact r2
        rw [e17, e15]
        unfold md_inc
        rw [if_neg zr]
        exact ⟨h, h2⟩
    have e := cx_42 k.1.1 (by rw [md_inc_len]; exact hl) r3
    rw [e]
    exact cx_nt_add k.1 (by rw [md_inc_len]; exact hl) h1 k.2 h3
  rw [if_neg z5] at g
  rw [if_neg z5]
  obtain ⟨w24, X23, r, rfl⟩ := g
  have e := cx_42 h.1 hl r
  rw [e]
  exact cx_nt_add h hl h1 h2 h3
/-! symbols on the stack -/
theorem fx_nat {x : Int32} {n : Nat} (h : x.toInt = (n : Int)) : x.toBitVec.toNat = n := by
  have e : x.toBitVec.toInt = (n : Int) := h
  rw [BitVec.toInt_eq_toNat_cond] at e
  have := x.toBitVec.isLt
  split at e <;> omega
theorem fx_ofb {b : BitVec 32} {n : Nat} (h : b.toNat = n) (hn : n < 2147483648) : (Int32.ofBitVec b).toInt = (n : Int) := by
  show b.toInt = (n : Int)
  rw [BitVec.toInt_eq_toNat_cond, if_pos (by omega), h]
theorem fx_pack {x p : Int32} {j s : Nat} (hx : x.toInt = (j : Int)) (hj : j ≤ 2000000) (hp : p.toInt = (s : Int)) (hs : s < 256) : ((x <<< (((Int8.ofInt 8).toInt32) &&& 31)) ||| p).toInt = ((256 * j + s : Nat) : Int) := by
  have e : (x <<< (((Int8.ofInt 8).toInt32) &&& 31)) ||| p = Int32.ofBitVec ((x.toBitVec <<< ((((Int8.ofInt 8).toInt32) &&& 31).toBitVec.smod 32)) ||| p.toBitVec) := rfl
  have e2 : (((Int8.ofInt 8).toInt32) &&& 31).toBitVec.smod 32 = 8#32 := by decide
  rw [e, e2]
  refine fx_ofb ?_ (by omega)
  rw [BitVec.toNat_or, BitVec.shiftLeft_eq', BitVec.toNat_shiftLeft, fx_nat hx, fx_nat hp]
  have e3 : (8#32).toNat = 8 := rfl
  rw [e3, Nat.mod_eq_of_lt (by rw [Nat.shiftLeft_eq]; omega), ← Nat.shiftLeft_add_eq_or_of_lt (by omega : s < 2 ^ 8), Nat.shiftLeft_eq]
  omega
theorem fx_unp {x : Int32} {j s : Nat} (hx : x.toInt = ((256 * j + s : Nat) : Int)) (hs : s < 256) : (x &&& ((Int16.ofInt 255).toInt32)).toInt = (s : Int) ∧ (x >>> (((Int8.ofInt 8).toInt32) &&& 31)).toInt = (j : Int) := by
  constructor
  · have e : x &&& ((Int16.ofInt 255).toInt32) = Int32.ofBitVec (x.toBitVec &&& ((Int16.ofInt 255).toInt32).toBitVec) := rfl
    have e2 : ((Int16.ofInt 255).toInt32).toBitVec = 255#32 := by decide
    rw [e, e2]
    refine fx_ofb ?_ (by omega)
    rw [BitVec.toNat_and, fx_nat hx]
    have e3 : (255#32).toNat = 2 ^ 8 - 1 := rfl
    rw [e3, Nat.and_two_pow_sub_one_eq_mod]
    omega
  · have e : (x >>> (((Int8.ofInt 8).toInt32) &&& 31)).toInt = (x.toBitVec.sshiftRight' ((((Int8.ofInt 8).toInt32) &&& 31).toBitVec.smod 32)).toInt := rfl
    have e2 : (((Int8.ofInt 8).toInt32) &&& 31).toBitVec.smod 32 = 8#32 := by decide
    rw [e, e2, BitVec.toInt_sshiftRight', Int.shiftRight_eq_div_pow]
    have e3 : x.toBitVec.toInt = ((256 * j + s : Nat) : Int) := hx
    rw [e3]
    have e4 : (2 : Int) ^ (8#32).toNat = 256 := by decide
    show ((256 * j + s : Nat) : Int) / ((2 ^ (8#32).toNat : Nat) : Int) = (j : Int)
    have e5 : (2 ^ (8#32).toNat : Nat) = 256 := by decide
    rw [e5]
    omega
theorem cx_stk_w {f : Nat → Int32} {g : Nat → Int32} : ∀ {K : List md_Sy}, cx_stk f K → (∀ i, i < K.length → g i = f i) → cx_stk g K
  | [], _, _ => True.intro
  | (s, l) :: K, h, hg => ⟨by rw [hg K.length (Nat.lt_succ_self _)]; exact h.1, cx_stk_w h.2 (fun i hi => hg i (Nat.lt_succ_of_lt hi))⟩
/-- the parser's stack -/
def cx_sk (X : fx_X) (K : List md_Sy) : Prop := (X.1 87 5).toInt = (K.length : Int) ∧ cx_stk (X.1 88) K
theorem cx_33S {s : Nat} (h : cx_sk X K) (hj : (X.1 87 6).toInt = (j : Int)) (hj2 : j ≤ 2000000) (hl : K.length < 512) (hp : p.toInt = (s : Int)) (hs : s < 256) (g : gx_33 p X u X') : cx_sk X' (((s : Int), j) :: K) ∧ (X'.1 87 6).toInt = (j : Int) := by
  have e := cx_33 h.1 hl g
  rw [e]
  unfold cx_pu
  refine ⟨⟨?_, ?_, ?_⟩, ?_⟩
  · rw [fx_rIe, fx_add (by rw [h.1]; show -2147483648 ≤ (K.length : Int) + 1; omega) (by rw [h.1]; show (K.length : Int) + 1 ≤ 2147483647; omega), h.1]
    rfl
  · rw [fx_rIn (by decide), fx_rIe, fx_pack hj hj2 hp hs]
    omega
  · rw [fx_rIn (by decide)]
    exact cx_stk_w h.2 (fun i hi => fx_rIk (by omega))
  · rw [fx_rIk (by decide), fx_rIn (by decide)]
    exact hj
end CX11
