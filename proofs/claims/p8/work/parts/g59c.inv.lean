/-! WHAT HOLDS OF THE CLASS BETWEEN CALLS, told of what is seen -/
def cw_fo (o : cw_O) (i c k : Nat) (v : Value) : Prop := ∃ g : Nat → Option Value, o.1 i = some (c, g) ∧ g k = some v
/-- nothing that is seen has changed but in these cells -/
def cw_ex (E : List Nat) (o o' : cw_O) : Prop := ∀ i, i ∉ E → o'.1 i = o.1 i ∧ o'.2 i = o.2 i
/-- the words of tokens, as ints: bytes of letters and digits -/
def cw_wds (o : cw_O) : Prop := ∃ f : Nat → Int64, o.2 29 = some (1, 1002, .inr (.inl f)) ∧ ∀ j, j < 1002 → 0 ≤ (f j).toInt32.toInt ∧ (f j).toInt32.toInt ≤ 2139095039
/-- the worker's rows are pairwise apart -/
def cw_dis (o : cw_O) : Prop := ∃ (f : Nat → Option Nat) (p : Nat), o.2 49 = some (5, 20, .inr (.inr (.inr (.inr f)))) ∧ cw_fo o 43 9 5 (.ref p) ∧ (∀ l l' r, l < 20 → l' < 20 → f l = some r → f l' = some r → l = l') ∧ ∀ l r, l < 20 → f l = some r → r ≠ p
/-- how deep the Qs stand behind a note -/
def cw_nst (D : Nat) (n : Int) : Option Nat :=
  if n = 210 then (if D ≤ 19 then some (D + 1) else none)
  else if n = 211 ∨ n = 212 ∨ n = 213 then (if 2 ≤ D then some (D - 1) else none)
  else if n = 192 then (if 1 ≤ D then some (D - 1) else none)
  else if n = 214 ∨ n = 217 ∨ n = 223 then (if 1 ≤ D then some D else none)
  else some D
def cw_rn (f : Nat → Int32) : Nat → Option Nat
  | 0 => some 0
  | n + 1 => (cw_rn f n).bind (fun D => cw_nst D (f n).toInt)
/-- a plan without a fault keeps the Qs' depth -/
def cw_gd (o : cw_O) : Prop := cw_fo o 30 4 5 (.int 0) → ∃ (f : Nat → Int32) (n : Int32), o.2 31 = some (0, 2500, .inl f) ∧ cw_fo o 30 4 4 (.int n) ∧ cw_rn f n.toInt.toNat ≠ none
/-- how high and how wide rows are at most -/
def cw_H (X : Option Nat) (o : cw_O) : Prop := ∀ i, i = 50 ∨ 98 ≤ i → ∀ g, o.1 i = some (6, g) → ∃ v w : Int32, g 4 = some (.int v) ∧ g 3 = some (.int w) ∧ v.toInt ≤ ((X.getD 0 : Nat) : Int) ∧ w.toInt ≤ ((X.getD 0 : Nat) : Int)
def cw_cnt (f : Nat → Option Nat) (n : Nat) : Nat := ((List.range n).filter (fun j => (f j).isSome)).length
abbrev cw_q (f : Nat → Option Nat) : cw_X := .inr (.inr (.inr (.inr f)))
/-- what has been made: rows for places that were empty, longer lists -/
def cw_rm (s : List Nat) (o : cw_O) : Prop := ∃ (u : List Nat) (f1 f2 f3 : Nat → Option Nat) (a b g : Nat) (xa xb : cw_X), s = ak_s0 ++ u ∧ o.2 10 = some (5, 10, cw_q f1) ∧ o.2 22 = some (5, 10, cw_q f2) ∧ o.2 49 = some (5, 20, cw_q f3) ∧ cw_fo o 55 2 5 (.ref (52 + a)) ∧ cw_fo o 55 2 6 (.ref (52 + b)) ∧ ((a = 56 ∨ a = 57 ∨ 98 ≤ a) ∧ (b = 56 ∨ b = 57 ∨ 98 ≤ b)) ∧ (o.2 a = some (0, 64 * 2 ^ g, xa) ∧ o.2 b = some (0, 64 * 2 ^ g, xb)) ∧ u.length ≤ 4 * (cw_cnt f1 10 + cw_cnt f2 10 + cw_cnt f3 20) + 2 * g ∧ ak_slo ak_C0 u ≤ 1389 * (cw_cnt f1 10 + cw_cnt f2 10 + cw_cnt f3 20) + 131072 * g
def cw_HR (X : Option Nat) (s : List Nat) (o : cw_O) : Prop := cw_H X o ∧ cw_rm s o
def cw_IO (X : Option Nat) (s : List Nat) (o : cw_O) : Prop := cw_wds o ∧ cw_dis o ∧ cw_gd o ∧ cw_HR X s o
def cw_I (X : Option Nat) (s : List Nat) (h : aj_H) : Prop := cw_B s ∧ cw_IO X s (cw_o h)
section CWI
variable {T : ak_TT} {tb : aj_T} {s : List Nat} {h : aj_H} {i c k kd n t : Nat} {v w : Value} {x x' : cw_X} {E E' : List Nat} {o o' o2 : cw_O} {X : Option Nat}
theorem cw_I_c {T : ak_TT} (hT1 : T.2.2.1 = ak_spTC) (hT2 : T.2.2.2 = ak_spFC) : ak_SPc T (cw_I X) := cw_SPI (I := cw_IO X) hT1 hT2
theorem cw_fo_F (hk : (c, k) ∈ ak_spFC) : cw_fo (cw_o h) i c k v ↔ cw_F h i c k v := by
  constructor
  · rintro ⟨g, h1, h2⟩
    have h1 : cw_ob h i = some (c, g) := h1
    unfold cw_ob at h1
    split at h1
    · rename_i c' fs h3
      cases h1
      dsimp only at h2
      rw [if_pos hk] at h2
      exact ⟨fs, h3, h2⟩
    · cases h1
  · rintro ⟨fs, h1, h2⟩
    refine ⟨fun k => if (c, k) ∈ ak_spFC then fs[k]? else none, ?_, ?_⟩
    · show cw_ob h i = _
      unfold cw_ob
      rw [h1]
    · dsimp only
      rw [if_pos hk]
      exact h2
theorem cw_fo_u {c' : Nat} {v' : Value} (h0 : cw_fo o i c k v) (h1 : cw_fo o i c' k v') : c = c' ∧ v = v' := by
  obtain ⟨g, a1, a2⟩ := h0
  obtain ⟨g', b1, b2⟩ := h1
  rw [a1] at b1
  cases b1
  rw [a2] at b2
  cases b2
  exact ⟨rfl, rfl⟩
theorem cw_oa_A (hs : ((ak_s0[i]?).map (fun t => ak_spTC.contains t)) = some true) : cw_oa h i = some (kd, n, x) ↔ cw_A h i kd n x := by
  unfold cw_oa cw_A
  constructor
  · intro h0
    split at h0
    · rename_i kd' n' x' he
      rw [if_pos hs] at h0
      cases h0
      exact he
    · cases h0
  · intro h0
    rw [h0]
    dsimp only
    rw [if_pos hs]
theorem cw_oa_n (hA : cw_A h i kd n x) : ∃ y, cw_oa h i = some (kd, n, y) := by
  unfold cw_A at hA
  unfold cw_oa
  rw [hA]
  exact ⟨_, rfl⟩
theorem cw_ex_rf : cw_ex E o o := fun _ _ => ⟨rfl, rfl⟩
theorem cw_ex_of (h0 : o' = o) : cw_ex E o o' := by
  subst h0
  exact cw_ex_rf
theorem cw_ex_tr (h1 : cw_ex E o o') (h2 : cw_ex E o' o2) : cw_ex E o o2 := fun i hi => ⟨(h2 i hi).1.trans (h1 i hi).1, (h2 i hi).2.trans (h1 i hi).2⟩
theorem cw_ex_sub (hs : ∀ i ∈ E, i ∈ E') (h1 : cw_ex E o o') : cw_ex E' o o' := fun i hi => h1 i (fun z => hi (hs i z))
theorem cw_ex_sf (hi : i ∈ E) : cw_ex E (cw_o h) (cw_o (cw_sf h i k v)) := by
  intro j hj
  have hne : j ≠ i := fun z => hj (z ▸ hi)
  unfold cw_sf
  split
  · refine ⟨?_, ?_⟩
    · show cw_ob _ j = cw_ob h j
      unfold cw_ob
      rw [List.getElem?_set_ne (fun z => hne z.symm)]
    · show cw_oa _ j = cw_oa h j
      unfold cw_oa
      rw [List.getElem?_set_ne (fun z => hne z.symm)]
  · exact ⟨rfl, rfl⟩
theorem cw_ex_sa (hi : i ∈ E) : cw_ex E (cw_o h) (cw_o (cw_sa h i x)) := by
  intro j hj
  have hne : j ≠ i := fun z => hj (z ▸ hi)
  unfold cw_sa
  split
  · refine ⟨?_, ?_⟩
    · show cw_ob _ j = cw_ob h j
      unfold cw_ob
      rw [List.getElem?_set_ne (fun z => hne z.symm)]
    · show cw_oa _ j = cw_oa h j
      unfold cw_oa
      rw [List.getElem?_set_ne (fun z => hne z.symm)]
  · exact ⟨rfl, rfl⟩
/-- a field that is not seen -/
theorem cw_o_sf (hF : cw_F h i c k w) (hk : (c, k) ∉ ak_spFC) : cw_o (cw_sf h i k v) = cw_o h := by
  obtain ⟨fs, h1, h2⟩ := hF
  rw [cw_sf_eq h1]
  refine cw_ob_out h1 (fun k' hk' => ?_)
  rw [List.getElem?_set_ne]
  rintro rfl
  exact hk hk'
theorem cw_o_sa (hA : cw_A h i kd n x) (hs : ((ak_s0[i]?).map (fun t => ak_spTC.contains t)) ≠ some true) : cw_o (cw_sa h i x') = cw_o h := by
  rw [cw_sa_eq hA]
  refine cw_oa_out hA ?_
  cases e : ak_s0[i]? with
  | none => exact Or.inl rfl
  | some t =>
    refine Or.inr ⟨t, rfl, fun z => hs ?_⟩
    rw [e]
    simp [z]
theorem cw_fo_ex (h0 : cw_ex E o o') (hi : i ∉ E) : cw_fo o' i c k v ↔ cw_fo o i c k v := by
  unfold cw_fo
  rw [(h0 i hi).1]
theorem cw_wds_ex (h0 : cw_ex E o o') (hi : 29 ∉ E) (hw : cw_wds o) : cw_wds o' := by
  unfold cw_wds at hw ⊢
  rw [(h0 29 hi).2]
  exact hw
theorem cw_dis_ex (h0 : cw_ex E o o') (hi : 43 ∉ E ∧ 49 ∉ E) (hw : cw_dis o) : cw_dis o' := by
  obtain ⟨f, p, h1, h2, h3⟩ := hw
  exact ⟨f, p, by rw [(h0 49 hi.2).2]; exact h1, (cw_fo_ex h0 hi.1).mpr h2, h3⟩
theorem cw_gd_ex (h0 : cw_ex E o o') (hi : 30 ∉ E ∧ 31 ∉ E) (hw : cw_gd o) : cw_gd o' := by
  intro hf
  obtain ⟨f, n, h1, h2, h3⟩ := hw ((cw_fo_ex h0 hi.1).mp hf)
  exact ⟨f, n, by rw [(h0 31 hi.2).2]; exact h1, (cw_fo_ex h0 hi.1).mpr h2, h3⟩
theorem cw_H_ex (h0 : cw_ex E o o') (hi : E.all (fun j => j != 2 && (j != 14 && (j != 10 && (j != 22 && (j != 50 && decide (j < 98)))))) = true) (hw : cw_H X o) : cw_H X o' := by
  have key : ∀ j, j = 2 ∨ j = 14 ∨ j = 10 ∨ j = 22 ∨ j = 50 ∨ 98 ≤ j → j ∉ E := by
    intro j hj hm
    have := List.all_eq_true.mp hi j hm
    simp only [Bool.and_eq_true, bne_iff_ne, decide_eq_true_eq] at this
    omega
  intro i hi' g hg
  rw [(h0 i (key i (by omega))).1] at hg
  exact hw i hi' g hg
theorem cw_rm_ex (h0 : cw_ex E o o') (hi : E.all (fun j => j != 10 && (j != 22 && (j != 49 && (j != 55 && (j != 56 && (j != 57 && decide (j < 98))))))) = true) (hw : cw_rm s o) : cw_rm s o' := by
  have key : ∀ j, j = 10 ∨ j = 22 ∨ j = 49 ∨ j = 55 ∨ j = 56 ∨ j = 57 ∨ 98 ≤ j → j ∉ E := by
    intro j hj hm
    have := List.all_eq_true.mp hi j hm
    simp only [Bool.and_eq_true, bne_iff_ne, decide_eq_true_eq] at this
    omega
  obtain ⟨u, f1, f2, f3, a, b, g, xa, xb, h1, h2, h3, h4, h5, h6, h7, h8, h9⟩ := hw
  refine ⟨u, f1, f2, f3, a, b, g, xa, xb, h1, ?_, ?_, ?_, (cw_fo_ex h0 (key 55 (by omega))).mpr h5, (cw_fo_ex h0 (key 55 (by omega))).mpr h6, h7, ⟨?_, ?_⟩, h9⟩
  · rw [(h0 10 (key 10 (by omega))).2]; exact h2
  · rw [(h0 22 (key 22 (by omega))).2]; exact h3
  · rw [(h0 49 (key 49 (by omega))).2]; exact h4
  · rw [(h0 a (key a (by omega))).2]; exact h8.1
  · rw [(h0 b (key b (by omega))).2]; exact h8.2
theorem cw_HR_ex (h0 : cw_ex E o o') (hi : E.all (fun j => j != 2 && (j != 14 && (j != 10 && (j != 22 && (j != 50 && decide (j < 98)))))) = true) (hi2 : E.all (fun j => j != 10 && (j != 22 && (j != 49 && (j != 55 && (j != 56 && (j != 57 && decide (j < 98))))))) = true) (hw : cw_HR X s o) : cw_HR X s o' := ⟨cw_H_ex h0 hi hw.1, cw_rm_ex h0 hi2 hw.2⟩
theorem cw_nil (s : List Nat) : s ++ [] = s := List.append_nil s
end CWI
