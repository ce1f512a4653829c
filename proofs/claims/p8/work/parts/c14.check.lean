/-! THE MODEL OF THE CHECKER: none = beyond what the class holds, some none = a fault -/
abbrev md_U : Type := List (Int64 × List Int32)
abbrev md_TB : Type := List (Int64 × Bool × List Int64)
abbrev md_CS : Type := md_U × Option (Int64 × List Int32) × md_TB × (Int × Int) × List (List Int64) × List Int64 × Int64
abbrev md_O (α : Type) : Type := Option (Option α)
def md_bd {α β : Type} (x : md_O α) (f : α → md_O β) : md_O β := match x with
  | none => none
  | some none => some none
  | some (some a) => f a
def md_k {α : Type} (a : α) : md_O α := some (some a)
/-- the place of the first that is so; -1 -/
def md_ix (n : Int64) : List Int64 → Nat → Int
  | [], _ => -1
  | x :: l, k => if x = n then (k : Int) else md_ix n l (k + 1)
def md_it (T : md_T) (i : Nat) : Int32 := if i + 1 < 1002 then (if T.1 i = 45 then (-(T.2 (i + 1))).toInt32 else (T.2 i).toInt32) else Int32.ofInt 0
def md_all (U : md_U) : Nat := (U.map (fun x => x.2.length)).foldl (· * ·) 1
def md_new (a b : List Int64) : List Int64 := b.filter (fun n => md_ix n a 0 < 0)
/-- which COLUMN of the left side, three bits each -/
def md_map (a : List Int64) : List Int64 → Nat → Nat
  | [], _ => 0
  | n :: b, c => (if md_ix n a 0 < 0 then 7 else (md_ix n a 0).toNat) * 8 ^ c + md_map a b (c + 1)
def md_pm (U : md_U) (cu : Option (Int64 × List Int32)) (TB : md_TB) (rw : Int × Int) (pk : List Int64) (fr : Int64) : List (List Int64) → md_O (md_CS × Int)
  | y :: x :: sk' => if x = y then md_k ((U, cu, TB, rw, x :: sk', pk, fr), 0) else some none
  | _ => none
def md_ckg (cn : Option Int) (T : md_T) : md_CS → md_Ev → md_O (md_CS × Int)
  | (U, cu, TB, rw, sk, pk, fr), (a, near, lead) =>
    if a = 180 then (if 0 ≤ md_ix (T.2 near) (U.map (·.1)) 0 then some none else if 8 ≤ U.length then none else md_k ((U, some (T.2 near, []), TB, rw, sk, pk, fr), 0))
    else if a = 181 then (match cu with
      | none => none
      | some (n, vs) => if md_it T near ∈ vs ∨ 64 ≤ vs.length then some none else md_k ((U, some (n, vs ++ [md_it T near]), TB, rw, sk, pk, fr), 0))
    else if a = 182 then (match cu with
      | some (n, [f]) => if f.toInt < -100000 ∨ 100000 < f.toInt then none else if (md_it T near).toInt < f.toInt ∨ f.toInt + 63 < (md_it T near).toInt then some none else md_k ((U, some (n, (List.range ((md_it T near).toInt - f.toInt + 1).toNat).map (fun i => f + Int32.ofNat i)), TB, rw, sk, pk, fr), 0)
      | _ => none)
    else if a = 183 then (match cu with
      | none => none
      | some x => if 1024 < md_all U * x.2.length then some none else if 8 ≤ U.length then none else md_k ((U ++ [x], none, TB, rw, sk, pk, fr), 0))
    else if a = 184 then (if 0 ≤ md_ix (T.2 near) (TB.map (·.1)) 0 then some none else if 10 ≤ TB.length then none else md_k ((U, cu, TB ++ [(T.2 near, false, [])], rw, sk, pk, fr), 0))
    else if a = 185 then (match TB.getLast? with
      | none => none
      | some (n, b, cs) => if 6 ≤ cs.length ∨ T.2 near ∈ cs then some none else md_k ((U, cu, TB.dropLast ++ [(n, b, cs ++ [T.2 near])], rw, sk, pk, fr), 0))
    else if a = 186 then (if md_ix (T.2 near) (TB.map (·.1)) 0 < 0 then some none else match TB[(md_ix (T.2 near) (TB.map (·.1)) 0).toNat]? with
      | none => none
      | some (_, b, cs) => if b = true ∨ (cn ≠ none ∧ cn ≠ some (cs.length : Int)) then some none else md_k ((U, cu, TB, ((cs.length : Int), 0), sk, pk, fr), md_ix (T.2 near) (TB.map (·.1)) 0))
    else if a = 187 then md_k ((U, cu, TB, (rw.1, rw.2 + 1), sk, pk, fr), 0)
    else if a = 137 then (if rw.1 = rw.2 then md_k ((U, cu, TB, rw, sk, pk, fr), 0) else some none)
    else if a = 191 then (if 0 ≤ md_ix (T.2 near) (TB.map (·.1)) 0 then some none else md_k ((U, cu, TB, rw, sk, pk, fr), 0))
    else if a = 192 then (match sk with
      | [] => none
      | cs :: sk' => if 10 ≤ TB.length then none else md_k ((U, cu, TB ++ [(T.2 (lead + 1), true, cs)], rw, sk', pk, fr), (TB.length : Int)))
    else if a = 200 then md_k ((U, cu, TB, rw, sk, pk, fr), (md_it T near).toInt)
    else if a = 201 then (if md_ix (T.2 near) (U.map (·.1)) 0 < 0 then some none else md_k ((U, cu, TB, rw, sk, pk, fr), md_ix (T.2 near) (U.map (·.1)) 0))
    else if a = 202 then (match sk with
      | [] => none
      | cs :: _ => if md_ix (T.2 near) cs 0 < 0 then some none else md_k ((U, cu, TB, rw, sk, pk, fr), md_ix (T.2 near) cs 0))
    else if a = 203 then md_k ((U, cu, TB, rw, sk, pk, fr), T.1 near)
    else if a = 210 then (if md_ix (T.2 near) (TB.map (·.1)) 0 < 0 then some none else match TB[(md_ix (T.2 near) (TB.map (·.1)) 0).toNat]? with
      | none => none
      | some (_, _, cs) => if 20 ≤ sk.length then none else md_k ((U, cu, TB, rw, cs :: sk, pk, fr), md_ix (T.2 near) (TB.map (·.1)) 0))
    else if a = 211 ∨ a = 212 then md_pm U cu TB rw pk fr sk
    else if a = 213 then (match sk with
      | y :: x :: sk' => if 6 < x.length + (md_new x y).length then some none else md_k ((U, cu, TB, rw, (x ++ md_new x y) :: sk', pk, fr), (md_map x y 0 : Int))
      | _ => none)
    else if a = 215 then md_k ((U, cu, TB, rw, sk, [], fr), 0)
    else if a = 216 then (match sk with
      | [] => none
      | cs :: _ => if md_ix (T.2 near) cs 0 < 0 then some none else if T.2 near ∈ pk then some none else if 6 ≤ pk.length then none else md_k ((U, cu, TB, rw, sk, pk ++ [T.2 near], fr), md_ix (T.2 near) cs 0))
    else if a = 217 then (match sk with
      | [] => none
      | _ :: sk' => md_k ((U, cu, TB, rw, pk :: sk', pk, fr), 0))
    else if a = 218 then (match sk with
      | [] => none
      | cs :: _ => if 0 ≤ md_ix (T.2 near) cs 0 then some none else md_k ((U, cu, TB, rw, sk, pk, T.2 near), 0))
    else if a = 219 then (match sk with
      | [] => none
      | cs :: sk' => if md_ix (T.2 near) cs 0 < 0 then some none else if fr ∈ cs then none else md_k ((U, cu, TB, rw, cs.set (md_ix (T.2 near) cs 0).toNat fr :: sk', pk, fr), md_ix (T.2 near) cs 0))
    else if a = 220 then (if 6 ≤ pk.length then some none else md_k ((U, cu, TB, rw, sk, pk, fr), 0))
    else if a = 221 then md_k ((U, cu, TB, rw, sk, pk, fr), T.1 near)
    else if a = 222 then (match sk with
      | [] => none
      | cs :: _ => if md_ix (T.2 near) cs 0 < 0 then some none else md_k ((U, cu, TB, rw, sk, pk, fr), md_ix (T.2 near) cs 0))
    else if a = 223 then (match sk with
      | [] => none
      | _ :: sk' => if T.2 near ∈ pk then some none else if 6 ≤ pk.length then none else md_k ((U, cu, TB, rw, (pk ++ [T.2 near]) :: sk', pk, fr), 0))
    else md_k ((U, cu, TB, rw, sk, pk, fr), 0)
/-- how many TERMS the row has, of what is to come -/
def md_cnt : List md_Ev → Nat
  | [] => 0
  | e :: es => if e.1 = 137 then 0 else (if e.1 = 187 then 1 else 0) + md_cnt es
def md_nts : List md_Ev → List md_Nt
  | [] => []
  | e :: es => if md_quiet e.1 = true then md_nts es else (e.1, e.2.1, e.2.2, Int32.ofNat (if e.1 = 186 then md_cnt es else 0)) :: md_nts es
/-- as the class checks: the row's number is known ahead -/
def md_fc (T : md_T) : md_CS → List md_Ev → md_O (md_CS × List Int)
  | s, [] => md_k (s, [])
  | s, e :: es => if md_quiet e.1 = true then md_fc T s es else md_bd (md_ckg (some (md_cnt es : Int)) T s e) (fun q => md_bd (md_fc T q.1 es) (fun q2 => md_k (q2.1, q.2 :: q2.2)))
/-- all lists of COLUMNS are such as can be -/
def md_cl (cs : List Int64) : Prop := cs.Nodup ∧ cs.length ≤ 6
def md_gd (s : md_CS) : Prop := (∀ x, x ∈ s.2.2.1 → md_cl x.2.2) ∧ (∀ x, x ∈ s.2.2.2.2.1 → md_cl x) ∧ md_cl s.2.2.2.2.2.1 ∧ s.1.length ≤ 8 ∧ s.2.2.1.length ≤ 10 ∧ s.2.2.2.2.1.length ≤ 20 ∧ (∀ x, x ∈ s.1 → x.2.length ≤ 64) ∧ (∀ x, s.2.1 = some x → x.2.length ≤ 64 ∧ s.1.length < 8) ∧ md_all s.1 ≤ 1024
section MDC
variable {n m : Int64} {l a b : List Int64} {k : Nat}
theorem md_ix_neg : md_ix n l k < 0 ↔ n ∉ l := by
  induction l generalizing k with
  | nil => simp [md_ix]
  | cons x l ih =>
    unfold md_ix
    by_cases h : x = n
    · rw [if_pos h]
      subst h
      simp
    · rw [if_neg h, ih]
      simp only [List.mem_cons, not_or]
      exact ⟨fun z => ⟨fun y => h y.symm, z⟩, fun z => z.2⟩
theorem md_ix_at (h : ¬ md_ix n l k < 0) : ∃ i : Nat, md_ix n l k = ((k + i : Nat) : Int) ∧ l[i]? = some n ∧ ∀ j, j < i → l[j]? ≠ some n := by
  induction l generalizing k with
  | nil => exact absurd (by show (-1 : Int) < 0; decide) h
  | cons x l ih =>
    unfold md_ix at h ⊢
    by_cases e : x = n
    · rw [if_pos e]
      exact ⟨0, rfl, by rw [e]; rfl, fun j hj => absurd hj (Nat.not_lt_zero j)⟩
    · rw [if_neg e] at h ⊢
      obtain ⟨i, h1, h2, h3⟩ := ih h
      refine ⟨i + 1, by rw [h1]; congr 1; omega, h2, fun j hj => ?_⟩
      cases j with
      | zero => intro z; exact e (Option.some.inj z)
      | succ j => exact h3 j (by omega)
theorem md_ix_is {i : Nat} (h : l[i]? = some n) (h2 : ∀ j, j < i → l[j]? ≠ some n) : md_ix n l k = ((k + i : Nat) : Int) := by
  have h0 : ¬ md_ix n l k < 0 := by
    rw [md_ix_neg]
    intro z
    exact z (List.mem_of_getElem? h)
  obtain ⟨j, e1, e2, e3⟩ := md_ix_at h0
  have : i = j := by
    rcases Nat.lt_trichotomy i j with z | z | z
    · exact absurd h (e3 i z)
    · exact z
    · exact absurd e2 (h2 j z)
  rw [e1, this]
theorem md_cl_nil : md_cl [] := ⟨List.nodup_nil, by decide⟩
theorem md_cl_add (h : md_cl l) (hn : n ∉ l) (hl : l.length < 6) : md_cl (l ++ [n]) := by
  refine ⟨?_, by rw [List.length_append]; show l.length + 1 ≤ 6; omega⟩
  rw [List.nodup_append]
  exact ⟨h.1, by simp, fun x hx y hy => by
    simp at hy
    subst hy
    exact fun z => hn (z ▸ hx)⟩
theorem md_cl_new (h : md_cl a) (hb : md_cl b) (hl : a.length + (md_new a b).length ≤ 6) : md_cl (a ++ md_new a b) := by
  refine ⟨?_, by rw [List.length_append]; exact hl⟩
  rw [List.nodup_append]
  refine ⟨h.1, hb.1.filter _, fun x hx y hy => ?_⟩
  unfold md_new at hy
  have := (List.mem_filter.mp hy).2
  have h2 := md_ix_neg.mp (of_decide_eq_true this)
  exact fun z => h2 (z ▸ hx)
end MDC
