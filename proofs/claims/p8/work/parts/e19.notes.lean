/-! THE CLASS'S WORKER: any note of a question -/
section CE19
variable {X X' X0 X1 : fx_X} {v p p1 p2 y2 : Int32} {u : Unit} {sr r r0 rr rs W n t t0 wd wd' k c m : Nat} {tw : List Nat} {val : md_V} {tb : List (List md_Row)} {sk : List md_Q} {tr tr' pt : List (Nat → Bool)} {sd sd' : md_Sd × md_Sd} {rel rel' fo fd a arg : Int} {rt : Nat} {pk : Option (List Nat)} {near l : Nat} {ws ws' : md_WS} {A : List md_Row} {ps : List Nat} {b : Nat}
theorem md_all_lt (h : ¬ ps.all (fun c => decide (c < b)) = false) : ∀ c, c ∈ ps → c < b := fun c hc => by
  have h : ps.all (fun c => decide (c < b)) = true := by
    cases z : ps.all (fun c => decide (c < b)) with
    | true => rfl
    | false => exact absurd z h
  exact of_decide_eq_true (List.all_eq_true.mp h c hc)
theorem cx_n98 (hW : cx_WS X sr W n val tw (tb, sk, tr, sd, rel, pt, rt, pk, fo, fd)) (hW1 : 0 < W) (ha : 210 ≤ a) (h1 : p1.toInt = a) (hp : ∃ j : Nat, p2.toInt = (j : Int) ∧ j < 2500 ∧ (X.1 86 j).toInt = arg) (h210 : a = 210 → 0 ≤ arg ∧ tw[arg.toNat]? = some wd) (hne : md_wk W n val wd (tb, sk, tr, sd, rel, pt, rt, pk, fo, fd) (a, near, l) arg ≠ none) (g : gx_98 p1 p2 X u X') : cx_nr X X' sr W n val tw (md_wk W n val wd (tb, sk, tr, sd, rel, pt, rt, pk, fo, fd) (a, near, l) arg) := by
  by_cases e210 : a = 210
  · subst e210
    have e : md_wk W n val wd (tb, sk, tr, sd, rel, pt, rt, pk, fo, fd) (210, near, l) arg = (if 20 ≤ sk.length ∨ tb.length ≤ arg.toNat ∨ (tb.getD arg.toNat []).all (fun r => r.1.length == wd) = false ∨ 6 < wd then none else md_k (tb, (wd, tb.getD arg.toNat []) :: sk, tr, sd, rel, pt, rt, pk, fo, fd)) := rfl
    rw [e] at hne ⊢
    by_cases z : 20 ≤ sk.length ∨ tb.length ≤ arg.toNat ∨ (tb.getD arg.toNat []).all (fun r => r.1.length == wd) = false ∨ 6 < wd
    · rw [if_pos z] at hne; exact absurd rfl hne
    · rw [if_neg z]
      have z1 : sk.length < 20 := by omega
      have z2 : arg.toNat < tb.length := by omega
      have z3 : wd ≤ 6 := by omega
      have z4 : (tb.getD arg.toNat []).all (fun r => r.1.length == wd) = true := by
        cases hh : (tb.getD arg.toNat []).all (fun r => r.1.length == wd) with
        | true => rfl
        | false => exact absurd (Or.inr (Or.inr (Or.inl hh))) z
      obtain ⟨h0, h2⟩ := h210 rfl
      obtain ⟨j, j1, j2, j3⟩ := hp
      have hA : tb[arg.toNat]? = some (tb.getD arg.toNat []) := by
        rw [List.getD_eq_getElem?_getD, List.getElem?_eq_getElem z2]; rfl
      obtain ⟨b1, b2⟩ := cx_98i (t := arg.toNat) hW h1 ⟨j, j1, j2, by rw [j3]; omega⟩ z1 hA h2 (fun x hx => by
        have := List.all_eq_true.mp z4 x hx
        exact beq_iff_eq.mp this) z3 g
      exact Or.inr ⟨_, rfl, b1, b2⟩
  by_cases e211 : a = 211
  · subst e211
    rcases sk with _ | ⟨y, _ | ⟨x, sk⟩⟩
    · exact absurd rfl hne
    · exact absurd rfl hne
    · have e : md_wk W n val wd (tb, y :: x :: sk, tr, sd, rel, pt, rt, pk, fo, fd) (211, near, l) arg = (if x.1 ≠ y.1 then none else if 30 < x.2.length + y.2.length then some none else md_k (tb, (x.1, x.2 ++ y.2) :: sk, tr, sd, rel, pt, rt, pk, fo, fd)) := rfl
      rw [e] at hne ⊢
      by_cases z : x.1 ≠ y.1
      · rw [if_pos z] at hne; exact absurd rfl hne
      · rw [if_neg z]
        rcases cx_98e hW h1 (Decidable.not_not.mp z) g with ⟨b1, b2⟩ | ⟨b1, b2, b3⟩
        · rw [if_pos b1]; exact Or.inl ⟨rfl, b2⟩
        · rw [if_neg b1]; exact Or.inr ⟨_, rfl, b2, b3⟩
  by_cases e212 : a = 212
  · subst e212
    rcases sk with _ | ⟨y, _ | ⟨x, sk⟩⟩
    · exact absurd rfl hne
    · exact absurd rfl hne
    · have e : md_wk W n val wd (tb, y :: x :: sk, tr, sd, rel, pt, rt, pk, fo, fd) (212, near, l) arg = (if x.1 ≠ y.1 then none else md_k (tb, (x.1, md_mi val x.2 y.2) :: sk, tr, sd, rel, pt, rt, pk, fo, fd)) := rfl
      rw [e] at hne ⊢
      by_cases z : x.1 ≠ y.1
      · rw [if_pos z] at hne; exact absurd rfl hne
      · rw [if_neg z]
        obtain ⟨b1, b2⟩ := cx_98f hW h1 (Decidable.not_not.mp z) g
        exact Or.inr ⟨_, rfl, b1, b2⟩
  by_cases e213 : a = 213
  · subst e213
    rcases sk with _ | ⟨y, _ | ⟨x, sk⟩⟩
    · exact absurd rfl hne
    · exact absurd rfl hne
    · have e : md_wk W n val wd (tb, y :: x :: sk, tr, sd, rel, pt, rt, pk, fo, fd) (213, near, l) arg = (if arg < 0 ∨ 2147483647 < arg ∨ wd ≠ x.1 + md_ncn x.1 arg.toNat y.1 ∨ 6 < wd then none else if 30 < x.2.length * y.2.length then some none else md_k (tb, (wd, md_jn val arg.toNat x.2 y.2) :: sk, tr, sd, rel, pt, rt, pk, fo, fd)) := rfl
      rw [e] at hne ⊢
      by_cases z : arg < 0 ∨ 2147483647 < arg ∨ wd ≠ x.1 + md_ncn x.1 arg.toNat y.1 ∨ 6 < wd
      · rw [if_pos z] at hne; exact absurd rfl hne
      · rw [if_neg z]
        have z2 : wd = x.1 + md_ncn x.1 arg.toNat y.1 := Decidable.byContradiction fun y => z (Or.inr (Or.inr (Or.inl y)))
        have z3 : ¬ arg < 0 := fun y => z (Or.inl y)
        have z4 : ¬ 6 < wd := fun y => z (Or.inr (Or.inr (Or.inr y)))
        obtain ⟨j, j1, j2, j3⟩ := hp
        subst z2
        rcases cx_98j (m := arg.toNat) hW h1 ⟨j, j1, j2, by rw [j3]; omega⟩ (Nat.le_of_not_lt z4) g with ⟨b1, b2⟩ | ⟨b1, b2, b3⟩
        · rw [if_pos b1]; exact Or.inl ⟨rfl, b2⟩
        · rw [if_neg b1]; exact Or.inr ⟨_, rfl, b2, b3⟩
  by_cases e214 : a = 214
  · subst e214
    cases sk with
    | nil => exact absurd rfl hne
    | cons x sk =>
      have e : md_wk W n val wd (tb, x :: sk, tr, sd, rel, pt, rt, pk, fo, fd) (214, near, l) arg = (if md_okb n x.1 sd.1 = false ∨ md_okb n x.1 sd.2 = false then none else md_k (tb, (x.1, md_ts val sd rel x.2) :: sk, tr, sd, rel, pt, rt, pk, fo, fd)) := rfl
      rw [e] at hne ⊢
      by_cases z : md_okb n x.1 sd.1 = false ∨ md_okb n x.1 sd.2 = false
      · rw [if_pos z] at hne; exact absurd rfl hne
      · rw [if_neg z]
        have z1 : md_okb n x.1 sd.1 = true := by
          cases hh : md_okb n x.1 sd.1 with
          | true => rfl
          | false => exact absurd (Or.inl hh) z
        have z2 : md_okb n x.1 sd.2 = true := by
          cases hh : md_okb n x.1 sd.2 with
          | true => rfl
          | false => exact absurd (Or.inr hh) z
        obtain ⟨b1, b2⟩ := cx_98g hW h1 z1 z2 g
        exact Or.inr ⟨_, rfl, b1, b2⟩
  by_cases e215 : a = 215
  · subst e215
    obtain ⟨b1, b2⟩ := cx_98a hW h1 g
    exact Or.inr ⟨_, rfl, b1, b2⟩
  by_cases e216 : a = 216
  · subst e216
    cases pk with
    | none => exact absurd rfl hne
    | some ps =>
      have e : md_wk W n val wd (tb, sk, tr, sd, rel, pt, rt, some ps, fo, fd) (216, near, l) arg = (if 6 ≤ ps.length ∨ arg < 0 then none else md_k (tb, sk, tr, sd, rel, pt, rt, some (ps ++ [arg.toNat]), fo, fd)) := rfl
      rw [e] at hne ⊢
      by_cases z : 6 ≤ ps.length ∨ arg < 0
      · rw [if_pos z] at hne; exact absurd rfl hne
      · rw [if_neg z]
        obtain ⟨j, j1, j2, j3⟩ := hp
        obtain ⟨b1, b2⟩ := cx_98d (c := arg.toNat) hW h1 (by omega) ⟨j, j1, j2, by rw [j3]; omega⟩ g
        exact Or.inr ⟨_, rfl, b1, b2⟩
  by_cases e217 : a = 217
  · subst e217
    rcases sk with _ | ⟨x, sk⟩
    · exact absurd rfl hne
    cases pk with
    | none => exact absurd rfl hne
    | some ps =>
      have e : md_wk W n val wd (tb, x :: sk, tr, sd, rel, pt, rt, some ps, fo, fd) (217, near, l) arg = (if ps.all (fun c => decide (c < x.1)) = false ∨ 6 < ps.length then none else md_k (tb, (ps.length, md_pj ps x.2) :: sk, tr, sd, rel, pt, rt, some ps, fo, fd)) := rfl
      rw [e] at hne ⊢
      by_cases z : ps.all (fun c => decide (c < x.1)) = false ∨ 6 < ps.length
      · rw [if_pos z] at hne; exact absurd rfl hne
      · rw [if_neg z]
        obtain ⟨b1, b2⟩ := cx_98h hW h1 (md_all_lt (fun y => z (Or.inl y))) g
        exact Or.inr ⟨_, rfl, b1, b2⟩
  by_cases e221 : a = 221
  · subst e221
    obtain ⟨b1, b2⟩ := cx_98b hW h1 hp g
    exact Or.inr ⟨_, rfl, b1, b2⟩
  by_cases e222 : a = 222
  · subst e222
    obtain ⟨b1, b2⟩ := cx_98c hW h1 hp g
    exact Or.inr ⟨_, rfl, b1, b2⟩
  by_cases e223 : a = 223
  · subst e223
    rcases sk with _ | ⟨x, sk⟩
    · exact absurd rfl hne
    cases pk with
    | none => exact absurd rfl hne
    | some ps =>
      have e : md_wk W n val wd (tb, x :: sk, tr, sd, rel, pt, rt, some ps, fo, fd) (223, near, l) arg = (if ps.all (fun c => decide (c < x.1)) = false ∨ 6 ≤ ps.length ∨ (fo ≠ 16 ∧ (fd < 0 ∨ (x.1 : Int) ≤ fd)) then none else if 30 < (md_grs val W ps fo fd.toNat x.2).length then some none else md_k (tb, (ps.length + 1, md_gr val W ps fo fd.toNat x.2) :: sk, tr, sd, rel, pt, rt, some ps, fo, fd)) := rfl
      rw [e] at hne ⊢
      by_cases z : ps.all (fun c => decide (c < x.1)) = false ∨ 6 ≤ ps.length ∨ (fo ≠ 16 ∧ (fd < 0 ∨ (x.1 : Int) ≤ fd))
      · rw [if_pos z] at hne; exact absurd rfl hne
      · rw [if_neg z]
        have z1 : ¬ 6 ≤ ps.length := fun y => z (Or.inr (Or.inl y))
        have z2 : ¬ (fo ≠ 16 ∧ (fd < 0 ∨ (x.1 : Int) ≤ fd)) := fun y => z (Or.inr (Or.inr y))
        rcases cx_98k hW hW1 h1 (md_all_lt (fun y => z (Or.inl y))) (by omega) (by omega) g with ⟨b1, b2⟩ | ⟨b1, b2, b3⟩
        · rw [if_pos b1]; exact Or.inl ⟨rfl, b2⟩
        · rw [if_neg b1]; exact Or.inr ⟨_, rfl, b2, b3⟩
  have e : md_wk W n val wd (tb, sk, tr, sd, rel, pt, rt, pk, fo, fd) (a, near, l) arg = md_k (tb, sk, tr, sd, rel, pt, rt, pk, fo, fd) := by
    unfold md_wk
    dsimp only
    repeat rw [if_neg (by omega)]
  rw [e]
  unfold gx_98 at g
  rw [if_neg (by omega), if_neg (by omega), if_neg (by omega), if_neg (by omega), if_neg (by omega), if_neg (by omega), if_neg (by omega), if_neg (by omega), if_neg (by omega), if_neg (by omega), if_neg (by omega)] at g
  subst g
  exact Or.inr ⟨_, rfl, hW, rfl⟩
end CE19
