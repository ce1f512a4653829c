/-! THE CLASS'S WORKER: any note -/
/-- a note's end: a fault, or done -/
def cx_nr (X X' : fx_X) (sr W n : Nat) (val : md_V) (tw : List Nat) (o : md_O md_WS) : Prop := (o = some none ∧ (X'.1 82 5).toInt ≠ 0) ∨ ∃ ws', o = md_k ws' ∧ cx_WS X' sr W n val tw ws' ∧ X'.1 82 5 = X.1 82 5
section CE18
variable {X X' X0 X1 : fx_X} {v p p1 p2 y2 : Int32} {u : Unit} {sr r r0 rr rs W n t t0 wd wd' k c m : Nat} {tw : List Nat} {val : md_V} {tb : List (List md_Row)} {sk : List md_Q} {tr tr' pt : List (Nat → Bool)} {sd sd' : md_Sd × md_Sd} {rel rel' fo fd a arg : Int} {rt : Nat} {pk : Option (List Nat)} {near l : Nat} {ws ws' : md_WS} {A : List md_Row}
theorem md_last_e (h : A.length ≠ 0) : ∃ B y, A = B ++ [y] := by
  have h : A ≠ [] := fun z => h (by rw [z]; rfl)
  exact ⟨A.dropLast, A.getLast h, (List.dropLast_concat_getLast h).symm⟩
theorem cx_n143 (hW : cx_WS X sr W n val tw (tb, sk, tr, sd, rel, pt, rt, pk, fo, fd)) (hrt : rt < tb.length ∨ 10 ≤ rt) (ha : a < 200) (h1 : p1.toInt = a) (hp : ∃ j : Nat, p2.toInt = (j : Int) ∧ j < 2500 ∧ (X.1 86 j).toInt = arg) (h184 : a = 184 → tb.length < tw.length) (h186 : a = 186 → 0 ≤ arg) (h192 : a = 192 → arg = (tb.length : Int) ∧ tw[tb.length]? = some wd) (hne : md_wk W n val wd (tb, sk, tr, sd, rel, pt, rt, pk, fo, fd) (a, near, l) arg ≠ none) (g : gx_143 p1 p2 X u X') : cx_nr X X' sr W n val tw (md_wk W n val wd (tb, sk, tr, sd, rel, pt, rt, pk, fo, fd) (a, near, l) arg) := by
  have hW4 := hW.2.2.2.1.1
  have h10 : tw.length ≤ 10 := hW.2.2.2.2.2.1.2.1
  have htl : tb.length ≤ tw.length := hW.2.2.2.2.2.1.2.2.1
  by_cases e184 : a = 184
  · subst e184
    obtain ⟨b1, b2⟩ := cx_143d hW h1 (h184 rfl) (by have := h184 rfl; omega) g
    exact Or.inr ⟨_, rfl, b1, by rw [b2]⟩
  by_cases e186 : a = 186
  · subst e186
    have e : md_wk W n val wd (tb, sk, tr, sd, rel, pt, rt, pk, fo, fd) (186, near, l) arg = (if tb.length ≤ arg.toNat ∨ 30 ≤ (tb.getD arg.toNat []).length then none else md_k (tb.modify arg.toNat (fun A : List md_Row => A ++ [(([], fun _ => true) : md_Row)]), sk, tr, sd, rel, pt, arg.toNat, pk, fo, fd)) := rfl
    rw [e] at hne ⊢
    by_cases z : tb.length ≤ arg.toNat ∨ 30 ≤ (tb.getD arg.toNat []).length
    · rw [if_pos z] at hne; exact absurd rfl hne
    · rw [if_neg z]
      obtain ⟨j, j1, j2, j3⟩ := hp
      have h0 := h186 rfl
      obtain ⟨b1, b2⟩ := cx_143a (t0 := arg.toNat) hW hW4 h1 ⟨j, j1, j2, by rw [j3]; omega⟩ (by omega) (by omega) g
      exact Or.inr ⟨_, rfl, b1, b2⟩
  by_cases e187 : a = 187
  · subst e187
    have e : md_wk W n val wd (tb, sk, tr, sd, rel, pt, rt, pk, fo, fd) (187, near, l) arg = (if tb.length ≤ rt ∨ (tb.getD rt []).length = 0 ∨ 6 ≤ ((tb.getD rt []).getLastD ([], fun _ => true)).1.length ∨ md_okb n 0 sd.2 = false then none else md_k (tb.modify rt (md_lr1 (fun r : md_Row => ((r.1 ++ [(sd.2.1 == 1, sd.2.2)], r.2) : md_Row))), sk, tr, sd, rel, pt, rt, pk, fo, fd)) := rfl
    rw [e] at hne ⊢
    by_cases z : tb.length ≤ rt ∨ (tb.getD rt []).length = 0 ∨ 6 ≤ ((tb.getD rt []).getLastD ([], fun _ => true)).1.length ∨ md_okb n 0 sd.2 = false
    · rw [if_pos z] at hne; exact absurd rfl hne
    · rw [if_neg z]
      have z1 : rt < tb.length := by omega
      have z2 : (tb.getD rt []).length ≠ 0 := fun y => z (Or.inr (Or.inl y))
      have z3 : ¬ 6 ≤ ((tb.getD rt []).getLastD ([], fun _ => true)).1.length := fun y => z (Or.inr (Or.inr (Or.inl y)))
      have z4 : md_okb n 0 sd.2 = true := by
        cases hh : md_okb n 0 sd.2 with
        | true => rfl
        | false => exact absurd (Or.inr (Or.inr (Or.inr hh))) z
      obtain ⟨B, y, hB⟩ := md_last_e z2
      rw [hB, List.getLastD_concat] at z3
      have hB' : tb[rt]? = some (B ++ [y]) := by
        rw [List.getD_eq_getElem?_getD, List.getElem?_eq_getElem z1] at hB
        rw [List.getElem?_eq_getElem z1]
        exact congrArg some hB
      obtain ⟨b1, b2⟩ := cx_143b hW h1 hB' (by omega) z4 g
      exact Or.inr ⟨_, rfl, b1, b2⟩
  by_cases e188 : a = 188
  · subst e188
    cases tr with
    | nil => exact absurd rfl hne
    | cons x tr =>
      have e : md_wk W n val wd (tb, sk, x :: tr, sd, rel, pt, rt, pk, fo, fd) (188, near, l) arg = (if tb.length ≤ rt ∨ (tb.getD rt []).length = 0 then none else md_k (tb.modify rt (md_lr1 (fun r : md_Row => ((r.1, fun w => r.2 w && x w) : md_Row))), sk, [], sd, rel, pt, rt, pk, fo, fd)) := rfl
      rw [e] at hne ⊢
      by_cases z : tb.length ≤ rt ∨ (tb.getD rt []).length = 0
      · rw [if_pos z] at hne; exact absurd rfl hne
      · rw [if_neg z]
        have z1 : rt < tb.length := by omega
        obtain ⟨B, y, hB⟩ := md_last_e (A := tb.getD rt []) (fun y => z (Or.inr y))
        have hB' : tb[rt]? = some (B ++ [y]) := by
          rw [List.getD_eq_getElem?_getD, List.getElem?_eq_getElem z1] at hB
          rw [List.getElem?_eq_getElem z1]
          exact congrArg some hB
        obtain ⟨b1, b2⟩ := cx_143c hW hW4 h1 hB' g
        exact Or.inr ⟨_, rfl, b1, b2⟩
  by_cases e190 : a = 190
  · subst e190
    cases tr with
    | nil => exact absurd rfl hne
    | cons x tr =>
      have e : md_wk W n val wd (tb, sk, x :: tr, sd, rel, pt, rt, pk, fo, fd) (190, near, l) arg = (if 20 ≤ pt.length then none else if (List.range W).any (fun w => (pt ++ [x]).all (fun p => p w)) = true then md_k (tb, sk, [], sd, rel, pt ++ [x], rt, pk, fo, fd) else some none) := rfl
      rw [e] at hne ⊢
      by_cases z : 20 ≤ pt.length
      · rw [if_pos z] at hne; exact absurd rfl hne
      · rw [if_neg z]
        rcases cx_143e hW h1 (by omega) g with ⟨b1, b2⟩ | ⟨b1, b2, b3⟩
        · rw [b1, if_neg (by decide)]
          exact Or.inl ⟨rfl, b2⟩
        · rw [b1, if_pos rfl]
          exact Or.inr ⟨_, rfl, b2, b3⟩
  by_cases e192 : a = 192
  · subst e192
    cases sk with
    | nil => exact absurd rfl hne
    | cons q sk =>
      have e : md_wk W n val wd (tb, q :: sk, tr, sd, rel, pt, rt, pk, fo, fd) (192, near, l) arg = (if 10 ≤ tb.length ∨ q.1 ≠ wd then none else md_k (tb ++ [q.2], sk, tr, sd, rel, pt, rt, pk, fo, fd)) := rfl
      rw [e] at hne ⊢
      by_cases z : 10 ≤ tb.length ∨ q.1 ≠ wd
      · rw [if_pos z] at hne; exact absurd rfl hne
      · rw [if_neg z]
        obtain ⟨h2, h3⟩ := h192 rfl
        have hq : q.1 = wd := Decidable.byContradiction fun y => z (Or.inr y)
        obtain ⟨j, j1, j2, j3⟩ := hp
        obtain ⟨b1, b2⟩ := cx_143f hW h1 ⟨j, j1, j2, by rw [j3]; exact h2⟩ (by rw [hq]; exact h3) (by omega) g
        exact Or.inr ⟨_, rfl, b1, b2⟩
  have e : md_wk W n val wd (tb, sk, tr, sd, rel, pt, rt, pk, fo, fd) (a, near, l) arg = md_k (tb, sk, tr, sd, rel, pt, rt, pk, fo, fd) := by
    unfold md_wk
    dsimp only
    rw [if_neg e184, if_neg e186, if_neg e187, if_neg e188, if_neg e190, if_neg e192]
    repeat rw [if_neg (by omega)]
  rw [e]
  unfold gx_143 at g
  rw [if_neg (by omega), if_neg (by omega), if_neg (by omega), if_neg (by omega), if_neg (by omega)] at g
  subst g
  exact Or.inr ⟨_, rfl, hW, rfl⟩
end CE18
