/-! THE CLASS'S WORKER: what no note touches -/
section CE25
variable {X X' X0 X1 : fx_X} {v p p1 p2 y2 : Int32} {u : Unit} {sr r r0 rr rs W n t t0 wd wd' k c m : Nat} {tw : List Nat} {val : md_V} {tb : List (List md_Row)} {sk : List md_Q} {tr tr' pt : List (Nat → Bool)} {sd sd' : md_Sd × md_Sd} {rel rel' fo fd a arg : Int} {rt : Nat} {pk : Option (List Nat)} {near l : Nat} {ws ws' : md_WS} {A : List md_Row}
theorem cx_f143 (hW : cx_WS X sr W n val tw (tb, sk, tr, sd, rel, pt, rt, pk, fo, fd)) (hrt : rt < tb.length ∨ 10 ≤ rt) (ha : a < 200) (h1 : p1.toInt = a) (hp : ∃ j : Nat, p2.toInt = (j : Int) ∧ j < 2500 ∧ (X.1 86 j).toInt = arg) (h184 : a = 184 → tb.length < tw.length) (h186 : a = 186 → 0 ≤ arg) (h192 : a = 192 → arg = (tb.length : Int) ∧ tw[tb.length]? = some wd) (hne : md_wk W n val wd (tb, sk, tr, sd, rel, pt, rt, pk, fo, fd) (a, near, l) arg ≠ none) (g : gx_143 p1 p2 X u X') : cx_nf sr X X' := by
  have hW4 := hW.2.2.2.1.1
  have h10 : tw.length ≤ 10 := hW.2.2.2.2.2.1.2.1
  have htl : tb.length ≤ tw.length := hW.2.2.2.2.2.1.2.2.1
  by_cases e184 : a = 184
  · subst e184
    obtain ⟨b1, b2⟩ := cx_143d hW h1 (h184 rfl) (by have := h184 rfl; omega) g
    rw [b2]; exact cx_nf_rf
  by_cases e186 : a = 186
  · subst e186
    have e : md_wk W n val wd (tb, sk, tr, sd, rel, pt, rt, pk, fo, fd) (186, near, l) arg = (if tb.length ≤ arg.toNat ∨ 30 ≤ (tb.getD arg.toNat []).length then none else md_k (tb.modify arg.toNat (fun A : List md_Row => A ++ [(([], fun _ => true) : md_Row)]), sk, tr, sd, rel, pt, arg.toNat, pk, fo, fd)) := rfl
    rw [e] at hne
    by_cases z : tb.length ≤ arg.toNat ∨ 30 ≤ (tb.getD arg.toNat []).length
    · rw [if_pos z] at hne; exact absurd rfl hne
    · obtain ⟨j, j1, j2, j3⟩ := hp
      have h0 := h186 rfl
      exact cx_143af (t0 := arg.toNat) hW hW4 h1 ⟨j, j1, j2, by rw [j3]; omega⟩ (by omega) (by omega) g
  by_cases e187 : a = 187
  · subst e187
    have e : md_wk W n val wd (tb, sk, tr, sd, rel, pt, rt, pk, fo, fd) (187, near, l) arg = (if tb.length ≤ rt ∨ (tb.getD rt []).length = 0 ∨ 6 ≤ ((tb.getD rt []).getLastD ([], fun _ => true)).1.length ∨ md_okb n 0 sd.2 = false then none else md_k (tb.modify rt (md_lr1 (fun r : md_Row => ((r.1 ++ [(sd.2.1 == 1, sd.2.2)], r.2) : md_Row))), sk, tr, sd, rel, pt, rt, pk, fo, fd)) := rfl
    rw [e] at hne
    by_cases z : tb.length ≤ rt ∨ (tb.getD rt []).length = 0 ∨ 6 ≤ ((tb.getD rt []).getLastD ([], fun _ => true)).1.length ∨ md_okb n 0 sd.2 = false
    · rw [if_pos z] at hne; exact absurd rfl hne
    · have z1 : rt < tb.length := by omega
      have z2 : (tb.getD rt []).length ≠ 0 := fun y => z (Or.inr (Or.inl y))
      have z3 : ¬ 6 ≤ ((tb.getD rt []).getLastD ([], fun _ => true)).1.length := fun y => z (Or.inr (Or.inr (Or.inl y)))
      have z4 : md_okb n 0 sd.2 = true := by
        cases hh : md_okb n 0 sd.2 with
        | true => rfl
        | false => exact absurd (Or.inr (Or.inr (Or.inr hh))) z
      obtain ⟨B, y, hB⟩ := md_last_e z2
      rw [hB, List.getLastD_concat] at z3
      have hB' : tb[rt]? = some (B ++ [y]) := by
        rw [List.getD_eq_getElem?_getD, List.getElem?_eq_getElem z1] at hB
        rw [List.getElem?_eq_getElem z1]
        exact congrArg some hB
      exact cx_143bf hW h1 hB' (by omega) z4 g
  by_cases e188 : a = 188
  · subst e188
    cases tr with
    | nil => exact absurd rfl hne
    | cons x tr =>
      have e : md_wk W n val wd (tb, sk, x :: tr, sd, rel, pt, rt, pk, fo, fd) (188, near, l) arg = (if tb.length ≤ rt ∨ (tb.getD rt []).length = 0 then none else md_k (tb.modify rt (md_lr1 (fun r : md_Row => ((r.1, fun w => r.2 w && x w) : md_Row))), sk, [], sd, rel, pt, rt, pk, fo, fd)) := rfl
      rw [e] at hne
      by_cases z : tb.length ≤ rt ∨ (tb.getD rt []).length = 0
      · rw [if_pos z] at hne; exact absurd rfl hne
      · have z1 : rt < tb.length := by omega
        obtain ⟨B, y, hB⟩ := md_last_e (A := tb.getD rt []) (fun y => z (Or.inr y))
        have hB' : tb[rt]? = some (B ++ [y]) := by
          rw [List.getD_eq_getElem?_getD, List.getElem?_eq_getElem z1] at hB
          rw [List.getElem?_eq_getElem z1]
          exact congrArg some hB
        exact cx_143cf hW hW4 h1 hB' g
  by_cases e190 : a = 190
  · subst e190
    cases tr with
    | nil => exact absurd rfl hne
    | cons x tr =>
      have e : md_wk W n val wd (tb, sk, x :: tr, sd, rel, pt, rt, pk, fo, fd) (190, near, l) arg = (if 20 ≤ pt.length then none else if (List.range W).any (fun w => (pt ++ [x]).all (fun p => p w)) = true then md_k (tb, sk, [], sd, rel, pt ++ [x], rt, pk, fo, fd) else some none) := rfl
      rw [e] at hne
      by_cases z : 20 ≤ pt.length
      · rw [if_pos z] at hne; exact absurd rfl hne
      · exact cx_143ef hW h1 (by omega) g

  by_cases e192 : a = 192
  · subst e192
    cases sk with
    | nil => exact absurd rfl hne
    | cons q sk =>
      have e : md_wk W n val wd (tb, q :: sk, tr, sd, rel, pt, rt, pk, fo, fd) (192, near, l) arg = (if 10 ≤ tb.length ∨ q.1 ≠ wd then none else md_k (tb ++ [q.2], sk, tr, sd, rel, pt, rt, pk, fo, fd)) := rfl
      rw [e] at hne
      by_cases z : 10 ≤ tb.length ∨ q.1 ≠ wd
      · rw [if_pos z] at hne; exact absurd rfl hne
      · obtain ⟨h2, h3⟩ := h192 rfl
        have hq : q.1 = wd := Decidable.byContradiction fun y => z (Or.inr y)
        obtain ⟨j, j1, j2, j3⟩ := hp
        exact cx_143ff hW h1 ⟨j, j1, j2, by rw [j3]; exact h2⟩ (by rw [hq]; exact h3) (by omega) g
  have e : md_wk W n val wd (tb, sk, tr, sd, rel, pt, rt, pk, fo, fd) (a, near, l) arg = md_k (tb, sk, tr, sd, rel, pt, rt, pk, fo, fd) := by
    unfold md_wk
    dsimp only
    rw [if_neg e184, if_neg e186, if_neg e187, if_neg e188, if_neg e190, if_neg e192]
    repeat rw [if_neg (by omega)]
  unfold gx_143 at g
  rw [if_neg (by omega), if_neg (by omega), if_neg (by omega), if_neg (by omega), if_neg (by omega)] at g
  subst g
  exact cx_nf_rf
end CE25
section CE25b
variable {X X' X0 X1 : fx_X} {v p p1 p2 y2 : Int32} {u : Unit} {sr r r0 rr rs W n t t0 wd wd' k c m : Nat} {tw : List Nat} {val : md_V} {tb : List (List md_Row)} {sk : List md_Q} {tr tr' pt : List (Nat → Bool)} {sd sd' : md_Sd × md_Sd} {rel rel' fo fd a arg : Int} {rt : Nat} {pk : Option (List Nat)} {near l : Nat} {ws ws' : md_WS} {A : List md_Row} {ps : List Nat} {b : Nat}
theorem cx_f98 (hW : cx_WS X sr W n val tw (tb, sk, tr, sd, rel, pt, rt, pk, fo, fd)) (hW1 : 0 < W) (ha : 210 ≤ a) (h1 : p1.toInt = a) (hp : ∃ j : Nat, p2.toInt = (j : Int) ∧ j < 2500 ∧ (X.1 86 j).toInt = arg) (h210 : a = 210 → 0 ≤ arg ∧ tw[arg.toNat]? = some wd) (hne : md_wk W n val wd (tb, sk, tr, sd, rel, pt, rt, pk, fo, fd) (a, near, l) arg ≠ none) (g : gx_98 p1 p2 X u X') : cx_nf sr X X' := by
  by_cases e210 : a = 210
  · subst e210
    have e : md_wk W n val wd (tb, sk, tr, sd, rel, pt, rt, pk, fo, fd) (210, near, l) arg = (if 20 ≤ sk.length ∨ tb.length ≤ arg.toNat ∨ (tb.getD arg.toNat []).all (fun r => r.1.length == wd) = false ∨ 6 < wd then none else md_k (tb, (wd, tb.getD arg.toNat []) :: sk, tr, sd, rel, pt, rt, pk, fo, fd)) := rfl
    rw [e] at hne
    by_cases z : 20 ≤ sk.length ∨ tb.length ≤ arg.toNat ∨ (tb.getD arg.toNat []).all (fun r => r.1.length == wd) = false ∨ 6 < wd
    · rw [if_pos z] at hne; exact absurd rfl hne
    · have z1 : sk.length < 20 := by omega
      have z2 : arg.toNat < tb.length := by omega
      have z3 : wd ≤ 6 := by omega
      have z4 : (tb.getD arg.toNat []).all (fun r => r.1.length == wd) = true := by
        cases hh : (tb.getD arg.toNat []).all (fun r => r.1.length == wd) with
        | true => rfl
        | false => exact absurd (Or.inr (Or.inr (Or.inl hh))) z
      obtain ⟨h0, h2⟩ := h210 rfl
      obtain ⟨j, j1, j2, j3⟩ := hp
      have hA : tb[arg.toNat]? = some (tb.getD arg.toNat []) := by
        rw [List.getD_eq_getElem?_getD, List.getElem?_eq_getElem z2]; rfl
      exact cx_98if (t := arg.toNat) hW h1 ⟨j, j1, j2, by rw [j3]; omega⟩ z1 hA h2 (fun x hx => by
        have := List.all_eq_true.mp z4 x hx
        exact beq_iff_eq.mp this) z3 g
  by_cases e211 : a = 211
  · subst e211
    rcases sk with _ | ⟨y, _ | ⟨x, sk⟩⟩
    · exact absurd rfl hne
    · exact absurd rfl hne
    · have e : md_wk W n val wd (tb, y :: x :: sk, tr, sd, rel, pt, rt, pk, fo, fd) (211, near, l) arg = (if x.1 ≠ y.1 then none else if 30 < x.2.length + y.2.length then some none else md_k (tb, (x.1, x.2 ++ y.2) :: sk, tr, sd, rel, pt, rt, pk, fo, fd)) := rfl
      rw [e] at hne
      by_cases z : x.1 ≠ y.1
      · rw [if_pos z] at hne; exact absurd rfl hne
      · exact cx_98ef hW h1 (Decidable.not_not.mp z) g
  by_cases e212 : a = 212
  · subst e212
    rcases sk with _ | ⟨y, _ | ⟨x, sk⟩⟩
    · exact absurd rfl hne
    · exact absurd rfl hne
    · have e : md_wk W n val wd (tb, y :: x :: sk, tr, sd, rel, pt, rt, pk, fo, fd) (212, near, l) arg = (if x.1 ≠ y.1 then none else md_k (tb, (x.1, md_mi val x.2 y.2) :: sk, tr, sd, rel, pt, rt, pk, fo, fd)) := rfl
      rw [e] at hne
      by_cases z : x.1 ≠ y.1
      · rw [if_pos z] at hne; exact absurd rfl hne
      · exact cx_98ff hW h1 (Decidable.not_not.mp z) g
  by_cases e213 : a = 213
  · subst e213
    rcases sk with _ | ⟨y, _ | ⟨x, sk⟩⟩
    · exact absurd rfl hne
    · exact absurd rfl hne
    · have e : md_wk W n val wd (tb, y :: x :: sk, tr, sd, rel, pt, rt, pk, fo, fd) (213, near, l) arg = (if arg < 0 ∨ 2147483647 < arg ∨ wd ≠ x.1 + md_ncn x.1 arg.toNat y.1 ∨ 6 < wd then none else if 30 < x.2.length * y.2.length then some none else md_k (tb, (wd, md_jn val arg.toNat x.2 y.2) :: sk, tr, sd, rel, pt, rt, pk, fo, fd)) := rfl
      rw [e] at hne
      by_cases z : arg < 0 ∨ 2147483647 < arg ∨ wd ≠ x.1 + md_ncn x.1 arg.toNat y.1 ∨ 6 < wd
      · rw [if_pos z] at hne; exact absurd rfl hne
      · have z2 : wd = x.1 + md_ncn x.1 arg.toNat y.1 := Decidable.byContradiction fun y => z (Or.inr (Or.inr (Or.inl y)))
        have z3 : ¬ arg < 0 := fun y => z (Or.inl y)
        have z4 : ¬ 6 < wd := fun y => z (Or.inr (Or.inr (Or.inr y)))
        obtain ⟨j, j1, j2, j3⟩ := hp
        subst z2
        exact cx_98jf (m := arg.toNat) hW h1 ⟨j, j1, j2, by rw [j3]; omega⟩ (Nat.le_of_not_lt z4) g
  by_cases e214 : a = 214
  · subst e214
    cases sk with
    | nil => exact absurd rfl hne
    | cons x sk =>
      have e : md_wk W n val wd (tb, x :: sk, tr, sd, rel, pt, rt, pk, fo, fd) (214, near, l) arg = (if md_okb n x.1 sd.1 = false ∨ md_okb n x.1 sd.2 = false then none else md_k (tb, (x.1, md_ts val sd rel x.2) :: sk, tr, sd, rel, pt, rt, pk, fo, fd)) := rfl
      rw [e] at hne
      by_cases z : md_okb n x.1 sd.1 = false ∨ md_okb n x.1 sd.2 = false
      · rw [if_pos z] at hne; exact absurd rfl hne
      · have z1 : md_okb n x.1 sd.1 = true := by
          cases hh : md_okb n x.1 sd.1 with
          | true => rfl
          | false => exact absurd (Or.inl hh) z
        have z2 : md_okb n x.1 sd.2 = true := by
          cases hh : md_okb n x.1 sd.2 with
          | true => rfl
          | false => exact absurd (Or.inr hh) z
        exact cx_98gf hW h1 z1 z2 g
  by_cases e215 : a = 215
  · subst e215
    exact cx_98af hW h1 g
  by_cases e216 : a = 216
  · subst e216
    cases pk with
    | none => exact absurd rfl hne
    | some ps =>
      have e : md_wk W n val wd (tb, sk, tr, sd, rel, pt, rt, some ps, fo, fd) (216, near, l) arg = (if 6 ≤ ps.length ∨ arg < 0 then none else md_k (tb, sk, tr, sd, rel, pt, rt, some (ps ++ [arg.toNat]), fo, fd)) := rfl
      rw [e] at hne
      by_cases z : 6 ≤ ps.length ∨ arg < 0
      · rw [if_pos z] at hne; exact absurd rfl hne
      · obtain ⟨j, j1, j2, j3⟩ := hp
        exact cx_98df (c := arg.toNat) hW h1 (by omega) ⟨j, j1, j2, by rw [j3]; omega⟩ g
  by_cases e217 : a = 217
  · subst e217
    rcases sk with _ | ⟨x, sk⟩
    · exact absurd rfl hne
    cases pk with
    | none => exact absurd rfl hne
    | some ps =>
      have e : md_wk W n val wd (tb, x :: sk, tr, sd, rel, pt, rt, some ps, fo, fd) (217, near, l) arg = (if ps.all (fun c => decide (c < x.1)) = false ∨ 6 < ps.length then none else md_k (tb, (ps.length, md_pj ps x.2) :: sk, tr, sd, rel, pt, rt, some ps, fo, fd)) := rfl
      rw [e] at hne
      by_cases z : ps.all (fun c => decide (c < x.1)) = false ∨ 6 < ps.length
      · rw [if_pos z] at hne; exact absurd rfl hne
      · exact cx_98hf hW h1 (md_all_lt (fun y => z (Or.inl y))) g
  by_cases e221 : a = 221
  · subst e221
    exact cx_98bf hW h1 hp g
  by_cases e222 : a = 222
  · subst e222
    exact cx_98cf hW h1 hp g
  by_cases e223 : a = 223
  · subst e223
    rcases sk with _ | ⟨x, sk⟩
    · exact absurd rfl hne
    cases pk with
    | none => exact absurd rfl hne
    | some ps =>
      have e : md_wk W n val wd (tb, x :: sk, tr, sd, rel, pt, rt, some ps, fo, fd) (223, near, l) arg = (if ps.all (fun c => decide (c < x.1)) = false ∨ 6 ≤ ps.length ∨ (fo ≠ 16 ∧ (fd < 0 ∨ (x.1 : Int) ≤ fd)) then none else if 30 < (md_grs val W ps fo fd.toNat x.2).length then some none else md_k (tb, (ps.length + 1, md_gr val W ps fo fd.toNat x.2) :: sk, tr, sd, rel, pt, rt, some ps, fo, fd)) := rfl
      rw [e] at hne
      by_cases z : ps.all (fun c => decide (c < x.1)) = false ∨ 6 ≤ ps.length ∨ (fo ≠ 16 ∧ (fd < 0 ∨ (x.1 : Int) ≤ fd))
      · rw [if_pos z] at hne; exact absurd rfl hne
      · have z1 : ¬ 6 ≤ ps.length := fun y => z (Or.inr (Or.inl y))
        have z2 : ¬ (fo ≠ 16 ∧ (fd < 0 ∨ (x.1 : Int) ≤ fd)) := fun y => z (Or.inr (Or.inr y))
        exact cx_98kf hW hW1 h1 (md_all_lt (fun y => z (Or.inl y))) (by omega) (by omega) g
  have e : md_wk W n val wd (tb, sk, tr, sd, rel, pt, rt, pk, fo, fd) (a, near, l) arg = md_k (tb, sk, tr, sd, rel, pt, rt, pk, fo, fd) := by
    unfold md_wk
    dsimp only
    repeat rw [if_neg (by omega)]
  unfold gx_98 at g
  rw [if_neg (by omega), if_neg (by omega), if_neg (by omega), if_neg (by omega), if_neg (by omega), if_neg (by omega), if_neg (by omega), if_neg (by omega), if_neg (by omega), if_neg (by omega), if_neg (by omega)] at g
  subst g
  exact cx_nf_rf
end CE25b
