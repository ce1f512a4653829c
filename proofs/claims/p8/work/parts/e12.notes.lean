/-! THE CLASS'S WORKER: a TABLE begun, what is ALWAYS so, what is picked -/
section CE12
variable {X X' X0 X1 : fx_X} {p p1 p2 : Int32} {u : Unit} {sr r r0 W n t t0 wd k c : Nat} {tw : List Nat} {val : md_V} {A B : List md_Row} {tb tb' : List (List md_Row)} {sk : List md_Q} {tr tr' pt : List (Nat → Bool)} {q : md_Q} {sd : md_Sd × md_Sd} {rel fo fd : Int} {rt rt' : Nat} {pk : Option (List Nat)} {o : Option Nat} {x : Nat → Bool} {y : md_Row} {ps : List Nat}
/-- a TABLE begun: it has no ROWS yet -/
theorem cx_143d (hW : cx_WS X sr W n val tw (tb, sk, tr, sd, rel, pt, rt, pk, fo, fd)) (h1 : p1.toInt = 184) (hl : tb.length < tw.length) (hrt : rt < tb.length ∨ rt ≠ tb.length) (g : gx_143 p1 p2 X u X') : cx_WS X' sr W n val tw (tb ++ [([] : List md_Row)], sk, tr, sd, rel, pt, rt, pk, fo, fd) ∧ X' = X := by
  unfold gx_143 at g
  rw [if_neg (by omega), if_neg (by omega), if_neg (by omega), if_neg (by omega), if_neg (by omega)] at g
  subst g
  refine ⟨?_, rfl⟩
  obtain ⟨w1, hs, w3, w4, w5, ⟨t1, t2, t3, t4⟩, ⟨w7, w8⟩, w9, w10, w11, w12, ⟨r1, r2⟩, w14⟩ := hW
  obtain ⟨g1, g2, g3, g4⟩ := w1
  have hat : ∀ t : Nat, (tb ++ [([] : List md_Row)])[t]? = if t = tb.length then some [] else tb[t]? := fun t => by
    by_cases z : t = tb.length
    · subst z
      rw [if_pos rfl, List.getElem?_append_right (Nat.le_refl _), Nat.sub_self]
      rfl
    · rw [if_neg z]
      by_cases y : t < tb.length
      · rw [List.getElem?_append_left y]
      · rw [List.getElem?_eq_none (by rw [List.length_append]; show tb.length + 1 ≤ t; omega), List.getElem?_eq_none (by omega)]
  refine ⟨⟨fun A hA => ?_, g2, g3, g4⟩, hs, w3, w4, w5, ⟨t1, t2, by rw [List.length_append]; show tb.length + 1 ≤ tw.length; omega, fun t wd ht => ?_⟩, ⟨w7, w8⟩, w9, w10, w11, w12, ⟨fun h => ?_, fun A r' h1 h2 => ?_⟩, w14⟩
  · rcases List.mem_append.mp hA with z | z
    · exact g1 A z
    · rw [List.mem_singleton.mp z]
      exact ⟨Nat.zero_le _, fun x hx => by cases hx⟩
  · have := t4 t wd ht
    rw [hat]
    by_cases z : t = tb.length
    · rw [if_pos z]
      rw [List.getElem?_eq_none (by omega)] at this
      obtain ⟨r, a1, a2, a3⟩ := this
      exact ⟨r, a1, a2, a3, fun i x hx => by cases hx⟩
    · rw [if_neg z]
      exact this
  · rw [List.length_append] at h
    have h : rt < tb.length + 1 := h
    exact r1 (by omega)
  · rw [hat] at h1
    by_cases z : rt = tb.length
    · omega
    · rw [if_neg z] at h1
      exact r2 A r' h1 h2
/-- fields of what is picked alone -/
theorem cx_WS_gp (hW : cx_WS X sr W n val tw (tb, sk, tr, sd, rel, pt, rt, pk, fo, fd)) {pk' : Option (List Nat)} {fo' fd' : Int} (h2 : X'.2 = X.2) (h1 : ∀ q k, q ≠ 96 → q ≠ 97 → X'.1 q k = X.1 q k) (hgp : cx_gp X' pk' fo' fd') : cx_WS X' sr W n val tw (tb, sk, tr, sd, rel, pt, rt, pk', fo', fd') := by
  obtain ⟨w1, hs, w3, w4, ⟨a, b, c, d, e, f, g⟩, ⟨t1, t2, t3, t4⟩, ⟨w7, w8⟩, ⟨rs, w9⟩, w10, w11, w12, ⟨r1, r2⟩, w14⟩ := hW
  have h20 : sk.length ≤ 20 := w1.2.2.1
  have hot : cx_ot 300 X X' → True := fun _ => True.intro
  have rr : ∀ {r0 : Nat} {A : List md_Row}, (r0 = 102 ∨ 150 ≤ r0) → cx_Rr X r0 W A → cx_Rr X' r0 W A := fun {r0 A} h0 hR => cx_Rr_e hR (h1 _ _ (by omega) (by omega)) (fun k => h1 _ _ (by omega) (by omega)) (fun k => h1 _ _ (by omega) (by omega)) (fun k => h1 _ _ (by omega) (by omega))
  refine ⟨w1, hs, by unfold cx_O at w3 ⊢; rw [h2]; exact w3, ⟨w4.1, w4.2.1, fun w u hw hu => by rw [h1 _ _ (by omega) (by omega)]; exact w4.2.2 w u hw hu⟩, ⟨by rw [h2]; exact a, by rw [h1 _ _ (by decide) (by decide)]; exact b, by rw [h1 _ _ (by decide) (by decide)]; exact c, by rw [h1 _ _ (by decide) (by decide)]; exact d, by rw [h1 _ _ (by decide) (by decide)]; exact e, by rw [h1 _ _ (by decide) (by decide)]; exact f, by rw [h1 _ _ (by omega) (by omega)]; exact g⟩, ⟨by rw [h1 _ _ (by omega) (by omega)]; exact t1, t2, t3, fun t wd ht => ?_⟩, ⟨by rw [h1 _ _ (by decide) (by decide)]; exact w7, ?_⟩, ⟨rs, by rw [h2]; exact w9⟩, fun i f hf w hw => by rw [h1 _ _ (by decide) (by decide)]; exact w10 i f hf w hw, ⟨by rw [h1 _ _ (by omega) (by omega)]; exact w11.1, w11.2.1, fun w p hw hp => by rw [h1 _ _ (by omega) (by omega)]; exact w11.2.2 w p hw hp⟩, ⟨by rw [h1 _ _ (by omega) (by omega)]; exact w12.1, fun k w hk => by rw [h1 _ _ (by omega) (by omega)]; exact w12.2 k w hk⟩, ⟨fun h => by rw [h1 _ _ (by decide) (by decide)]; exact r1 h, fun A r' ha hb => by rw [h1 _ _ (by decide) (by decide)]; exact r2 A r' ha hb⟩, hgp⟩
  · obtain ⟨r0, a1, a2, a3⟩ := t4 t wd ht
    have htl := (List.getElem?_eq_some_iff.mp ht).1
    have h0 := (w3.2.1 (sr + 8, t) r0 (cx_slot hs (by omega)) a1).1
    refine ⟨r0, by rw [h2]; exact a1, by rw [h1 _ _ (by omega) (by omega)]; exact a2, ?_⟩
    cases ho : tb[t]? with
    | none => rw [ho] at a3; show (X'.1 r0 4).toInt = 0; rw [h1 _ _ (by omega) (by omega)]; exact a3
    | some A => rw [ho] at a3; exact rr h0 a3
  · clear hot w7
    have : ∀ sk : List md_Q, sk.length ≤ 20 → cx_ls X W sk → cx_ls X' W sk := by
      intro sk
      induction sk with
      | nil => intro _ _; exact True.intro
      | cons q sk ih =>
        intro hl h
        obtain ⟨⟨r0, a1, a2, a3⟩, a4⟩ := h
        have hl : sk.length + 1 ≤ 20 := hl
        have h0 := (w3.2.1 (101, sk.length) r0 (Or.inr (Or.inr (Or.inl ⟨rfl, by show sk.length < 20; omega⟩))) a1).1
        exact ⟨⟨r0, by rw [h2]; exact a1, by rw [h1 _ _ (by omega) (by omega)]; exact a2, rr h0 a3⟩, ih (by omega) a4⟩
    exact this sk h20 w8
/-- nothing is picked yet -/
theorem cx_98a (hW : cx_WS X sr W n val tw (tb, sk, tr, sd, rel, pt, rt, pk, fo, fd)) (h1 : p1.toInt = 215) (g : gx_98 p1 p2 X u X') : cx_WS X' sr W n val tw (tb, sk, tr, sd, rel, pt, rt, some [], fo, fd) ∧ X'.1 82 5 = X.1 82 5 := by
  unfold gx_98 at g
  rw [if_neg (by omega), if_neg (by omega), if_neg (by omega), if_neg (by omega), if_neg (by omega), if_pos h1] at g
  obtain ⟨X49, e49, e⟩ := g
  have h := hW.2.2.2.2.2.2.2.2.2.2.2.2
  rw [e, e49]
  refine ⟨?_, by rw [fx_rIn (by decide)]⟩
  refine cx_WS_gp hW rfl (fun q k z1 z2 => by rw [fx_rIn z1]) ⟨fun ps' hp => ?_, by rw [fx_rIk (by decide)]; exact h.2.1, by rw [fx_rIk (by decide)]; exact h.2.2⟩
  have hp : ([] : List Nat) = ps' := Option.some.inj hp
  subst hp
  exact ⟨by rw [fx_rIe]; rfl, Nat.zero_le _, fun i c h => by cases h⟩
/-- how a group is folded -/
theorem cx_98b (hW : cx_WS X sr W n val tw (tb, sk, tr, sd, rel, pt, rt, pk, fo, fd)) (h1 : p1.toInt = 221) {a : Int} (hp2 : ∃ j : Nat, p2.toInt = (j : Int) ∧ j < 2500 ∧ (X.1 86 j).toInt = a) (g : gx_98 p1 p2 X u X') : cx_WS X' sr W n val tw (tb, sk, tr, sd, rel, pt, rt, pk, a, fd) ∧ X'.1 82 5 = X.1 82 5 := by
  unfold gx_98 at g
  rw [if_neg (by omega), if_neg (by omega), if_neg (by omega), if_neg (by omega), if_neg (by omega), if_neg (by omega), if_neg (by omega), if_neg (by omega), if_pos h1] at g
  obtain ⟨w67, X66, r1, X68, e68, e⟩ := g
  obtain ⟨j, j1, j2, j3⟩ := hp2
  obtain ⟨e66, v⟩ := cx_40 j1 j2 r1
  subst e66
  have h := hW.2.2.2.2.2.2.2.2.2.2.2.2
  rw [e, e68]
  refine ⟨?_, by rw [fx_rIn (by decide)]⟩
  refine cx_WS_gp hW rfl (fun q k z1 z2 => by rw [fx_rIn z1]) ⟨fun ps' hp => ?_, by rw [fx_rIe, v]; exact j3, by rw [fx_rIk (by decide)]; exact h.2.2⟩
  obtain ⟨q1, q2, q3⟩ := h.1 ps' hp
  exact ⟨by rw [fx_rIk (by decide)]; exact q1, q2, fun i c hc => by rw [fx_rIn (by decide)]; exact q3 i c hc⟩
theorem cx_98c (hW : cx_WS X sr W n val tw (tb, sk, tr, sd, rel, pt, rt, pk, fo, fd)) (h1 : p1.toInt = 222) {a : Int} (hp2 : ∃ j : Nat, p2.toInt = (j : Int) ∧ j < 2500 ∧ (X.1 86 j).toInt = a) (g : gx_98 p1 p2 X u X') : cx_WS X' sr W n val tw (tb, sk, tr, sd, rel, pt, rt, pk, fo, a) ∧ X'.1 82 5 = X.1 82 5 := by
  unfold gx_98 at g
  rw [if_neg (by omega), if_neg (by omega), if_neg (by omega), if_neg (by omega), if_neg (by omega), if_neg (by omega), if_neg (by omega), if_neg (by omega), if_neg (by omega), if_pos h1] at g
  obtain ⟨w67, X66, r1, X68, e68, e⟩ := g
  obtain ⟨j, j1, j2, j3⟩ := hp2
  obtain ⟨e66, v⟩ := cx_40 j1 j2 r1
  subst e66
  have h := hW.2.2.2.2.2.2.2.2.2.2.2.2
  rw [e, e68]
  refine ⟨?_, by rw [fx_rIn (by decide)]⟩
  refine cx_WS_gp hW rfl (fun q k z1 z2 => by rw [fx_rIn z1]) ⟨fun ps' hp => ?_, by rw [fx_rIk (by decide)]; exact h.2.1, by rw [fx_rIe, v]; exact j3⟩
  obtain ⟨q1, q2, q3⟩ := h.1 ps' hp
  exact ⟨by rw [fx_rIk (by decide)]; exact q1, q2, fun i c hc => by rw [fx_rIn (by decide)]; exact q3 i c hc⟩
/-- one COLUMN more is picked -/
theorem cx_98d (hW : cx_WS X sr W n val tw (tb, sk, tr, sd, rel, pt, rt, some ps, fo, fd)) (h1 : p1.toInt = 216) (h6 : ps.length < 6) (hp2 : ∃ j : Nat, p2.toInt = (j : Int) ∧ j < 2500 ∧ (X.1 86 j).toInt = (c : Int)) (g : gx_98 p1 p2 X u X') : cx_WS X' sr W n val tw (tb, sk, tr, sd, rel, pt, rt, some (ps ++ [c]), fo, fd) ∧ X'.1 82 5 = X.1 82 5 := by
  unfold gx_98 at g
  rw [if_neg (by omega), if_neg (by omega), if_neg (by omega), if_neg (by omega), if_neg (by omega), if_neg (by omega), if_pos h1] at g
  obtain ⟨w54, X53, r1, w56, X55, r2, e⟩ := g
  obtain ⟨j, j1, j2, j3⟩ := hp2
  obtain ⟨e53, v⟩ := cx_40 j1 j2 r1
  subst e53
  have h := hW.2.2.2.2.2.2.2.2.2.2.2.2
  obtain ⟨q1, q2, q3⟩ := h.1 ps rfl
  obtain ⟨b1, b2, b3, b4⟩ := cx_125 (c := c) q1 h6 q3 (by rw [v]; exact j3) r2
  rw [e]
  refine ⟨?_, b4 82 5 (by decide) (by decide)⟩
  refine cx_WS_gp hW b3 (fun q k z1 z2 => b4 q k z2 (fun z => z1 z.1)) ⟨fun ps' hp => ?_, by rw [b4 96 2 (by decide) (by decide)]; exact h.2.1, by rw [b4 96 3 (by decide) (by decide)]; exact h.2.2⟩
  have hp : ps ++ [c] = ps' := Option.some.inj hp
  subst hp
  exact ⟨b1, by rw [List.length_append]; show ps.length + 1 ≤ 6; omega, b2⟩
end CE12
