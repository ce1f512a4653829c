/-! THE CLASS'S WORKER: what a RULE puts, what is ALWAYS so, what a question begins from -/
section CE15
variable {X X' X0 X1 : fx_X} {p p1 p2 : Int32} {u : Unit} {sr r r0 rr W n t t0 wd wd' k c : Nat} {tw : List Nat} {val : md_V} {A A' B : List md_Row} {tb tb' : List (List md_Row)} {sk sk' : List md_Q} {tr tr' pt pt' : List (Nat → Bool)} {q x y : md_Q} {sd : md_Sd × md_Sd} {rel fo fd : Int} {rt rt' : Nat} {pk : Option (List Nat)} {o : Option Nat} {ps : List Nat} {f : Nat → Bool}
/-- the top of the stack is a TABLE -/
theorem cx_143f (hW : cx_WS X sr W n val tw (tb, q :: sk, tr, sd, rel, pt, rt, pk, fo, fd)) (h1 : p1.toInt = 192) (hp2 : ∃ j : Nat, p2.toInt = (j : Int) ∧ j < 2500 ∧ (X.1 86 j).toInt = (tb.length : Int)) (htw : tw[tb.length]? = some q.1) (hrt : rt ≠ tb.length) (g : gx_143 p1 p2 X u X') : cx_WS X' sr W n val tw (tb ++ [q.2], sk, tr, sd, rel, pt, rt, pk, fo, fd) ∧ X'.1 82 5 = X.1 82 5 := by
  unfold gx_143 at g
  rw [if_neg (by omega), if_neg (by omega), if_neg (by omega), if_neg (by omega), if_pos h1] at g
  obtain ⟨X53, e53, b55, hb, w61, X60, r1, w63, X62, r2, g⟩ := g
  have hD := cx_WS_dr hW e53
  obtain ⟨a1, a2, a3, a4, ry, a5, a6, a7, a8⟩ := cx_WS_top hW
  obtain ⟨j, j1, j2, j3⟩ := hp2
  obtain ⟨rfl, v⟩ := cx_40 j1 j2 r1
  have e2 : X53.2 = X.2 := by rw [e53]; rfl
  have ey : ∀ q k, q ≠ 95 → X53.1 q k = X.1 q k := fun q k z => by rw [e53, fx_rIn z]
  have hD0 := hD
  obtain ⟨w1, hs, w3, w4, w5, w6, ⟨w7, w8⟩, ⟨rs, w9⟩, w10, w11, w12, w13, w14⟩ := hD
  have eb : b55 = sr := Option.some.inj (hb.symm.trans w5.1)
  subst eb
  have hlt := (List.getElem?_eq_some_iff.mp htw).1
  have h10 : tw.length ≤ 10 := w6.2.1
  obtain ⟨r, c1, c2, c3⟩ := w6.2.2.2 tb.length q.1 htw
  obtain ⟨rfl, v2⟩ := cx_63t (t := tb.length) (by rw [v, ey _ _ (by decide)]; exact j3) (by omega) (by rw [w6.1]; omega) r2
  rw [c1] at v2
  rcases g with ⟨z, _⟩ | ⟨w63b, z, w69, X68, r3, w71, X70, r4, rfl⟩
  · rw [v2] at z; cases z
  rw [v2] at z
  cases z
  obtain ⟨rfl, rfl⟩ := cx_100s (k := sk.length) w7 a1 (by rw [e2]; exact a5) r3
  obtain ⟨w3', X2', r5, rfl⟩ := r4
  have hr0 := (w3.2.1 (b55 + 8, tb.length) r (cx_slot hs (by omega)) c1).1
  have hap := cx_ap_tl w3 hs (by omega) c1 sk.length w69 a1 (by rw [e2]; exact a5)
  obtain ⟨d1, d2, d3⟩ := cx_101 (hap.elim Or.inr Or.inl) a3 (by rw [ey _ _ (by omega)]; exact a7) (cx_Rr_e a8 (ey _ _ (by omega)) (fun k => ey _ _ (by omega)) (fun k => ey _ _ (by omega)) (fun k => ey _ _ (by omega))) w4.1 r5
  have hat : ∀ t : Nat, t ≠ tb.length → (tb ++ [q.2])[t]? = tb[t]? := fun t z => by
    by_cases y : t < tb.length
    · rw [List.getElem?_append_left y]
    · rw [List.getElem?_eq_none (by rw [List.length_append]; show tb.length + 1 ≤ t; omega), List.getElem?_eq_none (by omega)]
  have hnew : (tb ++ [q.2])[tb.length]? = some q.2 := by
    rw [List.getElem?_append_right (Nat.le_refl _), Nat.sub_self]; rfl
  refine ⟨?_, by rw [d2.2 82 5 (by omega), e53, fx_rIn (by decide)]⟩
  refine cx_WS_tb hD0 (cx_ot_rf d2) c1 (by omega) (by rw [List.length_append]; show tb.length + 1 ≤ tw.length; omega) hat (fun wd ht => ?_) ?_ (fun k _ _ => d2.2 _ _ (by omega)) ⟨funext fun k => d2.2 _ _ (by omega), funext fun k => d2.2 _ _ (by omega)⟩ (fun i f hf w hw => by rw [d2.2 _ _ (by omega)]; exact w10 i f hf w hw) ⟨fun h => ?_, fun A r' h1 h2 => ?_⟩
  · rw [htw] at ht
    cases ht
    rw [hnew]
    exact ⟨r, by rw [d2.1]; exact c1, d3, d1⟩
  · obtain ⟨g1, g2, g3, g4⟩ := w1
    refine ⟨fun A hA => ?_, g2, g3, g4⟩
    rcases List.mem_append.mp hA with z | z
    · exact g1 A z
    · rw [List.mem_singleton.mp z]
      exact ⟨a3.1, fun x hx => (a3.2 x hx).1⟩
  · rw [List.length_append] at h
    have h : rt < tb.length + 1 := h
    rw [d2.2 _ _ (by omega)]
    exact w13.1 (by omega)
  · rw [hat rt hrt] at h1
    rw [d2.2 _ _ (by omega)]
    exact w13.2 A r' h1 h2
theorem md_hl_any : (List.range W).any (fun w => pt.all (fun p => p w)) = true ↔ (md_hl W pt).length ≠ 0 := by
  unfold md_hl
  rw [List.any_eq_true]
  constructor
  · rintro ⟨w, h1, h2⟩ h
    have := List.length_eq_zero_iff.mp h
    have hm : w ∈ (List.range W).filter (fun w => pt.all (fun p => p w)) := List.mem_filter.mpr ⟨h1, h2⟩
    rw [this] at hm
    cases hm
  · intro h
    obtain ⟨w, hw⟩ := List.exists_mem_of_length_pos (Nat.pos_of_ne_zero h)
    exact ⟨w, (List.mem_filter.mp hw).1, (List.mem_filter.mp hw).2⟩
/-- WORLDS alone are others -/
theorem cx_WS_pt (hW : cx_WS X sr W n val tw (tb, sk, tr, sd, rel, pt, rt, pk, fo, fd)) (hpt : cx_pt X' sr W pt') (hhd : cx_hd X' sr (md_hl W pt')) (h2 : X'.2 = X.2) (h1 : ∀ q k, q ≠ sr + 5 → q ≠ sr + 6 → ¬ (q = sr ∧ (k = 14 ∨ k = 15)) → X'.1 q k = X.1 q k) : cx_WS X' sr W n val tw (tb, sk, [], sd, rel, pt', rt, pk, fo, fd) := by
  obtain ⟨⟨g1, g2, g3, g4⟩, hs, w3, w4, ⟨a, b, c, d, e, f, g⟩, ⟨t1, t2, t3, t4⟩, ⟨w7, w8⟩, w9, w10, w11, w12, ⟨r1, r2⟩, ⟨q1, q2, q3⟩⟩ := hW
  have z : ∀ q k, (78 ≤ q ∨ q = sr + 4) → X'.1 q k = X.1 q k := fun q k y => h1 q k (by omega) (by omega) (by omega)
  refine ⟨⟨g1, g2, g3, Nat.zero_le _⟩, hs, by unfold cx_O at w3 ⊢; rw [h2]; exact w3, ⟨w4.1, w4.2.1, fun w u hw hu => by rw [z _ _ (Or.inr rfl)]; exact w4.2.2 w u hw hu⟩, ⟨by rw [h2]; exact a, by rw [z _ _ (by omega)]; exact b, by rw [z _ _ (by omega)]; exact c, by rw [z _ _ (by omega)]; exact d, by rw [z _ _ (by omega)]; exact e, by rw [z _ _ (by omega)]; exact f, by rw [h1 _ _ (by omega) (by omega) (by omega)]; exact g⟩, ⟨by rw [h1 _ _ (by omega) (by omega) (by omega)]; exact t1, t2, t3, fun t wd htw => ?_⟩, ⟨by rw [z _ _ (by omega)]; exact w7, cx_ls_e4 w3 g3 w8 (fun i hi r0 hr => ⟨by rw [h2]; exact hr, fun q k z1 z2 => ?_⟩)⟩, by rw [h2]; exact w9, (fun i f hf => by cases hf), hpt, hhd, ⟨fun h => by rw [z _ _ (by omega)]; exact r1 h, fun A r' ha hb => by rw [z _ _ (by omega)]; exact r2 A r' ha hb⟩, ⟨fun ps hp => ?_, by rw [z _ _ (by omega)]; exact q2, by rw [z _ _ (by omega)]; exact q3⟩⟩
  · obtain ⟨r0, a1, a2, a3⟩ := t4 t wd htw
    have htl := (List.getElem?_eq_some_iff.mp htw).1
    have h0 := (w3.2.1 (sr + 8, t) r0 (cx_slot hs (by omega)) a1).1
    refine ⟨r0, by rw [h2]; exact a1, by rw [z _ _ (by omega)]; exact a2, ?_⟩
    cases ho : tb[t]? with
    | none => rw [ho] at a3; show (X'.1 r0 4).toInt = 0; rw [z _ _ (by omega)]; exact a3
    | some A => rw [ho] at a3; exact cx_Rr_e a3 (z _ _ (by omega)) (fun k => z _ _ (by omega)) (fun k => z _ _ (by omega)) (fun k => z _ _ (by omega))
  · have hi' : i < 20 := by have : sk.length ≤ 20 := g3; omega
    have h0 := (w3.2.1 (101, i) r0 (Or.inr (Or.inr (Or.inl ⟨rfl, hi'⟩))) hr).1
    exact z _ _ (by omega)
  · obtain ⟨b1, b2, b3⟩ := q1 ps hp
    exact ⟨by rw [z _ _ (by omega)]; exact b1, b2, fun i c hc => by rw [z _ _ (by omega)]; exact b3 i c hc⟩
/-- what is ALWAYS so -/
theorem cx_143e (hW : cx_WS X sr W n val tw (tb, sk, f :: tr, sd, rel, pt, rt, pk, fo, fd)) (h1 : p1.toInt = 190) (hlt : pt.length < 20) (g : gx_143 p1 p2 X u X') : ((List.range W).any (fun w => (pt ++ [f]).all (fun p => p w)) = false ∧ (X'.1 82 5).toInt ≠ 0) ∨ ((List.range W).any (fun w => (pt ++ [f]).all (fun p => p w)) = true ∧ cx_WS X' sr W n val tw (tb, sk, [], sd, rel, pt ++ [f], rt, pk, fo, fd) ∧ X'.1 82 5 = X.1 82 5) := by
  unfold gx_143 at g
  rw [if_neg (by omega), if_neg (by omega), if_neg (by omega), if_pos h1] at g
  obtain ⟨b37, hb, w39, X38, r1, b41, hb2, g⟩ := g
  have hW0 := hW
  obtain ⟨w1, hs, w3, w4, w5, w6, w7, w9, w10, w11, w12, w13, w14⟩ := hW
  have eb : b37 = sr := Option.some.inj (hb.symm.trans w5.1)
  subst eb
  obtain ⟨c1, c2, c3, c4⟩ := cx_148 hs w4.1 w5.2.2.2.2.2.2 w11 hlt (fun w hw => w10 0 f rfl w hw) r1
  have eb : b41 = b37 := by rw [c3, hb] at hb2; exact (Option.some.inj hb2).symm
  subst eb
  have h14 := c2.1
  by_cases z : (md_hl W (pt ++ [f])).length = 0
  · rw [if_pos (by rw [h14, z]; rfl)] at g
    obtain ⟨w47, X46, s1, w49, X48, s2, w51, X50, s3, rfl⟩ := g
    refine Or.inl ⟨?_, (cx_44 (by decide) s3).1⟩
    cases hh : (List.range W).any (fun w => (pt ++ [f]).all (fun p => p w)) with
    | false => rfl
    | true => exact absurd z (md_hl_any.mp hh)
  · rw [if_neg (by rw [h14]; omega)] at g
    subst g
    exact Or.inr ⟨md_hl_any.mpr z, cx_WS_pt hW0 c1 c2 c3 c4, c4 82 5 (by omega) (by omega) (by omega)⟩
end CE15
