/-! THE CLASS'S WORKER: what no note touches -/
def cx_K5 (X : fx_X) : Prop := cx_O X ∧ ∃ rs, X.2.2.1 95 5 = some rs
def cx_nf (sr : Nat) (X X' : fx_X) : Prop := (∀ q, (q < 95 ∨ 107 ≤ q) → X'.2.1 q = X.2.1 q) ∧ (∀ q k, (q < 95 ∨ (107 ≤ q ∧ q < 150)) → (q = 82 → k = 4) → q ≠ sr + 5 → q ≠ sr + 6 → ¬ (q = sr ∧ (k = 14 ∨ k = 15)) → X'.1 q k = X.1 q k) ∧ (∀ t r, t < 10 → X.2.2.1 (128 - sr) t = some r → ∀ q k, r ≤ q → q < r + 4 → X'.1 q k = X.1 q k) ∧ (∀ q j, q < 150 → q ≠ 101 → ¬ (q = 95 ∧ j = 5) → X'.2.2.1 q j = X.2.2.1 q j) ∧ (cx_K5 X → cx_K5 X')
section CE23
variable {X X' X0 X1 : fx_X} {v p p1 p2 : Int32} {u : Unit} {sr r r0 rr rs W n t t0 wd k c m : Nat} {tw : List Nat} {val : md_V} {A B : List md_Row} {tb tb' : List (List md_Row)} {sk : List md_Q} {tr tr' pt : List (Nat → Bool)} {q x0 : md_Q} {sd : md_Sd × md_Sd} {rel fo fd : Int} {rt rt' : Nat} {pk : Option (List Nat)} {o : Option Nat} {x f : Nat → Bool} {y : md_Row} {s : Nat × Nat} {F L : List (Nat × Nat)} {Z : List Nat} {ws ws' : md_WS} {a arg : Int} {near l : Nat}
theorem cx_slo (hs : sr = 54 ∨ sr = 66) (ht : t < 10) : cx_sl (128 - sr, t) := by
  rcases hs with h | h
  · subst h; exact Or.inr (Or.inl ⟨rfl, ht⟩)
  · subst h; exact Or.inl ⟨rfl, ht⟩
theorem cx_nf_rf : cx_nf sr X X := ⟨fun _ _ => rfl, fun _ _ _ _ _ _ _ => rfl, fun _ _ _ _ _ _ _ _ => rfl, fun _ _ _ _ _ => rfl, id⟩
theorem cx_nf_tr (hs : sr = 54 ∨ sr = 66) (h1 : cx_nf sr X X1) (h2 : cx_nf sr X1 X') : cx_nf sr X X' := by
  obtain ⟨a1, a2, a3, a4, a5⟩ := h1
  obtain ⟨b1, b2, b3, b4, b5⟩ := h2
  exact ⟨fun q c => (b1 q c).trans (a1 q c), fun q k c1 c2 c3 c4 c5 => (b2 q k c1 c2 c3 c4 c5).trans (a2 q k c1 c2 c3 c4 c5), fun t r c1 c2 q k c3 c4 => (b3 t r c1 (by rw [a4 _ _ (by omega) (by omega) (by omega)]; exact c2) q k c3 c4).trans (a3 t r c1 c2 q k c3 c4), fun q j c1 c2 c3 => (b4 q j c1 c2 c3).trans (a4 q j c1 c2 c3), fun z => b5 (a5 z)⟩
/-- one ROWS that is none of the other half -/
theorem cx_nf_ot (hO : cx_O X) (hs : sr = 54 ∨ sr = 66) (hsl : cx_sl s) (hne : s.1 ≠ 128 - sr) (hr : X.2.2.1 s.1 s.2 = some r) (h2 : X'.2 = X.2) (h1 : ∀ q k, (q < r ∨ r + 4 ≤ q) → (q = 82 → k = 4) → (q < 95 ∨ (102 ≤ q ∧ q < 106) ∨ 107 ≤ q) → X'.1 q k = X.1 q k) : cx_nf sr X X' := by
  have hr0 := (hO.2.1 s r hsl hr).1
  refine ⟨fun q _ => by rw [h2], fun q k a b _ _ _ => h1 q k (by omega) b (by omega), fun t r1 ht hr1 q k a b => ?_, fun q j _ _ _ => by rw [h2], fun z => by unfold cx_K5 cx_O at z ⊢; rw [h2]; exact z⟩
  have h1r := (hO.2.1 (128 - sr, t) r1 (cx_slo hs ht) hr1).1
  refine h1 q k ?_ (by omega) (by omega)
  rcases hO.2.2 s (128 - sr, t) r r1 hsl (cx_slo hs ht) hr hr1 with z | z | z
  · exact absurd (by rw [z]) hne
  · omega
  · omega
theorem cx_nf_g (hO : cx_O X) (hs : sr = 54 ∨ sr = 66) (hl : ∀ q, (q < 95 ∨ 107 ≤ q) → X'.2.1 q = X.2.1 q) (h2 : X'.2.2 = X.2.2) (h1 : ∀ q k, (q < 95 ∨ (102 ≤ q ∧ q < 106) ∨ 107 ≤ q) → (q = 82 → k = 4) → q ≠ sr + 5 → q ≠ sr + 6 → ¬ (q = sr ∧ (k = 14 ∨ k = 15)) → X'.1 q k = X.1 q k) : cx_nf sr X X' := by
  refine ⟨hl, fun q k a b c d e => h1 q k (by omega) b c d e, fun t r1 ht hr1 q k a b => ?_, fun q j _ _ _ => by rw [h2], fun z => by unfold cx_K5 cx_O at z ⊢; rw [h2]; exact z⟩
  have h1r := (hO.2.1 (128 - sr, t) r1 (cx_slo hs ht) hr1).1
  exact h1 q k (by omega) (by omega) (by omega) (by omega) (by omega)
theorem cx_nf_f (hO : cx_O X) (hs : sr = 54 ∨ sr = 66) (h2 : X'.2 = X.2) (h1 : ∀ q k, (q < 95 ∨ (102 ≤ q ∧ q < 106) ∨ 107 ≤ q) → (q = 82 → k = 4) → q ≠ sr + 5 → q ≠ sr + 6 → ¬ (q = sr ∧ (k = 14 ∨ k = 15)) → X'.1 q k = X.1 q k) : cx_nf sr X X' := cx_nf_g hO hs (fun q _ => by rw [h2]) (by rw [h2]) h1
theorem cx_nf_fy (hO : cx_O X) (hs : sr = 54 ∨ sr = 66) (hf : fy F L Z X X') (hF : ∀ z, z ∈ F → z = (82, 5) ∨ z = (82, 6) ∨ 95 ≤ z.1 ∧ z.1 ≤ 100 ∨ z.1 = 106) (hL : L = []) (hZ : ∀ z, z ∈ Z → 95 ≤ z ∧ z ≤ 100 ∨ z = 106) : cx_nf sr X X' := by
  refine cx_nf_g hO hs (fun q hq => fy_rl hf (fun z => by have := hZ q z; omega) (fun z hz => by rw [hL] at hz; cases hz)) hf.1 (fun q k a b _ _ _ => hf.2.2 q k (fun z => by have := hZ q z; omega) (fun z => ?_))
  rcases hF _ z with y | y | y | y
  · have y1 := (Prod.mk.inj y).1
    have y2 := (Prod.mk.inj y).2
    have := b y1
    omega
  · have y1 := (Prod.mk.inj y).1
    have y2 := (Prod.mk.inj y).2
    have := b y1
    omega
  · have y : 95 ≤ q ∧ q ≤ 100 := y
    omega
  · have y : q = 106 := y
    omega
end CE23
section CE23a
variable {X X' X0 X1 : fx_X} {p p1 p2 : Int32} {u : Unit} {sr r r0 W n t t0 wd k : Nat} {tw : List Nat} {val : md_V} {A : List md_Row} {tb tb' : List (List md_Row)} {sk : List md_Q} {tr tr' pt : List (Nat → Bool)} {q : md_Q} {sd : md_Sd × md_Sd} {rel fo fd : Int} {rt rt' : Nat} {pk : Option (List Nat)} {o : Option Nat}
theorem cx_143af (hW : cx_WS X sr W n val tw (tb, sk, tr, sd, rel, pt, rt, pk, fo, fd)) (hW4 : W ≤ 1024) (h1 : p1.toInt = 186) (hp2 : ∃ j : Nat, p2.toInt = (j : Int) ∧ j < 2500 ∧ (X.1 86 j).toInt = (t0 : Int)) (ht : t0 < tb.length) (h30 : (tb.getD t0 []).length < 30) (g : gx_143 p1 p2 X u X') : cx_nf sr X X' := by
  have hW0 := hW
  obtain ⟨w1, hs, w3, w4, w5, w6, ⟨w7, w8⟩, ⟨rs, w9⟩, w10, w11, w12, w13, w14⟩ := hW
  have htw : t0 < tw.length := by have := w6.2.2.1; omega
  have h10 : tw.length ≤ 10 := w6.2.1
  obtain ⟨A, hA⟩ : ∃ A, tb[t0]? = some A := ⟨tb[t0], List.getElem?_eq_getElem ht⟩
  obtain ⟨wd, hwd⟩ : ∃ wd, tw[t0]? = some wd := ⟨tw[t0], List.getElem?_eq_getElem htw⟩
  have hA30 : A.length < 30 := by rw [List.getD_eq_getElem?_getD, hA] at h30; exact h30
  obtain ⟨r, a1, a2, a3⟩ := w6.2.2.2 t0 wd hwd
  rw [hA] at a3
  have a3 : cx_Rr X r W A := a3
  have hr0 := (w3.2.1 (sr + 8, t0) r (cx_slot hs (by omega)) a1).1
  unfold gx_143 at g
  rw [if_pos h1] at g
  obtain ⟨j, j1, j2, j3⟩ := hp2
  obtain ⟨w6', X5, r1, X7, e7, X8, e8, b10, hb, w12', X11, r2, g⟩ := g
  obtain ⟨e5, v6⟩ := cx_40 j1 j2 r1
  subst e5
  have k8 : ∀ q k, ¬ (q = 95 ∧ (k = 13 ∨ k = 14)) → X8.1 q k = X.1 q k := fun q k hq => by rw [e8, fx_rI, if_neg (by omega), e7, fx_rI, if_neg (by omega)]
  have r8 : X8.2 = X.2 := by rw [e8, e7]; rfl
  have i13 : (X8.1 95 13).toInt = (t0 : Int) := by rw [e8, fx_rIk (by decide), e7, fx_rIe, v6]; exact j3
  have i14 : (X8.1 95 14).toInt = 0 := by rw [e8, fx_rIe]; rfl
  have eb : b10 = sr := Option.some.inj (hb.symm.trans (by rw [r8]; exact w5.1))
  subst eb
  obtain ⟨e11, v12⟩ := cx_63t i13 (by omega) (by rw [k8 _ _ (by omega), w6.1]; omega) r2
  subst e11
  rw [r8, a1] at v12
  subst v12
  rcases g with ⟨z, -⟩ | ⟨b, eb, w16, X16, r3, e16⟩
  · cases z
  have eb : r = b := Option.some.inj eb
  subst eb
  have h7 : X8.2.2.1 95 7 = some b10 := by rw [r8]; exact w5.1
  have hR8 : cx_Rr X8 r W A := cx_Rr_e a3 (k8 _ _ (by omega)) (fun k => k8 _ _ (by omega)) (fun k => k8 _ _ (by omega)) (fun k => k8 _ _ (by omega))
  obtain ⟨c1, c2, c3⟩ := cx_144 hs hr0 hW4 h7 (by rw [k8 _ _ (by omega)]; exact w5.2.2.2.2.2.2) hA30 hR8 r3
  rw [e16]
  exact cx_nf_ot w3 hs (cx_slot hs (show t0 < 10 by omega)) (show _ + 8 ≠ 128 - _ by omega) a1 (c2.1.trans r8) (fun q k h1 h2 h3 => by rw [c2.2 q k h1]; exact k8 q k (by omega))
end CE23a
section CE23b
variable {X X' X0 X1 : fx_X} {p p1 p2 : Int32} {u : Unit} {sr r r0 W n t t0 wd k : Nat} {tw : List Nat} {val : md_V} {A B : List md_Row} {tb tb' : List (List md_Row)} {sk : List md_Q} {tr tr' pt : List (Nat → Bool)} {q : md_Q} {sd : md_Sd × md_Sd} {rel fo fd : Int} {rt rt' : Nat} {pk : Option (List Nat)} {o : Option Nat} {x : Nat → Bool} {y : md_Row} {fr : md_Row → md_Row}
theorem cx_143bf (hW : cx_WS X sr W n val tw (tb, sk, tr, sd, rel, pt, rt, pk, fo, fd)) (h1 : p1.toInt = 187) (hB : tb[rt]? = some (B ++ [y])) (h6 : y.1.length < 6) (hsd : md_okb n 0 sd.2 = true) (g : gx_143 p1 p2 X u X') : cx_nf sr X X' := by
  have ht : rt < tb.length := (List.getElem?_eq_some_iff.mp hB).1
  obtain ⟨r, a1, a2, a3, a4⟩ := cx_rt63 hW ht
  have hW0 := hW
  obtain ⟨w1, hs, w3, w4, w5, w6, ⟨w7, w8⟩, ⟨rs, w9⟩, w10, w11, w12, w13, w14⟩ := hW
  unfold gx_143 at g
  rw [if_neg (by omega), if_pos h1] at g
  obtain ⟨b19, hb, w21, X20, r1, g⟩ := g
  have eb : b19 = sr := Option.some.inj (hb.symm.trans w5.1)
  subst eb
  obtain ⟨e20, v21⟩ := a4 _ _ r1
  subst e20
  subst v21
  rcases g with ⟨z, -⟩ | ⟨b, eb, w25, X24, r2, e⟩
  · cases z
  have eb : r = b := Option.some.inj eb
  subst eb
  rw [e]
  have gB := w1.1 _ (List.mem_of_getElem? hB)
  have h14 := w13.2 _ y hB List.getLast?_concat
  obtain ⟨ts, f⟩ := y
  obtain ⟨c1, c2, c3, c4, c5⟩ := cx_145 a2 w5.2.2.2.1 w5.2.2.2.2.1 gB h6 h14 (a3 _ hB) r2
  have h10 := w6.2.1
  have htl := w6.2.2.1
  exact cx_nf_ot w3 hs (cx_slot hs (show rt < 10 by omega)) (show _ + 8 ≠ 128 - _ by omega) a1 c3 (fun q k h1 h2 h3 => c4 q k (by omega) h1)
theorem cx_143cf (hW : cx_WS X sr W n val tw (tb, sk, x :: tr, sd, rel, pt, rt, pk, fo, fd)) (hW4 : W ≤ 1024) (h1 : p1.toInt = 188) (hB : tb[rt]? = some (B ++ [y])) (g : gx_143 p1 p2 X u X') : cx_nf sr X X' := by
  have ht : rt < tb.length := (List.getElem?_eq_some_iff.mp hB).1
  obtain ⟨r, a1, a2, a3, a4⟩ := cx_rt63 hW ht
  have hW0 := hW
  obtain ⟨w1, hs, w3, w4, w5, w6, ⟨w7, w8⟩, ⟨rs, w9⟩, w10, w11, w12, w13, w14⟩ := hW
  unfold gx_143 at g
  rw [if_neg (by omega), if_neg (by omega), if_pos h1] at g
  obtain ⟨b19, hb, w21, X20, r1, g⟩ := g
  have eb : b19 = sr := Option.some.inj (hb.symm.trans w5.1)
  subst eb
  obtain ⟨e20, v21⟩ := a4 _ _ r1
  subst e20
  subst v21
  rcases g with ⟨z, -⟩ | ⟨b, eb, w25, X24, r2, e⟩
  · cases z
  have eb : r = b := Option.some.inj eb
  subst eb
  rw [e]
  have gB := w1.1 _ (List.mem_of_getElem? hB)
  have h14 := w13.2 _ y hB List.getLast?_concat
  have gBl := gB.1
  rw [List.length_append] at gBl
  have gBl : B.length + 1 ≤ 30 := gBl
  obtain ⟨ts, f⟩ := y
  obtain ⟨c1, c2, c3⟩ := cx_146 hs a2 hW4 w5.1 w5.2.2.2.2.2.2 (by omega) (fun w hw => w10 0 x rfl w hw) (a3 _ hB) r2
  have h10 := w6.2.1
  have htl := w6.2.2.1
  exact cx_nf_ot w3 hs (cx_slot hs (show rt < 10 by omega)) (show _ + 8 ≠ 128 - _ by omega) a1 c2.1 (fun q k h1 _ _ => c2.2 q k h1)
end CE23b
section CE23c
variable {X X' X0 X1 : fx_X} {p p1 p2 : Int32} {u : Unit} {sr r r0 rr W n t t0 wd wd' k c : Nat} {tw : List Nat} {val : md_V} {A A' B : List md_Row} {tb tb' : List (List md_Row)} {sk sk' : List md_Q} {tr tr' pt pt' : List (Nat → Bool)} {q x y : md_Q} {sd : md_Sd × md_Sd} {rel fo fd : Int} {rt rt' : Nat} {pk : Option (List Nat)} {o : Option Nat} {ps : List Nat} {f : Nat → Bool}
theorem cx_143ef (hW : cx_WS X sr W n val tw (tb, sk, f :: tr, sd, rel, pt, rt, pk, fo, fd)) (h1 : p1.toInt = 190) (hlt : pt.length < 20) (g : gx_143 p1 p2 X u X') : cx_nf sr X X' := by
  unfold gx_143 at g
  rw [if_neg (by omega), if_neg (by omega), if_neg (by omega), if_pos h1] at g
  obtain ⟨b37, hb, w39, X38, r1, b41, hb2, g⟩ := g
  have hW0 := hW
  obtain ⟨w1, hs, w3, w4, w5, w6, w7, w9, w10, w11, w12, w13, w14⟩ := hW
  have eb : b37 = sr := Option.some.inj (hb.symm.trans w5.1)
  subst eb
  obtain ⟨c1, c2, c3, c4⟩ := cx_148 hs w4.1 w5.2.2.2.2.2.2 w11 hlt (fun w hw => w10 0 f rfl w hw) r1
  have h38 : cx_nf b37 X X38 := cx_nf_f w3 hs c3 (fun q k _ _ a b c => c4 q k a b c)
  rcases fy_ifd g with ⟨c, g1⟩ | ⟨c, g1⟩
  · obtain ⟨w47, X46, s1, w49, X48, s2, w51, X50, s3, rfl⟩ := g1
    have hf : fy [(82, 5), (82, 6)] [] [] X38 X' := fy_tr (fy_sub (gf_72 s1) (by decide) (by decide) (by decide)) (fy_tr (fy_sub (gf_43 s2) (by decide) (by decide) (by decide)) (gf_44 s3))
    exact cx_nf_tr hs h38 (cx_nf_fy (by unfold cx_O at w3 ⊢; rw [c3]; exact w3) hs hf (by decide) rfl (by decide))
  · rw [g1]; exact h38
theorem cx_143ff (hW : cx_WS X sr W n val tw (tb, q :: sk, tr, sd, rel, pt, rt, pk, fo, fd)) (h1 : p1.toInt = 192) (hp2 : ∃ j : Nat, p2.toInt = (j : Int) ∧ j < 2500 ∧ (X.1 86 j).toInt = (tb.length : Int)) (htw : tw[tb.length]? = some q.1) (hrt : rt ≠ tb.length) (g : gx_143 p1 p2 X u X') : cx_nf sr X X' := by
  unfold gx_143 at g
  rw [if_neg (by omega), if_neg (by omega), if_neg (by omega), if_neg (by omega), if_pos h1] at g
  obtain ⟨X53, e53, b55, hb, w61, X60, r1, w63, X62, r2, g⟩ := g
  have hD := cx_WS_dr hW e53
  obtain ⟨a1, a2, a3, a4, ry, a5, a6, a7, a8⟩ := cx_WS_top hW
  obtain ⟨j, j1, j2, j3⟩ := hp2
  obtain ⟨rfl, v⟩ := cx_40 j1 j2 r1
  have e2 : X53.2 = X.2 := by rw [e53]; rfl
  have ey : ∀ q k, q ≠ 95 → X53.1 q k = X.1 q k := fun q k z => by rw [e53, fx_rIn z]
  have hD0 := hD
  obtain ⟨w1, hs, w3, w4, w5, w6, ⟨w7, w8⟩, ⟨rs, w9⟩, w10, w11, w12, w13, w14⟩ := hD
  have eb : b55 = sr := Option.some.inj (hb.symm.trans w5.1)
  subst eb
  have hlt := (List.getElem?_eq_some_iff.mp htw).1
  have h10 : tw.length ≤ 10 := w6.2.1
  obtain ⟨r, c1, c2, c3⟩ := w6.2.2.2 tb.length q.1 htw
  obtain ⟨rfl, v2⟩ := cx_63t (t := tb.length) (by rw [v, ey _ _ (by decide)]; exact j3) (by omega) (by rw [w6.1]; omega) r2
  rw [c1] at v2
  rcases g with ⟨z, _⟩ | ⟨w63b, z, w69, X68, r3, w71, X70, r4, rfl⟩
  · rw [v2] at z; cases z
  rw [v2] at z
  cases z
  obtain ⟨rfl, rfl⟩ := cx_100s (k := sk.length) w7 a1 (by rw [e2]; exact a5) r3
  obtain ⟨w3', X2', r5, rfl⟩ := r4
  have hr0 := (w3.2.1 (b55 + 8, tb.length) r (cx_slot hs (by omega)) c1).1
  have hap := cx_ap_tl w3 hs (by omega) c1 sk.length w69 a1 (by rw [e2]; exact a5)
  obtain ⟨d1, d2, d3⟩ := cx_101 (hap.elim Or.inr Or.inl) a3 (by rw [ey _ _ (by omega)]; exact a7) (cx_Rr_e a8 (ey _ _ (by omega)) (fun k => ey _ _ (by omega)) (fun k => ey _ _ (by omega)) (fun k => ey _ _ (by omega))) w4.1 r5
  exact cx_nf_tr hs (cx_nf_f hW.2.2.1 hs e2 (fun q k h _ _ _ _ => ey q k (by omega))) (cx_nf_ot w3 hs (cx_slot hs (show tb.length < 10 by omega)) (show _ + 8 ≠ 128 - _ by omega) c1 d2.1 (fun q k h1 _ _ => d2.2 q k h1))
end CE23c
