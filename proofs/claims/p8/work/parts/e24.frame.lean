/-! THE CLASS'S WORKER: what no note of a question touches -/
section CE24
variable {X X' X0 X1 : fx_X} {u : Unit} {sr r rs k : Nat}
theorem cx_nf_120 (hO : cx_O X) (h4 : (X.1 95 4).toInt = ((k + 1 : Nat) : Int)) (h20 : k < 20) (h5 : X.2.2.1 95 5 = some rs) (hk : X.2.2.1 101 k = some r) (g : gx_120 X u X') : cx_nf sr X X' := by
  obtain ⟨c1, c2, c3, c4, c5, c6⟩ := cx_120 hO h4 h20 h5 hk g
  exact ⟨fun q _ => by rw [c2], fun q k _ _ _ _ _ => by rw [c1], fun t r _ _ q k _ _ => by rw [c1], fun q j _ h2 h3 => c5 q j (fun z => h2 z.1) h3, fun _ => ⟨c6, r, c4⟩⟩
end CE24
section CE24a
variable {X X' X0 X1 : fx_X} {p p1 p2 : Int32} {u : Unit} {sr r r0 W n t t0 wd k c : Nat} {tw : List Nat} {val : md_V} {A B : List md_Row} {tb tb' : List (List md_Row)} {sk : List md_Q} {tr tr' pt : List (Nat → Bool)} {q : md_Q} {sd : md_Sd × md_Sd} {rel fo fd : Int} {rt rt' : Nat} {pk : Option (List Nat)} {o : Option Nat} {x : Nat → Bool} {y : md_Row} {ps : List Nat}
theorem cx_98af (hW : cx_WS X sr W n val tw (tb, sk, tr, sd, rel, pt, rt, pk, fo, fd)) (h1 : p1.toInt = 215) (g : gx_98 p1 p2 X u X') : cx_nf sr X X' := by
  unfold gx_98 at g
  rw [if_neg (by omega), if_neg (by omega), if_neg (by omega), if_neg (by omega), if_neg (by omega), if_pos h1] at g
  obtain ⟨X49, e49, e⟩ := g
  rw [e, e49]
  exact cx_nf_f hW.2.2.1 hW.2.1 rfl (fun q k h _ _ _ _ => by rw [fx_rIn (show q ≠ 96 by omega)])
theorem cx_98bf (hW : cx_WS X sr W n val tw (tb, sk, tr, sd, rel, pt, rt, pk, fo, fd)) (h1 : p1.toInt = 221) {a : Int} (hp2 : ∃ j : Nat, p2.toInt = (j : Int) ∧ j < 2500 ∧ (X.1 86 j).toInt = a) (g : gx_98 p1 p2 X u X') : cx_nf sr X X' := by
  unfold gx_98 at g
  rw [if_neg (by omega), if_neg (by omega), if_neg (by omega), if_neg (by omega), if_neg (by omega), if_neg (by omega), if_neg (by omega), if_neg (by omega), if_pos h1] at g
  obtain ⟨w67, X66, r1, X68, e68, e⟩ := g
  obtain ⟨j, j1, j2, j3⟩ := hp2
  obtain ⟨e66, v⟩ := cx_40 j1 j2 r1
  subst e66
  rw [e, e68]
  exact cx_nf_f hW.2.2.1 hW.2.1 rfl (fun q k h _ _ _ _ => by rw [fx_rIn (show q ≠ 96 by omega)])
theorem cx_98cf (hW : cx_WS X sr W n val tw (tb, sk, tr, sd, rel, pt, rt, pk, fo, fd)) (h1 : p1.toInt = 222) {a : Int} (hp2 : ∃ j : Nat, p2.toInt = (j : Int) ∧ j < 2500 ∧ (X.1 86 j).toInt = a) (g : gx_98 p1 p2 X u X') : cx_nf sr X X' := by
  unfold gx_98 at g
  rw [if_neg (by omega), if_neg (by omega), if_neg (by omega), if_neg (by omega), if_neg (by omega), if_neg (by omega), if_neg (by omega), if_neg (by omega), if_neg (by omega), if_pos h1] at g
  obtain ⟨w67, X66, r1, X68, e68, e⟩ := g
  obtain ⟨j, j1, j2, j3⟩ := hp2
  obtain ⟨e66, v⟩ := cx_40 j1 j2 r1
  subst e66
  rw [e, e68]
  exact cx_nf_f hW.2.2.1 hW.2.1 rfl (fun q k h _ _ _ _ => by rw [fx_rIn (show q ≠ 96 by omega)])
theorem cx_98df (hW : cx_WS X sr W n val tw (tb, sk, tr, sd, rel, pt, rt, some ps, fo, fd)) (h1 : p1.toInt = 216) (h6 : ps.length < 6) (hp2 : ∃ j : Nat, p2.toInt = (j : Int) ∧ j < 2500 ∧ (X.1 86 j).toInt = (c : Int)) (g : gx_98 p1 p2 X u X') : cx_nf sr X X' := by
  unfold gx_98 at g
  rw [if_neg (by omega), if_neg (by omega), if_neg (by omega), if_neg (by omega), if_neg (by omega), if_neg (by omega), if_pos h1] at g
  obtain ⟨w54, X53, r1, w56, X55, r2, e⟩ := g
  obtain ⟨j, j1, j2, j3⟩ := hp2
  obtain ⟨e53, v⟩ := cx_40 j1 j2 r1
  subst e53
  have h := hW.2.2.2.2.2.2.2.2.2.2.2.2
  obtain ⟨q1, q2, q3⟩ := h.1 ps rfl
  obtain ⟨b1, b2, b3, b4⟩ := cx_125 (c := c) q1 h6 q3 (by rw [v]; exact j3) r2
  rw [e]
  exact cx_nf_f hW.2.2.1 hW.2.1 b3 (fun q k h _ _ _ _ => b4 q k (by omega) (by omega))
end CE24a
section CE24b
variable {X X' X0 X1 : fx_X} {p p1 p2 : Int32} {u : Unit} {sr r r0 rr W n t t0 wd wd' k c : Nat} {tw : List Nat} {val : md_V} {A A' B : List md_Row} {tb tb' : List (List md_Row)} {sk sk' : List md_Q} {tr tr' pt : List (Nat → Bool)} {q x y : md_Q} {sd : md_Sd × md_Sd} {rel fo fd : Int} {rt rt' : Nat} {pk : Option (List Nat)} {o : Option Nat} {ps : List Nat}
theorem cx_98ef (hW : cx_WS X sr W n val tw (tb, y :: x :: sk, tr, sd, rel, pt, rt, pk, fo, fd)) (h1 : p1.toInt = 211) (hxy : x.1 = y.1) (g : gx_98 p1 p2 X u X') : cx_nf sr X X' := by
  unfold gx_98 at g
  rw [if_neg (by omega), if_pos h1] at g
  obtain ⟨X19, e19, w21, X20, r1, w23, X22, r2, w25, X24, r3, rfl⟩ := g
  obtain ⟨rfl, hD, c1, c2, c3, c4, c5, c6, c7, c8, c9, c10, c11, c12⟩ := cx_WS_two hW e19 r1 r2
  have hD0 := hD
  obtain ⟨-, hs, -, w4, w5, -⟩ := hD
  rw [← hxy] at c6 c10
  have h19 : cx_nf sr X X22 := cx_nf_f hW.2.2.1 hs (by rw [e19]; rfl) (fun q k h _ _ _ _ => by rw [e19, fx_rIn (show q ≠ 95 by omega)])
  rcases cx_106 hs c2 c4 w4.1 c9 c10 w5.1 w5.2.2.2.2.2.2 c6 c7 c8 r3 with ⟨z1, z2, z⟩ | ⟨z1, z2, z3, z4⟩
  · exact cx_nf_tr hs h19 (cx_nf_fy hD0.2.2.1 hs z (by decide) rfl (by decide))
  · exact cx_nf_tr hs h19 (cx_nf_ot hD0.2.2.1 hs (cx_sl_l (show sk.length < 20 by omega)) (show (101 : Nat) ≠ 128 - _ by omega) c1 z3.1 (fun q k h1 _ _ => z3.2 q k h1))
theorem cx_98ff (hW : cx_WS X sr W n val tw (tb, y :: x :: sk, tr, sd, rel, pt, rt, pk, fo, fd)) (h1 : p1.toInt = 212) (hxy : x.1 = y.1) (g : gx_98 p1 p2 X u X') : cx_nf sr X X' := by
  unfold gx_98 at g
  rw [if_neg (by omega), if_neg (by omega), if_pos h1] at g
  obtain ⟨X19, e19, w21, X20, r1, w23, X22, r2, w25, X24, r3, rfl⟩ := g
  obtain ⟨rfl, hD, c1, c2, c3, c4, c5, c6, c7, c8, c9, c10, c11, c12⟩ := cx_WS_two hW e19 r1 r2
  have hD0 := hD
  obtain ⟨-, hs, -, w4, w5, -⟩ := hD
  rw [← hxy] at c6 c10
  obtain ⟨z2, z3, z4⟩ := cx_111 hs c2 c4 c9 c10 w4 w5.1 w5.2.2.2.2.2.2 c5 c6 c7 c8 r3
  have h19 : cx_nf sr X X22 := cx_nf_f hW.2.2.1 hs (by rw [e19]; rfl) (fun q k h _ _ _ _ => by rw [e19, fx_rIn (show q ≠ 95 by omega)])
  exact cx_nf_tr hs h19 (cx_nf_ot hD0.2.2.1 hs (cx_sl_l (show sk.length < 20 by omega)) (show (101 : Nat) ≠ 128 - _ by omega) c1 z3.1 (fun q k h1 _ _ => z3.2 q k h1))
theorem cx_98gf (hW : cx_WS X sr W n val tw (tb, x :: sk, tr, sd, rel, pt, rt, pk, fo, fd)) (h1 : p1.toInt = 214) (hs1 : md_okb n x.1 sd.1 = true) (hs2 : md_okb n x.1 sd.2 = true) (g : gx_98 p1 p2 X u X') : cx_nf sr X X' := by
  unfold gx_98 at g
  rw [if_neg (by omega), if_neg (by omega), if_neg (by omega), if_neg (by omega), if_pos h1] at g
  obtain ⟨w44, X43, r1, w46, X45, r2, rfl⟩ := g
  obtain ⟨b1, b2, b3, b4, rx, b5, b6, b7, b8⟩ := cx_WS_top hW
  obtain ⟨rfl, rfl⟩ := cx_100s (k := sk.length) (cx_dec b2 (by omega)) b1 b5 r1
  have hW0 := hW
  obtain ⟨-, hs, -, w4, w5, -⟩ := hW
  obtain ⟨z2, z3, z4⟩ := cx_121 hs b6 b3 (md_okb_s hs1) (md_okb_s hs2) w4 w5 b8 r2
  exact cx_nf_ot hW0.2.2.1 hs (cx_sl_l b1) (show (101 : Nat) ≠ 128 - _ by omega) b5 z3.1 (fun q k h1 _ _ => z3.2 q k h1)
theorem cx_98hf (hW : cx_WS X sr W n val tw (tb, x :: sk, tr, sd, rel, pt, rt, some ps, fo, fd)) (h1 : p1.toInt = 217) (hlt : ∀ c, c ∈ ps → c < x.1) (g : gx_98 p1 p2 X u X') : cx_nf sr X X' := by
  unfold gx_98 at g
  rw [if_neg (by omega), if_neg (by omega), if_neg (by omega), if_neg (by omega), if_neg (by omega), if_neg (by omega), if_neg (by omega), if_pos h1] at g
  obtain ⟨w44, X43, r1, w46, X45, r2, rfl⟩ := g
  obtain ⟨b1, b2, b3, b4, rx, b5, b6, b7, b8⟩ := cx_WS_top hW
  obtain ⟨rfl, rfl⟩ := cx_100s (k := sk.length) (cx_dec b2 (by omega)) b1 b5 r1
  have hW0 := hW
  obtain ⟨-, hs, -, w4, w5, -, -, -, -, -, -, -, w14⟩ := hW
  obtain ⟨q1, q2, q3⟩ := w14.1 ps rfl
  obtain ⟨z2, z3, z4⟩ := cx_126 b6 q1 q2 q3 b3 hlt b8 r2
  exact cx_nf_ot hW0.2.2.1 hs (cx_sl_l b1) (show (101 : Nat) ≠ 128 - _ by omega) b5 z4.1 (fun q k h1 _ h3 => z4.2 q k h1 (by omega) (by omega))
end CE24b
section CE24c
variable {X X' X0 X1 : fx_X} {v p p1 p2 : Int32} {u : Unit} {sr r r0 rr rs W n t t0 wd wd' k c m : Nat} {tw : List Nat} {val : md_V} {A A' B : List md_Row} {tb tb' : List (List md_Row)} {sk sk' : List md_Q} {tr tr' pt pt' : List (Nat → Bool)} {q q' x y : md_Q} {sd : md_Sd × md_Sd} {rel fo fd : Int} {rt rt' : Nat} {pk : Option (List Nat)} {o : Option Nat} {ps : List Nat} {f : Nat → Bool} {C : List (List Int32)}
theorem cx_98if (hW : cx_WS X sr W n val tw (tb, sk, tr, sd, rel, pt, rt, pk, fo, fd)) (h1 : p1.toInt = 210) (hp2 : ∃ j : Nat, p2.toInt = (j : Int) ∧ j < 2500 ∧ (X.1 86 j).toInt = (t : Int)) (h20 : sk.length < 20) (ht : tb[t]? = some A) (htw : tw[t]? = some wd) (hall : ∀ x, x ∈ A → x.1.length = wd) (h6 : wd ≤ 6) (g : gx_98 p1 p2 X u X') : cx_nf sr X X' := by
  unfold gx_98 at g
  rw [if_pos h1] at g
  obtain ⟨b5, hb, w11, X10, r1, w13, X12, r2, g⟩ := g
  have hW0 := hW
  obtain ⟨⟨g1, g2, g3, g4⟩, hs, w3, w4, w5, w6, ⟨w7, w8⟩, w9, w10⟩ := hW
  have eb : b5 = sr := Option.some.inj (hb.symm.trans w5.1)
  subst eb
  obtain ⟨j, j1, j2, j3⟩ := hp2
  obtain ⟨rfl, v⟩ := cx_40 j1 j2 r1
  have hlt := (List.getElem?_eq_some_iff.mp htw).1
  have h10 : tw.length ≤ 10 := w6.2.1
  obtain ⟨r, c1, c2, c3⟩ := w6.2.2.2 t wd htw
  obtain ⟨rfl, v2⟩ := cx_63t (t := t) (by rw [v]; exact j3) (by omega) (by rw [w6.1]; omega) r2
  rw [c1] at v2
  rcases g with ⟨z, _⟩ | ⟨w13b, z, w17, X16, r3, rfl⟩
  · rw [v2] at z; cases z
  rw [v2] at z
  cases z
  rw [ht] at c3
  have hA' := g1 A (List.mem_of_getElem? ht)
  have hA : md_okA n wd A := ⟨hA'.1, fun x hx => ⟨hA'.2 x hx, hall x hx⟩⟩
  obtain ⟨d1, d2, d3, rr, X2, d4, ⟨n1, n2, n3, n4, n5⟩, d6, d7, d8⟩ := cx_99 hs w3 w7 h20 w8 (by omega) c1 c3 c2 hA w4.1 r3
  have hrr := (d6.2.1 (101, sk.length) rr (cx_sl_l h20) d4).1
  have hO1 := w3.1
  have slot : ∀ q j, q < 150 → q ≠ 101 → X'.2.2.1 q j = X.2.2.1 q j := fun q j a b => by rw [d7, n4 q j (by omega) (fun z => b z.1)]
  refine ⟨fun q _ => by rw [d7, n2], fun q k h _ _ _ _ => d8 q k (by omega) (by omega), fun t1 r0 ht1 hr q k z1 z2 => ?_, fun q j a b _ => slot q j a b, fun z => ⟨d3, by rw [slot 95 5 (by decide) (by decide)]; exact z.2⟩⟩
  have h0 := (w3.2.1 (128 - b5, t1) r0 (cx_slo hs ht1) hr).1
  have hr2 : X2.2.2.1 (128 - b5) t1 = some r0 := by rw [n4 _ _ (by omega) (by omega)]; exact hr
  rcases d6.2.2 (101, sk.length) (128 - b5, t1) rr r0 (cx_sl_l h20) (cx_slo hs ht1) d4 hr2 with y | y | y
  · have := (Prod.mk.inj y).1
    omega
  · exact d8 q k (by omega) (by omega)
  · exact d8 q k (by omega) (by omega)
theorem cx_98jf (hW : cx_WS X sr W n val tw (tb, y :: x :: sk, tr, sd, rel, pt, rt, pk, fo, fd)) (h1 : p1.toInt = 213) (hp2 : ∃ j : Nat, p2.toInt = (j : Int) ∧ j < 2500 ∧ (X.1 86 j).toInt = (m : Int)) (h6 : x.1 + md_ncn x.1 m y.1 ≤ 6) (g : gx_98 p1 p2 X u X') : cx_nf sr X X' := by
  unfold gx_98 at g
  rw [if_neg (by omega), if_neg (by omega), if_neg (by omega), if_pos h1] at g
  obtain ⟨X19, e19, w21, X20, r1, w23, X22, r2, w25, X24, r3, rfl⟩ := g
  obtain ⟨rfl, hD, c1, c2, c3, c4, c5, c6, c7, c8, c9, c10, c11, c12, c13, c14⟩ := cx_WS_two hW e19 r1 r2
  have hD0 := hD
  obtain ⟨-, hs, w3, w4, w5, -, -, ⟨rs, w9⟩, -⟩ := hD
  have hrs := (w3.2.1 (95, 5) rs cx_sl_5 w9).1
  have ap : ∀ (i : Nat) r0, i < 20 → X22.2.2.1 101 i = some r0 → rs + 4 ≤ r0 ∨ r0 + 4 ≤ rs := fun i r0 hi hr => by
    rcases w3.2.2 (101, i) (95, 5) r0 rs (cx_sl_l hi) cx_sl_5 hr w9 with z | z | z
    · have := (Prod.mk.inj z).1
      omega
    · exact Or.inr z
    · exact Or.inl z
  obtain ⟨j, j1, j2, j3⟩ := hp2
  have h19 : cx_nf sr X X22 := cx_nf_f hW.2.2.1 hs (by rw [e19]; rfl) (fun q k h _ _ _ _ => by rw [e19, fx_rIn (show q ≠ 95 by omega)])
  rcases cx_115 hs hrs (ap _ _ c14 c13) (ap _ _ (by omega) c1) c9 c10 c12 h6 j2 j1 (by rw [e19, fx_rIn (by decide)]; exact j3) w4 w5.1 w9 w5.2.2.2.2.2.2 c5 c6 c7 c8 r3 with ⟨z1, z2, z⟩ | ⟨z1, X1, z2, z3, z4, z5⟩
  · exact cx_nf_tr hs h19 (cx_nf_fy w3 hs z (by decide) rfl (by decide))
  · have hO1 : cx_O X1 := by unfold cx_O at w3 ⊢; rw [z2.1]; exact w3
    have h4 := (cx_WS_top hD0).2.1
    exact cx_nf_tr hs h19 (cx_nf_tr hs (cx_nf_ot w3 hs cx_sl_5 (show (95 : Nat) ≠ 128 - _ by omega) w9 z2.1 (fun q k h1 _ _ => z2.2 q k h1)) (cx_nf_120 hO1 (k := sk.length) (by rw [z2.2 95 4 (by omega)]; exact h4) (by omega) (by rw [z2.1]; exact w9) (by rw [z2.1]; exact c1) z5))
theorem cx_98kf (hW : cx_WS X sr W n val tw (tb, x :: sk, tr, sd, rel, pt, rt, some ps, fo, fd)) (hW1 : 0 < W) (h1 : p1.toInt = 223) (hlt : ∀ c, c ∈ ps → c < x.1) (h6 : ps.length < 6) (hok : fo = 16 ∨ (0 ≤ fd ∧ fd < (x.1 : Int))) (g : gx_98 p1 p2 X u X') : cx_nf sr X X' := by
  unfold gx_98 at g
  rw [if_neg (by omega), if_neg (by omega), if_neg (by omega), if_neg (by omega), if_neg (by omega), if_neg (by omega), if_neg (by omega), if_neg (by omega), if_neg (by omega), if_neg (by omega), if_pos h1] at g
  have hW0 := hW
  obtain ⟨b1, b2, b3, b4, rx, b5, b6, b7, b8⟩ := cx_WS_top hW
  obtain ⟨-, hs, w3, w4, w5, -, -, ⟨rs, w9⟩, -, -, -, -, w14⟩ := hW
  obtain ⟨q1, q2, q3⟩ := w14.1 ps rfl
  rcases g with ⟨z, _⟩ | ⟨b78, hb, w93, X92, r1, b95, hb5, w97, X96, r2, g⟩
  · rw [w5.1] at z; cases z
  have eb : b78 = sr := Option.some.inj (hb.symm.trans w5.1)
  subst eb
  obtain ⟨rfl, rfl⟩ := cx_100s (k := sk.length) (cx_dec b2 (by omega)) b1 b5 r1
  have eb : b95 = rs := Option.some.inj (hb5.symm.trans w9)
  subst eb
  have hrs := (w3.2.1 (95, 5) b95 cx_sl_5 w9).1
  have ap : b95 + 4 ≤ w93 ∨ w93 + 4 ≤ b95 := by
    rcases w3.2.2 (101, sk.length) (95, 5) w93 b95 (cx_sl_l b1) cx_sl_5 b5 w9 with z | z | z
    · have := (Prod.mk.inj z).1
      omega
    · exact Or.inr z
    · exact Or.inl z
  have h120 : ∀ {Z Z' : fx_X} {u : Unit}, cx_nf b78 X92 Z → Z.2 = X92.2 → Z.1 95 = X92.1 95 → gx_120 Z u Z' → cx_nf b78 X92 Z' := fun h h2 h9 g => cx_nf_tr hs h (cx_nf_120 (by unfold cx_O at w3 ⊢; rw [h2]; exact w3) (k := sk.length) (by rw [h9]; exact b2) b1 (by rw [h2]; exact w9) (by rw [h2]; exact b5) g)
  rcases cx_127 hs hrs b6 ap w4 w5.2.2.2.2.2.2 b3 b8 b7 q1 h6 q3 hlt w14.2.1 w14.2.2 hok r2 with ⟨z0, z1, z2⟩ | ⟨z0, u1, X1, C, z1, z2, z3⟩
  · rw [if_pos z0] at g
    obtain ⟨_, X101, s1, _, X103, s2, rfl⟩ := g
    have f := gf_107 s1
    have n1 : cx_nf b78 X92 X96 := cx_nf_ot w3 hs cx_sl_5 (show (95 : Nat) ≠ 128 - _ by omega) w9 z2.1 (fun q k h1 _ h3 => z2.2 q k (by omega) (by omega) h1)
    have n2 : cx_nf b78 X96 X101 := cx_nf_fy (by unfold cx_O at w3 ⊢; rw [z2.1]; exact w3) hs f (by decide) rfl (by decide)
    have e2 : X101.2 = X92.2 := by
      have e : X101.2.1 = X96.2.1 := funext fun r => fy_rl f List.not_mem_nil (fun z hz => by cases hz)
      exact (Prod.ext e f.1).trans z2.1
    exact h120 (cx_nf_tr hs n1 n2) e2 (funext fun k => by rw [f.2.2 95 k (by decide) (fun z => by simp at z)]; exact z2.2 95 k (by decide) (by decide) (by omega)) s2
  · rw [if_neg (by omega)] at g
    obtain ⟨_, X99, s2, rfl⟩ := g
    have hce1 : cx_ce X1 b78 W n val := ⟨w4.1, w4.2.1, fun w u hw hu => by rw [z1.2 _ _ (by omega) (by omega) (by omega)]; exact w4.2.2 w u hw hu⟩
    obtain ⟨C', y1, y2, y3⟩ := cx_138 hs hrs hW1 (by omega) hce1 (by rw [z1.2 _ _ (by omega) (by omega) (by omega)]; exact w5.2.2.2.2.2.2) z2 z3
    exact h120 (cx_nf_ot w3 hs cx_sl_5 (show (95 : Nat) ≠ 128 - _ by omega) w9 (y3.1.trans z1.1) (fun q k h1 _ h3 => by rw [y3.2 q k h1]; exact z1.2 q k (by omega) (by omega) h1)) (y3.1.trans z1.1) (funext fun k => by rw [y3.2 95 k (by omega)]; exact z1.2 95 k (by decide) (by decide) (by omega)) s2
end CE24c
