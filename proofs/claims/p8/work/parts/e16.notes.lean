/-! THE CLASS'S WORKER: a question begins; what is worked elsewhere and then put on top -/
section CE16
variable {X X' X0 X1 : fx_X} {v p p1 p2 : Int32} {u : Unit} {sr r r0 rr rs W n t t0 wd wd' k c m : Nat} {tw : List Nat} {val : md_V} {A A' B : List md_Row} {tb tb' : List (List md_Row)} {sk sk' : List md_Q} {tr tr' pt pt' : List (Nat → Bool)} {q q' x y : md_Q} {sd : md_Sd × md_Sd} {rel fo fd : Int} {rt rt' : Nat} {pk : Option (List Nat)} {o : Option Nat} {ps : List Nat} {f : Nat → Bool} {C : List (List Int32)}
theorem cx_sl_l (h : k < 20) : cx_sl (101, k) := Or.inr (Or.inr (Or.inl ⟨rfl, h⟩))
theorem cx_sl_5 : cx_sl (95, 5) := Or.inr (Or.inr (Or.inr ⟨rfl, rfl⟩))
/-- the TABLE that a question begins from -/
theorem cx_98i (hW : cx_WS X sr W n val tw (tb, sk, tr, sd, rel, pt, rt, pk, fo, fd)) (h1 : p1.toInt = 210) (hp2 : ∃ j : Nat, p2.toInt = (j : Int) ∧ j < 2500 ∧ (X.1 86 j).toInt = (t : Int)) (h20 : sk.length < 20) (ht : tb[t]? = some A) (htw : tw[t]? = some wd) (hall : ∀ x, x ∈ A → x.1.length = wd) (h6 : wd ≤ 6) (g : gx_98 p1 p2 X u X') : cx_WS X' sr W n val tw (tb, (wd, A) :: sk, tr, sd, rel, pt, rt, pk, fo, fd) ∧ X'.1 82 5 = X.1 82 5 := by
  unfold gx_98 at g
  rw [if_pos h1] at g
  obtain ⟨b5, hb, w11, X10, r1, w13, X12, r2, g⟩ := g
  have hW0 := hW
  obtain ⟨⟨g1, g2, g3, g4⟩, hs, w3, w4, w5, w6, ⟨w7, w8⟩, w9, w10⟩ := hW
  have eb : b5 = sr := Option.some.inj (hb.symm.trans w5.1)
  subst eb
  obtain ⟨j, j1, j2, j3⟩ := hp2
  obtain ⟨rfl, v⟩ := cx_40 j1 j2 r1
  have hlt := (List.getElem?_eq_some_iff.mp htw).1
  have h10 : tw.length ≤ 10 := w6.2.1
  obtain ⟨r, c1, c2, c3⟩ := w6.2.2.2 t wd htw
  obtain ⟨rfl, v2⟩ := cx_63t (t := t) (by rw [v]; exact j3) (by omega) (by rw [w6.1]; omega) r2
  rw [c1] at v2
  rcases g with ⟨z, _⟩ | ⟨w13b, z, w17, X16, r3, rfl⟩
  · rw [v2] at z; cases z
  rw [v2] at z
  cases z
  rw [ht] at c3
  have hA' := g1 A (List.mem_of_getElem? ht)
  have hA : md_okA n wd A := ⟨hA'.1, fun x hx => ⟨hA'.2 x hx, hall x hx⟩⟩
  obtain ⟨d1, d2, d3, rr, X2, d4, ⟨n1, n2, n3, n4, n5⟩, d6, d7, d8⟩ := cx_99 hs w3 w7 h20 w8 (by omega) c1 c3 c2 hA w4.1 r3
  have hrr := (d6.2.1 (101, sk.length) rr (cx_sl_l h20) d4).1
  have hO1 := w3.1
  have slot : ∀ q j, q < 150 → q ≠ 101 → X'.2.2.1 q j = X.2.2.1 q j := fun q j a b => by rw [d7, n4 q j (by omega) (fun z => b z.1)]
  refine ⟨?_, d8 82 5 (by omega) (by omega)⟩
  refine cx_WS_sk hW0 d3 (fun q j a b _ => slot q j a b) (by rw [slot _ _ (by decide) (by decide)]; exact w9) (fun q k z a b c e => d8 q k e (by omega)) (fun t1 r0 ht1 hr q k z1 z2 => ?_) d2 d1 ⟨g1, fun q1 hq => ?_, by show sk.length + 1 ≤ 20; omega, g4⟩
  · have h0 := (w3.2.1 (b5 + 8, t1) r0 (cx_slot hs ht1) hr).1
    have hr2 : X2.2.2.1 (b5 + 8) t1 = some r0 := by rw [n4 _ _ (by omega) (by omega)]; exact hr
    have ha := cx_ap_lt d6 hs h20 d4 t1 r0 ht1 hr2
    exact d8 q k (by omega) (by omega)
  · rcases List.mem_cons.mp hq with z | z
    · rw [z]; exact ⟨hA, h6⟩
    · exact g2 q1 z
/-- what was worked elsewhere is put on top -/
theorem cx_WS_sw (hW : cx_WS X sr W n val tw (tb, q :: sk, tr, sd, rel, pt, rt, pk, fo, fd)) (h5 : X.2.2.1 95 5 = some rs) (h : cx_tf4 rs X X1) (hR : cx_Rr X1 rs W q'.2) (hw : (X1.1 rs 3).toInt = (q'.1 : Int)) (hok : md_okA n q'.1 q'.2) (h6 : q'.1 ≤ 6) (g : gx_120 X1 u X') : cx_WS X' sr W n val tw (tb, q' :: sk, tr, sd, rel, pt, rt, pk, fo, fd) := by
  have hW0 := hW
  obtain ⟨b1, b2, b3, b4, r, b5, b6, b7, b8⟩ := cx_WS_top hW
  obtain ⟨⟨g1, g2, g3, g4⟩, hs, w3, -, -, -, ⟨w7, w8⟩, w9, -⟩ := hW
  have hrs := (w3.2.1 (95, 5) rs cx_sl_5 h5).1
  have hO1 : cx_O X1 := by unfold cx_O at w3 ⊢; rw [h.1]; exact w3
  obtain ⟨c1, c2, c3, c4, c5, c6⟩ := cx_120 hO1 (k := sk.length) (r := r) (rs := rs) (by rw [h.2 _ _ (by omega) (by decide) (by decide) (by decide)]; exact b2) b1 (by rw [h.1]; exact h5) (by rw [h.1]; exact b5) g
  have ap : ∀ s r0, cx_sl s → s ≠ (95, 5) → X.2.2.1 s.1 s.2 = some r0 → r0 + 4 ≤ rs ∨ rs + 4 ≤ r0 := fun s r0 hs0 hne hr => by
    rcases w3.2.2 s (95, 5) r0 rs hs0 cx_sl_5 hr h5 with z | z | z
    · exact absurd z hne
    · exact Or.inl z
    · exact Or.inr z
  refine cx_WS_sk hW0 c6 (fun q j a b d => by rw [c5 q j (fun z => b z.1) d, h.1]) ⟨r, c4⟩ (fun q k z a b c _ => by rw [c1]; exact h.2 q k (by omega) a b c) (fun t r0 ht hr q k z1 z2 => ?_) (by rw [c1, h.2 _ _ (by omega) (by decide) (by decide) (by decide)]; exact w7) ⟨⟨rs, c3, by rw [c1]; exact hw, cx_Rr_e hR (by rw [c1]) (fun k => by rw [c1]) (fun k => by rw [c1]) (fun k => by rw [c1])⟩, cx_ls_e4 w3 (by omega) w8.2 (fun i hi r0 hr => ⟨?_, fun q k z1 z2 => ?_⟩)⟩ ⟨g1, fun q1 hq => ?_, by show sk.length + 1 ≤ 20; omega, g4⟩
  · have h0 := (w3.2.1 (sr + 8, t) r0 (cx_slot hs ht) hr).1
    have ha := ap (sr + 8, t) r0 (cx_slot hs ht) (fun z => by have := (Prod.mk.inj z).1; omega) hr
    rw [c1]
    exact h.2 q k (by omega) (by omega) (by omega) (by omega)
  · rw [c5 _ _ (fun z => by omega) (fun z => by omega), h.1]
    exact hr
  · have h0 := (w3.2.1 (101, i) r0 (cx_sl_l (by omega)) hr).1
    have ha := ap (101, i) r0 (cx_sl_l (by omega)) (fun z => by have := (Prod.mk.inj z).1; omega) hr
    rw [c1]
    exact h.2 q k (by omega) (by omega) (by omega) (by omega)
  · rcases List.mem_cons.mp hq with z | z
    · rw [z]; exact ⟨hok, h6⟩
    · exact g2 q1 (List.mem_cons_of_mem _ z)
theorem cx_120n (g : gx_120 X u X') : X'.1 = X.1 := by
  obtain ⟨x2, -, g⟩ := g
  split at g
  · rw [g]
  · split at g
    · obtain ⟨w8, X7, r1, b12, -, -, X14, e14, X16, e16, rfl⟩ := g
      have : X7.1 = X.1 := by
        unfold gx_100 at r1
        rw [if_neg (by assumption), if_pos (by assumption)] at r1
        obtain ⟨-, r1⟩ := r1
        rcases r1 with ⟨_, _, _, Y1, d1, _, Y2, d2, _, _, rfl⟩ | ⟨_, _, _, _, rfl⟩
        · rw [d2, d1]; rfl
        · rfl
      rw [e16, e14]
      exact this
    · rw [g]
/-- with -/
theorem cx_98j (hW : cx_WS X sr W n val tw (tb, y :: x :: sk, tr, sd, rel, pt, rt, pk, fo, fd)) (h1 : p1.toInt = 213) (hp2 : ∃ j : Nat, p2.toInt = (j : Int) ∧ j < 2500 ∧ (X.1 86 j).toInt = (m : Int)) (h6 : x.1 + md_ncn x.1 m y.1 ≤ 6) (g : gx_98 p1 p2 X u X') : (30 < x.2.length * y.2.length ∧ (X'.1 82 5).toInt ≠ 0) ∨ (¬ 30 < x.2.length * y.2.length ∧ cx_WS X' sr W n val tw (tb, (x.1 + md_ncn x.1 m y.1, md_jn val m x.2 y.2) :: sk, tr, sd, rel, pt, rt, pk, fo, fd) ∧ X'.1 82 5 = X.1 82 5) := by
  unfold gx_98 at g
  rw [if_neg (by omega), if_neg (by omega), if_neg (by omega), if_pos h1] at g
  obtain ⟨X19, e19, w21, X20, r1, w23, X22, r2, w25, X24, r3, rfl⟩ := g
  obtain ⟨rfl, hD, c1, c2, c3, c4, c5, c6, c7, c8, c9, c10, c11, c12, c13, c14⟩ := cx_WS_two hW e19 r1 r2
  have hD0 := hD
  obtain ⟨-, hs, w3, w4, w5, -, -, ⟨rs, w9⟩, -⟩ := hD
  have hrs := (w3.2.1 (95, 5) rs cx_sl_5 w9).1
  have ap : ∀ (i : Nat) r0, i < 20 → X22.2.2.1 101 i = some r0 → rs + 4 ≤ r0 ∨ r0 + 4 ≤ rs := fun i r0 hi hr => by
    rcases w3.2.2 (101, i) (95, 5) r0 rs (cx_sl_l hi) cx_sl_5 hr w9 with z | z | z
    · have := (Prod.mk.inj z).1
      omega
    · exact Or.inr z
    · exact Or.inl z
  obtain ⟨j, j1, j2, j3⟩ := hp2
  rcases cx_115 hs hrs (ap _ _ c14 c13) (ap _ _ (by omega) c1) c9 c10 c12 h6 j2 j1 (by rw [e19, fx_rIn (by decide)]; exact j3) w4 w5.1 w9 w5.2.2.2.2.2.2 c5 c6 c7 c8 r3 with ⟨z1, z2, -⟩ | ⟨z1, X1, z2, z3, z4, z5⟩
  · exact Or.inl ⟨z1, z2⟩
  · exact Or.inr ⟨z1, cx_WS_sw (q' := (x.1 + md_ncn x.1 m y.1, md_jn val m x.2 y.2)) hD0 w9 (cx_tf4_rf z2) z3 z4 (md_okA_jn c9 c10 (by omega) h6) h6 z5, by rw [cx_120n z5, z2.2 82 5 (by omega), e19, fx_rIn (by decide)]⟩
theorem cx_Rr_gi (h : cx_gi X rs W m (md_grs val W ps fo k A) (md_DA val ps fo k A W)) : cx_Rr X rs W (md_gr val W ps fo k A) := by
  obtain ⟨⟨q1, q2, q3⟩, q4, q5, q6, q7, q8⟩ := h
  refine ⟨by unfold md_gr; rw [List.length_map]; exact q1, fun i x hx => ?_⟩
  unfold md_gr at hx
  rw [List.getElem?_map] at hx
  cases hz : (md_grs val W ps fo k A)[i]? with
  | none => rw [hz] at hx; cases hx
  | some z =>
    rw [hz] at hx
    cases hx
    refine ⟨(q3 i z hz).2, fun w hw => ?_⟩
    rw [q7 i z hz w hw]
    unfold md_DA
    rw [decide_eq_true hw, Bool.true_and]
    exact (List.contains_eq_mem ..).symm
/-- grouped -/
theorem cx_98k (hW : cx_WS X sr W n val tw (tb, x :: sk, tr, sd, rel, pt, rt, some ps, fo, fd)) (hW1 : 0 < W) (h1 : p1.toInt = 223) (hlt : ∀ c, c ∈ ps → c < x.1) (h6 : ps.length < 6) (hok : fo = 16 ∨ (0 ≤ fd ∧ fd < (x.1 : Int))) (g : gx_98 p1 p2 X u X') : (30 < (md_grs val W ps fo fd.toNat x.2).length ∧ (X'.1 82 5).toInt ≠ 0) ∨ (¬ 30 < (md_grs val W ps fo fd.toNat x.2).length ∧ cx_WS X' sr W n val tw (tb, (ps.length + 1, md_gr val W ps fo fd.toNat x.2) :: sk, tr, sd, rel, pt, rt, some ps, fo, fd) ∧ X'.1 82 5 = X.1 82 5) := by
  unfold gx_98 at g
  rw [if_neg (by omega), if_neg (by omega), if_neg (by omega), if_neg (by omega), if_neg (by omega), if_neg (by omega), if_neg (by omega), if_neg (by omega), if_neg (by omega), if_neg (by omega), if_pos h1] at g
  have hW0 := hW
  obtain ⟨b1, b2, b3, b4, rx, b5, b6, b7, b8⟩ := cx_WS_top hW
  obtain ⟨-, hs, w3, w4, w5, -, -, ⟨rs, w9⟩, -, -, -, -, w14⟩ := hW
  obtain ⟨q1, q2, q3⟩ := w14.1 ps rfl
  rcases g with ⟨z, _⟩ | ⟨b78, hb, w93, X92, r1, b95, hb5, w97, X96, r2, g⟩
  · rw [w5.1] at z; cases z
  have eb : b78 = sr := Option.some.inj (hb.symm.trans w5.1)
  subst eb
  obtain ⟨rfl, rfl⟩ := cx_100s (k := sk.length) (cx_dec b2 (by omega)) b1 b5 r1
  have eb : b95 = rs := Option.some.inj (hb5.symm.trans w9)
  subst eb
  have hrs := (w3.2.1 (95, 5) b95 cx_sl_5 w9).1
  have ap : b95 + 4 ≤ w93 ∨ w93 + 4 ≤ b95 := by
    rcases w3.2.2 (101, sk.length) (95, 5) w93 b95 (cx_sl_l b1) cx_sl_5 b5 w9 with z | z | z
    · have := (Prod.mk.inj z).1
      omega
    · exact Or.inr z
    · exact Or.inl z
  rcases cx_127 hs hrs b6 ap w4 w5.2.2.2.2.2.2 b3 b8 b7 q1 h6 q3 hlt w14.2.1 w14.2.2 hok r2 with ⟨z0, z1, z2⟩ | ⟨z0, u1, X1, C, z1, z2, z3⟩
  · rw [if_pos z0] at g
    obtain ⟨_, X101, s1, _, X103, s2, rfl⟩ := g
    exact Or.inl ⟨z1, by rw [cx_120n s2]; exact cx_107n s1⟩
  · rw [if_neg (by omega)] at g
    obtain ⟨_, X99, s2, rfl⟩ := g
    have hce1 : cx_ce X1 b78 W n val := ⟨w4.1, w4.2.1, fun w u hw hu => by rw [z1.2 _ _ (by omega) (by omega) (by omega)]; exact w4.2.2 w u hw hu⟩
    obtain ⟨C', y1, y2, y3⟩ := cx_138 hs hrs hW1 (by omega) hce1 (by rw [z1.2 _ _ (by omega) (by omega) (by omega)]; exact w5.2.2.2.2.2.2) z2 z3
    have eC : C' = md_grs val W ps fo fd.toNat x.2 := md_so_ext _ _ y2 md_grs_so (fun c => by
      rw [y1.2.2.2.1 c, md_grs_mem]
      constructor
      · rintro ⟨w, a1, a2⟩
        unfold md_DA at a2
        rw [Bool.and_eq_true, decide_eq_true_eq, decide_eq_true_eq] at a2
        exact ⟨w, a1, a2.2⟩
      · rintro ⟨w, a1, a2⟩
        refine ⟨w, a1, ?_⟩
        unfold md_DA
        rw [decide_eq_true a1, decide_eq_true a2]
        rfl)
    subst eC
    have h30 := y1.2.1
    refine Or.inr ⟨by omega, cx_WS_sw (q' := (ps.length + 1, md_gr val W ps fo fd.toNat x.2)) hW0 w9 ⟨y3.1.trans z1.1, fun q k a b c _ => by rw [y3.2 q k a]; exact z1.2 q k b c a⟩ (cx_Rr_gi y1) y1.1.2.1 (md_okA_gr h30 h6) (by show ps.length + 1 ≤ 6; omega) s2, by rw [cx_120n s2, y3.2 82 5 (by omega), z1.2 82 5 (by decide) (by decide) (by omega)]⟩
end CE16
