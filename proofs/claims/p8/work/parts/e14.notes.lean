/-! THE CLASS'S WORKER: what works on the top of the stack -/
section CE14
variable {X X' X0 X1 : fx_X} {p p1 p2 : Int32} {u : Unit} {sr r r0 rr W n t t0 wd wd' k c : Nat} {tw : List Nat} {val : md_V} {A A' B : List md_Row} {tb tb' : List (List md_Row)} {sk sk' : List md_Q} {tr tr' pt : List (Nat → Bool)} {q x y : md_Q} {sd : md_Sd × md_Sd} {rel fo fd : Int} {rt rt' : Nat} {pk : Option (List Nat)} {o : Option Nat} {ps : List Nat}
/-- the stack's top is there -/
theorem cx_WS_top (hW : cx_WS X sr W n val tw (tb, q :: sk, tr, sd, rel, pt, rt, pk, fo, fd)) : sk.length < 20 ∧ (X.1 95 4).toInt = ((sk.length + 1 : Nat) : Int) ∧ md_okA n q.1 q.2 ∧ q.1 ≤ 6 ∧ ∃ r, X.2.2.1 101 sk.length = some r ∧ (r = 102 ∨ 150 ≤ r) ∧ (X.1 r 3).toInt = (q.1 : Int) ∧ cx_Rr X r W q.2 := by
  obtain ⟨⟨g1, g2, g3, g4⟩, hs, w3, -, -, -, ⟨w7, w8⟩, w9, -⟩ := hW
  have g3 : sk.length + 1 ≤ 20 := g3
  obtain ⟨⟨r, a1, a2, a3⟩, -⟩ := w8
  obtain ⟨b1, b2⟩ := g2 q (List.mem_cons_self ..)
  exact ⟨by omega, w7, b1, b2, r, a1, (w3.2.1 (101, sk.length) r (Or.inr (Or.inr (Or.inl ⟨rfl, by show sk.length < 20; omega⟩))) a1).1, a2, a3⟩
/-- the two on top are taken -/
theorem cx_WS_two {w21 w23 : Nat} {X19 X20 X22 : fx_X} (hW : cx_WS X sr W n val tw (tb, y :: x :: sk, tr, sd, rel, pt, rt, pk, fo, fd)) (e19 : X19 = fx_wI X 95 4 (X.1 95 4 - Int32.ofInt 1)) (r1 : gx_100 (X19.1 95 4 - Int32.ofInt 1) X19 w21 X20) (r2 : gx_100 (X20.1 95 4) X20 w23 X22) : X22 = X19 ∧ cx_WS X19 sr W n val tw (tb, x :: sk, tr, sd, rel, pt, rt, pk, fo, fd) ∧ X19.2.2.1 101 sk.length = some w21 ∧ (w21 = 102 ∨ 150 ≤ w21) ∧ (w23 = 102 ∨ 150 ≤ w23) ∧ (w21 + 4 ≤ w23 ∨ w23 + 4 ≤ w21) ∧ (X19.1 w21 3).toInt = (x.1 : Int) ∧ (X19.1 w23 3).toInt = (y.1 : Int) ∧ cx_Rr X19 w21 W x.2 ∧ cx_Rr X19 w23 W y.2 ∧ md_okA n x.1 x.2 ∧ md_okA n y.1 y.2 ∧ x.1 ≤ 6 ∧ y.1 ≤ 6 ∧ X19.2.2.1 101 (sk.length + 1) = some w23 ∧ sk.length + 1 < 20 := by
  have hD := cx_WS_dr hW e19
  obtain ⟨a1, a2, a3, a4, ry, a5, a6, a7, a8⟩ := cx_WS_top hW
  obtain ⟨b1, b2, b3, b4, rx, b5, b6, b7, b8⟩ := cx_WS_top hD
  have hO := hD.2.2.1
  have e2 : X19.2 = X.2 := by rw [e19]; rfl
  have ey : ∀ q k, (q = 102 ∨ q = 103 ∨ q = 104 ∨ q = 105 ∨ 150 ≤ q) → X19.1 q k = X.1 q k := fun q k z => by rw [e19, fx_rIn (by omega)]
  have hl : (x :: sk).length = sk.length + 1 := rfl
  rw [hl] at a1 a5
  have a5' : X19.2.2.1 101 (sk.length + 1) = some ry := by rw [e2]; exact a5
  obtain ⟨rfl, rfl⟩ := cx_100s (k := sk.length) (cx_dec b2 (by omega)) b1 b5 r1
  obtain ⟨rfl, rfl⟩ := cx_100s (k := sk.length + 1) b2 a1 a5' r2
  refine ⟨rfl, hD, b5, b6, a6, ?_, b7, by rw [ey _ _ (by omega)]; exact a7, b8, cx_Rr_e a8 (ey _ _ (by omega)) (fun k => ey _ _ (by omega)) (fun k => ey _ _ (by omega)) (fun k => ey _ _ (by omega)), b3, a3, b4, a4, a5', a1⟩
  rcases hO.2.2 (101, sk.length) (101, sk.length + 1) _ _ (Or.inr (Or.inr (Or.inl ⟨rfl, b1⟩))) (Or.inr (Or.inr (Or.inl ⟨rfl, a1⟩))) b5 a5' with z | z | z
  · have := (Prod.mk.inj z).2
    omega
  · exact Or.inl z
  · exact Or.inr z
/-- and -/
theorem cx_98e (hW : cx_WS X sr W n val tw (tb, y :: x :: sk, tr, sd, rel, pt, rt, pk, fo, fd)) (h1 : p1.toInt = 211) (hxy : x.1 = y.1) (g : gx_98 p1 p2 X u X') : (30 < x.2.length + y.2.length ∧ (X'.1 82 5).toInt ≠ 0) ∨ (¬ 30 < x.2.length + y.2.length ∧ cx_WS X' sr W n val tw (tb, (x.1, x.2 ++ y.2) :: sk, tr, sd, rel, pt, rt, pk, fo, fd) ∧ X'.1 82 5 = X.1 82 5) := by
  unfold gx_98 at g
  rw [if_neg (by omega), if_pos h1] at g
  obtain ⟨X19, e19, w21, X20, r1, w23, X22, r2, w25, X24, r3, rfl⟩ := g
  obtain ⟨rfl, hD, c1, c2, c3, c4, c5, c6, c7, c8, c9, c10, c11, c12⟩ := cx_WS_two hW e19 r1 r2
  have hD0 := hD
  obtain ⟨-, hs, -, w4, w5, -⟩ := hD
  rw [← hxy] at c6 c10
  rcases cx_106 hs c2 c4 w4.1 c9 c10 w5.1 w5.2.2.2.2.2.2 c6 c7 c8 r3 with ⟨z1, z2, -⟩ | ⟨z1, z2, z3, z4⟩
  · exact Or.inl ⟨z1, z2⟩
  · exact Or.inr ⟨z1, cx_WS_tp (q' := (x.1, x.2 ++ y.2)) hD0 c1 (cx_tf4_rf z3) z2 (by rw [z4]; exact c5) (md_okA_app c9 c10 (by omega)) c11, by rw [z3.2 82 5 (by omega), e19, fx_rIn (by decide)]⟩
/-- but not -/
theorem cx_98f (hW : cx_WS X sr W n val tw (tb, y :: x :: sk, tr, sd, rel, pt, rt, pk, fo, fd)) (h1 : p1.toInt = 212) (hxy : x.1 = y.1) (g : gx_98 p1 p2 X u X') : cx_WS X' sr W n val tw (tb, (x.1, md_mi val x.2 y.2) :: sk, tr, sd, rel, pt, rt, pk, fo, fd) ∧ X'.1 82 5 = X.1 82 5 := by
  unfold gx_98 at g
  rw [if_neg (by omega), if_neg (by omega), if_pos h1] at g
  obtain ⟨X19, e19, w21, X20, r1, w23, X22, r2, w25, X24, r3, rfl⟩ := g
  obtain ⟨rfl, hD, c1, c2, c3, c4, c5, c6, c7, c8, c9, c10, c11, c12⟩ := cx_WS_two hW e19 r1 r2
  have hD0 := hD
  obtain ⟨-, hs, -, w4, w5, -⟩ := hD
  rw [← hxy] at c6 c10
  obtain ⟨z2, z3, z4⟩ := cx_111 hs c2 c4 c9 c10 w4 w5.1 w5.2.2.2.2.2.2 c5 c6 c7 c8 r3
  refine ⟨?_, by rw [z3.2 82 5 (by omega), e19, fx_rIn (by decide)]⟩
  exact cx_WS_tp (q' := (x.1, md_mi val x.2 y.2)) hD0 c1 (cx_tf4_rf z3) z2 (by rw [z4]; exact c5) (md_okA_mi c9) c11
/-- where -/
theorem cx_98g (hW : cx_WS X sr W n val tw (tb, x :: sk, tr, sd, rel, pt, rt, pk, fo, fd)) (h1 : p1.toInt = 214) (hs1 : md_okb n x.1 sd.1 = true) (hs2 : md_okb n x.1 sd.2 = true) (g : gx_98 p1 p2 X u X') : cx_WS X' sr W n val tw (tb, (x.1, md_ts val sd rel x.2) :: sk, tr, sd, rel, pt, rt, pk, fo, fd) ∧ X'.1 82 5 = X.1 82 5 := by
  unfold gx_98 at g
  rw [if_neg (by omega), if_neg (by omega), if_neg (by omega), if_neg (by omega), if_pos h1] at g
  obtain ⟨w44, X43, r1, w46, X45, r2, rfl⟩ := g
  obtain ⟨b1, b2, b3, b4, rx, b5, b6, b7, b8⟩ := cx_WS_top hW
  obtain ⟨rfl, rfl⟩ := cx_100s (k := sk.length) (cx_dec b2 (by omega)) b1 b5 r1
  have hW0 := hW
  obtain ⟨-, hs, -, w4, w5, -⟩ := hW
  obtain ⟨z2, z3, z4⟩ := cx_121 hs b6 b3 (md_okb_s hs1) (md_okb_s hs2) w4 w5 b8 r2
  refine ⟨?_, z3.2 82 5 (by omega)⟩
  exact cx_WS_tp (q' := (x.1, md_ts val sd rel x.2)) hW0 b5 (cx_tf4_rf z3) z2 (by rw [z4]; exact b7) (md_okA_ts b3) b4
/-- the COLUMNS picked -/
theorem cx_98h (hW : cx_WS X sr W n val tw (tb, x :: sk, tr, sd, rel, pt, rt, some ps, fo, fd)) (h1 : p1.toInt = 217) (hlt : ∀ c, c ∈ ps → c < x.1) (g : gx_98 p1 p2 X u X') : cx_WS X' sr W n val tw (tb, (ps.length, md_pj ps x.2) :: sk, tr, sd, rel, pt, rt, some ps, fo, fd) ∧ X'.1 82 5 = X.1 82 5 := by
  unfold gx_98 at g
  rw [if_neg (by omega), if_neg (by omega), if_neg (by omega), if_neg (by omega), if_neg (by omega), if_neg (by omega), if_neg (by omega), if_pos h1] at g
  obtain ⟨w44, X43, r1, w46, X45, r2, rfl⟩ := g
  obtain ⟨b1, b2, b3, b4, rx, b5, b6, b7, b8⟩ := cx_WS_top hW
  obtain ⟨rfl, rfl⟩ := cx_100s (k := sk.length) (cx_dec b2 (by omega)) b1 b5 r1
  have hW0 := hW
  obtain ⟨-, hs, -, w4, w5, -, -, -, -, -, -, -, w14⟩ := hW
  obtain ⟨q1, q2, q3⟩ := w14.1 ps rfl
  obtain ⟨z2, z3, z4⟩ := cx_126 b6 q1 q2 q3 b3 hlt b8 r2
  refine ⟨?_, z4.2 82 5 (by omega) (by decide) (by decide)⟩
  exact cx_WS_tp (q' := (ps.length, md_pj ps x.2)) hW0 b5 (cx_tf4_jf z4) z2 z3 (md_okA_pj b3 hlt q2) q2
end CE14
