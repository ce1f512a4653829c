/-! THE REFERENCE: the values of an UNKNOWN -/
def md_scu (cs : md_CS) (x : Int64 × List Int32) : md_CS := (cs.1, some x, cs.2.2)
section DD13
variable {P : md_P} {X X' X0 X1 : fx_X} {K : List md_Sy} {c c' c0 : md_C} {nm : md_Nm} {cs : md_CS} {ws : md_WS} {j j' near l n i k : Nat} {vs : List Int32} {v p1 : Int32} {nn : Int64} {z f : Int32} {U : md_U} {s : Int}
theorem md_ck181 {T : md_T} : md_ck T (md_scu cs (nn, vs)) (181, near, l) = if md_it T near ∈ vs ∨ 64 ≤ vs.length then some none else md_k (md_scu cs (nn, vs ++ [md_it T near]), 0) := by
  obtain ⟨U, cu, TB, rw, sk, pk, fr⟩ := cs
  exact md_k181
theorem md_ck182 {T : md_T} : md_ck T (md_scu cs (nn, [f])) (182, near, l) = if f.toInt < -100000 ∨ 100000 < f.toInt then none else if (md_it T near).toInt < f.toInt ∨ f.toInt + 63 < (md_it T near).toInt then some none else md_k (md_scu cs (nn, (List.range ((md_it T near).toInt - f.toInt + 1).toNat).map (fun i => f + Int32.ofNat i)), 0) := by
  obtain ⟨U, cu, TB, rw, sk, pk, fr⟩ := cs
  exact md_k182
theorem rx_U_w120 (h : rx_U P X U) (hn : U.length ≤ n) : rx_U P (fx_wI X 120 (8 * rp_h P + n) z) U := by
  obtain ⟨h1, h2, h3, h4, h5⟩ := h
  refine ⟨by rw [fx_rIn (by decide)]; exact h1, by rw [fx_rIn (by decide)]; exact h2, h3, h4, fun u x hx => ?_⟩
  have hu := (List.getElem?_eq_some_iff.mp hx).1
  obtain ⟨q1, q2, q3, q4⟩ := h5 u x hx
  exact ⟨q1, by rw [fx_rIk (by omega)]; exact q2, q3, fun i v hv => by rw [fx_rIn (by decide)]; exact q4 i v hv⟩
theorem rx_U_w121 (h : rx_U P X U) (hn : U.length ≤ n) : rx_U P (fx_wI X 121 (64 * (8 * rp_h P + n) + i) z) U := by
  obtain ⟨h1, h2, h3, h4, h5⟩ := h
  refine ⟨by rw [fx_rIn (by decide)]; exact h1, by rw [fx_rIn (by decide)]; exact h2, h3, h4, fun u x hx => ?_⟩
  have hu := (List.getElem?_eq_some_iff.mp hx).1
  obtain ⟨q1, q2, q3, q4⟩ := h5 u x hx
  refine ⟨q1, by rw [fx_rIn (by decide)]; exact q2, q3, fun i' v hv => ?_⟩
  have hi := (List.getElem?_eq_some_iff.mp hv).1
  rw [fx_rIk (by omega)]
  exact q4 i' v hv
/-- one value more -/
theorem rx_L_add (h : rx_L P X n vs) (hl : vs.length < 64) (e1 : X1 = fx_wI X 121 (64 * (8 * rp_h P + n) + vs.length) z) (e2 : X' = fx_wI X1 120 (8 * rp_h P + n) (X1.1 120 (8 * rp_h P + n) + Int32.ofInt 1)) : rx_L P X' n (vs ++ [z]) := by
  obtain ⟨h1, h2, h3⟩ := h
  have e120 : X1.1 120 = X.1 120 := by rw [e1, fx_rIn (by decide)]
  refine ⟨?_, by rw [List.length_append]; show 1 ≤ vs.length + 1 ∧ vs.length + 1 ≤ 64; omega, fun i v hv => ?_⟩
  · rw [e2, fx_rIe, e120, cx_in1 h1 (by omega), List.length_append]
    rfl
  · rw [e2, fx_rIn (by decide), e1]
    by_cases hi : i < vs.length
    · rw [fx_rIk (by omega)]
      rw [List.getElem?_append_left hi] at hv
      exact h3 i v hv
    · have : i = vs.length := by
        have := (List.getElem?_eq_some_iff.mp hv).1
        rw [List.length_append] at this
        have : i < vs.length + 1 := this
        omega
      subst this
      rw [fx_rIe]
      rw [List.getElem?_append_right (Nat.le_refl _), Nat.sub_self] at hv
      exact Option.some.inj hv
theorem rx_i64 (hp : p1.toInt = (k : Int)) (hk : k ≤ 100) : (p1 * ((Int8.ofInt 64).toInt32)).toInt = ((64 * k : Nat) : Int) := by
  have e : ((Int8.ofInt 64).toInt32).toInt = 64 := rfl
  rw [fx_mul (by rw [hp, e]; omega) (by rw [hp, e]; omega), hp, e]
  omega
/-- only this UNKNOWN's values change -/
def rx_lf (h n : Nat) (X0 X : fx_X) : Prop := (∀ k, k ≠ 8 * h + n → X.1 120 k = X0.1 120 k) ∧ ∀ k, (k < 64 * (8 * h + n) ∨ 64 * (8 * h + n) + 64 ≤ k) → X.1 121 k = X0.1 121 k
def rx_l0 (P : md_P) (K : List md_Sy) (nm : md_Nm) (cs : md_CS) (ws : md_WS) (nn : Int64) (n : Nat) (c0 : md_C) (s : Int) (X0 X : fx_X) : Prop := ∃ j near l c vs, rx_G P X j c ∧ md_R P ((s, l) :: K) j near c nm (md_scu cs (nn, vs), ws) ∧ (s = 132 → (rp_T P).1 j ≠ 5) ∧ rx_U P X cs.1 ∧ rx_L P X n vs ∧ ((c 13).toInt = (vs.length : Int) ∧ vs.length ≤ 16) ∧ rx_lf (rp_h P) n X0 X ∧ ∀ k, k ≠ 13 → c k = c0 k
def rx_l1 (P : md_P) (K : List md_Sy) (nm : md_Nm) (cs : md_CS) (ws : md_WS) (nn : Int64) (n : Nat) (c0 : md_C) (i : Nat) (X0 X : fx_X) : Prop := ∃ j c vs z, rx_G P X j c ∧ rx_U P X cs.1 ∧ rx_L P X n vs ∧ ((c 13).toInt = ((vs.length + 1 : Nat) : Int) ∧ vs.length < 16) ∧ rx_lf (rp_h P) n X0 X ∧ (∀ k, k ≠ 13 → c k = c0 k) ∧ X.1 117 35 = z ∧ (i ≤ vs.length ∧ ∀ i', i' < i → vs[i']? ≠ some z) ∧ (z ∈ vs → md_F P) ∧ (z ∉ vs → ∃ l near, md_R P ((133, l) :: K) j near c nm (md_scu cs (nn, vs ++ [z]), ws))
def rx_lP (P : md_P) (K : List md_Sy) (nm : md_Nm) (cs : md_CS) (ws : md_WS) (nn : Int64) (n : Nat) (c0 : md_C) (v : Int32) (X0 X : fx_X) : Prop := rx_X P v X ∨ (v = Int32.ofInt 1 ∧ (rx_B P X ∨ ∃ j near c vs, rx_G P X j c ∧ md_R P K j near c nm (md_scu cs (nn, vs), ws) ∧ rx_U P X cs.1 ∧ rx_L P X n vs ∧ rx_lf (rp_h P) n X0 X ∧ ∀ k, k ≠ 13 → c k = c0 k))
theorem rx_lB {n1 l : Nat} {is : List Int32} {ls : List Int64} {rs : List Nat} (hB : rx_B P X) (g : gxF_223 p1 n1 l is ls rs X v X') : rx_lP P K nm cs ws nn n c0 v X0 X' := rx_BX (gbl_223 p1 n1 l is ls rs X v X' hB g) (gvl_223 p1 n1 l is ls rs X v X' g) Or.inl
theorem md_rule_131 {k : Int} (h : k = 45 ∨ k = 4) : md_rule 131 k = some (if k = 45 then [45, 181, 4] else [4, 181]) := by
  rcases h with h | h <;> (subst h; rfl)
theorem md_rule_131x {k : Int} (h1 : k ≠ 45) (h2 : k ≠ 4) : md_rule 131 k = none := by
  show (md_49 131 k).map _ = none
  unfold md_49
  rw [if_pos rfl, if_neg h1, if_neg h2]
  rfl
/-- from a comma on -/
theorem rx_223c {n1 : Nat} (hs : s = 132 ∨ s = 133) (hp : p1.toInt = ((8 * rp_h P + n : Nat) : Int)) (hn : cs.1.length = n) (hn8 : n < 8) (ih : ∀ (i : Nat) (y2 : Int32) (X : fx_X), y2.toInt = (i : Int) → rx_B P X ∨ rx_l1 P K nm cs ws nn n c0 i X0 X → gxF_223 p1 n1 67 [y2] [] [] X v X' → rx_lP P K nm cs ws nn n c0 v X0 X') (h : rx_l0 P K nm cs ws nn n c0 s X0 X) (g : gxT_223_0 p1 (gxF_223 p1 n1) X v X') : rx_lP P K nm cs ws nn n c0 v X0 X' := by
  obtain ⟨j, near, l, c, vs, hG, hR, hT5, hU, hL, hc13, hlf, hc0⟩ := h
  obtain ⟨w49, X48, r, g⟩ := g
  obtain ⟨e48, h49⟩ := rx_220 r
  subst e48
  have e44 : ((Int8.ofInt 44).toInt32).toInt = 44 := rfl
  rw [e44] at h49
  rcases fy_ifd g with ⟨c1, g1⟩ | ⟨c1, g1⟩
  · have hT44 : (rp_T P).1 j ≠ 44 := fun z => by
      rcases h49 with y | y
      · omega
      · exact y.2 ((rx_sg_i hG (by decide)).mpr z)
    rw [g1.2]
    refine Or.inr ⟨g1.1, Or.inr ⟨j, near, c, vs, hG, md_R_r (r := []) hR (by omega) (by omega) (by omega) ?_, hU, hL, hlf, hc0⟩⟩
    rcases hs with hs | hs
    · subst hs
      show (md_49 132 _).map _ = _
      unfold md_49
      rw [if_neg (by decide), if_pos rfl, if_neg (hT5 rfl), if_neg hT44]
      rfl
    · subst hs
      show (md_49 133 _).map _ = _
      unfold md_49
      rw [if_neg (by decide), if_neg (by decide), if_pos rfl, if_neg hT44]
      rfl
  · have hT44 : (rp_T P).1 j = 44 := by
      rcases h49 with y | y
      · exact (rx_sg_i hG (by decide)).mp y.2
      · omega
    have hR1 : md_R P ((44, j) :: (131, j) :: (133, j) :: K) j near c nm (md_scu cs (nn, vs), ws) := md_R_r (r := [44, 131, 133]) hR (by omega) (by omega) (by omega) (by rcases hs with hs | hs <;> (subst hs; rw [hT44]; rfl))
    obtain ⟨w52, X51, r1, g2⟩ := g1
    have h1 := rx_214 (Q := rx_U P X48 cs.1 ∧ rx_L P X48 n vs) (Or.inr ⟨hG, hR1, ⟨hT44, by decide, by decide⟩, hU, hL⟩) r1
    rcases rx_go h1 g2 with e | ⟨h1, -, g3⟩
    · exact Or.inl e
    have f1 := gf_214 r1
    -- a place more, or none
    have main : ∀ {X5 : fx_X} {w58 : Int32} {X57 : fx_X}, X5 = X51 → (rx_B P X51 ∨ vs.length < 16 ∨ ((rp_T P).1 (j + 1) ≠ 4 ∧ (rp_T P).1 (j + 1) ≠ 45)) → gx_221 X5 w58 X57 → (if w58.toInt = 0 then (v = (Int32.ofInt 0) ∧ X' = X57) else gxF_223 p1 n1 67 [(Int32.ofInt 0)] [] [] X57 v X') → rx_lP P K nm cs ws nn n c0 v X0 X' := by
      intro X5 w58 X57 e5 hpl r2 g4
      subst e5
      have h2 := rx_221 (Q := rx_G P X5 (j + 1) c ∧ md_R P ((131, j) :: (133, j) :: K) (j + 1) j c nm (md_scu cs (nn, vs), ws) ∧ rx_U P X48 cs.1 ∧ rx_L P X48 n vs) (h1.imp id (fun z => ⟨z.1, z⟩)) r2
      rcases h2 with ⟨hv, h2⟩ | ⟨hv, j2, h2⟩
      · rw [if_pos (by rw [hv]; rfl)] at g4
        rw [g4.2]
        left
        refine ⟨g4.1, ?_⟩
        rcases h2 with h2 | ⟨h24, hw0, hG1, hR2, -⟩
        · exact ⟨h2.1, h2.2.1⟩
        · refine ⟨?_, h24⟩
          by_cases hz : (rp_T P).1 (j + 1) = 45 ∨ (rp_T P).1 (j + 1) = 4
          · have hR3 := md_R_r hR2 (by decide) (by decide) (by decide) (md_rule_131 hz)
            refine (md_R_w0 hR3 (by decide) hw0 ?_)
            by_cases hm : md_it (rp_T P) (j + 1) ∈ vs ∨ 64 ≤ vs.length
            · exact Or.inl (md_ck181.trans (if_pos hm))
            · exact Or.inr ⟨_, _, ws, md_ck181.trans (if_neg hm), fun _ => md_wk_id (by decide)⟩
          · exact (md_R_rx hR2 (by decide) (by decide) (md_rule_131x (fun z => hz (Or.inl z)) (fun z => hz (Or.inr z))))
      · rw [if_neg (by rw [hv]; decide)] at g4
        refine ih 0 _ X57 rfl ?_ g4
        rcases h2 with h2 | ⟨hG2, ⟨hwh, h35⟩, hG1, hR2, hU2, hL2⟩
        · exact Or.inl h2
        · right
          have hz : (rp_T P).1 (j + 1) = 45 ∨ (rp_T P).1 (j + 1) = 4 := by unfold rx_wh at hwh; omega
          have h16 : vs.length < 16 := by
            rcases hpl with y | y | y
            · exact absurd hG1.2.2.2.2.2.1 y.2.1
            · exact y
            · omega
          have hR3 := md_R_r hR2 (by decide) (by decide) (by decide) (md_rule_131 hz)
          have e1' : (Int32.ofInt 1).toInt = 1 := rfl
          have e13 : (c 13 + Int32.ofInt 1).toInt = ((vs.length + 1 : Nat) : Int) := by rw [fx_add (by omega) (by omega), hc13.1, e1']; omega
          have hroom : md_room 181 ((rp_T P).2 (j + 1)) c nm = some (md_u c 13 (c 13 + Int32.ofInt 1), nm) := by
            have e : md_room 181 ((rp_T P).2 (j + 1)) c nm = md_lim 16 c 13 nm := rfl
            rw [e]
            unfold md_lim
            rw [if_neg (by omega)]
          rcases md_R_wh hR3 (by decide) hwh with ⟨q, -⟩ | ⟨c', nm', q1, q2, q3⟩
          · rw [hroom] at q; cases q
          · rw [hroom] at q1
            cases q1
            have f2 := gf_221 r2
            refine ⟨j2, md_u c 13 (c 13 + Int32.ofInt 1), vs, md_it (rp_T P) (j + 1), hG2, rx_U_fr (rx_U_fr hU2 f1 (by decide) (by decide)) f2 (by decide) (by decide), rx_L_fr (rx_L_fr hL2 (fy_ra f1 (by decide) (by decide)) (fy_ra f1 (by decide) (by decide))) (fy_ra f2 (by decide) (by decide)) (fy_ra f2 (by decide) (by decide)), ⟨e13, h16⟩, ?_, fun k hk => (if_neg hk).trans (hc0 k hk), h35, ⟨Nat.zero_le _, fun i' hi' => absurd hi' (Nat.not_lt_zero _)⟩, fun hm => q2 (md_ck181.trans (if_pos (Or.inl hm))), fun hm => ?_⟩
            · have g120 : X57.1 120 = X48.1 120 := (fy_ra f2 (by decide) (by decide)).trans (fy_ra f1 (by decide) (by decide))
              have g121 : X57.1 121 = X48.1 121 := (fy_ra f2 (by decide) (by decide)).trans (fy_ra f1 (by decide) (by decide))
              exact ⟨fun k hk => by rw [g120]; exact hlf.1 k hk, fun k hk => by rw [g121]; exact hlf.2 k hk⟩
            obtain ⟨w2, n2, z1, z2, z3⟩ := q3 _ _ ws (md_ck181.trans (if_neg (fun y => by rcases y with y | y; exact hm y; omega))) (fun _ => md_wk_id (by decide))
            have : w2 = ws := by
              cases hb : rp_b P with
              | true => exact z2 hb
              | false => exact z3 hb
            rw [this] at z1
            exact ⟨j, n2, z1⟩
    have h120 : rx_B P X51 ∨ (X51.1 120 p1.toInt.toNat).toInt = (vs.length : Int) := h1.imp id (fun _ => by
      rw [fx_in hp, fy_ra f1 (by decide) (by decide)]
      exact hL.1)
    -- the seventeenth
    have full : ∀ {w17 : Int32} {X16 : fx_X}, (X51.1 120 p1.toInt.toNat).toInt = 16 → (rx_B P X51 ∨ (rp_T P).1 (j + 1) = 45 ∨ (rp_T P).1 (j + 1) = 4) → gx_215 (Int32.ofInt 2) (X51.1 117 27) X51 w17 X16 → v = w17 → X' = X16 → rx_lP P K nm cs ws nn n c0 v X0 X' := by
      intro w17 X16 h16 hz r2 e1 e2
      subst e1
      subst e2
      left
      rcases h1 with h1 | ⟨hG1, hR2, -⟩
      · exact rx_215 h1.1 (by decide) r2
      · have hnB : ¬ rx_B P X51 := fun y => absurd hG1.2.2.2.2.2.1 y.2.1
        have hl : vs.length = 16 := by
          rcases h120 with y | y
          · exact absurd y hnB
          · omega
        have hz' : (rp_T P).1 (j + 1) = 45 ∨ (rp_T P).1 (j + 1) = 4 := by
          rcases hz with y | y
          · exact absurd y hnB
          · exact y
        have hR3 := md_R_r hR2 (by decide) (by decide) (by decide) (md_rule_131 hz')
        have e1' : (Int32.ofInt 1).toInt = 1 := rfl
        have hroom : ∀ w, md_room 181 w c nm = none := fun w => by
          have e : md_room 181 w c nm = md_lim 16 c 13 nm := rfl
          rw [e]
          unfold md_lim
          rw [if_pos (by rw [fx_add (by omega) (by omega), hc13.1, e1']; omega)]
        refine rx_215 (P := P) ?_ (by decide) r2
        have fin : ∀ {a : List Int} {s : Int}, s < 130 → s ≠ 1 → (rp_T P).1 (j + 1) = s → md_R P ((s, j + 1) :: (181, j + 1) :: (a.map (fun a => (a, j + 1)) ++ ((133, j) :: K))) (j + 1) j c nm (md_scu cs (nn, vs), ws) → md_F P := by
          intro a s hs1 hs2 hTs hR4
          by_cases hj : j + 1 < 1000
          · rcases md_R_e (md_R_t hR4 hs1 hTs (Or.inl hj)) (by decide) with y | ⟨c', nm', y1, -⟩
            · exact y.2
            · rw [hroom] at y1; cases y1
          · exact md_R_tx hR4 hs1 (Or.inr ⟨by omega, hs2⟩)
        by_cases h45 : (rp_T P).1 (j + 1) = 45
        · rw [if_pos h45] at hR3
          exact (fin (a := [4]) (by decide) (by decide) h45 hR3)
        · rw [if_neg h45] at hR3
          exact (fin (a := []) (by decide) (by decide) (by omega) hR3)
    have e45 : ((Int8.ofInt 45).toInt32).toInt = 45 := rfl
    rcases fy_ifd g3 with ⟨c2, g4⟩ | ⟨c2, g4⟩
    · rcases fy_ifd g4 with ⟨c3, g5⟩ | ⟨c3, g5⟩
      · obtain ⟨w63, X62, r2, e1, e2⟩ := g5
        exact full c2 (h1.imp id (fun z => Or.inr ((rx_k z.1).2.2.1.mp c3))) r2 e1 e2
      · obtain ⟨w65, X64, r2, g6⟩ := g5
        obtain ⟨e64, h65⟩ := rx_220 r2
        rw [e45] at h65
        rcases fy_ifd g6 with ⟨c4, g7⟩ | ⟨c4, g7⟩
        · obtain ⟨w68, X67, r3, g8⟩ := g7
          refine main e64 ?_ r3 g8
          rcases h1 with h1 | h1
          · exact Or.inl h1
          · refine Or.inr (Or.inr ⟨fun z => c3 ((rx_k h1.1).2.2.1.mpr z), fun z => ?_⟩)
            rcases h65 with y | y
            · omega
            · exact y.2 ((rx_sg_i h1.1 (by decide)).mpr z)
        · obtain ⟨w72, X71, r3, e1, e2⟩ := g7
          rw [e64] at r3
          refine full c2 (h1.imp id (fun z => Or.inl ?_)) r3 e1 e2
          rcases h65 with y | y
          · exact (rx_sg_i z.1 (by decide)).mp y.2
          · omega
    · obtain ⟨w58, X57, r2, g5⟩ := g4
      refine main rfl ?_ r2 g5
      rcases h120 with y | y
      · exact Or.inl y
      · exact Or.inr (Or.inl (by have := hc13.2; omega))
theorem rx_223l (hp : p1.toInt = ((8 * rp_h P + n : Nat) : Int)) (hn : cs.1.length = n) (hn8 : n < 8) : ∀ n1 : Nat, (∀ (X : fx_X), rx_B P X ∨ rx_l0 P K nm cs ws nn n c0 133 X0 X → gxF_223 p1 n1 0 [] [] [] X v X' → rx_lP P K nm cs ws nn n c0 v X0 X') ∧ (∀ (i : Nat) (y2 : Int32) (X : fx_X), y2.toInt = (i : Int) → rx_B P X ∨ rx_l1 P K nm cs ws nn n c0 i X0 X → gxF_223 p1 n1 67 [y2] [] [] X v X' → rx_lP P K nm cs ws nn n c0 v X0 X') := by
  intro n1
  induction n1 with
  | zero => exact ⟨fun _ _ g => g.elim, fun _ _ _ _ _ g => g.elim⟩
  | succ n1 ih =>
    obtain ⟨ih0, ih67⟩ := ih
    refine ⟨fun X h g => ?_, fun i y2 X hy h g => ?_⟩
    · rcases h with h | h
      · exact rx_lB h g
      · exact rx_223c (Or.inr rfl) hp hn hn8 ih67 h (gxO_223_0 g)
    · rcases h with h | h
      · exact rx_lB h g
      obtain ⟨j, c, vs, z, hG, hU, hL, hc13, hlf, hc0, h35, ⟨hi1, hi2⟩, hF, hS⟩ := h
      replace g := gxO_223_67 g
      unfold gxT_223_67 at g
      have hh := hG.2.2.2.1.2
      rw [fx_in hp] at g
      replace g := g.2
      rcases fy_ifd g with ⟨c1, g1⟩ | ⟨c1, g1⟩
      · have hi : i < vs.length := by have := hL.1; omega
        obtain ⟨y, hy2⟩ : ∃ y, vs[i]? = some y := ⟨_, List.getElem?_eq_getElem hi⟩
        have ha : (p1 * ((Int8.ofInt 64).toInt32) + y2).toInt = ((64 * (8 * rp_h P + n) + i : Nat) : Int) := by
          have := rx_lin (m := 64) (z := (Int8.ofInt 64).toInt32) hp rfl hy (by omega)
          rw [this]; omega
        rw [fx_in ha, hL.2.2 i y hy2, h35] at g1
        replace g1 := g1.2
        rcases fy_ifd g1 with ⟨c2, g2⟩ | ⟨c2, g2⟩
        · obtain ⟨w45, X44, r, x46, e46, g3⟩ := g2
          have hz : z ∈ vs := List.mem_of_getElem? (by rw [hy2, fx_inj c2])
          have hB := rx_tell (j := j) (c := c) (Or.inr ⟨hG, hF hz⟩) (by decide) r
          exact rx_lB hB g3
        · obtain ⟨x42, e42, g3⟩ := g2
          refine ih67 (i + 1) x42 X (by rw [e42]; exact cx_in1 hy (by omega)) (Or.inr ⟨j, c, vs, z, hG, hU, hL, hc13, hlf, hc0, h35, ⟨hi, fun i' hi' => ?_⟩, hF, hS⟩) g3
          by_cases e : i' = i
          · subst e
            rw [hy2]
            intro q
            cases q
            exact c2 rfl
          · exact hi2 i' (by omega)
      · have hi : i = vs.length := by have := hL.1; omega
        have hz : z ∉ vs := fun hm => by
          obtain ⟨i', hi'⟩ := List.getElem?_of_mem hm
          have := (List.getElem?_eq_some_iff.mp hi').1
          exact hi2 i' (by omega) hi'
        obtain ⟨-, -, X34, e34, -, -, X38, e38, g2⟩ := g1
        have ha : (p1 * ((Int8.ofInt 64).toInt32) + X.1 120 (8 * rp_h P + n)).toInt = ((64 * (8 * rp_h P + n) + vs.length : Nat) : Int) := by
          have := rx_lin (m := 64) (z := (Int8.ofInt 64).toInt32) hp rfl hL.1 (by omega)
          rw [this]; omega
        rw [fx_in ha, h35] at e34
        obtain ⟨l, near, hR⟩ := hS hz
        have f : fy [] [] [120, 121] X X38 := by rw [e38, e34]; exact fy_a (fy_a fy_rf (by decide)) (by decide)
        refine ih0 X38 (Or.inr ⟨j, near, l, c, vs ++ [z], rx_G_fr hG f (by decide) (by decide), hR, fun q => absurd q (by decide), ?_, rx_L_add hL (by omega) e34 e38, ⟨?_, ?_⟩, ⟨fun k hk => ?_, fun k hk => ?_⟩, hc0⟩) g2
        · rw [e38, e34]
          exact rx_U_w120 (rx_U_w121 hU (by omega)) (by omega)
        · rw [List.length_append]; exact hc13.1
        · rw [List.length_append]; show vs.length + 1 ≤ 16; omega
        · rw [e38, fx_rIk hk, e34, fx_rIn (by decide)]; exact hlf.1 k hk
        · rw [e38, fx_rIn (by decide), e34, fx_rIk (by omega)]; exact hlf.2 k hk
/-- a list of values -/
theorem rx_223 (hp : rx_B P X ∨ (p1.toInt = ((8 * rp_h P + n : Nat) : Int) ∧ cs.1.length = n ∧ n < 8)) (h : rx_B P X ∨ rx_l0 P K nm cs ws nn n c0 132 X0 X) (g : gx_223 p1 X v X') : rx_lP P K nm cs ws nn n c0 v X0 X' := by
  rcases hp with hB | hp
  · exact rx_BX (gb_223 hB g) (gv_223 g) Or.inl
  rcases h with hB | h
  · exact rx_BX (gb_223 hB g) (gv_223 g) Or.inl
  obtain ⟨n1, g⟩ := g
  exact rx_223c (Or.inl rfl) hp.1 hp.2.1 hp.2.2 (rx_223l hp.1 hp.2.1 hp.2.2 n1).2 h g
end DD13
