/-! THE REFERENCE: a ROW is told, from its word on -/
section DD26
variable {P : md_P} {X X' X0 X1 X2 X6 : fx_X} {K : List md_Sy} {c c1 c0 : md_C} {nm nm' : md_Nm} {cs : md_CS} {ws w2 : md_WS} {j near l l2 n n1 t R k : Nat} {v y1 y2 y3 y4 y5 y6 y7 p1 p2 p3 : Int32} {nn : Int64} {l8 : List Int64} {ts : List md_Tm} {f x : Nat → Bool}
theorem tk_214 (g : gx_214 X v X') (hv : v.toInt ≠ 0) : X'.1 117 30 = X.1 117 30 + Int32.ofInt 1 := by
  unfold gx_214 at g
  rcases fy_ifd g with ⟨c1, g⟩ | ⟨c1, g⟩
  · obtain ⟨w7, X6, ⟨X2, rfl, X3, rfl, X4, rfl, rfl, rfl⟩, rfl, rfl⟩ := g
    exact absurd rfl hv
  · obtain ⟨X3, rfl, w5, X4, r, rfl, rfl⟩ := g
    rw [(gf_206 r).2.2 117 30 (by decide) (by decide), fx_rIe]
/-- tokens are taken -/
theorem tk_221 {a : Nat} (ha : (X.1 117 30).toInt = (a : Int)) (ha2 : a ≤ 1000000) (g : gx_221 X v X') (hv : v.toInt ≠ 0) : ∃ b : Nat, (X'.1 117 30).toInt = (b : Int) ∧ a < b := by
  obtain ⟨n, X2, e2, w5, X4, r, g⟩ := g
  obtain ⟨e4, -⟩ := rx_220 r
  subst e4
  have h30 : X4.1 117 30 = X.1 117 30 := by rw [e2, fx_rIk (by decide)]
  have fin : ∀ {Y : fx_X} {y1 : Int32} {b : Nat}, (Y.1 117 30).toInt = (b : Int) → a ≤ b → b ≤ 1000001 → (∃ x9 : Int32, x9 = (Y.1 117 27) ∧ gxF_221 n 55 [y1, (Int32.ofInt 0), x9] [] [] Y v X') → ∃ b : Nat, (X'.1 117 30).toInt = (b : Int) ∧ a < b := by
    intro Y y1 b hb hab hb2 ⟨x9, e9, g1⟩
    obtain ⟨y, g2, -⟩ := rx_221l n _ _ _ g1
    have := tk_214 g2 hv
    rw [fx_rIk (by decide)] at this
    refine ⟨b + 1, ?_, by omega⟩
    have e1 : (Int32.ofInt 1).toInt = 1 := rfl
    rw [this, fx_add (by omega) (by omega), hb, e1]
    rfl
  have no : ∀ {Y : fx_X} {w12 : Int32} {X11 : fx_X}, gx_215 (Int32.ofInt 1) (Y.1 117 27) Y w12 X11 → v = w12 → False := by
    intro Y w12 X11 r1 e1
    obtain ⟨X2, rfl, X3, rfl, X4, rfl, rfl, rfl⟩ := r1
    rw [e1] at hv
    exact hv rfl
  rcases fy_ifd g with ⟨c1, g1⟩ | ⟨c1, g1⟩
  · rcases fy_ifd g1 with ⟨c2, g2⟩ | ⟨c2, g2⟩
    · exact fin (by rw [h30]; exact ha) (Nat.le_refl _) (by omega) g2
    · obtain ⟨w12, X11, r1, e1, -⟩ := g2
      exact (no r1 e1).elim
  · obtain ⟨w15, X14, r1, g2⟩ := g1
    rcases fy_ifd g2 with ⟨c2, g3⟩ | ⟨c2, g3⟩
    · rw [g3.1] at hv
      exact absurd rfl hv
    · have h14 := tk_214 r1 c2
      have e1 : (Int32.ofInt 1).toInt = 1 := rfl
      have h14' : (X14.1 117 30).toInt = ((a + 1 : Nat) : Int) := by
        rw [h14, h30, fx_add (by omega) (by omega), ha, e1]
        rfl
      rcases fy_ifd g3 with ⟨c3, g4⟩ | ⟨c3, g4⟩
      · exact fin h14' (by omega) (by omega) g4
      · obtain ⟨w12, X11, r2, e2, -⟩ := g4
        exact (no r2 e2).elim
theorem tk_235 {a : Nat} (ha : (X.1 117 30).toInt = (a : Int)) (ha2 : a ≤ 100000) (g : gx_235 X v X') (hv : v.toInt ≠ 0) : ∃ b : Nat, (X'.1 117 30).toInt = (b : Int) ∧ a < b := by
  obtain ⟨w3, X2, r, g⟩ := g
  obtain ⟨e2, -⟩ := rx_220 r
  subst e2
  rcases fy_ifd g with ⟨c1, g⟩ | ⟨c1, g⟩
  · obtain ⟨X18, e18, w20, X19, r1, g1⟩ := g
    rcases fy_ifd g1 with ⟨c2, g2⟩ | ⟨c2, g2⟩
    · rw [g2.1] at hv
      exact absurd rfl hv
    · obtain ⟨b, h1, h2⟩ := tk_221 (a := a) (by rw [e18, fx_rIk (by decide)]; exact ha) (by omega) r1 c2
      obtain ⟨X22, e22, -, e3⟩ := g2
      exact ⟨b, by rw [e3, e22, fx_rIk (by decide)]; exact h1, h2⟩
  · obtain ⟨w6, X5, r1, g1⟩ := g
    rcases fy_ifd g1 with ⟨c2, g2⟩ | ⟨c2, g2⟩
    · rw [g2.1] at hv
      exact absurd rfl hv
    · have h5 := tk_214 r1 c2
      have e1 : (Int32.ofInt 1).toInt = 1 := rfl
      have h5' : (X5.1 117 30).toInt = ((a + 1 : Nat) : Int) := by
        rw [h5, fx_add (by omega) (by omega), ha, e1]
        rfl
      obtain ⟨w9, X8, r2, g3⟩ := g2
      rcases fy_ifd g3 with ⟨c3, g4⟩ | ⟨c3, g4⟩
      · rw [g4.1] at hv
        exact absurd rfl hv
      · have h8 : (X8.1 117 30).toInt = ((a + 2 : Nat) : Int) := by
          unfold gx_216 at r2
          rcases fy_ifd r2 with ⟨c4, r3⟩ | ⟨c4, r3⟩
          · obtain ⟨w4, X3, r4, X7, e7, X6, e6, w8, X9, r5, e8, e9⟩ := r3
            have e3 : X3 = X5 := fy_e (gf_210 r4)
            rw [e8] at c3
            have := tk_214 r5 c3
            rw [e9, this, e6, fx_rIk (by decide), e7]
            show (X3.1 117 30 + Int32.ofInt 1).toInt = _
            rw [e3, fx_add (by omega) (by omega), h5', e1]
            rfl
          · obtain ⟨w10, X9, r4, e8, e9⟩ := r3
            obtain ⟨X2, rfl, X3, rfl, X4, rfl, rfl, rfl⟩ := r4
            rw [e8] at c3
            exact absurd rfl c3
        obtain ⟨X11, e11, w13, X12, r3, X14, e14, g5⟩ := g4
        have h14 : (X14.1 117 30).toInt = ((a + 2 : Nat) : Int) := by
          rw [e14, fx_rIk (by decide), fy_e (gf_217 r3), e11, fx_rIk (by decide)]
          exact h8
        rcases fy_ifd g5 with ⟨c4, g6⟩ | ⟨c4, g6⟩
        · obtain ⟨w17, X16, r4, -, e3⟩ := g6
          exact ⟨a + 2, by rw [e3, (gf_218 r4).2.2 117 30 (by decide) (by decide)]; exact h14, by omega⟩
        · exact ⟨a + 2, by rw [g6.2]; exact h14, by omega⟩
/-- behind a TERM, and ahead of one -/
def rx_r6 (P : md_P) (K : List md_Sy) (X0 : fx_X) (t R : Nat) (cs : md_CS) (ws : md_WS) (nm nm' : md_Nm) (c : md_C) (l8 : List Int64) (K1 : List Int) (n : Nat) (X : fx_X) : Prop := ∃ j near l3 l4 l5 l6 c1 w2 ts, rx_G P X j c1 ∧ md_Rs P K1 ((41, l3) :: (137, l4) :: (59, l5) :: (130, l6) :: K) j near c1 nm' ((cs.1, cs.2.1, cs.2.2.1, ((l8.length : Int), (n : Int)), cs.2.2.2.2), w2) ∧ rx_mr P X0 X t R cs ws nm w2 ts (fun _ => true) [] ∧ rx_rc c c1 cs ∧ (rp_b P = true → ts.length = n) ∧ n ≤ j
theorem rx_234l (hh : rp_h P ≤ 1) (hx : cs.2.2.1[t]? = some (nn, false, l8)) (hnm : nm[t]? = some (nn, p1)) (hR : p1.toInt = (R : Int)) (hR30 : R < 30) (hy1 : y1.toInt = (t : Int)) (hy2 : y2.toInt = ((10 * rp_h P + t : Nat) : Int)) (hsk : cs.2.2.2.2.1 = []) (hw : rp_b P = true → md_tr ws = [] ∧ ws.2.1 = [] ∧ ((md_ptw ws).length : Int) = (c 11).toInt) : ∀ n1 : Nat, (∀ (n : Nat) (y4 y5 : Int32) (X : fx_X), (rx_B P X ∨ (y4.toInt = (n : Int) ∧ (y5.toInt = 0 ∧ rx_r6 P K X0 t R cs ws nm (nm.set t (nn, p1 + Int32.ofInt 1)) c l8 [] n X ∨ y5.toInt ≠ 0 ∧ rx_r6 P K X0 t R cs ws nm (nm.set t (nn, p1 + Int32.ofInt 1)) c l8 [144, 187, 136] n X))) → gxF_234 n1 145 [y1, y2, y3, y4, y5] [] [] X v X' → rx_PO P K X0 v X') ∧ (∀ (n : Nat) (y4 : Int32) (X : fx_X), (rx_B P X ∨ (y4.toInt = (n : Int) ∧ rx_r6 P K X0 t R cs ws nm (nm.set t (nn, p1 + Int32.ofInt 1)) c l8 [136] (n + 1) X)) → gxF_234 n1 245 [y1, y2, y3, y4] [] [] X v X' → rx_PO P K X0 v X') := by
  intro n1
  induction n1 with
  | zero => exact ⟨fun _ _ _ _ _ g => g.elim, fun _ _ _ _ g => g.elim⟩
  | succ n1 ih =>
    obtain ⟨ih145, ih245⟩ := ih
    refine ⟨fun n y4 y5 X h g => ?_, fun n y4 X h g => ?_⟩
    · rcases h with hB | ⟨hy4, h⟩
      · exact rx_PO_B (gbl_234 _ _ _ _ _ X v X' hB g) (gvl_234 _ _ _ _ _ X v X' g)
      replace g := gxO_234_145 g
      unfold gxT_234_145 at g
      rcases h with ⟨h0, h⟩ | ⟨h0, h⟩
      · obtain ⟨j, near, l3, l4, l5, l6, c1, w2, ts, hG, hR1, hmr, hrc, hts, hnj⟩ := h
        have hR1 := md_Rs_0 hR1
        rw [if_pos h0] at g
        obtain ⟨w46, X45, r1, g1⟩ := g
        have e41 : ((Int8.ofInt 41).toInt32).toInt = 41 := rfl
        have h2 := rx_219 (s := 41) (Q := True) (Or.inr ⟨hG, hR1, True.intro⟩) (by decide) e41 r1
        rcases rx_go h2 g1 with e | ⟨h2, g2⟩
        · exact rx_PO_x e
        have f1 := gf_219 r1
        have hmr1 := rx_mr_fr hmr f1 (by decide) (by decide) (by decide)
        rw [if_neg (by omega)] at g2
        replace g2 := g2.2
        have ht := (List.getElem?_eq_some_iff.mp hx).1
        have ht10 := hmr.1.2.2.1.2.1
        obtain ⟨-, q2, q3⟩ := hmr1.1.2.2.1.2.2.1 t _ hx
        have q2' : (X45.1 126 (10 * rp_h P + t)).toInt = 0 := q2
        rw [fx_in hy2, if_pos q2'] at g2
        replace g2 := g2.2
        rcases h2 with hB | ⟨hG2, hR2, -⟩
        · rcases fy_ifd g2 with ⟨c3, g3⟩ | ⟨c3, g3⟩
          · exact rx_PO_B (gbl_234 _ _ _ _ _ _ v X' hB g3) (gvl_234 _ _ _ _ _ _ v X' g3)
          · obtain ⟨w56, X55, r2, g4⟩ := g3
            have hB2 := rx_B_218 hB (by decide) r2
            exact rx_PO_B (gbl_234 _ _ _ _ _ _ v X' hB2 g4) (gvl_234 _ _ _ _ _ _ v X' g4)
        · have q3' := q3.1
          have q3' : (X45.1 132 (10 * rp_h P + t)).toInt = (l8.length : Int) := q3'
          rcases fy_ifd g2 with ⟨c3, g3⟩ | ⟨c3, g3⟩
          · have hn : n = l8.length := by omega
            subst hn
            exact rx_234i hh hx hnm hR hR30 (Or.inr ⟨hy1, hy2⟩) hsk hw (Or.inr ⟨j + 1, j, l4, l5, l6, c1, w2, ts, hG2, hR2, hmr1, hrc, hts⟩) g3
          · obtain ⟨w56, X55, r2, g4⟩ := g3
            have hRe := md_R_137 hR2 md_rule_137
            have hF := md_Re_f hRe (md_ck137.trans (if_neg (by show ¬ (l8.length : Int) = (n : Int); omega)))
            have hB2 := rx_tell (Or.inr ⟨hG2, hF⟩) (by decide) r2
            exact rx_PO_B (gbl_234 _ _ _ _ _ _ v X' hB2 g4) (gvl_234 _ _ _ _ _ _ v X' g4)
      · obtain ⟨j, near, l3, l4, l5, l6, c1, w2, ts, hG, hR1, hmr, hrc, hts, hnj⟩ := h
        rw [if_neg h0] at g
        obtain ⟨l1, K1, hK1, hR2⟩ := md_Rs_c hR1
        obtain ⟨l2, K2, rfl, hK2⟩ : ∃ l2 K2, K1 = (187, l2) :: K2 ∧ K2.map (·.1) = [136] := by
          cases K1 with
          | nil => cases hK1
          | cons y K2 =>
            obtain ⟨s, l⟩ := y
            rw [List.map_cons] at hK1
            injection hK1 with a1 a2
            exact ⟨l, K2, by rw [← a1], a2⟩
        obtain ⟨l7, rfl⟩ : ∃ l7, K2 = [(136, l7)] := by
          cases K2 with
          | nil => cases hK2
          | cons y K3 =>
            obtain ⟨s, l⟩ := y
            rw [List.map_cons] at hK2
            injection hK2 with a1 a2
            rw [List.map_eq_nil_iff] at a2
            exact ⟨l, by rw [a2, ← a1]⟩
        have hR2 : md_R P ((144, l1) :: (187, l2) :: (136, l7) :: (41, l3) :: (137, l4) :: (59, l5) :: (130, l6) :: K) j near c1 (nm.set t (nn, p1 + Int32.ofInt 1)) ((cs.1, cs.2.1, cs.2.2.1, ((l8.length : Int), (n : Int)), cs.2.2.2.2), w2) := hR2
        have term : ∀ {w59 : Int32} {X58 : fx_X}, gx_235 X w59 X58 → (rx_X P w59 X58 ∨ (w59 = Int32.ofInt 1 ∧ (rx_B P X58 ∨ ∃ j near l1 l2 l3 l4 l5 l6 c1 w2 w3 ts x, rx_G P X58 j c1 ∧ md_R P ((187, l1) :: (136, l2) :: (41, l3) :: (137, l4) :: (59, l5) :: (130, l6) :: K) j near c1 (nm.set t (nn, p1 + Int32.ofInt 1)) ((cs.1, cs.2.1, cs.2.2.1, ((l8.length : Int), (n : Int)), cs.2.2.2.2), w3) ∧ rx_td X58 cs.1.length x ∧ (rp_b P = true → w3 = md_sft w2 x) ∧ rx_mr P X0 X58 t R cs ws nm w2 ts (fun _ => true) [] ∧ rx_rc c c1 cs ∧ (rp_b P = true → ts.length = n) ∧ n + 1 ≤ j))) := by
          intro w59 X58 r
          have h2 := rx_235 (cs := (cs.1, cs.2.1, cs.2.2.1, ((l8.length : Int), (n : Int)), cs.2.2.2.2)) (Q := True) (Or.inr ⟨hG, hR2, hmr.1.1, True.intro⟩) r
          rcases h2 with e | ⟨hv, j', n2, w3, x, h2⟩
          · exact Or.inl e
          · refine Or.inr ⟨hv, h2.imp id (fun z => ?_)⟩
            refine ⟨j', n2, l2, l7, l3, l4, l5, l6, c1, w2, w3, ts, x, z.1, z.2.1, z.2.2.1, z.2.2.2.1, rx_mr_fr hmr (gf_235 r) (by decide) (by decide) (by decide), hrc, hts, ?_⟩
            have hj1 := hG.2.2.2.2.2.2.2.2.1
            have hj2 := z.1.2.2.2.2.2.2.2.2.1
            obtain ⟨b, q1, q2⟩ := tk_235 (a := j + 1) (by rw [hj1.1]; rfl) (by omega) r (by rw [hv]; decide)
            omega
        have nostart : (rp_T P).1 j ≠ 4 → (rp_T P).1 j ≠ 45 → (rp_T P).1 j ≠ 63 → md_F P := fun a1 a2 a3 => by
          rcases md_R_144 hR2 a3 with y | y
          · omega
          · exact y.2.2
        have e45 : ((Int8.ofInt 45).toInt32).toInt = 45 := rfl
        have e63 : ((Int8.ofInt 63).toInt32).toInt = 63 := rfl
        rcases fy_ifd g with ⟨c3, g1⟩ | ⟨c3, g1⟩
        · obtain ⟨w59, X58, r, g2⟩ := g1
          rcases rx_go (term r) g2 with e | ⟨h3, g3⟩
          · exact rx_PO_x e
          obtain ⟨X5, h4, g4⟩ := rx_234t (n := n) hh hx hR30 (Or.inr ⟨hy1, hy2, hy4⟩) h3 g3
          refine ih245 n y4 X5 (h4.imp id (fun z => ⟨hy4, ?_⟩)) g4
          obtain ⟨j', near', a2, a3, a4, a5, a6, c2, w4, ts', b1, b2, b3, b4, b5, b6⟩ := z
          exact ⟨j', near', a3, a4, a5, a6, c2, w4, ts', b1, md_Rs_i (K1 := [(136, a2)]) b2, b3, b4, b5, b6⟩
        · obtain ⟨w77, X76, r, g2⟩ := g1
          obtain ⟨e76, h77⟩ := rx_220 r
          subst e76
          rw [e45] at h77
          rcases fy_ifd g2 with ⟨c4, g3⟩ | ⟨c4, g3⟩
          · obtain ⟨w98, X97, r', g4⟩ := g3
            obtain ⟨e97, h98⟩ := rx_220 r'
            subst e97
            rw [e63] at h98
            rcases fy_ifd g4 with ⟨c5, g5⟩ | ⟨c5, g5⟩
            · obtain ⟨w119, X118, r'', e1, e2⟩ := g5
              subst e1
              subst e2
              refine rx_PO_x (rx_215 (nostart (fun z => c3 ((rx_k hG).2.2.1.mpr z)) (fun z => ?_) (fun z => ?_)) (by decide) r'')
              · rcases h77 with y | y
                · omega
                · exact y.2 ((rx_sg_i hG (by decide)).mpr z)
              · rcases h98 with y | y
                · omega
                · exact y.2 ((rx_sg_i hG (by decide)).mpr z)
            · obtain ⟨w59, X58, r, g2⟩ := g5
              rcases rx_go (term r) g2 with e | ⟨h3, g3⟩
              · exact rx_PO_x e
              obtain ⟨X5, h4, g4⟩ := rx_234t (n := n) hh hx hR30 (Or.inr ⟨hy1, hy2, hy4⟩) h3 g3
              refine ih245 n y4 X5 (h4.imp id (fun z => ⟨hy4, ?_⟩)) g4
              obtain ⟨j', near', a2, a3, a4, a5, a6, c2, w4, ts', b1, b2, b3, b4, b5, b6⟩ := z
              exact ⟨j', near', a3, a4, a5, a6, c2, w4, ts', b1, md_Rs_i (K1 := [(136, a2)]) b2, b3, b4, b5, b6⟩
          · obtain ⟨w59, X58, r, g2⟩ := g3
            rcases rx_go (term r) g2 with e | ⟨h3, g3⟩
            · exact rx_PO_x e
            obtain ⟨X5, h4, g4⟩ := rx_234t (n := n) hh hx hR30 (Or.inr ⟨hy1, hy2, hy4⟩) h3 g3
            refine ih245 n y4 X5 (h4.imp id (fun z => ⟨hy4, ?_⟩)) g4
            obtain ⟨j', near', a2, a3, a4, a5, a6, c2, w4, ts', b1, b2, b3, b4, b5, b6⟩ := z
            exact ⟨j', near', a3, a4, a5, a6, c2, w4, ts', b1, md_Rs_i (K1 := [(136, a2)]) b2, b3, b4, b5, b6⟩
    · rcases h with hB | ⟨hy4, h⟩
      · exact rx_PO_B (gbl_234 _ _ _ _ _ X v X' hB g) (gvl_234 _ _ _ _ _ X v X' g)
      obtain ⟨j, near, l3, l4, l5, l6, c1, w2, ts, hG, hR1, hmr, hrc, hts, hnj⟩ := h
      replace g := gxO_234_245 g
      obtain ⟨x130, e130, w133, X132, r, g1⟩ := g
      obtain ⟨e132, h133⟩ := rx_220 r
      subst e132
      have e44 : ((Int8.ofInt 44).toInt32).toInt = 44 := rfl
      rw [e44] at h133
      have hj : j ≤ 1000 := hG.2.2.2.2.2.2.2.2.1.2
      have hn1 : x130.toInt = ((n + 1 : Nat) : Int) := by
        rw [e130, fx_add (by rw [hy4]; show -2147483648 ≤ (n : Int) + 1; omega) (by rw [hy4]; show (n : Int) + 1 ≤ 2147483647; omega), hy4]
        rfl
      rcases fy_ifd g1 with ⟨c3, g2⟩ | ⟨c3, g2⟩
      · have hT : (rp_T P).1 j ≠ 44 := fun z => by
          rcases h133 with y | y
          · omega
          · exact y.2 ((rx_sg_i hG (by decide)).mpr z)
        have hR2 := md_Rs_r (r := []) hR1 (by decide) (by decide) (by decide) (by
          show (md_49 136 _).map _ = _
          unfold md_49
          rw [if_neg (by decide), if_neg (by decide), if_neg (by decide), if_neg (by decide), if_neg (by decide), if_pos rfl, if_neg hT]
          rfl)
        exact ih145 (n + 1) x130 w133 X132 (Or.inr ⟨hn1, Or.inl ⟨c3, j, near, l3, l4, l5, l6, c1, w2, ts, hG, hR2, hmr, hrc, hts, hnj⟩⟩) g2
      · have hT : (rp_T P).1 j = 44 := by
          rcases h133 with y | y
          · exact (rx_sg_i hG (by decide)).mp y.2
          · omega
        have hR2 : md_Rs P [44, 144, 187, 136] ((41, l3) :: (137, l4) :: (59, l5) :: (130, l6) :: K) j near c1 _ _ := md_Rs_r (r := [44, 144, 187, 136]) hR1 (by decide) (by decide) (by decide) (by rw [hT]; rfl)
        obtain ⟨l1, K1, hK1, hR3⟩ := md_Rs_c hR2
        obtain ⟨w137, X136, r2, g3⟩ := g2
        have h2 := rx_214 (Q := True) (Or.inr ⟨hG, hR3, ⟨hT, by decide, by decide⟩, True.intro⟩) r2
        rcases rx_go h2 g3 with e | ⟨h2, g4⟩
        · exact rx_PO_x e
        refine ih145 (n + 1) x130 w133 X136 (h2.imp id (fun z => ⟨hn1, Or.inr ⟨c3, j + 1, j, l3, l4, l5, l6, c1, w2, ts, z.1, ⟨K1, hK1, z.2.1⟩, rx_mr_fr hmr (gf_214 r2) (by decide) (by decide) (by decide), hrc, hts, by omega⟩⟩)) g4
end DD26
