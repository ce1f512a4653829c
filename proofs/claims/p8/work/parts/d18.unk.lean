/-! THE REFERENCE: an UNKNOWN is told, to its end -/
section DD18
variable {P : md_P} {X X' X0 X1 : fx_X} {K : List md_Sy} {c c1 c0 : md_C} {nm : md_Nm} {cs : md_CS} {ws : md_WS} {j near l n n1 : Nat} {vs : List Int32} {v y1 y5 : Int32} {y2 nn : Int64} {F L : List (Nat × Nat)}
/-- what is said of the counters behind the NAME of an UNKNOWN -/
def rx_uc (c c1 : md_C) (n : Nat) : Prop := (c1 14).toInt = 0 ∧ (c1 8).toInt = ((n + 1 : Nat) : Int) ∧ (c1 11).toInt = (c 11).toInt
theorem rx_213e (hp : y1.toInt = ((8 * rp_h P + cs.1.length : Nat) : Int)) (hn8 : cs.1.length < 8) (hh : rp_h P ≤ 1) (h2 : cs.2.2.2.2.1 = []) (hw : rp_b P = true → md_tr ws = [] ∧ ws.2.1 = [] ∧ ((md_ptw ws).length : Int) = (c 11).toInt) (h : rx_B P X ∨ ∃ j near l2 l3 l4 c1 vs, rx_G P X j c1 ∧ md_R P ((59, l2) :: (183, l3) :: (130, l4) :: K) j near c1 nm (md_scu cs (y2, vs), ws) ∧ rx_TT P X cs ws nm ∧ rx_L P X cs.1.length vs ∧ rx_uc c c1 cs.1.length ∧ y5.toInt = ((md_all cs.1 * vs.length : Nat) : Int) ∧ (1024 < y5.toInt → (rp_T P).1 j ≠ 59) ∧ (rp_b P = true → rx_O (rp_h P) X0 X)) (g : gxF_213 n1 208 [y1, y5] [y2] [] X v X') : rx_PO P K X0 v X' := by
  rcases h with hB | ⟨j, near, l2, l3, l4, c1, vs, hG, hR, hTT, hL, ⟨hc14, hc8, hc11⟩, h5, h59, hO⟩
  · exact rx_PO_B (gbl_213 n1 _ _ _ _ X v X' hB g) (gvl_213 n1 _ _ _ _ X v X' g)
  cases n1 with
  | zero => exact g.elim
  | succ n1 =>
    replace g := gxO_213_208 g
    obtain ⟨w87, X86, r1, g⟩ := g
    have e59 : ((Int8.ofInt 59).toInt32).toInt = 59 := rfl
    have h1 := rx_219 (s := 59) (Q := True) (Or.inr ⟨hG, hR, True.intro⟩) (by decide) e59 r1
    rcases rx_go h1 g with e | ⟨h1, g1⟩
    · exact rx_PO_x e
    rcases h1 with hB | ⟨hG1, hR1, -⟩
    · -- a fault is kept
      obtain ⟨-, X91, e91, -, -, X95, e95, g2⟩ := g1
      have hB91 : rx_B P X91 := by rw [e91]; exact hB
      have hB95 : rx_B P X95 := by rw [e95]; exact rx_B_w hB91 (Or.inl (by decide))
      rcases fy_ifd g2 with ⟨-, g3⟩ | ⟨-, g3⟩
      · obtain ⟨-, X104, e104, g4⟩ := g3
        have hB104 : rx_B P X104 := by rw [e104]; exact rx_B_w hB95 (Or.inl (by decide))
        rw [if_pos hB104.2.2] at g4
        rw [g4.2]
        exact rx_PO_B hB104 (Or.inr g4.1)
      · obtain ⟨-, X104, e104, g4⟩ := g3
        have hB104 : rx_B P X104 := by rw [e104]; exact rx_B_w hB95 (Or.inl (by decide))
        rw [if_pos hB104.2.2] at g4
        rw [g4.2]
        exact rx_PO_B hB104 (Or.inr g4.1)
    · have hT59 : (rp_T P).1 j = 59 := by
        by_cases z : (rp_T P).1 j = 59
        · exact z
        · exfalso
          obtain ⟨w3, X2, r, g3⟩ := r1
          obtain ⟨e2, hw2⟩ := rx_220 r
          subst e2
          have hn : ¬ rx_sg X2 59 := fun y => z ((rx_sg_i hG (by decide)).mp y)
          rw [e59] at hw2
          rcases hw2 with y | y
          · exact hn y.2
          · rw [if_pos y.1] at g3
            obtain ⟨w6, X5, r3, -, e5⟩ := g3
            obtain ⟨X6, rfl, X7, rfl, X8, rfl, -, rfl⟩ := r3
            have := hG1.2.2.2.2.2.1
            rw [e5, fx_rIk (by decide), fx_rIk (by decide), fx_rIe] at this
            exact absurd this (by decide)
      have hle : md_all cs.1 * vs.length ≤ 1024 := by
        by_cases z : 1024 < y5.toInt
        · exact absurd hT59 (h59 z)
        · omega
      have hck := (md_ck183 (T := rp_T P) (cs := cs) (nn := y2) (vs := vs) (near := j) (l := l3)).trans (if_neg (by omega)) |>.trans (if_neg (by omega))
      have hR2 := md_Re_c (md_R_e0 hR1 (by decide)) hck (fun _ => md_wk_id (by decide))
      have f1 := gf_219 r1
      have hTT1 := rx_TT_fr hTT f1 (by decide) (by decide)
      have hL1 := rx_L_fr hL (fy_ra f1 (by decide) (by decide)) (fy_ra f1 (by decide) (by decide))
      have hin := hG1.2.2.2.1.1
      rw [fx_in hp] at g1
      obtain ⟨-, X91, e91, -, -, X95, e95, g2⟩ := g1
      have h37 : X91.1 117 37 = X86.1 117 37 := by rw [e91]; rfl
      have h37b : X95.1 117 37 = X86.1 117 37 := by rw [e95, fx_rIn (by decide), h37]
      rw [h37, fx_in hin] at e95
      rw [if_neg (by omega), h37b, fx_in hin] at g2
      obtain ⟨-, X99, e99, g3⟩ := g2
      have hU2 : rp_b P = true → ∃ B, rp_Uf P = (cs.1 ++ [(y2, vs)]) ++ B := fun hb => md_R_U hR2 hb
      obtain ⟨z1, z2, z3, z4⟩ := rx_TT_new hTT1 hL1 hn8 hh hle hG1 hU2 h5 e91 e95 e99 g3
      refine ⟨Or.inr ⟨z1, Or.inr ⟨l4, j + 1, j, c1, nm, (cs.1 ++ [(y2, vs)], none, cs.2.2), ws, ⟨z3, z2, ⟨hc14, ?_⟩, h2, fun hb => ?_⟩, hR2⟩⟩, fun hb => ?_⟩
      · show (c1 8).toInt = (((cs.1 ++ [(y2, vs)]).length : Nat) : Int)
        rw [hc8, List.length_append]; rfl
      · obtain ⟨q1, q2, q3⟩ := hw hb
        exact ⟨q1, q2, by rw [hc11]; exact q3⟩
      · exact rx_O_tr (hO hb) (rx_O_tr (rx_O_fr f1 (by decide) (by decide)) (z4 hb))
theorem rx_213c (hp : y1.toInt = ((8 * rp_h P + cs.1.length : Nat) : Int)) (hn8 : cs.1.length < 8) (hh : rp_h P ≤ 1) (h2 : cs.2.2.2.2.1 = []) (hw : rp_b P = true → md_tr ws = [] ∧ ws.2.1 = [] ∧ ((md_ptw ws).length : Int) = (c 11).toInt) (h : rx_B P X ∨ ∃ j near l1 l2 l3 l4 c1, rx_G P X j c1 ∧ md_R P ((58, l1) :: (131, l1) :: (132, l1) :: (59, l2) :: (183, l3) :: (130, l4) :: K) j near c1 nm (md_scu cs (y2, []), ws) ∧ rx_TT P X cs ws nm ∧ rx_uc c c1 cs.1.length ∧ (c1 13).toInt = 0 ∧ (rp_b P = true → rx_O (rp_h P) X0 X)) (g : gxF_213 n1 94 [y1] [y2] [] X v X') : rx_PO P K X0 v X' := by
  rcases h with hB | ⟨j, near, l1, l2, l3, l4, c1, hG, hR, hTT, ⟨hc14, hc8, hc11⟩, hc13, hO⟩
  · exact rx_PO_B (gbl_213 n1 _ _ _ _ X v X' hB g) (gvl_213 n1 _ _ _ _ X v X' g)
  cases n1 with
  | zero => exact g.elim
  | succ n1 =>
    replace g := gxO_213_94 g
    obtain ⟨w40, X39, r1, g⟩ := g
    have e58 : ((Int8.ofInt 58).toInt32).toInt = 58 := rfl
    have h1 := rx_219 (s := 58) (Q := True) (Or.inr ⟨hG, hR, True.intro⟩) (by decide) e58 r1
    rcases rx_go h1 g with e | ⟨h1, g1⟩
    · exact rx_PO_x e
    obtain ⟨w43, X42, r2, g1⟩ := g1
    have h3 := rx_221 (Q := rx_G P X39 (j + 1) c1 ∧ md_R P ((131, l1) :: (132, l1) :: (59, l2) :: (183, l3) :: (130, l4) :: K) (j + 1) j c1 nm (md_scu cs (y2, []), ws)) (h1.imp id (fun z => ⟨z.1, z.1, z.2.1⟩)) r2
    have hck : md_ck (rp_T P) (md_scu cs (y2, [])) (181, j + 1, j + 1) = md_k (md_scu cs (y2, [md_it (rp_T P) (j + 1)]), 0) := md_ck181.trans (if_neg (by
      intro z
      rcases z with z | z
      · cases z
      · exact absurd z (by decide)))
    rcases h3 with ⟨hv, h3⟩ | ⟨hv, j2, h3⟩
    · rw [if_pos (by rw [hv]; rfl)] at g1
      rw [g1.2]
      refine rx_PO_x ⟨g1.1, ?_⟩
      rcases h3 with h3 | ⟨h24, hw0, hG1, hR1⟩
      · exact ⟨h3.1, h3.2.1⟩
      · refine ⟨?_, h24⟩
        by_cases hz : (rp_T P).1 (j + 1) = 45 ∨ (rp_T P).1 (j + 1) = 4
        · exact md_R_w0 (md_R_r hR1 (by decide) (by decide) (by decide) (md_rule_131 hz)) (by decide) hw0 (Or.inr ⟨_, _, ws, hck, fun _ => md_wk_id (by decide)⟩)
        · exact md_R_rx hR1 (by decide) (by decide) (md_rule_131x (fun z => hz (Or.inl z)) (fun z => hz (Or.inr z)))
    · rw [if_neg (by rw [hv]; decide)] at g1
      have f1 := gf_219 r1
      have f2 := gf_221 r2
      -- the first value stands
      have hv1 : ∀ {X47 X50 : fx_X}, X47 = (fx_wI X42 121 ((y1 * ((Int8.ofInt 64).toInt32))).toInt.toNat (X42.1 117 35)) → X50 = (fx_wI X47 120 (y1).toInt.toNat (Int32.ofInt 1)) → rx_B P X50 ∨ ∃ near2 c2, rx_G P X50 j2 c2 ∧ md_R P ((132, l1) :: (59, l2) :: (183, l3) :: (130, l4) :: K) j2 near2 c2 nm (md_scu cs (y2, [md_it (rp_T P) (j + 1)]), ws) ∧ rx_TT P X50 cs ws nm ∧ rx_L P X50 cs.1.length [md_it (rp_T P) (j + 1)] ∧ rx_uc c c2 cs.1.length ∧ (c2 13).toInt = 1 ∧ (rp_b P = true → rx_O (rp_h P) X0 X50) ∧ (-9999 ≤ (md_it (rp_T P) (j + 1)).toInt ∧ (md_it (rp_T P) (j + 1)).toInt ≤ 9999) := by
        intro X47 X50 e47 e50
        rcases h3 with hB | ⟨hG2, ⟨hwh, h35⟩, hG1, hR1⟩
        · left
          rw [e50, e47]
          exact rx_B_w (rx_B_w hB (Or.inl (by decide))) (Or.inl (by decide))
        · right
          have h64 := rx_i64 hp (by omega)
          rw [fx_in h64, h35] at e47
          rw [fx_in hp] at e50
          have hz : (rp_T P).1 (j + 1) = 45 ∨ (rp_T P).1 (j + 1) = 4 := by unfold rx_wh at hwh; omega
          have e1' : (Int32.ofInt 1).toInt = 1 := rfl
          have hroom : md_room 181 ((rp_T P).2 (j + 1)) c1 nm = some (md_u c1 13 (c1 13 + Int32.ofInt 1), nm) := by
            have e : md_room 181 ((rp_T P).2 (j + 1)) c1 nm = md_lim 16 c1 13 nm := rfl
            rw [e]
            unfold md_lim
            rw [if_neg (by rw [fx_add (by omega) (by omega)]; omega)]
          rcases md_R_wh (md_R_r hR1 (by decide) (by decide) (by decide) (md_rule_131 hz)) (by decide) hwh with ⟨q, -⟩ | ⟨c', nm', q1, q2, q3⟩
          · rw [hroom] at q; cases q
          rw [hroom] at q1
          cases q1
          obtain ⟨w2, n2, z1, z2, z3⟩ := q3 _ _ ws hck (fun _ => md_wk_id (by decide))
          have ew : w2 = ws := by
            cases hb : rp_b P with
            | true => exact z2 hb
            | false => exact z3 hb
          rw [ew] at z1
          have f12 : fy [(117, 24), (117, 25), (117, 26), (117, 27), (117, 28), (117, 29), (117, 30), (117, 31), (117, 35), (117, 36)] [] [] X X42 := fy_tr (fy_sub f1 (by decide) (by decide) (by decide)) (fy_sub f2 (by decide) (by decide) (by decide))
          have hTT42 := rx_TT_fr hTT f12 (by decide) (by decide)
          have f50 : fy [] [] [120, 121] X42 X50 := by rw [e50, e47]; exact fy_a (fy_a fy_rf (by decide)) (by decide)
          obtain ⟨hU42, hV42, hTB42, hWT42⟩ := hTT42
          have i50 : ∀ q, q ≠ 120 → q ≠ 121 → X50.1 q = X42.1 q := fun q a1 a2 => by rw [e50, fx_rIn a1, e47, fx_rIn a2]
          have l50 : X50.2 = X42.2 := by rw [e50, e47]; rfl
          refine ⟨n2, md_u c1 13 (c1 13 + Int32.ofInt 1), rx_G_fr (c := md_u c1 13 (c1 13 + Int32.ofInt 1)) hG2 f50 (by decide) (by decide), z1, ⟨?_, ?_, ?_, fun hb => ?_⟩, ⟨?_, ⟨Nat.le_refl 1, by show 1 ≤ 64; decide⟩, fun i v hv => ?_⟩, ⟨hc14, hc8, hc11⟩, ?_, fun hb => ?_, rx_it hG1.2.2.2.2.2.2.2.1 hwh⟩
          · have k := rx_U_w120 (n := cs.1.length) (z := Int32.ofInt 1) (rx_U_w121 (n := cs.1.length) (i := 0) (z := md_it (rp_T P) (j + 1)) hU42 (Nat.le_refl _)) (Nat.le_refl _)
            rw [e50, e47]
            exact k
          · unfold rx_V
            rw [i50 123 (by decide) (by decide)]
            exact hV42
          · unfold rx_TB rx_T1 rx_cl
            rw [l50, i50 124 (by decide) (by decide), i50 126 (by decide) (by decide), i50 131 (by decide) (by decide), i50 132 (by decide) (by decide)]
            exact hTB42
          · unfold rx_WT rx_Rw rx_tm rx_pt
            rw [i50 131 (by decide) (by decide), i50 134 (by decide) (by decide), i50 135 (by decide) (by decide), i50 136 (by decide) (by decide), i50 127 (by decide) (by decide), i50 129 (by decide) (by decide)]
            exact hWT42 hb
          · rw [e50, fx_rIe]; rfl
          · rw [e50, fx_rIn (by decide), e47]
            cases i with
            | zero => cases hv; exact fx_rIe
            | succ i => cases hv
          · show (c1 13 + Int32.ofInt 1).toInt = 1
            rw [fx_add (by omega) (by omega), hc13, e1']; rfl
          · refine rx_O_tr (hO hb) (rx_O_tr (rx_O_fr f12 (by decide) (by decide)) ?_)
            rw [e50, e47]
            exact rx_O_tr (rx_O_w hh (by omega)) (rx_O_w hh (by omega))
      obtain ⟨-, X47, e47, -, X50, e50, w52, X51, r3, g2⟩ := g1
      have hv1 := hv1 e47 e50
      obtain ⟨e51, h52⟩ := rx_220 r3
      subst e51
      have e256 : ((Int16.ofInt 256).toInt32).toInt = 256 := rfl
      rw [e256] at h52
      -- behind the values
      have rest : ∀ {X54 : fx_X} {w55 x62 : Int32}, gx_220 ((Int8.ofInt 59).toInt32) X54 w55 X54 → (rx_B P X54 ∨ ∃ j near c2 vs, rx_G P X54 j c2 ∧ md_R P ((59, l2) :: (183, l3) :: (130, l4) :: K) j near c2 nm (md_scu cs (y2, vs), ws) ∧ rx_TT P X54 cs ws nm ∧ rx_L P X54 cs.1.length vs ∧ rx_uc c c2 cs.1.length ∧ x62.toInt = ((md_all cs.1 * vs.length : Nat) : Int) ∧ (rp_b P = true → rx_O (rp_h P) X0 X54)) → (if w55.toInt = 0 then (gxF_213 n1 208 [y1, x62] [y2] [] X54 v X') else (if 1024 < x62.toInt then (∃ (w69 : Unit) (X68 : fx_X), gx_218 (Int32.ofInt 5) (X54.1 117 27) X54 w69 X68 ∧ gxF_213 n1 208 [y1, x62] [y2] [] X68 v X') else (gxF_213 n1 208 [y1, x62] [y2] [] X54 v X'))) → rx_PO P K X0 v X' := by
        intro X54 w55 x62 r4 h4 g3
        obtain ⟨-, h55⟩ := rx_220 r4
        have e59 : ((Int8.ofInt 59).toInt32).toInt = 59 := rfl
        rw [e59] at h55
        rcases fy_ifd g3 with ⟨c1', g4⟩ | ⟨c1', g4⟩
        · refine rx_213e (nm := nm) hp hn8 hh h2 hw (h4.imp id (fun z => ?_)) g4
          obtain ⟨j, near, c2, vs, a1, a2, a3, a4, a5, a6, a7⟩ := z
          exact ⟨j, near, l2, l3, l4, c2, vs, a1, a2, a3, a4, a5, a6, fun _ y => by
            rcases h55 with z | z
            · omega
            · exact z.2 ((rx_sg_i a1 (by decide)).mpr y), a7⟩
        · rcases fy_ifd g4 with ⟨c2', g5⟩ | ⟨c2', g5⟩
          · obtain ⟨w69, X68, r5, g6⟩ := g5
            refine rx_213e (nm := nm) hp hn8 hh h2 hw (Or.inl ?_) g6
            rcases h4 with hB | ⟨j, near, c2, vs, a1, a2, a3, a4, a5, a6, a7⟩
            · exact rx_tell (j := j) (c := c1) (Or.inl hB) (by decide) r5
            · refine rx_tell (Or.inr ⟨a1, ?_⟩) (by decide) r5
              by_cases hj : (rp_T P).1 j = 59 ∧ j < 1000
              · have hR1 := md_R_t a2 (by decide) hj.1 (Or.inl hj.2)
                exact md_Re_f (md_R_e0 hR1 (by decide)) (md_ck183.trans (if_pos (by omega)))
              · refine md_R_tx a2 (by decide) ?_
                by_cases z : (rp_T P).1 j = 59
                · exact Or.inr ⟨by omega, by decide⟩
                · exact Or.inl z
          · refine rx_213e (nm := nm) hp hn8 hh h2 hw (h4.imp id (fun z => ?_)) g5
            obtain ⟨j, near, c2, vs, a1, a2, a3, a4, a5, a6, a7⟩ := z
            exact ⟨j, near, l2, l3, l4, c2, vs, a1, a2, a3, a4, a5, a6, fun y => absurd y c2', a7⟩
      -- what the list leaves
      have left : ∀ {X54 : fx_X} {w55 : Int32} {c2 : md_C}, rx_uc c c2 cs.1.length → rx_TT P X51 cs ws nm → (rp_b P = true → rx_O (rp_h P) X0 X51) → fy [(117, 24), (117, 25), (117, 26), (117, 27), (117, 28), (117, 29), (117, 30), (117, 31), (117, 35), (117, 36)] [] [120, 121] X51 X54 → (rx_B P X54 ∨ ∃ j near c3 vs, rx_G P X54 j c3 ∧ md_R P ((59, l2) :: (183, l3) :: (130, l4) :: K) j near c3 nm (md_scu cs (y2, vs), ws) ∧ rx_U P X54 cs.1 ∧ rx_L P X54 cs.1.length vs ∧ rx_lf (rp_h P) cs.1.length X51 X54 ∧ ∀ k, k ≠ 13 → c3 k = c2 k) → ∀ {x62 : Int32}, x62 = ((X54.1 122 ((X54.1 117 37)).toInt.toNat) * (X54.1 120 (y1).toInt.toNat)) → (rx_B P X54 ∨ ∃ j near c2 vs, rx_G P X54 j c2 ∧ md_R P ((59, l2) :: (183, l3) :: (130, l4) :: K) j near c2 nm (md_scu cs (y2, vs), ws) ∧ rx_TT P X54 cs ws nm ∧ rx_L P X54 cs.1.length vs ∧ rx_uc c c2 cs.1.length ∧ x62.toInt = ((md_all cs.1 * vs.length : Nat) : Int) ∧ (rp_b P = true → rx_O (rp_h P) X0 X54)) := by
        intro X54 w55 c2 huc hTT51 hO51 f54 h4 x62 e62
        rcases h4 with hB | ⟨j, near, c3, vs, a1, a2, a3, a4, a5, a6⟩
        · exact Or.inl hB
        · right
          obtain ⟨hU51, hV51, hTB51, hWT51⟩ := hTT51
          have i54 : ∀ q, q ∉ [120, 121] → 118 ≤ q → X54.1 q = X51.1 q := fun q b1 b2 => fy_ra f54 b1 (fun z hz => by
            have : ∀ z, z ∈ [(117, 24), (117, 25), (117, 26), (117, 27), (117, 28), (117, 29), (117, 30), (117, 31), (117, 35), (117, 36)] → z.1 < 118 := by decide
            have := this z hz
            omega)
          have l54 : ∀ q, q ∉ [120, 121] → 118 ≤ q → X54.2.1 q = X51.2.1 q := fun q b1 b2 => fy_rl f54 b1 (fun z hz => by cases hz)
          refine ⟨j, near, c3, vs, a1, a2, ⟨a3, ?_, ?_, fun hb => ?_⟩, a4, ⟨?_, ?_, ?_⟩, ?_, fun hb => ?_⟩
          · unfold rx_V
            rw [i54 123 (by decide) (by decide)]
            exact hV51
          · unfold rx_TB rx_T1 rx_cl
            rw [i54 124 (by decide) (by decide), i54 126 (by decide) (by decide), i54 131 (by decide) (by decide), i54 132 (by decide) (by decide), l54 125 (by decide) (by decide), l54 133 (by decide) (by decide)]
            exact hTB51
          · unfold rx_WT rx_Rw rx_tm rx_pt
            rw [i54 131 (by decide) (by decide), i54 134 (by decide) (by decide), i54 135 (by decide) (by decide), i54 136 (by decide) (by decide), i54 127 (by decide) (by decide), i54 129 (by decide) (by decide)]
            exact hWT51 hb
          · rw [a6 14 (by decide)]; exact huc.1
          · rw [a6 8 (by decide)]; exact huc.2.1
          · rw [a6 11 (by decide)]; exact huc.2.2
          · have p1 := a3.2.1
            have p2 := a4.1
            have p3 := a3.2.2.2.1
            have p4 := a4.2.1
            have pm : md_all cs.1 * vs.length ≤ 1024 * 64 := Nat.mul_le_mul p3.2 p4.2
            rw [e62, fx_in a1.2.2.2.1.1, fx_in hp, fx_mul (by rw [p1, p2, ← Int.natCast_mul]; omega) (by rw [p1, p2, ← Int.natCast_mul]; omega), p1, p2, ← Int.natCast_mul]
          · exact rx_O_tr (hO51 hb) (rx_O_lf f54 (by decide) a5 hh hn8)
      have hfy223 : ∀ {X54 : fx_X} {w : Int32}, gx_223 y1 X51 w X54 → fy [(117, 24), (117, 25), (117, 26), (117, 27), (117, 28), (117, 29), (117, 30), (117, 31), (117, 35), (117, 36)] [] [120, 121] X51 X54 := fun r => fy_sub (gf_223 r) (by decide) (by decide) (by decide)
      have hfy222 : ∀ {X54 : fx_X} {w : Int32}, gx_222 y1 X51 w X54 → fy [(117, 24), (117, 25), (117, 26), (117, 27), (117, 28), (117, 29), (117, 30), (117, 31), (117, 35), (117, 36)] [] [120, 121] X51 X54 := fun r => fy_sub (gf_222 r) (by decide) (by decide) (by decide)
      rcases hv1 with hB | ⟨near2, c2, hG50, hR50, hTT50, hL50, huc2, hc213, hO50, hit⟩
      · -- a fault is kept
        rcases fy_ifd g2 with ⟨c1', g3⟩ | ⟨c1', g3⟩
        · obtain ⟨w55, X54, r4, g4⟩ := g3
          have hB54 := gb_223 hB r4
          rcases gv_223 r4 with hv4 | hv4
          · rw [if_pos (by rw [hv4]; rfl)] at g4
            rw [g4.2]
            exact rx_PO_B hB54 (Or.inl g4.1)
          · rw [if_neg (by rw [hv4]; decide)] at g4
            obtain ⟨-, -, x62, e62, w65, X64, r5, g5⟩ := g4
            have e64 := (rx_220 r5).1
            rw [e64] at r5 g5
            exact rest r5 (Or.inl hB54) g5
        · obtain ⟨w55, X54, r4, g4⟩ := g3
          have hB54 := gb_222 hB r4
          rcases gv_222 r4 with hv4 | hv4
          · rw [if_pos (by rw [hv4]; rfl)] at g4
            rw [g4.2]
            exact rx_PO_B hB54 (Or.inl g4.1)
          · rw [if_neg (by rw [hv4]; decide)] at g4
            obtain ⟨-, -, x62, e62, w65, X64, r5, g5⟩ := g4
            have e64 := (rx_220 r5).1
            rw [e64] at r5 g5
            exact rest r5 (Or.inl hB54) g5
      · rcases fy_ifd g2 with ⟨c1', g3⟩ | ⟨c1', g3⟩
        · have hT5 : (rp_T P).1 j2 ≠ 5 := fun z => by
            rcases h52 with y | y
            · omega
            · exact y.2 ((rx_k hG50).2.2.2.1.mpr z)
          obtain ⟨w55, X54, r4, g4⟩ := g3
          have h4 := rx_223 (K := (59, l2) :: (183, l3) :: (130, l4) :: K) (nn := y2) (c0 := c2) (X0 := X51) (Or.inr ⟨hp, rfl, hn8⟩) (Or.inr ⟨j2, near2, l1, c2, _, hG50, hR50, fun _ => hT5, hTT50.1, hL50, ⟨hc213, (by show 1 ≤ 16; decide)⟩, ⟨fun _ _ => rfl, fun _ _ => rfl⟩, fun _ _ => rfl⟩) r4
          rcases rx_go h4 g4 with e | ⟨h4, g5⟩
          · exact rx_PO_x e
          obtain ⟨-, -, x62, e62, w65, X64, r5, g5⟩ := g5
          have e64 := (rx_220 r5).1
          rw [e64] at r5 g5
          exact rest r5 (left (w55 := w55) huc2 hTT50 hO50 (hfy223 r4) h4 e62) g5
        · have hT5 : (rp_T P).1 j2 = 5 := by
            rcases h52 with y | y
            · exact (rx_k hG50).2.2.2.1.mp y.2
            · omega
          obtain ⟨w55, X54, r4, g4⟩ := g3
          have h4 := rx_222 (K := (59, l2) :: (183, l3) :: (130, l4) :: K) (nn := y2) (c0 := c2) (Or.inr ⟨hp, rfl, hn8⟩) (Or.inr ⟨hG50, hR50, hT5, hTT50.1, hL50, hit, fun _ _ => rfl⟩) r4
          rcases rx_go h4 g4 with e | ⟨h4, g5⟩
          · exact rx_PO_x e
          obtain ⟨-, -, x62, e62, w65, X64, r5, g5⟩ := g5
          have e64 := (rx_220 r5).1
          rw [e64] at r5 g5
          exact rest r5 (left (w55 := w55) huc2 hTT50 hO50 (hfy222 r4) h4 e62) g5
end DD18
