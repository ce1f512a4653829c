/-! THE REFERENCE: a ROW is told, whole -/
section DD27
variable {P : md_P} {X X' X0 X1 X2 X3 : fx_X} {K : List md_Sy} {c c1 c0 : md_C} {nm nm' : md_Nm} {cs : md_CS} {ws w2 : md_WS} {j near l l2 n n1 t R k : Nat} {v y1 y2 y3 p1 : Int32} {nn w8 : Int64} {l8 : List Int64}
theorem rx_nm (hG : rx_G P X j c) (hT : (rp_T P).1 j = 3) (r : gx_210 (X.1 117 27) (X.1 117 28) X w8 X3) : w8 = (rp_T P).2 j := by
  rcases rx_at_c hG.2.2.2.2.2.2.2.1 with ⟨z, -⟩ | ⟨b, e, hb, he, hbe, heN, ho, -, -⟩
  · omega
  · obtain ⟨-, hq⟩ := cx_210 hb he (by have := hG.2.2.1; omega) (by omega) r
    rw [hq, hG.1]
    rw [hT, if_neg (by decide)] at ho
    rcases ho with ⟨-, e', a2, a3⟩ | ⟨-, e', a2, a3⟩ | ⟨-, -, a3⟩
    · by_cases y : 8 < e' - b
      · rw [if_pos y] at a3; omega
      · rw [if_neg y] at a3
        rw [a3.2.2, a3.2.1]
    · split at a3 <;> omega
    · exfalso
      split at a3
      · omega
      · split at a3
        · omega
        · split at a3
          · omega
          · split at a3
            · rename_i y
              rw [← a3.1] at y
              exact absurd y (by decide)
            · omega
/-- a count of ROWS, at the TABLE so named -/
theorem rx_rwt (hTB : rx_TB P X cs.2.2.1 nm) (h : ¬ md_ix nn (cs.2.2.1.map (·.1)) 0 < 0) : ∃ (t : Nat) (x : Int64 × Bool × List Int64) (p1 : Int32), md_ix nn (cs.2.2.1.map (·.1)) 0 = (t : Int) ∧ cs.2.2.1[t]? = some x ∧ x.1 = nn ∧ nm[t]? = some (nn, p1) ∧ md_rw nn nm = (if 30 < (p1 + Int32.ofInt 1).toInt then none else some (nm.set t (nn, p1 + Int32.ofInt 1))) := by
  obtain ⟨i, h1, h2, h3⟩ := md_ix_at h
  rw [Nat.zero_add] at h1
  rw [List.getElem?_map] at h2
  obtain ⟨-, -, -, -, t5, -⟩ := hTB
  cases hx : cs.2.2.1[i]? with
  | none => rw [hx] at h2; cases h2
  | some x =>
    rw [hx] at h2
    have hxn : x.1 = nn := Option.some.inj h2
    have hn : (nm.map (·.1))[i]? = some nn := by rw [t5, List.getElem?_map, hx]; exact congrArg some hxn
    rw [List.getElem?_map] at hn
    cases hy : nm[i]? with
    | none => rw [hy] at hn; cases hn
    | some y =>
      rw [hy] at hn
      obtain ⟨y1, p1⟩ := y
      have hyn : y1 = nn := Option.some.inj hn
      subst hyn
      refine ⟨i, x, p1, h1, hx, hxn, hy, md_rw_at nm i p1 hy (fun i' hi' y hy' e => ?_)⟩
      apply h3 i' hi'
      rw [← t5, List.getElem?_map, hy', ← e]
      rfl
theorem rx_234o (hh : rp_h P ≤ 1) (hx : cs.2.2.1[t]? = some (nn, false, l8)) (hnm : nm[t]? = some (nn, p1)) (hR : p1.toInt = (R : Int)) (hR30 : R < 30) (hy1 : y1.toInt = (t : Int)) (hy2 : y2.toInt = ((10 * rp_h P + t : Nat) : Int)) (hsk : cs.2.2.2.2.1 = []) (hw : rp_b P = true → md_tr ws = [] ∧ ws.2.1 = [] ∧ ((md_ptw ws).length : Int) = (c 11).toInt) (h : rx_B P X ∨ ∃ j near l1 l2 l3 l4 l5 l6 l7 c1 w2, rx_G P X j c1 ∧ md_R P ((40, l1) :: (144, l2) :: (187, l2) :: (136, l2) :: (41, l3) :: (137, l4) :: (59, l5) :: (130, l6) :: K) j near c1 (nm.set t (nn, p1 + Int32.ofInt 1)) ((cs.1, cs.2.1, cs.2.2.1, ((l8.length : Int), 0), cs.2.2.2.2), w2) ∧ rx_mr P X0 X t R cs ws nm w2 [] (fun _ => true) [] ∧ rx_rc c c1 cs ∧ l7 = l6) (g : gxF_234 n1 128 [y1, y2, y3] [] [] X v X') : rx_PO P K X0 v X' := by
  rcases h with hB | ⟨j, near, l1, l2, l3, l4, l5, l6, l7, c1, w2, hG, hR1, hmr, hrc, -⟩
  · exact rx_PO_B (gbl_234 _ _ _ _ _ X v X' hB g) (gvl_234 _ _ _ _ _ X v X' g)
  cases n1 with
  | zero => exact g.elim
  | succ n1 =>
    replace g := gxO_234_128 g
    obtain ⟨w40, X39, r1, g⟩ := g
    have e40 : ((Int8.ofInt 40).toInt32).toInt = 40 := rfl
    have h2 := rx_219 (s := 40) (Q := True) (Or.inr ⟨hG, hR1, True.intro⟩) (by decide) e40 r1
    rcases rx_go h2 g with e | ⟨h2, g1⟩
    · exact rx_PO_x e
    refine (rx_234l (K := K) (X0 := X0) (v := v) (X' := X') (y3 := y3) hh hx hnm hR hR30 hy1 hy2 hsk hw n1).1 0 _ _ X39 (h2.imp id (fun z => ⟨rfl, Or.inr ⟨by decide, j + 1, j, l3, l4, l5, l6, c1, w2, [], z.1, md_Rs_i (K1 := [(144, l2), (187, l2), (136, l2)]) z.2.1, rx_mr_fr hmr (gf_219 r1) (by decide) (by decide) (by decide), hrc, fun _ => rfl, Nat.zero_le _⟩⟩)) g1
theorem rx_234n (hG : rx_G P X (j + 1) c) (hTT : rx_TT P X cs ws nm) (hcc : (c 14).toInt = 0 ∧ (c 8).toInt = (cs.1.length : Int)) (hsk : cs.2.2.2.2.1 = []) (hw : rp_b P = true → md_tr ws = [] ∧ ws.2.1 = [] ∧ ((md_ptw ws).length : Int) = (c 11).toInt) (hO : rp_b P = true → rx_O (rp_h P) X0 X) (hR1 : md_R P ((3, j) :: (186, j) :: (40, j) :: (144, j) :: (187, j) :: (136, j) :: (41, j) :: (137, j) :: (59, j) :: (130, j) :: K) (j + 1) j c nm (cs, ws)) (hy : (rp_T P).1 (j + 1) = 3 → y1.toInt = md_ix ((rp_T P).2 (j + 1)) (cs.2.2.1.map (·.1)) 0 ∧ (¬ y1.toInt < 0 → y2.toInt = 10 * (rp_h P : Int) + y1.toInt ∧ ((X.1 126 y2.toInt.toNat).toInt = 0 → (X.1 131 y2.toInt.toNat).toInt ≠ 30))) (g : gxF_234 n1 86 [y1, y2] [] [] X v X') : rx_PO P K X0 v X' := by
  cases n1 with
  | zero => exact g.elim
  | succ n1 =>
    replace g := gxO_234_86 g
    obtain ⟨w27, X26, r1, g⟩ := g
    have hh := hG.2.2.2.1.2
    have h2 := rx_216 (Q := True) (Or.inr ⟨hG, hR1, True.intro⟩) r1
    rcases rx_go h2 g with e | ⟨h2, g1⟩
    · exact rx_PO_x e
    obtain ⟨x29, e29, g1⟩ := g1
    have f1 := gf_216 r1
    rcases h2 with hB | ⟨hG2, hR2, ⟨-, hT3⟩, -⟩
    · rcases fy_ifd g1 with ⟨c1, g2⟩ | ⟨c1, g2⟩
      · obtain ⟨w38, X37, r2, g3⟩ := g2
        have hB2 := rx_B_218 hB (by decide) r2
        exact rx_PO_B (gbl_234 _ _ _ _ _ _ v X' hB2 g3) (gvl_234 _ _ _ _ _ _ v X' g3)
      · replace g2 := g2.2
        rcases fy_ifd g2 with ⟨c2, g3⟩ | ⟨c2, g3⟩
        · exact rx_PO_B (gbl_234 _ _ _ _ _ _ v X' hB g3) (gvl_234 _ _ _ _ _ _ v X' g3)
        · obtain ⟨w38, X37, r2, g4⟩ := g3
          have hB2 := rx_B_218 hB (by decide) r2
          exact rx_PO_B (gbl_234 _ _ _ _ _ _ v X' hB2 g4) (gvl_234 _ _ _ _ _ _ v X' g4)
    · obtain ⟨hy1, hy2⟩ := hy hT3
      have hTT2 := rx_TT_fr hTT f1 (by decide) (by decide)
      have e186 : ∀ w, md_room 186 w c nm = (md_rw w nm).map (fun l => (c, l)) := fun _ => rfl
      rcases fy_ifd g1 with ⟨c1, g2⟩ | ⟨c1, g2⟩
      · obtain ⟨w38, X37, r2, g3⟩ := g2
        have hF : md_F P := by
          rcases md_R_e hR2 (by decide) with ⟨-, y⟩ | ⟨c', nm', -, hRe⟩
          · exact y
          · exact md_Re_f hRe (md_ck186x (by show md_ix _ (cs.2.2.1.map (·.1)) 0 < 0; omega))
        have hB2 := rx_tell (Or.inr ⟨hG2, hF⟩) (by decide) r2
        exact rx_PO_B (gbl_234 _ _ _ _ _ _ v X' hB2 g3) (gvl_234 _ _ _ _ _ _ v X' g3)
      · obtain ⟨t, x, p1, a1, a2, a3, a4, a5⟩ := rx_rwt (nn := (rp_T P).2 (j + 1)) hTT.2.2.1 (by omega)
        obtain ⟨b1, b2⟩ := hy2 c1
        have hy1' : y1.toInt = (t : Int) := by omega
        have hy2' : y2.toInt = ((10 * rp_h P + t : Nat) : Int) := by omega
        have hti : (md_ix ((rp_T P).2 (j + 1)) (cs.2.2.1.map (·.1)) 0).toNat = t := by rw [a1]; exact Int.toNat_natCast t
        obtain ⟨nn', b, l8⟩ := x
        have a3 : nn' = (rp_T P).2 (j + 1) := a3
        obtain ⟨d1, d2, d3⟩ := hTT.2.2.1.2.2.1 t _ a2
        have d2 : (X.1 126 (10 * rp_h P + t)).toInt = (if b = true then 1 else 0) := d2
        rw [fx_in hy2', fy_ra f1 (by decide) (by decide)] at g2
        replace g2 := g2.2
        rw [fx_in hy2'] at b2
        cases b with
        | true =>
          rw [if_pos rfl] at d2
          rw [if_neg (by omega)] at g2
          obtain ⟨w38, X37, r2, g3⟩ := g2
          have hF : md_F P := by
            rcases md_R_e hR2 (by decide) with ⟨-, y⟩ | ⟨c', nm', -, hRe⟩
            · exact y
            · exact md_Re_f hRe (md_ck186a (x := (nn', true, l8)) (by show ¬ md_ix _ (cs.2.2.1.map (·.1)) 0 < 0; omega) (by show cs.2.2.1[(md_ix ((rp_T P).2 (j + 1)) (cs.2.2.1.map (·.1)) 0).toNat]? = _; rw [hti]; exact a2) rfl)
          have hB2 := rx_tell (Or.inr ⟨hG2, hF⟩) (by decide) r2
          exact rx_PO_B (gbl_234 _ _ _ _ _ _ v X' hB2 g3) (gvl_234 _ _ _ _ _ _ v X' g3)
        | false =>
          rw [if_neg (by decide)] at d2
          rw [if_pos d2] at g2
          have b2 := b2 d2
          obtain ⟨f2, f3, f4⟩ := hTT.2.2.1.2.2.2.2.2 t _ _ a2 a4 rfl
          have f2 : (X.1 131 (10 * rp_h P + t)).toInt = p1.toInt := f2
          have f3 : 0 ≤ p1.toInt := f3
          have f4 : p1.toInt ≤ 30 := f4
          obtain ⟨R, hR⟩ : ∃ R : Nat, p1.toInt = (R : Int) := ⟨p1.toInt.toNat, by omega⟩
          have hR30 : R < 30 := by omega
          have e1' : (Int32.ofInt 1).toInt = 1 := rfl
          rw [if_neg (by rw [fx_add (by omega) (by omega)]; omega)] at a5
          rcases md_R_e hR2 (by decide) with ⟨y, -⟩ | ⟨c', nm', y1', hRe⟩
          · rw [e186, a5] at y; cases y
          rw [e186, a5] at y1'
          cases y1'
          have hck : md_ck (rp_T P) cs (186, j + 1, j) = md_k ((cs.1, cs.2.1, cs.2.2.1, ((l8.length : Int), 0), cs.2.2.2.2), (t : Int)) := by
            rw [← a1]
            exact md_ck186b (x := (nn', false, l8)) (by omega) (by rw [hti]; exact a2) rfl
          have htl := (List.getElem?_eq_some_iff.mp a2).1
          have hwk : rp_b P = true → t < ws.1.length ∧ (ws.1.getD t []).length < 30 ∧ ∃ A, ws.1[t]? = some A ∧ A.length = R := fun hb => by
            obtain ⟨w1, w2', -⟩ := hTT.2.2.2 hb
            have htw : t < ws.1.length := by omega
            obtain ⟨A, hA⟩ : ∃ A, ws.1[t]? = some A := ⟨_, List.getElem?_eq_getElem htw⟩
            have := (w2' t A _ hA a2).1.1
            have hAR : A.length = R := by omega
            refine ⟨htw, ?_, A, hA, hAR⟩
            rw [List.getD_eq_getElem?_getD, hA]
            show A.length < 30
            omega
          obtain ⟨w3, q1, q2, -⟩ := md_Re_n (w' := (ws.1.modify t (fun A : List md_Row => A ++ [(([], fun _ => true) : md_Row)]), ws.2.1, ws.2.2.1, ws.2.2.2.1, ws.2.2.2.2.1, ws.2.2.2.2.2.1, t, ws.2.2.2.2.2.2.2)) hRe hck (fun hb => md_wk186 (hwk hb).1 (hwk hb).2.1)
          have hnm' : nm[t]? = some ((rp_T P).2 (j + 1), p1) := a4
          rw [← a3] at hnm' q1
          refine rx_234o (t := t) (R := R) (c := c) hh a2 hnm' hR hR30 hy1' hy2' hsk hw (Or.inr ⟨j + 1 + 1, j + 1, j, j, j, j, j, j, j, c, w3, hG2, q1, ⟨hTT2, by rw [fy_ra f1 (by decide) (by decide), f2]; exact hR, fun hb => ?_⟩, ⟨hcc.1, hcc.2, rfl⟩, rfl⟩) g2
          obtain ⟨z1, z2, A, hA, hAR⟩ := hwk hb
          have q2 := q2 hb
          refine ⟨⟨A, hA, hAR, ?_⟩, ?_, ?_, ?_, ?_, (fun c y hc => by cases hc), ⟨Nat.zero_le _, (fun y hy => by cases hy)⟩, rx_O_tr (hO hb) (rx_O_fr f1 (by decide) (by decide))⟩
          · rw [q2]
            exact md_modc hA rfl
          · rw [q2]
          · rw [q2]; rfl
          · rw [q2]; rfl
          · rw [q2]; exact (hw hb).1
theorem rx_234 (h : rx_B P X ∨ (rx_T P X j c cs ws nm ∧ md_R P ((130, l) :: K) j near c nm (cs, ws) ∧ (rp_T P).1 j = 12)) (g : gx_234 X v X') : rx_PO P K X v X' := by
  rcases h with hB | ⟨⟨hG, hTT, hcc, hsk, hw⟩, hR, hT⟩
  · exact rx_PO_B (gb_234 hB g) (gv_234 g)
  obtain ⟨n1, w3, X2, r1, g⟩ := g
  have hh := hG.2.2.2.1.2
  have hR1 : md_R P ((12, j) :: (3, j) :: (186, j) :: (40, j) :: (144, j) :: (187, j) :: (136, j) :: (41, j) :: (137, j) :: (59, j) :: (130, j) :: K) j near c nm (cs, ws) := md_R_r (r := [12, 3, 186, 40, 144, 187, 136, 41, 137, 59, 130]) hR (by decide) (by decide) (by decide) (by rw [hT]; rfl)
  have h1 := rx_214 (Q := True) (Or.inr ⟨hG, hR1, ⟨hT, by decide, by decide⟩, True.intro⟩) r1
  rcases rx_go h1 g with e | ⟨h1, g1⟩
  · exact rx_PO_x e
  have f1 := gf_214 r1
  have hTT2 := rx_TT_fr hTT f1 (by decide) (by decide)
  rcases h1 with hB | ⟨hG2, hR2, -⟩
  · rcases fy_ifd g1 with ⟨c1, g2⟩ | ⟨c1, g2⟩
    · obtain ⟨w11, X10, r2, w13, X12, r3, x15, e15, g3⟩ := g2
      have e10 : X10 = X2 := fy_e (gf_210 r2)
      have e12 : X12 = X10 := fy_e (gf_231 r3)
      rw [e12, e10] at g3
      rcases fy_ifd g3 with ⟨c2, g4⟩ | ⟨c2, g4⟩
      · exact rx_PO_B (gbl_234 _ _ _ _ _ _ v X' hB g4) (gvl_234 _ _ _ _ _ _ v X' g4)
      · replace g4 := g4.2
        rcases fy_ifd g4 with ⟨c3, g5⟩ | ⟨c3, g5⟩
        · replace g5 := g5.2
          rcases fy_ifd g5 with ⟨c4, g6⟩ | ⟨c4, g6⟩
          · obtain ⟨w25, X24, r4, e1, e2⟩ := g6
            subst e1
            subst e2
            exact rx_PO_x (rx_215 hB.1 (by decide) r4)
          · exact rx_PO_B (gbl_234 _ _ _ _ _ _ v X' hB g6) (gvl_234 _ _ _ _ _ _ v X' g6)
        · exact rx_PO_B (gbl_234 _ _ _ _ _ _ v X' hB g5) (gvl_234 _ _ _ _ _ _ v X' g5)
    · obtain ⟨x7, e7, g3⟩ := g2
      exact rx_PO_B (gbl_234 _ _ _ _ _ _ v X' hB g3) (gvl_234 _ _ _ _ _ _ v X' g3)
  · have hO : rp_b P = true → rx_O (rp_h P) X X2 := fun _ => rx_O_fr f1 (by decide) (by decide)
    rcases fy_ifd g1 with ⟨c1, g2⟩ | ⟨c1, g2⟩
    · have hT3 := (rx_k hG2).2.1.mp c1
      obtain ⟨w11, X10, r2, w13, X12, r3, x15, e15, g3⟩ := g2
      have e10 : X10 = X2 := fy_e (gf_210 r2)
      have e12 : X12 = X10 := fy_e (gf_231 r3)
      have h11 := rx_nm hG2 hT3 r2
      have hin := hG2.2.2.2.1.1
      subst e10
      subst e12
      obtain ⟨-, hv⟩ := rx_231 hTT2.2.2.1 hin hh r3
      rw [h11] at hv
      have hvlt : ¬ w13.toInt < 0 → w13.toInt ≤ 9 := fun z => by
        have := md_ix_lt (n := (rp_T P).2 (j + 1)) (l := cs.2.2.1.map (·.1)) (by omega)
        rw [List.length_map] at this
        have := hTT2.2.2.1.2.1
        omega
      have h15 : ¬ w13.toInt < 0 → x15.toInt = 10 * (rp_h P : Int) + w13.toInt := fun z => by
        obtain ⟨t, ht⟩ : ∃ t : Nat, w13.toInt = (t : Int) := ⟨w13.toInt.toNat, by omega⟩
        have := hvlt z
        have k := rx_lin (m := 10) (z := (Int8.ofInt 10).toInt32) hin rfl ht (by omega)
        rw [e15, k]
        omega
      rcases fy_ifd g3 with ⟨c2, g4⟩ | ⟨c2, g4⟩
      · exact rx_234n hG2 hTT2 hcc hsk hw hO hR2 (fun _ => ⟨hv, fun z => absurd c2 z⟩) g4
      · replace g4 := g4.2
        rcases fy_ifd g4 with ⟨c3, g5⟩ | ⟨c3, g5⟩
        · replace g5 := g5.2
          rcases fy_ifd g5 with ⟨c4, g6⟩ | ⟨c4, g6⟩
          · obtain ⟨w25, X24, r4, e1, e2⟩ := g6
            subst e1
            subst e2
            refine rx_PO_x (rx_215 ?_ (by decide) r4)
            obtain ⟨t, x, p1, a1, a2, a3, a4, a5⟩ := rx_rwt (nn := (rp_T P).2 (j + 1)) hTT2.2.2.1 (by omega)
            have h15 := h15 c2
            have hx15 : x15.toInt = ((10 * rp_h P + t : Nat) : Int) := by omega
            rw [fx_in hx15] at c3 c4
            obtain ⟨d1, d2, d3⟩ := hTT2.2.2.1.2.2.1 t _ a2
            have hxf : x.2.1 = false := by
              cases hb : x.2.1 with
              | false => rfl
              | true => rw [hb, if_pos rfl] at d2; omega
            obtain ⟨f2, f3, f4⟩ := hTT2.2.2.1.2.2.2.2.2 t _ _ a2 a4 hxf
            have f2 : (X12.1 131 (10 * rp_h P + t)).toInt = p1.toInt := f2
            have e1' : (Int32.ofInt 1).toInt = 1 := rfl
            rw [if_pos (by rw [fx_add (by omega) (by omega)]; omega)] at a5
            have e186 : ∀ w, md_room 186 w c nm = (md_rw w nm).map (fun l => (c, l)) := fun _ => rfl
            by_cases hj : j + 1 < 1000
            · rcases md_R_e (md_R_t hR2 (by decide) hT3 (Or.inl hj)) (by decide) with ⟨-, y⟩ | ⟨c', nm', y1', hRe⟩
              · exact y
              · rw [e186, a5] at y1'
                cases y1'
            · exact md_R_tx hR2 (by decide) (Or.inr ⟨by omega, by decide⟩)
          · exact rx_234n hG2 hTT2 hcc hsk hw hO hR2 (fun _ => ⟨hv, fun z => ⟨h15 z, fun _ => c4⟩⟩) g6
        · exact rx_234n hG2 hTT2 hcc hsk hw hO hR2 (fun _ => ⟨hv, fun z => ⟨h15 z, fun y => absurd y c3⟩⟩) g5
    · obtain ⟨x7, e7, g3⟩ := g2
      exact rx_234n hG2 hTT2 hcc hsk hw hO hR2 (fun y => absurd ((rx_k hG2).2.1.mpr y) c1) g3
end DD27
