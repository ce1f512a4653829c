/-! THE REFERENCE: what is acted on, + and - done -/
section DD40
variable {P : md_P} {X X' X0 X1 X2 : fx_X} {K : List md_Sy} {c c' : md_C} {nm : md_Nm} {cs cs' : md_CS} {ws ws' w2 : md_WS} {j near l l2 n m t d k s h : Nat} {v w p1 p2 z y2 y3 y4 : Int32} {nn : Int64} {sk : List (List Int64)} {lx ly : List Int64} {qx qy : md_Q} {sq : List md_Q} {b14 : Int} {s0 a : Int} {qq : md_S}
theorem rx_264 (hG : rx_G P X j c) (hR : md_R P ((s0, l) :: (172, l2) :: K) j near c nm qq) (hT : (rp_T P).1 j = s0 ∧ 3 ≤ s0 ∧ s0 < 130) (g : gx_264 X v X') : rx_X P v X' ∨ (v = Int32.ofInt 1 ∧ (rx_G P X' (j + 1) (md_u c 12 (c 12 + Int32.ofInt 1)) ∧ md_R P K (j + 1) j (md_u c 12 (c 12 + Int32.ofInt 1)) nm qq)) := by
  have h47 := hG.2.2.2.2.2.2.2.2.2.1
  have e1' : (Int32.ofInt 1).toInt = 1 := rfl
  have c12 : (c 12 + Int32.ofInt 1).toInt = (c 12).toInt + 1 := by rw [fx_add (by omega) (by omega), e1']
  have e172 : ∀ w, md_room 172 w c nm = md_lim 40 c 12 nm := fun _ => rfl
  unfold gx_264 at g
  rcases fy_ifd g with ⟨c1, g1⟩ | ⟨c1, g1⟩
  · obtain ⟨w7, X6, r, e1, e2⟩ := g1
    left
    rw [e1, e2]
    refine rx_215 ?_ (by decide) r
    by_cases hj : j < 1000
    · rcases md_R_q (md_R_t hR hT.2.2 hT.1 (Or.inl hj)) (Or.inr (Or.inr rfl)) with ⟨-, y⟩ | ⟨c', nm', y1, -⟩
      · exact y
      · exfalso
        rw [e172] at y1
        unfold md_lim at y1
        rw [if_pos (by omega)] at y1
        cases y1
    · exact md_R_tx hR hT.2.2 (Or.inr ⟨by omega, by omega⟩)
  · obtain ⟨X3, e3, w5, X4, r, e1, e2⟩ := g1
    have hG3 : rx_G P X3 j (md_u c 12 (c 12 + Int32.ofInt 1)) := by
      obtain ⟨a1, a2, a3, a4, a5, a6, a7, a8, a9, a10, a11⟩ := hG
      have k : ∀ i, i ≠ 47 → X3.1 117 i = X.1 117 i := fun i hi => by rw [e3, fx_rIk hi]
      refine ⟨by rw [e3, fx_rIn (by decide)]; exact a1, by rw [k _ (by decide)]; exact a2, a3, by rw [k _ (by decide)]; exact a4, by rw [k _ (by decide)]; exact a5, by rw [k _ (by decide)]; exact a6, by rw [k _ (by decide)]; exact a7, rx_at_fr a8 ⟨k _ (by decide), k _ (by decide), k _ (by decide), k _ (by decide)⟩, by rw [k _ (by decide)]; exact a9, ?_, by rw [k _ (by decide)]; exact a11⟩
      show (X3.1 117 47).toInt = (c 12 + Int32.ofInt 1).toInt ∧ 0 ≤ (c 12 + Int32.ofInt 1).toInt ∧ (c 12 + Int32.ofInt 1).toInt ≤ 40
      rw [e3, fx_rIe, fx_add (by omega) (by omega), e1', c12]
      omega
    have h1 := rx_214t (Q := True) (Or.inr ⟨hG3, by omega, True.intro⟩) r
    rw [e1, e2]
    rcases h1 with ⟨hv, hB | ⟨h24, hj, -⟩⟩ | ⟨hv, hB | ⟨hG6, hj, -⟩⟩
    · exact Or.inl ⟨hv, hB.1, hB.2.1⟩
    · exact Or.inl ⟨hv, md_R_tx hR hT.2.2 (Or.inr ⟨hj, by omega⟩), h24⟩
    · exact absurd (by rw [rx_214_24 r hv]; exact hG3.2.2.2.2.2.1) hB.2.1
    · refine Or.inr ⟨hv, hG6, ?_⟩
      rcases md_R_q (md_R_t hR hT.2.2 hT.1 (Or.inl hj)) (Or.inr (Or.inr rfl)) with ⟨y, -⟩ | ⟨c', nm', y1, hR2⟩
      · rw [e172] at y
        unfold md_lim at y
        rw [if_neg (by omega)] at y
        cases y
      · rw [e172] at y1
        unfold md_lim at y1
        rw [if_neg (by omega)] at y1
        cases y1
        exact hR2
theorem md_ck211 {T : md_T} (ha : a = 211 ∨ a = 212) (hsk : cs.2.2.2.2.1 = ly :: lx :: sk) : md_ck T cs (a, near, l) = if lx = ly then md_k ((cs.1, cs.2.1, cs.2.2.1, cs.2.2.2.1, lx :: sk, cs.2.2.2.2.2), 0) else some none := by
  obtain ⟨U, cu, TB, rw, sk0, pk, fr⟩ := cs
  have hsk : sk0 = ly :: lx :: sk := hsk
  subst hsk
  rcases ha with e | e
  · subst e; exact md_k211
  · subst e; exact md_k212
theorem md_wk211 {W n wd : Nat} {val : md_V} {arg : Int} (hq : ws.2.1 = qy :: qx :: sq) (h1 : qx.1 = qy.1) : md_wk W n val wd ws (211, near, l) arg = if 30 < qx.2.length + qy.2.length then some none else md_k (ws.1, (qx.1, qx.2 ++ qy.2) :: sq, ws.2.2) := by
  obtain ⟨tb, sk, tr, sd, rel, pt, rt, pk, fo, fd⟩ := ws
  have hq : sk = qy :: qx :: sq := hq
  subst hq
  show (if qx.1 ≠ qy.1 then none else _) = _
  rw [if_neg (fun z => z h1)]
theorem md_wk212 {W n wd : Nat} {val : md_V} {arg : Int} (hq : ws.2.1 = qy :: qx :: sq) (h1 : qx.1 = qy.1) : md_wk W n val wd ws (212, near, l) arg = md_k (ws.1, (qx.1, md_mi val qx.2 qy.2) :: sq, ws.2.2) := by
  obtain ⟨tb, sk, tr, sd, rel, pt, rt, pk, fo, fd⟩ := ws
  have hq : sk = qy :: qx :: sq := hq
  subst hq
  show (if qx.1 ≠ qy.1 then none else _) = _
  rw [if_neg (fun z => z h1)]
/-- two queries made one -/
def rx_dn (P : md_P) (nn : Int64) (X0 : fx_X) (nm : md_Nm) (b14 : Int) (sk : List (List Int64)) (n : Nat) (K : List md_Sy) (X X' : fx_X) : Prop := ∃ j near c cs ws l8, cs.2.2.2.2.1 = l8 :: sk ∧ rx_QD P nn X0 X' (sk.length + 1) j c cs ws nm ∧ md_R P K j near c nm (cs, ws) ∧ (c 14).toInt = b14 ∧ ((X'.1 117 50).toInt = (n : Int) ∧ X'.1 140 = X.1 140 ∧ X'.1 141 = X.1 141 ∧ X'.1 117 46 = X.1 117 46)
theorem rx_274p (hD : rx_QD P nn X0 X (sk.length + 2) j c cs ws nm) (hsk : cs.2.2.2.2.1 = ly :: lx :: sk) (hR : md_R P ((a, l) :: K) j near c nm (cs, ws)) (h14 : (c 14).toInt = b14) (h50 : (X.1 117 50).toInt = ((n + 1 : Nat) : Int)) (hn : n < 64) (hsg : (X.1 140 n).toInt = 43 ∧ a = 211 ∨ (X.1 140 n).toInt = 45 ∧ a = 212) (g : gx_274 X v X') : (rx_X P v X' ∨ rx_Yq P X0 nm v X') ∨ (v = Int32.ofInt 1 ∧ (rx_B P X' ∨ rx_dn P nn X0 nm b14 sk n K X X')) := by
  obtain ⟨n1, X2, e2, -, x5, e5, -, x9, e9, X11, e11, x12, e12, g⟩ := g
  have e1' : (Int32.ofInt 1).toInt = 1 := rfl
  obtain ⟨hG, hTN, hc8, h51, h20, hQc, hQw⟩ := hD
  rw [hsk] at h20
  have h20 : sk.length + 1 + 1 ≤ 20 := h20
  have i50 : (X2.1 117 50).toInt = (n : Int) := by rw [e2, fx_rIe, fx_sub (by omega) (by omega), h50, e1']; omega
  have h5 : x5 = X.1 140 n := by rw [e5, fx_in i50, e2, fx_rIn (by decide)]
  have i51 : (X11.1 117 51).toInt = ((20 + (sk.length + 1) : Nat) : Int) := by
    rw [e11, fx_rIe, e2, fx_rIk (by decide), fx_sub (by omega) (by omega), h51, e1']; omega
  have i12 : x12.toInt = ((20 + sk.length : Nat) : Int) := by rw [e12, fx_sub (by omega) (by omega), i51, e1']; omega
  have i13 : (x12 + Int32.ofInt 1).toInt = ((20 + sk.length + 1 : Nat) : Int) := cx_in1 i12 (by omega)
  have f11 : fy [(117, 50), (117, 51)] [] [] X X11 := by rw [e11, e2]; exact fy_f (fy_f fy_rf (by decide)) (by decide)
  have hG11 := rx_G_fr hG f11 (by decide) (by decide)
  have hlo11 : rx_lo (20 + sk.length) X X11 := rx_lo_fy f11 (by decide) (by decide)
  have i11 : ∀ q, q ≠ 117 → X11.1 q = X.1 q := fun q hq => by rw [e11, fx_rIn hq, e2, fx_rIn hq]
  have l11 : X11.2 = X.2 := by rw [e11, e2]; rfl
  have i50b : (X11.1 117 50).toInt = (n : Int) := by rw [e11, fx_rIk (by decide)]; exact i50
  have i46 : X11.1 117 46 = X.1 117 46 := by rw [e11, fx_rIk (by decide), e2, fx_rIk (by decide)]
  rw [hsk] at hQc
  have hcy : rx_cl X11 (20 + sk.length + 1) ly := by
    have := hQc.1
    unfold rx_cl at this ⊢
    rw [i11 132 (by decide), l11]
    exact this
  have hcx : rx_cl X11 (20 + sk.length) lx := by
    have := hQc.2.1
    unfold rx_cl at this ⊢
    rw [i11 132 (by decide), l11]
    exact this
  have hx1 := hcx.1
  have hy1 := hcy.1
  rw [h5, if_neg (by omega), fx_in i12] at g
  replace g := g.2
  rw [if_neg (by omega), fx_in i13] at g
  replace g := g.2
  rw [if_neg (by omega)] at g
  obtain ⟨w28, X27, r1, g⟩ := g
  obtain ⟨e27, hal⟩ := rx_277 hcx hcy i12 i13 (by omega) r1
  subst e27
  have hRe : md_Re P K j near c nm (cs, ws) (a, near, l) := md_R_e0 hR (by omega)
  have hst := hG11.2.2.2.2.1
  rcases hal with ⟨hv28, hxy⟩ | ⟨hv28, hxy⟩
  · subst hxy
    rw [if_neg (by rw [hv28]; decide)] at g
    cases n1 with
    | zero => exact g.elim
    | succ n1 =>
      replace g := gxO_274_109 g
      unfold gxT_274_109 at g
      rw [if_neg (by decide)] at g
      obtain ⟨w39, X38, r2, g⟩ := g
      obtain ⟨e38, hal2⟩ := rx_277 hcx hcy i12 i13 (by omega) r2
      subst e38
      have hv39 : w39 = Int32.ofInt 1 := by
        rcases hal2 with y | y
        · exact y.1
        · exact absurd rfl y.2
      rw [if_neg (by rw [hv39]; decide)] at g
      have hck := (md_ck211 (T := rp_T P) (a := a) (near := near) (l := l) (by omega) hsk).trans (if_pos rfl)
      have hcs' : (cs.1, cs.2.1, cs.2.2.1, cs.2.2.2.1, lx :: sk, cs.2.2.2.2.2).2.2.2.2.1 = lx :: sk := rfl
      have hD0 : rx_QD P nn X0 X (sk.length + 2) j c cs ws nm := ⟨hG, hTN, hc8, h51, by rw [hsk]; exact h20, by rw [hsk]; exact hQc, hQw⟩
      cases hb : rp_b P with
      | false =>
        rw [hb, if_neg (by decide)] at hst
        rw [if_pos hst] at g
        rw [g.2]
        obtain ⟨w3, q1, -, -⟩ := md_Re_n (w' := ws) hRe hck (fun z => by rw [hb] at z; cases z)
        exact Or.inr ⟨g.1, Or.inr ⟨j, near, c, _, w3, lx, hcs', rx_QD_st (d := 2) (q := (0, [])) hD0 hG11 hlo11 ⟨rfl, rfl, rfl⟩ (by rw [hsk]; rfl) (by omega) i51 ⟨rfl, rfl⟩ hcx (fun z => by rw [hb] at z; cases z), q1, h14, i50b, i11 140 (by decide), i11 141 (by decide), i46⟩⟩
      | true =>
        rw [hb, if_pos rfl] at hst
        rw [if_neg (by omega)] at g
        obtain ⟨k1, k2, k3⟩ := hQw hb
        rw [hsk] at k3
        obtain ⟨qy, qx, sq, hq, ⟨y1, y2, y3⟩, x1, x2, x3⟩ : ∃ qy qx sq, ws.2.1 = qy :: qx :: sq ∧ rx_qe P X (md_m P cs.1) cs.1.length (20 + sk.length + 1) qy lx ∧ rx_qe P X (md_m P cs.1) cs.1.length (20 + sk.length) qx lx := by
          cases hq : ws.2.1 with
          | nil => rw [hq] at k3; exact k3.elim
          | cons qy s1 =>
            rw [hq] at k3
            cases hq1 : s1 with
            | nil => rw [hq1] at k3; exact k3.2.elim
            | cons qx sq => rw [hq1] at k3; exact ⟨qy, qx, sq, rfl, k3.1, k3.2.1⟩
        have hm : ∀ w, w < rp_W P → w / md_m P cs.1 < 1024 := fun w hw => ((rx_V_m hTN.1.2.1 hb).2.1 w hw).2
        have hxy1 : qx.1 = qy.1 := by rw [x1, y1]
        have x2' : rx_Rw P X38 (md_m P cs.1) (20 + sk.length) qx.2 := by
          unfold rx_Rw rx_tm at x2 ⊢
          rw [i11 131 (by decide), i11 134 (by decide), i11 135 (by decide), i11 136 (by decide)]
          exact x2
        have y2' : rx_Rw P X38 (md_m P cs.1) (20 + sk.length + 1) qy.2 := by
          unfold rx_Rw rx_tm at y2 ⊢
          rw [i11 131 (by decide), i11 134 (by decide), i11 135 (by decide), i11 136 (by decide)]
          exact y2
        have fin : ∀ {w3 : md_WS} {B : List md_Row}, md_R P K j near c nm ((cs.1, cs.2.1, cs.2.2.1, cs.2.2.2.1, lx :: sk, cs.2.2.2.2.2), w3) → w3 = (ws.1, (qx.1, B) :: sq, ws.2.2) → md_okA cs.1.length qx.1 B → rx_Rw P X' (md_m P cs.1) (20 + sk.length) B → rx_on (20 + sk.length) X38 X' → X'.2 = X38.2 → X'.1 132 = X38.1 132 → v = Int32.ofInt 1 → (rx_X P v X' ∨ rx_Yq P X0 nm v X') ∨ (v = Int32.ofInt 1 ∧ (rx_B P X' ∨ rx_dn P nn X0 nm b14 sk n K X X')) := by
          intro w3 B hR3 hw3 hok hRw hon hl h132 hv
          have hG' := rx_G_on hG11 hon
          have o : ∀ q, q ≠ 131 → q ≠ 132 → q ≠ 134 → q ≠ 135 → q ≠ 136 → X'.1 q = X38.1 q := hon.2.1
          have o117 := o 117 (by decide) (by decide) (by decide) (by decide) (by decide)
          refine Or.inr ⟨hv, Or.inr ⟨j, near, c, _, w3, lx, hcs', rx_QD_st (d := 2) (q := (qx.1, B)) hD0 hG' (rx_lo_tr hlo11 (rx_on_lo hon (Nat.le_refl _))) ⟨rfl, rfl, rfl⟩ (by rw [hsk]; rfl) (by omega) (by rw [o117]; exact i51) ⟨rfl, rfl⟩ (by unfold rx_cl at hcx ⊢; rw [h132, hl]; exact hcx) (fun _ => ⟨by rw [hw3], by rw [hw3]; rfl, by rw [hw3]; exact k1, by rw [hw3, hq]; rfl, x1, hRw, hok⟩), hR3, h14, by rw [o117]; exact i50b, ?_, ?_, by rw [o117]; exact i46⟩⟩
          · rw [o 140 (by decide) (by decide) (by decide) (by decide) (by decide)]; exact i11 140 (by decide)
          · rw [o 141 (by decide) (by decide) (by decide) (by decide) (by decide)]; exact i11 141 (by decide)
        rcases hsg with ⟨hs, ha⟩ | ⟨hs, ha⟩
        · subst ha
          rw [if_pos hs] at g
          obtain ⟨w47, X46, r3, g⟩ := g
          have hwk := fun wd arg => md_wk211 (W := rp_W P) (n := rp_n P) (wd := wd) (val := rp_v P) (arg := arg) (near := near) (l := l) hq hxy1
          rcases rx_278 (P := P) i12 (by omega) x2' y2' x3 (by rw [hxy1]; exact y3) hm r3 with ⟨hv47, hfull, h24, f46⟩ | ⟨hv47, hfit, hon, hl, h132, hRw⟩
          · rw [if_pos (by rw [hv47]; rfl)] at g
            left; right
            rw [g.2]
            exact ⟨g.1, ⟨hb, md_Re_w hRe hb hck ((hwk _ _).trans (if_pos hfull))⟩, h24, rx_QD_sl hD0 (rx_lo_tr (rx_lo_le hlo11 (by omega)) (rx_lo_fy f46 (by decide) (by decide)))⟩
          · rw [if_neg (by rw [hv47]; decide)] at g
            obtain ⟨w3, z1, z2, -⟩ := md_Re_n hRe hck (fun _ => (hwk _ _).trans (if_neg (by omega)))
            rw [← g.2] at hon hl h132 hRw
            exact fin z1 (z2 hb) (md_okA_app x3 (by rw [hxy1]; exact y3) hfit) hRw hon hl h132 g.1
        · subst ha
          rw [if_neg (by omega)] at g
          obtain ⟨w44, X43, r3, g⟩ := g
          have hwk := fun wd arg => md_wk212 (W := rp_W P) (n := rp_n P) (wd := wd) (val := rp_v P) (arg := arg) (near := near) (l := l) hq hxy1
          have hU11 : rx_U P X38 cs.1 := rx_U_fr hTN.1.1 f11 (by decide) (by decide)
          have hV11 : rx_V P X38 cs.1 := rx_V_fr hTN.1.2.1 f11 (by decide) (by decide)
          obtain ⟨hv44, hl, f43, hon, hRw⟩ := rx_279 (P := P) (cs := cs) (C := lx.length) hG11.2.2.2.1 hU11 hV11 hb i12 (by omega) x2' y2' (by rw [← x1]; exact x3) (by rw [← y1]; exact y3) hx1 hcx.2.1 r3
          rw [if_neg (by rw [hv44]; decide)] at g
          obtain ⟨w3, z1, z2, -⟩ := md_Re_n hRe hck (fun _ => hwk _ _)
          have h132 : X43.1 132 = X38.1 132 := fy_ra f43 (by decide) (by decide)
          rw [← g.2] at hon hl h132 hRw
          exact fin z1 (z2 hb) (md_okA_mi x3) hRw hon hl h132 g.1
  · rw [if_pos (by rw [hv28]; rfl)] at g
    obtain ⟨w31, X30, r2, g⟩ := g
    have hF := md_Re_f hRe ((md_ck211 (by omega) hsk).trans (if_neg hxy))
    have hB := rx_tell (Or.inr ⟨hG11, hF⟩) (by decide) r2
    rcases rx_BE (G := rx_dn P nn X0 nm b14 sk n K X X') (gbl_274 _ _ _ _ _ _ v X' hB g) (gvl_274 _ _ _ _ _ _ v X' g) with y | y
    · exact Or.inl (Or.inl y)
    · exact Or.inr y
end DD40
