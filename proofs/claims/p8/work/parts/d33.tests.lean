/-! THE REFERENCE: tests of a query -/
section DD33
variable {P : md_P} {X X' X0 X1 X2 X28 : fx_X} {K : List md_Sy} {c c' : md_C} {nm : md_Nm} {cs cs' : md_CS} {ws ws' w2 : md_WS} {j j' near l l2 n n1 m t d k s s1 s2 r h M a b : Nat} {v w p1 p2 p3 p4 p5 z y2 y3 y4 y5 : Int32} {u : Unit} {x x1 x2 : md_Sd} {rl : Int} {ts : List md_Tm} {nn : Int64} {sk : List (List Int64)} {l8 : List Int64} {b14 : Int} {q : md_Q} {sq : List md_Q}
theorem md_okb_sd {wd : Nat} (h : x.1 = 0 ∨ (x.1 = 1 ∧ 0 ≤ x.2.toInt ∧ x.2.toInt < (n : Int)) ∨ (x.1 = 2 ∧ 0 ≤ x.2.toInt ∧ x.2.toInt < (wd : Int))) : md_okb n wd x = true := by
  unfold md_okb
  simp only [Bool.or_eq_true, Bool.and_eq_true, beq_iff_eq, decide_eq_true_eq]
  rcases h with h | h | h
  · exact Or.inl (Or.inl h)
  · exact Or.inl (Or.inr h)
  · exact Or.inr h
theorem md_wk214 {W n wd : Nat} {val : md_V} {arg : Int} (hq : ws.2.1 = q :: sq) (h1 : md_okb n q.1 ws.2.2.2.1.1 = true) (h2 : md_okb n q.1 ws.2.2.2.1.2 = true) : md_wk W n val wd ws (214, near, l) arg = md_k (ws.1, (q.1, md_ts val ws.2.2.2.1 ws.2.2.2.2.1 q.2) :: sq, ws.2.2) := by
  obtain ⟨tb, sk, tr, sd, rel, pt, rt, pk, fo, fd⟩ := ws
  have hq : sk = q :: sq := hq
  subst hq
  have h1 : md_okb n q.1 sd.1 = true := h1
  have h2 : md_okb n q.1 sd.2 = true := h2
  show (if md_okb n q.1 sd.1 = false ∨ md_okb n q.1 sd.2 = false then none else md_k (tb, (q.1, md_ts val sd rel q.2) :: sq, tr, sd, rel, pt, rt, pk, fo, fd)) = _
  rw [if_neg (by rw [h1, h2]; rintro (z | z) <;> cases z)]
/-- the work of a test -/
theorem rx_254x (hD : rx_QD P nn X0 X28 (sk.length + 1) j c cs w2 nm) (hsk : cs.2.2.2.2.1 = l8 :: sk) (hR : md_R P ((214, l) :: K) j near c nm (cs, w2)) (hx1 : x1.1 = 0 ∨ (x1.1 = 1 ∧ 0 ≤ x1.2.toInt ∧ x1.2.toInt < (cs.1.length : Int)) ∨ (x1.1 = 2 ∧ 0 ≤ x1.2.toInt ∧ x1.2.toInt < (l8.length : Int))) (hsd : rx_sd X28 cs.1.length l8.length x2) (hw : rp_b P = true → w2.2.2.2.1 = (x1, x2) ∧ w2.2.2.2.2.1 = rl) (hrl : rx_rl y5.toInt rl) (h3 : y3.toInt = x1.1) (h4 : y4 = x1.2) (hp : p1.toInt = ((20 + sk.length : Nat) : Int)) (g : gxF_254 p1 n 67 [y3, y4, y5, Int32.ofInt 0] [] [] X28 v X') : ∃ n2 X2 w3, n2 + 1 ≤ n ∧ (∃ (w34 : Int32) (X33 : fx_X), gx_220 ((Int8.ofInt 44).toInt32) X2 w34 X33 ∧ gxF_254 p1 n2 7 [w34] [] [] X33 v X') ∧ rx_QD P nn X0 X2 (sk.length + 1) j c cs w3 nm ∧ md_R P K j near c nm (cs, w3) ∧ (X2.1 117 54).toInt = 0 := by
  have hG := hD.1
  have hst := hG.2.2.2.2.1
  have hRe := md_R_e0 hR (by decide)
  obtain ⟨⟨hcl, h20⟩, htop⟩ := rx_QD_top hD hsk
  cases hb : rp_b P with
  | false =>
    rw [hb, if_neg (by decide)] at hst
    obtain ⟨w3, q1, -, -⟩ := md_Re_n (w' := w2) hRe (md_ck190 (by decide)) (fun z => by rw [hb] at z; cases z)
    cases n with
    | zero => exact g.elim
    | succ n =>
      replace g := gxO_254_67 g
      unfold gxT_254_67 at g
      rw [if_pos hst] at g
      exact ⟨n, X28, w3, Nat.le_refl _, g, rx_QD_fr hD hG rx_lo_rf ⟨rfl, rfl, rfl⟩ hD.2.2.2.1 ⟨rfl, rfl⟩ (fun z => by rw [hb] at z; cases z), q1, hsd.2.2.1⟩
  | true =>
    rw [hb, if_pos rfl] at hst
    obtain ⟨q, sq, hq, ⟨q1, q2, q3⟩⟩ := htop hb
    obtain ⟨e1, e2⟩ := hw hb
    obtain ⟨k1, k2, k3⟩ := hD.2.2.2.2.2.2 hb
    have hTT := hD.2.1.1
    have hU := hTT.1
    have hV := hTT.2.1
    have hVm := rx_V_m hV hb
    have hin := hG.2.2.2.1
    have hW1 : 0 < rp_W P := by have := (hV hb).2.1.2; omega
    have hrow : ∀ (r : Nat) (x : md_Row), q.2[r]? = some x → rx_row P X28 (md_m P cs.1) (30 * (20 + sk.length) + r) x := fun r x hr => q2.2 r x hr
    have hok : ∀ (r : Nat) (x : md_Row), q.2[r]? = some x → md_okt cs.1.length x.1 ∧ x.1.length = l8.length := fun r x hr => by
      have := q3.2 x (List.mem_of_getElem? hr)
      rw [q1] at this
      exact this
    have hside : ∀ (r : Nat) (x : md_Row) (n : Nat), q.2[r]? = some x → n < rp_W P → (rx_cw (rp_h P) X28 (30 * (20 + sk.length) + r) x1 (n / md_m P cs.1) = md_sv (rp_v P) n x.1 x1 ∧ rx_cx X28 (30 * (20 + sk.length) + r) x1) ∧ (rx_cw (rp_h P) X28 (30 * (20 + sk.length) + r) x2 (n / md_m P cs.1) = md_sv (rp_v P) n x.1 x2 ∧ rx_cx X28 (30 * (20 + sk.length) + r) x2) := fun r x n hr hn => by
      obtain ⟨o1, o2⟩ := hok r x hr
      exact ⟨rx_cw_sv hV hb hn (hrow r x hr).1 o1 (by rw [o2]; exact hx1) hU.2.2.1, rx_cw_sv hV hb hn (hrow r x hr).1 o1 (by rw [o2]; exact hsd.2.2.2) hU.2.2.1⟩
    obtain ⟨n2, X2, hn2, g2, a1, a2, a3⟩ := rx_254r (N := n) (X0 := X28) (s := 20 + sk.length) (h := rp_h P) (M := md_all cs.1) (R := q.2.length) (x1 := x1) (x2 := x2) (rl := rl) hp (by omega) (by omega) hin.1 hin.2 hU.2.1 hU.2.2.2.1.2 q2.1 q3.1 h3 h4 hsd.1 hsd.2.1 (fun r hr => by
      have := hside r _ 0 (List.getElem?_eq_getElem hr) hW1
      exact ⟨this.1.2, this.2.2⟩) hrl q.2.length n 0 _ X28 (Nat.sub_le _ _) (Nat.le_refl _) rfl (Nat.zero_le _) rfl (fun _ _ _ => rfl) (fun k' b _ => by rw [if_neg (fun y => by have := y.1; omega)]) g
    have f2 : fy [] [] [136] X28 X2 := ⟨by rw [a1], fun r k _ _ => by rw [a1], fun r k hr hk => a2 r k (fun z => hr (by rw [z]; exact List.mem_singleton.mpr rfl))⟩
    have hG2 := rx_G_fr hG f2 (by decide) (by decide)
    have eq : ∀ q, q ≠ 136 → X2.1 q = X28.1 q := fun q hq => funext fun i => a2 q i hq
    have hlo : rx_lo (20 + sk.length) X28 X2 := by
      have key : ∀ r, r ∈ [118, 120, 121, 122, 123, 124, 126, 127, 128, 129] → r ≠ 136 := by decide
      refine ⟨fun r hr => eq r (key r hr), by rw [a1], by rw [a1], fun r k hr _ => by rw [eq r (by omega)], fun k _ => by rw [a1], fun r k hr _ => by rw [eq r (by omega)], fun k b hk hb => ?_⟩
      rw [a3 k b hb, if_neg (fun y => by have := y.1; omega)]
    have up : ∀ {x : md_Sd}, (x.1 = 0 ∨ (x.1 = 1 ∧ 0 ≤ x.2.toInt ∧ x.2.toInt < (cs.1.length : Int)) ∨ (x.1 = 2 ∧ 0 ≤ x.2.toInt ∧ x.2.toInt < (l8.length : Int))) → md_okb (rp_n P) l8.length x = true := fun {x} hx => md_okb_sd (by
      have := (hV hb).2.2.1
      rcases hx with y | y | y
      · exact Or.inl y
      · exact Or.inr (Or.inl ⟨y.1, y.2.1, by omega⟩)
      · exact Or.inr (Or.inr y))
    have hwk := md_wk214 (W := rp_W P) (n := rp_n P) (wd := md_wd2 cs (214, near, l)) (val := rp_v P) (arg := 0) (near := near) (l := l) (ws := w2) (q := q) (sq := sq) hq (by rw [e1, q1]; exact up hx1) (by rw [e1, q1]; exact up hsd.2.2.2)
    obtain ⟨w3, z1, z2, -⟩ := md_Re_n hRe (md_ck190 (by decide)) (fun _ => hwk)
    have z2 := z2 hb
    refine ⟨n2, X2, w3, hn2, g2, ?_, z1, by rw [eq 117 (by decide)]; exact hsd.2.2.1⟩
    refine rx_QD_st (d := 1) (q := (q.1, md_ts (rp_v P) w2.2.2.2.1 w2.2.2.2.2.1 q.2)) hD hG2 hlo ⟨rfl, rfl, hsk⟩ (by rw [hsk]; rfl) h20 (by rw [eq 117 (by decide)]; exact hD.2.2.2.1) ⟨rfl, rfl⟩ ⟨by rw [eq 132 (by decide)]; exact hcl.1, hcl.2.1, fun c n hc => by rw [a1]; exact hcl.2.2 c n hc⟩ (fun _ => ⟨by rw [z2], by rw [z2]; rfl, by rw [z2]; exact k1, by rw [z2, hq]; rfl, q1, ⟨?_, ?_⟩, md_okA_ts q3⟩)
    · rw [eq 131 (by decide)]
      unfold md_ts
      rw [List.length_map]
      exact q2.1
    · intro r x' hr
      unfold md_ts at hr
      rw [List.getElem?_map] at hr
      cases hy : q.2[r]? with
      | none => rw [hy] at hr; cases hr
      | some x =>
        rw [hy] at hr
        have hr := Option.some.inj hr
        subst hr
        have hrl := (List.getElem?_eq_some_iff.mp hy).1
        refine ⟨fun c t hc => ?_, fun w hw => ?_⟩
        · have := (hrow r x hy).1 c t hc
          unfold rx_tm at this ⊢
          rw [eq 134 (by decide), eq 135 (by decide)]
          exact this
        · obtain ⟨s1, s2⟩ := hside r x w hy hw
          have hwm := hVm.2.1 w hw
          rw [a3 _ _ hwm.2, s1.1, s2.1, e1, e2]
          have hold := (hrow r x hy).2 w hw
          dsimp only
          cases hc : md_cmp rl (md_sv (rp_v P) w x.1 x1) (md_sv (rp_v P) w x.1 x2) with
          | false =>
            rw [if_pos ⟨⟨by omega, by omega⟩, hwm.1, rfl⟩, Bool.and_false]
          | true =>
            rw [if_neg (fun y => by have := y.2.2; cases this), Bool.and_true]
            exact hold
/-- at a test's beginning or behind the last -/
def rx_t7 (P : md_P) (nn : Int64) (X0 : fx_X) (nm : md_Nm) (b14 : Int) (sk : List (List Int64)) (K : List md_Sy) (y2 : Int32) (j : Nat) (X : fx_X) : Prop := ∃ near c cs ws l8 l1 l2, cs.2.2.2.2.1 = l8 :: sk ∧ rx_QD P nn X0 X (sk.length + 1) j c cs ws nm ∧ (X.1 117 54).toInt = 0 ∧ (c 14).toInt = b14 ∧ ((y2.toInt = 0 ∧ md_R P ((93, l1) :: (150, l2) :: K) j near c nm (cs, ws)) ∨ (y2.toInt ≠ 0 ∧ ∃ s0 l3 l4 l5, ((rp_T P).1 j = s0 ∧ 3 ≤ s0 ∧ s0 < 130) ∧ md_R P ((s0, l3) :: (151, l4) :: (152, l5) :: (93, l1) :: (150, l2) :: K) j near c nm (cs, ws)))
theorem rx_254l : ∀ (d n j : Nat) (y2 : Int32) (X : fx_X), n ≤ d → (rx_t7 P nn X0 nm b14 sk K y2 j X ∧ p1.toInt = ((20 + sk.length : Nat) : Int)) → gxF_254 p1 n 7 [y2] [] [] X v X' → rx_X P v X' ∨ (v = Int32.ofInt 1 ∧ (rx_B P X' ∨ rx_S P nn X0 nm b14 sk K X')) := by
  intro d
  induction d with
  | zero =>
    intro n j y2 X hd h g
    cases n with
    | zero => exact g.elim
    | succ n => omega
  | succ d ih =>
    intro n j y2 X hd h g
    cases n with
    | zero => exact g.elim
    | succ n =>
      replace g := gxO_254_7 g
      obtain ⟨⟨near, c, cs, ws, l8, l1, l2, hsk, hD, h54, h14, hy⟩, hp⟩ := h
      rcases hy with ⟨hy2, hR⟩ | ⟨hy2, s0, l3, l4, l5, hT, hR⟩
      · unfold gxT_254_7 at g
        rw [if_pos hy2, if_pos h54] at g
        obtain ⟨w7, X6, r, e1, e2⟩ := g
        have h1 := rx_219g hD.1 hR (by decide) (show ((Int8.ofInt 93).toInt32).toInt = 93 from rfl) r
        rw [← e1, ← e2] at h1
        rcases h1 with e | ⟨hv, hG1, hR1⟩
        · exact Or.inl e
        · exact Or.inr ⟨hv, Or.inr ⟨_, _, _, c, cs, ws, l8, hsk, rx_QD_fy hD hG1 (by rw [e2]; exact gf_219 r) (by decide) (by decide), hR1, h14⟩⟩
      · unfold gxT_254_7 at g
        rw [if_neg hy2] at g
        obtain ⟨w14, X13, r, g1⟩ := g
        rcases rx_go (rx_214g hD.1 hR hT r) g1 with e | ⟨⟨hG1, hR1⟩, g2⟩
        · exact Or.inl e
        have hD1 : rx_QD P nn X0 X13 (sk.length + 1) (j + 1) c cs ws nm := rx_QD_fy hD hG1 (gf_214 r) (by decide) (by decide)
        have h54a : (X13.1 117 54).toInt = 0 := by rw [(gf_214 r).2.2 117 54 (by decide) (by decide)]; exact h54
        have hR2 : md_R P ((153, j + 1) :: (143, j + 1) :: (153, j + 1) :: (214, j + 1) :: (152, l5) :: (93, l1) :: (150, l2) :: K) (j + 1) j c nm (cs, ws) := md_R_r (r := [153, 143, 153, 214]) hR1 (by decide) (by decide) (by decide) rfl
        obtain ⟨w17, X16, r2, g3⟩ := g2
        rcases rx_go (rx_255 (Or.inr ⟨hD1, hR2, hsk, h54a, hp⟩) r2) g3 with e | ⟨h2, g4⟩
        · exact Or.inl e
        obtain ⟨x19, e19, x21, e21, w24, X23, r3, g5⟩ := g4
        have badF : ∀ {n : Nat} {a1 a2 a3 a4 : Int32} {Y : fx_X}, rx_B P Y → gxF_254 p1 n 67 [a1, a2, a3, a4] [] [] Y v X' → rx_X P v X' ∨ (v = Int32.ofInt 1 ∧ (rx_B P X' ∨ rx_S P nn X0 nm b14 sk K X')) := fun hB g => rx_BE (gbl_254 _ _ _ _ _ _ _ v X' hB g) (gvl_254 _ _ _ _ _ _ _ v X' g)
        rcases h2 with hB | ⟨j2, n2, w2, x1, hD2, hR3, hsd, hw2⟩
        · have hB3 := gb_239 hB r3
          rcases fy_ifd g5 with ⟨c1, g6⟩ | ⟨c1, g6⟩
          · rw [g6.2]; exact Or.inl ⟨g6.1, hB3.1, hB3.2.1⟩
          · obtain ⟨x26, e26, w29, X28, r4, g7⟩ := g6
            have hB4 := gb_255 hB3 r4
            rcases fy_ifd g7 with ⟨c2, g8⟩ | ⟨c2, g8⟩
            · rw [g8.2]; exact Or.inl ⟨g8.1, hB4.1, hB4.2.1⟩
            · exact badF hB4 g8
        have h3 := rx_239 (Q := True) (Or.inr ⟨hD2.1, hR3, True.intro⟩) r3
        rcases rx_go h3 g5 with e | ⟨⟨w4, rl, h3⟩, g6⟩
        · exact Or.inl e
        obtain ⟨x26, e26, w29, X28, r4, g7⟩ := g6
        rcases h3 with hB | ⟨hG3, hR4, hrl, hw4, -⟩
        · have hB4 := gb_255 hB r4
          rcases fy_ifd g7 with ⟨c2, g8⟩ | ⟨c2, g8⟩
          · rw [g8.2]; exact Or.inl ⟨g8.1, hB4.1, hB4.2.1⟩
          · exact badF hB4 g8
        have f3 := gf_239 r3
        have hD3 : rx_QD P nn X0 X23 (sk.length + 1) (j2 + 1) c cs w2 nm := rx_QD_fy hD2 hG3 f3 (by decide) (by decide)
        have hD3' : rx_QD P nn X0 X23 (sk.length + 1) (j2 + 1) c cs w4 nm := rx_QD_fr hD3 hG3 rx_lo_rf ⟨rfl, rfl, rfl⟩ hD3.2.2.2.1 ⟨rfl, rfl⟩ (fun hb => by
          rw [hw4 hb]
          exact ⟨rfl, rfl, (hD3.2.2.2.2.2.2 hb).1, rfl⟩)
        have h54c : (X23.1 117 54).toInt = 0 := by rw [f3.2.2 117 54 (by decide) (by decide)]; exact hsd.2.2.1
        rcases rx_go (rx_255 (Or.inr ⟨hD3', hR4, hsk, h54c, hp⟩) r4) g7 with e | ⟨h4, g8⟩
        · exact Or.inl e
        rcases h4 with hB | ⟨j4, n4, w5, x2, hD4, hR5, hsd2, hw5⟩
        · exact badF hB g8
        obtain ⟨n5, X5, w6, hn5, ⟨w34, X33, r5, g9⟩, hD5, hR6, h54d⟩ := rx_254x (x1 := x1) (x2 := x2) (rl := rl) hD4 hsk hR5 hsd.2.2.2 hsd2 (fun hb => by
          rw [hw5 hb, hw4 hb, hw2 hb]
          exact ⟨rfl, rfl⟩) (by rw [e26]; exact hrl) (by rw [e19]; exact hsd.1) (by rw [e21]; exact hsd.2.1) hp g8
        obtain ⟨e33, hw34⟩ := rx_220 r5
        subst e33
        refine ih n5 j4 w34 X33 (by omega) ⟨⟨n4, c, cs, w6, l8, l1, l2, hsk, hD5, h54d, h14, ?_⟩, hp⟩ g9
        have hsg := rx_sg_i (a := 44) hD5.1 (by decide)
        have e44 : ((Int8.ofInt 44).toInt32).toInt = 44 := rfl
        rw [e44] at hw34
        rcases hw34 with ⟨y1, y2⟩ | ⟨y1, y2⟩
        · right
          have hT2 := hsg.mp y2
          exact ⟨by omega, 44, j4, j4, j4, ⟨hT2, by decide, by decide⟩, md_R_r (r := [44, 151, 152]) hR6 (by decide) (by decide) (by decide) (by rw [hT2]; rfl)⟩
        · left
          have hT2 : (rp_T P).1 j4 ≠ 44 := fun z => y2 (hsg.mpr z)
          refine ⟨y1, md_R_r (r := []) hR6 (by decide) (by decide) (by decide) ?_⟩
          show (md_52 152 _).map _ = _
          unfold md_52
          rw [if_neg (by decide), if_neg (by decide), if_neg (by decide), if_neg (by decide), if_neg (by decide), if_neg (by decide), if_neg (by decide), if_pos rfl, if_neg hT2]
          rfl
/-- tests of a query, whole -/
theorem rx_254 (h : rx_B P X ∨ ∃ j near l c cs ws l8, cs.2.2.2.2.1 = l8 :: sk ∧ rx_QD P nn X0 X (sk.length + 1) j c cs ws nm ∧ md_R P ((150, l) :: K) j near c nm (cs, ws) ∧ (c 14).toInt = b14 ∧ (rp_T P).1 j = 91 ∧ p1.toInt = ((20 + sk.length : Nat) : Int)) (g : gx_254 p1 X v X') : rx_X P v X' ∨ (v = Int32.ofInt 1 ∧ (rx_B P X' ∨ rx_S P nn X0 nm b14 sk K X')) := by
  rcases h with hB | ⟨j, near, l, c, cs, ws, l8, hsk, hD, hR, h14, hT, hp⟩
  · exact rx_BE (gb_254 hB g) (gv_254 g)
  obtain ⟨n, X2, e2, g⟩ := g
  have f2 : fy [(117, 54)] [] [] X X2 := by rw [e2]; exact fy_f fy_rf (by decide)
  have hG2 := rx_G_fr hD.1 f2 (by decide) (by decide)
  have hR0 : md_R P ((91, j) :: (151, j) :: (152, j) :: (93, j) :: (150, j) :: K) j near c nm (cs, ws) := md_R_r (r := [91, 151, 152, 93, 150]) hR (by decide) (by decide) (by decide) (by rw [hT]; rfl)
  exact rx_254l n n j _ X2 (Nat.le_refl _) ⟨⟨near, c, cs, ws, l8, j, j, hsk, rx_QD_fy hD hG2 f2 (by decide) (by decide), by rw [e2, fx_rIe]; rfl, h14, Or.inr ⟨by decide, 91, j, j, j, ⟨hT, by decide, by decide⟩, hR0⟩⟩, hp⟩ g
end DD33
