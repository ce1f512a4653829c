/-! THE REFERENCE: an answer told -/
section DD69
variable {P : md_P} {X X' X0 X1 X2 : fx_X} {K K0 : List md_Sy} {n d k j near l l2 t : Nat} {v w y1 : Int32} {s a b14 : Int} {c c' : md_C} {nm : md_Nm} {cs cs' : md_CS} {ws ws' : md_WS} {nn : Int64} {S : List Int} {l8 : List Int64} {sk : List (List Int64)} {q : md_Q} {sq : List md_Q} {A0 : List md_Row}
theorem md_wk191 {W n wd : Nat} {val : md_V} {arg : Int} : md_wk W n val wd ws (191, near, l) arg = md_k ws := by
  obtain ⟨tb, sk, tr, sd, rel, pt, rt, pk, fo, fd⟩ := ws
  rfl
theorem md_ck192 {T : md_T} (hsk : cs.2.2.2.2.1 = l8 :: sk) (h10 : cs.2.2.1.length < 10) : md_ck T cs (192, near, l) = md_k ((cs.1, cs.2.1, cs.2.2.1 ++ [(T.2 (l + 1), true, l8)], cs.2.2.2.1, sk, cs.2.2.2.2.2), (cs.2.2.1.length : Int)) := by
  obtain ⟨U, cu, TB, rw, sk0, pk, fr⟩ := cs
  have hsk : sk0 = l8 :: sk := hsk
  subst hsk
  have h10 : TB.length < 10 := h10
  refine md_k192.trans ?_
  show (if 10 ≤ TB.length then none else _) = _
  rw [if_neg (by omega)]
theorem md_wk192 {W n wd : Nat} {val : md_V} {arg : Int} (hq : ws.2.1 = q :: sq) (h10 : ws.1.length < 10) (hwd : q.1 = wd) : md_wk W n val wd ws (192, near, l) arg = md_k (ws.1 ++ [q.2], sq, ws.2.2) := by
  obtain ⟨tb, sk, tr, sd, rel, pt, rt, pk, fo, fd⟩ := ws
  have hq : sk = q :: sq := hq
  subst hq
  have h10 : tb.length < 10 := h10
  show (if 10 ≤ tb.length ∨ q.1 ≠ wd then none else _) = _
  rw [if_neg (by rintro (z | z) <;> omega)]
/-- a place copied to the place of a TABLE to come -/
theorem rx_sl_on (h : rx_on (10 * rp_h P + t) X X') : rx_sl P t X X' := by
  obtain ⟨h1, h2, h3, h4, h5, h6, h7⟩ := h
  have key : ∀ r, r ∈ [118, 120, 121, 122, 123, 124, 127, 128, 129] → r < 131 := by decide
  refine ⟨fun r hr => ?_, h3 119 (by decide), fun r k hr hk hne => ?_, fun k _ => by rw [h3 125 (by decide)], fun k hk hne => h5 k (by omega), fun r k hr hk hne => h6 r k hr (by omega), fun k b hk hne hb => ?_⟩
  · have := key r hr
    exact h2 r (by omega) (by omega) (by omega) (by omega) (by omega)
  · rcases hr with e | e
    · rw [e, h2 126 (by decide) (by decide) (by decide) (by decide) (by decide)]
    · exact h4 r k e hne
  · unfold fx_bt
    rw [h7 _ (by omega)]
/-- one TABLE more is counted -/
theorem rx_TT_tb {X33 X27 : fx_X} (htn : rx_tn P nn 1 cs ws nm X0 X27) (hcl : rx_cl X27 (10 * rp_h P + cs.2.2.1.length) l8) (e33 : X33 = fx_wI X27 124 (rp_h P) (X27.1 124 (rp_h P) + Int32.ofInt 1)) (hA : rp_b P = true → ws' = (ws.1 ++ [A0], ws'.2) ∧ md_ptw ws' = md_ptw ws ∧ rx_Rw P X27 (md_m P cs.1) (10 * rp_h P + cs.2.2.1.length) A0 ∧ md_okA cs.1.length l8.length A0) (hcs : cs'.1 = cs.1 ∧ cs'.2.2.1 = cs.2.2.1 ++ [(nn, true, l8)]) : rx_TT P X33 cs' ws' (nm ++ [(nn, Int32.ofInt 0)]) := by
  obtain ⟨hTT, hlt, hnn, hso, hni, hsl⟩ := htn
  have i33 : ∀ q, q ≠ 124 → X33.1 q = X27.1 q := fun q hq => by rw [e33, fx_rIn hq]
  have l33 : X33.2 = X27.2 := by rw [e33]; rfl
  obtain ⟨hU, hV, hTB, hWT⟩ := hTT
  have h124 : (X33.1 124 (rp_h P)).toInt = ((cs.2.2.1.length + 1 : Nat) : Int) := by
    rw [e33, fx_rIe, cx_in1 hTB.1 (by omega)]
  obtain ⟨t1, t2, t3, t4, t5, t6⟩ := hTB
  have t3' : ∀ t x, cs.2.2.1[t]? = some x → rx_T1 P X33 t x := fun t x hx => by
    have := t3 t x hx
    unfold rx_T1 rx_cl at this ⊢
    rw [l33, i33 126 (by decide), i33 132 (by decide)]
    exact this
  have hT1 : rx_T1 P X33 cs.2.2.1.length (nn, true, l8) := by
    refine ⟨by rw [l33]; exact hnn, by rw [i33 126 (by decide)]; exact hso, rx_cl_fr hcl (i33 132 (by decide)) (by rw [l33])⟩
  have hnm : nm.length = cs.2.2.1.length := by
    have := congrArg List.length t5
    rw [List.length_map, List.length_map] at this
    exact this
  unfold rx_TT rx_WT
  rw [hcs.1, hcs.2]
  refine ⟨?_, ?_, ?_, fun hb => ?_⟩
  · unfold rx_U
    rw [i33 118 (by decide), i33 120 (by decide), i33 121 (by decide), i33 122 (by decide), l33]
    exact hU
  · unfold rx_V
    rw [i33 123 (by decide)]
    exact hV
  · refine ⟨by rw [h124, List.length_append]; rfl, by rw [List.length_append]; show cs.2.2.1.length + 1 ≤ 10; omega, fun t x ht => ?_, ?_, by rw [List.map_append, List.map_append, t5]; rfl, fun t x k ht hk hf => ?_⟩
    · by_cases z : t < cs.2.2.1.length
      · rw [List.getElem?_append_left z] at ht
        exact t3' t x ht
      · have := (List.getElem?_eq_some_iff.mp ht).1
        rw [List.length_append] at this
        have : t < cs.2.2.1.length + 1 := this
        have : t = cs.2.2.1.length := by omega
        subst this
        rw [List.getElem?_append_right (Nat.le_refl _), Nat.sub_self] at ht
        cases ht
        exact hT1
    · rw [List.map_append, List.nodup_append]
      exact ⟨t4, by simp, fun a ha b hb => by
        simp at hb
        subst hb
        exact fun e => hni (e ▸ ha)⟩
    · rw [i33 131 (by decide)]
      by_cases z : t < cs.2.2.1.length
      · rw [List.getElem?_append_left z] at ht
        rw [List.getElem?_append_left (by omega)] at hk
        exact t6 t x k ht hk hf
      · have := (List.getElem?_eq_some_iff.mp ht).1
        rw [List.length_append] at this
        have : t < cs.2.2.1.length + 1 := this
        have : t = cs.2.2.1.length := by omega
        subst this
        rw [List.getElem?_append_right (Nat.le_refl _), Nat.sub_self] at ht
        cases ht
        cases hf
  · obtain ⟨w1, w2', w3⟩ := hWT hb
    obtain ⟨a1, a2, a3, a4⟩ := hA hb
    have a1' : ws'.1 = ws.1 ++ [A0] := congrArg Prod.fst a1
    rw [a1', a2]
    refine ⟨by rw [List.length_append, List.length_append, w1]; rfl, fun t A x hA hx => ?_, ?_⟩
    · by_cases z : t < cs.2.2.1.length
      · rw [List.getElem?_append_left z] at hx
        rw [List.getElem?_append_left (by omega)] at hA
        have := w2' t A x hA hx
        unfold rx_Rw rx_tm at this ⊢
        rw [i33 131 (by decide), i33 134 (by decide), i33 135 (by decide), i33 136 (by decide)]
        exact this
      · have := (List.getElem?_eq_some_iff.mp hx).1
        rw [List.length_append] at this
        have : t < cs.2.2.1.length + 1 := this
        have : t = cs.2.2.1.length := by omega
        subst this
        rw [List.getElem?_append_right (by omega), w1, Nat.sub_self] at hA
        cases hA
        rw [List.getElem?_append_right (Nat.le_refl _), Nat.sub_self] at hx
        cases hx
        refine ⟨?_, a4⟩
        unfold rx_Rw rx_tm at a3 ⊢
        rw [i33 131 (by decide), i33 134 (by decide), i33 135 (by decide), i33 136 (by decide)]
        exact a3
    · unfold rx_pt at w3 ⊢
      rw [i33 127 (by decide), i33 129 (by decide)]
      exact w3
theorem rx_248 (h : rx_B P X ∨ (rx_T P X j c cs ws nm ∧ md_R P ((130, l) :: K) j near c nm (cs, ws) ∧ (rp_T P).1 j = 15)) (g : gx_248 X v X') : rx_PO P K X v X' := by
  rcases h with hB | ⟨⟨hG, hTT, ⟨hc14, hc8⟩, hsk, hw⟩, hR, hT⟩
  · exact rx_PO_B (gb_248 hB g) (gv_248 g)
  obtain ⟨w3, X2, r1, g⟩ := g
  have hh := hG.2.2.2.1
  have hR1 : md_R P ((15, j) :: (3, j) :: (191, j) :: (61, j) :: (145, j) :: (59, j) :: (192, j) :: (130, j) :: K) j near c nm (cs, ws) := md_R_r (r := [15, 3, 191, 61, 145, 59, 192, 130]) hR (by decide) (by decide) (by decide) (by rw [hT]; rfl)
  have h1 := rx_230 (Q := True) (s := 191) (Or.inr rfl) rfl (by decide) (Or.inr ⟨hG, hR1, hT, hTT, True.intro⟩) r1
  rcases rx_go h1 g with e | ⟨h1, g1⟩
  · exact rx_PO_x e
  obtain ⟨x5, e5, w8, X7, r2, g2⟩ := g1
  have out : ∀ {w : Int32} {Y : fx_X} {G : Prop}, rx_B P Y → (if w.toInt = 0 then (v = Int32.ofInt 0 ∧ X' = Y) else G) → rx_PO P K X v X' ∨ G := by
    intro w Y G hB gg
    rcases fy_ifd gg with ⟨c1, g4⟩ | ⟨c1, g4⟩
    · rw [g4.2]
      exact Or.inl (rx_PO_B hB (Or.inl g4.1))
    · exact Or.inr g4
  have fin : ∀ {Y : fx_X}, rx_B P Y → ((0 ≤ (Y.1 117 37).toInt ∧ (Y.1 117 37).toInt < ((2 : Nat) : Int)) ∧ ∃ x18 : Int32, x18 = (((Y.1 117 37) * ((Int8.ofInt 10).toInt32)) + (Y.1 124 ((Y.1 117 37)).toInt.toNat)) ∧ ∃ (w21 : Unit) (X20 : fx_X), gx_251 ((Int8.ofInt 20).toInt32) x18 Y w21 X20 ∧ (0 ≤ ((X20.1 117 37)).toInt ∧ ((X20.1 117 37)).toInt < ((2 : Nat) : Int)) ∧ (0 ≤ ((X20.1 117 37)).toInt ∧ ((X20.1 117 37)).toInt < ((2 : Nat) : Int)) ∧ ∃ X25 : fx_X, X25 = (fx_wI X20 124 ((X20.1 117 37)).toInt.toNat ((X20.1 124 ((X20.1 117 37)).toInt.toNat) + (Int32.ofInt 1))) ∧ v = (Int32.ofInt 1) ∧ X' = X25) → rx_PO P K X v X' := by
    intro Y hB gg
    obtain ⟨-, x18, -, w21, X20, r5, -, -, X25, e25, e1, e2⟩ := gg
    have hB20 : rx_B P X20 := rx_B_fr hB (gf_251 r5) (by decide) (by decide)
    rw [e2, e25]
    exact rx_PO_B (rx_B_w hB20 (Or.inl (by decide))) (Or.inr e1)
  rcases h1 with hB | ⟨c1, hG1, hRe, ec1, htn, -⟩
  · rcases out (gb_219 hB r2) g2 with e | g3
    · exact e
    obtain ⟨w11, X10, r3, g4⟩ := g3
    rcases out (gb_249 (gb_219 hB r2) r3) g4 with e | g5
    · exact e
    obtain ⟨w14, X13, r4, g6⟩ := g5
    rcases out (gb_219 (gb_249 (gb_219 hB r2) r3) r4) g6 with e | g7
    · exact e
    exact fin (gb_219 (gb_249 (gb_219 hB r2) r3) r4) g7
  obtain ⟨nn, enn⟩ : ∃ nn, nn = (rp_T P).2 (j + 1) := ⟨_, rfl⟩
  rw [← enn] at htn hRe
  have htn : rx_tn P nn 1 cs ws nm X X2 := htn
  have hni : ¬ 0 ≤ md_ix ((rp_T P).2 (j + 1)) (cs.2.2.1.map (·.1)) 0 := by
    have := (md_ix_neg (k := 0)).mpr htn.2.2.2.2.1
    rw [enn] at this
    omega
  have hlt := htn.2.1
  have hR2 := md_Re_c hRe (md_ck191.trans (if_neg hni)) (fun wd => md_wk191)
  have e61 : ((Int8.ofInt 61).toInt32).toInt = 61 := rfl
  have e59 : ((Int8.ofInt 59).toInt32).toInt = 59 := rfl
  rcases rx_go (rx_219g hG1 hR2 (by decide) e61 r2) g2 with e | ⟨⟨hG7, hR7⟩, g3⟩
  · exact rx_PO_x e
  have htn7 : rx_tn P nn 1 cs ws (nm ++ [(nn, Int32.ofInt 0)]).dropLast X X7 := by
    rw [List.dropLast_concat]
    exact rx_tn_lo htn (rx_lo_fy (s := 40) (gf_219 r2) (by decide) (by decide)) (by decide) hh.2
  obtain ⟨w11, X10, r3, g4⟩ := g3
  have h249 := rx_249 (K0 := (59, j) :: (192, j) :: (130, j) :: K) hG7 htn7 (by rw [ec1]; exact hc8) hsk (fun hb => by
    obtain ⟨q1, q2, q3⟩ := hw hb
    exact ⟨q1, by rw [ec1]; exact q3, q2⟩) (by rw [ec1]; exact hc14) hR7 r3
  have h9 : (nm ++ [(nn, Int32.ofInt 0)]).length - 1 < 10 := by
    have h2 := congrArg List.length htn.1.2.2.1.2.2.2.2.1
    rw [List.length_map, List.length_map] at h2
    rw [List.length_append, List.length_singleton]
    omega
  rcases rx_go2 h249 g4 with (e | ⟨e1, e2, e3, e4⟩) | ⟨h2, g5⟩
  · exact rx_PO_x e
  · exact ⟨Or.inl (Or.inr ⟨e1, e2, e3⟩), fun _ => rx_O_sl e4 h9 hh.2⟩
  obtain ⟨w14, X13, r4, g6⟩ := g5
  rcases h2 with hB | ⟨j3, near3, c3, cs3, ws3, l8, hsk3, hD, hR3, h143⟩
  · rcases out (gb_219 hB r4) g6 with e | g7
    · exact e
    exact fin (gb_219 hB r4) g7
  have hG10 := hD.1
  rcases rx_go (rx_219g hG10 hR3 (by decide) e59 r4) g6 with e | ⟨⟨hG13, hR13⟩, g7⟩
  · exact rx_PO_x e
  have hD13 : rx_QD P nn X X13 1 (j3 + 1) c3 cs3 ws3 (nm ++ [(nn, Int32.ofInt 0)]) := rx_QD_fy hD hG13 (gf_219 r4) (by decide) (by decide)
  obtain ⟨⟨hcl, -⟩, htop⟩ := rx_QD_top (sk := []) hD13 hsk3
  have htn13 : rx_tn P nn 1 cs3 ws3 nm X X13 := by
    have := hD13.2.1
    rw [List.dropLast_concat] at this
    exact this
  have hlt3 := htn13.2.1
  obtain ⟨-, x18, e18, w21, X20, r5, -, -, X25, e25, e1, e2⟩ := g7
  have hin := hG13.2.2.2.1.1
  have h18 : x18.toInt = ((10 * rp_h P + cs3.2.2.1.length : Nat) : Int) := by
    rw [e18, fx_in hin]
    have := rx_lin (m := 10) (z := (Int8.ofInt 10).toInt32) hin rfl htn13.1.2.2.1.1 (by omega)
    rw [show 10 * rp_h P + cs3.2.2.1.length = rp_h P * 10 + cs3.2.2.1.length by omega]
    exact this
  have e20' : ((Int8.ofInt 20).toInt32).toInt = ((20 : Nat) : Int) := rfl
  have hst := hG13.2.2.2.2.1
  have hbt : (X13.1 117 32).toInt ≠ 0 → rp_b P = true := fun z => by
    cases hb : rp_b P with
    | true => rfl
    | false => rw [hb, if_neg (by decide)] at hst; exact absurd hst z
  obtain ⟨b1, b2⟩ := rx_251 (s1 := 20) (s2 := 10 * rp_h P + cs3.2.2.1.length) e20' h18 (by omega) (fun z => by
    obtain ⟨q, s, -, q1, q2, q3⟩ := htop (hbt z)
    have q21 : (X13.1 131 20).toInt = (q.2.length : Int) := q2.1
    have := q3.1
    omega) r5
  have hG20 := rx_G_on hG13 b1
  have hsl20 := rx_sl_on b1
  have htn20 : rx_tn P nn 1 cs3 ws3 nm X X20 := rx_tn_sl htn13 hsl20 (b1.2.2.1 125 (by decide)) (b1.2.1 126 (by decide) (by decide) (by decide) (by decide) (by decide)) hh.2
  have hin20 := hG20.2.2.2.1.1
  rw [fx_in hin20] at e25
  have f25 : fy [(124, rp_h P)] [] [] X20 X25 := by rw [e25]; exact fy_f fy_rf (List.mem_singleton.mpr rfl)
  have hcl20 : rx_cl X20 (10 * rp_h P + cs3.2.2.1.length) l8 := rx_cl_cp hcl b2
  have hRe := md_R_e0 hR13 (by decide)
  have hck := md_ck192 (T := rp_T P) (near := j3) (l := j) hsk3 hlt3
  rw [← enn] at hck
  have hO : rx_O (rp_h P) X X25 := by
    refine rx_O_tr (rx_O_sl htn20.2.2.2.2.2 hlt3 hh.2) ?_
    rw [e25]
    exact rx_O_w hh.2 (by omega)
  have hcs' : ((cs3.1, cs3.2.1, cs3.2.2.1 ++ [(nn, true, l8)], cs3.2.2.2.1, ([] : List (List Int64)), cs3.2.2.2.2.2) : md_CS).2.2.2.2.1 = [] := rfl
  rw [e2]
  cases hb : rp_b P with
  | false =>
    obtain ⟨w3, q1, -, -⟩ := md_Re_n (w' := ws3) hRe hck (fun z => by rw [hb] at z; cases z)
    refine ⟨Or.inr ⟨e1, Or.inr ⟨j, j3 + 1, j3, c3, _, (cs3.1, cs3.2.1, cs3.2.2.1 ++ [(nn, true, l8)], cs3.2.2.2.1, ([] : List (List Int64)), cs3.2.2.2.2.2), w3, ⟨rx_G_fr hG20 f25 (by decide) (by simp), rx_TT_tb (A0 := []) htn20 hcl20 e25 (fun z => by rw [hb] at z; cases z) ⟨rfl, rfl⟩, ⟨h143, hD13.2.2.1⟩, hcs', fun z => by rw [hb] at z; cases z⟩, q1⟩⟩, fun z => by rw [hb] at z; cases z⟩
  | true =>
    obtain ⟨q, s, q0, q1, q2, q3⟩ := htop hb
    obtain ⟨k1, k2, k3⟩ := hD13.2.2.2.2.2.2 hb
    have hs0 : s = [] := by
      have := rx_Qw_len k3
      rw [q0, hsk3] at this
      have : s.length + 1 = 0 + 1 := this
      exact List.length_eq_zero_iff.mp (by omega)
    subst hs0
    have hwl := (htn13.1.2.2.2 hb).1
    obtain ⟨w3, x1, x2, -⟩ := md_Re_n hRe hck (fun _ => md_wk192 q0 (by show ws3.1.length < 10; omega) (by
      rw [q1]
      unfold md_wd2
      rw [if_pos rfl]
      show _ = ((cs3.2.2.1 ++ [(nn, true, l8)]).getLast?.map _).getD 0
      rw [List.getLast?_concat]
      rfl))
    have x2 := x2 hb
    have hm : ∀ w, w < rp_W P → w / md_m P cs3.1 < 1024 := fun w hw => ((rx_V_m htn13.1.2.1 hb).2.1 w hw).2
    have hst1 : (X13.1 117 32).toInt ≠ 0 := by rw [hb, if_pos rfl] at hst; omega
    refine ⟨Or.inr ⟨e1, Or.inr ⟨j, j3 + 1, j3, c3, _, (cs3.1, cs3.2.1, cs3.2.2.1 ++ [(nn, true, l8)], cs3.2.2.2.1, ([] : List (List Int64)), cs3.2.2.2.2.2), w3, ⟨rx_G_fr hG20 f25 (by decide) (by simp), rx_TT_tb (A0 := q.2) htn20 hcl20 e25 (fun _ => ⟨by rw [x2], by rw [x2]; rfl, rx_Rw_cp q2 b2 q3 hm hst1, by rw [← q1]; exact q3⟩) ⟨rfl, rfl⟩, ⟨h143, hD13.2.2.1⟩, hcs', fun _ => ⟨by rw [x2]; exact k1, by rw [x2], by rw [x2]; exact k2⟩⟩, x1⟩⟩, fun _ => hO⟩
end DD69
