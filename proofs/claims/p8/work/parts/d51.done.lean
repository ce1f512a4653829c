/-! THE REFERENCE: a join done -/
section DD51
variable {P : md_P} {X X' X0 X1 X2 : fx_X} {K : List md_Sy} {c c' : md_C} {nm : md_Nm} {cs cs' : md_CS} {ws ws' w2 : md_WS} {j near l l2 n m t d k s h : Nat} {v w p1 p2 z y2 y3 y4 : Int32} {nn : Int64} {sk : List (List Int64)} {lx ly : List Int64} {qx qy : md_Q} {sq : List md_Q} {b14 : Int}
theorem md_ck213 {T : md_T} (hsk : cs.2.2.2.2.1 = ly :: lx :: sk) : md_ck T cs (213, near, l) = if 6 < lx.length + (md_new lx ly).length then some none else md_k ((cs.1, cs.2.1, cs.2.2.1, cs.2.2.2.1, (lx ++ md_new lx ly) :: sk, cs.2.2.2.2.2), (md_map lx ly 0 : Int)) := by
  obtain ⟨U, cu, TB, rw, sk0, pk, fr⟩ := cs
  have hsk : sk0 = ly :: lx :: sk := hsk
  subst hsk
  exact md_k213
theorem md_wk213 {W n wd : Nat} {val : md_V} {arg : Int} (hq : ws.2.1 = qy :: qx :: sq) (h0 : 0 ≤ arg ∧ arg ≤ 2147483647) (hwd : wd = qx.1 + md_ncn qx.1 arg.toNat qy.1) (h6 : wd ≤ 6) : md_wk W n val wd ws (213, near, l) arg = if 30 < qx.2.length * qy.2.length then some none else md_k (ws.1, (wd, md_jn val arg.toNat qx.2 qy.2) :: sq, ws.2.2) := by
  obtain ⟨tb, sk, tr, sd, rel, pt, rt, pk, fo, fd⟩ := ws
  have hq : sk = qy :: qx :: sq := hq
  subst hq
  show (if arg < 0 ∨ 2147483647 < arg ∨ wd ≠ qx.1 + md_ncn qx.1 arg.toNat qy.1 ∨ 6 < wd then none else _) = _
  rw [if_neg (by omega)]
theorem md_ncn_new (h6 : lx.length ≤ 6) : md_ncn lx.length (md_map lx ly 0) ly.length = (md_new lx ly).length := by
  have hl : (List.replicate ly.length ((false, Int32.ofInt 0) : md_Tm)).length = ly.length := List.length_replicate
  have h1 := md_nwl h6 hl ly.length (Nat.le_refl _)
  rw [List.take_of_length_le (by rw [hl]; exact Nat.le_refl _), List.take_length, md_nw_n, hl] at h1
  exact h1
theorem rx_274s (hD : rx_QD P nn X0 X (sk.length + 2) j c cs ws nm) (hsk : cs.2.2.2.2.1 = ly :: lx :: sk) (hR : md_R P ((213, l) :: K) j near c nm (cs, ws)) (h14 : (c 14).toInt = b14) (h50 : (X.1 117 50).toInt = ((n + 1 : Nat) : Int)) (hn : n < 64) (hsg : (X.1 140 n).toInt = 42) (g : gx_274 X v X') : (rx_X P v X' ∨ rx_Yq P X0 nm v X') ∨ (v = Int32.ofInt 1 ∧ (rx_B P X' ∨ rx_dn P nn X0 nm b14 sk n K X X')) := by
  obtain ⟨n1, X2, e2, -, x5, e5, -, x9, e9, X11, e11, x12, e12, g⟩ := g
  have e1' : (Int32.ofInt 1).toInt = 1 := rfl
  obtain ⟨hG, hTN, hc8, h51, h20, hQc, hQw⟩ := hD
  rw [hsk] at h20
  have h20 : sk.length + 1 + 1 ≤ 20 := h20
  have i50 : (X2.1 117 50).toInt = (n : Int) := by rw [e2, fx_rIe, fx_sub (by omega) (by omega), h50, e1']; omega
  have h5 : x5 = X.1 140 n := by rw [e5, fx_in i50, e2, fx_rIn (by decide)]
  have i51 : (X11.1 117 51).toInt = ((20 + (sk.length + 1) : Nat) : Int) := by
    rw [e11, fx_rIe, e2, fx_rIk (by decide), fx_sub (by omega) (by omega), h51, e1']; omega
  have i12 : x12.toInt = ((20 + sk.length : Nat) : Int) := by rw [e12, fx_sub (by omega) (by omega), i51, e1']; omega
  have f11 : fy [(117, 50), (117, 51)] [] [] X X11 := by rw [e11, e2]; exact fy_f (fy_f fy_rf (by decide)) (by decide)
  have hG11 := rx_G_fr hG f11 (by decide) (by decide)
  have hlo11 : rx_lo (20 + sk.length) X X11 := rx_lo_fy f11 (by decide) (by decide)
  have i11 : ∀ q, q ≠ 117 → X11.1 q = X.1 q := fun q hq => by rw [e11, fx_rIn hq, e2, fx_rIn hq]
  have l11 : X11.2 = X.2 := by rw [e11, e2]; rfl
  have i50b : (X11.1 117 50).toInt = (n : Int) := by rw [e11, fx_rIk (by decide)]; exact i50
  have i46 : X11.1 117 46 = X.1 117 46 := by rw [e11, fx_rIk (by decide), e2, fx_rIk (by decide)]
  rw [hsk] at hQc
  have hcy : rx_cl X11 (20 + sk.length + 1) ly := by
    have := hQc.1
    unfold rx_cl at this ⊢
    rw [i11 132 (by decide), l11]
    exact this
  have hcx : rx_cl X11 (20 + sk.length) lx := by
    have := hQc.2.1
    unfold rx_cl at this ⊢
    rw [i11 132 (by decide), l11]
    exact this
  rw [h5, if_pos hsg] at g
  obtain ⟨w33, X32, r, e3, e4⟩ := g
  rw [← e3, ← e4] at r
  have hRe := md_R_e0 hR (by decide)
  have hU11 : rx_U P X11 cs.1 := rx_U_fr hTN.1.1 f11 (by decide) (by decide)
  have hV11 : rx_V P X11 cs.1 := rx_V_fr hTN.1.2.1 f11 (by decide) (by decide)
  have hcs' : (cs.1, cs.2.1, cs.2.2.1, cs.2.2.2.1, (lx ++ md_new lx ly) :: sk, cs.2.2.2.2.2).2.2.2.2.1 = (lx ++ md_new lx ly) :: sk := rfl
  have hD0 : rx_QD P nn X0 X (sk.length + 2) j c cs ws nm := ⟨hG, hTN, hc8, h51, by rw [hsk]; exact h20, by rw [hsk]; exact hQc, hQw⟩
  -- the two on top, in pass 2
  obtain ⟨qy, qx, hQ⟩ : ∃ qy qx : md_Q, rp_b P = true → ∃ sq, ws.2.1 = qy :: qx :: sq ∧ rx_qe P X (md_m P cs.1) cs.1.length (20 + sk.length + 1) qy ly ∧ rx_qe P X (md_m P cs.1) cs.1.length (20 + sk.length) qx lx := by
    cases hb : rp_b P with
    | false => exact ⟨(0, []), (0, []), fun z => by cases z⟩
    | true =>
      obtain ⟨k1, k2, k3⟩ := hQw hb
      rw [hsk] at k3
      cases hq : ws.2.1 with
      | nil => rw [hq] at k3; exact k3.elim
      | cons qy s1 =>
        rw [hq] at k3
        cases hq1 : s1 with
        | nil => rw [hq1] at k3; exact k3.2.elim
        | cons qx sq => rw [hq1] at k3; exact ⟨qy, qx, fun _ => ⟨sq, rfl, k3.1, k3.2.1⟩⟩
  have hRws : rp_b P = true → rx_Rw P X11 (md_m P cs.1) (20 + sk.length) qx.2 ∧ rx_Rw P X11 (md_m P cs.1) (20 + sk.length + 1) qy.2 ∧ md_okA cs.1.length lx.length qx.2 ∧ md_okA cs.1.length ly.length qy.2 := fun hb => by
    obtain ⟨sq, hq, ⟨y1, y2, y3⟩, x1, x2, x3⟩ := hQ hb
    refine ⟨?_, ?_, by rw [← x1]; exact x3, by rw [← y1]; exact y3⟩
    · unfold rx_Rw rx_tm at x2 ⊢
      rw [i11 131 (by decide), i11 134 (by decide), i11 135 (by decide), i11 136 (by decide)]
      exact x2
    · unfold rx_Rw rx_tm at y2 ⊢
      rw [i11 131 (by decide), i11 134 (by decide), i11 135 (by decide), i11 136 (by decide)]
      exact y2
  have hl6 := hcx.2.1
  have hly6 := hcy.2.1
  have hmap : md_map lx ly 0 < 262145 := by
    have h1 := md_map_lt (a := lx) hl6 (b := ly) ly.length (Nat.le_refl _)
    rw [List.take_length] at h1
    have h2 : 8 ^ ly.length ≤ 8 ^ 6 := Nat.pow_le_pow_right (by decide) hly6
    have h3 : 8 ^ 6 = 262144 := by decide
    omega
  have hwk : rp_b P = true → ∀ sq, ws.2.1 = qy :: qx :: sq → lx.length + (md_new lx ly).length ≤ 6 → qx.1 = lx.length → qy.1 = ly.length → md_wk (rp_W P) (rp_n P) (rp_v P) (md_wd2 (cs.1, cs.2.1, cs.2.2.1, cs.2.2.2.1, (lx ++ md_new lx ly) :: sk, cs.2.2.2.2.2) (213, near, l)) ws (213, near, l) (md_map lx ly 0 : Int) = if 30 < qx.2.length * qy.2.length then some none else md_k (ws.1, ((lx ++ md_new lx ly).length, md_jn (rp_v P) (md_map lx ly 0) qx.2 qy.2) :: sq, ws.2.2) := by
    intro _ sq hq h66 hx1 hy1
    exact md_wk213 hq ⟨by omega, by omega⟩ (by
      rw [hx1, hy1]
      show (lx ++ md_new lx ly).length = lx.length + md_ncn lx.length (md_map lx ly 0) ly.length
      rw [md_ncn_new hl6, List.length_append]) (by
      show (lx ++ md_new lx ly).length ≤ 6
      rw [List.length_append]; exact h66)
  rcases rx_275 (A := qx.2) (B := qy.2) hG11 hU11 hV11 i12 (by omega) hcx hcy (fun z => md_Re_f hRe ((md_ck213 hsk).trans (if_pos z))) hRws r with ⟨hv, hb, hfull, h24, hlo⟩ | ⟨hv, hB | ⟨h66, b1, b2, b3, b4, b5, b6, b7⟩⟩
  · left; right
    obtain ⟨sq, hq, ⟨y1, y2, y3⟩, x1, x2, x3⟩ := hQ hb
    by_cases h66 : lx.length + (md_new lx ly).length ≤ 6
    · exact ⟨hv, ⟨hb, md_Re_w hRe hb ((md_ck213 hsk).trans (if_neg (by omega))) ((hwk hb sq hq h66 x1 y1).trans (if_pos hfull))⟩, h24, rx_QD_sl hD0 (rx_lo_tr (rx_lo_le hlo11 (by omega)) (rx_lo_le hlo (by omega)))⟩
    · exfalso
      have := md_Re_f hRe ((md_ck213 hsk).trans (if_pos (by omega)))
      rw [this.1] at hb
      cases hb
  · exact Or.inr ⟨hv, Or.inl hB⟩
  · right
    have hck := (md_ck213 (T := rp_T P) (near := near) (l := l) hsk).trans (if_neg (by omega))
    have h51' : (X'.1 117 51).toInt = ((20 + (sk.length + 1) : Nat) : Int) := by rw [b3]; exact i51
    have hacc : (X'.1 117 50).toInt = (n : Int) ∧ X'.1 140 = X.1 140 ∧ X'.1 141 = X.1 141 ∧ X'.1 117 46 = X.1 117 46 := ⟨by rw [b3]; exact i50b, by rw [b4]; exact i11 140 (by decide), by rw [b5]; exact i11 141 (by decide), by rw [b3]; exact i46⟩
    cases hb : rp_b P with
    | false =>
      obtain ⟨w3, q1, -, -⟩ := md_Re_n (w' := ws) hRe hck (fun z => by rw [hb] at z; cases z)
      exact ⟨hv, Or.inr ⟨j, near, c, _, w3, _, hcs', rx_QD_st (d := 2) (q := (0, [])) hD0 b1 (rx_lo_tr hlo11 b2) ⟨rfl, rfl, rfl⟩ (by rw [hsk]; rfl) (by omega) h51' ⟨rfl, rfl⟩ b6 (fun z => by rw [hb] at z; cases z), q1, h14, hacc⟩⟩
    | true =>
      obtain ⟨sq, hq, ⟨y1, y2, y3⟩, x1, x2, x3⟩ := hQ hb
      obtain ⟨k1, k2, k3⟩ := hQw hb
      obtain ⟨c1, c2⟩ := b7 hb
      obtain ⟨w3, z1, z2, -⟩ := md_Re_n hRe hck (fun _ => (hwk hb sq hq h66 x1 y1).trans (if_neg (by omega)))
      have z2 := z2 hb
      have hok := md_okA_jn (val := rp_v P) (m := md_map lx ly 0) (hRws hb).2.2.1 (hRws hb).2.2.2 c1 (by rw [md_ncn_new hl6]; exact h66)
      rw [md_ncn_new hl6, ← List.length_append] at hok
      exact ⟨hv, Or.inr ⟨j, near, c, _, w3, _, hcs', rx_QD_st (d := 2) (q := ((lx ++ md_new lx ly).length, md_jn (rp_v P) (md_map lx ly 0) qx.2 qy.2)) hD0 b1 (rx_lo_tr hlo11 b2) ⟨rfl, rfl, rfl⟩ (by rw [hsk]; rfl) (by omega) h51' ⟨rfl, rfl⟩ b6 (fun _ => ⟨by rw [z2], by rw [z2]; rfl, by rw [z2]; exact k1, by rw [z2, hq]; rfl, rfl, c2, hok⟩), z1, h14, hacc⟩⟩
end DD51
