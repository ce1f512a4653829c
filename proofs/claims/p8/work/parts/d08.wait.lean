/-! THE REFERENCE: the signs that wait in a COND -/
def md_kl : List Int → List Int
  | [] => [141, 139]
  | x :: wt => if x = 33 then 171 :: 205 :: md_kl wt else if x = 40 then 141 :: 139 :: 41 :: 171 :: md_kl wt else if x = 38 then 206 :: md_kl wt else 141 :: 207 :: (md_kl wt).tail
def md_tp (wt : List Int) : Int := wt.headD 0
def md_wf : List Int → Prop
  | [] => True
  | x :: wt => (x = 33 ∨ x = 40 ∨ (x = 38 ∧ (md_tp wt = 0 ∨ md_tp wt = 40 ∨ md_tp wt = 124)) ∨ (x = 124 ∧ (md_tp wt = 0 ∨ md_tp wt = 40))) ∧ md_wf wt
def md_nb : List Int → Nat
  | [] => 0
  | x :: wt => (if x = 38 ∨ x = 124 then 1 else 0) + md_nb wt
def md_cn : List Int → Nat
  | [] => 0
  | x :: wt => (if x = 33 ∨ x = 40 then 1 else 0) + md_cn wt
def md_po : List Int → Nat
  | [] => 0
  | x :: wt => (if x = 40 then 1 else 0) + md_po wt
/-- where a COND stands: the signs that wait, H truths, what is to come -/
def rx_Z (P : md_P) (X : fx_X) (j : Nat) (K : List md_Sy) (cs : md_CS) (ws : md_WS) (nm : md_Nm) (c0 : md_C) (wt : List Int) (H : Nat) (a : List Int) : Prop := ∃ near c w2, (rx_G P X j c ∧ md_Rs P a K j near c nm (cs, w2)) ∧ (rx_K P X cs w2 H ∧ (rp_b P = true → md_kp ws w2)) ∧ (rx_W X wt ∧ (X.1 117 43).toInt = (wt.length : Int)) ∧ ((X.1 117 41).toInt = (md_cn wt : Int) ∧ (c 14).toInt = (md_cn wt : Int) ∧ md_cn wt ≤ 8) ∧ (∀ k, k ≠ 14 → c k = c0 k) ∧ md_wf wt
section DD8
variable {P : md_P} {X X' X0 X1 : fx_X} {K : List md_Sy} {s : Int} {a r : List Int} {l j near : Nat} {c c' c0 : md_C} {nm nm' : md_Nm} {cs : md_CS} {ws w2 : md_WS} {q : md_S} {v w p p1 p2 p3 : Int32} {u : Unit} {h M H k d : Nat} {x : Int} {wt : List Int}
theorem fx_le31 (x : Int32) : x.toInt ≤ 2147483647 := by
  have h2 := x.toInt_le
  have h3 : Int32.maxValue.toInt = 2147483647 := by decide
  omega
theorem md_nb_le (h : md_wf wt) : md_nb wt ≤ 2 * md_cn wt + (if md_tp wt = 38 then 2 else if md_tp wt = 124 then 1 else 0) := by
  induction wt with
  | nil => exact Nat.zero_le _
  | cons x wt ih =>
    have ih := ih h.2
    show (if x = 38 ∨ x = 124 then 1 else 0) + md_nb wt ≤ 2 * ((if x = 33 ∨ x = 40 then 1 else 0) + md_cn wt) + (if x = 38 then 2 else if x = 124 then 1 else 0)
    rcases h.1 with e | e | ⟨e, e2⟩ | ⟨e, e2⟩
    · subst e
      rw [if_neg (by decide), if_pos (by decide), if_neg (by decide), if_neg (by decide)]
      split at ih
      · omega
      · split at ih <;> omega
    · subst e
      rw [if_neg (by decide), if_pos (by decide), if_neg (by decide), if_neg (by decide)]
      split at ih
      · omega
      · split at ih <;> omega
    · subst e
      rw [if_pos (by decide), if_neg (by decide), if_pos (by decide)]
      rw [if_neg (by omega)] at ih
      split at ih <;> omega
    · subst e
      rw [if_pos (by decide), if_neg (by decide), if_neg (by decide), if_pos (by decide)]
      rw [if_neg (by omega), if_neg (by omega)] at ih
      omega
theorem md_nb_18 (h : md_wf wt) (hc : md_cn wt ≤ 8) : md_nb wt ≤ 18 := by
  have := md_nb_le h
  split at this
  · omega
  · split at this <;> omega
theorem md_tp_at {y : Int} (h : md_tp wt = y) (hy : y ≠ 0) : ∃ wt', wt = y :: wt' := by
  cases wt with
  | nil => exact absurd h.symm hy
  | cons x wt => exact ⟨wt, by rw [← h]; rfl⟩
theorem md_po_cn : md_po wt ≤ md_cn wt := by
  induction wt with
  | nil => exact Nat.le_refl _
  | cons x wt ih =>
    show (if x = 40 then 1 else 0) + md_po wt ≤ (if x = 33 ∨ x = 40 then 1 else 0) + md_cn wt
    by_cases e : x = 40
    · rw [if_pos e, if_pos (Or.inr e)]; omega
    · rw [if_neg e]; omega
theorem rx_243 (hW : rx_W X wt) (hw : (X.1 117 43).toInt = (wt.length : Int)) (hl : wt.length ≤ 1000) (hp : p.toInt ≠ 0) (g : gx_243 p X v X') : X' = X ∧ ((v.toInt ≠ 0 ∧ md_tp wt = p.toInt) ∨ (v.toInt = 0 ∧ md_tp wt ≠ p.toInt)) := by
  unfold gx_243 at g
  cases wt with
  | nil =>
    rw [if_neg (by rw [hw]; decide)] at g
    exact ⟨g.2, Or.inr ⟨by rw [g.1]; rfl, fun z => hp z.symm⟩⟩
  | cons x wt =>
    have hw' : (X.1 117 43).toInt = ((wt.length + 1 : Nat) : Int) := hw
    have hl' : wt.length + 1 ≤ 1000 := hl
    have e1 : (Int32.ofInt 1).toInt = 1 := rfl
    have hi : ((X.1 117 43) - (Int32.ofInt 1)).toInt = (wt.length : Int) := by
      rw [fx_sub (by omega) (by omega), hw', e1]; omega
    rw [if_pos (by omega), fx_in hi] at g
    replace g := g.2
    rw [hW.1] at g
    rcases fy_ifd g with ⟨c, g⟩ | ⟨c, g⟩
    · exact ⟨g.2, Or.inl ⟨by rw [g.1]; decide, c⟩⟩
    · exact ⟨g.2, Or.inr ⟨by rw [g.1]; rfl, c⟩⟩
theorem md_rule_141 {k : Int} (h : k ≠ 38) : md_rule 141 k = some [] := by
  show (md_50 141 k).map _ = _
  unfold md_50
  rw [if_neg (by decide), if_neg (by decide), if_neg (by decide), if_pos rfl, if_neg h]
  rfl
theorem md_rule_139 {k : Int} (h : k ≠ 124) : md_rule 139 k = some [] := by
  show (md_50 139 k).map _ = _
  unfold md_50
  rw [if_neg (by decide), if_pos rfl, if_neg h]
  rfl
theorem rx_Z_r (h : rx_Z P X j K cs ws nm c0 wt H (s :: a)) (hs : 130 ≤ s ∧ s < 170 ∧ s ≠ 137) (hr : md_rule s ((rp_T P).1 j) = some r) : rx_Z P X j K cs ws nm c0 wt H (r ++ a) := by
  obtain ⟨near, c, w2, ⟨h1, h2⟩, h3⟩ := h
  exact ⟨near, c, w2, ⟨h1, md_Rs_r h2 hs.1 hs.2.1 hs.2.2 hr⟩, h3⟩
/-- NOT -/
theorem rx_Z_not (h : rx_Z P X j K cs ws nm c0 (33 :: wt) H (171 :: 205 :: a)) (hH : 1 ≤ H) (g : gx_244 X u X') : rx_Z P X' j K cs ws nm c0 wt H a := by
  obtain ⟨near, c, w2, ⟨hG, hR⟩, ⟨hK, hkp⟩, ⟨hW, hw⟩, ⟨hc1, hc2, hc3⟩, hc0, hwf⟩ := h
  obtain ⟨n, X2, e2, -, x5, e5, g⟩ := g
  have hw' : (X.1 117 43).toInt = ((wt.length + 1 : Nat) : Int) := hw
  have hcn : md_cn (33 :: wt) = 1 + md_cn wt := rfl
  rw [hcn] at hc1 hc2 hc3
  have e1 : (Int32.ofInt 1).toInt = 1 := rfl
  have hi : ((X.1 117 43) - (Int32.ofInt 1)).toInt = (wt.length : Int) := by
    have := fx_le31 (X.1 117 43)
    rw [fx_sub (by omega) (by omega), hw', e1]; omega
  have h43 : X2.1 117 43 = X.1 117 43 - Int32.ofInt 1 := by rw [e2, fx_rIe]
  have h5 : x5.toInt = 33 := by
    rw [e5, h43, fx_in hi, e2, fx_rIn (by decide)]
    exact hW.1
  rw [if_pos h5] at g
  obtain ⟨X14, e14, w16, X15, r, rfl⟩ := g
  have f14 : fy [(117, 41), (117, 43)] [] [] X X14 := by rw [e14, e2]; exact fy_f (fy_f fy_rf (by decide)) (by decide)
  have fr := gf_245 r
  have f15 : fy [(117, 41), (117, 43)] [] [137] X X' := fy_tr (fy_sub f14 (by decide) (by decide) (by decide)) (fy_sub fr (by decide) (by decide) (by decide))
  have hK44 := hK.2.2.1
  have h44 : X14.1 117 44 = X.1 117 44 := f14.2.2 117 44 (by decide) (by decide)
  have hd : ((X14.1 117 44) - (Int32.ofInt 1)).toInt = ((H - 1 : Nat) : Int) := by
    rw [h44, fx_sub (by omega) (by omega), hK44.1, e1]; omega
  have hR1 := md_Rs_171 hR
  have htr : rp_b P = true → ∃ y tr, md_tr w2 = y :: tr := fun hb => by
    have := (hK.2.2.2 hb).1
    cases hm : md_tr w2 with
    | nil => rw [hm] at this; exact absurd this (by show ¬ 0 = H; omega)
    | cons y tr => exact ⟨y, tr, rfl⟩
  obtain ⟨w3, hR2, hw3⟩ := md_Rs_not hR1 htr
  have c14 : (md_u c 14 (c 14 - Int32.ofInt 1) 14).toInt = (md_cn wt : Int) := by
    show (c 14 - Int32.ofInt 1).toInt = _
    rw [fx_sub (by omega) (by omega), hc2, e1]; omega
  refine ⟨near, _, w3, ⟨?_, hR2⟩, ⟨?_, fun hb => ?_⟩, ⟨rx_W_fr hW.2 ?_, ?_⟩, ⟨?_, c14, by omega⟩, fun k hk => (if_neg hk).trans (hc0 k hk), hwf.2⟩
  · have hG' := rx_G_fr hG f15 (by decide) (by decide)
    exact hG'
  · have hU := rx_U_fr hK.1 f15 (by decide) (by decide)
    have hV := rx_V_fr hK.2.1 f15 (by decide) (by decide)
    refine ⟨hU, hV, ?_, fun hb => ?_⟩
    · rw [f15.2.2 117 44 (by decide) (by decide)]; exact hK44
    · obtain ⟨y, tr, hm⟩ := htr hb
      have hm2 := (hw3 hb).2 y tr hm
      obtain ⟨hl, hC⟩ := hK.2.2.2 hb
      rw [hm] at hl hC
      have hl' : tr.length + 1 = H := hl
      have hG14 := rx_G_fr hG f14 (by decide) (by decide)
      have hst := hG14.2.2.2.2.1
      rw [hb, if_pos rfl] at hst
      have hU14 := rx_U_fr hK.1 f14 (by decide) (by decide)
      obtain ⟨b1, b2, b3⟩ := rx_245 hst hG14.2.2.2.1.1 hU14.2.1 hU14.2.2.2.1.2 hd (by omega) r
      have e137 : X14.1 137 = X.1 137 := fy_ra f14 (by decide) (by decide)
      have hVm := rx_V_m hK.2.1 hb
      rw [hm2]
      refine ⟨hl, fun n hn => ?_, rx_C_low hC.2 (fun k b hk hb' => ?_) (fun w hw => (hVm.2.1 w hw).2)⟩
      · show fx_bt (X'.1 137) (32 * tr.length) (n / md_m P cs.1) = !y n
        rw [b3 _ _ (hVm.2.1 n hn).2, if_pos ⟨by omega, (hVm.2.1 n hn).1⟩, e137, hC.1 n hn]
      · rw [b3 _ _ hb', if_neg (by omega), e137]
  · obtain ⟨z1, z2, z3⟩ := (hw3 hb).1
    obtain ⟨y1, y2, y3⟩ := hkp hb
    exact ⟨z1.trans y1, z2.trans y2, z3.trans y3⟩
  · exact fy_ra f15 (by decide) (by decide)
  · have : X'.1 117 43 = X.1 117 43 - Int32.ofInt 1 := by
      rw [fr.2.2 117 43 (by decide) (by decide), e14, fx_rIk (by decide), h43]
    rw [this]; exact hi
  · have : X'.1 117 41 = X.1 117 41 - Int32.ofInt 1 := by
      rw [fr.2.2 117 41 (by decide) (by decide), e14, fx_rIe, e2, fx_rIk (by decide)]
    rw [this, fx_sub (by omega) (by omega), hc1, e1]; omega
/-- AND, OR -/
theorem rx_Z_bin (h : rx_Z P X j K cs ws nm c0 (x :: wt) H (s :: a)) (hx : (x = 38 ∧ s = 206) ∨ (x = 124 ∧ s = 207)) (hH : 2 ≤ H) (g : gx_244 X u X') : rx_Z P X' j K cs ws nm c0 wt (H - 1) a := by
  obtain ⟨near, c, w2, ⟨hG, hR⟩, ⟨hK, hkp⟩, ⟨hW, hw⟩, ⟨hc1, hc2, hc3⟩, hc0, hwf⟩ := h
  obtain ⟨n, X2, e2, -, x5, e5, g⟩ := g
  have hw' : (X.1 117 43).toInt = ((wt.length + 1 : Nat) : Int) := hw
  have hcn : md_cn (x :: wt) = md_cn wt := by
    show (if x = 33 ∨ x = 40 then 1 else 0) + md_cn wt = _
    rw [if_neg (by omega), Nat.zero_add]
  rw [hcn] at hc1 hc2 hc3
  have e1 : (Int32.ofInt 1).toInt = 1 := rfl
  have hK44 := hK.2.2.1
  have hi : ((X.1 117 43) - (Int32.ofInt 1)).toInt = (wt.length : Int) := by
    have := fx_le31 (X.1 117 43)
    rw [fx_sub (by omega) (by omega), hw', e1]; omega
  have h43 : X2.1 117 43 = X.1 117 43 - Int32.ofInt 1 := by rw [e2, fx_rIe]
  have h5 : x5.toInt = x := by
    rw [e5, h43, fx_in hi, e2, fx_rIn (by decide)]
    exact hW.1
  rw [if_neg (by rw [h5]; omega)] at g
  obtain ⟨X8, e8, x9, e9, x11, e11, g⟩ := g
  have f8 : fy [(117, 43), (117, 44)] [] [] X X8 := by rw [e8, e2]; exact fy_f (fy_f fy_rf (by decide)) (by decide)
  have h844 : X8.1 117 44 = X.1 117 44 - Int32.ofInt 1 := by rw [e8, fx_rIe, e2, fx_rIk (by decide)]
  have h8i : (X8.1 117 44).toInt = ((H - 1 : Nat) : Int) := by
    rw [h844, fx_sub (by omega) (by omega), hK44.1, e1]; omega
  have h8j : (X8.1 117 44 - Int32.ofInt 1).toInt = ((H - 2 : Nat) : Int) := by
    rw [fx_sub (by omega) (by omega), h8i, e1]; omega
  have h9 : x9.toInt = ((32 * (H - 2) : Nat) : Int) := by rw [e9]; exact rx_i32 h8j (by omega)
  have h11 : x11.toInt = ((32 * (H - 2 + 1) : Nat) : Int) := by
    rw [e11, show H - 2 + 1 = H - 1 by omega]; exact rx_i32 h8i (by omega)
  have fr : fy [] [] [137] X8 X' ∧ (rp_b P = true → ∀ k' b', b' < 1024 → fx_bt (X'.1 137) (32 * k') b' = if k' = H - 2 ∧ 0 ≤ b' ∧ b' < md_all cs.1 then (if x = 124 then fx_bt (X8.1 137) (32 * (H - 2)) b' || fx_bt (X8.1 137) (32 * (H - 2 + 1)) b' else fx_bt (X8.1 137) (32 * (H - 2)) b' && fx_bt (X8.1 137) (32 * (H - 2 + 1)) b') else fx_bt (X8.1 137) (32 * k') b') := by
    have hG8 := rx_G_fr hG f8 (by decide) (by decide)
    have hst := hG8.2.2.2.2.1
    cases hb : rp_b P with
    | false =>
      rw [hb, if_neg (by decide)] at hst
      cases n with
      | zero => exact g.elim
      | succ n =>
        have g := gxO_244_78 g
        unfold gxT_244_78 at g
        rw [if_pos hst] at g
        rw [g]
        exact ⟨fy_rf, fun z => by cases z⟩
    | true =>
      rw [hb, if_pos rfl] at hst
      have hU8 := rx_U_fr hK.1 f8 (by decide) (by decide)
      obtain ⟨b1, b2, b3⟩ := rx_244l (x := x) (d := H - 2) hst hG8.2.2.2.1.1 hU8.2.1 hU8.2.2.2.1.2 h5 h9 h11 (by omega) n 0 _ X8 rfl rfl (fun _ _ _ => rfl) g
      exact ⟨⟨by rw [b1], fun r k _ _ => by rw [b1], fun r k hr _ => b2 r k (fun z => hr (by rw [z]; exact List.mem_singleton.mpr rfl))⟩, fun _ => b3⟩
  obtain ⟨fr, hbits⟩ := fr
  have f15 : fy [(117, 43), (117, 44)] [] [137] X X' := fy_tr (fy_sub f8 (by decide) (by decide) (by decide)) (fy_sub fr (by decide) (by decide) (by decide))
  have htr : rp_b P = true → ∃ y x tr, md_tr w2 = y :: x :: tr ∧ tr.length ≤ 30 := fun hb => by
    have := (hK.2.2.2 hb).1
    cases hm : md_tr w2 with
    | nil => rw [hm] at this; exact absurd this (by show ¬ 0 = H; omega)
    | cons y tr =>
      cases tr with
      | nil => rw [hm] at this; exact absurd this (by show ¬ 1 = H; omega)
      | cons x tr => exact ⟨y, x, tr, rfl, by rw [hm] at this; have : tr.length + 1 + 1 = H := this; omega⟩
  obtain ⟨w3, hR2, hw3⟩ := md_Rs_bin hR (by omega) htr
  refine ⟨near, c, w3, ⟨rx_G_fr hG f15 (by decide) (by decide), hR2⟩, ⟨?_, fun hb => ?_⟩, ⟨rx_W_fr hW.2 (fy_ra f15 (by decide) (by decide)), ?_⟩, ⟨?_, hc2, hc3⟩, hc0, hwf.2⟩
  · have hU := rx_U_fr hK.1 f15 (by decide) (by decide)
    have hV := rx_V_fr hK.2.1 f15 (by decide) (by decide)
    refine ⟨hU, hV, ?_, fun hb => ?_⟩
    · rw [fr.2.2 117 44 (by decide) (by decide)]; exact ⟨h8i, by omega⟩
    · obtain ⟨y, x2, tr, hm, -⟩ := htr hb
      have hm2 := (hw3 hb).2 y x2 tr hm
      obtain ⟨hl, hC⟩ := hK.2.2.2 hb
      rw [hm] at hl hC
      have hl' : tr.length + 1 + 1 = H := hl
      have e137 : X8.1 137 = X.1 137 := fy_ra f8 (by decide) (by decide)
      have hVm := rx_V_m hK.2.1 hb
      have hbits := hbits hb
      rw [hm2]
      refine ⟨by show tr.length + 1 = H - 1; omega, fun n hn => ?_, rx_C_low hC.2.2 (fun k b hk hb' => ?_) (fun w hw => (hVm.2.1 w hw).2)⟩
      · show fx_bt (X'.1 137) (32 * tr.length) (n / md_m P cs.1) = if s = 207 then x2 n || y n else x2 n && y n
        have q1 : fx_bt (X.1 137) (32 * (tr.length + 1)) (n / md_m P cs.1) = y n := hC.1 n hn
        have q2 : fx_bt (X.1 137) (32 * tr.length) (n / md_m P cs.1) = x2 n := hC.2.1 n hn
        rw [hbits _ _ (hVm.2.1 n hn).2, if_pos ⟨by omega, Nat.zero_le _, (hVm.2.1 n hn).1⟩, e137, show H - 2 = tr.length by omega, q1, q2]
        rcases hx with ⟨z1, z2⟩ | ⟨z1, z2⟩
        · rw [if_neg (by omega), if_neg (by omega)]
        · rw [if_pos z1, if_pos z2]
      · rw [hbits _ _ hb', if_neg (by omega), e137]
  · obtain ⟨z1, z2, z3⟩ := (hw3 hb).1
    obtain ⟨y1, y2, y3⟩ := hkp hb
    exact ⟨z1.trans y1, z2.trans y2, z3.trans y3⟩
  · have : X'.1 117 43 = X.1 117 43 - Int32.ofInt 1 := by
      rw [fr.2.2 117 43 (by decide) (by decide), e8, fx_rIk (by decide), h43]
    rw [this]; exact hi
  · rw [f15.2.2 117 41 (by decide) (by decide)]; exact hc1
end DD8
