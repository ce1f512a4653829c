/-! THE REFERENCE: two TERMS compared -/
def rx_vw (h : Nat) (X : fx_X) (x : md_Sd) (w : Nat) : Int32 := if x.1 = 1 then X.1 123 ((8 * h + x.2.toInt.toNat) * 1024 + w) else x.2
/-- all but the truths, sides, relation -/
def md_kp (ws w2 : md_WS) : Prop := w2.1 = ws.1 ∧ w2.2.1 = ws.2.1 ∧ w2.2.2.2.2.2 = ws.2.2.2.2.2
def md_tr (w : md_WS) : List (Nat → Bool) := w.2.2.1
section DD5
variable {P : md_P} {X X' X0 X1 : fx_X} {K : List md_Sy} {s a : Int} {l j j' near : Nat} {c : md_C} {nm : md_Nm} {cs : md_CS} {ws w2 : md_WS} {v w p p1 p2 p3 p4 : Int32} {u : Unit} {Q : Prop} {h M H k n : Nat} {x x1 x2 : md_Sd} {r : Int}
theorem rx_240 (h1 : p1.toInt = (h : Int)) (hh : h ≤ 1) (h2 : p2.toInt = x.1) (h3 : p3 = x.2) (h4 : p4.toInt = (k : Int)) (hk : k < 1024) (hx : x.1 = 0 ∨ (x.1 = 1 ∧ 0 ≤ x.2.toInt ∧ x.2.toInt < 8)) (g : gx_240 p1 p2 p3 p4 X v X') : X' = X ∧ v = rx_vw h X x k := by
  unfold gx_240 at g
  unfold rx_vw
  rcases fy_ifd g with ⟨c, g⟩ | ⟨c, g⟩
  · obtain ⟨w4, X3, ⟨-, rfl, rfl⟩, rfl, rfl⟩ := g
    have hx1 : x.1 = 1 := by omega
    have hx2 : x.2.toInt = (x.2.toInt.toNat : Int) := by omega
    rw [h3, if_pos hx1]
    have e1 : (p1 * ((Int8.ofInt 8).toInt32) + x.2).toInt = ((h * 8 + x.2.toInt.toNat : Nat) : Int) := rx_lin h1 rfl hx2 (by omega)
    have e2 : ((p1 * ((Int8.ofInt 8).toInt32) + x.2) * ((Int16.ofInt 1024).toInt32) + p4).toInt = (((h * 8 + x.2.toInt.toNat) * 1024 + k : Nat) : Int) := rx_lin e1 rfl h4 (by omega)
    rw [fx_in e2, show (h * 8 + x.2.toInt.toNat) * 1024 + k = (8 * h + x.2.toInt.toNat) * 1024 + k by omega]
    exact ⟨rfl, rfl⟩
  · rw [if_neg (by omega), ← h3]
    exact ⟨g.2, g.1⟩
theorem rx_ti {t : Bool} : ((if t = true then Int32.ofInt 1 else Int32.ofInt 0).toInt != 0) = t := by cases t <;> rfl
theorem rx_i32 (h1 : p.toInt = (k : Int)) (hk : k ≤ 30000) : (p * ((Int8.ofInt 32).toInt32)).toInt = ((32 * k : Nat) : Int) := by
  have e : ((Int8.ofInt 32).toInt32).toInt = 32 := rfl
  rw [fx_mul (by rw [h1, e]; omega) (by rw [h1, e]; omega), h1, e]
  omega
/-- bits of one row of truths, in the WORLDS from k on -/
theorem rx_238l (hb : (X0.1 117 32).toInt = 1) (hh : (X0.1 117 37).toInt = (h : Int)) (hh1 : h ≤ 1) (hM : (X0.1 122 h).toInt = (M : Int)) (hM4 : M ≤ 1024) (hH : (X0.1 117 44).toInt = (H : Int)) (hH4 : H ≤ 40) {y1 y2 y3 : Int32} (h1 : y1.toInt = x1.1) (h2 : y2 = x1.2) (hx1 : x1.1 = 0 ∨ (x1.1 = 1 ∧ 0 ≤ x1.2.toInt ∧ x1.2.toInt < 8)) (h3 : (X0.1 117 38).toInt = x2.1) (h4 : X0.1 117 39 = x2.2) (hx2 : x2.1 = 0 ∨ (x2.1 = 1 ∧ 0 ≤ x2.2.toInt ∧ x2.2.toInt < 8)) (hr : rx_rl y3.toInt r) : ∀ (n k : Nat) (y4 : Int32) (X : fx_X), y4.toInt = (k : Int) → X.2 = X0.2 → (∀ q i, q ≠ 137 → X.1 q i = X0.1 q i) → gxF_238 n 81 [y1, y2, y3, y4] [] [] X v X' → v = Int32.ofInt 1 ∧ ∃ X2, X' = fx_wI X2 117 44 (X0.1 117 44 + Int32.ofInt 1) ∧ X2.2 = X0.2 ∧ (∀ q i, q ≠ 137 → X2.1 q i = X0.1 q i) ∧ ∀ k' b', b' < 1024 → fx_bt (X2.1 137) (32 * k') b' = if k' = H ∧ k ≤ b' ∧ b' < M then md_cmp r (rx_vw h X0 x1 b') (rx_vw h X0 x2 b') else fx_bt (X.1 137) (32 * k') b' := by
  intro n
  induction n with
  | zero => intro k y4 X _ _ _ g; exact g.elim
  | succ n ih =>
    intro k y4 X hk e2 e1 g
    replace g := gxO_238_81 g
    unfold gxT_238_81 at g
    rw [if_neg (by rw [e1 _ _ (by decide)]; omega), e1 117 37 (by decide), fx_in hh, e1 122 h (by decide)] at g
    replace g := g.2
    rcases fy_ifd g with ⟨hc, gg⟩ | ⟨hc, gg⟩
    · clear g
      obtain ⟨w67, X66, r1, w69, X68, r2, w71, X70, r3, w73, X72, r4, x74, rfl, gg⟩ := gg
      have hk1 : k < 1024 := by omega
      obtain ⟨rfl, rfl⟩ := rx_240 hh hh1 h1 h2 hk hk1 hx1 r1
      obtain ⟨rfl, rfl⟩ := rx_240 (x := x2) (by rw [e1 117 37 (by decide)]; exact hh) hh1 (by rw [e1 117 38 (by decide)]; exact h3) (by rw [e1 117 39 (by decide)]; exact h4) hk hk1 hx2 r2
      obtain ⟨rfl, rfl⟩ := rx_242 hr r3
      obtain ⟨⟨b1, b2, b3⟩, -⟩ := rx_228 (k := H) (rx_i32 (by rw [e1 117 44 (by decide)]; exact hH) (by omega)) hk (by omega) hk1 r4
      obtain ⟨q1, X2, q2, q3, q4, q5⟩ := ih (k + 1) _ X72 (cx_in1 hk (by omega)) (b1.trans e2) (fun q i hq => (b2 q i hq).trans (e1 q i hq)) gg
      refine ⟨q1, X2, q2, q3, q4, fun k' b' hb' => ?_⟩
      rw [q5 k' b' hb', b3 k' b' hb']
      have ev : ∀ x : md_Sd, rx_vw h X70 x k = rx_vw h X0 x k := fun x => by
        unfold rx_vw
        rw [e1 123 _ (by decide)]
      rw [rx_ti, ev, ev]
      by_cases z : k' = H
      · by_cases z2 : b' = k
        · rw [if_neg (by omega), if_pos ⟨z, z2⟩, if_pos (by omega), z2]
        · by_cases z3 : k + 1 ≤ b' ∧ b' < M
          · rw [if_pos ⟨z, z3⟩, if_pos (by omega)]
          · rw [if_neg (fun y => z3 y.2), if_neg (fun y => z2 y.2), if_neg (by omega)]
      · rw [if_neg (fun y => z y.1), if_neg (fun y => z y.1), if_neg (fun y => z y.1)]
    · obtain ⟨X64, e64, gg⟩ := gg
      refine ⟨gg.1, X, ?_, e2, e1, fun k' b' hb' => ?_⟩
      · rw [gg.2, e64, e1 117 44 (by decide)]
      · rw [if_neg (by omega)]
theorem md_ck204 {T : md_T} (hs : s = 204 ∨ s = 205 ∨ s = 206 ∨ s = 207) : md_ck T cs (s, near, l) = md_k (cs, 0) := by
  obtain ⟨U, cu, TB, rw, sk, pk, fr⟩ := cs
  rcases hs with e | e | e | e
  · subst e; exact md_k204
  · subst e; exact md_k205
  · subst e; exact md_k206
  · subst e; exact md_k207
theorem md_okb_i {n wd : Nat} {x : md_Sd} (h : x.1 = 0 ∨ (x.1 = 1 ∧ 0 ≤ x.2.toInt ∧ x.2.toInt < (n : Int))) : md_okb n wd x = true := by
  unfold md_okb
  simp only [Bool.or_eq_true, Bool.and_eq_true, beq_iff_eq, decide_eq_true_eq]
  rcases h with h | h
  · exact Or.inl (Or.inl h)
  · exact Or.inl (Or.inr h)
theorem md_wk204 {W n wd : Nat} {val : md_V} {arg : Int} (h1 : (md_tr ws).length < 32) (h2 : md_okb n 0 ws.2.2.2.1.1 = true) (h3 : md_okb n 0 ws.2.2.2.1.2 = true) : md_wk W n val wd ws (204, near, l) arg = md_k (ws.1, ws.2.1, (fun w => md_cmp ws.2.2.2.2.1 (md_sv val w [] ws.2.2.2.1.1) (md_sv val w [] ws.2.2.2.1.2)) :: md_tr ws, ws.2.2.2) := by
  obtain ⟨tb, sk, tr, sd, rel, pt, rt, pk, fo, fd⟩ := ws
  show (if 32 ≤ tr.length ∨ md_okb n 0 sd.1 = false ∨ md_okb n 0 sd.2 = false then none else _) = _
  rw [if_neg (by
    intro z
    rcases z with z | z | z
    · have : tr.length < 32 := h1
      omega
    · have : md_okb n 0 sd.1 = true := h2
      rw [this] at z; cases z
    · have : md_okb n 0 sd.2 = true := h3
      rw [this] at z; cases z)]
  rfl
/-- the state of a COND on its way -/
def rx_K (P : md_P) (X : fx_X) (cs : md_CS) (ws : md_WS) (H : Nat) : Prop := rx_U P X cs.1 ∧ rx_V P X cs.1 ∧ ((X.1 117 44).toInt = (H : Int) ∧ H ≤ 31) ∧ (rp_b P = true → (md_tr ws).length = H ∧ rx_C P X (md_m P cs.1) (md_tr ws))
theorem rx_K_fr {F L : List (Nat × Nat)} {A : List Nat} (h : rx_K P X cs ws H) (hf : fy F L A X X') (hA : 118 ∉ A ∧ 119 ∉ A ∧ 120 ∉ A ∧ 121 ∉ A ∧ 122 ∉ A ∧ 123 ∉ A ∧ 137 ∉ A ∧ 117 ∉ A) (hF : (∀ q, q ∈ F → q.1 < 118) ∧ (∀ q, q ∈ L → q.1 < 118) ∧ (117, 44) ∉ F) (ht : md_tr w2 = md_tr ws) : rx_K P X' cs w2 H := by
  obtain ⟨h1, h2, h3, h4⟩ := h
  refine ⟨rx_U_fr h1 hf ⟨hA.1, hA.2.1, hA.2.2.1, hA.2.2.2.1, hA.2.2.2.2.1⟩ ⟨hF.1, hF.2.1⟩, rx_V_fr h2 hf hA.2.2.2.2.2.1 (fun q hq => by have := hF.1 q hq; omega), ?_, fun hb => ?_⟩
  · rw [hf.2.2 117 44 hA.2.2.2.2.2.2.2 hF.2.2]; exact h3
  · rw [ht]
    exact ⟨(h4 hb).1, rx_C_fr (h4 hb).2 (fy_ra hf hA.2.2.2.2.2.2.1 (fun q hq => by have := hF.1 q hq; omega))⟩
theorem rx_sv {val : md_V} (hV : rx_V P X cs.1) (hb : rp_b P = true) (hv : val = rp_v P) (hw : n < rp_W P) (hx : x.1 = 0 ∨ (x.1 = 1 ∧ 0 ≤ x.2.toInt ∧ x.2.toInt < (cs.1.length : Int))) : rx_vw (rp_h P) X x (n / md_m P cs.1) = md_sv val n [] x := by
  unfold rx_vw md_sv
  rcases hx with hx | ⟨hx, h1, h2⟩
  · rw [if_neg (by omega), if_pos hx]
  · rw [if_pos hx, if_neg (by omega), if_pos hx, hv]
    exact (hV hb).2.2.2 n _ hw (by omega)
/-- what is behind the first TERM -/
theorem rx_238m (h : rx_B P X ∨ (rx_G P X j c ∧ md_R P ((144, l) :: (143, l) :: (144, l) :: (204, l) :: K) j near c nm (cs, ws) ∧ rx_K P X cs ws H ∧ H ≤ 30 ∧ Q)) (g : ∃ (w4 : Int32) (X3 : fx_X), gx_235 X w4 X3 ∧ (if (w4).toInt = 0 then (v = (Int32.ofInt 0) ∧ X' = X3) else (∃ x6 : Int32, x6 = (X3.1 117 38) ∧ ∃ x8 : Int32, x8 = (X3.1 117 39) ∧ ∃ (w11 : Int32) (X10 : fx_X), gx_239 X3 w11 X10 ∧ (if (w11).toInt = 0 then (v = (Int32.ofInt 0) ∧ X' = X10) else (∃ x13 : Int32, x13 = (X10.1 117 40) ∧ ∃ (w16 : Int32) (X15 : fx_X), gx_235 X10 w16 X15 ∧ (if (w16).toInt = 0 then (v = (Int32.ofInt 0) ∧ X' = X15) else (gxF_238 n 81 [x6, x8, x13, (Int32.ofInt 0)] [] [] X15 v X'))))))) : rx_X P v X' ∨ (v = Int32.ofInt 1 ∧ ∃ j' n2 w2, rx_B P X' ∨ (rx_G P X' j' c ∧ md_R P K j' n2 c nm (cs, w2) ∧ rx_K P X' cs w2 (H + 1) ∧ (rp_b P = true → md_kp ws w2) ∧ Q)) := by
  obtain ⟨w4, X3, r1, g⟩ := g
  have h1 := rx_235 (Q := rx_K P X cs ws H ∧ H ≤ 30 ∧ Q) (h.imp id (fun z => ⟨z.1, z.2.1, z.2.2.1.1, z.2.2.1, z.2.2.2⟩)) r1
  rcases rx_go h1 g with e | ⟨⟨j1, n1, s1, x1, h1⟩, g⟩
  · exact Or.inl e
  obtain ⟨x6, e6, x8, e8, w11, X10, r2, g⟩ := g
  have h2 := rx_239 h1 r2
  rcases rx_go h2 g with e | ⟨⟨s2, rl, h2⟩, g⟩
  · exact Or.inl e
  obtain ⟨x13, e13, w16, X15, r3, g⟩ := g
  have h3 := rx_235 (Q := rx_rl (X10.1 117 40).toInt rl ∧ (rp_b P = true → s2 = md_rlw s1 rl) ∧ rx_td X3 cs.1.length x1 ∧ (rp_b P = true → s1 = md_sft ws x1) ∧ rx_K P X cs ws H ∧ H ≤ 30 ∧ Q) (h2.imp id (fun z => ⟨z.1, z.2.1, rx_U_fr (rx_U_fr z.2.2.2.2.2.2.1.1 (gf_235 r1) (by decide) (by decide)) (gf_239 r2) (by decide) (by decide), z.2.2⟩)) r3
  rcases rx_go h3 g with e | ⟨⟨j3, n3, s3, x3, h3⟩, g⟩
  · exact Or.inl e
  rcases h3 with h3 | ⟨hG, hR, htd3, hs3, hrl, hs2, htd1, hs1, hK, hH2, hQ⟩
  · -- a fault is kept
    cases n with
    | zero => exact g.elim
    | succ n =>
      replace g := gxO_238_81 g
      unfold gxT_238_81 at g
      rw [if_pos h3.2.2] at g
      obtain ⟨X60, e60, rfl, rfl⟩ := g
      exact Or.inr ⟨rfl, 0, 0, ws, Or.inl (rx_B_fr h3 (by rw [e60]; exact fy_f (F := [(117, 44)]) (L := []) (A := []) fy_rf (by decide)) (by decide) (by decide))⟩
  · have hfr : fy fF_238 fL_238 [] X X15 := fy_tr (fy_sub (gf_235 r1) (by decide) (by decide) (by decide)) (fy_tr (fy_sub (gf_239 r2) (by decide) (by decide) (by decide)) (fy_sub (gf_235 r3) (by decide) (by decide) (by decide)))
    have h44 : X15.1 117 44 = X.1 117 44 := by
      rw [(gf_235 r3).2.2 117 44 (by decide) (by decide), (gf_239 r2).2.2 117 44 (by decide) (by decide), (gf_235 r1).2.2 117 44 (by decide) (by decide)]
    have hU := rx_U_fr hK.1 hfr (by decide) (by decide)
    have hV := rx_V_fr hK.2.1 hfr (by decide) (by decide)
    have e137 : X15.1 137 = X.1 137 := fy_ra hfr (by decide) (by decide)
    have hRe := md_R_e0 hR (by decide)
    have hh := hG.2.2.2.1
    have hst := hG.2.2.2.2.1
    have hH1 : (X15.1 117 44).toInt = (H : Int) := by rw [h44]; exact hK.2.2.1.1
    cases hb : rp_b P with
    | false =>
      rw [hb, if_neg (by decide)] at hst
      cases n with
      | zero => exact g.elim
      | succ n =>
        replace g := gxO_238_81 g
        unfold gxT_238_81 at g
        rw [if_pos hst] at g
        obtain ⟨X60, e60, rfl, rfl⟩ := g
        have f60 : fy [(117, 44)] [] [] X15 X' := by rw [e60]; exact fy_f fy_rf (by decide)
        obtain ⟨w2, q1, -, -⟩ := md_Re_n (w' := ws) hRe (md_ck204 (Or.inl rfl)) (fun z => by rw [hb] at z; cases z)
        refine Or.inr ⟨rfl, j3, n3, w2, Or.inr ⟨rx_G_fr hG f60 (by decide) (by decide), q1, ⟨rx_U_fr hU f60 (by decide) (by decide), rx_V_fr hV f60 (by decide) (by decide), ⟨?_, by omega⟩, (fun z => by rw [hb] at z; cases z)⟩, (fun z => by cases z), hQ⟩⟩
        rw [e60, fx_rIe, fx_add (by rw [hH1]; show -2147483648 ≤ (H : Int) + 1; omega) (by rw [hH1]; show (H : Int) + 1 ≤ 2147483647; omega), hH1]
        rfl
    | true =>
      rw [hb, if_pos rfl] at hst
      have hn : ∀ {x : md_Sd}, (x.1 = 0 ∨ (x.1 = 1 ∧ 0 ≤ x.2.toInt ∧ x.2.toInt < (cs.1.length : Int))) → x.1 = 0 ∨ (x.1 = 1 ∧ 0 ≤ x.2.toInt ∧ x.2.toInt < 8) := fun z => by have := hU.2.2.1; omega
      have hrl' : rx_rl x13.toInt rl := by rw [e13]; exact hrl
      obtain ⟨q1, X2, q2, q3, q4, q5⟩ := rx_238l (h := rp_h P) (M := md_all cs.1) (H := H) hst hh.1 hh.2 hU.2.1 hU.2.2.2.1.2 hH1 (by omega) (x1 := x1) (by rw [e6]; exact htd1.1) (by rw [e8]; exact htd1.2.1) (hn htd1.2.2) htd3.1 htd3.2.1 (hn htd3.2.2) hrl' n 0 _ X15 rfl rfl (fun _ _ _ => rfl) g
      obtain ⟨hKl, hKc⟩ := hK.2.2.2 hb
      have hs : s3 = md_sft (md_rlw (md_sft ws x1) rl) x3 := by rw [hs3 hb, hs2 hb, hs1 hb]
      have htr : md_tr s3 = md_tr ws := by rw [hs]; rfl
      have hnn := (hV hb).2.2.1
      obtain ⟨w2, z1, z2, -⟩ := md_Re_n hRe (md_ck204 (Or.inl rfl)) (fun _ => md_wk204 (by rw [htr]; omega) (by rw [hs]; exact md_okb_i (x := x1) (by have := htd1.2.2; omega)) (by rw [hs]; exact md_okb_i (x := x3) (by have := htd3.2.2; omega)))
      have z2 := z2 hb
      have f2 : fy [] [] [137] X15 X2 := ⟨by rw [q3], fun r k _ _ => by rw [q3], fun r k hr _ => q4 r k (fun z => hr (by rw [z]; exact List.mem_singleton.mpr rfl))⟩
      have f3 : fy [(117, 44)] [] [137] X15 X' := by rw [q2]; exact fy_f (fy_sub f2 (by decide) (by decide) (by decide)) (by decide)
      have hVm := rx_V_m hV hb
      have hV' := rx_V_fr hV f3 (by decide) (by decide)
      refine Or.inr ⟨q1, j3, n3, w2, Or.inr ⟨rx_G_fr hG f3 (by decide) (by decide), z1, ⟨rx_U_fr hU f3 (by decide) (by decide), hV', ⟨?_, by omega⟩, fun _ => ?_⟩, fun _ => ?_, hQ⟩⟩
      · rw [q2, fx_rIe, fx_add (by rw [hH1]; show -2147483648 ≤ (H : Int) + 1; omega) (by rw [hH1]; show (H : Int) + 1 ≤ 2147483647; omega), hH1]
        rfl
      · rw [z2]
        have e0 : ∀ k' b', b' < 1024 → fx_bt (X'.1 137) (32 * k') b' = if k' = H ∧ 0 ≤ b' ∧ b' < md_all cs.1 then md_cmp rl (rx_vw (rp_h P) X15 x1 b') (rx_vw (rp_h P) X15 x3 b') else fx_bt (X15.1 137) (32 * k') b' := fun k' b' hb' => by
          rw [q2, fx_rIn (by decide)]
          exact q5 k' b' hb'
        refine ⟨?_, ?_, ?_⟩
        · show (md_tr s3).length + 1 = H + 1
          rw [htr, hKl]
        · intro n hn
          show fx_bt (X'.1 137) (32 * (md_tr s3).length) (n / md_m P cs.1) = md_cmp s3.2.2.2.2.1 (md_sv (rp_v P) n [] s3.2.2.2.1.1) (md_sv (rp_v P) n [] s3.2.2.2.1.2)
          rw [htr, hKl, e0 _ _ (hVm.2.1 n hn).2, if_pos ⟨rfl, Nat.zero_le _, (hVm.2.1 n hn).1⟩, rx_sv hV hb rfl hn htd1.2.2, rx_sv hV hb rfl hn htd3.2.2, hs]
          rfl
        · show rx_C P X' (md_m P cs.1) (md_tr s3)
          rw [htr]
          refine rx_C_low hKc (fun k b hk hb' => ?_) (fun w hw => (hVm.2.1 w hw).2)
          rw [e0 _ _ hb', if_neg (by omega), e137]
      · rw [z2, hs]
        exact ⟨rfl, rfl, rfl⟩
theorem rx_238 (h : rx_B P X ∨ (rx_G P X j c ∧ md_R P ((142, l) :: K) j near c nm (cs, ws) ∧ ((rp_T P).1 j ≠ 33 ∧ (rp_T P).1 j ≠ 40) ∧ rx_K P X cs ws H ∧ H ≤ 30 ∧ Q)) (g : gx_238 X v X') : rx_X P v X' ∨ (v = Int32.ofInt 1 ∧ ∃ j' n2 w2, rx_B P X' ∨ (rx_G P X' j' c ∧ md_R P K j' n2 c nm (cs, w2) ∧ rx_K P X' cs w2 (H + 1) ∧ (rp_b P = true → md_kp ws w2) ∧ Q)) := by
  have h0 : rx_B P X ∨ (rx_G P X j c ∧ md_R P ((144, j) :: (143, j) :: (144, j) :: (204, j) :: K) j near c nm (cs, ws) ∧ rx_K P X cs ws H ∧ H ≤ 30 ∧ Q) := h.imp id (fun z => ⟨z.1, md_R_r (r := [144, 143, 144, 204]) z.2.1 (by decide) (by decide) (by decide) (by
    show (md_50 142 _).map _ = _
    unfold md_50
    rw [if_neg (by decide), if_neg (by decide), if_neg (by decide), if_neg (by decide), if_pos rfl, if_neg z.2.2.1.1, if_neg z.2.2.1.2]
    rfl), z.2.2.2⟩)
  obtain ⟨n, g⟩ := g
  unfold gxE_238 at g
  rcases fy_ifd g with ⟨c1, g⟩ | ⟨c1, g⟩
  · exact rx_238m h0 g
  obtain ⟨w20, X19, r, g1⟩ := g
  obtain ⟨rfl, hw⟩ := rx_220 r
  have e45 : ((Int8.ofInt 45).toInt32).toInt = 45 := rfl
  rw [e45] at hw
  rcases fy_ifd g1 with ⟨c2, g2⟩ | ⟨c2, g2⟩
  · obtain ⟨w39, X38, r, g3⟩ := g2
    obtain ⟨rfl, hw2⟩ := rx_220 r
    have e63 : ((Int8.ofInt 63).toInt32).toInt = 63 := rfl
    rw [e63] at hw2
    rcases fy_ifd g3 with ⟨c3, g4⟩ | ⟨c3, g4⟩
    · obtain ⟨w58, X57, r, rfl, rfl⟩ := g4
      left
      rcases h0 with h0 | ⟨hG, hR, -⟩
      · exact rx_215 h0.1 (by decide) r
      · have n1 : (rp_T P).1 j ≠ 45 := fun z => by
          rcases hw with hw | hw
          · omega
          · exact hw.2 ((rx_sg_i hG (by decide)).mpr z)
        have n2 : (rp_T P).1 j ≠ 63 := fun z => by
          rcases hw2 with hw | hw
          · omega
          · exact hw.2 ((rx_sg_i hG (by decide)).mpr z)
        have n3 : (rp_T P).1 j ≠ 4 := fun z => c1 ((rx_k hG).2.2.1.mpr z)
        rcases md_R_144 hR n2 with y | y
        · omega
        · exact rx_215 y.2.2 (by decide) r
    · exact rx_238m h0 g4
  · exact rx_238m h0 g2
end DD5
