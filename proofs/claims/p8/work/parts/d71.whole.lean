/-! THE REFERENCE: a text, whole -/
section DD71
variable {P : md_P} {X X' X0 X1 X2 : fx_X} {K K0 : List md_Sy} {n d k j near l : Nat} {v w : Int32} {a : Int} {c c' : md_C} {nm : md_Nm} {cs cs' : md_CS} {ws ws' : md_WS} {L : List (Int × Nat × Int64)} {fr : Int64}
theorem rx_204 (hX : rx_RD P X) (hL : rx_L0 P) (hW : rp_b P = true → 1 ≤ rp_W P ∧ rp_W P ≤ 1024) (hcs : cs = ([], none, [], (0, 0), [], [], fr)) (hws : ws.1 = [] ∧ ws.2.1 = [] ∧ md_tr ws = [] ∧ md_ptw ws = []) (hR : md_R P [(130, 0), (1, 0)] 0 0 md_c0 [] (cs, ws)) (g : gx_204 X v X') : rx_TE P X v X' := by
  obtain ⟨n, g⟩ := g
  unfold gxE_204 at g
  obtain ⟨-, X4, e4, -, X7, e7, -, X10, e10, -, X13, e13, -, X16, e16, w18, X17, r1, g⟩ := g
  have hX0 := hX
  obtain ⟨h1, h2, h3, ⟨h4, hh⟩, h5, h6⟩ := hX0
  have k4 : X4.1 117 = X.1 117 := by rw [e4, fx_rIn (by decide)]
  have k7 : X7.1 117 = X.1 117 := by rw [e7, fx_rIn (by decide), k4]
  have k10 : X10.1 117 = X.1 117 := by rw [e10, fx_rIn (by decide), k7]
  have k13 : X13.1 117 = X.1 117 := by rw [e13, fx_rIn (by decide), k10]
  have k16 : X16.1 117 = X.1 117 := by rw [e16, fx_rIn (by decide), k13]
  rw [fx_in h4] at e4
  rw [k4, fx_in h4] at e7
  rw [k7, fx_in h4] at e10
  rw [k10, fx_in h4] at e13
  rw [k13, fx_in h4] at e16
  have f16 : fy [(118, rp_h P), (122, rp_h P), (124, rp_h P), (127, rp_h P), (128, rp_h P)] [] [] X X16 := by
    rw [e16, e13, e10, e7, e4]
    exact fy_f (fy_f (fy_f (fy_f (fy_f fy_rf (by simp)) (by simp)) (by simp)) (by simp)) (by simp)
  have hX16 : rx_RD P X16 := by
    refine ⟨?_, by rw [k16]; exact h2, h3, ⟨by rw [k16]; exact h4, hh⟩, by rw [k16]; exact h5, by rw [k16]; exact h6⟩
    rw [e16, fx_rIn (by decide), e13, fx_rIn (by decide), e10, fx_rIn (by decide), e7, fx_rIn (by decide), e4, fx_rIn (by decide)]
    exact h1
  obtain ⟨hG, f17⟩ := rx_205 hX16 hL r1
  have hO16 : rx_O (rp_h P) X X16 := by
    rw [e16, e13, e10, e7, e4]
    exact rx_O_tr (rx_O_tr (rx_O_tr (rx_O_tr (rx_O_w hh (by omega)) (rx_O_w hh (by omega))) (rx_O_w hh (by omega))) (rx_O_w hh (by omega))) (rx_O_w hh (by omega))
  have hO17 : rx_O (rp_h P) X X17 := rx_O_tr hO16 (rx_O_fr f17 (by decide) (by decide))
  have s : ∀ a, a ≠ 117 → X17.1 a = X16.1 a := fun a ha => fy_ra f17 List.not_mem_nil (fun q hq z => by
    have : q.1 = 117 := by
      have key : ∀ q : Nat × Nat, q ∈ [((117 : Nat), (26 : Nat)), (117, 27), (117, 28), (117, 29), (117, 30), (117, 31), (117, 41), (117, 45), (117, 46), (117, 47)] → q.1 = 117 := by decide
      exact key q hq
    omega)
  have i118 : (X17.1 118 (rp_h P)).toInt = 0 := by
    rw [s 118 (by decide), e16, fx_rIn (by decide), e13, fx_rIn (by decide), e10, fx_rIn (by decide), e7, fx_rIn (by decide), e4, fx_rIe]; rfl
  have i124 : (X17.1 124 (rp_h P)).toInt = 0 := by
    rw [s 124 (by decide), e16, fx_rIn (by decide), e13, fx_rIn (by decide), e10, fx_rIn (by decide), e7, fx_rIe]; rfl
  have i127 : (X17.1 127 (rp_h P)).toInt = 0 := by
    rw [s 127 (by decide), e16, fx_rIn (by decide), e13, fx_rIn (by decide), e10, fx_rIe]; rfl
  have i122 : (X17.1 122 (rp_h P)).toInt = 1 := by
    rw [s 122 (by decide), e16, fx_rIe]; rfl
  subst hcs
  refine rx_204l n X17 (Or.inr ⟨0, 0, 0, md_c0, [], ([], none, [], (0, 0), [], [], fr), ws, ⟨hG, ⟨⟨i118, i122, Nat.zero_le _, ⟨Nat.le_refl _, by show 1 ≤ 1024; decide⟩, fun u x hx => by cases hx⟩, fun hb => ?_, ⟨i124, Nat.zero_le _, fun t x hx => (by cases hx), List.nodup_nil, rfl, fun t x k hx _ _ => by cases hx⟩, fun hb => ?_⟩, ⟨rfl, rfl⟩, rfl, fun hb => ⟨hws.2.2.1, hws.2.1, ?_⟩⟩, hR⟩) (fun _ => hO17) g
  · refine ⟨?_, ⟨(hW hb).2, (hW hb).1⟩, Nat.zero_le _, fun w u _ hu => absurd hu (Nat.not_lt_zero u)⟩
    show rp_W P = 1 * (rp_W P / 1)
    rw [Nat.div_one, Nat.one_mul]
  · refine ⟨by rw [hws.1]; rfl, fun t A x hA => ?_, ?_⟩
    · rw [hws.1] at hA
      cases hA
    · rw [hws.2.2.2]
      exact ⟨i127, Nat.zero_le _, fun p f hf => by cases hf⟩
  · rw [hws.2.2.2]
    rfl
theorem md_fd_c {b : Bool} {q : md_S} {e : md_Ev} {es : List md_Ev} : md_fd b P q (e :: es) = md_bd (md_step b P q e) (fun q' => md_fd b P q' es) := rfl
theorem md_step_f {q : md_S} {e : md_Ev} : md_step false P q e = md_bd (md_ck (rp_T P) q.1 e) (fun p => md_k (p.1, q.2)) := by
  unfold md_step
  exact congrArg _ (funext fun p => if_neg Bool.false_ne_true)
theorem md_step_t {q : md_S} {e : md_Ev} : md_step true P q e = md_bd (md_ck (rp_T P) q.1 e) (fun p => md_bd (md_wk (md_all (rp_Uf P)) (rp_Uf P).length (md_val (rp_Uf P)) (md_wd2 p.1 e) q.2 e p.2) (fun w => md_k (p.1, w))) := by
  unfold md_step
  exact congrArg _ (funext fun p => if_pos rfl)
/-- without work the check is the check -/
theorem md_fd_T {P1 P2 : md_P} (hT : rp_T P1 = rp_T P2) {es : List md_Ev} : ∀ (q : md_S), md_fd false P1 q es = md_fd false P2 q es := by
  induction es with
  | nil => intro q; rfl
  | cons e es ih =>
    intro q
    rw [md_fd_c, md_fd_c, md_step_f, md_step_f, hT]
    exact congrArg _ (funext fun q' => ih q')
/-- the UNKNOWNS of the whole text decide what is worked out -/
theorem md_fd_U {P1 P2 : md_P} (hT : rp_T P1 = rp_T P2) (hU : rp_Uf P1 = rp_Uf P2) {es : List md_Ev} : ∀ (q : md_S), md_fd true P1 q es = md_fd true P2 q es := by
  induction es with
  | nil => intro q; rfl
  | cons e es ih =>
    intro q
    rw [md_fd_c, md_fd_c, md_step_t, md_step_t, hT, hU]
    exact congrArg _ (funext fun q' => ih q')
end DD71
