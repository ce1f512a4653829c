/-! THE CLASS: a COND understood leaves the shelf -/
/-- nothing of the shelf changes -/
def cx_kp (X X' : fx_X) : Prop := (∀ q k, (q < 78 ∨ 95 ≤ q) → (q = 52 → k ≠ 1) → X'.1 q k = X.1 q k) ∧ (∀ q, (q < 78 ∨ 95 ≤ q) → X'.2.1 q = X.2.1 q) ∧ (∀ r k, (r = 91 → k ≠ 2) → X'.2.2.1 r k = X.2.2.1 r k) ∧ X'.2.2.2 = X.2.2.2
section CE05
variable {X X' X0 X1 : fx_X} {v p y1 y2 y3 : Int32} {u : Unit} {sr k m j near l nl N n : Nat} {T : md_T} {es : List md_Ev} {F Lf : List (Nat × Nat)} {A : List Nat}
theorem cx_kp_tr (h1 : cx_kp X X0) (h2 : cx_kp X0 X1) : cx_kp X X1 := ⟨fun q k a b => (h2.1 q k a b).trans (h1.1 q k a b), fun q a => (h2.2.1 q a).trans (h1.2.1 q a), fun r k a => (h2.2.2.1 r k a).trans (h1.2.2.1 r k a), h2.2.2.2.trans h1.2.2.2⟩
theorem cx_kp_fy (hf : fy F Lf A X X') (hF : ∀ q, q ∈ F → q = (52, 1) ∨ 78 ≤ q.1 ∧ q.1 < 95) (hL : ∀ q, q ∈ Lf → 78 ≤ q.1 ∧ q.1 < 95) (hA : ∀ a, a ∈ A → 78 ≤ a ∧ a < 95) : cx_kp X X' := by
  refine ⟨fun q k h1 h2 => hf.2.2 q k (fun z => by have := hA q z; omega) (fun z => ?_), fun q h1 => fy_rl hf (fun z => by have := hA q z; omega) (fun z hz e => by have := hL z hz; omega), fun r k _ => by rw [hf.1], by rw [hf.1]⟩
  rcases hF _ z with y | y
  · exact h2 (Prod.mk.inj y).1 (Prod.mk.inj y).2
  · have y : 78 ≤ q ∧ q < 95 := y
    omega
theorem cx_56c {X0 : fx_X} (hN : N ≤ 2002) (h83 : ∀ j, j < N → 200 ≤ (X0.1 83 j).toInt ∧ (X0.1 83 j).toInt < 210) (h824 : (X0.1 82 4).toInt = (N : Int)) : ∀ (n i : Nat) (y2 : Int32) (X : fx_X), y2.toInt = (i : Int) → fy fF_81 fL_81 fA_81 X0 X → gxF_56 sr n 17 [y2] [] [] X u X' → fy fF_81 fL_81 fA_81 X0 X' := by
  intro n
  induction n with
  | zero => intro i y2 X _ _ g; exact g.elim
  | succ n ih =>
    intro i y2 X h2 hf g
    replace g := gxO_56_17 g
    unfold gxT_56_17 at g
    have k824 : X.1 82 4 = X0.1 82 4 := hf.2.2 82 4 (by decide) (by decide)
    have k83 : X.1 83 = X0.1 83 := fy_ra hf (by decide) (by decide)
    rcases fy_ifd g with ⟨c, g1⟩ | ⟨c, g1⟩
    · rw [k824] at c
      obtain ⟨w10, X9, r1, g2⟩ := g1
      obtain ⟨e9, v10⟩ := cx_57 h2 (by omega) r1
      subst e9
      have hw := h83 i (by omega)
      rw [← k83, ← v10] at hw
      rcases fy_ifd g2 with ⟨c2, g3⟩ | ⟨c2, g3⟩
      · rw [if_pos hw.2, if_neg (by omega)] at g3
        obtain ⟨w21, X20, r2, x22, e22, g4⟩ := g3
        exact ih (i + 1) x22 X20 (by rw [e22]; exact cx_inc h2 (by omega)) (fy_tr hf (gf_81 r2)) g4
      · rw [if_neg (by omega), if_neg (by omega)] at g3
        have g3 : X' = X := g3
        rw [g3]; exact hf
    · have g1 : X' = X := g1
      rw [g1]; exact hf
theorem md_nts_cond : ∀ (es : List md_Ev), (∀ e, e ∈ es → md_cset e.1 = true ∧ 170 ≤ e.1) → ∀ x, x ∈ md_nts es → 200 ≤ x.1 ∧ x.1 < 210
  | [], _, x, hx => by cases hx
  | e :: es, h, x, hx => by
    have ih := md_nts_cond es (fun e he => h e (List.mem_cons_of_mem _ he))
    obtain ⟨h1, h2⟩ := h e List.mem_cons_self
    have h1 := md_cset_i h1
    have hx : x ∈ (if md_quiet e.1 = true then md_nts es else (e.1, e.2.1, e.2.2, Int32.ofNat (if e.1 = 186 then md_cnt es else 0)) :: md_nts es) := hx
    by_cases hq : md_quiet e.1 = true
    · rw [if_pos hq] at hx
      exact ih x hx
    · rw [if_neg hq] at hx
      rcases List.mem_cons.mp hx with z | z
      · rw [z]
        have : ¬ (e.1 = 170 ∨ e.1 = 171) := fun y => hq (by rcases y with y | y <;> (rw [y]; rfl))
        show 200 ≤ e.1 ∧ e.1 < 210
        omega
      · exact ih x z
/-- understood or not -/
theorem cx_20c (hX : cx_rX X) (hS : cx_S X) (hN : (X.1 52 1).toInt = (N : Int)) (hN4 : N ≤ 4000) (hp : p.toInt = 138) (g : gx_20 p sr X u X') : cx_kp X X' := by
  obtain ⟨w5, X4, r1, X6, e6, w9, X8, r2, w12, X11, r3, g⟩ := g
  obtain ⟨T, hTd⟩ : ∃ T : md_T, T = (fun i => if i < 1002 then (X4.1 79 i).toInt else 2, fun i => if i < 1002 then X4.2.1 81 i else Int64.ofNat 0) := ⟨_, rfl⟩
  have hT4 : cx_Tk X4 T := fun i => by rw [hTd]; exact ⟨rfl, rfl⟩
  have f4 := gf_21 r1
  have e8 := cx_31 r2
  have f68 : fy [(52, 1), (82, 4), (82, 5), (82, 6)] [] [] X4 X8 := by
    rw [e8, e6]
    exact fy_f (fy_f (fy_f (fy_f fy_rf (by decide)) (by decide)) (by decide)) (by decide)
  have f8 : fy [(78, 3), (52, 1), (82, 4), (82, 5), (82, 6)] [] [79, 80, 81] X X8 := fy_tr (fy_sub f4 (by decide) (by decide) (by decide)) (fy_sub f68 (by decide) (by decide) (by decide))
  have hX8 : cx_rX X8 := cx_rX_fr hX f8 (by decide) (by decide)
  have hT8 : cx_Tk X8 T := cx_Tk_fr hT4 f68 (by decide) (by decide) (by decide) (by decide)
  obtain ⟨m, r, am, hPR⟩ := cx_32 hX8 hT8 (by rw [e8, fx_rIk (by decide), fx_rIe]; rfl) (by rw [e8, fx_rIk (by decide), fx_rIk (by decide), fx_rIe]; rfl) (Or.inr hp) r3
  have f11 := gf_32 r3
  have k11 : cx_kp X X11 := cx_kp_tr (cx_kp_fy f8 (by decide) (by decide) (by decide)) (cx_kp_fy f11 (by decide) (by decide) (by decide))
  cases r with
  | none =>
    have hf : (X11.1 82 5).toInt ≠ 0 := hPR
    rw [if_neg hf] at g
    rw [g]
    exact k11
  | some es =>
    obtain ⟨hf, hnt, hl2⟩ := hPR
    rw [if_pos hf] at g
    obtain ⟨w17, X16, ⟨n, Z2, e2, Z3, e3, Z, hZ, g⟩, e16⟩ := g
    rw [e16]
    rw [hp] at am
    have hrun : md_run false (([(138, 0), (1, 0)] : List md_Sy).map (·.1)) = some false := rfl
    have he1 : md_e1 [(138, 0), (1, 0)] = 1 := rfl
    obtain ⟨ev1, ev2⟩ := md_am_ev m _ 0 0 _ [] false es am hrun (fun x hx => by
      simp only [List.mem_cons, List.not_mem_nil, or_false] at hx
      rcases hx with rfl | rfl <;> exact Nat.zero_le _) (by rw [he1]; decide) (by rw [he1]; decide) (Nat.le_refl _)
    have hns := md_ac_nts es false [] (-1) (fun e he => (ev1 e he).1) ev2 (by decide) (fun z => by cases z)
    rw [if_neg (by decide), List.nil_append] at hns
    rw [hns] at hnt hl2
    have hcond := md_nts_cond es (md_am_cond m _ _ _ _ _ es (fun x hx => by
      rcases List.mem_cons.mp hx with z | z
      · rw [z]; rfl
      · rw [List.mem_singleton.mp z]; rfl) am)
    have kZ : cx_kp X11 Z := by
      rw [hZ, e3, e2]
      refine ⟨fun q k h1 _ => ?_, fun q _ => rfl, fun r k h => ?_, rfl⟩
      · rw [fx_rI, if_neg (by omega), fx_rI, if_neg (by omega)]
        rfl
      · show (if r = 91 ∧ k = 2 then some sr else X11.2.2.1 r k) = _
        rw [if_neg (fun z => h z.1 z.2)]
    have z83 : Z.1 83 = X11.1 83 := by rw [hZ, fx_rIn (by decide), e3, fx_rIn (by decide), e2]; rfl
    have z82 : Z.1 82 = X11.1 82 := by rw [hZ, fx_rIn (by decide), e3, fx_rIn (by decide), e2]; rfl
    have h824 : (Z.1 82 4).toInt = ((md_nts es).length : Int) := by rw [z82]; exact hnt.1
    have fin := cx_56c (X0 := Z) (N := (md_nts es).length) hl2 (fun j hj => by
      obtain ⟨b1, b2, b3, b4⟩ := hnt.2.2 j _ (List.getElem?_eq_getElem hj)
      rw [z83, b1]
      exact hcond _ (List.getElem_mem hj)) h824 n 0 _ Z rfl fy_rf g
    exact cx_kp_tr k11 (cx_kp_tr kZ (cx_kp_fy fin (by decide) (by decide) (by decide)))
end CE05
