/-! THE REFERENCE: a text, all its statements -/
/-- behind a text -/
def rx_TE (P : md_P) (X0 : fx_X) (v : Int32) (X' : fx_X) : Prop := ((rx_X P v X' ∨ rx_Y P v X') ∨ ((v = Int32.ofInt 0 ∨ v = Int32.ofInt 1) ∧ rx_B P X') ∨ (v = Int32.ofInt 1 ∧ ∃ j c cs ws nm, rx_T P X' j c cs ws nm ∧ rp_r P = md_k (cs, ws) ∧ (rp_b P = true → cs.1 = rp_Uf P))) ∧ (rp_b P = true → rx_O (rp_h P) X0 X')
section DD70
variable {P : md_P} {X X' X0 X1 X2 : fx_X} {K K0 : List md_Sy} {n d k j near l : Nat} {v w : Int32} {a : Int} {c c' : md_C} {nm : md_Nm} {cs cs' : md_CS} {ws ws' : md_WS} {L : List (Int × Nat × Int64)} {fr : Int64}
theorem md_R_nil (h : md_R P [] j near c nm (cs, ws)) : rp_r P = md_k (cs, ws) ∧ (rp_b P = true → cs.1 = rp_Uf P) := by
  obtain ⟨m, r, h1, h2⟩ := h
  cases m with
  | zero => cases h1
  | succ m =>
    have h1 : some (some []) = some r := h1
    cases h1
    obtain ⟨h3, h4⟩ := h2
    refine ⟨h4.symm, fun hb => ?_⟩
    obtain ⟨p, p1, p2⟩ := h3 hb
    have p1 : some (some (cs, ([] : List Int))) = some (some p) := p1
    cases p1
    exact p2
theorem rx_204o (hPO : rx_PO P K X w X1) (hO : rp_b P = true → rx_O (rp_h P) X0 X) (ih : ∀ X : fx_X, (rx_B P X ∨ ∃ l j near c nm cs ws, rx_T P X j c cs ws nm ∧ md_R P ((130, l) :: K) j near c nm (cs, ws)) → (rp_b P = true → rx_O (rp_h P) X0 X) → gxF_204 n 54 [] [] [] X v X' → rx_TE P X0 v X') (g : if w.toInt = 0 then (v = Int32.ofInt 0 ∧ X' = X1) else gxF_204 n 54 [] [] [] X1 v X') : rx_TE P X0 v X' := by
  obtain ⟨h1, h2⟩ := hPO
  have hO2 : rp_b P = true → rx_O (rp_h P) X0 X1 := fun hb => rx_O_tr (hO hb) (h2 hb)
  rcases h1 with h1 | ⟨hw, h1⟩
  · have hw : w = Int32.ofInt 0 := by rcases h1 with h | h <;> exact h.1
    rw [if_pos (by rw [hw]; rfl)] at g
    rw [g.1, g.2, ← hw]
    exact ⟨Or.inl h1, hO2⟩
  · rw [if_neg (by rw [hw]; decide)] at g
    exact ih X1 h1 hO2 g
theorem md_r130 (h1 : (rp_T P).1 j ≠ 1) (h10 : (rp_T P).1 j ≠ 10) (h11 : (rp_T P).1 j ≠ 11) (h12 : (rp_T P).1 j ≠ 12) (h14 : (rp_T P).1 j ≠ 14) (h15 : (rp_T P).1 j ≠ 15) : md_rule 130 ((rp_T P).1 j) = none := by
  show (md_48 _).map _ = _
  unfold md_48
  rw [if_neg h1, if_neg h10, if_neg h11, if_neg h12, if_neg h14, if_neg h15]
  rfl
theorem rx_204l : ∀ (n : Nat) (X : fx_X), (rx_B P X ∨ ∃ l j near c nm cs ws, rx_T P X j c cs ws nm ∧ md_R P ((130, l) :: [(1, 0)]) j near c nm (cs, ws)) → (rp_b P = true → rx_O (rp_h P) X0 X) → gxF_204 n 54 [] [] [] X v X' → rx_TE P X0 v X' := by
  intro n
  induction n with
  | zero => intro X _ _ g; exact g.elim
  | succ n ih =>
    intro X h hO g
    rcases h with hB | ⟨l, j, near, c, nm, cs, ws, hT, hR⟩
    · have hB' := gbl_204 _ _ _ _ _ _ _ _ hB g
      exact ⟨Or.inr (Or.inl ⟨gvl_204 _ _ _ _ _ _ _ _ g, hB'⟩), fun hb => by rw [hB'.1.1] at hb; cases hb⟩
    have hG := hT.1
    replace g := gxO_204_54 g
    unfold gxT_204_54 at g
    have kk := rx_k hG
    have h31 := hG.2.2.2.2.2.2.1
    rw [if_pos h31] at g
    have k212 : ∀ {p : Int32} {w : Int32} {Y X1 : fx_X} {a : Int}, 0 ≤ a → a ≤ 9 → p.toInt = a → X1 = X → gx_212 p X1 w Y → Y = X ∧ ((w.toInt = 1 ∧ (rp_T P).1 j = 10 + a) ∨ (w.toInt = 0 ∧ (rp_T P).1 j ≠ 10 + a)) := by
      intro p w Y X1 a h0 h9 hp e r
      subst e
      obtain ⟨e, hw⟩ := rx_212 r
      refine ⟨e, ?_⟩
      have := kk.2.2.2.2.2.2 a h0 h9
      rw [hp] at hw
      rcases hw with ⟨y1, y2⟩ | ⟨y1, y2⟩
      · exact Or.inl ⟨y1, this.mp y2⟩
      · exact Or.inr ⟨y1, fun z => y2 (this.mpr z)⟩
    by_cases h26 : (X.1 117 26).toInt = 0
    · rw [if_pos h26, if_pos h31] at g
      have hT1 := kk.1.mp h26
      have hR1 : md_R P [(1, 0)] j near c nm (cs, ws) := md_R_r (r := []) hR (by decide) (by decide) (by decide) (by rw [hT1]; rfl)
      obtain ⟨q1, q2⟩ := md_R_nil (md_R_t hR1 (by decide) hT1 (Or.inr rfl))
      rw [g.2]
      exact ⟨Or.inr (Or.inr ⟨g.1, j, c, cs, ws, nm, hT, q1, q2⟩), hO⟩
    rw [if_neg h26] at g
    obtain ⟨w24, X23, r1, g⟩ := g
    obtain ⟨e23, hw1⟩ := k212 (a := 0) (by decide) (by decide) rfl rfl r1
    rcases hw1 with ⟨hw1, hT1⟩ | ⟨hw1, hT1⟩
    · rw [if_neg (by omega)] at g
      obtain ⟨w59, X58, r, g2⟩ := g
      rw [e23] at r
      exact rx_204o (rx_213 (Or.inr ⟨hT, hR, hT1⟩) r) hO ih g2
    rw [if_pos hw1] at g
    obtain ⟨w27, X26, r2, g⟩ := g
    obtain ⟨e26, hw2⟩ := k212 (a := 1) (by decide) (by decide) rfl e23 r2
    rcases hw2 with ⟨hw2, hT2⟩ | ⟨hw2, hT2⟩
    · rw [if_neg (by omega)] at g
      obtain ⟨w59, X58, r, g2⟩ := g
      rw [e26] at r
      exact rx_204o (rx_229 (Or.inr ⟨hT, hR, hT2⟩) r) hO ih g2
    rw [if_pos hw2] at g
    obtain ⟨w30, X29, r3, g⟩ := g
    obtain ⟨e29, hw3⟩ := k212 (a := 2) (by decide) (by decide) rfl e26 r3
    rcases hw3 with ⟨hw3, hT3⟩ | ⟨hw3, hT3⟩
    · rw [if_neg (by omega)] at g
      obtain ⟨w59, X58, r, g2⟩ := g
      rw [e29] at r
      exact rx_204o (rx_234 (Or.inr ⟨hT, hR, hT3⟩) r) hO ih g2
    rw [if_pos hw3] at g
    obtain ⟨w33, X32, r4, g⟩ := g
    obtain ⟨e32, hw4⟩ := k212 (a := 4) (by decide) (by decide) rfl e29 r4
    rcases hw4 with ⟨hw4, hT4⟩ | ⟨hw4, hT4⟩
    · rw [if_neg (by omega)] at g
      obtain ⟨w59, X58, r, g2⟩ := g
      rw [e32] at r
      exact rx_204o (rx_246 (Or.inr ⟨hT, hR, hT4⟩) r) hO ih g2
    rw [if_pos hw4] at g
    obtain ⟨w36, X35, r5, g⟩ := g
    obtain ⟨e35, hw5⟩ := k212 (a := 5) (by decide) (by decide) rfl e32 r5
    rcases hw5 with ⟨hw5, hT5⟩ | ⟨hw5, hT5⟩
    · rw [if_neg (by omega)] at g
      obtain ⟨w59, X58, r, g2⟩ := g
      rw [e35] at r
      exact rx_204o (rx_248 (Or.inr ⟨hT, hR, hT5⟩) r) hO ih g2
    rw [if_pos hw5] at g
    obtain ⟨w39, X38, r6, g2⟩ := g
    have hF : md_F P := md_R_rx hR (by decide) (by decide) (md_r130 (fun z => h26 (kk.1.mpr z)) hT1 hT2 hT3 hT4 hT5)
    have hX := rx_215 hF (by decide) r6
    rw [if_pos (by rw [hX.1]; rfl)] at g2
    rw [g2.1, g2.2, ← hX.1]
    exact ⟨Or.inl (Or.inl hX), fun hb => by rw [hF.1] at hb; cases hb⟩
/-- all its tokens -/
def rx_L0 (P : md_P) : Prop := ∃ L : List (Int × Nat × Int64), md_lst (rp_f P) (rp_N P) 0 0 L ∧ ∀ i x, L[i]? = some x → (rp_T P).1 i = x.1 ∧ (rp_T P).2 i = x.2.2
/-- ready to read -/
def rx_RD (P : md_P) (X : fx_X) : Prop := X.1 138 = rp_f P ∧ (X.1 117 23).toInt = (rp_N P : Int) ∧ rp_N P ≤ 4000 ∧ ((X.1 117 37).toInt = (rp_h P : Int) ∧ rp_h P ≤ 1) ∧ (X.1 117 32).toInt = (if rp_b P = true then 1 else 0) ∧ (X.1 117 24).toInt = 0
def md_c0 : md_C := fun _ => Int32.ofInt 0
theorem rx_205 (hX : rx_RD P X) (hL : rx_L0 P) {u : Unit} (g : gx_205 X u X') : rx_G P X' 0 md_c0 ∧ fy [(117, 26), (117, 27), (117, 28), (117, 29), (117, 30), (117, 31), (117, 41), (117, 45), (117, 46), (117, 47)] [] [] X X' := by
  obtain ⟨X2, e2, X3, e3, X4, e4, X5, e5, X6, e6, X7, e7, X8, e8, w10, X9, r, e9⟩ := g
  rw [← e9] at r
  obtain ⟨h1, h2, h3, h4, h5, h6⟩ := hX
  have f8 : fy [(117, 26), (117, 27), (117, 28), (117, 29), (117, 30), (117, 31), (117, 41), (117, 45), (117, 46), (117, 47)] [] [] X X8 := by
    rw [e8, e7, e6, e5, e4, e3, e2]
    exact fy_f (fy_f (fy_f (fy_f (fy_f (fy_f (fy_f fy_rf (by decide)) (by decide)) (by decide)) (by decide)) (by decide)) (by decide)) (by decide)
  have fr := gf_206 r
  have f9 : fy [(117, 26), (117, 27), (117, 28), (117, 29), (117, 30), (117, 31), (117, 41), (117, 45), (117, 46), (117, 47)] [] [] X X' := fy_tr f8 (fy_sub fr (by decide) (by decide) (by decide))
  have k : ∀ k, k ≠ 26 → k ≠ 27 → k ≠ 28 → k ≠ 29 → k ≠ 30 → k ≠ 31 → k ≠ 41 → k ≠ 45 → k ≠ 46 → k ≠ 47 → X'.1 117 k = X.1 117 k := fun k k1 k2 k3 k4 k5 k6 k7 k8 k9 k10 => f9.2.2 117 k (by decide) (by simp; omega)
  have i28 : (X8.1 117 28).toInt = ((0 : Nat) : Int) := by
    rw [e8, fx_rIk (by decide), e7, fx_rIk (by decide), e6, fx_rIk (by decide), e5, fx_rIk (by decide), e4, fx_rIk (by decide), e3, fx_rIk (by decide), e2, fx_rIe]; rfl
  have i23 : (X8.1 117 23).toInt = (rp_N P : Int) := by rw [f8.2.2 117 23 (by decide) (by decide)]; exact h2
  have i138 : X8.1 138 = rp_f P := by rw [fy_ra f8 (by decide) (by decide)]; exact h1
  obtain ⟨b2, q1, q2, q3, q4⟩ := cx_206 (f := rp_f P) h3 i23 i138 i28 (Nat.zero_le _) r
  obtain ⟨L, L1, L2⟩ := hL
  refine ⟨⟨by rw [fy_ra f9 (by decide) (by decide)]; exact h1, ?_, h3, ?_, ?_, ?_, ?_, ⟨0, b2, L, L1, fun i x hx => by rw [Nat.zero_add]; exact L2 i x hx, q1, q3, q4⟩, ?_, ?_, ?_⟩, f9⟩
  · rw [k 23 (by decide) (by decide) (by decide) (by decide) (by decide) (by decide) (by decide) (by decide) (by decide) (by decide)]; exact h2
  · rw [k 37 (by decide) (by decide) (by decide) (by decide) (by decide) (by decide) (by decide) (by decide) (by decide) (by decide)]; exact h4
  · rw [k 32 (by decide) (by decide) (by decide) (by decide) (by decide) (by decide) (by decide) (by decide) (by decide) (by decide)]; exact h5
  · rw [k 24 (by decide) (by decide) (by decide) (by decide) (by decide) (by decide) (by decide) (by decide) (by decide) (by decide)]; exact h6
  · rw [fr.2.2 117 31 (by decide) (by decide), e8, fx_rIk (by decide), e7, fx_rIk (by decide), e6, fx_rIk (by decide), e5, fx_rIk (by decide), e4, fx_rIe]; rfl
  · refine ⟨?_, Nat.zero_le _⟩
    rw [fr.2.2 117 30 (by decide) (by decide), e8, fx_rIk (by decide), e7, fx_rIk (by decide), e6, fx_rIk (by decide), e5, fx_rIk (by decide), e4, fx_rIk (by decide), e3, fx_rIe]; rfl
  · refine ⟨?_, by decide, by decide⟩
    rw [fr.2.2 117 47 (by decide) (by decide), e8, fx_rIk (by decide), e7, fx_rIe]; rfl
  · refine ⟨?_, by decide, by decide⟩
    rw [fr.2.2 117 45 (by decide) (by decide), e8, fx_rIe]; rfl
end DD70
