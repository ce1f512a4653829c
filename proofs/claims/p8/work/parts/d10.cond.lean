/-! THE REFERENCE: a COND -/
def rx_Po (P : md_P) (K : List md_Sy) (cs : md_CS) (ws : md_WS) (nm : md_Nm) (c0 : md_C) (v : Int32) (X' : fx_X) : Prop := rx_X P v X' ∨ (v = Int32.ofInt 1 ∧ (rx_B P X' ∨ ∃ j' near' c' w2, rx_G P X' j' c' ∧ md_R P K j' near' c' nm (cs, w2) ∧ rx_K P X' cs w2 1 ∧ (rp_b P = true → md_kp ws w2) ∧ (∀ k, k ≠ 14 → c' k = c0 k) ∧ (c' 14).toInt = 0))
section DD10
variable {P : md_P} {K : List md_Sy} {l near : Nat} {c c' c0 : md_C} {nm nm' : md_Nm} {cs : md_CS} {ws w2 : md_WS} {q : md_S} {H M k d : Nat} {x : Int} {v : Int32} {X' : fx_X}
/-- the tail: nothing more behind a sign that is none of & -/
theorem rx_Z_139 {j : Nat} {X : fx_X} {wt : List Int} (h : rx_Z P X j K cs ws nm c0 wt H (md_kl wt)) (hT : (rp_T P).1 j ≠ 38) (ht : md_tp wt = 0 ∨ md_tp wt = 40) : rx_Z P X j K cs ws nm c0 wt H (md_kl wt).tail := by
  have hwf := h
  obtain ⟨-, -, -, -, -, -, -, -, hwf⟩ := hwf
  cases wt with
  | nil => exact rx_Z_r h (by decide) (md_rule_141 hT)
  | cons x wt =>
    have ht' : x = 0 ∨ x = 40 := ht
    rcases ht' with e | e
    · subst e
      rcases hwf.1 with z | z | ⟨z, -⟩ | ⟨z, -⟩ <;> exact absurd z (by decide)
    · subst e
      exact rx_Z_r (s := 141) h (by decide) (md_rule_141 hT)
theorem md_tail_or {wt : List Int} : md_kl (124 :: wt) = 141 :: 207 :: (md_kl wt).tail := rfl
theorem rx_Bl {n l : Nat} {is : List Int32} {ls : List Int64} {rs : List Nat} {X : fx_X} (hB : rx_B P X) (g : gxF_237 n l is ls rs X v X') : rx_Po P K cs ws nm c0 v X' := rx_BX (gbl_237 n l is ls rs X v X' hB g) (gvl_237 n l is ls rs X v X' g) Or.inl
/-- what holds at the labels -/
def rx_I23 (P : md_P) (K : List md_Sy) (cs : md_CS) (ws : md_WS) (nm : md_Nm) (c0 : md_C) (n : Nat) (v : Int32) (X' : fx_X) : Prop := ∀ (j : Nat) (wt : List Int) (X : fx_X) (y1 : Int32), y1.toInt = (md_po wt : Int) → rx_Z P X j K cs ws nm c0 wt (md_nb wt) (142 :: md_kl wt) → gxF_237 n 23 [y1] [] [] X v X' → rx_Po P K cs ws nm c0 v X'
def rx_I19 (P : md_P) (K : List md_Sy) (cs : md_CS) (ws : md_WS) (nm : md_Nm) (c0 : md_C) (n : Nat) (v : Int32) (X' : fx_X) : Prop := ∀ (j : Nat) (wt : List Int) (X : fx_X) (y1 : Int32), y1.toInt = (md_po wt : Int) → rx_Z P X j K cs ws nm c0 wt (md_nb wt + 1) (md_kl wt) → md_tp wt ≠ 33 → (rp_T P).1 j ≠ 38 → (rp_T P).1 j ≠ 124 → (0 < md_po wt → (rp_T P).1 j ≠ 41) → gxF_237 n 19 [y1, Int32.ofInt 0] [] [] X v X' → rx_Po P K cs ws nm c0 v X'
def rx_I128 (P : md_P) (K : List md_Sy) (cs : md_CS) (ws : md_WS) (nm : md_Nm) (c0 : md_C) (n pc : Nat) (v : Int32) (X' : fx_X) : Prop := ∀ (j : Nat) (wt : List Int) (X : fx_X) (y1 : Int32), y1.toInt = (md_po wt : Int) → rx_Z P X j K cs ws nm c0 wt (md_nb wt + 1) (md_kl wt) → (pc = 144 → md_tp wt ≠ 33) → gxF_237 n pc [y1] [] [] X v X' → rx_Po P K cs ws nm c0 v X'
def rx_I157 (P : md_P) (K : List md_Sy) (cs : md_CS) (ws : md_WS) (nm : md_Nm) (c0 : md_C) (n : Nat) (v : Int32) (X' : fx_X) : Prop := ∀ (j : Nat) (wt : List Int) (X : fx_X) (y1 : Int32), y1.toInt = (md_po wt : Int) → 0 < md_po wt → (rp_T P).1 j = 41 → md_tp wt ≠ 33 → (rx_Z P X j K cs ws nm c0 wt (md_nb wt + 1) (md_kl wt) ∨ ((md_tp wt = 0 ∨ md_tp wt = 40) ∧ rx_Z P X j K cs ws nm c0 wt (md_nb wt + 1) (md_kl wt).tail)) → gxF_237 n 157 [y1] [] [] X v X' → rx_Po P K cs ws nm c0 v X'
def rx_I249 (P : md_P) (K : List md_Sy) (cs : md_CS) (ws : md_WS) (nm : md_Nm) (c0 : md_C) (n : Nat) (v : Int32) (X' : fx_X) : Prop := ∀ (j : Nat) (wt : List Int) (X : fx_X) (y1 : Int32), y1.toInt = (md_po wt : Int) → ((rp_T P).1 j = 38 ∨ (rp_T P).1 j = 124) → md_tp wt ≠ 33 → (rx_Z P X j K cs ws nm c0 wt (md_nb wt + 1) (md_kl wt) ∨ ((rp_T P).1 j = 124 ∧ (md_tp wt = 0 ∨ md_tp wt = 40) ∧ rx_Z P X j K cs ws nm c0 wt (md_nb wt + 1) (md_kl wt).tail)) → gxF_237 n 249 [y1, Int32.ofInt 1] [] [] X v X' → rx_Po P K cs ws nm c0 v X'
def rx_I329 (P : md_P) (K : List md_Sy) (cs : md_CS) (ws : md_WS) (nm : md_Nm) (c0 : md_C) (n : Nat) (v : Int32) (X' : fx_X) : Prop := ∀ (j : Nat) (wt : List Int) (X : fx_X), md_po wt = 0 → (rp_T P).1 j ≠ 38 → (rp_T P).1 j ≠ 124 → md_tp wt ≠ 33 → (rx_Z P X j K cs ws nm c0 wt (md_nb wt + 1) (md_kl wt) ∨ ((md_tp wt = 0 ∨ md_tp wt = 40) ∧ rx_Z P X j K cs ws nm c0 wt (md_nb wt + 1) (md_kl wt).tail)) → gxF_237 n 329 [] [] [] X v X' → rx_Po P K cs ws nm c0 v X'
theorem rx_Z_wf {j : Nat} {X : fx_X} {wt a : List Int} (h : rx_Z P X j K cs ws nm c0 wt H a) : md_wf wt ∧ md_cn wt ≤ 8 ∧ rx_W X wt ∧ (X.1 117 43).toInt = (wt.length : Int) ∧ md_nb wt ≤ 18 := by
  obtain ⟨near, c, w2, -, -, ⟨hW, hw⟩, ⟨-, -, hc3⟩, -, hwf⟩ := h
  exact ⟨hwf, hc3, hW, hw, md_nb_18 hwf hc3⟩
/-- lengths of what waits -/
theorem md_wf_len {wt : List Int} (h : md_wf wt) : wt.length = md_nb wt + md_cn wt := by
  induction wt with
  | nil => rfl
  | cons x wt ih =>
    show wt.length + 1 = ((if x = 38 ∨ x = 124 then 1 else 0) + md_nb wt) + ((if x = 33 ∨ x = 40 then 1 else 0) + md_cn wt)
    have := ih h.2
    rcases h.1 with e | e | ⟨e, -⟩ | ⟨e, -⟩ <;> (subst e; simp; omega)
theorem rx_Z_l {j : Nat} {X : fx_X} {wt a : List Int} (h : rx_Z P X j K cs ws nm c0 wt H a) : wt.length ≤ 26 := by
  obtain ⟨h1, h2, -, -, h3⟩ := rx_Z_wf h
  have := md_wf_len h1
  omega
/-- AND or OR is due -/
theorem rx_due {j : Nat} {X X1 : fx_X} {wt : List Int} {u : Unit} (hk : md_tp wt = 38 ∨ (md_tp wt = 124 ∧ (rp_T P).1 j ≠ 38)) (h : rx_Z P X j K cs ws nm c0 wt (md_nb wt + 1) (md_kl wt)) (g : gx_244 X u X1) : ∃ wt', wt = md_tp wt :: wt' ∧ md_po wt' = md_po wt ∧ md_tp wt' ≠ 33 ∧ ((md_tp wt = 38 ∧ rx_Z P X1 j K cs ws nm c0 wt' (md_nb wt' + 1) (md_kl wt')) ∨ (md_tp wt = 124 ∧ (md_tp wt' = 0 ∨ md_tp wt' = 40) ∧ rx_Z P X1 j K cs ws nm c0 wt' (md_nb wt' + 1) (md_kl wt').tail)) := by
  have hwf := (rx_Z_wf h).1
  rcases hk with hk | ⟨hk, hT⟩
  · obtain ⟨wt', rfl⟩ := md_tp_at hk (by decide)
    have hnb : md_nb (38 :: wt') = 1 + md_nb wt' := rfl
    have hpo : md_po (38 :: wt') = 0 + md_po wt' := rfl
    have h : rx_Z P X j K cs ws nm c0 (38 :: wt') (md_nb (38 :: wt') + 1) (206 :: md_kl wt') := h
    have h2 := rx_Z_bin h (Or.inl ⟨rfl, rfl⟩) (by omega) g
    rw [show md_nb (38 :: wt') + 1 - 1 = md_nb wt' + 1 by omega] at h2
    refine ⟨wt', rfl, by omega, ?_, Or.inl ⟨rfl, h2⟩⟩
    rcases hwf.1 with e | e | ⟨-, e⟩ | ⟨e, -⟩
    · exact absurd e (by decide)
    · exact absurd e (by decide)
    · omega
    · exact absurd e (by decide)
  · obtain ⟨wt', rfl⟩ := md_tp_at hk (by decide)
    have hnb : md_nb (124 :: wt') = 1 + md_nb wt' := rfl
    have hpo : md_po (124 :: wt') = 0 + md_po wt' := rfl
    have h := rx_Z_r (s := 141) (a := 207 :: (md_kl wt').tail) h (by decide) (md_rule_141 hT)
    have h2 := rx_Z_bin (s := 207) h (Or.inr ⟨rfl, rfl⟩) (by omega) g
    rw [show md_nb (124 :: wt') + 1 - 1 = md_nb wt' + 1 by omega] at h2
    have ht : md_tp wt' = 0 ∨ md_tp wt' = 40 := by
      rcases hwf.1 with e | e | ⟨e, -⟩ | ⟨-, e⟩
      · exact absurd e (by decide)
      · exact absurd e (by decide)
      · exact absurd e (by decide)
      · exact e
    exact ⟨wt', rfl, by omega, by omega, Or.inr ⟨rfl, ht, h2⟩⟩
/-- what the top can be -/
theorem md_wf_tp {wt : List Int} (h : md_wf wt) : wt = [] ∨ md_tp wt = 33 ∨ md_tp wt = 40 ∨ md_tp wt = 38 ∨ md_tp wt = 124 := by
  cases wt with
  | nil => exact Or.inl rfl
  | cons x wt =>
    right
    rcases h.1 with e | e | ⟨e, -⟩ | ⟨e, -⟩
    · exact Or.inl e
    · exact Or.inr (Or.inl e)
    · exact Or.inr (Or.inr (Or.inl e))
    · exact Or.inr (Or.inr (Or.inr e))
theorem rx_329s {n : Nat} (ih : rx_I329 P K cs ws nm c0 n v X') : rx_I329 P K cs ws nm c0 (n + 1) v X' := by
  intro j wt X hpo h1 h2 htp h g
  replace g := gxO_237_329 g
  unfold gxT_237_329 at g
  have hZ : ∃ a, rx_Z P X j K cs ws nm c0 wt (md_nb wt + 1) a := by
    rcases h with h | ⟨-, h⟩
    · exact ⟨_, h⟩
    · exact ⟨_, h⟩
  obtain ⟨a0, hZ⟩ := hZ
  obtain ⟨hwf, -, -, hw, -⟩ := rx_Z_wf hZ
  rcases fy_ifd g with ⟨hc, gg⟩ | ⟨hc, gg⟩
  · obtain ⟨w13, X12, r, gg⟩ := gg
    have hne : wt ≠ [] := fun z => by rw [z] at hw; rw [hw] at hc; exact absurd hc (by decide)
    have hk : md_tp wt = 38 ∨ (md_tp wt = 124 ∧ (rp_T P).1 j ≠ 38) := by
      rcases md_wf_tp hwf with z | z | z | z | z
      · exact absurd z hne
      · exact absurd z htp
      · obtain ⟨wt', rfl⟩ := md_tp_at z (by decide)
        have : md_po (40 :: wt') = 1 + md_po wt' := rfl
        omega
      · exact Or.inl z
      · exact Or.inr ⟨z, h1⟩
    have hA : rx_Z P X j K cs ws nm c0 wt (md_nb wt + 1) (md_kl wt) := by
      rcases h with h | ⟨z, -⟩
      · exact h
      · omega
    obtain ⟨wt', e1, e2, e3, e4⟩ := rx_due hk hA r
    refine ih j wt' X12 (by omega) h1 h2 e3 ?_ gg
    rcases e4 with ⟨-, e4⟩ | ⟨-, e4, e5⟩
    · exact Or.inl e4
    · exact Or.inr ⟨e4, e5⟩
  · have hnil : wt = [] := by
      cases wt with
      | nil => rfl
      | cons x wt => rw [hw] at hc; exact absurd (by show (0 : Int) < ((wt.length + 1 : Nat) : Int); omega) hc
    subst hnil
    have hB : rx_Z P X j K cs ws nm c0 [] 1 [139] := by
      rcases h with h | ⟨-, h⟩
      · exact rx_Z_r (s := 141) h (by decide) (md_rule_141 h1)
      · exact h
    obtain ⟨near, c, w2, ⟨hG, hR⟩, ⟨hK, hkp⟩, -, ⟨-, hc2, -⟩, hc0, -⟩ := rx_Z_r (s := 139) hB (by decide) (md_rule_139 h2)
    rw [gg.2]
    exact Or.inr ⟨gg.1, Or.inr ⟨j, near, c, w2, hG, md_Rs_0 hR, hK, hkp, hc0, hc2⟩⟩
end DD10
