/-! THE MACHINE HAS ONE WAY; what stays of the cells -/
section AJDET
variable {rc : Nat} {cls : List aj_C} {tb : aj_T} {m : aj_M} {isI deep : Bool} {mt : List aj_M}
theorem aj_frm_det {call : Nat → List Value → aj_H → Nat → Nat → Option Value → aj_H → Prop} (hc : ∀ mi as h mc ms r h' mc2 ms2 r2 h2, call mi as h mc ms r h' → call mi as h mc2 ms2 r2 h2 → r = r2 ∧ h' = h2 ∧ mc = mc2) : ∀ (n pc : Nat) (lv : aj_V) (st : List Value) (h : aj_H) (kc ks mc ms : Nat) (r : Option Value) (hF : aj_H) (n2 ks2 mc2 ms2 : Nat) (r2 : Option Value) (hF2 : aj_H), aj_frm rc cls tb m isI deep call n pc lv st h kc ks mc ms r hF → aj_frm rc cls tb m isI deep call n2 pc lv st h kc ks2 mc2 ms2 r2 hF2 → r = r2 ∧ hF = hF2 ∧ mc = mc2 := by
  intro n
  induction n with
  | zero => intro _ _ _ _ _ _ _ _ _ _ _ _ _ _ _ _ q; exact q.elim
  | succ n ih =>
    intro pc lv st h kc ks mc ms r hF n2 ks2 mc2 ms2 r2 hF2 q1 q2
    cases n2 with
    | zero => exact q2.elim
    | succ n2 =>
      unfold aj_frm at q1 q2
      split at q1
      · rename_i i len hd
        rw [hd] at q2
        dsimp only at q2
        split at q1
        · rename_i pc' lv' st' h' dc ds hs
          rw [hs] at q2
          exact ih _ _ _ _ _ _ _ _ _ _ _ _ _ _ _ _ q1.2.2 q2.2.2
        · rename_i kind mi as pc' lv' st' hs
          rw [hs] at q2
          obtain ⟨-, q1⟩ := q1
          obtain ⟨-, q2⟩ := q2
          rcases q1 with ⟨k5, q1⟩ | ⟨k5, mc', ms', r', h', c1, c2, c3, c4, q1⟩
          · rcases q2 with ⟨-, q2⟩ | ⟨k, -⟩
            · exact ih _ _ _ _ _ _ _ _ _ _ _ _ _ _ _ _ q1 q2
            · exact absurd k5 k
          · rcases q2 with ⟨k, -⟩ | ⟨-, mc'', ms'', r'', h'', e1, e2, e3, e4, q2⟩
            · exact absurd k k5
            · obtain ⟨rfl, rfl, rfl⟩ := hc _ _ _ _ _ _ _ _ _ _ _ c1 e1
              exact ih _ _ _ _ _ _ _ _ _ _ _ _ _ _ _ _ q1 q2
        · rename_i v hs
          rw [hs] at q2
          obtain ⟨a1, a2, a3⟩ := q1
          obtain ⟨b1, b2, b3⟩ := q2
          exact ⟨a1.trans b1.symm, a2.trans b2.symm, a3.symm.trans b3⟩
        · exact q1.elim
      · exact q1.elim
theorem aj_runs_det : ∀ (d mi : Nat) (as : List Value) (h : aj_H) (mc ms : Nat) (r : Option Value) (h' : aj_H) (mc2 ms2 : Nat) (r2 : Option Value) (h2 : aj_H), aj_runs rc cls tb mt d mi as h mc ms r h' → aj_runs rc cls tb mt d mi as h mc2 ms2 r2 h2 → r = r2 ∧ h' = h2 ∧ mc = mc2 := by
  intro d
  induction d with
  | zero =>
    intro mi as h mc ms r h' mc2 ms2 r2 h2 q1 q2
    obtain ⟨m, hm, -, n, q1⟩ := q1
    obtain ⟨m2, hm2, -, n2, q2⟩ := q2
    rw [hm] at hm2
    cases hm2
    exact aj_frm_det (fun _ _ _ _ _ _ _ _ _ _ _ z => z.elim) _ _ _ _ _ _ _ _ _ _ _ _ _ _ _ _ _ q1 q2
  | succ d ih =>
    intro mi as h mc ms r h' mc2 ms2 r2 h2 q1 q2
    obtain ⟨m, hm, -, n, q1⟩ := q1
    obtain ⟨m2, hm2, -, n2, q2⟩ := q2
    rw [hm] at hm2
    cases hm2
    exact aj_frm_det (fun mi as h mc ms r h' mc2 ms2 r2 h2 z1 z2 => ih mi as h mc ms r h' mc2 ms2 r2 h2 z1 z2) _ _ _ _ _ _ _ _ _ _ _ _ _ _ _ _ _ q1 q2
end AJDET
/-- the reference's cells are the same -/
def cw_rs (h h' : aj_H) : Prop := ∀ i, 65 ≤ i → i < 98 → h'[i]? = h[i]?
def cw_Mr (M : ak_Mo) : Bool := (M.1.all fun t => decide (t < 102 ∨ 133 < t)) && M.2.all fun q => decide (q.1 ≠ 11)
section CWA31
variable {s u : List Nat} {h h' h1 : aj_H} {M : ak_Mo} {i c k : Nat} {v : Value}
theorem cw_Fev (he : ak_Ev ak_C0 M s h h') (hM : (c, k) ∉ M.2) (h0 : cw_F h i c k v) : cw_F h' i c k v := by
  obtain ⟨fs, f1, f2⟩ := h0
  obtain ⟨fs', g1, g2⟩ := he.2.1 i c fs f1
  exact ⟨fs', g1, (g2 k hM).trans f2⟩
theorem cw_rs_ev (hT : ak_Ty ak_C0 s h) (hB : cw_B s) (he : ak_Ev ak_C0 M s h h') (hM : cw_Mr M = true) : cw_rs h h' := by
  unfold cw_Mr at hM
  rw [Bool.and_eq_true] at hM
  obtain ⟨m1, m2⟩ := hM
  intro i h1 h2
  have q0 : ∀ i, 65 < i → i < 98 → ak_s0[i]? = some (i + 36) ∧ ∃ x, ak_ti[i + 36]? = some (.inr x) := by
    have q1 : (List.range 98).all (fun i => decide (65 < i) == false || (decide (ak_s0[i]? = some (i + 36)) && (match ak_ti[i + 36]? with | some (.inr _) => true | _ => false))) = true := by decide +kernel
    intro i h1 h2
    have q2 := List.all_eq_true.mp q1 i (List.mem_range.mpr h2)
    rw [decide_eq_true h1] at q2
    simp only [Bool.or_eq_true, Bool.and_eq_true, decide_eq_true_eq] at q2
    rcases q2 with q2 | ⟨q2, q3⟩
    · cases q2
    · refine ⟨q2, ?_⟩
      split at q3
      · rename_i x e
        exact ⟨x, e⟩
      · cases q3
  by_cases e : i = 65
  · subst e
    have s65 : s[65]? = some 63 := cw_s0 hB (by decide)
    obtain ⟨-, e1, e2, hc⟩ := hT.2 65 63 s65
    unfold ak_cOK at hc
    have q2 : ak_C0.1[63]? = some (.inl 11) := rfl
    rw [q2] at hc
    obtain ⟨fs, rfl, -⟩ := hc
    obtain ⟨fs', g1, g2⟩ := he.2.1 65 11 fs e2
    rw [g1, e2]
    have : fs' = fs := by
      apply List.ext_getElem?
      intro k
      refine g2 k (fun z => ?_)
      exact absurd rfl (of_decide_eq_true (List.all_eq_true.mp m2 _ z))
    rw [this]
  · obtain ⟨q1, x, q2⟩ := q0 i (by omega) h2
    refine he.1 i (i + 36) x (cw_s0 hB q1) q2 (fun z => ?_)
    have := of_decide_eq_true (List.all_eq_true.mp m1 _ z)
    omega
end CWA31
