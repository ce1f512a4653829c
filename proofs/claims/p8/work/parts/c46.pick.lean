/-! THE CLASS'S WORKER: PICKS -/
section CX46
variable {X X' X0 X1 : fx_X} {v p p0 p1 p2 p3 p4 : Int32} {u : Unit} {sr r r' rs W n i j c w m k P wd : Nat} {ps : List Nat} {A : List md_Row} {ts us : List md_Tm}
def md_pj1 (ps : List Nat) (ts : List md_Tm) : List md_Tm := ps.map (fun c => ts.getD c (false, Int32.ofInt 0))
theorem cx_125 (h1 : (X.1 96 1).toInt = (ps.length : Int)) (h6 : ps.length < 6) (h97 : ∀ (i c : Nat), ps[i]? = some c → (X.1 97 i).toInt = (c : Int)) (hp : p1.toInt = (c : Int)) (g : gx_125 p1 X u X') : (X'.1 96 1).toInt = ((ps ++ [c]).length : Int) ∧ (∀ (i d : Nat), (ps ++ [c])[i]? = some d → (X'.1 97 i).toInt = (d : Int)) ∧ X'.2 = X.2 ∧ ∀ q j, q ≠ 97 → ¬ (q = 96 ∧ j = 1) → X'.1 q j = X.1 q j := by
  unfold gx_125 at g
  rw [if_pos (by omega), fx_in h1] at g
  obtain ⟨-, X6, rfl, X7, rfl, rfl⟩ := g
  refine ⟨by rw [fx_rIe, fx_rIn (by decide), cx_inc h1 (by omega), List.length_append]; rfl, fun i d hd => ?_, rfl, fun q j h2 h3 => by rw [fx_rI, if_neg h3, fx_rIn h2]⟩
  rw [fx_rIn (by decide)]
  rw [List.getElem?_append] at hd
  split at hd
  · rw [fx_rIk (by omega)]; exact h97 i d hd
  · have e : i = ps.length := by
      have := (List.getElem?_eq_some_iff.mp hd).1
      have : i - ps.length < 1 := this
      omega
    rw [e, Nat.sub_self] at hd
    cases hd
    rw [e, fx_rIe]; exact hp
/-- one row's TERMS read -/
theorem cx_126r {X0 : fx_X} (hr : r = 102 ∨ 150 ≤ r) (h1 : (X0.1 96 1).toInt = (ps.length : Int)) (h6 : ps.length ≤ 6) (h97 : ∀ (i c : Nat), ps[i]? = some c → (X0.1 97 i).toInt = (c : Int)) (hlt : ∀ c, c ∈ ps → c < ts.length) (ht6 : ts.length ≤ 6) (hk : k < 30) (hT : cx_Rt X0 r k ts) {y2 : Int32} (h2 : y2.toInt = (k : Int)) : ∀ (q c : Nat) (y3 : Int32) (X : fx_X), y3.toInt = (c : Int) → c ≤ ps.length → X.2 = X0.2 → (∀ q j, q ≠ 99 → q ≠ 100 → X.1 q j = X0.1 q j) → (∀ l t, l < c → (md_pj1 ps ts)[l]? = some t → X.1 99 l = t.2 ∧ X.1 100 l = (if t.1 = true then Int32.ofInt 1 else Int32.ofInt 0)) → gxF_126 r q 12 [y2, y3] [] [] X u X' → ∃ (X1 : fx_X) (q' : Nat), X1.2 = X0.2 ∧ (∀ q j, q ≠ 99 → q ≠ 100 → X1.1 q j = X0.1 q j) ∧ (∀ l t, (md_pj1 ps ts)[l]? = some t → X1.1 99 l = t.2 ∧ X1.1 100 l = (if t.1 = true then Int32.ofInt 1 else Int32.ofInt 0)) ∧ gxF_126 r q' 71 [y2, Int32.ofInt 0] [] [] X1 u X' := by
  intro q
  induction q with
  | zero => intro c y3 X _ _ _ _ _ g; exact g.elim
  | succ q ih =>
    intro c y3 X hc hcl hX2 hf hb g
    replace g := gxO_126_12 g
    unfold gxT_126_12 at g
    have h1' : (X.1 96 1).toInt = (ps.length : Int) := by rw [hf _ _ (by decide) (by decide)]; exact h1
    have hfull : c = ps.length → ∀ l t, (md_pj1 ps ts)[l]? = some t → X.1 99 l = t.2 ∧ X.1 100 l = (if t.1 = true then Int32.ofInt 1 else Int32.ofInt 0) := fun e l t h => by
      have := (List.getElem?_eq_some_iff.mp h).1
      unfold md_pj1 at this
      rw [List.length_map] at this
      exact hb l t (by omega) h
    by_cases z : c < ps.length
    · obtain ⟨d, hd⟩ : ∃ d, ps[c]? = some d := ⟨ps[c], List.getElem?_eq_getElem z⟩
      have hdm := hlt d (List.mem_of_getElem? hd)
      obtain ⟨t, ht⟩ : ∃ t, ts[d]? = some t := ⟨ts[d], List.getElem?_eq_getElem hdm⟩
      have hpc : (md_pj1 ps ts)[c]? = some t := by
        unfold md_pj1
        rw [List.getElem?_map, hd]
        show some (ts.getD d _) = _
        rw [List.getD_eq_getElem?_getD, ht]; rfl
      rw [if_pos (by omega), if_pos (by omega), fx_in hc] at g
      obtain ⟨-, w15, X14, r1, -, X17, e17, -, w22, X21, r2, -, X24, e24, x25, rfl, g⟩ := g
      have h97' : (X.1 97 c).toInt = (d : Int) := by rw [hf _ _ (by decide) (by decide)]; exact h97 c d hd
      obtain ⟨rfl, rfl⟩ := cx_104 (cx_Rt_e hT (fun j => hf _ _ (by omega) (by omega)) (fun j => hf _ _ (by omega) (by omega))) hk (by omega) h2 h97' ht r1
      have e17' : X17 = fx_wI X 99 c t.2 := e17
      obtain ⟨rfl, e22⟩ := cx_103 (X := X17) (cx_Rt_e hT (fun j => by rw [e17', fx_rIn (by omega)]; exact hf _ _ (by omega) (by omega)) (fun j => by rw [e17', fx_rIn (by omega)]; exact hf _ _ (by omega) (by omega))) hk (by omega) h2 (by rw [e17', fx_rIn (by decide)]; exact h97') ht r2
      have en : aj_nar 2 w22 = (if t.1 = true then Int32.ofInt 1 else Int32.ofInt 0) := by
        rw [e22]
        cases t.1 <;> decide
      rw [en] at e24
      refine ih (c + 1) _ X24 (cx_inc hc (by omega)) (by omega) (by rw [e24, e17']; exact hX2) (fun q j a1 a2 => by rw [e24, e17', fx_rIn a2, fx_rIn a1]; exact hf q j a1 a2) (fun l t' hl hlt' => ?_) g
      by_cases y : l = c
      · subst y
        rw [hpc] at hlt'
        cases hlt'
        exact ⟨by rw [e24, e17', fx_rIn (by decide), fx_rIe], by rw [e24, fx_rIe]⟩
      · obtain ⟨a1, a2⟩ := hb l t' (by omega) hlt'
        exact ⟨by rw [e24, e17', fx_rIn (by decide), fx_rIk y]; exact a1, by rw [e24, e17', fx_rIk y, fx_rIn (by decide)]; exact a2⟩
    · rw [if_neg (by omega)] at g
      exact ⟨X, q, hX2, hf, hfull (by omega), g⟩
/-- .. and written -/
theorem cx_126w {X0 : fx_X} (hr : r = 102 ∨ 150 ≤ r) (h1 : (X0.1 96 1).toInt = (us.length : Int)) (h6 : us.length ≤ 6) (hb : ∀ l t, us[l]? = some t → X0.1 99 l = t.2 ∧ X0.1 100 l = (if t.1 = true then Int32.ofInt 1 else Int32.ofInt 0)) (hk : k < 30) {y2 : Int32} (h2 : y2.toInt = (k : Int)) : ∀ (d c q : Nat) (y3 : Int32) (X : fx_X), c + d = us.length → y3.toInt = (c : Int) → cx_rf r X0 X → cx_Rt X r k (us.take c) → (∀ j, X.1 r j = X0.1 r j) → (∀ j, X.1 (r + 3) j = X0.1 (r + 3) j) → (∀ l vs, l ≠ k → vs.length ≤ 6 → cx_Rt X0 r l vs → cx_Rt X r l vs) → gxF_126 r q 71 [y2, y3] [] [] X u X' → ∃ (X1 : fx_X) (q' : Nat), cx_rf r X0 X1 ∧ cx_Rt X1 r k us ∧ (∀ j, X1.1 r j = X0.1 r j) ∧ (∀ j, X1.1 (r + 3) j = X0.1 (r + 3) j) ∧ (∀ l vs, l ≠ k → vs.length ≤ 6 → cx_Rt X0 r l vs → cx_Rt X1 r l vs) ∧ gxF_126 r q' 2 [y2 + Int32.ofInt 1] [] [] X1 u X' := by
  intro d
  induction d with
  | zero =>
    intro c q y3 X hcd hc hf hT h0 h3 ho g
    cases q with
    | zero => exact g.elim
    | succ q =>
      replace g := gxO_126_71 g
      unfold gxT_126_71 at g
      have h1' : (X.1 96 1).toInt = (us.length : Int) := by rw [hf.2 _ _ (by omega)]; exact h1
      rw [if_neg (by omega)] at g
      obtain ⟨x28, rfl, g⟩ := g
      rw [List.take_of_length_le (by omega)] at hT
      exact ⟨X, q, hf, hT, h0, h3, ho, g⟩
  | succ d ih =>
    intro c q y3 X hcd hc hf hT h0 h3 ho g
    cases q with
    | zero => exact g.elim
    | succ q =>
      replace g := gxO_126_71 g
      unfold gxT_126_71 at g
      have h1' : (X.1 96 1).toInt = (us.length : Int) := by rw [hf.2 _ _ (by omega)]; exact h1
      obtain ⟨t, ht⟩ : ∃ t, us[c]? = some t := ⟨us[c], List.getElem?_eq_getElem (by omega)⟩
      obtain ⟨b1, b2⟩ := hb c t ht
      rw [if_pos (by omega), if_pos (by omega), fx_in hc] at g
      obtain ⟨-, -, w39, X38, r1, x40, rfl, g⟩ := g
      have e38 := cx_105 (t := t) hk (by omega) h2 hc (by rw [hf.2 _ _ (by omega)]; exact b2) (by rw [hf.2 _ _ (by omega)]; exact b1) r1
      have hlen : (us.take c).length = c := by rw [List.length_take]; omega
      have hT' : cx_Rt X38 r k (us.take (c + 1)) := by
        have := cx_st_Rt (t := t) hT
        rw [hlen, ← e38] at this
        rw [List.take_succ, ht]
        exact this
      have hst : cx_rf r X X38 := by rw [e38]; exact cx_st_rf
      have hsf := cx_st_f (X := X) (r := r) (i := k) (c := c) (t := t)
      rw [← e38] at hsf
      refine ih (c + 1) q _ X38 (by omega) (cx_inc hc (by omega)) (cx_rf_tr hf hst) hT' (fun j => (hsf.1 j).trans (h0 j)) (fun j => (hsf.2 j).trans (h3 j)) (fun l vs hl hv hh => ?_) g
      rw [e38]
      exact cx_st_Ro hl (by omega) hv (ho l vs hl hv hh)
end CX46
