/-! FROM ONE PHASE TO ANOTHER: what may be null -/
section CW79
variable {T T' : ak_TT} {Φ : List Nat → Option Value → aj_H → Prop} {tb : aj_T} {d : Nat} {mm : aj_M} {con : ak_Con} {s : List Nat} {h h' : aj_H} {kc ks pc : Nat} {lv : aj_V} {st : List Value}
def cw_cmp (A B : List (List ak_A)) : Bool := A.length == B.length && (A.zip B).all (fun q => q.1.length == q.2.length && (q.1.zip q.2).all (fun r => ak_sub r.1 r.2))
theorem cw_cmp_l {A B : List (List ak_A)} (h0 : cw_cmp A B = true) : A.length = B.length := by
  unfold cw_cmp at h0
  rw [Bool.and_eq_true] at h0
  exact eq_of_beq h0.1
theorem cw_cmp_ok {A B : List (List ak_A)} (h0 : cw_cmp A B = true) {c : Nat} {fa : List ak_A} (ha : A[c]? = some fa) : ∃ fb : List ak_A, B[c]? = some fb ∧ fa.length = fb.length ∧ ∀ (k : Nat) (a b : ak_A), fa[k]? = some a → fb[k]? = some b → ak_sub a b = true := by
  have hl := cw_cmp_l h0
  unfold cw_cmp at h0
  rw [Bool.and_eq_true] at h0
  have hc := (List.getElem?_eq_some_iff.mp ha).1
  have hb : B[c]? = some (B[c]'(by omega)) := List.getElem?_eq_getElem (by omega)
  refine ⟨_, hb, ?_⟩
  have hz : (A.zip B)[c]? = some (fa, B[c]'(by omega)) := List.getElem?_zip_eq_some.mpr ⟨ha, hb⟩
  have h2 := List.all_eq_true.mp h0.2 _ (List.mem_of_getElem? hz)
  rw [Bool.and_eq_true] at h2
  refine ⟨eq_of_beq h2.1, fun k a b h3 h4 => ?_⟩
  exact List.all_eq_true.mp h2.2 _ (List.mem_of_getElem? (List.getElem?_zip_eq_some (z := (a, b)).mpr ⟨h3, h4⟩))
theorem cw_TyW (h1 : T'.1 = T.1) (h2 : cw_cmp T'.2.1 T.2.1 = true) (hT : ak_Ty T' s h) : ak_Ty T s h := by
  refine ⟨hT.1, fun i t hs => ?_⟩
  obtain ⟨h52, e, he, hc⟩ := hT.2 i t hs
  refine ⟨h52, e, he, ?_⟩
  unfold ak_cOK at hc ⊢
  rw [h1] at hc
  cases hq : T.1[t]? with
  | none =>
    rw [hq] at hc
    exact hc.elim
  | some z =>
    rw [hq] at hc
    cases z with
    | inl c =>
      obtain ⟨fs, e1, fa, f1, f2, f3⟩ := hc
      obtain ⟨fb, g1, g2, g3⟩ := cw_cmp_ok h2 f1
      refine ⟨fs, e1, fb, g1, by rw [f2, g2], fun k b hb => ?_⟩
      have hk := (List.getElem?_eq_some_iff.mp hb).1
      have ha : fa[k]? = some (fa[k]'(by omega)) := List.getElem?_eq_getElem (by omega)
      obtain ⟨v, v1, v2⟩ := f3 k _ ha
      exact ⟨v, v1, ak_sub_ok v2 (g3 k _ b ha hb)⟩
    | inr q => exact hc
/-- a field that isn't null any more -/
theorem cw_TyS (h1 : T'.1 = T.1) {c0 k0 : Nat} {fa : List ak_A} {y : ak_A} (hfa : T.2.1[c0]? = some fa) (h2 : T'.2.1 = T.2.1.set c0 (fa.set k0 y)) (hT : ak_Ty T s h) (hF : ∀ i t, s[i]? = some t → T.1[t]? = some (.inl c0) → ∃ v, cw_F h i c0 k0 v ∧ ak_gam s y v) : ak_Ty T' s h := by
  refine ⟨hT.1, fun i t hs => ?_⟩
  obtain ⟨h52, e, he, hc⟩ := hT.2 i t hs
  refine ⟨h52, e, he, ?_⟩
  unfold ak_cOK at hc ⊢
  rw [h1]
  cases hq : T.1[t]? with
  | none =>
    rw [hq] at hc
    exact hc.elim
  | some z =>
    rw [hq] at hc
    cases z with
    | inl c =>
      obtain ⟨fs, e1, fb, f1, f2, f3⟩ := hc
      by_cases ec : c = c0
      · subst ec
        obtain ⟨v, ⟨fs', g1, g2⟩, g3⟩ := hF i t hs hq
        rw [he, e1] at g1
        cases g1
        rw [hfa] at f1
        cases f1
        refine ⟨fs, e1, fa.set k0 y, ?_, by rw [f2, List.length_set], fun k a hk => ?_⟩
        · rw [h2, List.getElem?_set_self]
          exact (List.getElem?_eq_some_iff.mp hfa).1
        · by_cases ek : k = k0
          · subst ek
            have hl := (List.getElem?_eq_some_iff.mp hk).1
            rw [List.length_set] at hl
            rw [List.getElem?_set_self hl] at hk
            cases hk
            exact ⟨v, g2, g3⟩
          · rw [List.getElem?_set_ne (fun z => ek z.symm)] at hk
            exact f3 k a hk
      · exact ⟨fs, e1, fb, by rw [h2, List.getElem?_set_ne (fun z => ec z.symm)]; exact f1, f2, f3⟩
    | inr q => exact hc
theorem cw_slotT (h1 : T'.1 = T.1) (h2 : cw_cmp T'.2.1 T.2.1 = true) (t : Nat) : ak_slot T' t = ak_slot T t := by
  unfold ak_slot
  rw [h1]
  cases T.1[t]? with
  | none => rfl
  | some z =>
    cases z with
    | inl c =>
      show ((T'.2.1[c]?).getD []).length = ((T.2.1[c]?).getD []).length
      cases hq : T'.2.1[c]? with
      | none =>
        have := List.getElem?_eq_none_iff.mp hq
        rw [List.getElem?_eq_none (by rw [← cw_cmp_l h2]; exact this)]
      | some fa =>
        obtain ⟨fb, g1, g2, -⟩ := cw_cmp_ok h2 hq
        rw [g1]
        exact g2
    | inr q => rfl
theorem cw_sloT (h1 : T'.1 = T.1) (h2 : cw_cmp T'.2.1 T.2.1 = true) (u : List Nat) : ak_slo T' u = ak_slo T u := by
  unfold ak_slo
  rw [show ak_slot T' = ak_slot T from funext (cw_slotT h1 h2)]
theorem cw_EvT {M : ak_Mo} (h1 : T'.1 = T.1) (he : ak_Ev T' M s h h') : ak_Ev T M s h h' := by
  unfold ak_Ev at he ⊢
  rw [h1] at he
  exact he
theorem cw_WT (h1 : T'.1 = T.1) (h2 : cw_cmp T'.2.1 T.2.1 = true) (k0 : cw_W T' Φ tb d mm con s h kc ks pc lv st) : cw_W T Φ tb d mm con s h kc ks pc lv st := by
  obtain ⟨u, r, h', k1, k2, k3, k4, k5⟩ := k0
  exact ⟨u, r, h', by rw [← cw_sloT h1 h2]; exact k1, cw_TyW h1 h2 k2, k3, cw_EvT h1 k4, k5⟩
theorem cw_KT {as : List Value} (h1 : T'.1 = T.1) (h2 : cw_cmp T'.2.1 T.2.1 = true) (k0 : cw_K T' Φ tb d con as s h) : cw_K T Φ tb d con as s h := by
  obtain ⟨u, r, h', k1, k2, k3, k4, k5⟩ := k0
  exact ⟨u, r, h', by rw [← cw_sloT h1 h2]; exact k1, cw_TyW h1 h2 k2, k3, cw_EvT h1 k4, k5⟩
theorem cw_W0 (k0 : cw_W ak_CW Φ tb d mm con s h kc ks pc lv st) : cw_W ak_C0 Φ tb d mm con s h kc ks pc lv st := cw_WT (T' := ak_CW) rfl (by decide) k0
theorem cw_10 (k0 : cw_W ak_C1 Φ tb d mm con s h kc ks pc lv st) : cw_W ak_C0 Φ tb d mm con s h kc ks pc lv st := cw_WT (T' := ak_C1) rfl (by decide) k0
def cw_isC (c t : Nat) : Bool := match ak_ti[t]? with
  | some (.inl c') => c' == c
  | _ => false
theorem cw_isC_of {t c : Nat} (ht : ak_ti[t]? = some (.inl c)) : cw_isC c t = true := by
  unfold cw_isC
  rw [ht]
  exact beq_self_eq_true c
theorem cw_til : ak_ti.length = 134 := by decide +kernel
theorem cw_tlt {t : Nat} {z : ak_TI} (ht : ak_ti[t]? = some z) : t < 134 := by
  rw [← cw_til]
  exact (List.getElem?_eq_some_iff.mp ht).1
theorem cw_uni61 {i : Nat} {t : Nat} (hB : cw_B s) (hs : s[i]? = some t) (ht : ak_ti[t]? = some (.inl 9)) : i = 43 := by
  have h61 : ∀ t, t < 134 → cw_isC 9 t = true → t = 61 := by decide
  obtain rfl := h61 t (cw_tlt ht) (cw_isC_of ht)
  exact cw_uni hB hs (by decide) (by decide)
theorem cw_0W (hB : cw_B s) (hT : ak_Ty ak_C0 s h) {x : Nat} (hF : cw_F h 43 9 7 (.ref (52 + x))) (qx : s[x]? = some 59) : ak_Ty ak_CW s h :=
  cw_TyS (T := ak_C0) (c0 := 9) (k0 := 7) (y := .inr (some ([59], false))) rfl rfl rfl hT (fun i t hs ht => by
    obtain rfl := cw_uni61 hB hs ht
    exact ⟨_, hF, cw_gR qx (by decide) (by decide)⟩)
theorem cw_uni52 {i : Nat} {t : Nat} (hB : cw_B s) (hs : s[i]? = some t) (ht : ak_ti[t]? = some (.inl 0)) : i = 39 := by
  have h61 : ∀ t, t < 134 → cw_isC 0 t = true → t = 52 := by decide
  obtain rfl := h61 t (cw_tlt ht) (cw_isC_of ht)
  exact cw_uni hB hs (by decide) (by decide)
theorem cw_01 (hB : cw_B s) (hT : ak_Ty ak_C0 s h) {x : Nat} (hF : cw_F h 39 0 2 (.ref (52 + x))) (qx : s[x]? = some 59) : ak_Ty ak_C1 s h :=
  cw_TyS (T := ak_C0) (c0 := 0) (k0 := 2) (y := .inr (some ([59], false))) rfl rfl rfl hT (fun i t hs ht => by
    obtain rfl := cw_uni52 hB hs ht
    exact ⟨_, hF, cw_gR qx (by decide) (by decide)⟩)
end CW79
