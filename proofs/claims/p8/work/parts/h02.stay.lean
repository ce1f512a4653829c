/-! WHAT STAYS, in the heap and in its view -/
def lw_kf : List (Nat × Nat) := [(10, 3), (10, 4), (9, 5), (6, 3), (7, 11), (7, 12), (7, 13), (7, 14), (7, 15), (7, 16)]
def lw_kc : List Nat := [1, 3, 4, 5, 6, 7, 8, 10, 11, 12, 13, 15, 16, 17, 18, 19, 20, 22, 23, 24, 25, 49]
def lw_kt : List Nat := [64, 65, 66, 67, 68, 69, 70, 72, 73, 74, 75, 93]
def lw_Mk (M : ak_Mo) : Bool := lw_kt.all (fun t => decide (t ∉ M.1)) && lw_kf.all (fun q => decide (q ∉ M.2))
/-- the shelf's cells stay -/
def lw_sh (h h' : aj_H) : Prop := (∀ i, i ∈ lw_kc → h'[i]? = h[i]?) ∧ (∀ (i c : Nat) (fs : List Value), h[i]? = some (.inr (c, fs)) → ∃ fs' : List Value, h'[i]? = some (.inr (c, fs')) ∧ ∀ k : Nat, (c, k) ∈ lw_kf → fs'[k]? = fs[k]?) ∧ h.length ≤ h'.length
/-- these two fields stay -/
def lw_s2 (h h' : aj_H) : Prop := (∀ v, cw_F h 0 10 4 v → cw_F h' 0 10 4 v) ∧ (∀ v, cw_F h 43 9 5 v → cw_F h' 43 9 5 v)
section LWH2
variable {tb : aj_T} {h h' h1 h2 : aj_H} {s : List Nat} {M : ak_Mo} {X X' : fx_X} {hh nl sr r : Nat} {U : md_U} {TB : md_TB} {pt : List (Nat → Bool)}
theorem lw_kc_ok : ∀ i, i ∈ lw_kc → ∃ t x, ak_s0[i]? = some t ∧ ak_C0.1[t]? = some (.inr x) ∧ t ∈ lw_kt := by
  have h0 : lw_kc.all (fun i => match ak_s0[i]? with
    | some t => (match ak_ti[t]? with
      | some (.inr _) => lw_kt.contains t
      | _ => false)
    | none => false) = true := by decide +kernel
  intro i hi
  have h1 := List.all_eq_true.mp h0 i hi
  cases ht : ak_s0[i]? with
  | none => rw [ht] at h1; cases h1
  | some t =>
    rw [ht] at h1
    dsimp only at h1
    cases hx : ak_ti[t]? with
    | none => rw [hx] at h1; cases h1
    | some x =>
      rw [hx] at h1
      cases x with
      | inl c => cases h1
      | inr x => exact ⟨t, x, rfl, hx, List.contains_iff_mem.mp h1⟩
theorem lw_sh_ev (hT : ak_Ty ak_C0 s h) (hB : cw_B s) (he : ak_Ev ak_C0 M s h h') (hl : h.length ≤ h'.length) (hM : lw_Mk M = true) : lw_sh h h' := by
  unfold lw_Mk at hM
  rw [Bool.and_eq_true] at hM
  refine ⟨fun i hi => ?_, fun i c fs hc => ?_, hl⟩
  · obtain ⟨t, x, h1, h2, h3⟩ := lw_kc_ok i hi
    exact he.1 i t x (cw_s0 hB h1) h2 (of_decide_eq_true (List.all_eq_true.mp hM.1 t h3))
  · obtain ⟨fs', g1, g2⟩ := he.2.1 i c fs hc
    exact ⟨fs', g1, fun k hk => g2 k (of_decide_eq_true (List.all_eq_true.mp hM.2 (c, k) hk))⟩
theorem lw_s2_ev (he : ak_Ev ak_C0 M s h h') (h1 : (10, 4) ∉ M.2) (h2 : (9, 5) ∉ M.2) : lw_s2 h h' := ⟨fun _ f => cw_Fev he h1 f, fun _ f => cw_Fev he h2 f⟩
/-- views agree where heaps do -/
theorem lw_ag (htb : tb.length = 52) (he : 52 ≤ r → h'[r - 52]? = h[r - 52]?) : (fx_V tb h').1 r = (fx_V tb h).1 r ∧ (fx_V tb h').2.1 r = (fx_V tb h).2.1 r ∧ (fx_V tb h').2.2.1 r = (fx_V tb h).2.2.1 r := by
  have e : fx_c tb h' r = fx_c tb h r := by
    unfold fx_c
    rw [htb]
    by_cases z : r < 52
    · rw [if_pos z, if_pos z]
    · rw [if_neg z, if_neg z]
      exact he (by omega)
  refine ⟨?_, ?_, ?_⟩
  · show fx_I (fx_c tb h' r) = fx_I (fx_c tb h r)
    rw [e]
  · show fx_L (fx_c tb h' r) = fx_L (fx_c tb h r)
    rw [e]
  · show fx_R (fx_c tb h' r) = fx_R (fx_c tb h r)
    rw [e]
theorem lw_agC (htb : tb.length = 52) (h0 : cw_rs h h') : ∀ r, 117 ≤ r → r < 150 → (fx_V tb h').1 r = (fx_V tb h).1 r ∧ (fx_V tb h').2.1 r = (fx_V tb h).2.1 r ∧ (fx_V tb h').2.2.1 r = (fx_V tb h).2.2.1 r := fun r z1 z2 => lw_ag htb (fun _ => h0 (r - 52) (by omega) (by omega))
theorem lw_agR (htb : tb.length = 52) (h0 : ∀ i, i < 65 ∨ 98 ≤ i → h'[i]? = h[i]?) : ∀ r, r < 117 ∨ 150 ≤ r → (fx_V tb h').1 r = (fx_V tb h).1 r ∧ (fx_V tb h').2.1 r = (fx_V tb h).2.1 r ∧ (fx_V tb h').2.2.1 r = (fx_V tb h).2.2.1 r := fun r z => lw_ag htb (fun _ => h0 (r - 52) (by omega))
theorem rx_MH_ag (hM : rx_MH hh U pt nl X) (hag : ∀ r, 117 ≤ r → r < 150 → X'.1 r = X.1 r ∧ X'.2.1 r = X.2.1 r) : rx_MH hh U pt nl X' := by
  obtain ⟨⟨a1, a2⟩, ⟨u1, u2, u3, u4, u5⟩, a4, ⟨p1, p2, p3⟩, a6, a7⟩ := hM
  have e : ∀ r, 117 ≤ r → r < 150 → X'.1 r = X.1 r := fun r z1 z2 => (hag r z1 z2).1
  have el : ∀ r, 117 ≤ r → r < 150 → X'.2.1 r = X.2.1 r := fun r z1 z2 => (hag r z1 z2).2
  refine ⟨⟨by rw [e 117 (by decide) (by decide)]; exact a1, a2⟩, ⟨by rw [e 118 (by decide) (by decide)]; exact u1, by rw [e 122 (by decide) (by decide)]; exact u2, u3, u4, fun u x hx => ?_⟩, fun hb => ?_, ⟨by rw [e 127 (by decide) (by decide)]; exact p1, p2, fun p f hp w hw => ?_⟩, by rw [e 128 (by decide) (by decide)]; exact a6, a7⟩
  · obtain ⟨v1, v2, v3, v4⟩ := u5 u x hx
    exact ⟨by rw [el 119 (by decide) (by decide)]; exact v1, by rw [e 120 (by decide) (by decide)]; exact v2, v3, fun i y hy => by rw [e 121 (by decide) (by decide)]; exact v4 i y hy⟩
  · obtain ⟨c1, c2, c3, c4⟩ := a4 hb
    exact ⟨c1, c2, c3, fun w u hw hu => by rw [e 123 (by decide) (by decide)]; exact c4 w u hw hu⟩
  · rw [e 129 (by decide) (by decide)]
    exact p3 p f hp w hw
theorem cx_M2_ag (hM : cx_M2 sr U TB pt nl X) (hag : ∀ r, r < 117 ∨ 150 ≤ r → X'.1 r = X.1 r ∧ X'.2.1 r = X.2.1 r ∧ X'.2.2.1 r = X.2.2.1 r) (hl : X.2.2.2.2 ≤ X'.2.2.2.2) : cx_M2 sr U TB pt nl X' := by
  have hs := hM.1.2.1
  have hO := hM.1.2.2.1.2.2.1
  have e : ∀ r, r < 117 ∨ 150 ≤ r → X'.1 r = X.1 r := fun r z => (hag r z).1
  have el : ∀ r, r < 117 ∨ 150 ≤ r → X'.2.1 r = X.2.1 r := fun r z => (hag r z).2.1
  have er : ∀ r, r < 117 ∨ 150 ≤ r → X'.2.2.1 r = X.2.2.1 r := fun r z => (hag r z).2.2
  refine cx_M2_q hM (by rw [er 52 (by decide)]) (by rw [er 52 (by decide)]) ⟨?_, by rw [er 95 (by decide)]; exact hM.2.2⟩ (fun t r ht h => ⟨by rw [er _ (by omega)]; exact h, ?_⟩) (fun q k z1 z2 _ _ => by rw [e q (by omega)]) (fun q z1 z2 => el q (by omega))
  · have sl : ∀ s, cx_sl s → X'.2.2.1 s.1 s.2 = X.2.2.1 s.1 s.2 := fun s hs => by rw [er _ (by rcases hs with h | h | h | h <;> omega)]
    obtain ⟨o1, o2, o3⟩ := hO
    refine ⟨by omega, fun s r h1 h2 => ?_, fun s s' r r' h1 h2 h3 h4 => ?_⟩
    · rw [sl s h1] at h2
      have := o2 s r h1 h2
      exact ⟨this.1, by omega⟩
    · rw [sl s h1] at h3
      rw [sl s' h2] at h4
      exact o3 s s' r r' h1 h2 h3 h4
  · have := (hO.2.1 (sr + 8, t) r (cx_slot hs ht) h).1
    rw [e r (by omega)]
theorem cx_MH_q2 (hM : cx_MH sr False U TB pt nl X) (h3 : X'.2.2.1 52 3 = X.2.2.1 52 3) (hO : cx_O X') (hr : ∀ t r, t < 10 → X.2.2.1 (sr + 8) t = some r → X'.2.2.1 (sr + 8) t = some r ∧ X'.1 r 3 = X.1 r 3) (e2 : ∀ q k, ((q = sr ∧ 11 ≤ k ∧ k ≤ 16) ∨ (sr + 2 ≤ q ∧ q < sr + 7) ∨ q = sr + 11) → X'.1 q k = X.1 q k) (el : ∀ q, (q = sr + 1 ∨ q = sr + 9 ∨ q = sr + 10) → X'.2.1 q = X.2.1 q) : cx_MH sr False U TB pt nl X' := by
  obtain ⟨a1, hs, ⟨⟨u1, u2, u3⟩, ⟨t1, t2⟩, o, gd⟩, a6, a7, a8, a9, a10⟩ := hM
  refine ⟨by rw [h3]; exact a1, hs, ⟨⟨by rw [e2 _ _ (by omega)]; exact u1, by rw [e2 _ _ (by omega)]; exact u2, fun u x hx => ?_⟩, ⟨by rw [e2 _ _ (by omega)]; exact t1, fun t x hx => ?_⟩, hO, gd⟩, ⟨a6.1, a6.2.1, fun w u hw hu => by rw [e2 _ _ (by omega)]; exact a6.2.2 w u hw hu⟩, ⟨by rw [e2 _ _ (by omega)]; exact a7.1, a7.2.1, fun w p hw hp => by rw [e2 _ _ (by omega)]; exact a7.2.2 w p hw hp⟩, ⟨by rw [e2 _ _ (by omega)]; exact a8.1, fun k w hk => by rw [e2 _ _ (by omega)]; exact a8.2 k w hk⟩, by rw [e2 _ _ (by omega)]; exact a9, a10⟩
  · obtain ⟨c1, c2, c3⟩ := u3 u x hx
    exact ⟨by rw [el _ (by omega)]; exact c1, by rw [e2 _ _ (by omega)]; exact c2, fun i v hv => by rw [e2 _ _ (by omega)]; exact c3 i v hv⟩
  · obtain ⟨c1, c2, r, c3, c4, c5, c6⟩ := t2 t x hx
    have ht : t < 10 := by have := (List.getElem?_eq_some_iff.mp hx).1; have h10 : TB.length ≤ 10 := (gd 0).2.2.2.2.1; omega
    obtain ⟨d1, d2⟩ := hr t r ht c3
    exact ⟨by rw [el _ (by omega)]; exact c1, by rw [e2 _ _ (by omega)]; exact c2, r, d1, by rw [d2]; exact c4, fun z => z.elim, fun c n hn => by rw [el _ (by omega)]; exact c6 c n hn⟩
/-- objects by their types -/
theorem lw_ob {i t c : Nat} (hT : ak_Ty ak_C0 s h) (hs : s[i]? = some t) (ht : ak_C0.1[t]? = some (.inl c)) : ∃ fs, h[i]? = some (.inr (c, fs)) := by
  obtain ⟨-, e, he, hc⟩ := hT.2 i t hs
  unfold ak_cOK at hc
  rw [ht] at hc
  obtain ⟨fs, rfl, -⟩ := hc
  exact ⟨fs, he⟩
theorem lw_V_o (htb : tb.length = 52) {i c : Nat} {fs : List Value} (h0 : h[i]? = some (.inr (c, fs))) (k : Nat) : (fx_V tb h).1 (52 + i) k = fx_vI ((fs[k]?).getD .null) ∧ (fx_V tb h).2.2.1 (52 + i) k = fx_vR ((fs[k]?).getD .null) := by
  have e : fx_c tb h (52 + i) = some (.inr (c, fs)) := by rw [fx_c_at htb]; exact h0
  refine ⟨?_, ?_⟩
  · show fx_I (fx_c tb h (52 + i)) k = _
    rw [e]; rfl
  · show fx_R (fx_c tb h (52 + i)) k = _
    rw [e]; rfl
/-- a field that stays -/
theorem lw_sh_f (htb : tb.length = 52) (h0 : lw_sh h h') {i c k : Nat} {fs : List Value} (ho : h[i]? = some (.inr (c, fs))) (hk : (c, k) ∈ lw_kf) : (fx_V tb h').1 (52 + i) k = (fx_V tb h).1 (52 + i) k ∧ (fx_V tb h').2.2.1 (52 + i) k = (fx_V tb h).2.2.1 (52 + i) k := by
  obtain ⟨fs', g1, g2⟩ := h0.2.1 i c fs ho
  obtain ⟨a1, a2⟩ := lw_V_o htb ho k
  obtain ⟨b1, b2⟩ := lw_V_o htb g1 k
  rw [a1, a2, b1, b2, g2 k hk]
  exact ⟨rfl, rfl⟩
/-- a question of the class leaves the shelf -/
theorem cx_M2_sh (htb : tb.length = 52) (hT : ak_Ty ak_C0 s h) (hB : cw_B s) (h0 : lw_sh h h') (hM : cx_M2 sr U TB pt nl (fx_V tb h)) : cx_M2 sr U TB pt nl (fx_V tb h') ∧ (fx_V tb h').1 53 = (fx_V tb h).1 53 := by
  have hs := hM.1.2.1
  have hO := hM.1.2.2.1.2.2.1
  have ag : ∀ i, i ∈ lw_kc → (fx_V tb h').1 (52 + i) = (fx_V tb h).1 (52 + i) ∧ (fx_V tb h').2.1 (52 + i) = (fx_V tb h).2.1 (52 + i) ∧ (fx_V tb h').2.2.1 (52 + i) = (fx_V tb h).2.2.1 (52 + i) := fun i hi => lw_ag htb (fun _ => by rw [Nat.add_sub_cancel_left]; exact h0.1 i hi)
  obtain ⟨f0, o0⟩ := lw_ob (i := 0) (t := 62) (c := 10) hT (cw_s0 hB rfl) rfl
  obtain ⟨f2, o2⟩ := lw_ob (i := 2) (t := 59) (c := 7) hT (cw_s0 hB rfl) rfl
  obtain ⟨f14, o14⟩ := lw_ob (i := 14) (t := 59) (c := 7) hT (cw_s0 hB rfl) rfl
  obtain ⟨f43, o43⟩ := lw_ob (i := 43) (t := 61) (c := 9) hT (cw_s0 hB rfl) rfl
  have r62 := (ag 10 (by decide)).2.2
  have r74 := (ag 22 (by decide)).2.2
  have r101 := (ag 49 (by decide)).2.2
  have r95 := (lw_sh_f htb h0 o43 (k := 5) (by decide)).2
  have sl : ∀ s, cx_sl s → (fx_V tb h').2.2.1 s.1 s.2 = (fx_V tb h).2.2.1 s.1 s.2 := by
    intro s hs
    rcases hs with ⟨z, -⟩ | ⟨z, -⟩ | ⟨z, -⟩ | ⟨z, z2⟩
    · rw [z]; exact congrFun r62 _
    · rw [z]; exact congrFun r74 _
    · rw [z]; exact congrFun r101 _
    · rw [z, z2]; exact r95
  have hl : (fx_V tb h).2.2.2.2 ≤ (fx_V tb h').2.2.2.2 := Nat.add_le_add_left h0.2.2 _
  -- rows are objects
  have rows : ∀ t r, t < 10 → (fx_V tb h).2.2.1 (sr + 8) t = some r → (fx_V tb h').1 r 3 = (fx_V tb h).1 r 3 := by
    intro t r ht hr
    have hr0 := (hO.2.1 (sr + 8, t) r (cx_slot hs ht) hr).1
    obtain ⟨i, hi, qi⟩ : ∃ i, sr + 8 = 52 + i ∧ s[i]? = some 72 := by
      rcases hs with z | z
      · exact ⟨10, by omega, cw_s0 hB rfl⟩
      · exact ⟨22, by omega, cw_s0 hB rfl⟩
    obtain ⟨n, x, a1, n1, n2, a4⟩ := cw_tyA (t := 72) (kd := 5) (n1 := 10) (n2 := 10) (y := .inr (some ([58], true))) hT qi rfl
    obtain ⟨f, rfl, hf⟩ := cw_xq a4
    have e : (fx_V tb h).2.2.1 (52 + i) t = f t := by
      show fx_R (fx_c tb h (52 + i)) t = _
      rw [fx_c_at htb, a1]; rfl
    rw [hi, e] at hr
    have hg := hf t (by omega)
    rw [hr] at hg
    have hg : ak_gam s (.inr (some ([58], true))) (.ref r) := hg
    obtain ⟨t', ht', hty⟩ := hg
    have ht' := List.mem_singleton.mp ht'
    subst ht'
    rcases hty with ⟨z1, z2⟩ | ⟨z1, z2, z3⟩
    · omega
    · obtain ⟨fs, ho⟩ := lw_ob (c := 6) hT z3 rfl
      have := (lw_sh_f htb h0 ho (k := 3) (by decide)).1
      rw [show 52 + (r - 52) = r by omega] at this
      exact this
  refine ⟨⟨cx_MH_q2 hM.1 (lw_sh_f htb h0 o0 (k := 3) (by decide)).2 ?_ (fun t r ht hr => ⟨by rw [sl (sr + 8, t) (cx_slot hs ht)]; exact hr, rows t r ht hr⟩) (fun q k z => ?_) (fun q z => ?_), by rw [(lw_sh_f htb h0 o0 (k := 4) (by decide)).2]; exact hM.2.1, by rw [r95]; exact hM.2.2⟩, (ag 1 (by decide)).1⟩
  · obtain ⟨p1, p2, p3⟩ := hO
    refine ⟨by omega, fun s r h1 h2 => ?_, fun s s' r r' h1 h2 h3 h4 => ?_⟩
    · rw [sl s h1] at h2
      have := p2 s r h1 h2
      exact ⟨this.1, by omega⟩
    · rw [sl s h1] at h3
      rw [sl s' h2] at h4
      exact p3 s s' r r' h1 h2 h3 h4
  · rcases z with ⟨z1, z2, z3⟩ | z
    · subst z1
      have hk : (7, k) ∈ lw_kf := by
        have : k = 11 ∨ k = 12 ∨ k = 13 ∨ k = 14 ∨ k = 15 ∨ k = 16 := by omega
        rcases this with y | y | y | y | y | y <;> (rw [y]; decide)
      rcases hs with z | z
      · subst z; exact (lw_sh_f htb h0 o2 hk).1
      · subst z; exact (lw_sh_f htb h0 o14 hk).1
    · have hi : q - 52 ∈ lw_kc := by
        have : q - 52 = 4 ∨ q - 52 = 5 ∨ q - 52 = 6 ∨ q - 52 = 7 ∨ q - 52 = 8 ∨ q - 52 = 13 ∨ q - 52 = 16 ∨ q - 52 = 17 ∨ q - 52 = 18 ∨ q - 52 = 19 ∨ q - 52 = 20 ∨ q - 52 = 25 := by omega
        rcases this with y | y | y | y | y | y | y | y | y | y | y | y <;> (rw [y]; decide)
      have := (ag (q - 52) hi).1
      rw [show 52 + (q - 52) = q by omega] at this
      rw [this]
  · have hi : q - 52 ∈ lw_kc := by
      have : q - 52 = 3 ∨ q - 52 = 11 ∨ q - 52 = 12 ∨ q - 52 = 15 ∨ q - 52 = 23 ∨ q - 52 = 24 := by omega
      rcases this with y | y | y | y | y | y <;> (rw [y]; decide)
    have := (ag (q - 52) hi).2.1
    rw [show 52 + (q - 52) = q by omega] at this
    exact this
end LWH2
