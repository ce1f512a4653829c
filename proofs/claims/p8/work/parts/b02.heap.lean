/-! STEPS THAT READ AND WRITE THE HEAP, AND CALLS -/
theorem fx_fitI {ty : FieldType} (ht : ty = .int ∨ ty = .boolean ∨ ty = .byte) {v : Value} (h : aj_fit ty v = true) : v = .int (fx_vI v) := by
  rcases ht with rfl | rfl | rfl <;> cases v <;> first | rfl | (exact absurd h (by simp [aj_fit]))
theorem fx_fitL {v : Value} (h : aj_fit .long v = true) : v = .long (fx_vL v) := by
  cases v <;> first | rfl | (exact absurd h (by simp [aj_fit]))
theorem fx_fitR {ty : FieldType} (ht : (∃ s, ty = .object s) ∨ ∃ s, ty = .array s) {v : Value} (h : aj_fit ty v = true) : v = .null ∨ ∃ r, v = .ref r := by
  rcases ht with ⟨s, rfl⟩ | ⟨s, rfl⟩ <;> cases v <;> first | exact Or.inl rfl | exact Or.inr ⟨_, rfl⟩ | (exact absurd h (by simp [aj_fit]))
theorem fx_V4_f {tb : aj_T} {h : aj_H} (htb : tb.length = 52) {c ci k : Nat} {fs : List Value} {v : Value} (hc : h[c]? = some (.inr (ci, fs))) : (fx_V tb (h.set c (.inr (ci, fs.set k v)))).2.2.2 = (fx_V tb h).2.2.2 := by
  have hl := fx_lt hc
  refine Prod.ext (funext fun r => ?_) (by show tb.length + _ = tb.length + _; rw [List.length_set])
  show fx_A (fx_c tb _ r) = fx_A (fx_c tb h r)
  rw [fx_c_set htb hl]
  split
  · rename_i q
    rw [q, fx_c_at htb, hc]
    show (10 + ci, (fs.set k v).length) = (10 + ci, fs.length)
    rw [List.length_set]
  · rfl
theorem fx_V4_a {tb : aj_T} {h : aj_H} (htb : tb.length = 52) {c k n : Nat} {x x' : (Nat → Int32) ⊕ (Nat → Int64) ⊕ (Nat → UInt32) ⊕ (Nat → UInt64) ⊕ (Nat → Option Nat)} (hc : h[c]? = some (.inl (k, n, x))) : (fx_V tb (h.set c (.inl (k, n, x')))).2.2.2 = (fx_V tb h).2.2.2 := by
  have hl := fx_lt hc
  refine Prod.ext (funext fun r => ?_) (by show tb.length + _ = tb.length + _; rw [List.length_set])
  show fx_A (fx_c tb _ r) = fx_A (fx_c tb h r)
  rw [fx_c_set htb hl]
  split
  · rename_i q
    rw [q, fx_c_at htb, hc]
    rfl
  · rfl
section FX2
variable {tb : aj_T} {mm : aj_M} {M N pc pc' : Nat} {lv lv' : aj_V} {st st' rest : List Value} {X : fx_X} {Q : Option Value → fx_X → Prop} {ct : List (Nat × Instr × Nat)} {i : Instr} {len : Nat}
/-- what a field is -/
theorem fx_fld {h : aj_H} (hT : fx_T tb h) {r ci k : Nat} {fs : List Value} {v : Value} (ho : aj_obj tb h r = some (ci, fs)) (hv : fs[k]? = some v) {q : aj_C} (hq : aj_cls[ci]? = some q) : aj_fit (q.2.2.2 k) v = true ∧ fx_vI v = (fx_V tb h).1 r k ∧ fx_vL v = (fx_V tb h).2.1 r k ∧ fx_vR v = (fx_V tb h).2.2.1 r k ∧ (∀ e, e ∈ fx_fin → e.1 = ci → e.2.1 = k → v = .ref (fx_tg e r)) ∧ ((ci, k) ∈ fx_nn → v ≠ .null) := by
  obtain ⟨c, rfl, hc⟩ := fx_obj hT.1 ho
  obtain ⟨q', q1, q2, q3, q4, q5⟩ := hT.2.2.2.1 c ci fs hc
  rw [hq] at q1
  cases q1
  have e1 : fx_c tb h (52 + c) = some (.inr (ci, fs)) := by rw [fx_c_at hT.1, hc]
  refine ⟨q3 k v hv, ?_, ?_, ?_, fun e he h1 h2 => ?_, fun he z => q5 (ci, k) he rfl (by rw [hv, z])⟩
  · show _ = fx_I (fx_c tb h (52 + c)) k
    rw [e1]
    show _ = fx_vI ((fs[k]?).getD .null)
    rw [hv]
    rfl
  · show _ = fx_L (fx_c tb h (52 + c)) k
    rw [e1]
    show _ = fx_vL ((fs[k]?).getD .null)
    rw [hv]
    rfl
  · show _ = fx_R (fx_c tb h (52 + c)) k
    rw [e1]
    show _ = fx_vR ((fs[k]?).getD .null)
    rw [hv]
    rfl
  · subst h2
    have := (q4 e he h1).1
    rw [hv] at this
    exact Option.some.inj this
theorem fx_gf {h : aj_H} {tbl : List aj_L} {idx r : Nat} {out : aj_Out} {kind ci k : Nat} {fin : Int} (hl : aj_link tbl idx = some (kind, ci, k, fin)) (ho : aj_getf tb tbl pc idx lv (.ref r :: rest) h = some out) : ∃ fs v, aj_obj tb h r = some (ci, fs) ∧ fs[k]? = some v ∧ out = .inl ((pc + 3, lv, v :: rest), h, 0, 0) := by
  unfold aj_getf at ho
  rw [hl] at ho
  dsimp only at ho
  split at ho
  · rename_i e1 e2 e3
    cases e2
    split at ho
    · rename_i v hv
      split at ho
      · rename_i hk
        cases ho
        rename_i fs _ _
        exact ⟨_, v, by rw [e3, hk.2], hv, rfl⟩
      · cases ho
    · cases ho
  · cases ho
/-- getfield: an int, a long, a reference, one that never changes -/
theorem fx_gI (hct : aj_ctOK ct mm.2.1) {idx : Nat} (hd : aj_ct ct pc = some (.getfield idx, 3)) (hM : M ≤ N + 1) {kind ci k : Nat} {fin : Int} (hl : aj_link mm.2.2.2.2.2.1 idx = some (kind, ci, k, fin)) {q : aj_C} (hq : aj_cls[ci]? = some q) (ht : q.2.2.2 k = .int ∨ q.2.2.2 k = .boolean ∨ q.2.2.2 k = .byte) {r : Nat} (kk : fx_W tb mm N (pc + 3) lv (.int (X.1 r k) :: rest) X Q) : fx_W tb mm M pc lv (.ref r :: rest) X Q :=
  fx_g0 hct hd hM fun h hT hV out ho => by
    have h0 : aj_step aj_rc aj_cls tb mm.2.2.2.2.2.1 mm.2.2.1 mm.2.2.2.1 false (.getfield idx) 3 pc lv (.ref r :: rest) h = aj_getf tb mm.2.2.2.2.2.1 pc idx lv (.ref r :: rest) h := rfl
    rw [h0] at ho
    obtain ⟨fs, v, o1, o2, rfl⟩ := fx_gf hl ho
    obtain ⟨f1, f2, f3, f4, f5, f6⟩ := fx_fld hT o1 o2 hq
    refine Or.inr ⟨_, _, _, _, _, _, rfl, hT, by rw [hV]; exact fx_le_rf, ?_⟩
    rw [fx_fitI ht f1, f2, hV]
    exact kk
theorem fx_gL (hct : aj_ctOK ct mm.2.1) {idx : Nat} (hd : aj_ct ct pc = some (.getfield idx, 3)) (hM : M ≤ N + 1) {kind ci k : Nat} {fin : Int} (hl : aj_link mm.2.2.2.2.2.1 idx = some (kind, ci, k, fin)) {q : aj_C} (hq : aj_cls[ci]? = some q) (ht : q.2.2.2 k = .long) {r : Nat} (kk : fx_W tb mm N (pc + 3) lv (.long (X.2.1 r k) :: rest) X Q) : fx_W tb mm M pc lv (.ref r :: rest) X Q :=
  fx_g0 hct hd hM fun h hT hV out ho => by
    have h0 : aj_step aj_rc aj_cls tb mm.2.2.2.2.2.1 mm.2.2.1 mm.2.2.2.1 false (.getfield idx) 3 pc lv (.ref r :: rest) h = aj_getf tb mm.2.2.2.2.2.1 pc idx lv (.ref r :: rest) h := rfl
    rw [h0] at ho
    obtain ⟨fs, v, o1, o2, rfl⟩ := fx_gf hl ho
    obtain ⟨f1, f2, f3, f4, f5, f6⟩ := fx_fld hT o1 o2 hq
    refine Or.inr ⟨_, _, _, _, _, _, rfl, hT, by rw [hV]; exact fx_le_rf, ?_⟩
    rw [ht] at f1
    rw [fx_fitL f1, f3, hV]
    exact kk
theorem fx_gR (hct : aj_ctOK ct mm.2.1) {idx : Nat} (hd : aj_ct ct pc = some (.getfield idx, 3)) (hM : M ≤ N + 1) {kind ci k : Nat} {fin : Int} (hl : aj_link mm.2.2.2.2.2.1 idx = some (kind, ci, k, fin)) {q : aj_C} (hq : aj_cls[ci]? = some q) (ht : (∃ s, q.2.2.2 k = .object s) ∨ ∃ s, q.2.2.2 k = .array s) {r : Nat} (k0 : X.2.2.1 r k = none → (ci, k) ∉ fx_nn → fx_W tb mm N (pc + 3) lv (.null :: rest) X Q) (k1 : ∀ b, X.2.2.1 r k = some b → fx_W tb mm N (pc + 3) lv (.ref b :: rest) X Q) : fx_W tb mm M pc lv (.ref r :: rest) X Q :=
  fx_g0 hct hd hM fun h hT hV out ho => by
    have h0 : aj_step aj_rc aj_cls tb mm.2.2.2.2.2.1 mm.2.2.1 mm.2.2.2.1 false (.getfield idx) 3 pc lv (.ref r :: rest) h = aj_getf tb mm.2.2.2.2.2.1 pc idx lv (.ref r :: rest) h := rfl
    rw [h0] at ho
    obtain ⟨fs, v, o1, o2, rfl⟩ := fx_gf hl ho
    obtain ⟨f1, f2, f3, f4, f5, f6⟩ := fx_fld hT o1 o2 hq
    refine Or.inr ⟨_, _, _, _, _, _, rfl, hT, by rw [hV]; exact fx_le_rf, ?_⟩
    rw [hV] at f4 ⊢
    rcases fx_fitR ht f1 with rfl | ⟨b, rfl⟩
    · exact k0 f4.symm (fun z => f6 z rfl)
    · exact k1 b f4.symm
theorem fx_gF (hct : aj_ctOK ct mm.2.1) {idx : Nat} (hd : aj_ct ct pc = some (.getfield idx, 3)) (hM : M ≤ N + 1) {kind ci k : Nat} {fin : Int} (hl : aj_link mm.2.2.2.2.2.1 idx = some (kind, ci, k, fin)) {q : aj_C} (hq : aj_cls[ci]? = some q) {off a kd n : Nat} (he : (ci, k, off, a, kd, n) ∈ fx_fin) {r t : Nat} (ht : fx_tg (ci, k, off, a, kd, n) r = t) (kk : X.2.2.2.1 t = (kd, n) → fx_W tb mm N (pc + 3) lv (.ref t :: rest) X Q) : fx_W tb mm M pc lv (.ref r :: rest) X Q :=
  fx_g0 hct hd hM fun h hT hV out ho => by
    have h0 : aj_step aj_rc aj_cls tb mm.2.2.2.2.2.1 mm.2.2.1 mm.2.2.2.1 false (.getfield idx) 3 pc lv (.ref r :: rest) h = aj_getf tb mm.2.2.2.2.2.1 pc idx lv (.ref r :: rest) h := rfl
    rw [h0] at ho
    obtain ⟨fs, v, o1, o2, rfl⟩ := fx_gf hl ho
    obtain ⟨f1, f2, f3, f4, f5, f6⟩ := fx_fld hT o1 o2 hq
    refine Or.inr ⟨_, _, _, _, _, _, rfl, hT, by rw [hV]; exact fx_le_rf, ?_⟩
    have e1 := f5 _ he rfl rfl
    rw [ht] at e1
    rw [e1, hV]
    refine kk ?_
    obtain ⟨c, rfl, hc⟩ := fx_obj hT.1 o1
    obtain ⟨q', q1, q2, q3, q4, q5⟩ := hT.2.2.2.1 c ci fs hc
    have e2 := (q4 _ he rfl).2
    rw [ht] at e2
    rw [← hV]
    exact e2
theorem fx_pf {h : aj_H} {tbl : List aj_L} {idx r : Nat} {out : aj_Out} {kind ci k : Nat} {v : Value} (hl : aj_link tbl idx = some (kind, ci, k, 0)) (ho : aj_putf aj_cls tb tbl false pc idx lv (v :: .ref r :: rest) h = some out) : ∃ fs q, aj_obj tb h r = some (ci, fs) ∧ aj_cls[ci]? = some q ∧ k < fs.length ∧ aj_fit (q.2.2.2 k) v = true ∧ out = .inl ((pc + 3, lv, rest), h.set (r - tb.length) (.inr (ci, fs.set k v)), 0, 0) := by
  unfold aj_putf at ho
  rw [hl] at ho
  dsimp only at ho
  split at ho
  · rename_i e1 e2 e3
    cases e2
    split at ho
    · rename_i c1 c2 c3 c4 c5
      split at ho
      · rename_i hk
        cases ho
        obtain ⟨k1, k2, k3, k4, k5⟩ := hk
        subst k2
        exact ⟨_, _, e3, c5, k3, k4, rfl⟩
      · cases ho
    · cases ho
  · cases ho
theorem fx_pI (hct : aj_ctOK ct mm.2.1) {idx : Nat} (hd : aj_ct ct pc = some (.putfield idx, 3)) (hM : M ≤ N + 1) {kind ci k : Nat} (hl : aj_link mm.2.2.2.2.2.1 idx = some (kind, ci, k, 0)) {q : aj_C} (hq : aj_cls[ci]? = some q) (ht : q.2.2.2 k = .int ∨ q.2.2.2 k = .boolean ∨ q.2.2.2 k = .byte) (hf : ∀ e, e ∈ fx_fin → e.1 = ci → e.2.1 ≠ k) (hn : (ci, k) ∉ fx_nn) {r : Nat} {x : Int32} (kk : fx_W tb mm N (pc + 3) lv rest (fx_wI X r k x) Q) : fx_W tb mm M pc lv (.int x :: .ref r :: rest) X Q :=
  fx_g0 hct hd hM fun h hT hV out ho => by
    have h0 : aj_step aj_rc aj_cls tb mm.2.2.2.2.2.1 mm.2.2.1 mm.2.2.2.1 false (.putfield idx) 3 pc lv (.int x :: .ref r :: rest) h = aj_putf aj_cls tb mm.2.2.2.2.2.1 false pc idx lv (.int x :: .ref r :: rest) h := rfl
    rw [h0] at ho
    obtain ⟨fs, q', o1, o2, o3, o4, rfl⟩ := fx_pf hl ho
    rw [hq] at o2
    cases o2
    have o5 : fs[k]? = some fs[k] := List.getElem?_eq_getElem o3
    obtain ⟨f1, f2, f3, f4, f5, f6⟩ := fx_fld hT o1 o5 hq
    have f7 := fx_fitI ht f1
    obtain ⟨c, rfl, hc⟩ := fx_obj hT.1 o1
    have ec : 52 + c - tb.length = c := by rw [hT.1]; omega
    rw [ec]
    refine Or.inr ⟨_, _, _, _, _, _, rfl, fx_T_fld hT hc hq o4 o3 hf (fun z => absurd z hn), fx_le_eq (by rw [← hV]; exact fx_V4_f hT.1 hc), ?_⟩
    rw [fx_V_f hT.1 hc o3 (X := fx_wI X (52 + c) k x) (fun r j => by rw [hV]; rfl) (fun r j => ?_) (fun r j => ?_) (by rw [hV]; rfl)]
    · exact kk
    · rw [hV] at f3 ⊢
      show X.2.1 r j = _
      split
      · rename_i z
        obtain ⟨rfl, rfl⟩ := z
        rw [← f3, f7]
        rfl
      · rfl
    · rw [hV] at f4 ⊢
      show X.2.2.1 r j = _
      split
      · rename_i z
        obtain ⟨rfl, rfl⟩ := z
        rw [← f4, f7]
        rfl
      · rfl
theorem fx_pL (hct : aj_ctOK ct mm.2.1) {idx : Nat} (hd : aj_ct ct pc = some (.putfield idx, 3)) (hM : M ≤ N + 1) {kind ci k : Nat} (hl : aj_link mm.2.2.2.2.2.1 idx = some (kind, ci, k, 0)) {q : aj_C} (hq : aj_cls[ci]? = some q) (ht : q.2.2.2 k = .long) (hf : ∀ e, e ∈ fx_fin → e.1 = ci → e.2.1 ≠ k) (hn : (ci, k) ∉ fx_nn) {r : Nat} {x : Int64} (kk : fx_W tb mm N (pc + 3) lv rest (fx_wL X r k x) Q) : fx_W tb mm M pc lv (.long x :: .ref r :: rest) X Q :=
  fx_g0 hct hd hM fun h hT hV out ho => by
    have h0 : aj_step aj_rc aj_cls tb mm.2.2.2.2.2.1 mm.2.2.1 mm.2.2.2.1 false (.putfield idx) 3 pc lv (.long x :: .ref r :: rest) h = aj_putf aj_cls tb mm.2.2.2.2.2.1 false pc idx lv (.long x :: .ref r :: rest) h := rfl
    rw [h0] at ho
    obtain ⟨fs, q', o1, o2, o3, o4, rfl⟩ := fx_pf hl ho
    rw [hq] at o2
    cases o2
    have o5 : fs[k]? = some fs[k] := List.getElem?_eq_getElem o3
    obtain ⟨f1, f2, f3, f4, f5, f6⟩ := fx_fld hT o1 o5 hq
    rw [ht] at f1
    have f7 := fx_fitL f1
    obtain ⟨c, rfl, hc⟩ := fx_obj hT.1 o1
    have ec : 52 + c - tb.length = c := by rw [hT.1]; omega
    rw [ec]
    refine Or.inr ⟨_, _, _, _, _, _, rfl, fx_T_fld hT hc hq o4 o3 hf (fun z => absurd z hn), fx_le_eq (by rw [← hV]; exact fx_V4_f hT.1 hc), ?_⟩
    rw [fx_V_f hT.1 hc o3 (X := fx_wL X (52 + c) k x) (fun r j => ?_) (fun r j => by rw [hV]; rfl) (fun r j => ?_) (by rw [hV]; rfl)]
    · exact kk
    · rw [hV] at f2 ⊢
      show X.1 r j = _
      split
      · rename_i z
        obtain ⟨rfl, rfl⟩ := z
        rw [← f2, f7]
        rfl
      · rfl
    · rw [hV] at f4 ⊢
      show X.2.2.1 r j = _
      split
      · rename_i z
        obtain ⟨rfl, rfl⟩ := z
        rw [← f4, f7]
        rfl
      · rfl
/-- a reference, or null -/
theorem fx_pR (hct : aj_ctOK ct mm.2.1) {idx : Nat} (hd : aj_ct ct pc = some (.putfield idx, 3)) (hM : M ≤ N + 1) {kind ci k : Nat} (hl : aj_link mm.2.2.2.2.2.1 idx = some (kind, ci, k, 0)) {q : aj_C} (hq : aj_cls[ci]? = some q) (ht : (∃ s, q.2.2.2 k = .object s) ∨ ∃ s, q.2.2.2 k = .array s) (hf : ∀ e, e ∈ fx_fin → e.1 = ci → e.2.1 ≠ k) {r : Nat} {o : Option Nat} {v : Value} (hv : v = va_rf o) (hn : (ci, k) ∈ fx_nn → o ≠ none) (kk : fx_W tb mm N (pc + 3) lv rest (fx_wR X r k o) Q) : fx_W tb mm M pc lv (v :: .ref r :: rest) X Q :=
  fx_g0 hct hd hM fun h hT hV out ho => by
    have h0 : aj_step aj_rc aj_cls tb mm.2.2.2.2.2.1 mm.2.2.1 mm.2.2.2.1 false (.putfield idx) 3 pc lv (v :: .ref r :: rest) h = aj_putf aj_cls tb mm.2.2.2.2.2.1 false pc idx lv (v :: .ref r :: rest) h := rfl
    rw [h0] at ho
    obtain ⟨fs, q', o1, o2, o3, o4, rfl⟩ := fx_pf hl ho
    rw [hq] at o2
    cases o2
    have o5 : fs[k]? = some fs[k] := List.getElem?_eq_getElem o3
    obtain ⟨f1, f2, f3, f4, f5, f6⟩ := fx_fld hT o1 o5 hq
    have f7 : fx_vI fs[k] = 0 ∧ fx_vL fs[k] = 0 := by
      rcases fx_fitR ht f1 with e | ⟨b, e⟩ <;> rw [e] <;> exact ⟨rfl, rfl⟩
    obtain ⟨c, rfl, hc⟩ := fx_obj hT.1 o1
    have ec : 52 + c - tb.length = c := by rw [hT.1]; omega
    rw [ec]
    have hvn : (ci, k) ∈ fx_nn → v ≠ .null := by
      intro z e
      rw [hv] at e
      cases o with
      | none => exact hn z rfl
      | some b => cases e
    have v1 : fx_vI v = 0 ∧ fx_vL v = 0 ∧ fx_vR v = o := by
      rw [hv]
      cases o <;> exact ⟨rfl, rfl, rfl⟩
    refine Or.inr ⟨_, _, _, _, _, _, rfl, fx_T_fld hT hc hq o4 o3 hf hvn, fx_le_eq (by rw [← hV]; exact fx_V4_f hT.1 hc), ?_⟩
    rw [fx_V_f hT.1 hc o3 (X := fx_wR X (52 + c) k o) (fun r j => ?_) (fun r j => ?_) (fun r j => by rw [hV, v1.2.2]; rfl) (by rw [hV]; rfl)]
    · exact kk
    · rw [hV] at f2 ⊢
      show X.1 r j = _
      split
      · rename_i z
        obtain ⟨rfl, rfl⟩ := z
        rw [← f2, f7.1, v1.1]
      · rfl
    · rw [hV] at f3 ⊢
      show X.2.1 r j = _
      split
      · rename_i z
        obtain ⟨rfl, rfl⟩ := z
        rw [← f3, f7.2, v1.2.1]
      · rfl
theorem fx_inB {x : Int32} {n : Nat} (h : aj_in x n = true) : 0 ≤ x.toInt ∧ x.toInt < n ∧ x.toNatClampNeg = x.toInt.toNat := by
  unfold aj_in at h
  rw [Bool.and_eq_true, Bool.not_eq_true', decide_eq_false_iff_not, decide_eq_true_eq] at h
  have h2 : x.toNatClampNeg = x.toInt.toNat := rfl
  have h3 : 0 ≤ x.toInt := Int.not_lt.mp fun z => h.1 (Int32.lt_iff_toInt_lt.mpr z)
  refine ⟨h3, ?_, h2⟩
  have := h.2
  omega
/-- loads -/
theorem fx_ldk {h : aj_H} (hT : fx_T tb h) (hV : fx_V tb h = X) {kd a : Nat} {x : Int32} {out : aj_Out} (ho : aj_ald kd tb pc lv (.int x :: .ref a :: rest) h = some out) (kk : 0 ≤ x.toInt → x.toInt < (X.2.2.2.1 a).2 → fx_W tb mm N (pc + 1) lv (.int (X.1 a x.toInt.toNat) :: rest) X Q) : ∃ (pc' : Nat) (lv' : aj_V) (st' : List Value) (h' : aj_H) (dc ds : Nat), out = .inl ((pc', lv', st'), h', dc, ds) ∧ fx_T tb h' ∧ fx_le X (fx_V tb h') ∧ fx_W tb mm N pc' lv' st' (fx_V tb h') Q := by
  simp only [aj_ald] at ho
  split at ho
  · rename_i k' n f ha
    split at ho
    · rename_i hk
      cases ho
      obtain ⟨g1, g2, g3⟩ := fx_inB hk.2
      refine ⟨_, _, _, _, _, _, rfl, hT, by rw [hV]; exact fx_le_rf, ?_⟩
      have e1 := fx_arr ha
      have e2 : X.2.2.2.1 a = (k', n) := by
        rw [← hV]
        show fx_A (fx_c tb h a) = _
        rw [e1]
        rfl
      have e3 : f x.toNatClampNeg = X.1 a x.toInt.toNat := by
        rw [← hV, g3]
        show _ = fx_I (fx_c tb h a) _
        rw [e1]
        rfl
      rw [e3, hV]
      exact kk g1 (by rw [e2]; exact g2)
    · cases ho
  · cases ho
theorem fx_ld (hct : aj_ctOK ct mm.2.1) (hi : i = .iaload ∨ i = .caload ∨ i = .baload) (hd : aj_ct ct pc = some (i, 1)) (hM : M ≤ N + 1) {a : Nat} {x : Int32} (kk : 0 ≤ x.toInt → x.toInt < (X.2.2.2.1 a).2 → fx_W tb mm N (pc + 1) lv (.int (X.1 a x.toInt.toNat) :: rest) X Q) : fx_W tb mm M pc lv (.int x :: .ref a :: rest) X Q :=
  fx_g0 hct hd hM fun h hT hV out ho => by
    refine Or.inr ?_
    rcases hi with rfl | rfl | rfl
    · exact fx_ldk hT hV (kd := 0) ho kk
    · exact fx_ldk hT hV (kd := 3) ho kk
    · have h0 : aj_step aj_rc aj_cls tb mm.2.2.2.2.2.1 mm.2.2.1 mm.2.2.2.1 false .baload 1 pc lv (.int x :: .ref a :: rest) h = aj_bld tb pc lv (.int x :: .ref a :: rest) h := rfl
      rw [h0] at ho
      simp only [aj_bld] at ho
      split at ho
      · exact fx_ldk hT hV (kd := 2) ho kk
      · exact fx_ldk hT hV (kd := 4) ho kk
theorem fx_ldL (hct : aj_ctOK ct mm.2.1) (hd : aj_ct ct pc = some (.laload, 1)) (hM : M ≤ N + 1) {a : Nat} {x : Int32} (kk : 0 ≤ x.toInt → x.toInt < (X.2.2.2.1 a).2 → fx_W tb mm N (pc + 1) lv (.long (X.2.1 a x.toInt.toNat) :: rest) X Q) : fx_W tb mm M pc lv (.int x :: .ref a :: rest) X Q :=
  fx_g0 hct hd hM fun h hT hV out ho => by
    have h0 : aj_step aj_rc aj_cls tb mm.2.2.2.2.2.1 mm.2.2.1 mm.2.2.2.1 false .laload 1 pc lv (.int x :: .ref a :: rest) h = aj_lld tb pc lv (.int x :: .ref a :: rest) h := rfl
    rw [h0] at ho
    simp only [aj_lld] at ho
    split at ho
    · rename_i n f ha
      split at ho
      · rename_i hk
        cases ho
        obtain ⟨g1, g2, g3⟩ := fx_inB hk
        refine Or.inr ⟨_, _, _, _, _, _, rfl, hT, by rw [hV]; exact fx_le_rf, ?_⟩
        have e1 := fx_arr ha
        have e2 : X.2.2.2.1 a = (1, n) := by
          rw [← hV]
          show fx_A (fx_c tb h a) = _
          rw [e1]
          rfl
        have e3 : f x.toNatClampNeg = X.2.1 a x.toInt.toNat := by
          rw [← hV, g3]
          show _ = fx_L (fx_c tb h a) _
          rw [e1]
          rfl
        rw [e3, hV]
        exact kk g1 (by rw [e2]; exact g2)
      · cases ho
    · cases ho
theorem fx_ldR (hct : aj_ctOK ct mm.2.1) (hd : aj_ct ct pc = some (.aaload, 1)) (hM : M ≤ N + 1) {a : Nat} {x : Int32} (k0 : 0 ≤ x.toInt → x.toInt < (X.2.2.2.1 a).2 → X.2.2.1 a x.toInt.toNat = none → fx_W tb mm N (pc + 1) lv (.null :: rest) X Q) (k1 : 0 ≤ x.toInt → x.toInt < (X.2.2.2.1 a).2 → ∀ b, X.2.2.1 a x.toInt.toNat = some b → fx_W tb mm N (pc + 1) lv (.ref b :: rest) X Q) : fx_W tb mm M pc lv (.int x :: .ref a :: rest) X Q :=
  fx_g0 hct hd hM fun h hT hV out ho => by
    have h0 : aj_step aj_rc aj_cls tb mm.2.2.2.2.2.1 mm.2.2.1 mm.2.2.2.1 false .aaload 1 pc lv (.int x :: .ref a :: rest) h = aj_qld tb pc lv (.int x :: .ref a :: rest) h := rfl
    rw [h0] at ho
    simp only [aj_qld] at ho
    split at ho
    · cases ho
    · rename_i ha
      split at ho
      · rename_i n f hc
        split at ho
        · rename_i hk
          cases ho
          obtain ⟨g1, g2, g3⟩ := fx_inB hk
          refine Or.inr ⟨_, _, _, _, _, _, rfl, hT, by rw [hV]; exact fx_le_rf, ?_⟩
          have e1 : fx_c tb h a = some (.inl (5, n, .inr (.inr (.inr (.inr f))))) := by
            unfold fx_c
            rw [if_neg ha, hc]
          have e2 : X.2.2.2.1 a = (5, n) := by
            rw [← hV]
            show fx_A (fx_c tb h a) = _
            rw [e1]
            rfl
          have e3 : f x.toNatClampNeg = X.2.2.1 a x.toInt.toNat := by
            rw [← hV, g3]
            show _ = fx_R (fx_c tb h a) _
            rw [e1]
            rfl
          rw [e3, hV]
          cases e4 : X.2.2.1 a x.toInt.toNat with
          | none => exact k0 g1 (by rw [e2]; exact g2) e4
          | some b => exact k1 g1 (by rw [e2]; exact g2) b e4
        · cases ho
      · cases ho
theorem fx_al (hct : aj_ctOK ct mm.2.1) (hd : aj_ct ct pc = some (.arraylength, 1)) (hM : M ≤ N + 1) {a : Nat} (kk : fx_W tb mm N (pc + 1) lv (.int (Int32.ofNat (X.2.2.2.1 a).2) :: rest) X Q) : fx_W tb mm M pc lv (.ref a :: rest) X Q :=
  fx_g0 hct hd hM fun h hT hV out ho => by
    have h0 : aj_step aj_rc aj_cls tb mm.2.2.2.2.2.1 mm.2.2.1 mm.2.2.2.1 false .arraylength 1 pc lv (.ref a :: rest) h = aj_alen tb pc lv (.ref a :: rest) h := rfl
    rw [h0] at ho
    simp only [aj_alen] at ho
    split at ho
    · rename_i k n x ha
      split at ho
      · cases ho
        refine Or.inr ⟨_, _, _, _, _, _, rfl, hT, by rw [hV]; exact fx_le_rf, ?_⟩
        have e2 : X.2.2.2.1 a = (k, n) := by
          rw [← hV]
          show fx_A (fx_c tb h a) = _
          rw [fx_arr ha]
          rfl
        rw [hV]
        rw [e2] at kk
        exact kk
      · cases ho
    · cases ho
end FX2
