/-! ROWS OF THE CLASS: meeting, copying -/
section CX33
variable {X X' X1 : fx_X} {v p p0 p1 p2 p3 p4 p5 p6 : Int32} {u : Unit} {sr r r' W n i j c w m wd : Nat} {ts us : List md_Tm} {t : md_Tm} {val : md_V} {f h : Nat → Bool}
theorem fx_dig {y : Int32} {k : Nat} (h5 : p5.toInt = (m : Int)) (hy : y.toInt = (k : Int)) (hk : k ≤ 6) : ((p5 >>> (((Int32.ofInt 3) * y) &&& 31)) &&& ((Int8.ofInt 7).toInt32)).toInt = ((m / 8 ^ k % 8 : Nat) : Int) := by
  rw [fx_and7 (fx_shr (fx_3k hy hk) (by omega) h5), md_8]
theorem md_div8 (m k : Nat) : m / 8 ^ k / 8 = m / 8 ^ (k + 1) := by rw [Nat.div_div_eq_div_mul, Nat.pow_succ]
/-- one step of the comparison -/
theorem md_mt_c {k : Nat} {b : md_Tm} (hb : us[k]? = some b) : md_mt val w ts (m / 8 ^ k) (us.drop k) = ((if m / 8 ^ k % 8 < ts.length then md_cv val w (ts.getD (m / 8 ^ k % 8) (false, Int32.ofInt 0)) == md_cv val w b else true) && md_mt val w ts (m / 8 ^ (k + 1)) (us.drop (k + 1))) := by
  rw [md_drop hb, ← md_div8]
  rfl
theorem cx_112l (hR : cx_Rt X r i ts) (hR' : cx_Rt X r' j us) (ho : md_okt n ts) (ho' : md_okt n us) (hi : i < 30) (hj : j < 30) (hw1 : (X.1 r 3).toInt = (ts.length : Int)) (hw2 : (X.1 r' 3).toInt = (us.length : Int)) (h1 : p1.toInt = (i : Int)) (h3 : p3.toInt = (j : Int)) (h4 : p4.toInt = (m : Int)) : ∀ (q k : Nat) (y5 : Int32), y5.toInt = (k : Int) → k ≤ us.length → gxF_112 r p1 r' p3 p4 q 3 [y5] [] [] X v X' → X = X' ∧ ((v.toInt = 0) ∨ (v.toInt = 1 ∧ ∀ val w, md_mt val w ts (m / 8 ^ k) (us.drop k) = false)) := by
  intro q
  induction q with
  | zero => intro k y5 _ _ g; exact g.elim
  | succ q ih =>
    intro k y5 hk hkl g
    replace g := gxO_112_3 g
    unfold gxT_112_3 at g
    have h6 := ho.1
    have h6' := ho'.1
    by_cases z : k < us.length
    · rw [if_pos (by omega)] at g
      obtain ⟨b, hb⟩ : ∃ b, us[k]? = some b := ⟨us[k], List.getElem?_eq_getElem z⟩
      obtain ⟨x4, rfl, g⟩ := g
      have hd := fx_dig h4 hk (by omega)
      have nxt : ∀ {Y : fx_X}, (X = Y) → (∃ x7 : Int32, x7 = y5 + Int32.ofInt 1 ∧ gxF_112 r p1 r' p3 p4 q 3 [x7] [] [] Y v X') → X = X' ∧ ((v.toInt = 0) ∨ (v.toInt = 1 ∧ ∀ val w, md_mt val w ts (m / 8 ^ k) (us.drop k) = false)) := by
        rintro Y rfl ⟨x7, rfl, g⟩
        obtain ⟨a1, a2⟩ := ih (k + 1) _ (cx_inc hk (by omega)) (by omega) g
        refine ⟨a1, ?_⟩
        rcases a2 with a2 | ⟨a2, a3⟩
        · exact Or.inl a2
        · exact Or.inr ⟨a2, fun val w => by rw [md_mt_c hb, a3, Bool.and_false]⟩
      by_cases hlt : m / 8 ^ k % 8 < ts.length
      · rw [if_pos (by omega)] at g
        obtain ⟨t, ht⟩ : ∃ t, ts[m / 8 ^ k % 8]? = some t := ⟨ts[m / 8 ^ k % 8], List.getElem?_eq_getElem hlt⟩
        obtain ⟨w10, X9, r1, g⟩ := g
        obtain ⟨rfl, rfl⟩ := cx_103 hR hi (by omega) h1 hd ht r1
        cases ht1 : t.1 with
        | true =>
          rw [ht1, if_neg (by decide)] at g
          exact nxt rfl g
        | false =>
          rw [ht1, if_pos (by decide)] at g
          obtain ⟨w15, X14, r2, g⟩ := g
          obtain ⟨rfl, rfl⟩ := cx_103 hR' hj (by omega) h3 hk hb r2
          cases hb1 : b.1 with
          | true =>
            rw [hb1, if_neg (by decide)] at g
            exact nxt rfl g
          | false =>
            rw [hb1, if_pos (by decide)] at g
            obtain ⟨w20, X19, r3, w22, X21, r4, g⟩ := g
            obtain ⟨rfl, rfl⟩ := cx_104 hR hi (by omega) h1 hd ht r3
            obtain ⟨rfl, rfl⟩ := cx_104 hR' hj (by omega) h3 hk hb r4
            rcases fy_ifd g with ⟨d, gg⟩ | ⟨d, gg⟩
            · exact nxt rfl gg
            · refine ⟨gg.2.symm, Or.inr ⟨by rw [gg.1]; rfl, fun val w => ?_⟩⟩
              rw [md_mt_c hb, if_pos hlt, List.getD_eq_getElem?_getD, ht]
              have e1 : md_cv val w t = t.2 := by unfold md_cv; rw [ht1]; rfl
              have e2 : md_cv val w b = b.2 := by unfold md_cv; rw [hb1]; rfl
              show ((md_cv val w t == md_cv val w b) && _) = false
              rw [e1, e2]
              have : (t.2 == b.2) = false := by
                rw [beq_eq_false_iff_ne]
                exact fun z => d (by rw [z])
              rw [this]; rfl
      · rw [if_neg (by omega)] at g
        exact nxt rfl g
    · rw [if_neg (by omega)] at g
      exact ⟨g.2.symm, Or.inl (by rw [g.1]; rfl)⟩
theorem cx_112 (hR : cx_Rt X r i ts) (hR' : cx_Rt X r' j us) (ho : md_okt n ts) (ho' : md_okt n us) (hi : i < 30) (hj : j < 30) (hw1 : (X.1 r 3).toInt = (ts.length : Int)) (hw2 : (X.1 r' 3).toInt = (us.length : Int)) (h1 : p1.toInt = (i : Int)) (h3 : p3.toInt = (j : Int)) (h4 : p4.toInt = (m : Int)) (g : gx_112 r p1 r' p3 p4 X v X') : X = X' ∧ ((v.toInt = 0) ∨ (v.toInt = 1 ∧ ∀ val w, md_mt val w ts m us = false)) := by
  obtain ⟨q, g⟩ := g
  have := cx_112l hR hR' ho ho' hi hj hw1 hw2 h1 h3 h4 q 0 _ rfl (Nat.zero_le _) g
  rw [Nat.pow_zero, Nat.div_one] at this
  exact this
theorem cx_113l (hce : cx_ce X sr W n val) (hR : cx_Rt X r i ts) (hR' : cx_Rt X r' j us) (ho : md_okt n ts) (ho' : md_okt n us) (hi : i < 30) (hj : j < 30) (hw : w < W) (hw1 : (X.1 r 3).toInt = (ts.length : Int)) (hw2 : (X.1 r' 3).toInt = (us.length : Int)) (h2 : p2.toInt = (i : Int)) (h4 : p4.toInt = (j : Int)) (h5 : p5.toInt = (m : Int)) (h6 : p6.toInt = (w : Int)) : ∀ (q k : Nat) (y7 : Int32), y7.toInt = (k : Int) → k ≤ us.length → gxF_113 r sr p2 r' p4 p5 p6 q 26 [y7] [] [] X v X' → X = X' ∧ v = (if md_mt val w ts (m / 8 ^ k) (us.drop k) = true then Int32.ofInt 1 else Int32.ofInt 0) := by
  intro q
  induction q with
  | zero => intro k y7 _ _ g; exact g.elim
  | succ q ih =>
    intro k y7 hk hkl g
    replace g := gxO_113_26 g
    unfold gxT_113_26 at g
    have h6 := ho.1
    have h6' := ho'.1
    by_cases z : k < us.length
    · rw [if_pos (by omega)] at g
      obtain ⟨b, hb⟩ : ∃ b, us[k]? = some b := ⟨us[k], List.getElem?_eq_getElem z⟩
      obtain ⟨x10, rfl, g⟩ := g
      have hd := fx_dig h5 hk (by omega)
      rw [md_mt_c hb]
      by_cases hlt : m / 8 ^ k % 8 < ts.length
      · rw [if_pos (by omega)] at g
        obtain ⟨t, ht⟩ : ∃ t, ts[m / 8 ^ k % 8]? = some t := ⟨ts[m / 8 ^ k % 8], List.getElem?_eq_getElem hlt⟩
        obtain ⟨w16, X15, r1, w18, X17, r2, g⟩ := g
        obtain ⟨rfl, rfl⟩ := cx_114 hce hR ho hi hw h2 hd (by assumption) ht r1
        obtain ⟨rfl, rfl⟩ := cx_114 hce hR' ho' hj hw h4 hk (by assumption) hb r2
        rw [if_pos hlt, List.getD_eq_getElem?_getD, ht]
        show X = X' ∧ v = (if ((md_cv val w t == md_cv val w b) && _) = true then _ else _)
        rcases fy_ifd g with ⟨d, gg⟩ | ⟨d, gg⟩
        · obtain ⟨x20, rfl, gg⟩ := gg
          have e : (md_cv val w t == md_cv val w b) = true := by rw [beq_iff_eq]; exact fx_inj d
          rw [e, Bool.true_and]
          exact ih (k + 1) _ (cx_inc hk (by omega)) (by omega) gg
        · have e : (md_cv val w t == md_cv val w b) = false := by rw [beq_eq_false_iff_ne]; exact fun z => d (by rw [z])
          rw [e, Bool.false_and]
          exact ⟨gg.2.symm, gg.1⟩
      · rw [if_neg (by omega)] at g
        rw [if_neg hlt, Bool.true_and]
        obtain ⟨x13, rfl, g⟩ := g
        exact ih (k + 1) _ (cx_inc hk (by omega)) (by omega) g
    · rw [if_neg (by omega)] at g
      have e : k = us.length := by omega
      rw [e, List.drop_length]
      exact ⟨g.2.symm, g.1⟩
theorem cx_113 (hce : cx_ce X sr W n val) (hR : cx_Rt X r i ts) (hR' : cx_Rt X r' j us) (hB : cx_Rb X r W i f) (hB' : cx_Rb X r' W j h) (ho : md_okt n ts) (ho' : md_okt n us) (hi : i < 30) (hj : j < 30) (hw : w < W) (hw1 : (X.1 r 3).toInt = (ts.length : Int)) (hw2 : (X.1 r' 3).toInt = (us.length : Int)) (h2 : p2.toInt = (i : Int)) (h4 : p4.toInt = (j : Int)) (h5 : p5.toInt = (m : Int)) (h6 : p6.toInt = (w : Int)) (g : gx_113 r sr p2 r' p4 p5 p6 X v X') : X = X' ∧ v = (if (f w && h w && md_mt val w ts m us) = true then Int32.ofInt 1 else Int32.ofInt 0) := by
  obtain ⟨q, w3, X2, r1, g⟩ := g
  obtain ⟨rfl, rfl⟩ := cx_108 hB hce.1 (by omega) hw h2 h6 r1
  cases hf : f w with
  | false =>
    rw [hf, if_pos (by decide)] at g
    exact ⟨g.2.symm, g.1⟩
  | true =>
    rw [hf, if_neg (by decide)] at g
    obtain ⟨w6, X5, r2, g⟩ := g
    obtain ⟨rfl, rfl⟩ := cx_108 hB' hce.1 (by omega) hw h4 h6 r2
    cases hh : h w with
    | false =>
      rw [hh, if_pos (by decide)] at g
      exact ⟨g.2.symm, g.1⟩
    | true =>
      rw [hh, if_neg (by decide)] at g
      have := cx_113l hce hR hR' ho ho' hi hj hw hw1 hw2 h2 h4 h5 h6 q 0 _ rfl (Nat.zero_le _) g
      rw [Nat.pow_zero, Nat.div_one] at this
      exact this
/-- the COLUMNS one to one -/
theorem md_mt_eqv (hl : ts.length = us.length) (h6 : us.length ≤ 6) : md_mt val w ts 181896 us = md_eqv val w ts us := by
  have key : ∀ d k, k + d = us.length → md_mt val w ts (181896 / 8 ^ k) (us.drop k) = md_eqv val w (ts.drop k) (us.drop k) := by
    intro d
    induction d with
    | zero =>
      intro k hk
      have e1 : us.drop k = [] := List.drop_of_length_le (by omega)
      have e2 : ts.drop k = [] := List.drop_of_length_le (by omega)
      rw [e1, e2]
      rfl
    | succ d ih =>
      intro k hk
      obtain ⟨b, hb⟩ : ∃ b, us[k]? = some b := ⟨us[k]'(by omega), List.getElem?_eq_getElem (by omega)⟩
      obtain ⟨t, ht⟩ : ∃ t, ts[k]? = some t := ⟨ts[k]'(by omega), List.getElem?_eq_getElem (by omega)⟩
      have hdig : 181896 / 8 ^ k % 8 = k := by
        have : k = 0 ∨ k = 1 ∨ k = 2 ∨ k = 3 ∨ k = 4 ∨ k = 5 := by omega
        rcases this with rfl | rfl | rfl | rfl | rfl | rfl <;> decide
      rw [md_mt_c hb, hdig, if_pos (by omega), ih (k + 1) (by omega), md_drop ht, md_drop hb, List.getD_eq_getElem?_getD, ht]
      rfl
  have := key us.length 0 (by omega)
  rw [Nat.pow_zero, Nat.div_one] at this
  exact this
/-- a ROW more, of another's TERMS -/
theorem cx_102l (hap : r + 4 ≤ r' ∨ r' + 4 ≤ r) (hi : i < 30) (hj : j < 30) (h6 : us.length ≤ 6) (h2 : p2.toInt = (j : Int)) {y3 : Int32} (h3 : y3.toInt = (i : Int)) : ∀ (q k : Nat) (y4 : Int32) (X : fx_X), y4.toInt = (k : Int) → k ≤ us.length → (X.1 r' 3).toInt = (us.length : Int) → cx_Rt X r' j us → cx_Rt X r i (us.take k) → gxF_102 r r' p2 q 8 [y3, y4] [] [] X v X' → v = y3 ∧ cx_Rt X' r i us ∧ cx_rf r X X' ∧ X'.1 r 4 = X.1 r 4 + Int32.ofInt 1 ∧ X'.1 r 3 = X.1 r 3 ∧ (∀ k, X'.1 (r + 3) k = X.1 (r + 3) k) ∧ ∀ i' ts, i' ≠ i → ts.length ≤ 6 → cx_Rt X r i' ts → cx_Rt X' r i' ts := by
  intro q
  induction q with
  | zero => intro k y4 X _ _ _ _ _ g; exact g.elim
  | succ q ih =>
    intro k y4 X hk hkl hw hR hT g
    replace g := gxO_102_8 g
    unfold gxT_102_8 at g
    by_cases z : k < us.length
    · rw [if_pos (by omega)] at g
      obtain ⟨b, hb⟩ : ∃ b, us[k]? = some b := ⟨us[k], List.getElem?_eq_getElem z⟩
      obtain ⟨w8, X7, r1, w10, X9, r2, w12, X11, r3, x13, rfl, g⟩ := g
      obtain ⟨rfl, e1⟩ := cx_103 hR hj (by omega) h2 hk hb r1
      obtain ⟨rfl, e2⟩ := cx_104 hR hj (by omega) h2 hk hb r2
      have e3 := cx_105 (t := b) hi (by omega) h3 hk e1 e2 r3
      have hlt : (us.take k).length = k := by rw [List.length_take]; omega
      have e4 : us.take (k + 1) = us.take k ++ [b] := by rw [List.take_add_one, hb]; rfl
      have hst : cx_rf r X X11 := by rw [e3]; exact cx_st_rf
      have hT' : cx_Rt X11 r i (us.take (k + 1)) := by
        rw [e4, e3]
        have := cx_st_Rt (t := b) hT
        rw [hlt] at this
        exact this
      obtain ⟨a1, a2, a3, a4, a5, a6, a7⟩ := ih (k + 1) _ X11 (cx_inc hk (by omega)) (by omega) (by rw [hst.2 _ _ (by omega)]; exact hw) (cx_Rt_e hR (fun k => hst.2 _ _ (by omega)) (fun k => hst.2 _ _ (by omega))) hT' g
      have f1 := (cx_st_f (X := X) (r := r) (i := i) (c := k) (t := b))
      rw [← e3] at f1
      refine ⟨a1, a2, cx_rf_tr hst a3, by rw [a4, f1.1], by rw [a5, f1.1], fun k => by rw [a6, f1.2], fun i' ts hne hl ht => a7 i' ts hne hl ?_⟩
      rw [e3]
      exact cx_st_Ro hne (by omega) hl ht
    · rw [if_neg (by omega)] at g
      obtain ⟨X6, rfl, rfl, rfl⟩ := g
      rw [List.take_of_length_le (by omega)] at hT
      exact ⟨rfl, cx_Rt_e hT (fun k => by rw [fx_rIn (by omega)]) (fun k => by rw [fx_rIn (by omega)]), cx_rf_w cx_rf_rf (by omega), by rw [fx_rIe], by rw [fx_rIk (by decide)], fun k => by rw [fx_rIn (by omega)], fun i' ts _ _ ht => cx_Rt_e ht (fun k => by rw [fx_rIn (by omega)]) (fun k => by rw [fx_rIn (by omega)])⟩
theorem cx_102 (hap : r + 4 ≤ r' ∨ r' + 4 ≤ r) (hi : i < 30) (hj : j < 30) (h6 : us.length ≤ 6) (h2 : p2.toInt = (j : Int)) (h4 : (X.1 r 4).toInt = (i : Int)) (hw : (X.1 r' 3).toInt = (us.length : Int)) (hR : cx_Rt X r' j us) (g : gx_102 r r' p2 X v X') : v.toInt = (i : Int) ∧ cx_Rt X' r i us ∧ cx_rf r X X' ∧ (X'.1 r 4).toInt = ((i + 1 : Nat) : Int) ∧ X'.1 r 3 = X.1 r 3 ∧ (∀ k, X'.1 (r + 3) k = X.1 (r + 3) k) ∧ ∀ i' ts, i' ≠ i → ts.length ≤ 6 → cx_Rt X r i' ts → cx_Rt X' r i' ts := by
  obtain ⟨q, x2, rfl, g⟩ := g
  obtain ⟨a1, a2, a3, a4, a5⟩ := cx_102l hap hi hj h6 h2 h4 q 0 _ X rfl (Nat.zero_le _) hw hR (fun c t ht => by cases ht) g
  exact ⟨by rw [a1]; exact h4, a2, a3, by rw [a4, cx_inc h4 (by omega)], a5⟩
end CX33
