/-! THE CLASS'S WORKER: * -/
section CX36
variable {X X' X0 X1 : fx_X} {v p p0 p1 p2 p3 p4 p5 p6 : Int32} {u : Unit} {sr r r' rs W n i j c w m wd wd' k : Nat} {ts us : List md_Tm} {t : md_Tm} {val : md_V} {f h h' : Nat → Bool} {A B : List md_Row}
/-- how many COLUMNS are new -/
theorem md_nw_c {k : Nat} {b : md_Tm} (hb : us[k]? = some b) : md_nw n (m / 8 ^ k) (us.drop k) = (if m / 8 ^ k % 8 < n then [] else [b]) ++ md_nw n (m / 8 ^ (k + 1)) (us.drop (k + 1)) := by
  rw [md_drop hb, ← md_div8]
  rfl
theorem md_nw_len : ∀ (us : List md_Tm) (m : Nat), (md_nw n m us).length ≤ us.length
  | [], _ => Nat.le_refl _
  | b :: us, m => by
    have ih := md_nw_len us (m / 8)
    show ((if m % 8 < n then [] else [b]) ++ md_nw n (m / 8) us).length ≤ us.length + 1
    rw [List.length_append]
    split
    · show 0 + _ ≤ _; omega
    · show 1 + _ ≤ _; omega
/-- the TERMS that are new -/
theorem cx_118t {X0 : fx_X} (hap : rs + 4 ≤ r' ∨ r' + 4 ≤ rs) (hap1 : rs + 4 ≤ r ∨ r + 4 ≤ rs) (hrs : rs = 102 ∨ 150 ≤ rs) (hi : i < 30) (hj : j < 30) (h6 : us.length ≤ 6) (hsc : X0.2.2.1 95 5 = some rs) (hw2 : (X0.1 r' 3).toInt = (us.length : Int)) (hw1 : (X0.1 r 3).toInt = (n : Int)) (hT' : cx_Rt X0 r' j us) (h4 : p4.toInt = (j : Int)) (h5 : p5.toInt = (m : Int)) {y6 : Int32} (hy6 : y6.toInt = (i : Int)) (hall : ts.length + (md_nw n m us).length ≤ 6) : ∀ (d k q : Nat) (y7 y8 : Int32) (X : fx_X) (zs : List md_Tm), k + d = us.length → y8.toInt = (k : Int) → y7.toInt = ((ts.length + zs.length : Nat) : Int) → md_nw n m us = zs ++ md_nw n (m / 8 ^ k) (us.drop k) → cx_rf rs X0 X → cx_Rt X rs i (ts ++ zs) → (∀ k, X.1 rs k = X0.1 rs k) → (∀ k, X.1 (rs + 3) k = X0.1 (rs + 3) k) → (∀ i' vs, i' ≠ i → vs.length ≤ 6 → cx_Rt X0 rs i' vs → cx_Rt X rs i' vs) → gxF_118 r p2 r' p4 p5 q 20 [y6, y7, y8] [] [] X u X' → ∃ X1 : fx_X, cx_rf rs X0 X1 ∧ cx_Rt X1 rs i (ts ++ md_nw n m us) ∧ (∀ k, X1.1 rs k = X0.1 rs k) ∧ (∀ k, X1.1 (rs + 3) k = X0.1 (rs + 3) k) ∧ (∀ i' vs, i' ≠ i → vs.length ≤ 6 → cx_Rt X0 rs i' vs → cx_Rt X1 rs i' vs) ∧ ∃ (w12 : Int32) (X11 : fx_X) (q' : Nat), gx_112 r p2 r' p4 p5 X1 w12 X11 ∧ (if w12.toInt = 0 then gxF_118 r p2 r' p4 p5 q' 99 [y6, Int32.ofInt 0] [] [] X11 u X' else X' = X11) := by
  intro d
  induction d with
  | zero =>
    intro k q y7 y8 X zs hkd hk h7 hz hrf hT hr0 hr3 hro g
    cases q with
    | zero => exact g.elim
    | succ q =>
      replace g := gxO_118_20 g
      unfold gxT_118_20 at g
      have hw2' : (X.1 r' 3).toInt = (us.length : Int) := by rw [hrf.2 _ _ (by omega)]; exact hw2
      rw [if_neg (by omega)] at g
      obtain ⟨w12, X11, r1, g⟩ := g
      have e : md_nw n m us = zs := by
        rw [hz, List.drop_of_length_le (by omega)]
        exact List.append_nil _
      exact ⟨X, hrf, by rw [e]; exact hT, hr0, hr3, hro, w12, X11, q, r1, g⟩
  | succ d ih =>
    intro k q y7 y8 X zs hkd hk h7 hz hrf hT hr0 hr3 hro g
    cases q with
    | zero => exact g.elim
    | succ q =>
      replace g := gxO_118_20 g
      unfold gxT_118_20 at g
      have hw2' : (X.1 r' 3).toInt = (us.length : Int) := by rw [hrf.2 _ _ (by omega)]; exact hw2
      have hw1' : (X.1 r 3).toInt = (n : Int) := by rw [hrf.2 _ _ (by omega)]; exact hw1
      rw [if_pos (by omega)] at g
      obtain ⟨b, hb⟩ : ∃ b, us[k]? = some b := ⟨us[k]'(by omega), List.getElem?_eq_getElem (by omega)⟩
      have hd := fx_dig h5 hk (by omega)
      have hc := md_nw_c (n := n) (m := m) hb
      by_cases hlt : m / 8 ^ k % 8 < n
      · rw [if_pos (by omega)] at g
        obtain ⟨x16, rfl, g⟩ := g
        rw [if_pos hlt] at hc
        exact ih (k + 1) q _ _ X zs (by omega) (cx_inc hk (by omega)) h7 (by rw [hz, hc]; rfl) hrf hT hr0 hr3 hro g
      · rw [if_neg (by omega)] at g
        rw [if_neg hlt] at hc
        obtain ⟨b19, eb, w21, X20, r1, w23, X22, r2, w25, X24, r3, x26, rfl, x28, rfl, g⟩ := g
        rw [hrf.1, hsc] at eb
        cases eb
        have hT'X := cx_Rt_rf hT' hrf (by omega)
        obtain ⟨rfl, e1⟩ := cx_103 hT'X hj (by omega) h4 hk hb r1
        obtain ⟨rfl, e2⟩ := cx_104 hT'X hj (by omega) h4 hk hb r2
        have hlz : ts.length + zs.length < 6 := by
          rw [hz, hc] at hall
          simp only [List.length_append, List.length_cons, List.length_nil] at hall
          omega
        have e3 := cx_105 (t := b) hi (by omega) hy6 h7 e1 e2 r3
        have f1 := cx_st_f (X := X) (r := rs) (i := i) (c := ts.length + zs.length) (t := b)
        rw [← e3] at f1
        refine ih (k + 1) q _ _ X24 (zs ++ [b]) (by omega) (cx_inc hk (by omega)) (by rw [cx_inc h7 (by omega), List.length_append]; show ((ts.length + zs.length + 1 : Nat) : Int) = ((ts.length + (zs.length + 1) : Nat) : Int); omega) (by rw [hz, hc, List.append_assoc]) ?_ ?_ (fun k => (f1.1 k).trans (hr0 k)) (fun k => (f1.2 k).trans (hr3 k)) (fun i' vs hne hl hv => ?_) g
        · rw [e3]; exact cx_rf_tr hrf cx_st_rf
        · rw [e3, ← List.append_assoc]
          have := cx_st_Rt (t := b) hT
          rw [List.length_append] at this
          exact this
        · rw [e3]
          exact cx_st_Ro hne (by omega) hl (hro i' vs hne hl hv)
theorem cx_118w {X0 : fx_X} (hs : sr = 54 ∨ sr = 66) (hrs : rs = 102 ∨ 150 ≤ rs) (hap : rs + 4 ≤ r' ∨ r' + 4 ≤ rs) (hap1 : rs + 4 ≤ r ∨ r + 4 ≤ rs) (hce : cx_ce X0 sr W n val) (h7 : X0.2.2.1 95 7 = some sr) (hsc : X0.2.2.1 95 5 = some rs) (h13 : (X0.1 sr 13).toInt = (W : Int)) (hT : cx_Rt X0 r k ts) (hT' : cx_Rt X0 r' j us) (hB : cx_Rb X0 r W k h) (hB' : cx_Rb X0 r' W j h') (ho : md_okt n ts) (ho' : md_okt n us) (hw1 : (X0.1 r 3).toInt = (ts.length : Int)) (hw2 : (X0.1 r' 3).toInt = (us.length : Int)) (hi : i < 30) (hj : j < 30) (hk30 : k < 30) (h2 : p2.toInt = (k : Int)) (h4 : p4.toInt = (j : Int)) (h5 : p5.toInt = (m : Int)) {y6 : Int32} (hy6 : y6.toInt = (i : Int)) (h0 : ∀ w, w < W → fx_ib (X0.1 (rs + 3) w) i = false) : ∀ (q l : Nat) (y8 : Int32) (X : fx_X), y8.toInt = (l : Int) → l ≤ W → cx_bp rs i l (fun w => h w && h' w && md_mt val w ts m us) X0 X → gxF_118 r p2 r' p4 p5 q 99 [y6, y8] [] [] X u X' → cx_bp rs i W (fun w => h w && h' w && md_mt val w ts m us) X0 X' := by
  have hW := hce.1
  intro q
  induction q with
  | zero => intro l y8 X _ _ _ g; exact g.elim
  | succ q ih =>
    intro l y8 X hl hll hb g
    replace g := gxO_118_99 g
    have hrf := cx_bp_rf hb
    obtain ⟨b31, eb, g⟩ := g
    rw [hrf.1, h7] at eb
    cases eb
    have h13' : (X.1 sr 13).toInt = (W : Int) := by rw [hrf.2 _ _ (by omega)]; exact h13
    by_cases z : l < W
    · rw [if_pos (by omega)] at g
      obtain ⟨w36, X35, r1, g⟩ := g
      obtain ⟨rfl, rfl⟩ := cx_113 (m := m) (cx_ce_rf hce hrf hs hrs) (cx_Rt_rf hT hrf (by omega)) (cx_Rt_rf hT' hrf (by omega)) (cx_Rb_rf hB hrf (by omega)) (cx_Rb_rf hB' hrf (by omega)) ho ho' hk30 hj z (by rw [hrf.2 _ _ (by omega)]; exact hw1) (by rw [hrf.2 _ _ (by omega)]; exact hw2) h2 h4 h5 hl r1
      have hbit : fx_ib (X.1 (rs + 3) l) i = false := by rw [hb.2.2.2 l (Nat.le_refl _)]; exact h0 l z
      cases hc : (h l && h' l && md_mt val l ts m us) with
      | false =>
        rw [hc, if_pos (by decide)] at g
        obtain ⟨x38, rfl, g⟩ := g
        exact ih (l + 1) _ X (cx_inc hl (by omega)) (by omega) (cx_bp_s hb (by rw [hbit, hc])) g
      | true =>
        rw [hc, if_neg (by decide)] at g
        obtain ⟨b41, eb, w43, X42, r2, x44, rfl, g⟩ := g
        rw [hrf.1, hsc] at eb
        cases eb
        obtain ⟨x, rfl, hx⟩ := cx_109 (by omega) (by omega) hy6 hl r2
        refine ih (l + 1) _ _ (cx_inc hl (by omega)) (by omega) (cx_bp_w hb (fun e he => ?_)) g
        rw [hx e he]
        by_cases y : e = i
        · rw [if_pos y, hc, decide_eq_true y]; rfl
        · rw [if_neg y, decide_eq_false y]; rfl
    · rw [if_neg (by omega)] at g
      have e : l = W := by omega
      subst e
      rw [g]; exact hb
/-- one pair of ROWS -/
theorem cx_118 (hs : sr = 54 ∨ sr = 66) (hrs : rs = 102 ∨ 150 ≤ rs) (hap : rs + 4 ≤ r' ∨ r' + 4 ≤ rs) (hap1 : rs + 4 ≤ r ∨ r + 4 ≤ rs) (hce : cx_ce X sr W n val) (h7 : X.2.2.1 95 7 = some sr) (hsc : X.2.2.1 95 5 = some rs) (h13 : (X.1 sr 13).toInt = (W : Int)) (hT : cx_Rt X r k ts) (hT' : cx_Rt X r' j us) (hB : cx_Rb X r W k h) (hB' : cx_Rb X r' W j h') (ho : md_okt n ts) (ho' : md_okt n us) (hw1 : (X.1 r 3).toInt = (ts.length : Int)) (hw2 : (X.1 r' 3).toInt = (us.length : Int)) (hi : i < 30) (hj : j < 30) (hk30 : k < 30) (h2 : p2.toInt = (k : Int)) (h4 : p4.toInt = (j : Int)) (h5 : p5.toInt = (m : Int)) (hht : (X.1 rs 4).toInt = (i : Int)) (h0 : ∀ w, w < W → fx_ib (X.1 (rs + 3) w) i = false) (hall : ts.length + (md_nw ts.length m us).length ≤ 6) (g : gx_118 r p2 r' p4 p5 X u X') : cx_rf rs X X' ∧ (X'.1 rs 4).toInt = ((i + 1 : Nat) : Int) ∧ X'.1 rs 3 = X.1 rs 3 ∧ cx_Rt X' rs i (ts ++ md_nw ts.length m us) ∧ cx_Rb X' rs W i (fun w => h w && h' w && md_mt val w ts m us) ∧ (∀ i' vs, i' ≠ i → vs.length ≤ 6 → cx_Rt X rs i' vs → cx_Rt X' rs i' vs) ∧ (∀ w l, w < W → l < 32 → l ≠ i → fx_ib (X'.1 (rs + 3) w) l = fx_ib (X.1 (rs + 3) w) l) := by
  obtain ⟨q, b3, eb, w5, X4, r1, x7, rfl, g⟩ := g
  rw [hsc] at eb
  cases eb
  obtain ⟨b1, b2, b3, b4, b5, b6, b7⟩ := cx_102 (by omega) hi hk30 ho.1 h2 hht hw1 hT r1
  have hw1' : (X4.1 r 3).toInt = (ts.length : Int) := by rw [b3.2 _ _ (by omega)]; exact hw1
  obtain ⟨X1, c1, c2, c3, c4, c5, w12, X11, q', r2, g⟩ := cx_118t (n := ts.length) (ts := ts) hap hap1 hrs hi hj ho'.1 (by rw [b3.1]; exact hsc) (by rw [b3.2 _ _ (by omega)]; exact hw2) hw1' (cx_Rt_rf hT' b3 (by omega)) h4 h5 b1 hall us.length 0 q _ _ X4 [] (by omega) rfl (by rw [hw1']; rfl) (by rw [Nat.pow_zero, Nat.div_one]; rfl) cx_rf_rf (by rw [List.append_nil]; exact b2) (fun _ => rfl) (fun _ => rfl) (fun _ _ _ _ z => z) g
  have hrf1 := cx_rf_tr b3 c1
  have hT1 := cx_Rt_rf hT hrf1 (by omega)
  have hT1' := cx_Rt_rf hT' hrf1 (by omega)
  have hwa : (X1.1 r 3).toInt = (ts.length : Int) := by rw [hrf1.2 _ _ (by omega)]; exact hw1
  have hwb : (X1.1 r' 3).toInt = (us.length : Int) := by rw [hrf1.2 _ _ (by omega)]; exact hw2
  obtain ⟨rfl, e12⟩ := cx_112 hT1 hT1' ho ho' hk30 hj hwa hwb h2 h4 h5 r2
  have h01 : ∀ w, w < W → fx_ib (X1.1 (rs + 3) w) i = false := fun w hw => by rw [c4, b6]; exact h0 w hw
  have fin : cx_bp rs i W (fun w => h w && h' w && md_mt val w ts m us) X1 X' → cx_rf rs X X' ∧ (X'.1 rs 4).toInt = ((i + 1 : Nat) : Int) ∧ X'.1 rs 3 = X.1 rs 3 ∧ cx_Rt X' rs i (ts ++ md_nw ts.length m us) ∧ cx_Rb X' rs W i (fun w => h w && h' w && md_mt val w ts m us) ∧ (∀ i' vs, i' ≠ i → vs.length ≤ 6 → cx_Rt X rs i' vs → cx_Rt X' rs i' vs) ∧ (∀ w l, w < W → l < 32 → l ≠ i → fx_ib (X'.1 (rs + 3) w) l = fx_ib (X.1 (rs + 3) w) l) := fun hb =>
    ⟨cx_rf_tr hrf1 (cx_bp_rf hb), by rw [hb.2.1 _ _ (by omega), c3, b4], by rw [hb.2.1 _ _ (by omega), c3, b5], cx_Rt_e c2 (fun l => hb.2.1 _ _ (by omega)) (fun l => hb.2.1 _ _ (by omega)), cx_bp_i hb (by omega), fun i' vs hne hl hv => cx_Rt_e (c5 i' vs hne hl (b7 i' vs hne hl hv)) (fun l => hb.2.1 _ _ (by omega)) (fun l => hb.2.1 _ _ (by omega)), fun w l hw hl hne => by rw [hb.2.2.1 w l hw hl, if_neg hne, c4, b6]⟩
  rcases fy_ifd g with ⟨c, gg⟩ | ⟨c, gg⟩
  · exact fin (cx_118w hs hrs hap hap1 (cx_ce_rf hce hrf1 hs hrs) (by rw [hrf1.1]; exact h7) (by rw [hrf1.1]; exact hsc) (by rw [hrf1.2 _ _ (by omega)]; exact h13) hT1 hT1' (cx_Rb_rf hB hrf1 (by omega)) (cx_Rb_rf hB' hrf1 (by omega)) ho ho' hwa hwb hi hj hk30 h2 h4 h5 b1 h01 q' 0 _ X1 rfl (Nat.zero_le _) cx_bp_0 gg)
  · rw [gg]
    rw [gg] at fin
    refine fin ⟨rfl, fun _ _ _ => rfl, fun w l hw hl => ?_, fun _ _ => rfl⟩
    by_cases y : l = i
    · subst y
      rw [if_pos rfl, h01 w hw]
      rcases e12 with z | ⟨-, z⟩
      · exact absurd z c
      · show false = (h w && h' w && md_mt val w ts m us)
        rw [z val w, Bool.and_false]
    · rw [if_neg y]
end CX36
