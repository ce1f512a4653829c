/-! ROWS OF THE CLASS: loops over the WORLDS -/
/-- row i's bits are f below k, all else as it was -/
def cx_bp (r i k : Nat) (f : Nat → Bool) (X0 X : fx_X) : Prop := X.2 = X0.2 ∧ (∀ q j, q ≠ r + 3 → X.1 q j = X0.1 q j) ∧ (∀ w j, w < k → j < 32 → fx_ib (X.1 (r + 3) w) j = if j = i then f w else fx_ib (X0.1 (r + 3) w) j) ∧ ∀ w, k ≤ w → X.1 (r + 3) w = X0.1 (r + 3) w
section CX34
variable {X X' X0 X1 : fx_X} {v p p0 p1 p2 p3 p4 p5 p6 : Int32} {u : Unit} {sr r r' W n i j c w m wd k : Nat} {ts us : List md_Tm} {t : md_Tm} {val : md_V} {f h : Nat → Bool} {A B : List md_Row}
theorem cx_bp_0 : cx_bp r i 0 f X X := ⟨rfl, fun _ _ _ => rfl, fun w j h => absurd h (Nat.not_lt_zero w), fun _ _ => rfl⟩
theorem cx_bp_w (h : cx_bp r i k f X0 X) {x : Int32} (hx : ∀ j, j < 32 → fx_ib x j = if j = i then f k else fx_ib (X.1 (r + 3) k) j) : cx_bp r i (k + 1) f X0 (cx_sb X r k x) := by
  obtain ⟨h1, h2, h3, h4⟩ := h
  unfold cx_sb
  refine ⟨h1, fun q j hq => by rw [fx_rIn hq]; exact h2 q j hq, fun w j hw hj => ?_, fun w hw => by rw [fx_rIk (by omega)]; exact h4 w (by omega)⟩
  by_cases z : w = k
  · subst z
    rw [fx_rIe, hx j hj, h4 w (Nat.le_refl _)]
  · rw [fx_rIk z]
    exact h3 w j (by omega) hj
theorem cx_bp_s (h : cx_bp r i k f X0 X) (hx : fx_ib (X.1 (r + 3) k) i = f k) : cx_bp r i (k + 1) f X0 X := by
  obtain ⟨h1, h2, h3, h4⟩ := h
  refine ⟨h1, h2, fun w j hw hj => ?_, fun w hw => h4 w (by omega)⟩
  by_cases z : w = k
  · subst z
    by_cases y : j = i
    · subst y; rw [if_pos rfl]; exact hx
    · rw [if_neg y, h4 w (Nat.le_refl _)]
  · exact h3 w j (by omega) hj
theorem cx_bp_rf (h : cx_bp r i k f X0 X) : cx_rf r X0 X := ⟨h.1, fun q j hq => h.2.1 q j (by omega)⟩
theorem cx_bp_i (h : cx_bp r i W f X0 X) (hi : i < 32) : cx_Rb X r W i f := fun w hw => by rw [h.2.2.1 w i hw hi, if_pos rfl]
theorem cx_bp_o (h : cx_bp r i W f X0 X) (hj : j ≠ i) (hj2 : j < 32) {g : Nat → Bool} (hb : cx_Rb X0 r W j g) : cx_Rb X r W j g := fun w hw => by rw [h.2.2.1 w j hw hj2, if_neg hj]; exact hb w hw
/-- another's ROWS -/
theorem cx_Rb_rf (h : cx_Rb X r' W j f) (hf : cx_rf r X X') (ha : r + 4 ≤ r' ∨ r' + 4 ≤ r) : cx_Rb X' r' W j f := cx_Rb_e h (fun k => hf.2 _ _ (by omega))
theorem cx_Rt_rf (h : cx_Rt X r' j ts) (hf : cx_rf r X X') (ha : r + 4 ≤ r' ∨ r' + 4 ≤ r) : cx_Rt X' r' j ts := cx_Rt_e h (fun k => hf.2 _ _ (by omega)) (fun k => hf.2 _ _ (by omega))
theorem cx_ce_rf (h : cx_ce X sr W n val) (hf : cx_rf r X X') (ha : sr = 54 ∨ sr = 66) (hr : r = 102 ∨ 150 ≤ r) : cx_ce X' sr W n val := ⟨h.1, h.2.1, fun w u hw hu => by rw [hf.2 _ _ (by omega)]; exact h.2.2 w u hw hu⟩
/-- all of other's rows copied -/
theorem cx_101l (hap : r + 4 ≤ r' ∨ r' + 4 ≤ r) (hA : md_okA n wd A) : ∀ (q k : Nat) (y2 : Int32) (X : fx_X), y2.toInt = (k : Int) → k ≤ A.length → (X.1 r' 3).toInt = (wd : Int) → cx_Rr X r' W A → (X.1 r 4).toInt = (k : Int) → (∀ i x, i < k → A[i]? = some x → cx_Rt X r i x.1) → W ≤ 1024 → gxF_101 r r' q 15 [y2] [] [] X u X' → cx_Rr X' r W A ∧ cx_rf r X X' ∧ X'.1 r 3 = X.1 r 3 := by
  intro q
  induction q with
  | zero => intro k y2 X _ _ _ _ _ _ _ g; exact g.elim
  | succ q ih =>
    intro k y2 X hk hkl hw hR h4 hT hW g
    replace g := gxO_101_15 g
    unfold gxT_101_15 at g
    have hl := hR.1
    have h30 := hA.1
    by_cases z : k < A.length
    · rw [if_pos (by omega)] at g
      obtain ⟨x, hx⟩ : ∃ x, A[k]? = some x := ⟨A[k], List.getElem?_eq_getElem z⟩
      obtain ⟨w11, X10, r1, x12, rfl, g⟩ := g
      obtain ⟨o1, o2⟩ := hA.2 x (List.mem_of_getElem? hx)
      obtain ⟨b1, b2, b3, b4, b5, b6, b7⟩ := cx_102 hap (by omega) (by omega) o1.1 hk h4 (by rw [hw, o2]) (hR.2 k x hx).1 r1
      obtain ⟨c1, c2, c3⟩ := ih (k + 1) _ X10 (cx_inc hk (by omega)) (by omega) (by rw [b3.2 _ _ (by omega)]; exact hw) (cx_Rr_rf hR b3 (by omega)) b4 (fun i y hi hy => by
        by_cases e : i = k
        · subst e
          rw [hx] at hy
          cases hy
          exact b2
        · exact b7 i y.1 e (hA.2 y (List.mem_of_getElem? hy)).1.1 (hT i y (by omega) hy)) hW g
      exact ⟨c1, cx_rf_tr b3 c2, c3.trans b5⟩
    · rw [if_neg (by omega)] at g
      have e : k = A.length := by omega
      obtain ⟨X9, rfl, rfl⟩ := g
      have cp : ∀ q j, (fx_cp X (r' + 3) (Int32.ofInt 0).toInt.toNat (r + 3) (Int32.ofInt 0).toInt.toNat (Int32.ofNat 1024).toInt.toNat).1 q j = if q = r + 3 ∧ 0 ≤ j ∧ j < 0 + 1024 then X.1 (r' + 3) (0 + (j - 0)) else X.1 q j := fun q j => rfl
      refine ⟨⟨?_, fun i x hx => ⟨?_, ?_⟩⟩, ⟨rfl, fun q j hq => ?_⟩, ?_⟩
      · rw [cp, if_neg (by omega), h4, e]
      · have := (List.getElem?_eq_some_iff.mp hx).1
        exact cx_Rt_e (hT i x (by omega) hx) (fun k => by rw [cp, if_neg (by omega)]) (fun k => by rw [cp, if_neg (by omega)])
      · intro w hw'
        rw [cp, if_pos ⟨rfl, Nat.zero_le _, by omega⟩, Nat.sub_zero, Nat.zero_add]
        exact (hR.2 i x hx).2 w hw'
      · rw [cp, if_neg (by omega)]
      · rw [cp, if_neg (by omega)]
theorem cx_101 (hap : r + 4 ≤ r' ∨ r' + 4 ≤ r) (hA : md_okA n wd A) (hw : (X.1 r' 3).toInt = (wd : Int)) (hR : cx_Rr X r' W A) (hW : W ≤ 1024) (g : gx_101 r r' X u X') : cx_Rr X' r W A ∧ cx_rf r X X' ∧ (X'.1 r 3).toInt = (wd : Int) := by
  obtain ⟨q, X2, rfl, X3, rfl, g⟩ := g
  have f3 : cx_rf r X (fx_wI (fx_wI X r 3 (X.1 r' 3)) r 4 (Int32.ofInt 0)) := cx_rf_w (cx_rf_w cx_rf_rf (by omega)) (by omega)
  obtain ⟨a1, a2, a3⟩ := cx_101l hap hA q 0 _ _ rfl (Nat.zero_le _) (by rw [f3.2 _ _ (by omega)]; exact hw) (cx_Rr_rf hR f3 (by omega)) (by rw [fx_rIe]; rfl) (fun i x hi => absurd hi (Nat.not_lt_zero i)) hW g
  exact ⟨a1, cx_rf_tr f3 a2, by rw [a3, fx_rIk (by decide), fx_rIe]; exact hw⟩
theorem cx_117 {a0 : Nat} : ∀ (q k : Nat) (y2 y3 : Int32) (X : fx_X), y2.toInt = (k : Int) → y3.toInt = ((1024 : Nat) : Int) → k ≤ 1024 → (∀ w, w < k → X.1 a0 w = p1) → gxF_117 a0 p1 q 5 [y2, y3] [] [] X u X' → (∀ w, w < 1024 → X'.1 a0 w = p1) ∧ X'.2 = X.2 ∧ ∀ a j, a ≠ a0 → X'.1 a j = X.1 a j := by
  intro q
  induction q with
  | zero => intro k y2 y3 X _ _ _ _ g; exact g.elim
  | succ q ih =>
    intro k y2 y3 X hk h3 hkl hp g
    replace g := gxO_117_5 g
    unfold gxT_117_5 at g
    by_cases z : k < 1024
    · rw [if_pos (by omega), fx_in hk] at g
      obtain ⟨-, X6, rfl, x7, rfl, g⟩ := g
      obtain ⟨a1, a2, a3⟩ := ih (k + 1) _ _ _ (cx_inc hk (by omega)) h3 (by omega) (fun w hw => by
        by_cases e : w = k
        · rw [e, fx_rIe]
        · rw [fx_rIk e]; exact hp w (by omega)) g
      exact ⟨a1, a2, fun a j ha => by rw [a3 a j ha, fx_rIn ha]⟩
    · rw [if_neg (by omega)] at g
      subst g
      exact ⟨fun w hw => hp w (by omega), rfl, fun _ _ _ => rfl⟩
theorem cx_116 (hp : p1.toInt = (wd : Int)) (g : gx_116 r p1 X u X') : (X'.1 r 3).toInt = (wd : Int) ∧ (X'.1 r 4).toInt = 0 ∧ (∀ w, w < 1024 → X'.1 (r + 3) w = Int32.ofInt 0) ∧ cx_rf r X X' := by
  obtain ⟨X2, rfl, X3, rfl, w6, X5, ⟨q, g⟩, rfl⟩ := g
  obtain ⟨a1, a2, a3⟩ := cx_117 (a0 := r + 3) q 0 _ _ _ rfl rfl (by decide) (fun w hw => absurd hw (Nat.not_lt_zero w)) g
  exact ⟨by rw [a3 _ _ (by omega), fx_rIk (by decide), fx_rIe]; exact hp, by rw [a3 _ _ (by omega), fx_rIe]; rfl, a1, a2, fun a j ha => by rw [a3 _ _ (by omega), fx_rIn (by omega), fx_rIn (by omega)]⟩
/-- the sides and what the worker knows of the shelf -/
def cx_Sd (X : fx_X) (sr W : Nat) (sd : md_Sd × md_Sd) (rel : Int) : Prop := X.2.2.1 95 7 = some sr ∧ (X.1 95 8).toInt = sd.1.1 ∧ X.1 95 9 = sd.1.2 ∧ (X.1 95 10).toInt = sd.2.1 ∧ X.1 95 11 = sd.2.2 ∧ (X.1 95 12).toInt = rel ∧ (X.1 sr 13).toInt = (W : Int)
theorem cx_Sd_rf {sd : md_Sd × md_Sd} {rel : Int} (h : cx_Sd X sr W sd rel) (hf : cx_rf r X X') (ha : sr = 54 ∨ sr = 66) (hr : r = 102 ∨ 150 ≤ r) : cx_Sd X' sr W sd rel := by
  obtain ⟨h1, h2, h3, h4, h5, h6, h7⟩ := h
  exact ⟨by rw [hf.1]; exact h1, by rw [hf.2 _ _ (by omega)]; exact h2, by rw [hf.2 _ _ (by omega)]; exact h3, by rw [hf.2 _ _ (by omega)]; exact h4, by rw [hf.2 _ _ (by omega)]; exact h5, by rw [hf.2 _ _ (by omega)]; exact h6, by rw [hf.2 _ _ (by omega)]; exact h7⟩
/-- a TEST, one row's WORLDS -/
theorem cx_121w {sd : md_Sd × md_Sd} {rel : Int} {P : fx_X → Prop} {X0 : fx_X} (hs : sr = 54 ∨ sr = 66) (hr : r = 102 ∨ 150 ≤ r) (hce : cx_ce X0 sr W n val) (hSd : cx_Sd X0 sr W sd rel) (hT : cx_Rt X0 r i ts) (hB : cx_Rb X0 r W i h) (ho : md_okt n ts) (hi : i < 30) (hs1 : md_oks n ts.length sd.1) (hs2 : md_oks n ts.length sd.2) {y2 : Int32} (h2 : y2.toInt = (i : Int)) (hf : ∀ w, f w = (h w && md_cmp rel (md_sv val w ts sd.1) (md_sv val w ts sd.2))) : ∀ (q k : Nat) (y3 : Int32) (X : fx_X), y3.toInt = (k : Int) → k ≤ W → cx_bp r i k f X0 X → gxF_121 r q 12 [y2, y3] [] [] X u X' → ∃ (X1 : fx_X) (q' : Nat), cx_bp r i W f X0 X1 ∧ gxF_121 r q' 2 [y2 + Int32.ofInt 1] [] [] X1 u X' := by
  have hW := hce.1
  intro q
  induction q with
  | zero => intro k y3 X _ _ _ g; exact g.elim
  | succ q ih =>
    intro k y3 X hk hkl hb g
    replace g := gxO_121_12 g
    have hrf := cx_bp_rf hb
    have hSd' := cx_Sd_rf hSd hrf hs hr
    have hce' := cx_ce_rf hce hrf hs hr
    obtain ⟨b6, eb, g⟩ := g
    rw [hSd'.1] at eb
    cases eb
    have h13 := hSd'.2.2.2.2.2.2
    by_cases z : k < W
    · rw [if_pos (by omega)] at g
      obtain ⟨w11, X10, r1, g⟩ := g
      have hbit : fx_ib (X.1 (r + 3) k) i = h k := by rw [hb.2.2.2 k (Nat.le_refl _)]; exact hB k z
      have h108 : X = X10 ∧ w11 = (if h k = true then Int32.ofInt 1 else Int32.ofInt 0) := by
        have hB1 : cx_Rb X r W i (fun w => fx_ib (X.1 (r + 3) w) i) := fun w _ => rfl
        obtain ⟨a1, a2⟩ := cx_108 hB1 hW (by omega) z h2 hk r1
        rw [hbit] at a2
        exact ⟨a1, a2⟩
      obtain ⟨rfl, rfl⟩ := h108
      have hT' : cx_Rt X r i ts := cx_Rt_e hT (fun j => hb.2.1 _ _ (by omega)) (fun j => hb.2.1 _ _ (by omega))
      cases hh : h k with
      | false =>
        rw [hh, if_pos (by decide)] at g
        obtain ⟨x13, rfl, g⟩ := g
        exact ih (k + 1) _ X (cx_inc hk (by omega)) (by omega) (cx_bp_s hb (by rw [hbit, hf, hh]; rfl)) g
      | true =>
        rw [hh, if_neg (by decide)] at g
        obtain ⟨w16, X15, r2, g⟩ := g
        obtain ⟨rfl, rfl⟩ := cx_122 hce' hT' ho hi z hs1 hs2 hSd'.1 hSd'.2.1 hSd'.2.2.1 hSd'.2.2.2.1 hSd'.2.2.2.2.1 hSd'.2.2.2.2.2.1 h2 hk r2
        cases hc : md_cmp rel (md_sv val k ts sd.1) (md_sv val k ts sd.2) with
        | true =>
          rw [hc, if_neg (by decide)] at g
          obtain ⟨x18, rfl, g⟩ := g
          exact ih (k + 1) _ X (cx_inc hk (by omega)) (by omega) (cx_bp_s hb (by rw [hbit, hf, hh, hc]; rfl)) g
        | false =>
          rw [hc, if_pos (by decide)] at g
          obtain ⟨w21, X20, r3, x22, rfl, g⟩ := g
          obtain ⟨x, rfl, hx⟩ := cx_110 (by omega) (by omega) h2 hk r3
          refine ih (k + 1) _ _ (cx_inc hk (by omega)) (by omega) (cx_bp_w hb (fun j hj => ?_)) g
          rw [hx j hj]
          by_cases y : j = i
          · rw [if_pos y, hf, hc, Bool.and_false, decide_eq_true y]; rfl
          · rw [if_neg y, decide_eq_false y]; rfl
    · rw [if_neg (by omega)] at g
      obtain ⟨x8, rfl, g⟩ := g
      have e : k = W := by omega
      subst e
      exact ⟨X, q, hb, g⟩
theorem cx_121l {sd : md_Sd × md_Sd} {rel : Int} (hs : sr = 54 ∨ sr = 66) (hr : r = 102 ∨ 150 ≤ r) (hA : md_okA n wd A) (hs1 : md_oks n wd sd.1) (hs2 : md_oks n wd sd.2) : ∀ (d k q : Nat) (y2 : Int32) (X : fx_X), k + d = A.length → y2.toInt = (k : Int) → cx_ce X sr W n val → cx_Sd X sr W sd rel → (X.1 r 4).toInt = (A.length : Int) → (∀ i x, A[i]? = some x → cx_Rt X r i x.1 ∧ cx_Rb X r W i (if i < k then (fun w => x.2 w && md_cmp rel (md_sv val w x.1 sd.1) (md_sv val w x.1 sd.2)) else x.2)) → gxF_121 r q 2 [y2] [] [] X u X' → cx_Rr X' r W (md_ts val sd rel A) ∧ cx_rf r X X' ∧ X'.1 r 3 = X.1 r 3 := by
  intro d
  induction d with
  | zero =>
    intro k q y2 X hkd hk hce hSd h4 hR g
    cases q with
    | zero => exact g.elim
    | succ q =>
      replace g := gxO_121_2 g
      unfold gxT_121_2 at g
      rw [if_neg (by omega)] at g
      subst g
      refine ⟨⟨by unfold md_ts; rw [List.length_map]; exact h4, fun i x hx => ?_⟩, cx_rf_rf, rfl⟩
      unfold md_ts at hx
      rw [List.getElem?_map] at hx
      cases e : A[i]? with
      | none => rw [e] at hx; cases hx
      | some x0 =>
        rw [e] at hx
        cases hx
        have hi := (List.getElem?_eq_some_iff.mp e).1
        have := hR i x0 e
        rw [if_pos (by omega)] at this
        exact this
  | succ d ih =>
    intro k q y2 X hkd hk hce hSd h4 hR g
    have h30 := hA.1
    cases q with
    | zero => exact g.elim
    | succ q =>
      replace g := gxO_121_2 g
      unfold gxT_121_2 at g
      rw [if_pos (by omega)] at g
      obtain ⟨x, hx⟩ : ∃ x, A[k]? = some x := ⟨A[k]'(by omega), List.getElem?_eq_getElem (by omega)⟩
      obtain ⟨hT, hB⟩ := hR k x hx
      rw [if_neg (by omega)] at hB
      obtain ⟨o1, o2⟩ := hA.2 x (List.mem_of_getElem? hx)
      obtain ⟨X1, q', hb, g⟩ := cx_121w (P := fun _ => True) (f := fun w => x.2 w && md_cmp rel (md_sv val w x.1 sd.1) (md_sv val w x.1 sd.2)) hs hr hce hSd hT hB o1 (by omega) (by rw [o2]; exact hs1) (by rw [o2]; exact hs2) hk (fun w => rfl) q 0 _ X rfl (Nat.zero_le _) cx_bp_0 g
      have hrf := cx_bp_rf hb
      obtain ⟨c1, c2, c3⟩ := ih (k + 1) q' _ X1 (by omega) (cx_inc hk (by omega)) (cx_ce_rf hce hrf hs hr) (cx_Sd_rf hSd hrf hs hr) (by rw [hb.2.1 _ _ (by omega)]; exact h4) (fun i y hy => by
        obtain ⟨e1, e2⟩ := hR i y hy
        have hi := (List.getElem?_eq_some_iff.mp hy).1
        refine ⟨cx_Rt_e e1 (fun j => hb.2.1 _ _ (by omega)) (fun j => hb.2.1 _ _ (by omega)), ?_⟩
        by_cases e : i = k
        · subst e
          rw [hx] at hy
          cases hy
          rw [if_pos (by omega)]
          exact cx_bp_i hb (by omega)
        · by_cases e3 : i < k
          · rw [if_pos e3] at e2
            rw [if_pos (by omega)]
            exact cx_bp_o hb e (by omega) e2
          · rw [if_neg e3] at e2
            rw [if_neg (by omega)]
            exact cx_bp_o hb e (by omega) e2) g
      exact ⟨c1, cx_rf_tr hrf c2, by rw [c3, hb.2.1 _ _ (by omega)]⟩
theorem cx_121 {sd : md_Sd × md_Sd} {rel : Int} (hs : sr = 54 ∨ sr = 66) (hr : r = 102 ∨ 150 ≤ r) (hA : md_okA n wd A) (hs1 : md_oks n wd sd.1) (hs2 : md_oks n wd sd.2) (hce : cx_ce X sr W n val) (hSd : cx_Sd X sr W sd rel) (hR : cx_Rr X r W A) (g : gx_121 r X u X') : cx_Rr X' r W (md_ts val sd rel A) ∧ cx_rf r X X' ∧ X'.1 r 3 = X.1 r 3 := by
  obtain ⟨q, g⟩ := g
  exact cx_121l hs hr hA hs1 hs2 A.length 0 q _ X (by omega) rfl hce hSd hR.1 (fun i x hx => by rw [if_neg (by omega)]; exact hR.2 i x hx) g
end CX34
