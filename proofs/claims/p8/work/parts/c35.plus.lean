/-! THE CLASS'S WORKER: + and - -/
section CX35
variable {X X' X0 X1 : fx_X} {v p p0 p1 p2 p3 p4 p5 p6 : Int32} {u : Unit} {sr r r' W n i j c w m wd k : Nat} {ts us : List md_Tm} {t : md_Tm} {val : md_V} {f h : Nat → Bool} {A B : List md_Row} {sd : md_Sd × md_Sd} {rel : Int}
theorem cx_107n (g : gx_107 p1 X u X') : (X'.1 82 5).toInt ≠ 0 := by
  obtain ⟨_, _, _, _, _, _, _, _, r3, rfl⟩ := g
  exact (cx_44 (by decide) r3).1
theorem cx_106w {X0 : fx_X} (hs : sr = 54 ∨ sr = 66) (hr : r = 102 ∨ 150 ≤ r) (hap : r + 4 ≤ r' ∨ r' + 4 ≤ r) (hW : W ≤ 1024) (h7 : X0.2.2.1 95 7 = some sr) (h13 : (X0.1 sr 13).toInt = (W : Int)) (hB : cx_Rb X0 r' W j f) (hi : i < 30) (hj : j < 30) {y4 y5 : Int32} (h4 : y4.toInt = (j : Int)) (h5 : y5.toInt = (i : Int)) : ∀ (q k : Nat) (y6 : Int32) (X : fx_X), y6.toInt = (k : Int) → k ≤ W → cx_bp r i k f X0 X → gxF_106 r r' p3 q 44 [y4, y5, y6] [] [] X u X' → ∃ (X1 : fx_X) (q' : Nat), cx_bp r i W f X0 X1 ∧ gxF_106 r r' p3 q' 23 [y4 + Int32.ofInt 1] [] [] X1 u X' := by
  intro q
  induction q with
  | zero => intro k y6 X _ _ _ g; exact g.elim
  | succ q ih =>
    intro k y6 X hk hkl hb g
    replace g := gxO_106_44 g
    have hrf := cx_bp_rf hb
    obtain ⟨b12, eb, g⟩ := g
    rw [hrf.1, h7] at eb
    cases eb
    have h13' : (X.1 sr 13).toInt = (W : Int) := by rw [hrf.2 _ _ (by omega)]; exact h13
    by_cases z : k < W
    · rw [if_pos (by omega)] at g
      obtain ⟨w17, X16, r1, g⟩ := g
      obtain ⟨rfl, rfl⟩ := cx_108 (cx_Rb_rf hB hrf (by omega)) hW (by omega) z h4 hk r1
      cases hh : f k with
      | false =>
        rw [hh, if_pos (by decide)] at g
        obtain ⟨w20, X19, r2, x21, rfl, g⟩ := g
        obtain ⟨x, rfl, hx⟩ := cx_110 (by omega) (by omega) h5 hk r2
        refine ih (k + 1) _ _ (cx_inc hk (by omega)) (by omega) (cx_bp_w hb (fun l hl => ?_)) g
        rw [hx l hl]
        by_cases y : l = i
        · rw [if_pos y, hh, decide_eq_true y]; rfl
        · rw [if_neg y, decide_eq_false y]; rfl
      | true =>
        rw [hh, if_neg (by decide)] at g
        obtain ⟨w24, X23, r2, x25, rfl, g⟩ := g
        obtain ⟨x, rfl, hx⟩ := cx_109 (by omega) (by omega) h5 hk r2
        refine ih (k + 1) _ _ (cx_inc hk (by omega)) (by omega) (cx_bp_w hb (fun l hl => ?_)) g
        rw [hx l hl]
        by_cases y : l = i
        · rw [if_pos y, hh, decide_eq_true y]; rfl
        · rw [if_neg y, decide_eq_false y]; rfl
    · rw [if_neg (by omega)] at g
      obtain ⟨x14, rfl, g⟩ := g
      have e : k = W := by omega
      subst e
      exact ⟨X, q, hb, g⟩
theorem cx_106l (hs : sr = 54 ∨ sr = 66) (hr : r = 102 ∨ 150 ≤ r) (hap : r + 4 ≤ r' ∨ r' + 4 ≤ r) (hW : W ≤ 1024) (hA : md_okA n wd A) (hB : md_okA n wd B) (h30 : A.length + B.length ≤ 30) : ∀ (d k q : Nat) (y4 : Int32) (X : fx_X), k + d = B.length → y4.toInt = (k : Int) → X.2.2.1 95 7 = some sr → (X.1 sr 13).toInt = (W : Int) → (X.1 r' 3).toInt = (wd : Int) → cx_Rr X r' W B → cx_Rr X r W (A ++ B.take k) → gxF_106 r r' p3 q 23 [y4] [] [] X u X' → cx_Rr X' r W (A ++ B) ∧ cx_rf r X X' ∧ X'.1 r 3 = X.1 r 3 := by
  intro d
  induction d with
  | zero =>
    intro k q y4 X hkd hk h7 h13 hw3 hRB hR g
    cases q with
    | zero => exact g.elim
    | succ q =>
      replace g := gxO_106_23 g
      unfold gxT_106_23 at g
      rw [if_neg (by have := hRB.1; omega)] at g
      subst g
      rw [List.take_of_length_le (by omega)] at hR
      exact ⟨hR, cx_rf_rf, rfl⟩
  | succ d ih =>
    intro k q y4 X hkd hk h7 h13 hw3 hRB hR g
    cases q with
    | zero => exact g.elim
    | succ q =>
      replace g := gxO_106_23 g
      unfold gxT_106_23 at g
      rw [if_pos (by have := hRB.1; omega)] at g
      obtain ⟨x, hx⟩ : ∃ x, B[k]? = some x := ⟨B[k]'(by omega), List.getElem?_eq_getElem (by omega)⟩
      obtain ⟨w8, X7, r1, g⟩ := g
      obtain ⟨o1, o2⟩ := hB.2 x (List.mem_of_getElem? hx)
      have hlen : (A ++ B.take k).length = A.length + k := by rw [List.length_append, List.length_take]; omega
      have h4 : (X.1 r 4).toInt = ((A.length + k : Nat) : Int) := by rw [← hlen]; exact hR.1
      obtain ⟨b1, b2, b3, b4, b5, b6, b7⟩ := cx_102 hap (by omega) (by omega) o1.1 hk h4 (by rw [hw3, o2]) (hRB.2 k x hx).1 r1
      have hRB7 := cx_Rr_rf hRB b3 (by omega)
      have hr9 : r ≠ sr ∧ r + 1 ≠ sr ∧ r + 2 ≠ sr ∧ r + 3 ≠ sr := ⟨by omega, by omega, by omega, by omega⟩
      obtain ⟨X1, q', hb, g⟩ := cx_106w hs hr hap hW (by rw [b3.1]; exact h7) (by rw [b3.2 _ _ (by omega)]; exact h13) (hRB7.2 k x hx).2 (i := A.length + k) (by omega) (by omega) hk b1 q 0 _ X7 rfl (Nat.zero_le _) cx_bp_0 g
      have hrf1 := cx_bp_rf hb
      have hrf := cx_rf_tr b3 hrf1
      have e4 : B.take (k + 1) = B.take k ++ [x] := by rw [List.take_add_one, hx]; rfl
      obtain ⟨c1, c2, c3⟩ := ih (k + 1) q' _ X1 (by omega) (cx_inc hk (by omega)) (by rw [hrf.1]; exact h7) (by rw [hrf.2 _ _ (by omega)]; exact h13) (by rw [hrf.2 _ _ (by omega)]; exact hw3) (cx_Rr_rf hRB hrf (by omega)) ⟨by
        rw [hb.2.1 _ _ (by omega), b4, List.length_append, List.length_take]; omega, fun i y hy => by
        rw [e4, ← List.append_assoc, List.getElem?_append] at hy
        split at hy
        · rename_i hi
          rw [hlen] at hi
          obtain ⟨e1, e2⟩ := hR.2 i y hy
          have hl6 : y.1.length ≤ 6 := by
            rcases List.mem_append.mp (List.mem_of_getElem? hy) with z | z
            · exact (hA.2 y z).1.1
            · exact (hB.2 y (List.mem_of_mem_take z)).1.1
          exact ⟨cx_Rt_e (b7 i y.1 (by omega) hl6 e1) (fun j => hb.2.1 _ _ (by omega)) (fun j => hb.2.1 _ _ (by omega)), cx_bp_o hb (by omega) (by omega) (cx_Rb_e e2 b6)⟩
        · rename_i hi
          rw [hlen] at hi hy
          have e1 : i = A.length + k := by
            have := (List.getElem?_eq_some_iff.mp hy).1
            have : i - (A.length + k) < 1 := this
            omega
          subst e1
          rw [Nat.sub_self] at hy
          cases hy
          exact ⟨cx_Rt_e b2 (fun j => hb.2.1 _ _ (by omega)) (fun j => hb.2.1 _ _ (by omega)), cx_bp_i hb (by omega)⟩⟩ g
      exact ⟨c1, cx_rf_tr hrf c2, by rw [c3, hb.2.1 _ _ (by omega), b5]⟩
theorem cx_106 (hs : sr = 54 ∨ sr = 66) (hr : r = 102 ∨ 150 ≤ r) (hap : r + 4 ≤ r' ∨ r' + 4 ≤ r) (hW : W ≤ 1024) (hA : md_okA n wd A) (hB : md_okA n wd B) (h7 : X.2.2.1 95 7 = some sr) (h13 : (X.1 sr 13).toInt = (W : Int)) (hw3 : (X.1 r' 3).toInt = (wd : Int)) (hRA : cx_Rr X r W A) (hRB : cx_Rr X r' W B) (g : gx_106 r r' p3 X u X') : (30 < A.length + B.length ∧ (X'.1 82 5).toInt ≠ 0 ∧ fy [(82, 5), (82, 6)] [] [] X X') ∨ (¬ 30 < A.length + B.length ∧ cx_Rr X' r W (A ++ B) ∧ cx_rf r X X' ∧ X'.1 r 3 = X.1 r 3) := by
  obtain ⟨q, g⟩ := g
  have a1 := hRA.1
  have a2 := hRB.1
  have a3 := hA.1
  have a4 := hB.1
  have e : (X.1 r 4 + X.1 r' 4).toInt = ((A.length + B.length : Nat) : Int) := by
    rw [fx_add (by rw [a1, a2]; omega) (by rw [a1, a2]; omega), a1, a2]; omega
  rcases fy_ifd g with ⟨c, g⟩ | ⟨c, g⟩
  · obtain ⟨w5, X4, r1, rfl⟩ := g
    exact Or.inl ⟨by omega, cx_107n r1, gf_107 r1⟩
  · exact Or.inr ⟨by omega, cx_106l hs hr hap hW hA hB (by omega) B.length 0 q _ X (by omega) rfl h7 h13 hw3 hRB (by show cx_Rr X r W (A ++ []); rw [List.append_nil]; exact hRA) g⟩
/-! minus -/
theorem cx_111w {X0 : fx_X} (hs : sr = 54 ∨ sr = 66) (hr : r = 102 ∨ 150 ≤ r) (hap : r + 4 ≤ r' ∨ r' + 4 ≤ r) (hce : cx_ce X0 sr W n val) (h7 : X0.2.2.1 95 7 = some sr) (h13 : (X0.1 sr 13).toInt = (W : Int)) (hT : cx_Rt X0 r i ts) (hT' : cx_Rt X0 r' j us) (hB : cx_Rb X0 r W i h) {h' : Nat → Bool} (hB' : cx_Rb X0 r' W j h') (ho : md_okt n ts) (ho' : md_okt n us) (hl : ts.length = us.length) (hw1 : (X0.1 r 3).toInt = (ts.length : Int)) (hw2 : (X0.1 r' 3).toInt = (us.length : Int)) (hi : i < 30) (hj : j < 30) {y3 y4 : Int32} (h3 : y3.toInt = (i : Int)) (h4 : y4.toInt = (j : Int)) (hf : ∀ w, f w = (h w && !(h' w && md_eqv val w ts us))) : ∀ (q k : Nat) (y5 : Int32) (X : fx_X), y5.toInt = (k : Int) → k ≤ W → cx_bp r i k f X0 X → gxF_111 r r' q 41 [y3, y4, y5] [] [] X u X' → ∃ (X1 : fx_X) (q' : Nat), cx_bp r i W f X0 X1 ∧ gxF_111 r r' q' 13 [y3, y4 + Int32.ofInt 1] [] [] X1 u X' := by
  have hW := hce.1
  intro q
  induction q with
  | zero => intro k y5 X _ _ _ g; exact g.elim
  | succ q ih =>
    intro k y5 X hk hkl hb g
    replace g := gxO_111_41 g
    have hrf := cx_bp_rf hb
    obtain ⟨b15, eb, g⟩ := g
    rw [hrf.1, h7] at eb
    cases eb
    have h13' : (X.1 sr 13).toInt = (W : Int) := by rw [hrf.2 _ _ (by omega)]; exact h13
    by_cases z : k < W
    · rw [if_pos (by omega)] at g
      obtain ⟨w22, X21, r1, g⟩ := g
      have hbit : fx_ib (X.1 (r + 3) k) i = h k := by rw [hb.2.2.2 k (Nat.le_refl _)]; exact hB k z
      have key : X = X21 ∧ w22 = (if (h k && h' k && md_mt val k ts 181896 us) = true then Int32.ofInt 1 else Int32.ofInt 0) := by
        have hBX : cx_Rb X r W i (fun w => fx_ib (X.1 (r + 3) w) i) := fun w _ => rfl
        obtain ⟨a1, a2⟩ := cx_113 (m := 181896) (cx_ce_rf hce hrf hs hr) (cx_Rt_e hT (fun l => hb.2.1 _ _ (by omega)) (fun l => hb.2.1 _ _ (by omega))) (cx_Rt_rf hT' hrf (by omega)) hBX (cx_Rb_rf hB' hrf (by omega)) ho ho' hi hj z (by rw [hb.2.1 _ _ (by omega)]; exact hw1) (by rw [hrf.2 _ _ (by omega)]; exact hw2) h3 h4 rfl hk r1
        rw [hbit] at a2
        exact ⟨a1, a2⟩
      obtain ⟨rfl, rfl⟩ := key
      rw [md_mt_eqv hl ho'.1] at g
      cases hc : (h k && h' k && md_eqv val k ts us) with
      | false =>
        rw [hc, if_pos (by decide)] at g
        obtain ⟨x24, rfl, g⟩ := g
        refine ih (k + 1) _ X (cx_inc hk (by omega)) (by omega) (cx_bp_s hb ?_) g
        rw [hbit, hf]
        revert hc
        cases h k <;> cases h' k <;> cases md_eqv val k ts us <;> simp
      | true =>
        rw [hc, if_neg (by decide)] at g
        obtain ⟨w27, X26, r2, x28, rfl, g⟩ := g
        obtain ⟨x, rfl, hx⟩ := cx_110 (by omega) (by omega) h3 hk r2
        refine ih (k + 1) _ _ (cx_inc hk (by omega)) (by omega) (cx_bp_w hb (fun l hl => ?_)) g
        rw [hx l hl]
        by_cases y : l = i
        · rw [if_pos y, hf, decide_eq_true y]
          revert hc
          cases h k <;> cases h' k <;> cases md_eqv val k ts us <;> simp
        · rw [if_neg y, decide_eq_false y]; rfl
    · rw [if_neg (by omega)] at g
      obtain ⟨x17, rfl, g⟩ := g
      have e : k = W := by omega
      subst e
      exact ⟨X, q, hb, g⟩
/-- one row against all others -/
theorem cx_111m {X0 : fx_X} (hs : sr = 54 ∨ sr = 66) (hr : r = 102 ∨ 150 ≤ r) (hap : r + 4 ≤ r' ∨ r' + 4 ≤ r) (hce : cx_ce X0 sr W n val) (h7 : X0.2.2.1 95 7 = some sr) (h13 : (X0.1 sr 13).toInt = (W : Int)) (hT : cx_Rt X0 r i ts) (hRB : cx_Rr X0 r' W B) (hB : md_okA n ts.length B) (ho : md_okt n ts) (hw1 : (X0.1 r 3).toInt = (ts.length : Int)) (hw2 : (X0.1 r' 3).toInt = (ts.length : Int)) (hi : i < 30) (hbi : cx_Rb X0 r W i h) {y3 : Int32} (h3 : y3.toInt = (i : Int)) : ∀ (d k q : Nat) (y4 : Int32) (X : fx_X), k + d = B.length → y4.toInt = (k : Int) → cx_bp r i W (fun w => h w && !(B.take k).any (fun s => s.2 w && md_eqv val w ts s.1)) X0 X → gxF_111 r r' q 13 [y3, y4] [] [] X u X' → ∃ (X1 : fx_X) (q' : Nat), cx_bp r i W (fun w => h w && !B.any (fun s => s.2 w && md_eqv val w ts s.1)) X0 X1 ∧ gxF_111 r r' q' 2 [y3 + Int32.ofInt 1] [] [] X1 u X' := by
  intro d
  induction d with
  | zero =>
    intro k q y4 X hkd hk hb g
    cases q with
    | zero => exact g.elim
    | succ q =>
      have hrf := cx_bp_rf hb
      replace g := gxO_111_13 g
      unfold gxT_111_13 at g
      rw [if_neg (by have := hRB.1; have := hrf.2 r' 4 (by omega); rw [this]; omega)] at g
      obtain ⟨x6, rfl, g⟩ := g
      rw [List.take_of_length_le (by omega)] at hb
      exact ⟨X, q, hb, g⟩
  | succ d ih =>
    intro k q y4 X hkd hk hb g
    have h30 := hB.1
    cases q with
    | zero => exact g.elim
    | succ q =>
      have hrf := cx_bp_rf hb
      replace g := gxO_111_13 g
      unfold gxT_111_13 at g
      rw [if_pos (by have := hRB.1; have := hrf.2 r' 4 (by omega); rw [this]; omega)] at g
      obtain ⟨x, hx⟩ : ∃ x, B[k]? = some x := ⟨B[k]'(by omega), List.getElem?_eq_getElem (by omega)⟩
      obtain ⟨o1, o2⟩ := hB.2 x (List.mem_of_getElem? hx)
      have e4 : B.take (k + 1) = B.take k ++ [x] := by rw [List.take_add_one, hx]; rfl
      have hTX : cx_Rt X r i ts := cx_Rt_e hT (fun l => hb.2.1 _ _ (by omega)) (fun l => hb.2.1 _ _ (by omega))
      have hRBX := cx_Rr_rf hRB hrf (by omega)
      have hw1X : (X.1 r 3).toInt = (ts.length : Int) := by rw [hb.2.1 _ _ (by omega)]; exact hw1
      have hw2X : (X.1 r' 3).toInt = (x.1.length : Int) := by rw [hrf.2 _ _ (by omega), o2]; exact hw2
      obtain ⟨w9, X8, r1, g⟩ := g
      obtain ⟨rfl, e9⟩ := cx_112 (m := 181896) hTX (hRBX.2 k x hx).1 ho o1 hi (by omega) hw1X hw2X h3 hk rfl r1
      have hstep : ∀ w, (h w && !(B.take (k + 1)).any (fun s => s.2 w && md_eqv val w ts s.1)) = ((h w && !(B.take k).any (fun s => s.2 w && md_eqv val w ts s.1)) && !(x.2 w && md_eqv val w ts x.1)) := fun w => by
        rw [e4, List.any_append]
        show (h w && !((B.take k).any _ || (x.2 w && md_eqv val w ts x.1 || false))) = _
        cases h w <;> cases (B.take k).any (fun s => s.2 w && md_eqv val w ts s.1) <;> cases (x.2 w && md_eqv val w ts x.1) <;> rfl
      rcases fy_ifd g with ⟨c9, gg⟩ | ⟨c9, gg⟩
      · have hbX : cx_Rb X r W i (fun w => h w && !(B.take k).any (fun s => s.2 w && md_eqv val w ts s.1)) := cx_bp_i hb (by omega)
        obtain ⟨X1, q', hb1, gg⟩ := cx_111w (f := fun w => (h w && !(B.take k).any (fun s => s.2 w && md_eqv val w ts s.1)) && !(x.2 w && md_eqv val w ts x.1)) hs hr hap (cx_ce_rf hce hrf hs hr) (by rw [hrf.1]; exact h7) (by rw [hrf.2 _ _ (by omega)]; exact h13) hTX (hRBX.2 k x hx).1 hbX (hRBX.2 k x hx).2 ho o1 o2.symm hw1X hw2X hi (by omega) h3 hk (fun w => rfl) q 0 _ X rfl (Nat.zero_le _) cx_bp_0 gg
        refine ih (k + 1) q' _ X1 (by omega) (cx_inc hk (by omega)) ⟨hb1.1.trans hb.1, fun a l hl => (hb1.2.1 a l hl).trans (hb.2.1 a l hl), fun w l hw hl => ?_, fun w hw => (hb1.2.2.2 w hw).trans (hb.2.2.2 w hw)⟩ gg
        rw [hb1.2.2.1 w l hw hl]
        by_cases y : l = i
        · rw [if_pos y, if_pos y]; exact (hstep w).symm
        · rw [if_neg y, if_neg y, hb.2.2.1 w l hw hl, if_neg y]
      · obtain ⟨x12, rfl, gg⟩ := gg
        have hnev : ∀ w, md_eqv val w ts x.1 = false := fun w => by
          rcases e9 with z | ⟨-, z⟩
          · exact absurd z c9
          · rw [← md_mt_eqv o2.symm o1.1]; exact z val w
        refine ih (k + 1) q _ X (by omega) (cx_inc hk (by omega)) ⟨hb.1, hb.2.1, fun w l hw hl => ?_, hb.2.2.2⟩ gg
        rw [hb.2.2.1 w l hw hl]
        by_cases y : l = i
        · rw [if_pos y, if_pos y]
          have e5 := hstep w
          rw [hnev, Bool.and_false, Bool.not_false, Bool.and_true] at e5
          exact e5.symm
        · rw [if_neg y, if_neg y]
theorem cx_111l (hs : sr = 54 ∨ sr = 66) (hr : r = 102 ∨ 150 ≤ r) (hap : r + 4 ≤ r' ∨ r' + 4 ≤ r) (hA : md_okA n wd A) (hB : md_okA n wd B) : ∀ (d k q : Nat) (y3 : Int32) (X : fx_X), k + d = A.length → y3.toInt = (k : Int) → cx_ce X sr W n val → X.2.2.1 95 7 = some sr → (X.1 sr 13).toInt = (W : Int) → (X.1 r 3).toInt = (wd : Int) → (X.1 r' 3).toInt = (wd : Int) → cx_Rr X r' W B → (X.1 r 4).toInt = (A.length : Int) → (∀ i x, A[i]? = some x → cx_Rt X r i x.1 ∧ cx_Rb X r W i (if i < k then (fun w => x.2 w && !B.any (fun s => s.2 w && md_eqv val w x.1 s.1)) else x.2)) → gxF_111 r r' q 2 [y3] [] [] X u X' → cx_Rr X' r W (md_mi val A B) ∧ cx_rf r X X' ∧ X'.1 r 3 = X.1 r 3 := by
  intro d
  induction d with
  | zero =>
    intro k q y3 X hkd hk hce h7 h13 hw1 hw2 hRB h4 hR g
    cases q with
    | zero => exact g.elim
    | succ q =>
      replace g := gxO_111_2 g
      unfold gxT_111_2 at g
      rw [if_neg (by omega)] at g
      subst g
      refine ⟨⟨by unfold md_mi; rw [List.length_map]; exact h4, fun i x hx => ?_⟩, cx_rf_rf, rfl⟩
      unfold md_mi at hx
      rw [List.getElem?_map] at hx
      cases e : A[i]? with
      | none => rw [e] at hx; cases hx
      | some x0 =>
        rw [e] at hx
        cases hx
        have hi := (List.getElem?_eq_some_iff.mp e).1
        have := hR i x0 e
        rw [if_pos (by omega)] at this
        exact this
  | succ d ih =>
    intro k q y3 X hkd hk hce h7 h13 hw1 hw2 hRB h4 hR g
    have h30 := hA.1
    cases q with
    | zero => exact g.elim
    | succ q =>
      replace g := gxO_111_2 g
      unfold gxT_111_2 at g
      rw [if_pos (by omega)] at g
      obtain ⟨x, hx⟩ : ∃ x, A[k]? = some x := ⟨A[k]'(by omega), List.getElem?_eq_getElem (by omega)⟩
      obtain ⟨hT, hBx⟩ := hR k x hx
      rw [if_neg (by omega)] at hBx
      obtain ⟨o1, o2⟩ := hA.2 x (List.mem_of_getElem? hx)
      obtain ⟨X1, q', hb, g⟩ := cx_111m (h := x.2) hs hr hap hce h7 h13 hT hRB (by rw [o2]; exact hB) o1 (by rw [o2]; exact hw1) (by rw [o2]; exact hw2) (by omega) hBx hk B.length 0 q _ X (by omega) rfl ⟨rfl, fun _ _ _ => rfl, fun w l hw hl => by
        by_cases y : l = k
        · subst y
          rw [if_pos rfl]
          show _ = (x.2 w && !([] : List md_Row).any _)
          rw [hBx w hw]
          show x.2 w = (x.2 w && true)
          rw [Bool.and_true]
        · rw [if_neg y], fun _ _ => rfl⟩ g
      have hrf := cx_bp_rf hb
      obtain ⟨c1, c2, c3⟩ := ih (k + 1) q' _ X1 (by omega) (cx_inc hk (by omega)) (cx_ce_rf hce hrf hs hr) (by rw [hrf.1]; exact h7) (by rw [hrf.2 _ _ (by omega)]; exact h13) (by rw [hb.2.1 _ _ (by omega)]; exact hw1) (by rw [hrf.2 _ _ (by omega)]; exact hw2) (cx_Rr_rf hRB hrf (by omega)) (by rw [hb.2.1 _ _ (by omega)]; exact h4) (fun i y hy => by
        obtain ⟨e1, e2⟩ := hR i y hy
        have hi := (List.getElem?_eq_some_iff.mp hy).1
        refine ⟨cx_Rt_e e1 (fun j => hb.2.1 _ _ (by omega)) (fun j => hb.2.1 _ _ (by omega)), ?_⟩
        by_cases e : i = k
        · subst e
          rw [hx] at hy
          cases hy
          rw [if_pos (by omega)]
          exact cx_bp_i hb (by omega)
        · by_cases e3 : i < k
          · rw [if_pos e3] at e2
            rw [if_pos (by omega)]
            exact cx_bp_o hb e (by omega) e2
          · rw [if_neg e3] at e2
            rw [if_neg (by omega)]
            exact cx_bp_o hb e (by omega) e2) g
      exact ⟨c1, cx_rf_tr hrf c2, by rw [c3, hb.2.1 _ _ (by omega)]⟩
theorem cx_111 (hs : sr = 54 ∨ sr = 66) (hr : r = 102 ∨ 150 ≤ r) (hap : r + 4 ≤ r' ∨ r' + 4 ≤ r) (hA : md_okA n wd A) (hB : md_okA n wd B) (hce : cx_ce X sr W n val) (h7 : X.2.2.1 95 7 = some sr) (h13 : (X.1 sr 13).toInt = (W : Int)) (hw1 : (X.1 r 3).toInt = (wd : Int)) (hw2 : (X.1 r' 3).toInt = (wd : Int)) (hRA : cx_Rr X r W A) (hRB : cx_Rr X r' W B) (g : gx_111 r r' X u X') : cx_Rr X' r W (md_mi val A B) ∧ cx_rf r X X' ∧ X'.1 r 3 = X.1 r 3 := by
  obtain ⟨q, g⟩ := g
  exact cx_111l hs hr hap hA hB A.length 0 q _ X (by omega) rfl hce h7 h13 hw1 hw2 hRB hRA.1 (fun i x hx => by rw [if_neg (by omega)]; exact hRA.2 i x hx) g
end CX35
