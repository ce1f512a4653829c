/-! THE REFERENCE: the place of a TABLE that is being told -/
/-- nothing but the TABLE t of the half changes (of what is told) -/
def rx_sl (P : md_P) (t : Nat) (X X' : fx_X) : Prop := (∀ r, r ∈ [118, 120, 121, 122, 123, 124, 127, 128, 129] → X'.1 r = X.1 r) ∧ X'.2.1 119 = X.2.1 119 ∧ (∀ r k, (r = 126 ∨ r = 131 ∨ r = 132) → k < 20 → k ≠ 10 * rp_h P + t → X'.1 r k = X.1 r k) ∧ (∀ k, k ≠ 10 * rp_h P + t → X'.2.1 125 k = X.2.1 125 k) ∧ (∀ k, k < 160 → (k < 8 * (10 * rp_h P + t) ∨ 8 * (10 * rp_h P + t) + 8 ≤ k) → X'.2.1 133 k = X.2.1 133 k) ∧ (∀ r k, (r = 134 ∨ r = 135) → k < 4800 → (k < 240 * (10 * rp_h P + t) ∨ 240 * (10 * rp_h P + t) + 240 ≤ k) → X'.1 r k = X.1 r k) ∧ ∀ k b, k < 600 → (k < 30 * (10 * rp_h P + t) ∨ 30 * (10 * rp_h P + t) + 30 ≤ k) → b < 1024 → fx_bt (X'.1 136) (32 * k) b = fx_bt (X.1 136) (32 * k) b
section DD19
variable {P : md_P} {X X' X0 X1 X2 : fx_X} {K : List md_Sy} {c c1 c0 : md_C} {nm : md_Nm} {cs : md_CS} {ws : md_WS} {j near l l2 n n1 t k slot : Nat} {v y1 y5 p1 w z : Int32} {w8 z8 : Int64} {F L : List (Nat × Nat)} {A : List Nat} {TB : md_TB} {l8 : List Int64} {Q : Prop}
theorem rx_sl_rf : rx_sl P t X X := ⟨fun _ _ => rfl, rfl, fun _ _ _ _ _ => rfl, fun _ _ => rfl, fun _ _ _ => rfl, fun _ _ _ _ _ => rfl, fun _ _ _ _ _ => rfl⟩
theorem rx_sl_tr (h1 : rx_sl P t X X1) (h2 : rx_sl P t X1 X2) : rx_sl P t X X2 := by
  obtain ⟨a1, a2, a3, a4, a5, a6, a7⟩ := h1
  obtain ⟨b1, b2, b3, b4, b5, b6, b7⟩ := h2
  exact ⟨fun r hr => (b1 r hr).trans (a1 r hr), b2.trans a2, fun r k x y z => (b3 r k x y z).trans (a3 r k x y z), fun k x => (b4 k x).trans (a4 k x), fun k x y => (b5 k x y).trans (a5 k x y), fun r k x y z => (b6 r k x y z).trans (a6 r k x y z), fun k b x y z => (b7 k b x y z).trans (a7 k b x y z)⟩
theorem rx_sl_fy (hf : fy F L A X X') (hA : ∀ a, a ∈ A → a < 118 ∨ 137 ≤ a) (hF : (∀ q, q ∈ F → q.1 < 118) ∧ ∀ q, q ∈ L → q.1 < 118) : rx_sl P t X X' := by
  have e : ∀ r, 118 ≤ r → r < 137 → X'.1 r = X.1 r := fun r h1 h2 => fy_ra hf (fun z => by have := hA r z; omega) (fun q hq => by have := hF.1 q hq; omega)
  have e2 : ∀ r, 118 ≤ r → r < 137 → X'.2.1 r = X.2.1 r := fun r h1 h2 => fy_rl hf (fun z => by have := hA r z; omega) (fun q hq => by have := hF.2 q hq; omega)
  refine ⟨fun r hr => e r ?_ ?_, e2 119 (by decide) (by decide), fun r k hr _ _ => by rw [e r (by omega) (by omega)], fun k _ => by rw [e2 125 (by decide) (by decide)], fun k _ _ => by rw [e2 133 (by decide) (by decide)], fun r k hr _ _ => by rw [e r (by omega) (by omega)], fun k b _ _ _ => by rw [e 136 (by decide) (by decide)]⟩
  · have : ∀ r, r ∈ [118, 120, 121, 122, 123, 124, 127, 128, 129] → 118 ≤ r := by decide
    exact this r hr
  · have : ∀ r, r ∈ [118, 120, 121, 122, 123, 124, 127, 128, 129] → r < 137 := by decide
    exact this r hr
theorem rx_sl_w {a : Nat} (hk : (a = 126 ∨ a = 131 ∨ a = 132) ∧ (k = 10 * rp_h P + t ∨ 20 ≤ k) ∨ (a = 134 ∨ a = 135) ∧ (240 * (10 * rp_h P + t) ≤ k ∧ k < 240 * (10 * rp_h P + t) + 240 ∨ 4800 ≤ k)) : rx_sl P t X (fx_wI X a k z) := by
  refine ⟨fun r hr => fx_rIn (fun y => ?_), rfl, fun r k' hr hk1 hk2 => ?_, fun _ _ => rfl, fun _ _ _ => rfl, fun r k' hr hk1 hk2 => ?_, fun k' b h1 h2 h3 => ?_⟩
  · have : ∀ r, r ∈ [118, 120, 121, 122, 123, 124, 127, 128, 129] → r ≠ 126 ∧ r ≠ 131 ∧ r ≠ 132 ∧ r ≠ 134 ∧ r ≠ 135 := by decide
    have := this r hr
    omega
  · rw [fx_rI, if_neg (by omega)]
  · rw [fx_rI, if_neg (by omega)]
  · rw [fx_rIn (by omega)]
theorem rx_sl_wL {a : Nat} (hk : a = 125 ∧ k = 10 * rp_h P + t ∨ a = 133 ∧ (8 * (10 * rp_h P + t) ≤ k ∧ k < 8 * (10 * rp_h P + t) + 8 ∨ 160 ≤ k)) : rx_sl P t X (fx_wL X a k z8) := by
  have e : ∀ r j, ¬ (r = a ∧ j = k) → (fx_wL X a k z8).2.1 r j = X.2.1 r j := fun r j hn => if_neg hn
  exact ⟨fun _ _ => rfl, fx_rLn (by omega), fun _ _ _ _ _ => rfl, fun k' h1 => e _ _ (by omega), fun k' h1 h2 => e _ _ (by omega), fun _ _ _ _ _ => rfl, fun _ _ _ _ _ => rfl⟩
theorem rx_TT_sl (h : rx_TT P X cs ws nm) (hs : rx_sl P t X X') (ht : cs.2.2.1.length ≤ t) (hh : rp_h P ≤ 1) : rx_TT P X' cs ws nm := by
  obtain ⟨hU, hV, ⟨t1, t2, t3, t4, t5, t6⟩, hW⟩ := h
  obtain ⟨a1, a2, a3, a4, a5, a6, a7⟩ := hs
  refine ⟨?_, ?_, ⟨by rw [a1 124 (by decide)]; exact t1, t2, fun t' x hx => ?_, t4, t5, fun t' x k hx hk hf => ?_⟩, fun hb => ?_⟩
  · unfold rx_U
    rw [a1 118 (by decide), a1 120 (by decide), a1 121 (by decide), a1 122 (by decide), a2]
    exact hU
  · unfold rx_V
    rw [a1 123 (by decide)]
    exact hV
  · have ht' := (List.getElem?_eq_some_iff.mp hx).1
    obtain ⟨q1, q2, q3, q4, q5⟩ := t3 t' x hx
    refine ⟨by rw [a4 _ (by omega)]; exact q1, by rw [a3 _ _ (Or.inl rfl) (by omega) (by omega)]; exact q2, by rw [a3 _ _ (Or.inr (Or.inr rfl)) (by omega) (by omega)]; exact q3, q4, fun c n hc => ?_⟩
    have hc' := (List.getElem?_eq_some_iff.mp hc).1
    rw [a5 _ (by omega) (by omega)]
    exact q5 c n hc
  · have ht' := (List.getElem?_eq_some_iff.mp hx).1
    rw [a3 _ _ (Or.inr (Or.inl rfl)) (by omega) (by omega)]
    exact t6 t' x k hx hk hf
  · obtain ⟨w1, w2, w3, w4, w5⟩ := hW hb
    refine ⟨w1, fun t' A x hA hx => ?_, by rw [a1 127 (by decide)]; exact w3, w4, fun p f hp w hw => by rw [a1 129 (by decide)]; exact w5 p f hp w hw⟩
    have ht' := (List.getElem?_eq_some_iff.mp hx).1
    obtain ⟨⟨q1, q2⟩, q3⟩ := w2 t' A x hA hx
    refine ⟨⟨by rw [a3 _ _ (Or.inr (Or.inl rfl)) (by omega) (by omega)]; exact q1, fun r x' hr => ⟨fun c t2' hc => ?_, fun w hw => ?_⟩⟩, q3⟩
    · have hr' := (List.getElem?_eq_some_iff.mp hr).1
      have h30 := q3.1
      have hc' := (List.getElem?_eq_some_iff.mp hc).1
      have h6 := (q3.2 x' (List.mem_of_getElem? hr)).1.1
      have := (q2 r x' hr).1 c t2' hc
      unfold rx_tm at this ⊢
      rw [a6 134 _ (Or.inl rfl) (by omega) (by omega), a6 135 _ (Or.inr rfl) (by omega) (by omega)]
      exact this
    · have hr' := (List.getElem?_eq_some_iff.mp hr).1
      have h30 := q3.1
      rw [a7 _ _ (by omega) (by omega) ((rx_V_m hV hb).2.1 w hw).2]
      exact (q2 r x' hr).2 w hw
theorem rx_O_sl (hs : rx_sl P t X X') (ht : t < 10) (hh : rp_h P ≤ 1) : rx_O (rp_h P) X X' := by
  obtain ⟨a1, a2, a3, a4, a5, a6, a7⟩ := hs
  refine ⟨⟨by rw [a1 118 (by decide)], by rw [a1 122 (by decide)], by rw [a1 124 (by decide)], by rw [a1 127 (by decide)], by rw [a1 128 (by decide)]⟩, fun u hu => ⟨by rw [a2], by rw [a1 120 (by decide)], fun i hi => by rw [a1 121 (by decide)], fun w hw => by rw [a1 123 (by decide)]⟩, fun t' ht' => ⟨a4 _ (by omega), a3 _ _ (Or.inl rfl) (by omega) (by omega), a3 _ _ (Or.inr (Or.inl rfl)) (by omega) (by omega), a3 _ _ (Or.inr (Or.inr rfl)) (by omega) (by omega), fun c hc => a5 _ (by omega) (by omega), fun r hr => ⟨fun c hc => ⟨a6 _ _ (Or.inl rfl) (by omega) (by omega), a6 _ _ (Or.inr rfl) (by omega) (by omega)⟩, fun b hb => a7 _ _ (by omega) (by omega) hb⟩⟩, fun p hp b hb => by rw [a1 129 (by decide)]⟩
/-! names looked up -/
theorem rx_231l (hT : (X.1 124 (rp_h P)).toInt = (TB.length : Int)) (hT10 : TB.length ≤ 10) (hN : ∀ t x, TB[t]? = some x → X.2.1 125 (10 * rp_h P + t) = x.1) (hp : p1.toInt = (rp_h P : Int)) (hh : rp_h P ≤ 1) : ∀ (n k : Nat) (y4 : Int32), y4.toInt = (k : Int) → k ≤ TB.length → gxF_231 p1 w8 n 3 [y4] [] [] X v X' → X' = X ∧ v.toInt = md_ix w8 ((TB.map (·.1)).drop k) k := by
  intro n
  induction n with
  | zero => intro k y4 _ _ g; exact g.elim
  | succ n ih =>
    intro k y4 hk hkU g
    replace g := gxO_231_3 g
    unfold gxT_231_3 at g
    rw [fx_in hp] at g
    replace g := g.2
    have hlen : (TB.map (·.1)).length = TB.length := List.length_map _
    rcases fy_ifd g with ⟨c1, g⟩ | ⟨c1, g⟩
    · have hk2 : k < TB.length := by omega
      obtain ⟨x, hx⟩ : ∃ x, TB[k]? = some x := ⟨_, List.getElem?_eq_getElem hk2⟩
      have hd : (TB.map (·.1)).drop k = x.1 :: (TB.map (·.1)).drop (k + 1) := by
        rw [List.drop_eq_getElem_cons (by omega), List.getElem_map]
        rw [List.getElem?_eq_getElem hk2] at hx
        rw [Option.some.inj hx]
      have ha : (p1 * ((Int8.ofInt 10).toInt32) + y4).toInt = ((rp_h P * 10 + k : Nat) : Int) := rx_lin hp rfl hk (by omega)
      rw [fx_in ha, show rp_h P * 10 + k = 10 * rp_h P + k by omega, hN k x hx] at g
      replace g := g.2
      rw [hd]
      unfold md_ix
      rcases fy_ifd g with ⟨c2, g⟩ | ⟨c2, g⟩
      · rw [if_pos c2, g.1]
        exact ⟨g.2, hk⟩
      · rw [if_neg c2]
        obtain ⟨x9, rfl, g⟩ := g
        exact ih (k + 1) _ (cx_in1 hk (by omega)) (by omega) g
    · have : (TB.map (·.1)).drop k = [] := List.drop_eq_nil_of_le (by omega)
      rw [this, g.1]
      exact ⟨g.2, rfl⟩
theorem rx_231 (hTB : rx_TB P X TB nm) (hp : p1.toInt = (rp_h P : Int)) (hh : rp_h P ≤ 1) (g : gx_231 p1 w8 X v X') : X' = X ∧ v.toInt = md_ix w8 (TB.map (·.1)) 0 := by
  obtain ⟨n, g⟩ := g
  have := rx_231l hTB.1 hTB.2.1 (fun t x hx => (hTB.2.2.1 t x hx).1) hp hh n 0 _ rfl (Nat.zero_le _) g
  exact this
theorem rx_233l (h : rx_cl X slot l8) (hp : p1.toInt = (slot : Int)) (hs : slot < 50) : ∀ (n k : Nat) (y4 : Int32), y4.toInt = (k : Int) → k ≤ l8.length → gxF_233 p1 w8 n 3 [y4] [] [] X v X' → X' = X ∧ v.toInt = md_ix w8 (l8.drop k) k := by
  intro n
  induction n with
  | zero => intro k y4 _ _ g; exact g.elim
  | succ n ih =>
    intro k y4 hk hkU g
    replace g := gxO_233_3 g
    unfold gxT_233_3 at g
    rw [fx_in hp] at g
    replace g := g.2
    obtain ⟨h1, h2, h3⟩ := h
    rcases fy_ifd g with ⟨c1, g⟩ | ⟨c1, g⟩
    · have hk2 : k < l8.length := by omega
      obtain ⟨x, hx⟩ : ∃ x, l8[k]? = some x := ⟨_, List.getElem?_eq_getElem hk2⟩
      have hd : l8.drop k = x :: l8.drop (k + 1) := by
        rw [List.drop_eq_getElem_cons (by omega)]
        rw [List.getElem?_eq_getElem hk2] at hx
        rw [Option.some.inj hx]
      have ha : (p1 * ((Int8.ofInt 8).toInt32) + y4).toInt = ((slot * 8 + k : Nat) : Int) := rx_lin hp rfl hk (by omega)
      rw [fx_in ha, show slot * 8 + k = 8 * slot + k by omega, h3 k x hx] at g
      replace g := g.2
      rw [hd]
      unfold md_ix
      rcases fy_ifd g with ⟨c2, g⟩ | ⟨c2, g⟩
      · rw [if_pos c2, g.1]
        exact ⟨g.2, hk⟩
      · rw [if_neg c2]
        obtain ⟨x9, rfl, g⟩ := g
        exact ih (k + 1) _ (cx_in1 hk (by omega)) (by omega) g
    · have : l8.drop k = [] := List.drop_eq_nil_of_le (by omega)
      rw [this, g.1]
      exact ⟨g.2, rfl⟩
theorem rx_233 (h : rx_cl X slot l8) (hp : p1.toInt = (slot : Int)) (hs : slot < 50) (g : gx_233 p1 w8 X v X') : X' = X ∧ v.toInt = md_ix w8 l8 0 := by
  obtain ⟨n, g⟩ := g
  have := rx_233l h hp hs n 0 _ rfl (Nat.zero_le _) g
  exact this
/-! an UNKNOWN is told, from its word on -/
theorem rx_213 (h : rx_B P X ∨ (rx_T P X j c cs ws nm ∧ md_R P ((130, l) :: K) j near c nm (cs, ws) ∧ (rp_T P).1 j = 10)) (g : gx_213 X v X') : rx_PO P K X v X' := by
  rcases h with hB | ⟨⟨hG, hTT, ⟨hc14, hc8⟩, hsk, hw⟩, hR, hT⟩
  · exact rx_PO_B (gb_213 hB g) (gv_213 g)
  obtain ⟨n1, w3, X2, r1, g⟩ := g
  have hh := hG.2.2.2.1
  have hR1 : md_R P ((10, j) :: (3, j) :: (180, j) :: (58, j) :: (131, j) :: (132, j) :: (59, j) :: (183, j) :: (130, j) :: K) j near c nm (cs, ws) := md_R_r (r := [10, 3, 180, 58, 131, 132, 59, 183, 130]) hR (by decide) (by decide) (by decide) (by rw [hT]; rfl)
  have h1 := rx_214 (s := 10) (K := (3, j) :: (180, j) :: (58, j) :: (131, j) :: (132, j) :: (59, j) :: (183, j) :: (130, j) :: K) (Q := True) (Or.inr ⟨hG, hR1, ⟨hT, by decide, by decide⟩, True.intro⟩) r1
  rcases rx_go h1 g with e | ⟨h1, g1⟩
  · exact rx_PO_x e
  have f1 := gf_214 r1
  have hTT2 := rx_TT_fr hTT f1 (by decide) (by decide)
  have n8 : cs.1.length ≤ 8 := hTT.1.2.2.1
  have e1' : (Int32.ofInt 1).toInt = 1 := rfl
  -- the NAME
  have named : (rx_B P X2 ∨ (rx_G P X2 (j + 1) c ∧ md_R P ((3, j) :: (180, j) :: (58, j) :: (131, j) :: (132, j) :: (59, j) :: (183, j) :: (130, j) :: K) (j + 1) j c nm (cs, ws) ∧ (cs.1.length < 8 ∨ (rp_T P).1 (j + 1) ≠ 3))) → (∃ (w24 : Int32) (X23 : fx_X), gx_216 X2 w24 X23 ∧ (if (w24).toInt = 0 then (v = (Int32.ofInt 0) ∧ X' = X23) else ((0 ≤ ((X23.1 117 37)).toInt ∧ ((X23.1 117 37)).toInt < ((2 : Nat) : Int)) ∧ ∃ x28 : Int32, x28 = (((X23.1 117 37) * ((Int8.ofInt 8).toInt32)) + (X23.1 118 ((X23.1 117 37)).toInt.toNat)) ∧ ∃ x30 : Int64, x30 = (X23.2.1 117 33) ∧ ∃ (w33 : Int32) (X32 : fx_X), gx_217 (X23.1 117 37) x30 X23 w33 X32 ∧ (if (w33).toInt < 0 then (gxF_213 n1 94 [x28] [x30] [] X32 v X') else (∃ (w36 : Unit) (X35 : fx_X), gx_218 (Int32.ofInt 3) (X32.1 117 34) X32 w36 X35 ∧ gxF_213 n1 94 [x28] [x30] [] X35 v X'))))) → rx_PO P K X v X' := by
    intro h2 g2
    obtain ⟨w24, X23, r2, g2⟩ := g2
    have h3 := rx_216 (K := (180, j) :: (58, j) :: (131, j) :: (132, j) :: (59, j) :: (183, j) :: (130, j) :: K) (Q := (cs.1.length < 8 ∨ (rp_T P).1 (j + 1) ≠ 3)) h2 r2
    rcases rx_go h3 g2 with e | ⟨h3, g3⟩
    · exact rx_PO_x e
    obtain ⟨-, x28, e28, x30, e30, w33, X32, r3, g4⟩ := g3
    have e32 : X32 = X23 := fy_e (gf_217 r3)
    subst e32
    rcases h3 with hB | ⟨hG3, hR3, ⟨h33, hT3⟩, hlt⟩
    · rcases fy_ifd g4 with ⟨c2, g5⟩ | ⟨c2, g5⟩
      · exact rx_PO_B (gbl_213 n1 _ _ _ _ _ v X' hB g5) (gvl_213 n1 _ _ _ _ _ v X' g5)
      · obtain ⟨w36, X35, r4, g6⟩ := g5
        have hB2 := rx_B_218 hB (by decide) r4
        exact rx_PO_B (gbl_213 n1 _ _ _ _ _ v X' hB2 g6) (gvl_213 n1 _ _ _ _ _ v X' g6)
    · have hn8 : cs.1.length < 8 := by
        rcases hlt with y | y
        · exact y
        · exact absurd hT3 y
      have f2 := gf_216 r2
      have hTT3 := rx_TT_fr hTT2 f2 (by decide) (by decide)
      have hin := hG3.2.2.2.1.1
      obtain ⟨-, hv⟩ := rx_217 hTT3.1 hin hh.2 r3
      rw [e30, h33] at hv
      have hroom : md_room 180 ((rp_T P).2 (j + 1)) c nm = some (md_u (md_u c 13 (Int32.ofInt 0)) 8 (c 8 + Int32.ofInt 1), nm) := by
        have e : md_room 180 ((rp_T P).2 (j + 1)) c nm = md_lim 8 (md_u c 13 (Int32.ofInt 0)) 8 nm := rfl
        rw [e]
        unfold md_lim
        have e8 : md_u c 13 (Int32.ofInt 0) 8 = c 8 := rfl
        rw [e8, if_neg (by rw [fx_add (by omega) (by omega)]; omega)]
      rcases md_R_e hR3 (by decide) with ⟨y, -⟩ | ⟨c', nm', y1, hRe⟩
      · rw [hroom] at y; cases y
      rw [hroom] at y1
      cases y1
      have e30' : x30 = (rp_T P).2 (j + 1) := e30.trans h33
      have hx28 : x28.toInt = ((8 * rp_h P + cs.1.length : Nat) : Int) := by
        rw [e28, fx_in hin]
        have := rx_lin (m := 8) (z := (Int8.ofInt 8).toInt32) hin rfl hTT3.1.1 (by omega)
        rw [show 8 * rp_h P + cs.1.length = rp_h P * 8 + cs.1.length by omega]
        exact this
      rcases fy_ifd g4 with ⟨c2, g5⟩ | ⟨c2, g5⟩
      · have hck := (md_ck180 (T := rp_T P) (cs := cs) (near := j + 1) (l := j)).trans (if_neg (by omega)) |>.trans (if_neg (by omega))
        have hR4 := md_Re_c hRe hck (fun _ => md_wk_id (by decide))
        refine rx_213c (c := c) hx28 hn8 hh.2 hsk hw (Or.inr ⟨j + 1 + 1, j + 1, j, j, j, j, _, rx_G_fr (c := md_u (md_u c 13 (Int32.ofInt 0)) 8 (c 8 + Int32.ofInt 1)) hG3 (fy_rf (F := []) (L := []) (A := [])) (by decide) (by decide), by rw [e30']; exact hR4, hTT3, ⟨hc14, ?_, rfl⟩, rfl, fun hb => rx_O_tr (rx_O_fr f1 (by decide) (by decide)) (rx_O_fr f2 (by decide) (by decide))⟩) g5
        show (c 8 + Int32.ofInt 1).toInt = _
        rw [fx_add (by omega) (by omega), hc8, e1']; omega
      · obtain ⟨w36, X35, r4, g6⟩ := g5
        have hF := md_Re_f hRe ((md_ck180 (cs := cs)).trans (if_pos (by omega)))
        have hB := rx_tell (Or.inr ⟨hG3, hF⟩) (by decide) r4
        exact rx_PO_B (gbl_213 n1 _ _ _ _ _ v X' hB g6) (gvl_213 n1 _ _ _ _ _ v X' g6)
  rcases fy_ifd g1 with ⟨c1, g2⟩ | ⟨c1, g2⟩
  · replace g2 := g2.2
    rcases fy_ifd g2 with ⟨c2, g3⟩ | ⟨c2, g3⟩
    · obtain ⟨w38, X37, r2, e1, e2⟩ := g3
      subst e1
      subst e2
      refine rx_PO_x ?_
      rcases h1 with hB | ⟨hG1, hR2, -⟩
      · exact rx_215 hB.1 (by decide) r2
      · have hin := hG1.2.2.2.1.1
        rw [fx_in hin, hTT2.1.1] at c2
        refine rx_215 ?_ (by decide) r2
        by_cases hj : j + 1 < 1000
        · have hR3 := md_R_t (K := (180, j) :: (58, j) :: (131, j) :: (132, j) :: (59, j) :: (183, j) :: (130, j) :: K) hR2 (by decide) ((rx_k hG1).2.1.mp c1) (Or.inl hj)
          rcases md_R_e hR3 (by decide) with ⟨-, y⟩ | ⟨c', nm', y1, -⟩
          · exact y
          · exfalso
            have e : md_room 180 ((rp_T P).2 (j + 1)) c nm = md_lim 8 (md_u c 13 (Int32.ofInt 0)) 8 nm := rfl
            rw [e] at y1
            unfold md_lim at y1
            have e8 : md_u c 13 (Int32.ofInt 0) 8 = c 8 := rfl
            rw [e8, if_pos (by rw [fx_add (by omega) (by omega)]; omega)] at y1
            cases y1
        · exact md_R_tx (K := (180, j) :: (58, j) :: (131, j) :: (132, j) :: (59, j) :: (183, j) :: (130, j) :: K) hR2 (by decide) (Or.inr ⟨by omega, by decide⟩)
    · refine named (h1.imp id (fun z => ⟨z.1, z.2.1, Or.inl ?_⟩)) g3
      have hin := z.1.2.2.2.1.1
      rw [fx_in hin] at c2
      have := hTT2.1.1
      omega
  · exact named (h1.imp id (fun z => ⟨z.1, z.2.1, Or.inr (fun y => c1 ((rx_k z.1).2.1.mpr y))⟩)) g2
end DD19
