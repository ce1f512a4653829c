/-! THE REFERENCE: join, all COLUMNS of the right side -/
/-- the join's ROWS, with c COLUMNS of the right side gone through -/
def rx_jr (P : md_P) (X : fx_X) (mm a m c R2 T : Nat) (A B : List md_Row) : Prop := ∀ r, r < T → ∀ x y, A[r / R2]? = some x → B[r % R2]? = some y → (∀ i t, (x.1 ++ md_nw a m (y.1.take c))[i]? = some t → rx_tm X (8 * (30 * 49 + r) + i) t) ∧ ∀ w, w < rp_W P → fx_bt (X.1 136) (32 * (30 * 49 + r)) (w / mm) = (x.2 w && md_mt (rp_v P) w x.1 m (y.1.take c))
section DD45
variable {P : md_P} {X X' X0 X1 X2 Y : fx_X} {n m k s R R1 R2 T d N : Nat} {v w p1 p2 z y3 y4 y5 y6 y7 y8 y9 : Int32} {cs : md_CS} {lx ly : List Int64} {A B : List md_Row}
theorem rx_276o (hG : (Y.1 117 37).toInt = (rp_h P : Int) ∧ rp_h P ≤ 1) (hU : rx_U P Y cs.1) (hV : rx_V P Y cs.1) (hp : p1.toInt = (s : Int)) (hs : 20 ≤ s ∧ s < 48) (h3 : y3.toInt = ((s + 1 : Nat) : Int)) (hlx : rx_cl Y s lx) (hly : rx_cl Y (s + 1) ly) (h66 : lx.length + (md_new lx ly).length ≤ 6) (hT : (Y.1 131 49).toInt = (T : Int)) (hT30 : T ≤ 30) (hAB : 0 < T → rp_b P = true ∧ (Y.1 131 (s + 1)).toInt = (R2 : Int) ∧ (0 < R2 ∧ R2 ≤ 30) ∧ T = A.length * B.length ∧ R2 = B.length ∧ rx_Rw P Y (md_m P cs.1) s A ∧ rx_Rw P Y (md_m P cs.1) (s + 1) B ∧ md_okA cs.1.length lx.length A ∧ md_okA cs.1.length ly.length B) : ∀ (d n c : Nat) (y4 y5 : Int32) (X : fx_X), n ≤ d → y5.toInt = (c : Int) → c ≤ ly.length → y4.toInt = ((lx.length + (md_new lx (ly.take c)).length : Nat) : Int) → (X.2.2 = Y.2.2 ∧ (∀ q, q ≠ 133 → X.2.1 q = Y.2.1 q) ∧ (∀ k', k' < 392 → X.2.1 133 k' = Y.2.1 133 k') ∧ ∀ i n8, (lx ++ md_new lx (ly.take c))[i]? = some n8 → X.2.1 133 (392 + i) = n8) → (∀ q, q ≠ 134 → q ≠ 135 → q ≠ 136 → X.1 q = Y.1 q) → (∀ q k', (q = 134 ∨ q = 135) → k' < 240 * 49 → X.1 q k' = Y.1 q k') → (∀ k' b, k' < 30 * 49 → b < 1024 → fx_bt (X.1 136) (32 * k') b = fx_bt (Y.1 136) (32 * k') b) → rx_jr P X (md_m P cs.1) lx.length (md_map lx ly 0) c R2 T A B → gxF_276 p1 p2 n 166 [y3, y4, y5] [] [] X v X' → ∃ n2 X2 e, e.toInt = ((lx.length + (md_new lx ly).length : Nat) : Int) ∧ gxF_276 p1 p2 n2 405 [y3, e, Int32.ofInt 0] [] [] X2 v X' ∧ (X2.2.2 = Y.2.2 ∧ (∀ q, q ≠ 133 → X2.2.1 q = Y.2.1 q) ∧ (∀ k', k' < 392 → X2.2.1 133 k' = Y.2.1 133 k') ∧ ∀ i n8, (lx ++ md_new lx ly)[i]? = some n8 → X2.2.1 133 (392 + i) = n8) ∧ (∀ q, q ≠ 134 → q ≠ 135 → q ≠ 136 → X2.1 q = Y.1 q) ∧ (∀ q k', (q = 134 ∨ q = 135) → k' < 240 * 49 → X2.1 q k' = Y.1 q k') ∧ (∀ k' b, k' < 30 * 49 → b < 1024 → fx_bt (X2.1 136) (32 * k') b = fx_bt (Y.1 136) (32 * k') b) ∧ rx_jr P X2 (md_m P cs.1) lx.length (md_map lx ly 0) ly.length R2 T A B := by
  intro d
  induction d with
  | zero =>
    intro n c y4 y5 X hn _ _ _ _ _ _ _ _ g
    cases n with
    | zero => exact g.elim
    | succ n => omega
  | succ d ih =>
    intro n c y4 y5 X hn h5 hcl h4 e2 e1 e3 e4 hJ g
    cases n with
    | zero => exact g.elim
    | succ n =>
      replace g := gxO_276_166 g
      unfold gxT_276_166 at g
      rw [fx_in h3, e1 132 (by decide) (by decide) (by decide), hly.1] at g
      replace g := g.2
      have hl6 := hlx.2.1
      have hly6 := hly.2.1
      rcases fy_ifd g with ⟨c1, g1⟩ | ⟨c1, g1⟩
      · have hc : c < ly.length := by omega
        obtain ⟨n8, hn8⟩ : ∃ n8, ly[c]? = some n8 := ⟨_, List.getElem?_eq_getElem hc⟩
        have i2 : (y3 * ((Int8.ofInt 8).toInt32) + y5).toInt = (((s + 1) * 8 + c : Nat) : Int) := rx_lin h3 rfl h5 (by omega)
        have hname : X.2.1 133 (8 * (s + 1) + c) = n8 := by rw [e2.2.2.1 _ (by omega)]; exact hly.2.2 c n8 hn8
        rw [fx_in i2, show (s + 1) * 8 + c = 8 * (s + 1) + c by omega, hname] at g1
        obtain ⟨-, w77, X76, r, g2⟩ := g1
        have hlxX : rx_cl X s lx := ⟨by rw [e1 132 (by decide) (by decide) (by decide)]; exact hlx.1, hlx.2.1, fun k n hk => by
          have := (List.getElem?_eq_some_iff.mp hk).1
          rw [e2.2.2.1 _ (by omega)]
          exact hlx.2.2 k n hk⟩
        obtain ⟨e76, hv⟩ := rx_233 hlxX hp (by omega) r
        subst e76
        have hnt := md_new_take (a := lx) hn8
        have hnl := md_new_le (a := lx) (b := ly) (k := c + 1)
        have hTX : (X76.1 131 49).toInt = (T : Int) := by rw [e1 131 (by decide) (by decide) (by decide)]; exact hT
        have hRX : 0 < T → (X76.1 131 (s + 1)).toInt = (R2 : Int) ∧ 0 < R2 ∧ R2 ≤ 30 := fun z => by
          rw [e1 131 (by decide) (by decide) (by decide)]
          exact ⟨(hAB z).2.1, (hAB z).2.2.1⟩
        have hcx := cx_in1 h5 (by omega)
        have hofi : ∀ c' : Nat, c' < 8 → (Int32.ofInt (c' : Int)).toInt.toNat = c' := fun c' hc' => by rw [fx_ofI (by omega) (by omega)]; rfl
        have ecx : ∀ {a c' : Nat}, a < 1470 → c' < 8 → rx_cx Y a (2, Int32.ofInt (c' : Int)) → rx_cx X76 a (2, Int32.ofInt (c' : Int)) := by
          intro a c' ha hc' h
          unfold rx_cx at h ⊢
          dsimp only at h ⊢
          rw [hofi c' hc'] at h ⊢
          rw [e3 134 _ (Or.inl rfl) (by omega), e3 135 _ (Or.inr rfl) (by omega)]
          exact h
        have ecc : ∀ {a c' b : Nat}, a < 1470 → c' < 8 → rx_cc (rp_h P) X76 a c' b = rx_cc (rp_h P) Y a c' b := by
          intro a c' b ha hc'
          unfold rx_cc rx_cw
          rw [if_pos rfl, if_pos rfl]
          dsimp only
          rw [hofi c' hc']
          unfold rx_vw
          rw [e1 123 (by decide) (by decide) (by decide), e3 134 _ (Or.inl rfl) (by omega), e3 135 _ (Or.inr rfl) (by omega)]
        rcases md_dg_new hl6 hn8 with ⟨a1, a2⟩ | ⟨a1, a2, a3⟩
        · -- a new one
          rw [if_pos a1] at hnt
          have hlen : (md_new lx (ly.take (c + 1))).length = (md_new lx (ly.take c)).length + 1 := by rw [hnt, List.length_append]; rfl
          obtain ⟨n2, X2, x100, x102, hn2, e100, e102, g3, b1, b2, b3, b4⟩ := rx_276w (Y := X76) (N := n) (s := s) (e := lx.length + (md_new lx (ly.take c)).length) (c := c) (T := T) (R2 := R2) hs h3 h4 (by omega) h5 (by omega) (by omega) hTX hT30 hRX n n 0 _ X76 (Nat.le_refl _) (Nat.le_refl _) rfl (Nat.zero_le _) rfl (fun _ _ _ => rfl) (fun _ _ _ _ => rfl) (fun r' hr' => absurd hr' (Nat.not_lt_zero _)) g2
          refine ih n2 (c + 1) x100 x102 X2 (by omega) (by rw [e102]; exact hcx) (by omega) ?_ ⟨b1.1.trans e2.1, fun q hq => (b1.2.1 q hq).trans (e2.2.1 q hq), fun k' hk' => ?_, fun i n9 hi => ?_⟩ (fun q z1 z2 z3 => (b2 q z1 z2).trans (e1 q z1 z2 z3)) (fun q k' hq hk' => by rw [b3 q k' hq (by omega)]; exact e3 q k' hq hk') (fun k' b hk' hb => by rw [b2 136 (by decide) (by decide)]; exact e4 k' b hk' hb) ?_ g3
          · rw [e100, cx_in1 h4 (by omega)]
            omega
          · rw [b1.2.2 k', if_neg (by omega)]; exact e2.2.2.1 k' hk'
          · rw [b1.2.2]
            rw [hnt, ← List.append_assoc] at hi
            by_cases z : i < (lx ++ md_new lx (ly.take c)).length
            · rw [List.getElem?_append_left z] at hi
              rw [List.length_append] at z
              rw [if_neg (by omega)]
              exact e2.2.2.2 i n9 hi
            · have hil := (List.getElem?_eq_some_iff.mp hi).1
              rw [List.length_append] at hil
              have hil : i < (lx ++ md_new lx (ly.take c)).length + 1 := hil
              have : i = (lx ++ md_new lx (ly.take c)).length := by omega
              subst this
              rw [List.getElem?_append_right (Nat.le_refl _), Nat.sub_self] at hi
              cases hi
              rw [List.length_append, if_pos (by omega)]
              exact hname
          · intro r hr x y hx hy
            obtain ⟨t1, t2⟩ := hJ r hr x y hx hy
            obtain ⟨hb, q1, ⟨q2, q2'⟩, q3, q4, q5, q6, q7, q8⟩ := hAB (by omega)
            have oy := q8.2 y (List.mem_of_getElem? hy)
            have ox := q7.2 x (List.mem_of_getElem? hx)
            obtain ⟨t, ht⟩ : ∃ t, y.1[c]? = some t := ⟨_, List.getElem?_eq_getElem (by rw [oy.2]; exact hc)⟩
            have hnw := md_nw_t (n := lx.length) (m := md_map lx ly 0) ht
            rw [if_neg a2] at hnw
            have hnwl := md_nwl hl6 oy.2 c (by omega)
            have hmod : r % R2 < R2 := Nat.mod_lt _ q2
            refine ⟨fun i t' hi => ?_, fun w hw => ?_⟩
            · rw [hnw, ← List.append_assoc] at hi
              by_cases z : i < (x.1 ++ md_nw lx.length (md_map lx ly 0) (y.1.take c)).length
              · rw [List.getElem?_append_left z] at hi
                rw [List.length_append, ox.2, hnwl] at z
                have := t1 i t' hi
                unfold rx_tm at this ⊢
                rw [b3 134 _ (Or.inl rfl) (by omega), b3 135 _ (Or.inr rfl) (by omega)]
                exact this
              · have hil := (List.getElem?_eq_some_iff.mp hi).1
                rw [List.length_append] at hil
                have hil : i < (x.1 ++ md_nw lx.length (md_map lx ly 0) (y.1.take c)).length + 1 := hil
                have : i = (x.1 ++ md_nw lx.length (md_map lx ly 0) (y.1.take c)).length := by omega
                subst this
                rw [List.getElem?_append_right (Nat.le_refl _), Nat.sub_self] at hi
                cases hi
                rw [List.length_append, ox.2, hnwl]
                obtain ⟨u1, u2⟩ := (q6.2 (r % R2) y hy).1 c t ht
                obtain ⟨v1, v2⟩ := b4 r hr
                have k1 : X76.1 134 (8 * (30 * (s + 1) + r % R2) + c) = Y.1 134 (8 * (30 * (s + 1) + r % R2) + c) := e3 134 _ (Or.inl rfl) (by omega)
                have k2 : X76.1 135 (8 * (30 * (s + 1) + r % R2) + c) = Y.1 135 (8 * (30 * (s + 1) + r % R2) + c) := e3 135 _ (Or.inr rfl) (by omega)
                refine ⟨?_, ?_⟩
                · rw [v1, k1]; exact rx_tm_nar u1
                · rw [v2, k2]; exact u2
            · rw [b2 136 (by decide) (by decide), t2 w hw, md_mt_t ht, ox.2, if_neg a2, Bool.and_true]
        · -- a shared one
          rw [if_neg a1, List.append_nil] at hnt
          have h77 : w77.toInt = ((md_map lx ly 0 / 8 ^ c % 8 : Nat) : Int) := by rw [hv, a3]
          have hcells : ∀ r, r < T → rx_cx X76 (30 * s + r / R2) (2, Int32.ofInt ((md_map lx ly 0 / 8 ^ c % 8 : Nat) : Int)) ∧ rx_cx X76 (30 * (s + 1) + r % R2) (2, Int32.ofInt (c : Int)) := by
            intro r hr
            obtain ⟨hb, q1, ⟨q2, q2'⟩, q3, q4, q5, q6, q7, q8⟩ := hAB (by omega)
            have hW1 : 0 < rp_W P := by have := (hV hb).2.1.2; omega
            have hmod : r % R2 < R2 := Nat.mod_lt _ q2
            have hdiv : r / R2 < A.length := Nat.div_lt_of_lt_mul (by rw [Nat.mul_comm, q4]; rw [q3] at hr; exact hr)
            have ox := q7.2 _ (List.getElem_mem hdiv)
            have oy := q8.2 _ (List.getElem_mem (show r % R2 < B.length by omega))
            exact ⟨ecx (by have := q7.1; omega) (by omega) (rx_cc_cv hV hb hW1 (q5.2 _ _ (List.getElem?_eq_getElem hdiv)).1 ox.1 (by rw [ox.2]; exact a2) hU.2.2.1).2, ecx (by omega) (by omega) (rx_cc_cv hV hb hW1 (q6.2 _ _ (List.getElem?_eq_getElem (show r % R2 < B.length by omega))).1 oy.1 (by rw [oy.2]; exact hc) hU.2.2.1).2⟩
          obtain ⟨n2, X2, x, hn2, ex, g3, b1, b2, b3⟩ := rx_276e (Y := X76) (N := n) (s := s) (h := rp_h P) (M := md_all cs.1) (e := md_map lx ly 0 / 8 ^ c % 8) (c := c) (T := T) (R2 := R2) (by rw [e1 117 (by decide) (by decide) (by decide)]; exact hG.1) hG.2 (by rw [e1 122 (by decide) (by decide) (by decide)]; exact hU.2.1) hU.2.2.2.1.2 hp hs h3 h5 h77 hTX hT30 hRX hcells n n 0 _ X76 (Nat.le_refl _) (Nat.le_refl _) rfl (Nat.zero_le _) rfl (fun _ _ _ => rfl) (fun k' b _ => by rw [if_neg (by omega)]) g2
          have eq : ∀ q, q ≠ 136 → X2.1 q = X76.1 q := fun q hq => funext fun i => b2 q i hq
          refine ih n2 (c + 1) y4 x X2 (by omega) (by rw [ex]; exact hcx) (by omega) (by rw [hnt]; exact h4) ⟨by rw [b1]; exact e2.1, fun q hq => by rw [b1]; exact e2.2.1 q hq, fun k' hk' => by rw [b1]; exact e2.2.2.1 k' hk', fun i n9 hi => by rw [b1]; rw [hnt] at hi; exact e2.2.2.2 i n9 hi⟩ (fun q z1 z2 z3 => (eq q z3).trans (e1 q z1 z2 z3)) (fun q k' hq hk' => by rw [eq q (by omega)]; exact e3 q k' hq hk') (fun k' b hk' hb => by rw [b3 k' b hb, if_neg (by omega)]; exact e4 k' b hk' hb) ?_ g3
          intro r hr x' y hx hy
          obtain ⟨t1, t2⟩ := hJ r hr x' y hx hy
          obtain ⟨hb, q1, ⟨q2, q2'⟩, q3, q4, q5, q6, q7, q8⟩ := hAB (by omega)
          have oy := q8.2 y (List.mem_of_getElem? hy)
          have ox := q7.2 x' (List.mem_of_getElem? hx)
          have hmod : r % R2 < R2 := Nat.mod_lt _ q2
          have hdiv := (List.getElem?_eq_some_iff.mp hx).1
          have hA30 := q7.1
          obtain ⟨t, ht⟩ : ∃ t, y.1[c]? = some t := ⟨_, List.getElem?_eq_getElem (by rw [oy.2]; exact hc)⟩
          have hnw := md_nw_t (n := lx.length) (m := md_map lx ly 0) ht
          rw [if_pos a2, List.append_nil] at hnw
          refine ⟨fun i t' hi => ?_, fun w hw => ?_⟩
          · rw [hnw] at hi
            have := t1 i t' hi
            unfold rx_tm at this ⊢
            rw [eq 134 (by decide), eq 135 (by decide)]
            exact this
          · have hwm := (rx_V_m hV hb).2.1 w hw
            have c1 := (rx_cc_cv (C := md_map lx ly 0 / 8 ^ c % 8) hV hb hw (q5.2 _ _ hx).1 ox.1 (by rw [ox.2]; exact a2) hU.2.2.1).1
            have c2 := (rx_cc_cv (C := c) hV hb hw (q6.2 _ _ hy).1 oy.1 (by rw [oy.2]; exact hc) hU.2.2.1).1
            have hgt : y.1.getD c (false, Int32.ofInt 0) = t := by rw [List.getD_eq_getElem?_getD, ht]; rfl
            rw [hgt] at c2
            have hne : rx_ne (rp_h P) X76 s R2 (md_map lx ly 0 / 8 ^ c % 8) c r (w / md_m P cs.1) = !(md_cv (rp_v P) w (x'.1.getD (md_map lx ly 0 / 8 ^ c % 8) (false, Int32.ofInt 0)) == md_cv (rp_v P) w t) := by
              unfold rx_ne
              rw [ecc (by omega) (by omega), ecc (by omega) (by omega), c1, c2]
            rw [b3 _ _ hwm.2, show 30 * 49 + r - 30 * 49 = r by omega, hne, t2 w hw, md_mt_t ht, ox.2, if_pos a2]
            cases hq : (md_cv (rp_v P) w (x'.1.getD (md_map lx ly 0 / 8 ^ c % 8) (false, Int32.ofInt 0)) == md_cv (rp_v P) w t) with
            | true =>
              rw [if_neg (fun y => by have := y.2.2; cases this), Bool.and_true]
            | false =>
              rw [if_pos ⟨⟨by omega, by omega⟩, hwm.1, rfl⟩, Bool.and_false, Bool.and_false]
      · have : c = ly.length := by omega
        subst this
        rw [List.take_length] at e2 h4
        exact ⟨n, X, y4, h4, g1, e2, e1, e3, e4, hJ⟩
end DD45
