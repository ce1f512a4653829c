/-! THE REFERENCE: + of two queries -/
section DD37
variable {P : md_P} {X X' X0 X1 X2 : fx_X} {l n m t d k s s1 s2 r h M a b N R R1 R2 : Nat} {v w p1 p2 z y3 : Int32} {l8 l9 : List Int64} {A B : List md_Row}
theorem rx_277l (h1 : rx_cl X s1 l8) (h2 : rx_cl X s2 l9) (hp1 : p1.toInt = (s1 : Int)) (hp2 : p2.toInt = (s2 : Int)) (hs : s1 < 50 ∧ s2 < 50) (hl : l8.length = l9.length) : ∀ (n k : Nat) (y3 : Int32), y3.toInt = (k : Int) → k ≤ l8.length → (∀ i, i < k → l8[i]? = l9[i]?) → gxF_277 p1 p2 n 19 [y3] [] [] X v X' → X' = X ∧ ((v = Int32.ofInt 1 ∧ l8 = l9) ∨ (v = Int32.ofInt 0 ∧ l8 ≠ l9)) := by
  intro n
  induction n with
  | zero => intro k y3 _ _ _ g; exact g.elim
  | succ n ih =>
    intro k y3 hk hkl hB g
    replace g := gxO_277_19 g
    unfold gxT_277_19 at g
    obtain ⟨a1, a2, a3⟩ := h1
    obtain ⟨b1, b2, b3⟩ := h2
    rw [fx_in hp1] at g
    replace g := g.2
    rcases fy_ifd g with ⟨c1, g1⟩ | ⟨c1, g1⟩
    · have hk2 : k < l8.length := by omega
      have i1 : (p1 * ((Int8.ofInt 8).toInt32) + y3).toInt = ((s1 * 8 + k : Nat) : Int) := rx_lin hp1 rfl hk (by omega)
      have i2 : (p2 * ((Int8.ofInt 8).toInt32) + y3).toInt = ((s2 * 8 + k : Nat) : Int) := rx_lin hp2 rfl hk (by omega)
      have e1 := a3 k _ (List.getElem?_eq_getElem hk2)
      have e2 := b3 k _ (List.getElem?_eq_getElem (show k < l9.length by omega))
      rw [fx_in i1, fx_in i2, show s1 * 8 + k = 8 * s1 + k by omega, show s2 * 8 + k = 8 * s2 + k by omega, e1, e2] at g1
      replace g1 := g1.2.2
      rcases fy_ifd g1 with ⟨c2, g2⟩ | ⟨c2, g2⟩
      · obtain ⟨x16, e16, g3⟩ := g2
        refine ih (k + 1) x16 (by rw [e16]; exact cx_in1 hk (by omega)) (by omega) (fun i hi => ?_) g3
        by_cases z : i = k
        · subst z
          rw [List.getElem?_eq_getElem hk2, List.getElem?_eq_getElem (show i < l9.length by omega), c2]
        · exact hB i (by omega)
      · refine ⟨g2.2, Or.inr ⟨g2.1, fun e => ?_⟩⟩
        subst e
        exact c2 rfl
    · refine ⟨g1.2, Or.inl ⟨g1.1, List.ext_getElem? (fun i => ?_)⟩⟩
      by_cases z : i < k
      · exact hB i z
      · rw [List.getElem?_eq_none (by omega), List.getElem?_eq_none (by omega)]
theorem rx_277 (h1 : rx_cl X s1 l8) (h2 : rx_cl X s2 l9) (hp1 : p1.toInt = (s1 : Int)) (hp2 : p2.toInt = (s2 : Int)) (hs : s1 < 50 ∧ s2 < 50) (g : gx_277 p1 p2 X v X') : X' = X ∧ ((v = Int32.ofInt 1 ∧ l8 = l9) ∨ (v = Int32.ofInt 0 ∧ l8 ≠ l9)) := by
  obtain ⟨n, -, -, g⟩ := g
  rw [fx_in hp1, fx_in hp2, h1.1, h2.1] at g
  rcases fy_ifd g with ⟨c1, g1⟩ | ⟨c1, g1⟩
  · exact rx_277l h1 h2 hp1 hp2 hs (by omega) n 0 _ rfl (Nat.zero_le _) (fun i hi => absurd hi (Nat.not_lt_zero _)) g1
  · exact ⟨g1.2, Or.inr ⟨g1.1, fun e => c1 (by rw [e])⟩⟩
/-- ROWS set behind others -/
theorem rx_278l (hp : p1.toInt = (s : Int)) (hs : 20 ≤ s ∧ s < 48) (h1 : (X0.1 131 s).toInt = (R1 : Int)) (h2 : (X0.1 131 (s + 1)).toInt = (R2 : Int)) (hR : R1 + R2 ≤ 30) : ∀ (n k : Nat) (y3 : Int32) (X : fx_X), y3.toInt = (k : Int) → k ≤ R2 → X.2 = X0.2 → (∀ q, q ≠ 134 → q ≠ 135 → q ≠ 136 → X.1 q = X0.1 q) → (∀ q k', (q = 134 ∨ q = 135) → ¬ (30 * s + R1 ≤ k' / 8 ∧ k' / 8 < 30 * s + R1 + k) → X.1 q k' = X0.1 q k') → (∀ k', ¬ (30 * s + R1 ≤ k' / 32 ∧ k' / 32 < 30 * s + R1 + k) → X.1 136 k' = X0.1 136 k') → (∀ r, r < k → rx_cpr X0 X (30 * (s + 1) + r) (30 * s + (R1 + r))) → gxF_278 p1 p2 n 30 [y3] [] [] X v X' → v = Int32.ofInt 1 ∧ ∃ X2, X' = fx_wI X2 131 s (X0.1 131 s + X0.1 131 (s + 1)) ∧ X2.2 = X0.2 ∧ (∀ q, q ≠ 134 → q ≠ 135 → q ≠ 136 → X2.1 q = X0.1 q) ∧ (∀ q k', (q = 134 ∨ q = 135) → ¬ (30 * s + R1 ≤ k' / 8 ∧ k' / 8 < 30 * s + R1 + R2) → X2.1 q k' = X0.1 q k') ∧ (∀ k', ¬ (30 * s + R1 ≤ k' / 32 ∧ k' / 32 < 30 * s + R1 + R2) → X2.1 136 k' = X0.1 136 k') ∧ ∀ r, r < R2 → rx_cpr X0 X2 (30 * (s + 1) + r) (30 * s + (R1 + r)) := by
  intro n
  have hp' : (p1 + Int32.ofInt 1).toInt = ((s + 1 : Nat) : Int) := cx_in1 hp (by omega)
  induction n with
  | zero => intro k y3 X _ _ _ _ _ _ _ g; exact g.elim
  | succ n ih =>
    intro k y3 X hk hkR e2 e1 e3 e4 hB g
    replace g := gxO_278_30 g
    unfold gxT_278_30 at g
    rw [fx_in hp', fx_in hp, e1 131 (by decide) (by decide) (by decide)] at g
    replace g := g.2
    rcases fy_ifd g with ⟨c1, g1⟩ | ⟨c1, g1⟩
    · obtain ⟨-, w22, X21, q, x23, e23, g2⟩ := g1
      have hk2 : k < R2 := by omega
      have i1 : (X0.1 131 s + y3).toInt = ((R1 + k : Nat) : Int) := by rw [fx_add (by omega) (by omega)]; omega
      obtain ⟨⟨b1, b2, b3, b4⟩, b5, b6⟩ := rx_252 hp' hk hp i1 (by omega) (by omega) q
      refine ih (k + 1) x23 X21 (by rw [e23]; exact cx_in1 hk (by omega)) (by omega) (b1.trans e2) (fun q z1 z2 z3 => (b2 q z1 z2 z3).trans (e1 q z1 z2 z3)) (fun q k' hq hk' => by rw [b3 q k' hq (by omega)]; exact e3 q k' hq (by omega)) (fun k' hk' => by rw [b4 k' (by omega)]; exact e4 k' (by omega)) (fun r hr => ?_) g2
      by_cases z : r = k
      · subst z
        refine ⟨fun c hc => ⟨?_, ?_⟩, fun i hi => ?_⟩
        · rw [(b5 c hc).1, e3 134 _ (Or.inl rfl) (by omega)]
        · rw [(b5 c hc).2, e3 135 _ (Or.inr rfl) (by omega)]
        · rw [b6 i hi, e4 _ (by omega)]
      · obtain ⟨f1, f2⟩ := hB r (by omega)
        refine ⟨fun c hc => ⟨?_, ?_⟩, fun i hi => ?_⟩
        · rw [b3 134 _ (Or.inl rfl) (by omega)]; exact (f1 c hc).1
        · rw [b3 135 _ (Or.inr rfl) (by omega)]; exact (f1 c hc).2
        · rw [b4 _ (by omega)]; exact f2 i hi
    · obtain ⟨-, -, -, X18, e18, e5, e6⟩ := g1
      have : k = R2 := by omega
      subst this
      exact ⟨e5, X, e6.trans e18, e2, e1, e3, e4, hB⟩
theorem rx_278 (hp : p1.toInt = (s : Int)) (hs : 20 ≤ s ∧ s < 48) (hA : rx_Rw P X m s A) (hB : rx_Rw P X m (s + 1) B) (oA : md_okA n d A) (oB : md_okA n d B) (hm : ∀ w, w < rp_W P → w / m < 1024) (g : gx_278 p1 p2 X v X') : (v = Int32.ofInt 0 ∧ 30 < A.length + B.length ∧ (X'.1 117 24).toInt ≠ 0 ∧ fy [(117, 24), (117, 25), (117, 31)] [] [] X X') ∨ (v = Int32.ofInt 1 ∧ A.length + B.length ≤ 30 ∧ rx_on s X X' ∧ X'.2 = X.2 ∧ X'.1 132 = X.1 132 ∧ rx_Rw P X' m s (A ++ B)) := by
  obtain ⟨n1, -, -, g⟩ := g
  have hp' : (p1 + Int32.ofInt 1).toInt = ((s + 1 : Nat) : Int) := cx_in1 hp (by omega)
  obtain ⟨a1, a2⟩ := hA
  obtain ⟨b1, b2⟩ := hB
  have hA30 := oA.1
  have hB30 := oB.1
  rw [fx_in hp, fx_in hp'] at g
  have hsum : (X.1 131 s + X.1 131 (s + 1)).toInt = ((A.length + B.length : Nat) : Int) := by rw [fx_add (by omega) (by omega)]; omega
  rcases fy_ifd g with ⟨c1, g1⟩ | ⟨c1, g1⟩
  · obtain ⟨w9, X8, r, e1, e2⟩ := g1
    left
    have f8 := gf_215 r
    obtain ⟨Y2, rfl, Y3, rfl, Y4, rfl, rfl, rfl⟩ := r
    rw [e1, e2]
    exact ⟨rfl, by omega, by rw [fx_rIk (by decide), fx_rIk (by decide), fx_rIe]; decide, f8⟩
  · right
    obtain ⟨hv, X2, e', c2, c3, c4, c5, c6⟩ := rx_278l (X0 := X) hp hs a1 b1 (by omega) n1 0 _ X rfl (Nat.zero_le _) rfl (fun _ _ _ _ => rfl) (fun _ _ _ _ => rfl) (fun _ _ => rfl) (fun r hr => absurd hr (Nat.not_lt_zero _)) g1
    have k131 : ∀ q, q ≠ 131 → X'.1 q = X2.1 q := fun q hq => by rw [e', fx_rIn hq]
    refine ⟨hv, by omega, ⟨by rw [e']; show X2.2.2 = _; rw [c2], fun q z1 z2 z3 z4 z5 => by rw [k131 q z1]; exact c3 q z3 z4 z5, fun q _ => by rw [e']; show X2.2.1 q = _; rw [c2], fun q k hq hk => ?_, fun k _ => by rw [e']; show X2.2.1 133 k = _; rw [c2], fun q k hq hk => by rw [k131 q (by omega)]; exact c4 q k hq (by omega), fun k hk => by rw [k131 136 (by decide)]; exact c5 k (by omega)⟩, by rw [e']; exact c2, by rw [k131 132 (by decide)]; exact c3 132 (by decide) (by decide) (by decide), ?_, fun r x hr => ?_⟩
    · rw [e', fx_rIk hk, c3 q (by omega) (by omega) (by omega)]
    · rw [e', fx_rIe, hsum, List.length_append]
    · have hrl := (List.getElem?_eq_some_iff.mp hr).1
      rw [List.length_append] at hrl
      by_cases z : r < A.length
      · rw [List.getElem?_append_left z] at hr
        obtain ⟨d1, d2⟩ := a2 r x hr
        have h6 := (oA.2 x (List.mem_of_getElem? hr)).1.1
        refine ⟨fun c t hc => ?_, fun w hw => ?_⟩
        · have := d1 c t hc
          have hcl := (List.getElem?_eq_some_iff.mp hc).1
          unfold rx_tm at this ⊢
          rw [k131 134 (by decide), k131 135 (by decide), c4 134 _ (Or.inl rfl) (by omega), c4 135 _ (Or.inr rfl) (by omega)]
          exact this
        · have := d2 w hw
          have := hm w hw
          unfold fx_bt at *
          rw [k131 136 (by decide), c5 _ (by omega)]
          exact d2 w hw
      · rw [List.getElem?_append_right (by omega)] at hr
        have h6 := (oB.2 x (List.mem_of_getElem? hr)).1.1
        have h7 := c6 (r - A.length) (by omega)
        rw [show 30 * s + (A.length + (r - A.length)) = 30 * s + r by omega] at h7
        have h8 : rx_row P X2 m (30 * s + r) x := rx_row_cp (b2 (r - A.length) x hr) h7 (by omega) hm
        unfold rx_row at h8
        rw [← k131 136 (by decide)] at h8
        refine ⟨fun c t hc => ?_, h8.2⟩
        have := h8.1 c t hc
        unfold rx_tm at this ⊢
        rw [k131 134 (by decide), k131 135 (by decide)]
        exact this
end DD37
