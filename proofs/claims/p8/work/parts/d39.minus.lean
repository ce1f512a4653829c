/-! THE REFERENCE: - of two queries, whole -/
section DD39
variable {P : md_P} {X X' X0 X1 X2 : fx_X} {l n m t d k s s1 s2 r h M a b N R R1 R2 C i kw : Nat} {v w p1 p2 p3 p4 z y2 y3 y4 y5 y6 : Int32} {l8 l9 : List Int64} {A B : List md_Row} {val : md_V} {cs : md_CS} {ts us : List md_Tm}
theorem rx_hit_eq (e123 : X'.1 123 = X.1 123) (e134 : X'.1 134 = X.1 134) (e135 : X'.1 135 = X.1 135) (hB : ∀ i, i < k → fx_bt (X'.1 136) (32 * (30 * s + i)) b = fx_bt (X.1 136) (32 * (30 * s + i)) b) : rx_hit h X' a s n b k = rx_hit h X a s n b k := by
  induction k with
  | zero =>
    unfold rx_hit
    rw [List.range_zero, List.any_nil, List.any_nil]
  | succ k ih => rw [rx_hit_s, rx_hit_s, ih (fun i hi => hB i (by omega)), hB k (by omega), rx_eqc_eq e123 e134 e135]
/-- all ROWS in one WORLD -/
theorem rx_279b (hh : (X0.1 117 37).toInt = (h : Int)) (hh1 : h ≤ 1) (h1 : p1.toInt = (s : Int)) (hs : 20 ≤ s ∧ s < 48) (h2 : y2.toInt = (kw : Int)) (hkw : kw < 1024) (hR1 : (X0.1 131 s).toInt = (R1 : Int)) (hR130 : R1 ≤ 30) (hR2 : (X0.1 131 (s + 1)).toInt = (R2 : Int)) (hR30 : R2 ≤ 30) (hC : (X0.1 132 s).toInt = (C : Int)) (hC8 : C ≤ 8) (hx : ∀ c, c < C → (∀ r, r < R1 → rx_cx X0 (30 * s + r) (2, Int32.ofInt (c : Int))) ∧ ∀ i, i < R2 → rx_cx X0 (30 * (s + 1) + i) (2, Int32.ofInt (c : Int))) : ∀ (d n r : Nat) (y3 : Int32) (X : fx_X), n ≤ d → n ≤ N → y3.toInt = (r : Int) → r ≤ R1 → X.2 = X0.2 → (∀ q i, q ≠ 136 → X.1 q i = X0.1 q i) → (∀ k' b, b < 1024 → fx_bt (X.1 136) (32 * k') b = if (30 * s ≤ k' ∧ k' < 30 * s + r) ∧ b = kw then (fx_bt (X0.1 136) (32 * k') b && !rx_hit h X0 k' (s + 1) C kw R2) else fx_bt (X0.1 136) (32 * k') b) → gxF_279 p1 n 17 [y2, y3] [] [] X v X' → ∃ n2 X2 x, n2 + 1 ≤ N ∧ x = y2 + Int32.ofInt 1 ∧ gxF_279 p1 n2 2 [x] [] [] X2 v X' ∧ X2.2 = X0.2 ∧ (∀ q i, q ≠ 136 → X2.1 q i = X0.1 q i) ∧ ∀ k' b, b < 1024 → fx_bt (X2.1 136) (32 * k') b = if (30 * s ≤ k' ∧ k' < 30 * s + R1) ∧ b = kw then (fx_bt (X0.1 136) (32 * k') b && !rx_hit h X0 k' (s + 1) C kw R2) else fx_bt (X0.1 136) (32 * k') b := by
  intro d
  induction d with
  | zero =>
    intro n r y3 X hn _ _ _ _ _ _ g
    cases n with
    | zero => exact g.elim
    | succ n => omega
  | succ d ih =>
    intro n r y3 X hn hN hr hrR e2 e1 hB g
    cases n with
    | zero => exact g.elim
    | succ n =>
      have eq : ∀ q, q ≠ 136 → X.1 q = X0.1 q := fun q hq => funext fun i => e1 q i hq
      have ecx : ∀ a x, rx_cx X0 a x → rx_cx X a x := fun a x hx => by unfold rx_cx; rw [eq 134 (by decide), eq 135 (by decide)]; exact hx
      replace g := gxO_279_17 g
      unfold gxT_279_17 at g
      rw [fx_in h1, e1 131 _ (by decide)] at g
      replace g := g.2
      rcases fy_ifd g with ⟨c1, g1⟩ | ⟨c1, g1⟩
      · have hr2 : r < R1 := by omega
        obtain ⟨n2, X2, x, hn2, ex, g2, b1, b2, b3⟩ := rx_279a (N := n) (X0 := X) (h := h) (r := r) (kw := kw) (R2 := R2) (C := C) (by rw [e1 117 37 (by decide)]; exact hh) hh1 h1 hs h2 hkw hr (by omega) (by rw [e1 131 _ (by decide)]; exact hR2) hR30 (by rw [e1 132 _ (by decide)]; exact hC) hC8 (fun c hc => ⟨ecx _ _ ((hx c hc).1 r hr2), fun i hi => ecx _ _ ((hx c hc).2 i hi)⟩) n n 0 _ X (Nat.le_refl _) (Nat.le_refl _) rfl (Nat.zero_le _) rfl (fun _ _ _ => rfl) (fun k' b _ => by
          by_cases z : k' = 30 * s + r ∧ b = kw
          · rw [if_pos z]
            show _ = (_ && !false)
            rw [Bool.not_false, Bool.and_true]
          · rw [if_neg z]) g1
        have eH : rx_hit h X (30 * s + r) (s + 1) C kw R2 = rx_hit h X0 (30 * s + r) (s + 1) C kw R2 := rx_hit_eq (eq 123 (by decide)) (eq 134 (by decide)) (eq 135 (by decide)) (fun i hi => by rw [hB _ _ hkw, if_neg (by omega)])
        refine ih n2 (r + 1) x X2 (by omega) (by omega) (by rw [ex]; exact cx_in1 hr (by omega)) (by omega) (b1.trans e2) (fun q i hq => (b2 q i hq).trans (e1 q i hq)) (fun k' b hb => ?_) g2
        rw [b3 k' b hb, hB k' b hb, eH]
        by_cases z : k' = 30 * s + r ∧ b = kw
        · obtain ⟨z1, z2⟩ := z
          subst z1 z2
          rw [if_pos ⟨rfl, rfl⟩, if_neg (by omega), if_pos (by omega)]
        · rw [if_neg z]
          by_cases z2 : (30 * s ≤ k' ∧ k' < 30 * s + r) ∧ b = kw
          · rw [if_pos z2, if_pos (by omega)]
          · rw [if_neg z2, if_neg (by omega)]
      · have : r = R1 := by omega
        subst this
        obtain ⟨x10, e10, g2⟩ := g1
        exact ⟨n, X, x10, by omega, e10, g2, e2, e1, hB⟩
theorem rx_279l (hh : (X0.1 117 37).toInt = (h : Int)) (hh1 : h ≤ 1) (hM : (X0.1 122 h).toInt = (M : Int)) (hM4 : M ≤ 1024) (h1 : p1.toInt = (s : Int)) (hs : 20 ≤ s ∧ s < 48) (hR1 : (X0.1 131 s).toInt = (R1 : Int)) (hR130 : R1 ≤ 30) (hR2 : (X0.1 131 (s + 1)).toInt = (R2 : Int)) (hR30 : R2 ≤ 30) (hC : (X0.1 132 s).toInt = (C : Int)) (hC8 : C ≤ 8) (hx : ∀ c, c < C → (∀ r, r < R1 → rx_cx X0 (30 * s + r) (2, Int32.ofInt (c : Int))) ∧ ∀ i, i < R2 → rx_cx X0 (30 * (s + 1) + i) (2, Int32.ofInt (c : Int))) : ∀ (d n kw : Nat) (y2 : Int32) (X : fx_X), n ≤ d → y2.toInt = (kw : Int) → kw ≤ M → X.2 = X0.2 → (∀ q i, q ≠ 136 → X.1 q i = X0.1 q i) → (∀ k' b, b < 1024 → fx_bt (X.1 136) (32 * k') b = if (30 * s ≤ k' ∧ k' < 30 * s + R1) ∧ b < kw then (fx_bt (X0.1 136) (32 * k') b && !rx_hit h X0 k' (s + 1) C b R2) else fx_bt (X0.1 136) (32 * k') b) → gxF_279 p1 n 2 [y2] [] [] X v X' → v = Int32.ofInt 1 ∧ X'.2 = X0.2 ∧ (∀ q i, q ≠ 136 → X'.1 q i = X0.1 q i) ∧ ∀ k' b, b < 1024 → fx_bt (X'.1 136) (32 * k') b = if (30 * s ≤ k' ∧ k' < 30 * s + R1) ∧ b < M then (fx_bt (X0.1 136) (32 * k') b && !rx_hit h X0 k' (s + 1) C b R2) else fx_bt (X0.1 136) (32 * k') b := by
  intro d
  induction d with
  | zero =>
    intro n kw y2 X hn _ _ _ _ _ g
    cases n with
    | zero => exact g.elim
    | succ n => omega
  | succ d ih =>
    intro n kw y2 X hn hk hkM e2 e1 hB g
    cases n with
    | zero => exact g.elim
    | succ n =>
      have eq : ∀ q, q ≠ 136 → X.1 q = X0.1 q := fun q hq => funext fun i => e1 q i hq
      have ecx : ∀ a x, rx_cx X0 a x → rx_cx X a x := fun a x hx => by unfold rx_cx; rw [eq 134 (by decide), eq 135 (by decide)]; exact hx
      replace g := gxO_279_2 g
      unfold gxT_279_2 at g
      rw [e1 117 37 (by decide), fx_in hh, e1 122 _ (by decide)] at g
      replace g := g.2
      rcases fy_ifd g with ⟨c1, g1⟩ | ⟨c1, g1⟩
      · have hk2 : kw < M := by omega
        obtain ⟨n2, X2, x, hn2, ex, g2, b1, b2, b3⟩ := rx_279b (N := n) (X0 := X) (h := h) (kw := kw) (R1 := R1) (R2 := R2) (C := C) (by rw [e1 117 37 (by decide)]; exact hh) hh1 h1 hs hk (by omega) (by rw [e1 131 _ (by decide)]; exact hR1) hR130 (by rw [e1 131 _ (by decide)]; exact hR2) hR30 (by rw [e1 132 _ (by decide)]; exact hC) hC8 (fun c hc => ⟨fun r hr => ecx _ _ ((hx c hc).1 r hr), fun i hi => ecx _ _ ((hx c hc).2 i hi)⟩) n n 0 _ X (Nat.le_refl _) (Nat.le_refl _) rfl (Nat.zero_le _) rfl (fun _ _ _ => rfl) (fun k' b _ => by rw [if_neg (by omega)]) g1
        refine ih n2 (kw + 1) x X2 (by omega) (by rw [ex]; exact cx_in1 hk (by omega)) (by omega) (b1.trans e2) (fun q i hq => (b2 q i hq).trans (e1 q i hq)) (fun k' b hb => ?_) g2
        have eH : rx_hit h X k' (s + 1) C kw R2 = rx_hit h X0 k' (s + 1) C kw R2 := rx_hit_eq (eq 123 (by decide)) (eq 134 (by decide)) (eq 135 (by decide)) (fun i hi => by rw [hB _ _ (by omega), if_neg (by omega)])
        rw [b3 k' b hb, hB k' b hb, eH]
        by_cases z : (30 * s ≤ k' ∧ k' < 30 * s + R1) ∧ b = kw
        · obtain ⟨z1, z2⟩ := z
          subst z2
          rw [if_pos ⟨z1, rfl⟩, if_neg (by omega), if_pos (by omega)]
        · rw [if_neg z]
          by_cases z2 : (30 * s ≤ k' ∧ k' < 30 * s + R1) ∧ b < kw
          · rw [if_pos z2, if_pos (by omega)]
          · rw [if_neg z2, if_neg (by omega)]
      · have : kw = M := by omega
        subst this
        rw [g1.2]
        exact ⟨g1.1, e2, e1, hB⟩
theorem md_eqv_i : ∀ {ts us : List md_Tm}, ts.length = us.length → (md_eqv val n ts us = true ↔ ∀ c, c < ts.length → md_cv val n (ts.getD c (false, Int32.ofInt 0)) = md_cv val n (us.getD c (false, Int32.ofInt 0)))
  | [], [], _ => ⟨fun _ c hc => absurd hc (Nat.not_lt_zero _), fun _ => rfl⟩
  | [], _ :: _, h => by cases h
  | _ :: _, [], h => by cases h
  | t :: ts, u :: us, h => by
    have h : ts.length = us.length := Nat.succ.inj h
    have ih := md_eqv_i h
    show ((md_cv val n t == md_cv val n u) && md_eqv val n ts us) = true ↔ _
    rw [Bool.and_eq_true, beq_iff_eq, ih]
    constructor
    · rintro ⟨a1, a2⟩ c hc
      cases c with
      | zero => exact a1
      | succ c => exact a2 c (Nat.lt_of_succ_lt_succ hc)
    · intro a
      exact ⟨a 0 (Nat.succ_pos _), fun c hc => a (c + 1) (Nat.succ_lt_succ hc)⟩
/-- a COLUMN's value is the model's -/
theorem rx_cc_cv (hV : rx_V P X cs.1) (hb : rp_b P = true) (hw : n < rp_W P) (hrow : ∀ c t, ts[c]? = some t → rx_tm X (8 * a + c) t) (hok : md_okt cs.1.length ts) (hc : C < ts.length) (h8 : cs.1.length ≤ 8) : rx_cc (rp_h P) X a C (n / md_m P cs.1) = md_cv (rp_v P) n (ts.getD C (false, Int32.ofInt 0)) ∧ rx_cx X a (2, Int32.ofInt (C : Int)) := by
  have hl := hok.1
  have e : (Int32.ofInt (C : Int)).toInt = (C : Int) := fx_ofI (by omega) (by omega)
  have h := rx_cw_sv (x := (2, Int32.ofInt (C : Int))) hV hb hw hrow hok (Or.inr (Or.inr ⟨rfl, by show 0 ≤ (Int32.ofInt (C : Int)).toInt; omega, by show (Int32.ofInt (C : Int)).toInt < _; omega⟩)) h8
  refine ⟨?_, h.2⟩
  unfold rx_cc
  rw [h.1]
  show md_cv (rp_v P) n (ts.getD (Int32.ofInt (C : Int)).toInt.toNat (false, Int32.ofInt 0)) = _
  rw [e]
  rfl
theorem rx_279 (hG : (X.1 117 37).toInt = (rp_h P : Int) ∧ rp_h P ≤ 1) (hU : rx_U P X cs.1) (hV : rx_V P X cs.1) (hb : rp_b P = true) (hp : p1.toInt = (s : Int)) (hs : 20 ≤ s ∧ s < 48) (hA : rx_Rw P X (md_m P cs.1) s A) (hB : rx_Rw P X (md_m P cs.1) (s + 1) B) (oA : md_okA cs.1.length C A) (oB : md_okA cs.1.length C B) (hC : (X.1 132 s).toInt = (C : Int)) (hC6 : C ≤ 6) (g : gx_279 p1 X v X') : v = Int32.ofInt 1 ∧ X'.2 = X.2 ∧ fy [] [] [136] X X' ∧ rx_on s X X' ∧ rx_Rw P X' (md_m P cs.1) s (md_mi (rp_v P) A B) := by
  obtain ⟨n1, g⟩ := g
  obtain ⟨a1, a2⟩ := hA
  obtain ⟨b1, b2⟩ := hB
  have hA30 := oA.1
  have hB30 := oB.1
  have hVm := rx_V_m hV hb
  have hW1 : 0 < rp_W P := by have := (hV hb).2.1.2; omega
  have hU8 := hU.2.2.1
  have rA : ∀ {r c : Nat} {x : md_Row} {w : Nat}, A[r]? = some x → c < C → w < rp_W P → rx_cc (rp_h P) X (30 * s + r) c (w / md_m P cs.1) = md_cv (rp_v P) w (x.1.getD c (false, Int32.ofInt 0)) ∧ rx_cx X (30 * s + r) (2, Int32.ofInt (c : Int)) := fun hr hc hw => by
    have o := oA.2 _ (List.mem_of_getElem? hr)
    exact rx_cc_cv hV hb hw (a2 _ _ hr).1 o.1 (by rw [o.2]; exact hc) hU8
  have rB : ∀ {r c : Nat} {x : md_Row} {w : Nat}, B[r]? = some x → c < C → w < rp_W P → rx_cc (rp_h P) X (30 * (s + 1) + r) c (w / md_m P cs.1) = md_cv (rp_v P) w (x.1.getD c (false, Int32.ofInt 0)) ∧ rx_cx X (30 * (s + 1) + r) (2, Int32.ofInt (c : Int)) := fun hr hc hw => by
    have o := oB.2 _ (List.mem_of_getElem? hr)
    exact rx_cc_cv hV hb hw (b2 _ _ hr).1 o.1 (by rw [o.2]; exact hc) hU8
  obtain ⟨hv, c1, c2, c3⟩ := rx_279l (X0 := X) (h := rp_h P) (M := md_all cs.1) (R1 := A.length) (R2 := B.length) (C := C) hG.1 hG.2 hU.2.1 hU.2.2.2.1.2 hp hs a1 hA30 b1 hB30 hC (by omega) (fun c hc => ⟨fun r hr => (rA (List.getElem?_eq_getElem hr) hc hW1).2, fun i hi => (rB (List.getElem?_eq_getElem hi) hc hW1).2⟩) n1 n1 0 _ X (Nat.le_refl _) rfl (Nat.zero_le _) rfl (fun _ _ _ => rfl) (fun k' b _ => by rw [if_neg (by omega)]) g
  have eq : ∀ q, q ≠ 136 → X'.1 q = X.1 q := fun q hq => funext fun i => c2 q i hq
  have f : fy [] [] [136] X X' := ⟨by rw [c1], fun r k _ _ => by rw [c1], fun r k hr hk => c2 r k (fun z => hr (by rw [z]; exact List.mem_singleton.mpr rfl))⟩
  refine ⟨hv, c1, f, ?_, ?_, ?_⟩
  · refine ⟨by rw [c1], fun q _ _ _ _ z => eq q z, fun q _ => by rw [c1], fun q k hq _ => by rw [eq q (by omega)], fun k _ => by rw [c1], fun q k hq _ => by rw [eq q (by omega)], fun k hk => ?_⟩
    refine fx_ib_ext (fun i hi => ?_)
    have h1 := c3 (k / 32) (32 * (k % 32) + i) (by omega)
    rw [if_neg (by omega)] at h1
    unfold fx_bt at h1
    rw [show 32 * (k / 32) + (32 * (k % 32) + i) / 32 = k by omega, show (32 * (k % 32) + i) % 32 = i by omega] at h1
    exact h1
  · rw [eq 131 (by decide)]
    unfold md_mi
    rw [List.length_map]
    exact a1
  · intro r x' hr
    unfold md_mi at hr
    rw [List.getElem?_map] at hr
    cases hy : A[r]? with
    | none => rw [hy] at hr; cases hr
    | some x =>
      rw [hy] at hr
      have hr := Option.some.inj hr
      subst hr
      have hrl := (List.getElem?_eq_some_iff.mp hy).1
      have ox := oA.2 x (List.mem_of_getElem? hy)
      refine ⟨fun c t hc => ?_, fun w hw => ?_⟩
      · have := (a2 r x hy).1 c t hc
        unfold rx_tm at this ⊢
        rw [eq 134 (by decide), eq 135 (by decide)]
        exact this
      · have hwm := hVm.2.1 w hw
        rw [c3 _ _ hwm.2, if_pos ⟨⟨by omega, by omega⟩, hwm.1⟩, (a2 r x hy).2 w hw]
        dsimp only
        have key : rx_hit (rp_h P) X (30 * s + r) (s + 1) C (w / md_m P cs.1) B.length = B.any (fun y => y.2 w && md_eqv (rp_v P) w x.1 y.1) := by
          have one : ∀ (i : Nat) (y : md_Row), B[i]? = some y → (fx_bt (X.1 136) (32 * (30 * (s + 1) + i)) (w / md_m P cs.1) && rx_eqc (rp_h P) X (30 * s + r) (30 * (s + 1) + i) C (w / md_m P cs.1)) = (y.2 w && md_eqv (rp_v P) w x.1 y.1) := by
            intro i y hi
            have oy := oB.2 y (List.mem_of_getElem? hi)
            rw [(b2 i y hi).2 w hw]
            congr 1
            rw [Bool.eq_iff_iff, md_eqv_i (by rw [ox.2, oy.2]), ox.2]
            unfold rx_eqc
            rw [List.all_eq_true]
            constructor
            · intro z c hc
              have := beq_iff_eq.mp (z c (List.mem_range.mpr hc))
              rw [(rA hy hc hw).1, (rB hi hc hw).1] at this
              exact this
            · intro z c hc
              have hc := List.mem_range.mp hc
              rw [(rA hy hc hw).1, (rB hi hc hw).1]
              exact beq_iff_eq.mpr (z c hc)
          rw [Bool.eq_iff_iff]
          unfold rx_hit
          rw [List.any_eq_true, List.any_eq_true]
          constructor
          · rintro ⟨i, hi, z⟩
            have hi := List.mem_range.mp hi
            have := one i _ (List.getElem?_eq_getElem hi)
            exact ⟨_, List.getElem_mem hi, by rw [← this]; exact z⟩
          · rintro ⟨y, hy, z⟩
            obtain ⟨i, hi⟩ := List.getElem?_of_mem hy
            exact ⟨i, List.mem_range.mpr (List.getElem?_eq_some_iff.mp hi).1, by rw [one i y hi]; exact z⟩
        rw [key]
end DD39
