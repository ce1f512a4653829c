/-! THE REFERENCE: join, whole -/
section DD48
variable {P : md_P} {X X' X0 X1 X2 Y : fx_X} {n m k s R R1 R2 T d N j : Nat} {v w p1 p2 z y3 y4 y5 y6 : Int32} {cs : md_CS} {c : md_C} {lx ly : List Int64} {A B : List md_Row}
theorem rx_Rw_sm (h : rx_Rw P X m s A) (hA : md_okA n d A) (hm : ∀ w, w < rp_W P → w / m < 1024) (hs : s < 49) (e131 : X'.1 131 = X.1 131) (e3 : ∀ q k', (q = 134 ∨ q = 135) → k' < 240 * 49 → X'.1 q k' = X.1 q k') (e4 : ∀ k' b, k' < 30 * 49 → b < 1024 → fx_bt (X'.1 136) (32 * k') b = fx_bt (X.1 136) (32 * k') b) : rx_Rw P X' m s A := by
  obtain ⟨a1, a2⟩ := h
  refine ⟨by rw [e131]; exact a1, fun r x hr => ⟨fun c t hc => ?_, fun w hw => ?_⟩⟩
  · have h1 := (List.getElem?_eq_some_iff.mp hr).1
    have h2 := (List.getElem?_eq_some_iff.mp hc).1
    have h3 := hA.1
    have h4 := (hA.2 x (List.mem_of_getElem? hr)).1.1
    have := (a2 r x hr).1 c t hc
    unfold rx_tm at this ⊢
    rw [e3 134 _ (Or.inl rfl) (by omega), e3 135 _ (Or.inr rfl) (by omega)]
    exact this
  · have h1 := (List.getElem?_eq_some_iff.mp hr).1
    have h3 := hA.1
    rw [e4 _ _ (by omega) (hm w hw)]
    exact (a2 r x hr).2 w hw
theorem rx_276m (hG : rx_G P X j c) (hU : rx_U P X cs.1) (hV : rx_V P X cs.1) (hp : p1.toInt = (s : Int)) (hs : 20 ≤ s ∧ s < 48) (h3 : y3.toInt = ((s + 1 : Nat) : Int)) (h4 : y4.toInt = (lx.length : Int)) (hlx : rx_cl X s lx) (hly : rx_cl X (s + 1) ly) (h66 : lx.length + (md_new lx ly).length ≤ 6) (hT : (X.1 131 49).toInt = (T : Int)) (hT30 : T ≤ 30) (hT0 : rp_b P = false → T = 0) (hAB : rp_b P = true → T = A.length * B.length ∧ rx_Rw P X (md_m P cs.1) s A ∧ rx_Rw P X (md_m P cs.1) (s + 1) B ∧ md_okA cs.1.length lx.length A ∧ md_okA cs.1.length ly.length B) (g : gxF_276 p1 p2 n 88 [y3, y4, Int32.ofInt 0] [] [] X v X') : v = Int32.ofInt 1 ∧ rx_G P X' j c ∧ rx_lo s X X' ∧ X'.1 117 = X.1 117 ∧ X'.1 140 = X.1 140 ∧ X'.1 141 = X.1 141 ∧ rx_cl X' s (lx ++ md_new lx ly) ∧ (rp_b P = true → rx_Rw P X' (md_m P cs.1) s (md_jn (rp_v P) (md_map lx ly 0) A B)) := by
  have hl6 := hlx.2.1
  have hbT : 0 < T → rp_b P = true := fun z => by
    cases hb : rp_b P with
    | true => rfl
    | false => have := hT0 hb; omega
  -- 88
  obtain ⟨n2, X2, g2, a1, a2, a3, a4⟩ := rx_276n (Y := X) (s := s) (a := lx.length) hp hs h4 hl6 n 0 _ X rfl (Nat.zero_le _) rfl ⟨rfl, fun _ _ => rfl, fun k' => by rw [if_neg (by omega)]⟩ g
  -- 127
  obtain ⟨n3, X3, g3, b1, b2, b3, b4, b5⟩ : ∃ n3 X3, gxF_276 p1 p2 n3 166 [y3, y4, Int32.ofInt 0] [] [] X3 v X' ∧ X3.2 = X2.2 ∧ (∀ q, q ≠ 134 → q ≠ 135 → q ≠ 136 → X3.1 q = X2.1 q) ∧ (∀ q k', (q = 134 ∨ q = 135) → k' / 240 ≠ 49 → X3.1 q k' = X2.1 q k') ∧ (∀ k', k' / 960 ≠ 49 → X3.1 136 k' = X2.1 136 k') ∧ ∀ r, r < T → rx_cpr X2 X3 (30 * s + r / B.length) (30 * 49 + r) := by
    by_cases z : T = 0
    · cases n2 with
      | zero => exact g2.elim
      | succ n2 =>
        replace g2 := gxO_276_127 g2
        unfold gxT_276_127 at g2
        rw [if_neg (by rw [a1, hT]; show ¬ (0 : Int) < _; omega)] at g2
        exact ⟨n2, X2, g2, rfl, fun _ _ _ _ => rfl, fun _ _ _ _ => rfl, fun _ _ => rfl, fun r hr => by omega⟩
    · obtain ⟨q1, q2, q3, q4, q5⟩ := hAB (hbT (by omega))
      obtain ⟨n3, X3, g3, b1, b2, b3, b4, b5⟩ := rx_276r (Y := X2) (s := s) (R1 := A.length) (R2 := B.length) hp hs h3 (by rw [a1]; exact q2.1) (by rw [a1]; exact q3.1) (by rw [a1, hT, q1]) ⟨q4.1, q5.1, by omega⟩ n2 0 _ X2 rfl (Nat.zero_le _) rfl (fun _ _ _ _ => rfl) (fun _ _ _ _ => rfl) (fun _ _ => rfl) (fun r hr => absurd hr (Nat.not_lt_zero _)) g2
      exact ⟨n3, X3, g3, b1, b2, b3, b4, fun r hr => b5 r (by omega)⟩
  have k3 : ∀ q, q ≠ 134 → q ≠ 135 → q ≠ 136 → X3.1 q = X.1 q := fun q z1 z2 z3 => by rw [b2 q z1 z2 z3, a1]
  have t3 : ∀ q k', (q = 134 ∨ q = 135) → k' < 240 * 49 → X3.1 q k' = X.1 q k' := fun q k' hq hk => by rw [b3 q k' hq (by omega), a1]
  have w3 : ∀ k' b, k' < 30 * 49 → b < 1024 → fx_bt (X3.1 136) (32 * k') b = fx_bt (X.1 136) (32 * k') b := fun k' b hk hb => by unfold fx_bt; rw [b4 _ (by omega), a1]
  have hcl3 : ∀ {s' : Nat} {l : List Int64}, s' < 49 → rx_cl X s' l → rx_cl X3 s' l := fun {s' l} hs' h => ⟨by rw [k3 132 (by decide) (by decide) (by decide)]; exact h.1, h.2.1, fun i n8 hi => by
    have := (List.getElem?_eq_some_iff.mp hi).1
    have := h.2.1
    rw [b1, a4, if_neg (by omega)]
    exact h.2.2 i n8 hi⟩
  have f3 : fy [] [] [133, 134, 135, 136] X X3 := ⟨by rw [b1]; exact a2, fun r k hr _ => by
    rw [b1, a3 r (fun z => hr (by rw [z]; decide))], fun r k hr _ => by
    rw [k3 r (fun z => hr (by rw [z]; decide)) (fun z => hr (by rw [z]; decide)) (fun z => hr (by rw [z]; decide))]⟩
  have hU3 := rx_U_fr hU f3 (by decide) (by decide)
  have hV3 := rx_V_fr hV f3 (by decide) (by decide)
  have hin := hG.2.2.2.1
  have hAB3 : 0 < T → rp_b P = true ∧ (X3.1 131 (s + 1)).toInt = (B.length : Int) ∧ (0 < B.length ∧ B.length ≤ 30) ∧ T = A.length * B.length ∧ B.length = B.length ∧ rx_Rw P X3 (md_m P cs.1) s A ∧ rx_Rw P X3 (md_m P cs.1) (s + 1) B ∧ md_okA cs.1.length lx.length A ∧ md_okA cs.1.length ly.length B := fun z => by
    have hb := hbT z
    obtain ⟨q1, q2, q3, q4, q5⟩ := hAB hb
    have hm : ∀ w, w < rp_W P → w / md_m P cs.1 < 1024 := fun w hw => ((rx_V_m hV hb).2.1 w hw).2
    have hpos : 0 < B.length := by
      rcases Nat.eq_zero_or_pos B.length with y | y
      · rw [q1, y, Nat.mul_zero] at z; omega
      · exact y
    exact ⟨hb, by rw [k3 131 (by decide) (by decide) (by decide)]; exact q3.1, ⟨hpos, q5.1⟩, q1, rfl, rx_Rw_sm q2 q4 hm (by omega) (k3 131 (by decide) (by decide) (by decide)) t3 w3, rx_Rw_sm q3 q5 hm (by omega) (k3 131 (by decide) (by decide) (by decide)) t3 w3, q4, q5⟩
  have hT3 : (X3.1 131 49).toInt = (T : Int) := by rw [k3 131 (by decide) (by decide) (by decide)]; exact hT
  -- 166
  have hJ0 : rx_jr P X3 (md_m P cs.1) lx.length (md_map lx ly 0) 0 B.length T A B := by
    intro r hr x y hx hy
    obtain ⟨q1, q2, q3, q4, q5⟩ := hAB (hbT (by omega))
    have ox := q4.2 x (List.mem_of_getElem? hx)
    have hm : ∀ w, w < rp_W P → w / md_m P cs.1 < 1024 := fun w hw => ((rx_V_m hV (hbT (by omega))).2.1 w hw).2
    have hr0 : rx_row P X2 (md_m P cs.1) (30 * s + r / B.length) x := by
      have := q2.2 _ x hx
      unfold rx_row rx_tm
      rw [a1]
      exact this
    obtain ⟨z1, z2⟩ := rx_row_cp hr0 (b5 r hr) (by have := ox.1.1; omega) hm
    refine ⟨fun i t hi => z1 i t ?_, fun w hw => ?_⟩
    · have : md_nw lx.length (md_map lx ly 0) (y.1.take 0) = [] := by rw [List.take_zero]; rfl
      rw [this, List.append_nil] at hi
      exact hi
    · rw [z2 w hw]
      have : md_mt (rp_v P) w x.1 (md_map lx ly 0) (y.1.take 0) = true := by rw [List.take_zero]; rfl
      rw [this, Bool.and_true]
  have e0 : md_new lx (ly.take 0) = [] := by rw [List.take_zero]; rfl
  obtain ⟨n4, X4, e, he, g4, ⟨c1, c2, c3, c4⟩, c5, c6, c7, c8⟩ := rx_276o (Y := X3) (cs := cs) (A := A) (B := B) (R2 := B.length) (T := T) ⟨by rw [k3 117 (by decide) (by decide) (by decide)]; exact hin.1, hin.2⟩ hU3 hV3 hp hs h3 (hcl3 (by omega) hlx) (hcl3 (by omega) hly) h66 hT3 hT30 hAB3 n3 n3 0 y4 _ X3 (Nat.le_refl _) rfl (Nat.zero_le _) (by rw [e0, h4]; rfl) ⟨rfl, fun _ _ => rfl, fun _ _ => rfl, fun i n8 hi => by
    rw [e0, List.append_nil] at hi
    have hil := (List.getElem?_eq_some_iff.mp hi).1
    rw [b1, a4, if_pos ⟨by omega, by omega⟩, show 392 + i - 392 = i by omega]
    exact hlx.2.2 i n8 hi⟩ (fun _ _ _ _ => rfl) (fun _ _ _ _ => rfl) (fun _ _ _ _ => rfl) hJ0 g3
  -- 405
  have k4 : ∀ q, q ≠ 134 → q ≠ 135 → q ≠ 136 → X4.1 q = X.1 q := fun q z1 z2 z3 => by rw [c5 q z1 z2 z3, k3 q z1 z2 z3]
  obtain ⟨hv, X5, u, r5, d1, d2, d3, d4⟩ := rx_276z (Y := X4) (s := s) (T := T) (R2 := B.length) hs h3 (by rw [k4 131 (by decide) (by decide) (by decide)]; exact hT) hT30 (fun z => ⟨by rw [k4 131 (by decide) (by decide) (by decide), ← k3 131 (by decide) (by decide) (by decide)]; exact (hAB3 z).2.1, (hAB3 z).2.2.1⟩) n4 n4 0 _ X4 (Nat.le_refl _) rfl (Nat.zero_le _) rfl (fun _ _ _ => rfl) (fun _ _ => rfl) (fun r' b _ _ => by rw [if_neg (Nat.not_lt_zero _)]) g4
  have e5 : ∀ q, q ≠ 136 → X5.1 q = X4.1 q := fun q hq => funext fun i => d2 q i hq
  -- the copy
  have e49 : ((Int8.ofInt 49).toInt32).toInt = ((49 : Nat) : Int) := rfl
  have z131 : (fx_wI X5 132 49 e).1 131 = X.1 131 := by rw [fx_rIn (by decide), e5 131 (by decide), k4 131 (by decide) (by decide) (by decide)]
  obtain ⟨o1, o2⟩ := rx_251 (s1 := 49) (s2 := s) e49 hp (by omega) (fun _ => by rw [z131]; omega) r5
  have hst := hG.2.2.2.2.1
  have z117 : (fx_wI X5 132 49 e).1 117 = X.1 117 := by rw [fx_rIn (by decide), e5 117 (by decide), k4 117 (by decide) (by decide) (by decide)]
  have sm : ∀ q, q ≠ 131 → q ≠ 132 → q ≠ 134 → q ≠ 135 → q ≠ 136 → X'.1 q = X.1 q := fun q z1 z2 z3 z4 z5 => by
    rw [o1.2.1 q z1 z2 z3 z4 z5, fx_rIn z2, e5 q z5, k4 q z3 z4 z5]
  have s117 := sm 117 (by decide) (by decide) (by decide) (by decide) (by decide)
  have s138 := sm 138 (by decide) (by decide) (by decide) (by decide) (by decide)
  have key : ∀ r, r ∈ [118, 120, 121, 122, 123, 124, 126, 127, 128, 129] → r < 131 := by decide
  have lng : ∀ q, q ≠ 133 → X'.2.1 q = X.2.1 q := fun q hq => by
    rw [o1.2.2.1 q hq]
    show X5.2.1 q = _
    rw [d1, c2 q hq, b1, a3 q hq]
  refine ⟨hv, ?_, ⟨fun r hr => ?_, lng 119 (by decide), lng 125 (by decide), fun r k hr hk => ?_, fun k hk => ?_, fun r k hr hk => ?_, fun k b hk hb => ?_⟩, s117, sm 140 (by decide) (by decide) (by decide) (by decide) (by decide), sm 141 (by decide) (by decide) (by decide) (by decide) (by decide), ⟨?_, ?_, fun i n8 hi => ?_⟩, fun hb => ⟨?_, fun r x' hr => ?_⟩⟩
  · unfold rx_G at hG ⊢
    rw [s117, s138]
    obtain ⟨h1, h2, h3, h4, h5, h6, h7, h8, h9⟩ := hG
    exact ⟨h1, h2, h3, h4, h5, h6, h7, rx_at_fr h8 ⟨by rw [s117], by rw [s117], by rw [s117], by rw [s117]⟩, h9⟩
  · have := key r hr
    exact sm r (by omega) (by omega) (by omega) (by omega) (by omega)
  · rw [o1.2.2.2.1 r k hr (by omega)]
    rcases hr with hr | hr
    · subst hr
      rw [z131]
    · subst hr
      rw [fx_rIk (by omega), e5 132 (by decide), k4 132 (by decide) (by decide) (by decide)]
  · rw [o1.2.2.2.2.1 k (by omega)]
    show X5.2.1 133 k = _
    rw [d1, c3 k (by omega), b1, a4, if_neg (by omega)]
  · rw [o1.2.2.2.2.2.1 r k hr (by omega), fx_rIn (by omega), e5 r (by omega), c6 r k hr (by omega), t3 r k hr (by omega)]
  · have h1 : fx_bt (X'.1 136) (32 * k) b = fx_bt (X5.1 136) (32 * k) b := by
      unfold fx_bt
      rw [o1.2.2.2.2.2.2 _ (by omega), fx_rIn (by decide)]
    have h2 : fx_bt (X5.1 136) (32 * k) b = fx_bt (X4.1 136) (32 * k) b := by
      unfold fx_bt
      rw [d3 _ (by omega)]
    rw [h1, h2, c7 k b (by omega) hb, w3 k b (by omega) hb]
  · rw [o2.2.1, fx_rIe, he, List.length_append]
  · rw [List.length_append]; exact h66
  · have hil := (List.getElem?_eq_some_iff.mp hi).1
    rw [List.length_append] at hil
    rw [o2.2.2.1 i (by omega)]
    show X5.2.1 133 (8 * 49 + i) = _
    rw [d1]
    exact c4 i n8 hi
  · rw [o2.1, z131, hT, (hAB hb).1]
    unfold md_jn
    rw [md_fm_len]
  · obtain ⟨q1, q2, q3, q4, q5⟩ := hAB hb
    unfold md_jn at hr
    have hrl := (List.getElem?_eq_some_iff.mp hr).1
    rw [md_fm_len] at hrl
    have hpos : 0 < B.length := by
      rcases Nat.eq_zero_or_pos B.length with y | y
      · rw [y, Nat.mul_zero] at hrl; omega
      · exact y
    obtain ⟨x, y, hx, hy, e'⟩ := md_fm_at hpos A r x' hr
    subst e'
    have ox := q4.2 x (List.mem_of_getElem? hx)
    have oy := q5.2 y (List.mem_of_getElem? hy)
    obtain ⟨t1, t2⟩ := c8 r (by omega) x y hx hy
    have hty : y.1.take ly.length = y.1 := List.take_of_length_le (by omega)
    rw [hty] at t1 t2
    have hm : ∀ w, w < rp_W P → w / md_m P cs.1 < 1024 := fun w hw => ((rx_V_m hV hb).2.1 w hw).2
    have hb5 := (hAB3 (by omega)).2.2.2.2.2.2.1
    have hmod : r % B.length < B.length := Nat.mod_lt _ hpos
    have hB30 := q5.1
    rw [hb, if_pos rfl] at hst
    have hcp := o2.2.2.2 (by rw [z117]; omega) r (by rw [z131]; omega)
    refine rx_row_cp (a := 30 * 49 + r) (X := fx_wI X5 132 49 e) ⟨fun i t hi => ?_, fun w hw => ?_⟩ hcp ?_ hm
    · have hi : (x.1 ++ md_nw x.1.length (md_map lx ly 0) y.1)[i]? = some t := hi
      rw [ox.2] at hi
      have := t1 i t hi
      unfold rx_tm at this ⊢
      rw [fx_rIn (by decide), fx_rIn (by decide), e5 134 (by decide), e5 135 (by decide)]
      exact this
    · rw [fx_rIn (by decide), d4 r _ (by omega) (hm w hw), t2 w hw, c7 _ _ (by omega) (hm w hw), (hb5.2 _ y hy).2 w hw]
      show _ = (x.2 w && y.2 w && md_mt (rp_v P) w x.1 (md_map lx ly 0) y.1)
      rw [Bool.and_assoc, Bool.and_comm (md_mt _ _ _ _ _), ← Bool.and_assoc]
    · show (x.1 ++ md_nw x.1.length (md_map lx ly 0) y.1).length ≤ 8
      have := md_nw_len (n := x.1.length) y.1 (md_map lx ly 0)
      have h9 := md_nwl hl6 oy.2 ly.length (Nat.le_refl _)
      rw [hty, List.take_length] at h9
      rw [List.length_append, ox.2, h9]
      omega
end DD48
