/-! THE REFERENCE: # of a query, the whole of the reckoning -/
section DD60
variable {P : md_P} {X X' X0 X1 X2 : fx_X} {n d k s h b R C M i i' c a j fd W m : Nat} {v w y3 y4 y5 y6 p1 p2 p3 p4 p5 z : Int32} {u : Unit} {F : Nat → List Int32} {ix ps : List Nat} {fo : Int} {G : List (List Int32)} {D : Nat → List Int32 → Bool} {GW : Nat → List (List Int32)} {val : md_V} {A : List md_Row} {wf : Nat → Nat} {U : md_U} {cc : md_C} {l8 : List Int64}
theorem md_line_f {w w' : Nat} : ∀ (A : List md_Row) (l : List (List Int32)), (∀ r, r ∈ A → r.2 w = r.2 w' ∧ md_vl val w r = md_vl val w' r) → (A.filter (fun r => r.2 w)).foldl (fun l r => md_ins (r.1.map (md_cv val w)) l) l = (A.filter (fun r => r.2 w')).foldl (fun l r => md_ins (r.1.map (md_cv val w')) l) l
  | [], l, _ => rfl
  | r :: A, l, h => by
    obtain ⟨h1, h2⟩ := h r List.mem_cons_self
    have ih := fun l => md_line_f A l (fun r hr => h r (List.mem_cons_of_mem _ hr))
    unfold md_vl at h2
    rw [List.filter_cons, List.filter_cons, h1]
    cases r.2 w' with
    | false =>
      rw [if_neg (by decide), if_neg (by decide)]
      exact ih l
    | true =>
      rw [if_pos rfl, if_pos rfl, List.foldl_cons, List.foldl_cons, h2]
      exact ih _
theorem md_line_eq {w w' : Nat} (h : ∀ r, r ∈ A → r.2 w = r.2 w' ∧ md_vl val w r = md_vl val w' r) : md_line val w A = md_line val w' A := md_line_f A [] h
theorem rx_fy_gq (h : rx_gq X X') : fy [(117, 58)] [] [131, 134, 135, 136, 143, 144] X X' := by
  refine ⟨by rw [h.1], fun r k _ _ => by rw [h.1], fun r k hr hk => h.2 r k (fun e z => hk (by rw [e, z]; exact List.mem_singleton.mpr rfl)) (fun z => hr (by rw [z]; decide)) (fun z => hr (by rw [z]; decide)) (fun z => absurd (show r ∈ _ by rw [z]; decide) hr) (fun z => absurd (show r ∈ _ by rcases z with z | z <;> rw [z] <;> decide) hr) (fun z => absurd (show r ∈ _ by rw [z]; decide) hr)⟩
/-- ROWS told are ROWS to be grouped -/
theorem rx_ga_Rw (hG : (X.1 117 37).toInt = (rp_h P : Int) ∧ rp_h P ≤ 1) (hV : rx_V P X U) (hb : rp_b P = true) (hs : 20 ≤ s ∧ s < 48) (hA : rx_Rw P X (md_m P U) s A) (oA : md_okA U.length C A) (hC : (X.1 132 s).toInt = (C : Int)) (hC6 : C ≤ 6) (hU8 : U.length ≤ 8) (hw : n < rp_W P) : rx_ga (rp_h P) s A.length C (n / md_m P U) (md_fv (rp_v P) n A) X := by
  have hVm := rx_V_m hV hb
  refine ⟨hG, hs, ⟨hA.1, oA.1⟩, ⟨hC, hC6⟩, (hVm.2.1 n hw).2, fun i hi => ?_⟩
  obtain ⟨x, hx⟩ : ∃ x, A[i]? = some x := ⟨A[i], List.getElem?_eq_getElem hi⟩
  obtain ⟨o1, o2⟩ := oA.2 x (List.mem_of_getElem? hx)
  have hfv : md_fv (rp_v P) n A i = md_vl (rp_v P) n x := by
    unfold md_fv
    rw [List.getD_eq_getElem?_getD, hx]; rfl
  rw [hfv]
  unfold md_vl
  refine ⟨by rw [List.length_map]; exact o2, fun c v hc => ?_⟩
  have hcl := (List.getElem?_eq_some_iff.mp hc).1
  rw [List.length_map] at hcl
  obtain ⟨r1, r2⟩ := rx_cc_cv (cs := (U, none, [], (0, 0), [], [], 0)) hV hb hw (hA.2 i x hx).1 o1 hcl hU8
  refine ⟨r2, ?_⟩
  rw [r1, List.getD_eq_getElem?_getD, List.getElem?_eq_getElem hcl]
  rw [List.getElem?_map, List.getElem?_eq_getElem hcl] at hc
  exact Option.some.inj hc
/-- WORLDS that the reference takes for one have the same ROWS -/
theorem rx_ga_ln (hG : (X.1 117 37).toInt = (rp_h P : Int) ∧ rp_h P ≤ 1) (hV : rx_V P X U) (hb : rp_b P = true) (hs : 20 ≤ s ∧ s < 48) (hA : rx_Rw P X (md_m P U) s A) (oA : md_okA U.length C A) (hC : (X.1 132 s).toInt = (C : Int)) (hC6 : C ≤ 6) (hU8 : U.length ≤ 8) (hw : n < rp_W P) (hk : k < rp_W P) (hnk : n / md_m P U = k / md_m P U) : md_line (rp_v P) n A = md_line (rp_v P) k A := by
  have g1 := rx_ga_Rw hG hV hb hs hA oA hC hC6 hU8 hw
  have g2 := rx_ga_Rw hG hV hb hs hA oA hC hC6 hU8 hk
  refine md_line_eq (fun r hr => ?_)
  obtain ⟨i, hi⟩ := List.getElem?_of_mem hr
  have hil := (List.getElem?_eq_some_iff.mp hi).1
  refine ⟨?_, ?_⟩
  · rw [← (hA.2 i r hi).2 n hw, ← (hA.2 i r hi).2 k hk, hnk]
  · have e1 : md_fv (rp_v P) n A i = md_vl (rp_v P) n r := by
      unfold md_fv
      rw [List.getD_eq_getElem?_getD, hi]; rfl
    have e2 : md_fv (rp_v P) k A i = md_vl (rp_v P) k r := by
      unfold md_fv
      rw [List.getD_eq_getElem?_getD, hi]; rfl
    rw [← e1, ← e2]
    obtain ⟨l1, q1⟩ := g1.2.2.2.2.2 i hil
    obtain ⟨l2, q2⟩ := g2.2.2.2.2.2 i hil
    refine List.ext_getElem (l1.trans l2.symm) (fun c h1 h2 => ?_)
    rw [← (q1 c _ (List.getElem?_eq_getElem h1)).2, ← (q2 c _ (List.getElem?_eq_getElem h2)).2, hnk]
/-- the groups are the model's -/
theorem rx_gi_Rw (hV : rx_V P X0 U) (hb : rp_b P = true) (hL : ∀ n, n < rp_W P → md_line (rp_v P) (n / md_m P U * md_m P U) A = md_line (rp_v P) n A) (hi : rx_gi X (ps.length + 1) G (md_Db (fun b => md_grw ps fo fd (md_line (rp_v P) (b * md_m P U) A)) (md_all U))) (hM : md_all U ≤ 1024) : rx_Rw P X (md_m P U) 49 (md_gr (rp_v P) (rp_W P) ps fo fd A) ∧ (md_grs (rp_v P) (rp_W P) ps fo fd A).length ≤ 30 := by
  have hVm := rx_V_m hV hb
  obtain ⟨⟨a1, a2⟩, a3, a4, a5, a6⟩ := hi
  have hW : ∀ b, b < md_all U → b * md_m P U < rp_W P := fun b hb => by
    rw [← hVm.2.2]
    exact Nat.mul_lt_mul_of_pos_right hb (by have := hVm.1; omega)
  have e : G = md_grs (rp_v P) (rp_W P) ps fo fd A := by
    refine md_so_ext _ _ a3 md_grs_so (fun x => ?_)
    rw [a5 x, md_grs_mem]
    constructor
    · rintro ⟨b, b1, b2⟩
      unfold md_Db at b2
      rw [Bool.and_eq_true, decide_eq_true_eq, decide_eq_true_eq] at b2
      exact ⟨b * md_m P U, hW b b2.1, b2.2⟩
    · rintro ⟨n, n1, n2⟩
      obtain ⟨q1, q2⟩ := hVm.2.1 n n1
      refine ⟨n / md_m P U, q2, ?_⟩
      unfold md_Db
      rw [Bool.and_eq_true, decide_eq_true_eq, decide_eq_true_eq]
      exact ⟨q1, by show x ∈ md_grw ps fo fd (md_line (rp_v P) (n / md_m P U * md_m P U) A); rw [hL n n1]; exact n2⟩
  subst e
  refine ⟨⟨by unfold md_gr; rw [List.length_map]; exact a1, fun r x hx => ?_⟩, a2⟩
  unfold md_gr at hx
  rw [List.getElem?_map] at hx
  cases hy : (md_grs (rp_v P) (rp_W P) ps fo fd A)[r]? with
  | none => rw [hy] at hx; cases hx
  | some y =>
    rw [hy] at hx
    have hx := Option.some.inj hx
    subst hx
    obtain ⟨r1, r2⟩ := a6 r y hy
    refine ⟨fun c t hc => ?_, fun n hn => ?_⟩
    · have hc : (y.map (fun v => (false, v)))[c]? = some t := hc
      rw [List.getElem?_map] at hc
      cases hv : y[c]? with
      | none => rw [hv] at hc; cases hc
      | some v =>
        rw [hv] at hc
        have hc := Option.some.inj hc
        subst hc
        exact ⟨by rw [(r1 c v hv).1]; rfl, (r1 c v hv).2⟩
    · obtain ⟨q1, q2⟩ := hVm.2.1 n hn
      rw [r2 _ q2]
      show md_Db _ _ _ _ = (md_grw ps fo fd (md_line (rp_v P) n A)).contains y
      unfold md_Db
      rw [decide_eq_true q1, Bool.true_and]
      show decide (y ∈ md_grw ps fo fd (md_line (rp_v P) (n / md_m P U * md_m P U) A)) = _
      rw [hL n hn, Bool.eq_iff_iff, decide_eq_true_eq, List.contains_iff_mem]
/-- the COLUMNS of what comes -/
theorem rx_265c (h1 : p1.toInt = (s : Int)) (hs : s < 48) (hp : (X0.1 117 56).toInt = (ps.length : Int) ∧ ps.length < 6) (h142 : ∀ (i c : Nat), ps[i]? = some c → (X0.1 142 i).toInt = (c : Int)) (hlt : ∀ c, c ∈ ps → c < 8) : ∀ (d k n : Nat) (y6 : Int32) (X : fx_X), k + d = ps.length → y6.toInt = (k : Int) → X.1 = X0.1 → (X.2.2 = X0.2.2 ∧ (∀ q k', (q = 133 → k' < 392) → X.2.1 q k' = X0.2.1 q k')) → (∀ i c, i < k → ps[i]? = some c → X.2.1 133 (392 + i) = X0.2.1 133 (8 * s + c)) → gxF_265 p1 p2 p3 p4 n 28 [y5, y6] [] [] X v X' → ∃ (n' : Nat) (X1 : fx_X), X1.1 = X0.1 ∧ (X1.2.2 = X0.2.2 ∧ (∀ q k', (q = 133 → k' < 392) → X1.2.1 q k' = X0.2.1 q k')) ∧ (∀ i c, ps[i]? = some c → X1.2.1 133 (392 + i) = X0.2.1 133 (8 * s + c)) ∧ X1.2.1 133 (392 + ps.length) = X0.2.1 117 33 ∧ gxF_265 p1 p2 p3 p4 n' 91 [y5, Int32.ofInt 0] [] [] X1 v X' := by
  have e392 : ((Int16.ofInt 392).toInt32).toInt = 392 := rfl
  have rd : ∀ (Y : fx_X) (q k' : Nat) (z : Int64) (j : Nat), (fx_wL Y 133 j z).2.1 q k' = if q = 133 ∧ k' = j then z else Y.2.1 q k' := fun _ _ _ _ _ => rfl
  intro d
  induction d with
  | zero =>
    intro k n y6 X hkd h6 e1 e2 e3 g
    cases n with
    | zero => exact g.elim
    | succ n =>
      replace g := gxO_265_28 g
      unfold gxT_265_28 at g
      have i1 : (((Int16.ofInt 392).toInt32) + X.1 117 56).toInt = ((392 + ps.length : Nat) : Int) := by rw [e1, fx_add (by omega) (by omega), e392, hp.1]; omega
      rw [if_neg (by rw [e1]; omega), fx_in i1] at g
      obtain ⟨-, X14, e14, g⟩ := g
      refine ⟨n, X14, by rw [e14]; exact e1, ⟨by rw [e14]; exact e2.1, fun q k' hq => ?_⟩, fun i c hi => ?_, ?_, g⟩
      · rw [e14, rd, if_neg (by rintro ⟨z1, z2⟩; have := hq z1; omega)]
        exact e2.2 q k' hq
      · have := (List.getElem?_eq_some_iff.mp hi).1
        rw [e14, rd, if_neg (by omega)]
        exact e3 i c (by omega) hi
      · rw [e14, rd, if_pos ⟨rfl, rfl⟩]
        exact e2.2 117 33 (fun z => by cases z)
  | succ d ih =>
    intro k n y6 X hkd h6 e1 e2 e3 g
    cases n with
    | zero => exact g.elim
    | succ n =>
      replace g := gxO_265_28 g
      unfold gxT_265_28 at g
      have hkl : k < ps.length := by omega
      obtain ⟨c, hc⟩ : ∃ c, ps[k]? = some c := ⟨ps[k], List.getElem?_eq_getElem hkl⟩
      have hc8 := hlt c (List.mem_of_getElem? hc)
      have v142 := h142 k c hc
      have i1 : (((Int16.ofInt 392).toInt32) + y6).toInt = ((392 + k : Nat) : Int) := by rw [fx_add (by omega) (by omega), e392, h6]; omega
      have i2 : (p1 * ((Int8.ofInt 8).toInt32) + X0.1 142 k).toInt = ((s * 8 + c : Nat) : Int) := rx_lin h1 rfl v142 (by omega)
      rw [e1, if_pos (by omega), fx_in h6, fx_in i1, fx_in i2] at g
      obtain ⟨-, -, -, X22, e22, x23, e23, g⟩ := g
      refine ih (k + 1) n x23 X22 (by omega) (by rw [e23]; exact cx_in1 h6 (by omega)) (by rw [e22]; exact e1) ⟨by rw [e22]; exact e2.1, fun q k' hq => ?_⟩ (fun i c' hi hc' => ?_) g
      · rw [e22, rd, if_neg (by rintro ⟨z1, z2⟩; have := hq z1; omega)]
        exact e2.2 q k' hq
      · by_cases z : i = k
        · subst z
          rw [hc] at hc'
          cases hc'
          rw [e22, rd, if_pos ⟨rfl, rfl⟩, show 8 * s + c = s * 8 + c by omega]
          exact e2.2 133 _ (fun _ => by omega)
        · rw [e22, rd, if_neg (by omega)]
          exact e3 i c' (by omega) hc'
end DD60
