/-! THE LAW UP TO ITS LOOP (rows of p1, parts 19, 23, 25, turned) -/
def aj_lawM : aj_M := (x, code, 4, some .boolean, 1, aj_lk15, "DimShelfLaw")
def aj_tb0 : aj_T := aj_tbS ++ [(7, 0, .inl (fun _ => 0))]
def aj_f44 : Nat → Int32 := match (aj_tbS[44]? : Option (Nat × vp_A)) with
  | some (_, _, Sum.inl f) => f
  | _ => fun _ => 0
theorem aj_at44 : aj_tbS[44]? = some (0, 1, .inl aj_f44) := rfl
def aj_call0 : Nat → List Value → aj_H → List Int → Option aj_Y := aj_runsS [] 44 1 aj_rc aj_cls aj_tb0 aj_mt aj_cuA 30
/-- the law up to its loop -/
def aj_s0 : Option (aj_V × List Value × aj_H × Nat × Nat) := aj_frmT [] 44 1 aj_rc aj_cls aj_tb0 aj_lawM aj_cL false true aj_call0 18 100000 0 [(0, .ref 51)] [] [] 0 0
def aj_h0 : aj_H := match aj_s0 with
  | some q => q.2.2.1
  | none => []
set_option maxRecDepth 1000000 in
theorem aj_s0_a : aj_s0.map (fun q => (q.1, q.2.1, q.2.2.2.1)) = some ([(3, .int 0), (2, .ref 117), (1, .ref 52), (0, .ref 51)], [], 98) := by decide +kernel
def aj_k0 : Nat := match aj_s0 with
  | some q => q.2.2.2.2
  | none => 0
def aj_lv0 : aj_V := [(3, .int 0), (2, .ref 117), (1, .ref 52), (0, .ref 51)]
theorem aj_s0_e : aj_s0 = some (aj_lv0, [], aj_h0, 98, aj_k0) := by
  have h := aj_s0_a
  unfold aj_h0 aj_k0
  cases hs : aj_s0 with
  | none => rw [hs] at h; cases h
  | some q =>
    obtain ⟨q1, q2, q3, q4, q5⟩ := q
    rw [hs] at h
    simp only [Option.map_some, Option.some.injEq, Prod.mk.injEq] at h
    obtain ⟨rfl, rfl, rfl⟩ := h
    rfl
def aj_rho (xs : Nat → Int32) : Nat → Int32 := fun j => if j < 100 then xs j else xs (j - 100) &&& 31
theorem aj_rho_ok (xs : Nat → Int32) : (∀ j, j < 100 → aj_rho xs j = xs j) ∧ ∀ j, j < 100 → aj_rho xs (j + 100) = aj_rho xs j &&& 31 := ⟨fun j h => if_pos h, fun j h => by unfold aj_rho; rw [if_neg (by omega), if_pos h, Nat.add_sub_cancel]⟩
theorem aj_sT_0 (L : Nat) (xs : Nat → Int32) : aj_sT aj_tb0 (cw_tb L xs) := by
  refine ⟨by unfold cw_tb aj_tb0; rw [List.length_append, List.length_append]; rfl, fun r k x hr hk => ?_⟩
  unfold aj_tb0 at hr
  unfold cw_tb
  by_cases h : r < aj_tbS.length
  · rw [List.getElem?_append_left h] at hr ⊢
    exact hr
  · rw [List.getElem?_append_right (by omega)] at hr
    cases hz : r - aj_tbS.length with
    | zero =>
      rw [hz] at hr
      cases hr
      exact absurd rfl hk
    | succ n =>
      rw [hz] at hr
      cases hr
theorem aj_sid0 (L : Nat) (xs : Nat → Int32) : 44 < (cw_tb L xs).length ∧ (cw_tb L xs)[44]? = some (0, 1, .inl aj_f44) := by
  have hl : aj_tbS.length = 51 := cw_tbS51
  unfold cw_tb
  refine ⟨by rw [List.length_append, hl]; exact Nat.lt_of_lt_of_le (by decide : 44 < 51) (Nat.le_add_right _ _), ?_⟩
  rw [List.getElem?_append_left (by rw [hl]; decide)]
  exact aj_at44
theorem aj_ctL : aj_ctOK aj_cL aj_lawM.2.1 := by
  unfold aj_lawM
  dsimp only
  exact aj_dkL
theorem aj_calls0 {xs : Nat → Int32} {L : Nat} (mi : Nat) (as : List Value) (h : aj_H) (tp : List Int) (r : Option Value) (h' : aj_H) (c1 s1 : Nat) (t1 : List Int) (os : List aj_OS) (hx : aj_call0 mi as h tp = some (r, h', c1, s1, t1, os)) (ho : ∀ o ∈ os, aj_osOK (aj_rho aj_f44) o) : aj_runs aj_rc aj_cls (cw_tb L xs) aj_mt 30 mi (as.map (aj_sv (aj_rho aj_f44))) (aj_sH (aj_rho aj_f44) h) c1 s1 (r.map (aj_sv (aj_rho aj_f44))) (aj_sH (aj_rho aj_f44) h') :=
  aj_runsS_ok (kn := []) (fun q h => absurd h List.not_mem_nil) (aj_sT_0 L xs) (aj_sid0 L xs) (by decide) (aj_rho_ok aj_f44) aj_cuA_ok 30 mi as h tp r h' c1 s1 t1 os hx ho
set_option maxRecDepth 1000000 in
theorem aj_k0_le : aj_k0 ≤ 500000 := by
  have h : decide (aj_k0 ≤ 500000) = true := by decide +kernel
  exact of_decide_eq_true h
def aj_noU (h : aj_H) : Bool := h.all fun e => match e with
  | .inl _ => true
  | .inr (_, fs) => fs.all fun v => match v with
    | .retAddr _ => false
    | _ => true
theorem aj_noU_ok {h : aj_H} (hh : aj_noU h = true) (ρ : Nat → Int32) : aj_sH ρ h = h := by
  unfold aj_sH
  apply List.ext_getElem?
  intro j
  rw [List.getElem?_map]
  cases hj : h[j]? with
  | none => rfl
  | some e =>
    have h1 := List.all_eq_true.mp hh e (List.mem_of_getElem? hj)
    cases e with
    | inl a => rfl
    | inr o =>
      obtain ⟨ci, fs⟩ := o
      have h2 : fs.all (fun v => match v with | .retAddr _ => false | _ => true) = true := h1
      show some (Sum.inr (ci, fs.map (aj_sv ρ))) = some (Sum.inr (ci, fs))
      congr 3
      apply List.ext_getElem?
      intro k
      rw [List.getElem?_map]
      cases hk : fs[k]? with
      | none => rfl
      | some v =>
        have h3 := List.all_eq_true.mp h2 v (List.mem_of_getElem? hk)
        cases v <;> first | rfl | cases h3
set_option maxRecDepth 1000000 in
theorem aj_h0_n : aj_noU aj_h0 = true := by decide +kernel
/-- the law's frame goes on to 1 -/
def lw_TF (L : Nat) (xs : Nat → Int32) (pc : Nat) (lv : aj_V) (st : List Value) (h : aj_H) (kc ks : Nat) : Prop := ∃ mc hF, (kc ≤ mc ∧ ks ≤ 2000000) ∧ 98 ≤ mc ∧ mc ≤ 278 ∧ aj_TF aj_rc aj_cls (cw_tb L xs) aj_lawM false true (aj_runs aj_rc aj_cls (cw_tb L xs) aj_mt 30) pc lv st h kc ks mc 2000000 (some (.int 1)) hF
theorem lw_enter {L : Nat} {xs : Nat → Int32} (k : lw_TF L xs 18 aj_lv0 [] aj_h0 98 aj_k0) : lw_TF L xs 0 [(0, .ref 51)] [] [] 0 0 := by
  obtain ⟨mc, hF, -, m1, m2, n, hn⟩ := k
  have hs := aj_s0_e
  unfold aj_s0 at hs
  have e := aj_noU_ok aj_h0_n (aj_rho aj_f44)
  obtain ⟨-, -, g⟩ := aj_frmT_ok (kn := []) (xs := aj_f44) (ρ := aj_rho aj_f44) (fun q h => absurd h List.not_mem_nil) (aj_sT_0 L xs) (aj_sid0 L xs) (by decide) (aj_rho_ok aj_f44) (m := aj_lawM) aj_ctL (callP := aj_runs aj_rc aj_cls (cw_tb L xs) aj_mt 30) aj_calls0 (mc := mc) (ms := 2000000) (r := some (.int 1)) (hF := hF) _ _ _ _ _ _ _ _ _ _ _ _ hs m1 (Nat.le_trans aj_k0_le (by decide)) ⟨n, by rw [e]; exact hn⟩
  exact ⟨mc, hF, ⟨Nat.zero_le _, Nat.zero_le _⟩, m1, m2, g⟩
/-! what holds there -/
def aj_ckb (n : Nat) (p : Nat → Bool) : Nat → Nat → Bool
  | 0, a => decide (n ≤ a) || p a
  | k + 1, a => decide (n ≤ a) || (aj_ckb n p k a && aj_ckb n p k (a + 2 ^ k))
theorem aj_ckb_ok {n : Nat} {p : Nat → Bool} : ∀ k a, aj_ckb n p k a = true → ∀ j, a ≤ j → j < a + 2 ^ k → j < n → p j = true := by
  intro k
  induction k with
  | zero =>
    intro a h0 j h1 h2 h3
    have : j = a := by omega
    subst this
    unfold aj_ckb at h0
    rw [decide_eq_false (by omega), Bool.false_or] at h0
    exact h0
  | succ k ih =>
    intro a h0 j h1 h2 h3
    unfold aj_ckb at h0
    rw [decide_eq_false (by omega), Bool.false_or, Bool.and_eq_true] at h0
    rw [Nat.pow_succ] at h2
    by_cases c : j < a + 2 ^ k
    · exact ih a h0.1 j h1 c h3
    · exact ih (a + 2 ^ k) h0.2 j (by omega) (by omega) h3
def lw_gf (a : ak_A) : Bool := match a with
  | .inl q => decide (q.1 = -2147483648) && decide (q.2 = 2147483647)
  | _ => false
def lw_xg (s : List Nat) (kd n : Nat) (x : cw_X) (a : ak_A) : Bool := match x with
  | .inl f => decide (kd ≠ 1) && (decide (kd < 5) && (decide (n ≤ 131072) && (lw_gf a || aj_ckb n (fun j => cw_gb s a (.int (f j))) 17 0)))
  | .inr (.inl _) => decide (kd = 1) && (match a with
    | .inr none => true
    | _ => false)
  | .inr (.inr (.inr (.inr f))) => decide (kd = 5) && (decide (n ≤ 131072) && aj_ckb n (fun j => cw_gb s a (va_rf (f j))) 17 0)
  | _ => false
theorem lw_xg_ok {s : List Nat} {kd n : Nat} {x : cw_X} {a : ak_A} (h0 : lw_xg s kd n x a = true) : ak_xOK s kd n x a := by
  unfold lw_xg at h0
  unfold ak_xOK
  split at h0
  · rw [Bool.and_eq_true, Bool.and_eq_true, Bool.and_eq_true, Bool.or_eq_true] at h0
    obtain ⟨c1, c2, c3, c4⟩ := h0
    have c3 := of_decide_eq_true c3
    refine ⟨of_decide_eq_true c1, of_decide_eq_true c2, fun j hj => ?_⟩
    rcases c4 with c4 | c4
    · unfold lw_gf at c4
      split at c4
      · rename_i q
        rw [Bool.and_eq_true] at c4
        obtain ⟨q1, q2⟩ := q
        have e1 : q1 = -2147483648 := of_decide_eq_true c4.1
        have e2 : q2 = 2147483647 := of_decide_eq_true c4.2
        subst e1 e2
        exact cw_full _
      · cases c4
    · exact cw_gb_ok (aj_ckb_ok 17 0 c4 j (Nat.zero_le _) (by omega) hj)
  · rw [Bool.and_eq_true] at h0
    obtain ⟨c1, h0⟩ := h0
    split at h0
    · exact ⟨of_decide_eq_true c1, rfl⟩
    · cases h0
  · rw [Bool.and_eq_true, Bool.and_eq_true] at h0
    obtain ⟨c1, c3, c4⟩ := h0
    have c3 := of_decide_eq_true c3
    exact ⟨of_decide_eq_true c1, fun j hj => cw_gb_ok (aj_ckb_ok 17 0 c4 j (Nat.zero_le _) (by omega) hj)⟩
  · cases h0
def lw_cb (T : ak_TT) (s : List Nat) (t : Nat) (e : aj_E) : Bool := match T.1[t]? with
  | some (.inl _) => cw_cb T s t e
  | some (.inr (kd, n1, n2, a)) => (match e with
    | .inl (kd', n, x) => decide (kd' = kd) && (decide (n1 ≤ n) && (decide (n ≤ n2) && lw_xg s kd n x a))
    | _ => false)
  | none => false
theorem lw_cb_ok {T : ak_TT} {s : List Nat} {t : Nat} {e : aj_E} (h0 : lw_cb T s t e = true) : ak_cOK T s t e := by
  unfold lw_cb at h0
  cases hq : T.1[t]? with
  | none =>
    rw [hq] at h0
    cases h0
  | some z =>
    rw [hq] at h0
    cases z with
    | inl c => exact cw_cb_ok h0
    | inr q =>
      obtain ⟨kd, n1, n2, a⟩ := q
      dsimp only at h0
      split at h0
      · rename_i kd' n x
        rw [Bool.and_eq_true, Bool.and_eq_true, Bool.and_eq_true] at h0
        obtain ⟨c1, c2, c3, h0⟩ := h0
        obtain rfl := of_decide_eq_true c1
        unfold ak_cOK
        rw [hq]
        exact ⟨n, x, rfl, of_decide_eq_true c2, of_decide_eq_true c3, lw_xg_ok h0⟩
      · cases h0
def lw_tyb (T : ak_TT) (s : List Nat) (h : aj_H) : Bool := decide (h.length = s.length) && (s.zip h).all (fun q => decide (52 ≤ q.1) && lw_cb T s q.1 q.2)
theorem lw_tyb_ok {T : ak_TT} {s : List Nat} {h : aj_H} (h0 : lw_tyb T s h = true) : ak_Ty T s h := by
  unfold lw_tyb at h0
  rw [Bool.and_eq_true] at h0
  have hl : h.length = s.length := of_decide_eq_true h0.1
  refine ⟨hl, fun i t hs => ?_⟩
  have hi := (List.getElem?_eq_some_iff.mp hs).1
  have he : h[i]? = some (h[i]'(by omega)) := List.getElem?_eq_getElem _
  have h1 := List.all_eq_true.mp h0.2 _ (List.mem_of_getElem? (List.getElem?_zip_eq_some (z := (t, h[i]'(by omega))).mpr ⟨hs, he⟩))
  rw [Bool.and_eq_true] at h1
  exact ⟨of_decide_eq_true h1.1, _, he, lw_cb_ok h1.2⟩
set_option maxRecDepth 1000000 in
theorem lw_h0_T : ak_Ty ak_C0 ak_s0 aj_h0 := lw_tyb_ok (by decide +kernel)
def lw_qa (h : aj_H) (i kd n : Nat) (P : cw_X → Bool) : Bool := match h[i]? with
  | some (.inl (k, m, x)) => decide (k = kd) && (decide (m = n) && P x)
  | _ => false
theorem lw_qa_ok {h : aj_H} {i kd n : Nat} {P : cw_X → Bool} (h0 : lw_qa h i kd n P = true) : ∃ x, cw_A h i kd n x ∧ P x = true := by
  unfold lw_qa at h0
  split at h0
  · rename_i k m x e
    rw [Bool.and_eq_true, Bool.and_eq_true] at h0
    obtain ⟨c1, c2, c3⟩ := h0
    obtain rfl := of_decide_eq_true c1
    obtain rfl := of_decide_eq_true c2
    exact ⟨x, e, c3⟩
  · cases h0
def lw_qf (h : aj_H) (i c k : Nat) (v : Value) : Bool := match h[i]? with
  | some (.inr (c', fs)) => decide (c' = c) && decide (fs[k]? = some v)
  | _ => false
theorem lw_qf_ok {h : aj_H} {i c k : Nat} {v : Value} (h0 : lw_qf h i c k v = true) : cw_F h i c k v := by
  unfold lw_qf at h0
  split at h0
  · rename_i c' fs e
    rw [Bool.and_eq_true] at h0
    obtain ⟨c1, c2⟩ := h0
    obtain rfl := of_decide_eq_true c1
    exact ⟨fs, e, of_decide_eq_true c2⟩
  · cases h0
def lw_pr (x : cw_X) : Bool := match x with
  | .inr (.inr (.inr (.inr _))) => true
  | _ => false
def lw_pi (x : cw_X) : Bool := match x with
  | .inl _ => true
  | _ => false
def lw_pn (n : Nat) (x : cw_X) : Bool := match x with
  | .inr (.inr (.inr (.inr f))) => aj_ckb n (fun j => (f j).isNone) 17 0
  | _ => false
def lw_pl (n : Nat) (x : cw_X) : Bool := match x with
  | .inr (.inl f) => aj_ckb n (fun j => decide (f j = 0)) 17 0
  | _ => false
def lw_pz (n : Nat) (x : cw_X) : Bool := match x with
  | .inl f => aj_ckb n (fun j => decide (f j = 0)) 17 0
  | _ => false
def lw_v1 (v0 : Int32) (x : cw_X) : Bool := match x with
  | .inl f => decide (f 0 = v0)
  | _ => false
section CWA36
variable {h : aj_H} {f29 : Nat → Int64} {f10 f22 f49 : Nat → Option Nat} {f : Nat → Int32} {xa xb : cw_X}
theorem cw_I_1 (hT : ak_Ty ak_C0 ak_s0 h) (a29 : cw_A h 29 1 1002 (.inr (.inl f29))) (b29 : ∀ j, j < 1002 → f29 j = 0) (a10 : cw_A h 10 5 10 (cw_q f10)) (a22 : cw_A h 22 5 10 (cw_q f22)) (a49 : cw_A h 49 5 20 (cw_q f49)) (b49 : ∀ j, j < 20 → f49 j = none) (f95 : cw_F h 43 9 5 (.ref (52 + 50))) (a31 : cw_A h 31 0 2500 (.inl f)) (f44 : cw_F h 30 4 4 (.int 0)) (f64 : cw_F h 50 6 4 (.int 0)) (f63 : cw_F h 50 6 3 (.int 0)) (f25 : cw_F h 55 2 5 (.ref (52 + 56))) (f26 : cw_F h 55 2 6 (.ref (52 + 57))) (o56 : (cw_o h).2 56 = some (0, 64, xa)) (o57 : (cw_o h).2 57 = some (0, 64, xb)) : cw_I cw_XB ak_s0 h := by
  refine ⟨⟨[], (List.append_nil _).symm, fun _ z => nomatch z⟩, ⟨_, (cw_oa_A (by decide)).mpr a29, fun j hj => by rw [b29 j hj]; exact ⟨(by decide : 0 ≤ (0 : Int64).toInt32.toInt), (by decide : (0 : Int64).toInt32.toInt ≤ 2139095039)⟩⟩, ⟨f49, 52 + 50, (cw_oa_A (by decide)).mpr a49, (cw_fo_F (by decide)).mpr f95, (fun l l' r hl _ z _ => by rw [b49 l hl] at z; cases z), (fun l r hl z => by rw [b49 l hl] at z; cases z)⟩, fun _ => ⟨f, 0, (cw_oa_A (by decide)).mpr a31, (cw_fo_F (by decide)).mpr f44, ?_⟩, ?_, ?_⟩
  · show (some 0 : Option Nat) ≠ none
    exact fun z => by cases z
  · intro i hi g hg
    rcases hi with rfl | hi
    · obtain ⟨g1, z1, z2⟩ := (cw_fo_F (h := h) (by decide)).mpr f64
      obtain ⟨g2, z3, z4⟩ := (cw_fo_F (h := h) (by decide)).mpr f63
      rw [hg] at z1 z3
      cases z1
      cases z3
      exact ⟨0, 0, z2, z4, by decide, by decide⟩
    · have := cw_ob_lt hg
      rw [hT.1, cw_s98] at this
      omega
  · exact ⟨[], f10, f22, f49, 56, 57, 0, xa, xb, (List.append_nil _).symm, (cw_oa_A (by decide)).mpr a10, (cw_oa_A (by decide)).mpr a22, (cw_oa_A (by decide)).mpr a49, (cw_fo_F (by decide)).mpr f25, (cw_fo_F (by decide)).mpr f26, ⟨Or.inl rfl, Or.inr (Or.inl rfl)⟩, ⟨o56, o57⟩, Nat.zero_le _, Nat.zero_le _⟩
theorem cw_oa_ex {i kd n : Nat} {x : cw_X} (h0 : cw_A h i kd n x) : ∃ x', (cw_o h).2 i = some (kd, n, x') := by
  have h0 : h[i]? = some (.inl (kd, n, x)) := h0
  show ∃ x', cw_oa h i = some (kd, n, x')
  unfold cw_oa
  rw [h0]
  exact ⟨_, rfl⟩
end CWA36
set_option maxRecDepth 1000000 in
theorem lw_h0_c : (lw_qa aj_h0 29 1 1002 (lw_pl 1002) && lw_qa aj_h0 10 5 10 lw_pr && lw_qa aj_h0 22 5 10 lw_pr && lw_qa aj_h0 49 5 20 (lw_pn 20) && lw_qf aj_h0 43 9 5 (.ref 102) && lw_qa aj_h0 31 0 2500 lw_pi && lw_qf aj_h0 30 4 4 (.int 0) && lw_qf aj_h0 50 6 4 (.int 0) && lw_qf aj_h0 50 6 3 (.int 0) && lw_qf aj_h0 55 2 5 (.ref 108) && lw_qf aj_h0 55 2 6 (.ref 109) && lw_qa aj_h0 56 0 64 (fun _ => true) && lw_qa aj_h0 57 0 64 (fun _ => true) && lw_qf aj_h0 0 10 1 (.int 0)) = true := by decide +kernel
def lw_ckr (h : aj_H) : Bool := lw_qf h 65 11 0 (.int 0) && lw_qf h 65 11 23 (.int 0) && lw_qa h 70 0 2 (lw_v1 1) && lw_qa h 75 0 2 (lw_v1 0) && lw_qa h 76 0 2 (lw_v1 0) && lw_qa h 82 4 12000 (lw_pz 12000)
set_option maxRecDepth 1000000 in
theorem lw_h0_r : lw_ckr aj_h0 = true := by decide +kernel
theorem lw_h0_I : cw_I cw_XB ak_s0 aj_h0 ∧ cw_F aj_h0 0 10 1 (.int 0) := by
  have h0 := lw_h0_c
  simp only [Bool.and_eq_true] at h0
  obtain ⟨⟨⟨⟨⟨⟨⟨⟨⟨⟨⟨⟨⟨h1, h2⟩, h3⟩, h4⟩, h5⟩, h6⟩, h7⟩, h8⟩, h9⟩, h10⟩, h11⟩, h12⟩, h13⟩, h14⟩ := h0
  obtain ⟨x1, a1, b1⟩ := lw_qa_ok h1
  obtain ⟨x2, a2, b2⟩ := lw_qa_ok h2
  obtain ⟨x3, a3, b3⟩ := lw_qa_ok h3
  obtain ⟨x4, a4, b4⟩ := lw_qa_ok h4
  obtain ⟨x6, a6, b6⟩ := lw_qa_ok h6
  obtain ⟨x12, a12, -⟩ := lw_qa_ok h12
  obtain ⟨x13, a13, -⟩ := lw_qa_ok h13
  obtain ⟨xa, oa⟩ := cw_oa_ex a12
  obtain ⟨xb, ob⟩ := cw_oa_ex a13
  refine ⟨?_, lw_qf_ok h14⟩
  unfold lw_pl at b1
  split at b1
  · unfold lw_pr at b2 b3
    split at b2
    · split at b3
      · unfold lw_pn at b4
        split at b4
        · unfold lw_pi at b6
          split at b6
          · exact cw_I_1 lw_h0_T a1 (fun j hj => of_decide_eq_true (aj_ckb_ok 17 0 b1 j (Nat.zero_le _) (by omega) hj)) a2 a3 a4 (fun j hj => Option.isNone_iff_eq_none.mp (aj_ckb_ok 17 0 b4 j (Nat.zero_le _) (by omega) hj)) (lw_qf_ok h5) a6 (lw_qf_ok h7) (lw_qf_ok h8) (lw_qf_ok h9) (lw_qf_ok h10) (lw_qf_ok h11) oa ob
          · cases b6
        · cases b4
      · cases b3
    · cases b2
  · cases b1
theorem lw_xa {h : aj_H} {k kd n : Nat} {f : Nat → Int32} (h0 : cw_A h (65 + k) kd n (.inl f)) : aw_xa h k = f := by
  have h0 : h[65 + k]? = some (.inl (kd, n, .inl f)) := h0
  unfold aw_xa
  rw [h0]
theorem lw_xf {h : aj_H} {k : Nat} {v : Int32} (h0 : cw_F h 65 11 k (.int v)) : aw_xf h k = v := by
  obtain ⟨fs, e1, e2⟩ := h0
  unfold aw_xf
  rw [e1]
  show (match fs[k]? with
    | some (.int x) => x
    | _ => 0) = v
  rw [e2]
theorem lw_h_B {h : aj_H} (h0 : lw_ckr h = true) : aw_B (aw_xS h) ∧ aw_xf h 23 = 0 := by
  unfold lw_ckr at h0
  simp only [Bool.and_eq_true] at h0
  obtain ⟨⟨⟨⟨⟨h1, h2⟩, h3⟩, h4⟩, h5⟩, h6⟩ := h0
  obtain ⟨x3, a3, b3⟩ := lw_qa_ok h3
  obtain ⟨x4, a4, b4⟩ := lw_qa_ok h4
  obtain ⟨x5, a5, b5⟩ := lw_qa_ok h5
  obtain ⟨x6, a6, b6⟩ := lw_qa_ok h6
  refine ⟨?_, lw_xf (lw_qf_ok h2)⟩
  have e0 : aw_hh (aw_xS h) = 0 := by
    unfold aw_hh
    show (aw_xf h 0).toInt.toNat = 0
    rw [lw_xf (lw_qf_ok h1)]
    rfl
  unfold lw_v1 at b3 b4 b5
  unfold lw_pz at b6
  split at b3
  · split at b4
    · split at b5
      · split at b6
        · rename_i f3 f4 f5 f6
          have c3 : (aw_xS h).2.2.1 5 0 = 1 := (congrFun (lw_xa (k := 5) a3) 0).trans (of_decide_eq_true b3)
          have c4 : (aw_xS h).2.2.1 10 0 = 0 := (congrFun (lw_xa (k := 10) a4) 0).trans (of_decide_eq_true b4)
          have c5 : (aw_xS h).2.2.1 11 0 = 0 := (congrFun (lw_xa (k := 11) a5) 0).trans (of_decide_eq_true b5)
          refine ⟨fun k hk z => ?_, ?_, ?_, ?_⟩
          · have e := (congrFun (lw_xa (k := 17) a6) k).trans (of_decide_eq_true (aj_ckb_ok 17 0 b6 k (Nat.zero_le _) (by omega) hk))
            have e : (aw_xS h).2.2.1 17 k = 0 := e
            rw [e] at z
            exact absurd z (by decide)
          · rw [e0]
            refine ⟨0, by rw [c3]; decide, fun p hp => ?_⟩
            rw [c4] at hp
            exact absurd hp (by
              show ¬ ((p : Int) < 0)
              omega)
          · rw [e0, c4, c5]; decide
          · rw [e0, c4, c5]; decide
        · cases b6
      · cases b5
    · cases b4
  · cases b3
theorem lw_h0_B : aw_B (aw_xS aj_h0) ∧ aw_xf aj_h0 23 = 0 := lw_h_B lw_h0_r
