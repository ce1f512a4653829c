/-! the law's way through feed -/
def aj_noU (h : aj_H) : Bool := h.all fun e => match e with
  | .inl _ => true
  | .inr (_, fs) => fs.all fun v => match v with
    | .retAddr _ => false
    | _ => true
theorem aj_noU_ok {h : aj_H} (hh : aj_noU h = true) (ρ : Nat → Int32) : aj_sH ρ h = h := by
  unfold aj_sH
  apply List.ext_getElem?
  intro j
  rw [List.getElem?_map]
  cases hj : h[j]? with
  | none => rfl
  | some e =>
    have h1 := List.all_eq_true.mp hh e (List.mem_of_getElem? hj)
    cases e with
    | inl a => rfl
    | inr o =>
      obtain ⟨ci, fs⟩ := o
      have h2 : fs.all (fun v => match v with | .retAddr _ => false | _ => true) = true := h1
      show some (Sum.inr (ci, fs.map (aj_sv ρ))) = some (Sum.inr (ci, fs))
      congr 3
      apply List.ext_getElem?
      intro k
      rw [List.getElem?_map]
      cases hk : fs[k]? with
      | none => rfl
      | some v =>
        have h3 := List.all_eq_true.mp h2 v (List.mem_of_getElem? hk)
        cases v <;> first | rfl | cases h3
def aj_ckF (h : aj_H) (oi ti ci kd k tk t : Nat) : Bool := match h[oi]?, h[ti]? with
  | some (.inr (c, fs)), some (.inl (kd', n, .inl _)) => decide (c = ci) && decide (fs[tk]? = some (.ref t)) && decide (fs[k]? = some (.int 0)) && decide (kd' = kd) && decide (n = 4000)
  | _, _ => false
theorem aj_ckF_ok {h : aj_H} {oi ti ci kd k tk t : Nat} (hc : aj_ckF h oi ti ci kd k tk t = true) : ∃ (fs : List Value) (f : Nat → Int32), h[oi]? = some (.inr (ci, fs)) ∧ h[ti]? = some (.inl (kd, 4000, .inl f)) ∧ fs[tk]? = some (.ref t) ∧ fs[k]? = some (.int 0) := by
  unfold aj_ckF at hc
  split at hc
  · rename_i c fs kd' n f h1 h2
    simp only [Bool.and_eq_true, decide_eq_true_eq] at hc
    obtain ⟨⟨⟨⟨rfl, h3⟩, h4⟩, rfl⟩, rfl⟩ := hc
    exact ⟨fs, f, h1, h2, h3, h4⟩
  · cases hc
set_option maxRecDepth 1000000 in
theorem aj_h0_facts : (aj_noU aj_h0 && aj_ckF aj_h0 0 1 10 3 1 0 53 && aj_ckF aj_h0 65 86 11 4 23 22 138) = true := by decide +kernel
theorem aj_hp_other {h : aj_H} {oi ti ci kd n k j : Nat} {fs : List Value} {v : Int32} {f : Nat → Int32} (h1 : oi ≠ j) (h2 : ti ≠ j) : (aj_hp h oi ti ci kd n k fs v f)[j]? = h[j]? := by
  unfold aj_hp
  rw [List.getElem?_set, if_neg h1, List.getElem?_set, if_neg h2]
theorem aj_in6 {j : Nat} (h : j < 6) : aj_in (nI j) 6 = true := aj_in_nI h (by omega)
set_option maxRecDepth 100000 in
theorem aj_way0 {xs : Nat → Int32} (hx : (xs 0 &&& 31).toInt = 0) : aj_LTF 6 xs 18 aj_lv0 [] (aj_sH (aj_rho xs) aj_h0) 98 aj_k0 := by
  have hf := aj_h0_facts
  simp only [Bool.and_eq_true] at hf
  obtain ⟨⟨f1, f2⟩, f3⟩ := hf
  rw [aj_noU_ok f1]
  obtain ⟨fs, f, a1, a2, a3, a4⟩ := aj_ckF_ok f2
  obtain ⟨fm, g, b1, b2, b3, b4⟩ := aj_ckF_ok f3
  have l1 := (List.getElem?_eq_some_iff.mp b2).1
  generalize aj_h0 = h at *
  have hk : 98 ≤ 98 ∧ aj_k0 ≤ 500000 := ⟨Nat.le_refl _, aj_k0_le⟩
  generalize aj_k0 = k0 at hk ⊢
  have hl := aj_tb_len 6 xs
  have hs0 : aj_hp h 0 1 10 3 4000 1 fs (nI 0) f = h := aj_hp_id a1 a2 (by rw [a4, nI_0])
  obtain ⟨g1, r1⟩ := aj_feed_ok (tb := aj_tb 6 xs) (h := h) 18 0 1 fs 0 f (xs 1) (xs 2) (xs 3) (xs 4) (xs 5) (by omega) (by omega) (by decide) (by rw [hl]; exact a3) (List.getElem?_eq_some_iff.mp a4).1 (by omega)
  rw [hs0, hl] at r1
  have c1 : (aj_hp h 0 1 10 3 4000 1 fs (nI (0 + 20)) g1)[65]? = some (.inr (11, fm)) := by rw [aj_hp_other (by decide) (by decide)]; exact b1
  have c2 : (aj_hp h 0 1 10 3 4000 1 fs (nI (0 + 20)) g1)[86]? = some (.inl (4, 4000, .inl g)) := by rw [aj_hp_other (by decide) (by decide)]; exact b2
  have hs1 := aj_hp_id c1 c2 (v := nI 0) (k := 23) (by rw [b4, nI_0])
  obtain ⟨g2, r2⟩ := aj_feedM_ok (tb := aj_tb 6 xs) (h := aj_hp h 0 1 10 3 4000 1 fs (nI (0 + 20)) g1) 18 65 86 fm 0 g (xs 1) (xs 2) (xs 3) (xs 4) (xs 5) (by rw [aj_hp_len]; omega) (by rw [aj_hp_len]; omega) (by decide) (by rw [hl]; exact b3) (List.getElem?_eq_some_iff.mp b4).1 (by omega)
  rw [hs1, hl] at r2
  have q1 : aj_runs aj_rc aj_cls (aj_tb 6 xs) aj_mt 20 16 (.ref 52 :: ([.int (xs 5), .int (xs 4), .int (xs 3), .int (xs 2), .int (xs 1)] : List Value).reverse) h 0 0 (some (.int (nI (0 + 20)))) (aj_hp h 0 1 10 3 4000 1 fs (nI (0 + 20)) g1) := by
    have e : ([.int (xs 5), .int (xs 4), .int (xs 3), .int (xs 2), .int (xs 1)] : List Value).reverse = [.int (xs 1), .int (xs 2), .int (xs 3), .int (xs 4), .int (xs 5)] := rfl
    rw [e]
    exact r1
  have q2 : aj_runs aj_rc aj_cls (aj_tb 6 xs) aj_mt 20 200 (.ref 117 :: ([.int (xs 5), .int (xs 4), .int (xs 3), .int (xs 2), .int (xs 1)] : List Value).reverse) (aj_hp h 0 1 10 3 4000 1 fs (nI (0 + 20)) g1) 0 0 (some (.int (nI (0 + 20)))) (aj_hp (aj_hp h 0 1 10 3 4000 1 fs (nI (0 + 20)) g1) 65 86 11 4 4000 23 fm (nI (0 + 20)) g2) := by
    have e : ([.int (xs 5), .int (xs 4), .int (xs 3), .int (xs 2), .int (xs 1)] : List Value).reverse = [.int (xs 1), .int (xs 2), .int (xs 3), .int (xs 4), .int (xs 5)] := rfl
    rw [e]
    exact r2
  have harr : ∀ h : aj_H, aj_arr (aj_tb 6 xs) h 51 = some (0, 6, .inl xs) := fun h => by
    unfold aj_arr
    rw [if_pos (aj_sid 6 xs).1]
    exact (aj_sid 6 xs).2
  have ho1 : aj_obj (aj_tb 6 xs) h 52 = some (10, fs) := by
    unfold aj_obj
    rw [hl, if_neg (by decide)]
    show (match h[0]? with | some (.inr a) => some a | _ => none) = _
    rw [a1]
  have ho2 : aj_obj (aj_tb 6 xs) (aj_hp h 0 1 10 3 4000 1 fs (nI (0 + 20)) g1) 117 = some (11, fm) := by
    unfold aj_obj
    rw [hl, if_neg (by decide)]
    show (match (aj_hp h 0 1 10 3 4000 1 fs (nI (0 + 20)) g1)[65]? with | some (.inr a) => some a | _ => none) = _
    rw [c1]
  refine ⟨aj_hp (aj_hp h 0 1 10 3 4000 1 fs (nI (0 + 20)) g1) 65 86 11 4 4000 23 fm (nI (0 + 20)) g2, ?_⟩
  refine aj_tn aj_ctL hk rfl rfl ?_
  refine aj_tn aj_ctL hk rfl rfl ?_
  refine aj_tl aj_ctL hk rfl (harr _) (by decide) ?_
  refine aj_tn aj_ctL hk rfl rfl ?_
  refine aj_tn aj_ctL hk rfl rfl ?_
  refine aj_tc (tgt := 764) aj_ctL hk rfl rfl (fun z => by exact absurd z (by decide)) (fun _ => ?_)
  refine aj_tn aj_ctL hk rfl rfl ?_
  refine aj_tn aj_ctL hk rfl rfl ?_
  refine aj_ta (kd := 0) aj_ctL hk (Or.inl ⟨rfl, rfl⟩) rfl (harr _) rfl ?_
  refine aj_tn aj_ctL hk rfl rfl ?_
  refine aj_tn aj_ctL hk rfl rfl ?_
  have hx' : ((fun x y : Int32 => x &&& y) (xs (Int32.toNatClampNeg 0)) (Int8.ofInt 31).toInt32).toInt = 0 := hx
  refine aj_tn (pc' := 128) (lv' := aj_lv0) (st' := []) (h' := h) aj_ctL hk rfl ?_ ?_
  · unfold aj_step
    dsimp only
    rw [show (xs (Int32.toNatClampNeg 0) &&& (Int8.ofInt 31).toInt32).toInt = 0 from hx, if_neg (by decide)]
    rfl
  refine aj_tn aj_ctL hk rfl rfl ?_
  refine aj_tn aj_ctL hk rfl rfl ?_
  refine aj_tn aj_ctL hk rfl rfl ?_
  refine aj_tn aj_ctL hk rfl rfl ?_
  refine aj_tn aj_ctL hk rfl rfl ?_
  refine aj_ta (kd := 0) aj_ctL hk (Or.inl ⟨rfl, rfl⟩) rfl (harr _) rfl ?_
  refine aj_tn aj_ctL hk rfl rfl ?_
  refine aj_tn aj_ctL hk rfl rfl ?_
  refine aj_tn aj_ctL hk rfl rfl ?_
  refine aj_tn aj_ctL hk rfl rfl ?_
  refine aj_ta (kd := 0) aj_ctL hk (Or.inl ⟨rfl, rfl⟩) rfl (harr _) rfl ?_
  refine aj_tn aj_ctL hk rfl rfl ?_
  refine aj_tn aj_ctL hk rfl rfl ?_
  refine aj_tn aj_ctL hk rfl rfl ?_
  refine aj_tn aj_ctL hk rfl rfl ?_
  refine aj_ta (kd := 0) aj_ctL hk (Or.inl ⟨rfl, rfl⟩) rfl (harr _) rfl ?_
  refine aj_tn aj_ctL hk rfl rfl ?_
  refine aj_tn aj_ctL hk rfl rfl ?_
  refine aj_tn aj_ctL hk rfl rfl ?_
  refine aj_tn aj_ctL hk rfl rfl ?_
  refine aj_ta (kd := 0) aj_ctL hk (Or.inl ⟨rfl, rfl⟩) rfl (harr _) rfl ?_
  refine aj_tn aj_ctL hk rfl rfl ?_
  refine aj_tn aj_ctL hk rfl rfl ?_
  refine aj_tn aj_ctL hk rfl rfl ?_
  refine aj_tn aj_ctL hk rfl rfl ?_
  refine aj_ta (kd := 0) aj_ctL hk (Or.inl ⟨rfl, rfl⟩) rfl (harr _) rfl ?_
  refine aj_tiv (call := aj_runs aj_rc aj_cls (aj_tb 6 xs) aj_mt 20) (mi := 16) (mc' := 0) (ms' := 0) (r' := some (.int (nI (0 + 20)))) (kc := 98) (ks := k0) (mc := 98) (ms := 500000) aj_ctL rfl rfl [.int (xs 5), .int (xs 4), .int (xs 3), .int (xs 2), .int (xs 1)] rfl rfl ho1 rfl (by decide) rfl q1 ?_ ?_ ?_
  · simp [aj_hp_len]
  · exact hk
  refine aj_tn aj_ctL hk rfl rfl ?_
  refine aj_tn aj_ctL hk rfl rfl ?_
  refine aj_tn aj_ctL hk rfl rfl ?_
  refine aj_tn aj_ctL hk rfl rfl ?_
  refine aj_tn aj_ctL hk rfl rfl ?_
  refine aj_ta (kd := 0) aj_ctL hk (Or.inl ⟨rfl, rfl⟩) rfl (harr _) rfl ?_
  refine aj_tn aj_ctL hk rfl rfl ?_
  refine aj_tn aj_ctL hk rfl rfl ?_
  refine aj_tn aj_ctL hk rfl rfl ?_
  refine aj_tn aj_ctL hk rfl rfl ?_
  refine aj_ta (kd := 0) aj_ctL hk (Or.inl ⟨rfl, rfl⟩) rfl (harr _) rfl ?_
  refine aj_tn aj_ctL hk rfl rfl ?_
  refine aj_tn aj_ctL hk rfl rfl ?_
  refine aj_tn aj_ctL hk rfl rfl ?_
  refine aj_tn aj_ctL hk rfl rfl ?_
  refine aj_ta (kd := 0) aj_ctL hk (Or.inl ⟨rfl, rfl⟩) rfl (harr _) rfl ?_
  refine aj_tn aj_ctL hk rfl rfl ?_
  refine aj_tn aj_ctL hk rfl rfl ?_
  refine aj_tn aj_ctL hk rfl rfl ?_
  refine aj_tn aj_ctL hk rfl rfl ?_
  refine aj_ta (kd := 0) aj_ctL hk (Or.inl ⟨rfl, rfl⟩) rfl (harr _) rfl ?_
  refine aj_tn aj_ctL hk rfl rfl ?_
  refine aj_tn aj_ctL hk rfl rfl ?_
  refine aj_tn aj_ctL hk rfl rfl ?_
  refine aj_tn aj_ctL hk rfl rfl ?_
  refine aj_ta (kd := 0) aj_ctL hk (Or.inl ⟨rfl, rfl⟩) rfl (harr _) rfl ?_
  refine aj_tiv (call := aj_runs aj_rc aj_cls (aj_tb 6 xs) aj_mt 20) (mi := 200) (mc' := 0) (ms' := 0) (r' := some (.int (nI (0 + 20)))) (kc := 98) (ks := k0) (mc := 98) (ms := 500000) aj_ctL rfl rfl [.int (xs 5), .int (xs 4), .int (xs 3), .int (xs 2), .int (xs 1)] rfl rfl ho2 rfl (by decide) rfl q2 ?_ ?_ ?_
  · simp [aj_hp_len]
  · exact hk
  refine aj_tc (tgt := 758) aj_ctL hk rfl rfl (fun _ => ?_) (fun z => by exact absurd z (by decide))
  refine aj_tn aj_ctL hk rfl rfl ?_
  refine aj_tn aj_ctL hk rfl rfl ?_
  refine aj_tn aj_ctL hk rfl rfl ?_
  refine aj_tn aj_ctL hk rfl rfl ?_
  refine aj_tl aj_ctL hk rfl (harr _) (by decide) ?_
  refine aj_tn aj_ctL hk rfl rfl ?_
  refine aj_tn aj_ctL hk rfl rfl ?_
  refine aj_tc (tgt := 764) aj_ctL hk rfl rfl (fun _ => ?_) (fun z => by exact absurd z (by decide))
  refine aj_tn aj_ctL hk rfl rfl ?_
  exact aj_te aj_ctL rfl rfl
