/-! NEW ROWS: made by hand -/
section AJMK
variable {rc : Nat} {cls : List aj_C} {tb : aj_T} {m : aj_M} {isI deep : Bool} {call : Nat → List Value → aj_H → Nat → Nat → Option Value → aj_H → Prop} {pc : Nat} {lv : aj_V} {st : List Value} {h : aj_H} {kc ks mc ms : Nat} {r : Option Value} {hF : aj_H} {ct : List (Nat × Instr × Nat)}
theorem aj_tm (hct : aj_ctOK ct m.2.1) {dc ds : Nat} (hk : kc + dc ≤ mc ∧ ks + ds ≤ ms) {i : Instr} {len : Nat} (hd : aj_ct ct pc = some (i, len)) {pc' : Nat} {lv' : aj_V} {st' : List Value} {h' : aj_H} (hs : aj_step rc cls tb m.2.2.2.2.2.1 m.2.2.1 m.2.2.2.1 isI i len pc lv st h = some (.inl ((pc', lv', st'), h', dc, ds))) (k : aj_TF rc cls tb m isI deep call pc' lv' st' h' (kc + dc) (ks + ds) mc ms r hF) : aj_TF rc cls tb m isI deep call pc lv st h kc ks mc ms r hF := by
  obtain ⟨n, hn⟩ := k
  refine ⟨n + 1, ?_⟩
  unfold aj_frm
  rw [aj_ct_ok hct hd]
  dsimp only
  rw [hs]
  exact ⟨hk.1, hk.2, hn⟩
theorem aj_t5 (hct : aj_ctOK ct m.2.1) {i : Instr} {len : Nat} (hd : aj_ct ct pc = some (i, len)) {mi : Nat} {as : List Value} {pc' : Nat} {lv' : aj_V} {st' : List Value} (hs : aj_step rc cls tb m.2.2.2.2.2.1 m.2.2.1 m.2.2.2.1 isI i len pc lv st h = some (.inr (.inl (5, mi, as, (pc', lv', st'))))) (hdeep : deep = true) (k : aj_TF rc cls tb m isI deep call pc' lv' st' h kc ks mc ms r hF) : aj_TF rc cls tb m isI deep call pc lv st h kc ks mc ms r hF := by
  obtain ⟨n, hn⟩ := k
  refine ⟨n + 1, ?_⟩
  unfold aj_frm
  rw [aj_ct_ok hct hd]
  dsimp only
  rw [hs]
  exact ⟨hdeep, Or.inl ⟨rfl, hn⟩⟩
end AJMK
def cw_R (L : Nat) : aj_H := [.inr (6, [.ref (52 + (L + 1)), .ref (52 + (L + 2)), .ref (52 + (L + 3)), .int 0, .int 0]), .inl (0, 180, .inl (fun _ => 0)), .inl (2, 180, .inl (fun _ => 0)), .inl (0, 1024, .inl (fun _ => 0))]
section CWMK
variable {T : ak_TT} {Φ : List Nat → Option Value → aj_H → Prop} {tb : aj_T} {d : Nat} {mm : aj_M} {con : ak_Con} {s : List Nat} {h X : aj_H} {kc ks pc : Nat} {lv : aj_V} {st rest : List Value} {ct : List (Nat × Instr × Nat)} {x y : aj_E} {fs : List Value}
theorem cw_setR : (h ++ (x :: X)).set h.length y = h ++ (y :: X) := by
  rw [List.set_append, if_neg (Nat.lt_irrefl _), Nat.sub_self]
  rfl
theorem cw_objR (htb : tb.length = 52) : aj_obj tb (h ++ (.inr (6, fs) :: X)) (52 + h.length) = some (6, fs) := by
  unfold aj_obj
  rw [htb, if_neg (by omega), Nat.add_sub_cancel_left, List.getElem?_append_right (Nat.le_refl _), Nat.sub_self]
  rfl
theorem cw_rinit (htb : tb.length = 52) : aj_runs aj_rc aj_cls tb aj_mt (d + 1) 13 [.ref (52 + h.length)] (h ++ [.inr (6, [.null, .null, .null, .int 0, .int 0])]) 3 1384 none (h ++ cw_R h.length) := by
  refine aj_leaf aj_m13_at (Nat.le_of_ble_eq_true rfl) ?_
  refine aj_tn aj_d13 (by decide) rfl rfl ?_
  refine aj_t5 aj_d13 rfl (mi := 0) (as := [.ref (52 + h.length)]) (pc' := 4) (lv' := [(0, .ref (52 + h.length))]) (st' := []) ?_ rfl ?_
  · rfl
  refine aj_tn aj_d13 (by decide) rfl rfl ?_
  refine aj_tn aj_d13 (by decide) rfl rfl ?_
  refine aj_tm aj_d13 (dc := 1) (ds := 180) (by decide) rfl (pc' := 10) (lv' := [(0, .ref (52 + h.length))]) (st' := [.ref (52 + (h.length + 1)), .ref (52 + h.length)]) (h' := h ++ [.inr (6, [.null, .null, .null, .int 0, .int 0]), .inl (0, 180, .inl (fun _ => 0))]) ?_ ?_
  · have e : tb.length + (h ++ [(.inr (6, [.null, .null, .null, .int 0, .int 0]) : aj_E)]).length = 52 + (h.length + 1) := by rw [htb, List.length_append]; rfl
    show some (Sum.inl ((10, [(0, Value.ref (52 + h.length))], [Value.ref (tb.length + (h ++ [(.inr (6, [.null, .null, .null, .int 0, .int 0]) : aj_E)]).length), Value.ref (52 + h.length)]), (h ++ [(.inr (6, [.null, .null, .null, .int 0, .int 0]) : aj_E)]) ++ [(.inl (0, 180, .inl (fun _ => 0)) : aj_E)], 1, 180)) = _
    rw [e, List.append_assoc]
    rfl
  refine aj_tp aj_d13 (by decide) rfl (kind := 0) (ci := 6) (k := 0) (fin := 1) rfl (by decide) (Or.inr ⟨rfl, rfl, rfl⟩) (cw_objR htb) (q := ("DimShelf$Rows", aj_T6, 5, aj_F6)) rfl (by decide) rfl ?_
  rw [htb, Nat.add_sub_cancel_left, cw_setR]
  show aj_TF _ _ _ _ _ _ _ 13 _ [] (h ++ [.inr (6, [.ref (52 + (h.length + 1)), .null, .null, .int 0, .int 0]), .inl (0, 180, .inl (fun _ => 0))]) _ _ _ _ _ _
  refine aj_tn aj_d13 (by decide) rfl rfl ?_
  refine aj_tn aj_d13 (by decide) rfl rfl ?_
  refine aj_tm aj_d13 (dc := 1) (ds := 180) (by decide) rfl (pc' := 19) (lv' := [(0, .ref (52 + h.length))]) (st' := [.ref (52 + (h.length + 2)), .ref (52 + h.length)]) (h' := h ++ [.inr (6, [.ref (52 + (h.length + 1)), .null, .null, .int 0, .int 0]), .inl (0, 180, .inl (fun _ => 0)), .inl (2, 180, .inl (fun _ => 0))]) ?_ ?_
  · have e : tb.length + (h ++ [(.inr (6, [.ref (52 + (h.length + 1)), .null, .null, .int 0, .int 0]) : aj_E), .inl (0, 180, .inl (fun _ => 0))]).length = 52 + (h.length + 2) := by rw [htb, List.length_append]; rfl
    show some (Sum.inl ((19, [(0, Value.ref (52 + h.length))], [Value.ref (tb.length + (h ++ [(.inr (6, [.ref (52 + (h.length + 1)), .null, .null, .int 0, .int 0]) : aj_E), .inl (0, 180, .inl (fun _ => 0))]).length), Value.ref (52 + h.length)]), (h ++ [(.inr (6, [.ref (52 + (h.length + 1)), .null, .null, .int 0, .int 0]) : aj_E), .inl (0, 180, .inl (fun _ => 0))]) ++ [(.inl (2, 180, .inl (fun _ => 0)) : aj_E)], 1, 180)) = _
    rw [e, List.append_assoc]
    rfl
  refine aj_tp aj_d13 (by decide) rfl (kind := 0) (ci := 6) (k := 1) (fin := 1) rfl (by decide) (Or.inr ⟨rfl, rfl, rfl⟩) (cw_objR htb) (q := ("DimShelf$Rows", aj_T6, 5, aj_F6)) rfl (show 1 < 5 by decide) rfl ?_
  rw [htb, Nat.add_sub_cancel_left, cw_setR]
  show aj_TF _ _ _ _ _ _ _ 22 _ [] (h ++ [.inr (6, [.ref (52 + (h.length + 1)), .ref (52 + (h.length + 2)), .null, .int 0, .int 0]), .inl (0, 180, .inl (fun _ => 0)), .inl (2, 180, .inl (fun _ => 0))]) _ _ _ _ _ _
  refine aj_tn aj_d13 (by decide) rfl rfl ?_
  refine aj_tn aj_d13 (by decide) rfl rfl ?_
  refine aj_tm aj_d13 (dc := 1) (ds := 1024) (by decide) rfl (pc' := 28) (lv' := [(0, .ref (52 + h.length))]) (st' := [.ref (52 + (h.length + 3)), .ref (52 + h.length)]) (h' := h ++ [.inr (6, [.ref (52 + (h.length + 1)), .ref (52 + (h.length + 2)), .null, .int 0, .int 0]), .inl (0, 180, .inl (fun _ => 0)), .inl (2, 180, .inl (fun _ => 0)), .inl (0, 1024, .inl (fun _ => 0))]) ?_ ?_
  · have e : tb.length + (h ++ [(.inr (6, [.ref (52 + (h.length + 1)), .ref (52 + (h.length + 2)), .null, .int 0, .int 0]) : aj_E), .inl (0, 180, .inl (fun _ => 0)), .inl (2, 180, .inl (fun _ => 0))]).length = 52 + (h.length + 3) := by rw [htb, List.length_append]; rfl
    show some (Sum.inl ((28, [(0, Value.ref (52 + h.length))], [Value.ref (tb.length + (h ++ [(.inr (6, [.ref (52 + (h.length + 1)), .ref (52 + (h.length + 2)), .null, .int 0, .int 0]) : aj_E), .inl (0, 180, .inl (fun _ => 0)), .inl (2, 180, .inl (fun _ => 0))]).length), Value.ref (52 + h.length)]), (h ++ [(.inr (6, [.ref (52 + (h.length + 1)), .ref (52 + (h.length + 2)), .null, .int 0, .int 0]) : aj_E), .inl (0, 180, .inl (fun _ => 0)), .inl (2, 180, .inl (fun _ => 0))]) ++ [(.inl (0, 1024, .inl (fun _ => 0)) : aj_E)], 1, 1024)) = _
    rw [e, List.append_assoc]
    rfl
  refine aj_tp aj_d13 (by decide) rfl (kind := 0) (ci := 6) (k := 2) (fin := 1) rfl (by decide) (Or.inr ⟨rfl, rfl, rfl⟩) (cw_objR htb) (q := ("DimShelf$Rows", aj_T6, 5, aj_F6)) rfl (show 2 < 5 by decide) rfl ?_
  rw [htb, Nat.add_sub_cancel_left, cw_setR]
  exact aj_te aj_d13 rfl rfl
theorem cw_tyR (h1 : T.1 = ak_ti) (h6 : T.2.1[6]? = ak_ft0[6]?) (hT : ak_Ty T s h) : ak_Ty T (s ++ [58, 94, 95, 96]) (h ++ cw_R h.length) := by
  refine ⟨by rw [List.length_append, List.length_append, hT.1]; rfl, fun i t hi => ?_⟩
  have hl := hT.1
  have mono : ∀ (t : Nat) (e : aj_E), ak_cOK T s t e → ak_cOK T (s ++ [58, 94, 95, 96]) t e := by
    intro t e hc
    unfold ak_cOK at hc ⊢
    split
    · rename_i c hc1
      rw [hc1] at hc
      obtain ⟨fs, rfl, fa, g1, g2, g3⟩ := hc
      refine ⟨fs, rfl, fa, g1, g2, fun k a hk => ?_⟩
      obtain ⟨v, g4, g5⟩ := g3 k a hk
      exact ⟨v, g4, ak_gam_mono g5⟩
    · rename_i kd n1 n2 a hc1
      rw [hc1] at hc
      obtain ⟨n, x, rfl, g1, g2, g3⟩ := hc
      refine ⟨n, x, rfl, g1, g2, ?_⟩
      rcases x with f | f | f | f | f
      · exact ⟨g3.1, g3.2.1, fun j hj => ak_gam_mono (g3.2.2 j hj)⟩
      · exact g3
      · exact g3.elim
      · exact g3.elim
      · exact ⟨g3.1, fun j hj => ak_gam_mono (g3.2 j hj)⟩
    · rename_i hc1
      rw [hc1] at hc
      exact hc
  by_cases hlt : i < s.length
  · rw [List.getElem?_append_left hlt] at hi
    obtain ⟨g1, e, g2, g3⟩ := hT.2 i t hi
    exact ⟨g1, e, by rw [List.getElem?_append_left (by omega)]; exact g2, mono t e g3⟩
  · rw [List.getElem?_append_right (by omega)] at hi
    rw [List.getElem?_append_right (by omega), hl]
    obtain ⟨j, hj⟩ : ∃ j, j = i - s.length := ⟨_, rfl⟩
    rw [← hj] at hi ⊢
    have hj4 : j < 4 := by
      have := (List.getElem?_eq_some_iff.mp hi).1
      simpa using this
    have ref : ∀ (q t : Nat), (s ++ [58, 94, 95, 96])[s.length + q]? = some t → 52 ≤ t → ak_gam (s ++ [58, 94, 95, 96]) (.inr (some ([t], false))) (.ref (52 + (s.length + q))) := fun q t hq h52 => cw_gR hq h52 (List.mem_singleton.mpr rfl)
    have at_ : ∀ q, (s ++ [58, 94, 95, 96])[s.length + q]? = [58, 94, 95, 96][q]? := by
      intro q
      rw [List.getElem?_append_right (by omega), Nat.add_sub_cancel_left]
    rcases (by omega : j = 0 ∨ j = 1 ∨ j = 2 ∨ j = 3) with q | q | q | q <;> rw [q] at hi ⊢ <;> cases hi
    · refine ⟨by decide, _, rfl, ?_⟩
      unfold ak_cOK
      rw [h1]
      refine ⟨_, rfl, (ak_ft0[6]?).getD [], by rw [h6]; rfl, rfl, fun k a hk => ?_⟩
      have hk5 : k < 5 := (List.getElem?_eq_some_iff.mp hk).1
      rcases (by omega : k = 0 ∨ k = 1 ∨ k = 2 ∨ k = 3 ∨ k = 4) with z | z | z | z | z <;> rw [z] at hk ⊢ <;> cases hk
      · exact ⟨_, rfl, ref 1 94 (by rw [at_]; rfl) (by decide)⟩
      · exact ⟨_, rfl, ref 2 95 (by rw [at_]; rfl) (by decide)⟩
      · exact ⟨_, rfl, ref 3 96 (by rw [at_]; rfl) (by decide)⟩
      · exact ⟨_, rfl, by decide, by decide⟩
      · exact ⟨_, rfl, by decide, by decide⟩
    · refine ⟨by decide, _, rfl, ?_⟩
      unfold ak_cOK
      rw [h1]
      exact ⟨180, _, rfl, Nat.le_refl _, Nat.le_refl _, by decide, by decide, fun j _ => (show (-2147483648 : Int) ≤ (0 : Int32).toInt ∧ (0 : Int32).toInt ≤ 2147483647 by decide)⟩
    · refine ⟨by decide, _, rfl, ?_⟩
      unfold ak_cOK
      rw [h1]
      exact ⟨180, _, rfl, Nat.le_refl _, Nat.le_refl _, by decide, by decide, fun j _ => (show (0 : Int) ≤ (0 : Int32).toInt ∧ (0 : Int32).toInt ≤ 1 by decide)⟩
    · refine ⟨by decide, _, rfl, ?_⟩
      unfold ak_cOK
      rw [h1]
      exact ⟨1024, _, rfl, Nat.le_refl _, Nat.le_refl _, by decide, by decide, fun j _ => (show (-2147483648 : Int) ≤ (0 : Int32).toInt ∧ (0 : Int32).toInt ≤ 2147483647 by decide)⟩
theorem cw_EvR {M : ak_Mo} (hT : ak_Ty T s h) (X : aj_H) : ak_Ev T M s h (h ++ X) := by
  refine ⟨fun i t x hi _ _ => ?_, fun i c fs hi => ⟨fs, ?_, fun _ _ => rfl⟩, fun i kd n x hi => ⟨x, ?_⟩⟩
  · rw [List.getElem?_append_left (by have := (List.getElem?_eq_some_iff.mp hi).1; rw [hT.1]; exact this)]
  · rw [List.getElem?_append_left (List.getElem?_eq_some_iff.mp hi).1]
    exact hi
  · rw [List.getElem?_append_left (List.getElem?_eq_some_iff.mp hi).1]
    exact hi
theorem cw_sloR (h1 : T.1 = ak_ti) (h6 : T.2.1[6]? = ak_ft0[6]?) : ak_slo T [58, 94, 95, 96] = 1389 := by
  have a1 : ak_slot T 58 = 5 := by
    unfold ak_slot
    rw [h1]
    show ((T.2.1[6]?).getD []).length = 5
    rw [h6]
    rfl
  have a2 : ak_slot T 94 = 180 := by
    unfold ak_slot
    rw [h1]
    rfl
  have a3 : ak_slot T 95 = 180 := by
    unfold ak_slot
    rw [h1]
    rfl
  have a4 : ak_slot T 96 = 1024 := by
    unfold ak_slot
    rw [h1]
    rfl
  unfold ak_slo
  simp only [List.map_cons, List.map_nil, a1, a2, a3, a4]
  rfl
theorem cw_newR (htb : tb.length = 52) (hct : aj_ctOK ct mm.2.1) (h1 : T.1 = ak_ti) (h6 : T.2.1[6]? = ak_ft0[6]?) (hT : ak_Ty T s h) {idx idx2 w0 : Nat} {w1 w2 : Int} (hd : aj_ct ct pc = some (.new idx, 3)) (hlk : aj_link mm.2.2.2.2.2.1 idx = some (12, 6, w0, w1)) (hd2 : aj_ct ct (pc + 3) = some (.dup, 1)) (hd3 : aj_ct ct (pc + 4) = some (.invokespecial idx2, 3)) (hlk2 : aj_link mm.2.2.2.2.2.1 idx2 = some (4, 13, 0, w2)) (hsum : aj_sum rest ≤ 7) (hdd : 1 ≤ d) (kk : ak_Ty T (s ++ [58, 94, 95, 96]) (h ++ cw_R h.length) → cw_W T Φ tb d mm con (s ++ [58, 94, 95, 96]) (h ++ cw_R h.length) (kc + 4) (ks + 1389) (pc + 7) lv (.ref (52 + h.length) :: rest)) : cw_W T Φ tb d mm con s h kc ks pc lv rest := by
  obtain ⟨u, r, h', k1, k2, k3, k4, k5⟩ := kk (cw_tyR h1 h6 hT)
  obtain ⟨d, rfl⟩ : ∃ e, d = e + 1 := ⟨d - 1, by omega⟩
  refine ⟨[58, 94, 95, 96] ++ u, r, h', ?_, by rw [← List.append_assoc]; exact k2, by rw [← List.append_assoc]; exact k3, ak_Ev_tr (cw_EvR hT _) k4, by rw [← List.append_assoc]; exact k5⟩
  rw [ak_slo_app, cw_sloR h1 h6, List.length_append]
  have e1 : kc + ([58, 94, 95, 96].length + u.length) = kc + 4 + u.length := by
    show kc + (4 + u.length) = _
    omega
  have e2 : ks + (1389 + ak_slo T u) = ks + 1389 + ak_slo T u := by omega
  rw [e1, e2]
  refine aj_tm hct (dc := 1) (ds := 5) (by omega) hd (pc' := pc + 3) (lv' := lv) (st' := .ref (52 + h.length) :: rest) (h' := h ++ [.inr (6, [.null, .null, .null, .int 0, .int 0])]) ?_ ?_
  · unfold aj_step aj_new
    dsimp only
    rw [if_pos rfl, hlk, htb]
    rfl
  refine aj_tn hct (by omega) hd2 (pc' := pc + 4) (lv' := lv) (st' := .ref (52 + h.length) :: .ref (52 + h.length) :: rest) rfl ?_
  refine aj_tk hct hd3 (kind := 4) (mi := 13) (as := [.ref (52 + h.length)]) (pc' := pc + 7) (lv' := lv) (st' := .ref (52 + h.length) :: rest) ?_ rfl (by decide) (cw_rinit htb) ?_ (by omega) ?_
  · unfold aj_step aj_call
    dsimp only
    rw [if_pos rfl, hlk2]
    dsimp only
    rw [if_pos ⟨by decide, by decide⟩, if_neg (by decide)]
    have hs : aj_sum (.ref (52 + h.length) :: rest) ≤ 8 := by
      unfold aj_sum at hsum ⊢
      rw [List.map_cons, List.sum_cons]
      show 1 + _ ≤ 8
      omega
    exact if_pos ⟨fun z => absurd z (by decide), hs⟩
  · rw [List.length_append, List.length_append]
    rfl
  · have e3 : kc + 1 + 3 = kc + 4 := by omega
    have e4 : ks + 5 + 1384 = ks + 1389 := by omega
    rw [e3, e4]
    exact k1
/-- what is seen of it -/
theorem cw_obR : cw_ob (h ++ cw_R h.length) = fun i => if i = h.length then some (6, fun k => if (6, k) ∈ ak_spFC then ([.ref (52 + (h.length + 1)), .ref (52 + (h.length + 2)), .ref (52 + (h.length + 3)), .int 0, .int 0] : List Value)[k]? else none) else cw_ob h i := by
  funext i
  show cw_ob _ i = if i = h.length then _ else cw_ob h i
  unfold cw_ob
  by_cases hi : i < h.length
  · rw [List.getElem?_append_left hi, if_neg (by omega)]
  · rw [List.getElem?_append_right (by omega), List.getElem?_eq_none (l := h) (by omega)]
    by_cases e : i = h.length
    · rw [if_pos e, e, Nat.sub_self]
      rfl
    · rw [if_neg e]
      obtain ⟨j, hj⟩ : ∃ j, i - h.length = j + 1 := ⟨i - h.length - 1, by omega⟩
      rw [hj]
      rcases (by omega : j = 0 ∨ j = 1 ∨ j = 2 ∨ 3 ≤ j) with z | z | z | z
      · rw [z]; rfl
      · rw [z]; rfl
      · rw [z]; rfl
      · rw [List.getElem?_eq_none (by show 4 ≤ j + 1; omega)]
theorem cw_app_o {i : Nat} (hi : i < h.length) : (cw_o (h ++ X)).1 i = (cw_o h).1 i ∧ (cw_o (h ++ X)).2 i = (cw_o h).2 i := by
  refine ⟨?_, ?_⟩
  · show cw_ob _ i = cw_ob h i
    unfold cw_ob
    rw [List.getElem?_append_left hi]
  · show cw_oa _ i = cw_oa h i
    unfold cw_oa
    rw [List.getElem?_append_left hi]
end CWMK
