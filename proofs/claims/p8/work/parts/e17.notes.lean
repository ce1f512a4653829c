/-! THE CLASS'S WORKER: sides and TESTS -/
section CE17
variable {X X' X0 X1 : fx_X} {v p p1 y2 : Int32} {u : Unit} {sr r r0 rr rs W n t t0 wd wd' k c m : Nat} {tw : List Nat} {val : md_V} {tb : List (List md_Row)} {sk : List md_Q} {tr tr' pt : List (Nat → Bool)} {sd sd' : md_Sd × md_Sd} {rel rel' fo fd a arg : Int} {rt : Nat} {pk : Option (List Nat)} {near l : Nat} {ws ws' : md_WS}
theorem cx_WS_kf (hW : cx_WS X sr W n val tw (tb, sk, tr, sd, rel, pt, rt, pk, fo, fd)) (h : cx_kf X X') (hSd : cx_Sd X' sr W sd' rel') (htr : cx_tr X' W tr') (hl : tr'.length ≤ 32) : cx_WS X' sr W n val tw (tb, sk, tr', sd', rel', pt, rt, pk, fo, fd) := by
  obtain ⟨⟨g1, g2, g3, g4⟩, hs, w3, w4, w5, ⟨t1, t2, t3, t4⟩, ⟨w7, w8⟩, w9, w10, w11, w12, ⟨r1, r2⟩, ⟨q1, q2, q3⟩⟩ := hW
  obtain ⟨h2, z, z5⟩ := h
  refine ⟨⟨g1, g2, g3, hl⟩, hs, by unfold cx_O at w3 ⊢; rw [h2]; exact w3, ⟨w4.1, w4.2.1, fun w u hw hu => by rw [z _ _ (by omega) (by omega)]; exact w4.2.2 w u hw hu⟩, hSd, ⟨by rw [z _ _ (by omega) (by omega)]; exact t1, t2, t3, fun t wd htw => ?_⟩, ⟨by rw [z5 _ (by omega)]; exact w7, cx_ls_e4 w3 g3 w8 (fun i hi r0 hr => ⟨by rw [h2]; exact hr, fun q k z1 z2 => ?_⟩)⟩, by rw [h2]; exact w9, htr, ⟨by rw [z _ _ (by omega) (by omega)]; exact w11.1, w11.2.1, fun w p hw hp => by rw [z _ _ (by omega) (by omega)]; exact w11.2.2 w p hw hp⟩, ⟨by rw [z _ _ (by omega) (by omega)]; exact w12.1, fun k w hk => by rw [z _ _ (by omega) (by omega)]; exact w12.2 k w hk⟩, ⟨fun h => by rw [z5 _ (by omega)]; exact r1 h, fun A r' ha hb => by rw [z5 _ (by omega)]; exact r2 A r' ha hb⟩, ⟨fun ps hp => ?_, by rw [z _ _ (by omega) (by omega)]; exact q2, by rw [z _ _ (by omega) (by omega)]; exact q3⟩⟩
  · obtain ⟨r0, a1, a2, a3⟩ := t4 t wd htw
    have htl := (List.getElem?_eq_some_iff.mp htw).1
    have h0 := (w3.2.1 (sr + 8, t) r0 (cx_slot hs (by omega)) a1).1
    refine ⟨r0, by rw [h2]; exact a1, by rw [z _ _ (by omega) (by omega)]; exact a2, ?_⟩
    cases ho : tb[t]? with
    | none => rw [ho] at a3; show (X'.1 r0 4).toInt = 0; rw [z _ _ (by omega) (by omega)]; exact a3
    | some A => rw [ho] at a3; exact cx_Rr_e a3 (z _ _ (by omega) (by omega)) (fun k => z _ _ (by omega) (by omega)) (fun k => z _ _ (by omega) (by omega)) (fun k => z _ _ (by omega) (by omega))
  · have hi' : i < 20 := by have : sk.length ≤ 20 := g3; omega
    have h0 := (w3.2.1 (101, i) r0 (Or.inr (Or.inr (Or.inl ⟨rfl, hi'⟩))) hr).1
    exact z _ _ (by omega) (by omega)
  · obtain ⟨b1, b2, b3⟩ := q1 ps hp
    exact ⟨by rw [z _ _ (by omega) (by omega)]; exact b1, b2, fun i c hc => by rw [z _ _ (by omega) (by omega)]; exact b3 i c hc⟩
theorem md_k_no {α : Type} {x : α} (h : (none : md_O α) = md_k x) : False := by unfold md_k at h; cases h
/-- a note of these leaves the rest -/
theorem md_wk_20 (ha : 200 ≤ a ∧ a ≤ 207) (h : md_wk W n val wd (tb, sk, tr, sd, rel, pt, rt, pk, fo, fd) (a, near, l) arg = md_k ws') : ∃ tr' sd' rel', ws' = (tb, sk, tr', sd', rel', pt, rt, pk, fo, fd) := by
  have h8 : a = 200 ∨ a = 201 ∨ a = 202 ∨ a = 203 ∨ a = 204 ∨ a = 205 ∨ a = 206 ∨ a = 207 := by omega
  rcases h8 with rfl | rfl | rfl | rfl | rfl | rfl | rfl | rfl
  · exact ⟨_, _, _, (md_k_inj h).symm⟩
  · exact ⟨_, _, _, (md_k_inj h).symm⟩
  · exact ⟨_, _, _, (md_k_inj h).symm⟩
  · exact ⟨_, _, _, (md_k_inj h).symm⟩
  · have h : (if 32 ≤ tr.length ∨ md_okb n 0 sd.1 = false ∨ md_okb n 0 sd.2 = false then (none : md_O md_WS) else md_k (tb, sk, (fun w => md_cmp rel (md_sv val w [] sd.1) (md_sv val w [] sd.2)) :: tr, sd, rel, pt, rt, pk, fo, fd)) = md_k ws' := h
    by_cases z : 32 ≤ tr.length ∨ md_okb n 0 sd.1 = false ∨ md_okb n 0 sd.2 = false
    · rw [if_pos z] at h; exact (md_k_no h).elim
    · rw [if_neg z] at h; exact ⟨_, _, _, (md_k_inj h).symm⟩
  · cases tr with
    | nil => exact (md_k_no h).elim
    | cons x tr => exact ⟨_, _, _, (md_k_inj h).symm⟩
  · rcases tr with _ | ⟨y, _ | ⟨x, tr⟩⟩
    · exact (md_k_no h).elim
    · exact (md_k_no h).elim
    · have h : (if 32 < (y :: x :: tr).length then (none : md_O md_WS) else md_k (tb, sk, (fun w => x w && y w) :: tr, sd, rel, pt, rt, pk, fo, fd)) = md_k ws' := h
      by_cases z : 32 < (y :: x :: tr).length
      · rw [if_pos z] at h; exact (md_k_no h).elim
      · rw [if_neg z] at h; exact ⟨_, _, _, (md_k_inj h).symm⟩
  · rcases tr with _ | ⟨y, _ | ⟨x, tr⟩⟩
    · exact (md_k_no h).elim
    · exact (md_k_no h).elim
    · have h : (if 32 < (y :: x :: tr).length then (none : md_O md_WS) else md_k (tb, sk, (fun w => x w || y w) :: tr, sd, rel, pt, rt, pk, fo, fd)) = md_k ws' := h
      by_cases z : 32 < (y :: x :: tr).length
      · rw [if_pos z] at h; exact (md_k_no h).elim
      · rw [if_neg z] at h; exact ⟨_, _, _, (md_k_inj h).symm⟩
/-- a note of a side or a TEST -/
theorem cx_140x (hW : cx_WS X sr W n val tw ws) (ha : a = 200 ∨ a = 201 ∨ (203 ≤ a ∧ a ≤ 207)) (hwk : md_wk W n val wd ws (a, near, l) arg = md_k ws') (h1 : p1.toInt = a) (h2 : y2.toInt = arg) (g : gx_140 p1 y2 X u X') : cx_WS X' sr W n val tw ws' ∧ X'.1 82 5 = X.1 82 5 := by
  obtain ⟨tb, sk, tr, sd, rel, pt, rt, pk, fo, fd⟩ := ws
  have hW0 := hW
  obtain ⟨⟨g1, g2, g3, g4⟩, hs, w3, w4, w5, w6, w7, w9, w10, -⟩ := hW
  obtain ⟨k1, k2, k3, k4⟩ := cx_140w (ws := (tb, sk, tr, sd, rel, pt, rt, pk, fo, fd)) hs w4 w5 w10 g4 ha hwk h1 h2 g
  obtain ⟨tr', sd', rel', rfl⟩ := md_wk_20 (by omega) hwk
  exact ⟨cx_WS_kf hW0 k1 k2 k3 k4, k1.2.1 82 5 (by decide) (by decide)⟩
/-- a side that is a COLUMN -/
theorem cx_140y (hW : cx_WS X sr W n val tw ws) (hwk : md_wk W n val wd ws (202, near, l) arg = md_k ws') (h1 : p1.toInt = 202) (h2 : y2.toInt = arg) (g : gx_140 p1 y2 X u X') : cx_WS X' sr W n val tw ws' ∧ X'.1 82 5 = X.1 82 5 := by
  obtain ⟨tb, sk, tr, sd, rel, pt, rt, pk, fo, fd⟩ := ws
  have hW0 := hW
  obtain ⟨⟨g1, g2, g3, g4⟩, hs, w3, w4, w5, w6, w7, w9, w10, -⟩ := hW
  have ey : y2 = Int32.ofInt arg := by rw [← h2, Int32.ofInt_toInt]
  obtain ⟨-, -, k202, -⟩ := cx_140 (p1 := p1) (p2 := y2) hs w4 w5 w10 g4 g
  obtain ⟨c1, c2⟩ := k202 h1
  have e := md_k_inj (show (md_k (tb, sk, tr, (sd.2, (2, Int32.ofInt arg)), rel, pt, rt, pk, fo, fd) : md_O md_WS) = md_k ws' from hwk)
  subst e
  rw [← ey]
  refine ⟨?_, c2.2.1 82 5 (by decide)⟩
  exact cx_WS_kf hW0 (cx_kf_Sd c2) c1 (fun i f hf w hw => by rw [c2.2.1 106 w (by decide)]; exact w10 i f hf w hw) g4
end CE17
