/-! THE REFERENCE: an UNKNOWN is told -/
def rx_PO (P : md_P) (K : List md_Sy) (X0 : fx_X) (v : Int32) (X' : fx_X) : Prop := rx_PT P K v X' ∧ (rp_b P = true → rx_O (rp_h P) X0 X')
section DD17
variable {P : md_P} {X X' X0 X1 : fx_X} {K : List md_Sy} {c c1 c0 : md_C} {nm : md_Nm} {cs : md_CS} {ws : md_WS} {j near l n : Nat} {vs : List Int32} {v y1 y5 : Int32} {nn : Int64} {F L : List (Nat × Nat)}
theorem rx_PO_x (e : rx_X P v X') : rx_PO P K X0 v X' := ⟨Or.inl (Or.inl e), fun hb => by rw [e.2.1.1] at hb; cases hb⟩
theorem rx_PO_B (hB : rx_B P X') (hv : v = Int32.ofInt 0 ∨ v = Int32.ofInt 1) : rx_PO P K X0 v X' := ⟨(rx_BX (B := rx_B P X' ∨ ∃ l j near c nm cs ws, rx_T P X' j c cs ws nm ∧ md_R P ((130, l) :: K) j near c nm (cs, ws)) hB hv Or.inl).imp Or.inl id, fun hb => by rw [hB.1.1] at hb; cases hb⟩
theorem rx_O_lf {h : Nat} (hf : fy F L [120, 121] X X') (hF : (∀ q, q ∈ F → q.1 < 118) ∧ ∀ q, q ∈ L → q.1 < 118) (hl : rx_lf h n X X') (hh : h ≤ 1) (hn : n < 8) : rx_O h X X' := by
  have e : ∀ r, r ∉ [120, 121] → 118 ≤ r → X'.1 r = X.1 r := fun r h1 h2 => fy_ra hf h1 (fun q hq => by have := hF.1 q hq; omega)
  have e2 : ∀ r, r ∉ [120, 121] → 118 ≤ r → X'.2.1 r = X.2.1 r := fun r h1 h2 => fy_rl hf h1 (fun q hq => by have := hF.2 q hq; omega)
  unfold rx_O
  rw [e 118 (by decide) (by decide), e 122 (by decide) (by decide), e 123 (by decide) (by decide), e 124 (by decide) (by decide), e 126 (by decide) (by decide), e 127 (by decide) (by decide), e 128 (by decide) (by decide), e 129 (by decide) (by decide), e 131 (by decide) (by decide), e 132 (by decide) (by decide), e 134 (by decide) (by decide), e 135 (by decide) (by decide), e 136 (by decide) (by decide), e2 119 (by decide) (by decide), e2 125 (by decide) (by decide), e2 133 (by decide) (by decide)]
  exact ⟨⟨rfl, rfl, rfl, rfl, rfl⟩, fun u hu => ⟨rfl, hl.1 _ (by omega), fun i hi => hl.2 _ (by omega), fun _ _ => rfl⟩, fun _ _ => ⟨rfl, rfl, rfl, rfl, fun _ _ => rfl, fun _ _ => ⟨fun _ _ => ⟨rfl, rfl⟩, fun _ _ => rfl⟩⟩, fun _ _ _ _ => rfl⟩
theorem md_ck180 {T : md_T} : md_ck T cs (180, near, l) = if 0 ≤ md_ix (T.2 near) (cs.1.map (·.1)) 0 then some none else if 8 ≤ cs.1.length then none else md_k (md_scu cs (T.2 near, []), 0) := by
  obtain ⟨U, cu, TB, rw, sk, pk, fr⟩ := cs
  exact md_k180
theorem md_ck183 {T : md_T} : md_ck T (md_scu cs (nn, vs)) (183, near, l) = if 1024 < md_all cs.1 * vs.length then some none else if 8 ≤ cs.1.length then none else md_k ((cs.1 ++ [(nn, vs)], none, cs.2.2), 0) := by
  obtain ⟨U, cu, TB, rw, sk, pk, fr⟩ := cs
  exact md_k183
/-- what is told is kept, with one UNKNOWN more -/
theorem rx_TT_new (hTT : rx_TT P X cs ws nm) (hL : rx_L P X cs.1.length vs) (hn8 : cs.1.length < 8) (hh : rp_h P ≤ 1) (hW : md_all cs.1 * vs.length ≤ 1024) (hG : rx_G P X j c) (hU : rp_b P = true → ∃ B, rp_Uf P = (cs.1 ++ [(nn, vs)]) ++ B) {x62 : Int32} {X91 X95 X99 : fx_X} (h62 : x62.toInt = ((md_all cs.1 * vs.length : Nat) : Int)) (e91 : X91 = fx_wL X 119 (8 * rp_h P + cs.1.length) nn) (e95 : X95 = fx_wI X91 118 (rp_h P) (X91.1 118 (rp_h P) + Int32.ofInt 1)) (e99 : X99 = fx_wI X95 122 (rp_h P) x62) (g : if (X99.1 117 32).toInt = 0 then (v = (Int32.ofInt 1) ∧ X' = X99) else (∃ (w : Unit) (X101 : fx_X), gx_224 X99 w X101 ∧ v = (Int32.ofInt 1) ∧ X' = X101)) : v = Int32.ofInt 1 ∧ rx_TT P X' (cs.1 ++ [(nn, vs)], none, cs.2.2) ws nm ∧ rx_G P X' j c ∧ (rp_b P = true → rx_O (rp_h P) X X') := by
  obtain ⟨hU0, hV0, hTB, hWT⟩ := hTT
  have hUa := hU0
  obtain ⟨u1, u2, u3, u4, u5⟩ := hU0
  obtain ⟨l1, l2, l3⟩ := hL
  have f99 : fy [(118, rp_h P), (122, rp_h P)] [(119, 8 * rp_h P + cs.1.length)] [] X X99 := by
    rw [e99, e95, e91]
    exact fy_f (fy_f (fy_g fy_rf (List.mem_singleton.mpr rfl)) (by simp)) (by simp)
  have i99 : ∀ q, q ≠ 118 → q ≠ 122 → X99.1 q = X.1 q := fun q h1 h2 => by
    rw [e99, fx_rIn h2, e95, fx_rIn h1, e91]; rfl
  have r99 : X99.2.2 = X.2.2 := f99.1
  have l99 : ∀ q, q ≠ 119 → X99.2.1 q = X.2.1 q := fun q h1 => by
    rw [e99, e95, e91]
    exact fx_rLn h1
  have h118 : (X99.1 118 (rp_h P)).toInt = ((cs.1.length + 1 : Nat) : Int) := by
    rw [e99, fx_rIn (by decide), e95, fx_rIe, e91]
    exact cx_in1 u1 (by omega)
  have h122 : X99.1 122 (rp_h P) = x62 := by rw [e99, fx_rIe]
  have hpos : 1 ≤ md_all cs.1 * vs.length := Nat.le_trans (by omega) (Nat.mul_le_mul u4.1 l2.1)
  have hUall : md_all (cs.1 ++ [(nn, vs)]) = md_all cs.1 * vs.length := md_all_app
  have hUlen : (cs.1 ++ [(nn, vs)]).length = cs.1.length + 1 := by rw [List.length_append]; rfl
  -- the UNKNOWNS
  have hvals : ∀ u x, (cs.1 ++ [(nn, vs)])[u]? = some x → X99.2.1 119 (8 * rp_h P + u) = x.1 ∧ (X99.1 120 (8 * rp_h P + u)).toInt = (x.2.length : Int) ∧ (1 ≤ x.2.length ∧ x.2.length ≤ 64) ∧ ∀ i v, x.2[i]? = some v → X99.1 121 (64 * (8 * rp_h P + u) + i) = v := by
    intro u x hx
    rw [i99 120 (by decide) (by decide), i99 121 (by decide) (by decide)]
    by_cases z : u < cs.1.length
    · rw [List.getElem?_append_left z] at hx
      obtain ⟨q1, q2⟩ := u5 u x hx
      refine ⟨?_, q2⟩
      rw [e99, e95, e91]
      show (fx_wL X 119 (8 * rp_h P + cs.1.length) nn).2.1 119 (8 * rp_h P + u) = _
      rw [fx_rLk (by omega)]
      exact q1
    · have hu := (List.getElem?_eq_some_iff.mp hx).1
      have : u = cs.1.length := by omega
      subst this
      rw [List.getElem?_append_right (Nat.le_refl _), Nat.sub_self] at hx
      cases hx
      refine ⟨?_, l1, l2, l3⟩
      rw [e99, e95, e91]
      show (fx_wL X 119 (8 * rp_h P + cs.1.length) nn).2.1 119 (8 * rp_h P + cs.1.length) = _
      rw [fx_rLe]
  have hGst := hG.2.2.2.2.1
  have hst99 : X99.1 117 32 = X.1 117 32 := by rw [i99 117 (by decide) (by decide)]
  rw [hst99] at g
  cases hb : rp_b P with
  | false =>
    rw [hb, if_neg (by decide)] at hGst
    rw [if_pos hGst] at g
    obtain ⟨e1, e2⟩ := g
    subst e2
    refine ⟨e1, ⟨⟨by rw [h118, hUlen], by rw [h122, h62, hUall], (by show (cs.1 ++ [(nn, vs)]).length ≤ 8; omega), (by show 1 ≤ md_all (cs.1 ++ [(nn, vs)]) ∧ md_all (cs.1 ++ [(nn, vs)]) ≤ 1024; omega), hvals⟩, fun z => (by rw [hb] at z; cases z), ?_, fun z => (by rw [hb] at z; cases z)⟩, ?_, fun z => by cases z⟩
    · unfold rx_TB rx_T1 rx_cl
      rw [i99 124 (by decide) (by decide), i99 126 (by decide) (by decide), i99 131 (by decide) (by decide), i99 132 (by decide) (by decide), l99 125 (by decide), l99 133 (by decide)]
      exact hTB
    · exact rx_G_fr hG f99 (by decide) (by simp)
  | true =>
    rw [hb, if_pos rfl] at hGst
    rw [if_neg (by omega)] at g
    obtain ⟨w, X101, r, e1, e2⟩ := g
    subst e2
    obtain ⟨w1, w2, w3⟩ := hWT hb
    obtain ⟨t1, t2, t3, t4, t5, t6⟩ := hTB
    have hAt : ∀ t, t < cs.2.2.1.length → ∃ A x, ws.1[t]? = some A ∧ cs.2.2.1[t]? = some x := fun t ht => ⟨_, _, List.getElem?_eq_getElem (by omega), List.getElem?_eq_getElem ht⟩
    have hR : ∀ t, t < cs.2.2.1.length → (X99.1 131 (10 * rp_h P + t)).toInt = (((ws.1.getD t []).length : Nat) : Int) ∧ (ws.1.getD t []).length ≤ 30 := fun t ht => by
      obtain ⟨A, x, hA, hx⟩ := hAt t ht
      obtain ⟨q1, q2⟩ := w2 t A x hA hx
      rw [i99 131 (by decide) (by decide), List.getD_eq_getElem?_getD, hA]
      exact ⟨q1.1, q2.1⟩
    obtain ⟨a1, a2, ⟨a3, a4⟩, ⟨a5, a6⟩, a7⟩ := rx_224 (h := rp_h P) (U := cs.1 ++ [(nn, vs)]) (M := md_all cs.1 * vs.length) (last := vs.length) (T := cs.2.2.1.length) (R := fun t => (ws.1.getD t []).length) (pn := (md_ptw ws).length) hh (by rw [i99 117 (by decide) (by decide)]; exact hG.2.2.2.1.1) (by rw [h122]; exact h62) hW hpos (by rw [h118, hUlen]) (by omega) (by simp) (fun u x hx => (hvals u x hx).2) (fun x hx => by rw [List.getLast?_append] at hx; cases hx; rfl) (by rw [i99 124 (by decide) (by decide)]; exact t1) t2 hR (by rw [i99 127 (by decide) (by decide)]; exact w3.1) w3.2.1 r
    obtain ⟨B, hB⟩ := hU hb
    have hm' : md_m P (cs.1 ++ [(nn, vs)]) = md_all B := md_m_ap hB (by omega)
    have hm0 : md_m P cs.1 = vs.length * md_all B := by
      rw [md_m_ap (A := cs.1) (B := [(nn, vs)] ++ B) (by rw [hB, List.append_assoc]) u4.1, md_all_ap]
      congr 1
      show 1 * vs.length = vs.length
      omega
    have hWeq : rp_W P = md_all cs.1 * vs.length * md_all B := by
      show md_all (rp_Uf P) = _
      rw [hB, md_all_ap, hUall]
    obtain ⟨v1, v2, v3, v4⟩ := hV0 hb
    have hBpos : 1 ≤ md_all B := by
      rcases Nat.eq_zero_or_pos (md_all B) with z | z
      · rw [z, Nat.mul_zero] at hWeq; omega
      · exact z
    have hlt : ∀ w, w < rp_W P → w / md_all B < md_all cs.1 * vs.length := fun w hw => by
      rw [Nat.div_lt_iff_lt_mul hBpos]
      omega
    have hdd : ∀ w : Nat, w / md_all B / vs.length = w / md_m P cs.1 := fun w => by rw [Nat.div_div_eq_div_mul, hm0, Nat.mul_comm]
    have i' : ∀ q k, q ≠ 118 → q ≠ 122 → q ≠ 123 → q ≠ 129 → q ≠ 136 → X'.1 q k = X.1 q k := fun q k z1 z2 z3 z4 z5 => by rw [a2 q k z3 z4 z5, i99 q z1 z2]
    have ia : ∀ q, q ≠ 118 → q ≠ 122 → q ≠ 123 → q ≠ 129 → q ≠ 136 → X'.1 q = X.1 q := fun q z1 z2 z3 z4 z5 => funext fun k => i' q k z1 z2 z3 z4 z5
    have hl' : ∀ q, q ≠ 119 → X'.2.1 q = X.2.1 q := fun q hq => by rw [a1]; exact l99 q hq
    refine ⟨e1, ⟨⟨?_, ?_, (by show (cs.1 ++ [(nn, vs)]).length ≤ 8; omega), (by show 1 ≤ md_all (cs.1 ++ [(nn, vs)]) ∧ md_all (cs.1 ++ [(nn, vs)]) ≤ 1024; omega), fun u x hx => ?_⟩, fun _ => ⟨?_, v2, ?_, fun w u hw hu => ?_⟩, ?_, fun _ => ⟨w1, fun t A x hA hx => ?_, ?_, w3.2.1, fun p f hp w hw => ?_⟩⟩, ?_, fun _ => ?_⟩
    · rw [a2 _ _ (by decide) (by decide) (by decide), h118, hUlen]
    · rw [a2 _ _ (by decide) (by decide) (by decide), h122, h62, hUall]
    · obtain ⟨q1, q2, q3, q4⟩ := hvals u x hx
      exact ⟨by rw [a1]; exact q1, by rw [a2 _ _ (by decide) (by decide) (by decide)]; exact q2, q3, fun i v hv => by rw [a2 _ _ (by decide) (by decide) (by decide)]; exact q4 i v hv⟩
    · rw [hm', hUall]; exact hWeq
    · rw [hUlen]
      show cs.1.length + 1 ≤ (rp_Uf P).length
      rw [hB, List.length_append, hUlen]
      omega
    · rw [hm', a4 u _ hu (hlt w hw)]
      show _ = md_val (rp_Uf P) w u
      rw [hB, md_val_ap hu]
    · unfold rx_TB rx_T1 rx_cl
      rw [ia 124 (by decide) (by decide) (by decide) (by decide) (by decide), ia 126 (by decide) (by decide) (by decide) (by decide) (by decide), ia 131 (by decide) (by decide) (by decide) (by decide) (by decide), ia 132 (by decide) (by decide) (by decide) (by decide) (by decide), hl' 125 (by decide), hl' 133 (by decide)]
      exact ⟨t1, t2, t3, t4, t5, t6⟩
    · obtain ⟨⟨q1, q2⟩, q3⟩ := w2 t A x hA hx
      refine ⟨⟨by rw [i' _ _ (by decide) (by decide) (by decide) (by decide) (by decide)]; exact q1, fun r x' hr => ⟨fun c t' ht' => ?_, fun w hw => ?_⟩⟩, q3.1, fun y hy => ⟨⟨(q3.2 y hy).1.1, fun t' h1 h2 => by
        have := (q3.2 y hy).1.2 t' h1 h2
        rw [hUlen]; omega⟩, (q3.2 y hy).2⟩⟩
      · have := (q2 r x' hr).1 c t' ht'
        unfold rx_tm at this ⊢
        rw [i' _ _ (by decide) (by decide) (by decide) (by decide) (by decide), i' _ _ (by decide) (by decide) (by decide) (by decide) (by decide)]
        exact this
      · have ht := (List.getElem?_eq_some_iff.mp hx).1
        have hr' := (List.getElem?_eq_some_iff.mp hr).1
        rw [hm', a5 _ _ ⟨t, r, ht, (by show r < (ws.1.getD t []).length; rw [List.getD_eq_getElem?_getD, hA]; exact hr'), rfl⟩ (hlt w hw), hdd, i99 136 (by decide) (by decide)]
        exact (q2 r x' hr).2 w hw
    · show (X'.1 127 (rp_h P)).toInt = _
      rw [i' _ _ (by decide) (by decide) (by decide) (by decide) (by decide)]
      exact w3.1
    · have hp' := (List.getElem?_eq_some_iff.mp hp).1
      have := hlt w hw
      rw [hm', a7 _ _ (by omega), if_pos ⟨by omega, this⟩, hdd, i99 129 (by decide) (by decide)]
      exact w3.2.2 p f hp w hw
    · have f4 : fy [(118, rp_h P), (122, rp_h P)] [(119, 8 * rp_h P + cs.1.length)] [123, 129, 136] X X' := fy_tr (fy_sub f99 (by simp) (by simp) (by simp)) ⟨by rw [a1], fun r k _ _ => by rw [a1], fun r k hr _ => a2 r k (fun z => hr (by rw [z]; decide)) (fun z => hr (by rw [z]; decide)) (fun z => hr (by rw [z]; decide))⟩
      exact rx_G_fr hG f4 (by decide) (by simp)
    · have o1 : rx_O (rp_h P) X X99 := by
        rw [e99, e95, e91]
        exact rx_O_tr (rx_O_wL hh (by omega)) (rx_O_tr (rx_O_w hh (by omega)) (rx_O_w hh (by omega)))
      refine rx_O_tr o1 ⟨⟨?_, ?_, ?_, ?_, ?_⟩, fun u hu => ⟨by rw [a1], ?_, fun i hi => ?_, fun w hw => ?_⟩, fun t ht => ⟨by rw [a1], ?_, ?_, ?_, fun c hc => by rw [a1], fun r hr => ⟨fun c hc => ⟨?_, ?_⟩, fun b hb => ?_⟩⟩, fun p hp b hb => ?_⟩
      · exact a2 _ _ (by decide) (by decide) (by decide)
      · exact a2 _ _ (by decide) (by decide) (by decide)
      · exact a2 _ _ (by decide) (by decide) (by decide)
      · exact a2 _ _ (by decide) (by decide) (by decide)
      · exact a2 _ _ (by decide) (by decide) (by decide)
      · exact a2 _ _ (by decide) (by decide) (by decide)
      · exact a2 _ _ (by decide) (by decide) (by decide)
      · exact a3 _ (fun u' w' h1 h2 => by omega)
      · exact a2 _ _ (by decide) (by decide) (by decide)
      · exact a2 _ _ (by decide) (by decide) (by decide)
      · exact a2 _ _ (by decide) (by decide) (by decide)
      · exact a2 _ _ (by decide) (by decide) (by decide)
      · exact a2 _ _ (by decide) (by decide) (by decide)
      · refine a6 _ _ hb (fun z => ?_)
        obtain ⟨t', r', c1, c2, c3⟩ := z
        have := (hR t' c1).2
        dsimp only at c2
        omega
      · have := w3.2.1
        rw [a7 _ _ hb, if_neg (by omega)]
end DD17
