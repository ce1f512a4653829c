/-! THE CLASS'S WORKER: notes on the last ROW of a TABLE -/
section CE11
variable {X X' X0 X1 : fx_X} {p p1 p2 : Int32} {u : Unit} {sr r r0 W n t t0 wd k : Nat} {tw : List Nat} {val : md_V} {A B : List md_Row} {tb tb' : List (List md_Row)} {sk : List md_Q} {tr tr' pt : List (Nat → Bool)} {q : md_Q} {sd : md_Sd × md_Sd} {rel fo fd : Int} {rt rt' : Nat} {pk : Option (List Nat)} {o : Option Nat} {x : Nat → Bool} {y : md_Row} {fr : md_Row → md_Row}
theorem md_lr1_s : md_lr1 fr (A ++ [y]) = A ++ [fr y] := by
  unfold md_lr1
  rw [List.length_append]
  show (A ++ [y]).modify (A.length + 1 - 1) fr = _
  rw [Nat.add_sub_cancel]
  refine List.ext_getElem? (fun i => ?_)
  rw [md_mod]
  by_cases z : A.length = i
  · subst z
    rw [if_pos rfl, List.getElem?_append_right (Nat.le_refl _), List.getElem?_append_right (Nat.le_refl _), Nat.sub_self]
    rfl
  · rw [if_neg z]
    by_cases y1 : i < A.length
    · rw [List.getElem?_append_left y1, List.getElem?_append_left y1]
    · rw [List.getElem?_eq_none (by rw [List.length_append]; show A.length + 1 ≤ i; omega), List.getElem?_eq_none (by rw [List.length_append]; show A.length + 1 ≤ i; omega)]
theorem md_last (h : A.length ≠ 0) : ∃ B y, A = B ++ [y] := ⟨A.dropLast, A.getLast (fun z => h (by rw [z]; rfl)), (List.dropLast_concat_getLast _).symm⟩
/-- the last ROW changed: what stays, what is to be shown -/
theorem cx_WS_lr (hW : cx_WS X sr W n val tw (tb, sk, tr, sd, rel, pt, rt, pk, fo, fd)) (h : cx_ot r X X') (hr : X.2.2.1 (sr + 8) rt = some r) (hB : tb[rt]? = some (B ++ [y])) (hok : md_okt n (fr y).1) (hR' : cx_Rr X' r W (B ++ [fr y])) (h3 : X'.1 r 3 = X.1 r 3) (h95 : ∀ k, k ≠ 13 → k ≠ 14 → X'.1 95 k = X.1 95 k) (h13 : X'.1 95 13 = X.1 95 13) (h14 : (X'.1 95 14).toInt = ((fr y).1.length : Int)) (h96 : X'.1 96 = X.1 96 ∧ X'.1 97 = X.1 97) (htr : cx_tr X' W tr') (htl : tr'.length ≤ 32) : cx_WS X' sr W n val tw (tb.modify rt (md_lr1 fr), sk, tr', sd, rel, pt, rt, pk, fo, fd) := by
  have hW0 := hW
  obtain ⟨w1, hs, w3, w4, w5, w6, ⟨w7, w8⟩, ⟨rs, w9⟩, w10, w11, w12, w13, w14⟩ := hW
  have ht : rt < tb.length := (List.getElem?_eq_some_iff.mp hB).1
  have htw : rt < tw.length := by have := w6.2.2.1; omega
  have h10 : tw.length ≤ 10 := w6.2.1
  have hnew : (tb.modify rt (md_lr1 fr))[rt]? = some (B ++ [fr y]) := by
    rw [md_mod, if_pos rfl, hB]
    show some (md_lr1 fr (B ++ [y])) = _
    rw [md_lr1_s]
  refine cx_WS_tb hW0 h hr (by omega) (by rw [List.length_modify]; exact w6.2.2.1) (fun t ht => by rw [md_mod, if_neg (fun z => ht z.symm)]) (fun wd hwd => ?_) ?_ h95 h96 htr ⟨fun _ => by rw [h13]; exact w13.1 ht, fun A' r' h1 h2 => ?_⟩
  · obtain ⟨r1, a1, a2, -⟩ := w6.2.2.2 rt wd hwd
    have e : r1 = r := Option.some.inj (a1.symm.trans hr)
    subst e
    rw [hnew]
    exact ⟨r1, by rw [h.1]; exact a1, by rw [h3]; exact a2, hR'⟩
  · obtain ⟨g1, g2, g3, g4⟩ := w1
    refine ⟨fun C hC => ?_, g2, g3, htl⟩
    obtain ⟨t, ht⟩ := List.getElem?_of_mem hC
    by_cases z : rt = t
    · subst z
      rw [hnew] at ht
      have ht : B ++ [fr y] = C := Option.some.inj ht
      subst ht
      have gB := g1 _ (List.mem_of_getElem? hB)
      rw [md_okA', List.length_append] at gB
      refine ⟨by rw [List.length_append]; exact gB.1, fun x hx => ?_⟩
      rcases List.mem_append.mp hx with z | z
      · exact gB.2 x (List.mem_append_left _ z)
      · rw [List.mem_singleton.mp z]; exact hok
    · rw [md_mod, if_neg z] at ht
      exact g1 C (List.mem_of_getElem? ht)
  · rw [hnew] at h1
    have h1 : B ++ [fr y] = A' := Option.some.inj h1
    subst h1
    rw [List.getLast?_concat] at h2
    have h2 : fr y = r' := Option.some.inj h2
    subst h2
    exact h14
/-- the ROWS that the last ROW is of -/
theorem cx_rt63 (hW : cx_WS X sr W n val tw (tb, sk, tr, sd, rel, pt, rt, pk, fo, fd)) (ht : rt < tb.length) : ∃ r, X.2.2.1 (sr + 8) rt = some r ∧ (r = 102 ∨ 150 ≤ r) ∧ (∀ A, tb[rt]? = some A → cx_Rr X r W A) ∧ ∀ o X', gx_63 sr (X.1 95 13) X o X' → X = X' ∧ o = some r := by
  obtain ⟨w1, hs, w3, w4, w5, w6, ⟨w7, w8⟩, ⟨rs, w9⟩, w10, w11, w12, w13, w14⟩ := hW
  have htw : rt < tw.length := by have := w6.2.2.1; omega
  have h10 : tw.length ≤ 10 := w6.2.1
  obtain ⟨wd, hwd⟩ : ∃ wd, tw[rt]? = some wd := ⟨tw[rt], List.getElem?_eq_getElem htw⟩
  obtain ⟨r, a1, a2, a3⟩ := w6.2.2.2 rt wd hwd
  refine ⟨r, a1, (w3.2.1 (sr + 8, rt) r (cx_slot hs (by omega)) a1).1, fun A hA => by rw [hA] at a3; exact a3, fun o X' g => ?_⟩
  obtain ⟨e1, e2⟩ := cx_63t (w13.1 ht) (by omega) (by rw [w6.1]; omega) g
  exact ⟨e1, by rw [e2]; exact a1⟩
/-- a TERM put -/
theorem cx_143b (hW : cx_WS X sr W n val tw (tb, sk, tr, sd, rel, pt, rt, pk, fo, fd)) (h1 : p1.toInt = 187) (hB : tb[rt]? = some (B ++ [y])) (h6 : y.1.length < 6) (hsd : md_okb n 0 sd.2 = true) (g : gx_143 p1 p2 X u X') : cx_WS X' sr W n val tw (tb.modify rt (md_lr1 (fun r : md_Row => ((r.1 ++ [(sd.2.1 == 1, sd.2.2)], r.2) : md_Row))), sk, tr, sd, rel, pt, rt, pk, fo, fd) ∧ X'.1 82 5 = X.1 82 5 := by
  have ht : rt < tb.length := (List.getElem?_eq_some_iff.mp hB).1
  obtain ⟨r, a1, a2, a3, a4⟩ := cx_rt63 hW ht
  have hW0 := hW
  obtain ⟨w1, hs, w3, w4, w5, w6, ⟨w7, w8⟩, ⟨rs, w9⟩, w10, w11, w12, w13, w14⟩ := hW
  unfold gx_143 at g
  rw [if_neg (by omega), if_pos h1] at g
  obtain ⟨b19, hb, w21, X20, r1, g⟩ := g
  have eb : b19 = sr := Option.some.inj (hb.symm.trans w5.1)
  subst eb
  obtain ⟨e20, v21⟩ := a4 _ _ r1
  subst e20
  subst v21
  rcases g with ⟨z, -⟩ | ⟨b, eb, w25, X24, r2, e⟩
  · cases z
  have eb : r = b := Option.some.inj eb
  subst eb
  rw [e]
  have gB := w1.1 _ (List.mem_of_getElem? hB)
  have h14 := w13.2 _ y hB List.getLast?_concat
  obtain ⟨ts, f⟩ := y
  obtain ⟨c1, c2, c3, c4, c5⟩ := cx_145 a2 w5.2.2.2.1 w5.2.2.2.2.1 gB h6 h14 (a3 _ hB) r2
  refine ⟨?_, c4 82 5 (by omega) (by omega)⟩
  refine cx_WS_lr hW0 ⟨c3, fun q k h1 _ z _ _ _ _ _ => c4 q k (fun y => z y.1) h1⟩ a1 hB ?_ c1 c5 (fun k z1 z2 => c4 95 k (fun y => z2 y.2) (by omega)) (c4 95 13 (by omega) (by omega)) ?_ ⟨funext fun k => c4 96 k (by omega) (by omega), funext fun k => c4 97 k (by omega) (by omega)⟩ (fun i f hf w hw => by rw [c4 106 w (by omega) (by omega)]; exact w10 i f hf w hw) w1.2.2.2
  · have gy := gB.2 (ts, f) (List.mem_append_right _ List.mem_cons_self)
    have h6 : ts.length < 6 := h6
    refine ⟨by show (ts ++ [_]).length ≤ 6; rw [List.length_append]; show ts.length + 1 ≤ 6; omega, fun t ht h1 => ?_⟩
    have ht : t ∈ ts ++ [(sd.2.1 == 1, sd.2.2)] := ht
    rcases List.mem_append.mp ht with z | z
    · exact gy.2 t z h1
    · have z := List.mem_singleton.mp z
      subst z
      have h1 : (sd.2.1 == 1) = true := h1
      rw [beq_iff_eq] at h1
      rcases md_okb_s hsd with q | q | q
      · omega
      · exact q.2
      · omega
  · show _ = (((ts ++ [(sd.2.1 == 1, sd.2.2)]).length : Nat) : Int)
    rw [List.length_append]
    exact c2
/-- where a ROW is -/
theorem cx_143c (hW : cx_WS X sr W n val tw (tb, sk, x :: tr, sd, rel, pt, rt, pk, fo, fd)) (hW4 : W ≤ 1024) (h1 : p1.toInt = 188) (hB : tb[rt]? = some (B ++ [y])) (g : gx_143 p1 p2 X u X') : cx_WS X' sr W n val tw (tb.modify rt (md_lr1 (fun r : md_Row => ((r.1, fun w => r.2 w && x w) : md_Row))), sk, [], sd, rel, pt, rt, pk, fo, fd) ∧ X'.1 82 5 = X.1 82 5 := by
  have ht : rt < tb.length := (List.getElem?_eq_some_iff.mp hB).1
  obtain ⟨r, a1, a2, a3, a4⟩ := cx_rt63 hW ht
  have hW0 := hW
  obtain ⟨w1, hs, w3, w4, w5, w6, ⟨w7, w8⟩, ⟨rs, w9⟩, w10, w11, w12, w13, w14⟩ := hW
  unfold gx_143 at g
  rw [if_neg (by omega), if_neg (by omega), if_pos h1] at g
  obtain ⟨b19, hb, w21, X20, r1, g⟩ := g
  have eb : b19 = sr := Option.some.inj (hb.symm.trans w5.1)
  subst eb
  obtain ⟨e20, v21⟩ := a4 _ _ r1
  subst e20
  subst v21
  rcases g with ⟨z, -⟩ | ⟨b, eb, w25, X24, r2, e⟩
  · cases z
  have eb : r = b := Option.some.inj eb
  subst eb
  rw [e]
  have gB := w1.1 _ (List.mem_of_getElem? hB)
  have h14 := w13.2 _ y hB List.getLast?_concat
  have gBl := gB.1
  rw [List.length_append] at gBl
  have gBl : B.length + 1 ≤ 30 := gBl
  obtain ⟨ts, f⟩ := y
  obtain ⟨c1, c2, c3⟩ := cx_146 hs a2 hW4 w5.1 w5.2.2.2.2.2.2 (by omega) (fun w hw => w10 0 x rfl w hw) (a3 _ hB) r2
  have gy := gB.2 (ts, f) (List.mem_append_right _ List.mem_cons_self)
  refine ⟨?_, c2.2 82 5 (by omega)⟩
  refine cx_WS_lr hW0 (cx_ot_rf c2) a1 hB gy c1 c3 (fun k _ _ => c2.2 95 k (by omega)) (c2.2 95 13 (by omega)) ?_ ⟨funext fun k => c2.2 96 k (by omega), funext fun k => c2.2 97 k (by omega)⟩ (fun i f hf => by cases hf) (Nat.zero_le _)
  rw [c2.2 95 14 (by omega)]
  exact h14
end CE11
