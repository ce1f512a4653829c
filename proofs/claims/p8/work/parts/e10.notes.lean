/-! THE CLASS'S WORKER: notes on the ROWS of a TABLE -/
section CE10
variable {X X' X0 X1 : fx_X} {p p1 p2 : Int32} {u : Unit} {sr r r0 W n t t0 wd k : Nat} {tw : List Nat} {val : md_V} {A : List md_Row} {tb tb' : List (List md_Row)} {sk : List md_Q} {tr tr' pt : List (Nat → Bool)} {q : md_Q} {sd : md_Sd × md_Sd} {rel fo fd : Int} {rt rt' : Nat} {pk : Option (List Nat)} {o : Option Nat}
theorem cx_63t (hp : p.toInt = (t : Int)) (ht : t < 10) (h12 : (t : Int) < (X.1 sr 12).toInt) (g : gx_63 sr p X o X') : X = X' ∧ o = X.2.2.1 (sr + 8) t := by
  unfold gx_63 at g
  rw [if_neg (by omega), if_pos (by omega), if_pos (by omega), fx_in hp] at g
  rcases g.2 with ⟨e1, e2, e3⟩ | ⟨b, e1, e2, e3⟩
  · exact ⟨e3.symm, by rw [e2, e1]⟩
  · exact ⟨e3.symm, by rw [e2, e1]⟩
theorem md_mod {α : Type} {l : List α} {f : α → α} {i j : Nat} : (l.modify i f)[j]? = if i = j then l[j]?.map f else l[j]? := by
  rw [List.getElem?_modify]
  by_cases z : i = j
  · subst z
    rw [if_pos rfl]
    cases l[i]? with
    | none => rfl
    | some a =>
      show some (if i = i then f a else a) = some (f a)
      rw [if_pos rfl]
  · rw [if_neg z]
    cases l[j]? with
    | none => rfl
    | some a =>
      show some (if i = j then f a else a) = some a
      rw [if_neg z]
/-- the ROWS of one TABLE put anew -/
theorem cx_WS_tb (hW : cx_WS X sr W n val tw (tb, sk, tr, sd, rel, pt, rt, pk, fo, fd)) (h : cx_ot r X X') (hr : X.2.2.1 (sr + 8) t0 = some r) (ht0 : t0 < 10) (hl : tb'.length ≤ tw.length) (hne : ∀ t : Nat, t ≠ t0 → tb'[t]? = tb[t]?) (h1 : ∀ wd, tw[t0]? = some wd → cx_t1 X' sr W t0 wd tb'[t0]?) (hg : md_gw n (tb', sk, tr', sd, rel, pt, rt', pk, fo, fd)) (h95 : ∀ k, k ≠ 13 → k ≠ 14 → X'.1 95 k = X.1 95 k) (h96 : X'.1 96 = X.1 96 ∧ X'.1 97 = X.1 97) (htr : cx_tr X' W tr') (hro : cx_ro X' tb' rt') : cx_WS X' sr W n val tw (tb', sk, tr', sd, rel, pt, rt', pk, fo, fd) := by
  obtain ⟨w1, hs, w3, w4, w5, w6, ⟨w7, w8⟩, ⟨rs, w9⟩, w10, w11, w12, w13, w14⟩ := hW
  have hr0 : 102 ≤ r := by have := (w3.2.1 (sr + 8, t0) r (cx_slot hs ht0) hr).1; omega
  have h20 : sk.length ≤ 20 := w1.2.2.1
  refine ⟨hg, hs, cx_ot_O w3 h, cx_ot_ce hs hr0 w4 h, ?_, cx_ot_tb w3 hs w6 h hr ht0 hr0 hl hne h1, ⟨by rw [h95 4 (by decide) (by decide)]; exact w7, cx_ot_ls w3 h20 w8 h (fun i r1 hi hi2 => cx_ap_tl w3 hs ht0 hr i r1 (by omega) hi2)⟩, ⟨rs, by rw [h.1]; exact w9⟩, htr, cx_ot_pt hs hr0 w11 h, cx_ot_hd hs hr0 w12 h, hro, ?_⟩
  · obtain ⟨a, b, c, d, e, f, g⟩ := w5
    exact ⟨by rw [h.1]; exact a, by rw [h95 8 (by decide) (by decide)]; exact b, by rw [h95 9 (by decide) (by decide)]; exact c, by rw [h95 10 (by decide) (by decide)]; exact d, by rw [h95 11 (by decide) (by decide)]; exact e, by rw [h95 12 (by decide) (by decide)]; exact f, by rw [h.2 _ _ (by omega) (by omega) (by omega) (by omega) (by omega) (by omega) (by omega) (by omega)]; exact g⟩
  · unfold cx_gp at w14 ⊢
    rw [h96.1, h96.2]
    exact w14
/-- a ROW begun -/
theorem cx_143a (hW : cx_WS X sr W n val tw (tb, sk, tr, sd, rel, pt, rt, pk, fo, fd)) (hW4 : W ≤ 1024) (h1 : p1.toInt = 186) (hp2 : ∃ j : Nat, p2.toInt = (j : Int) ∧ j < 2500 ∧ (X.1 86 j).toInt = (t0 : Int)) (ht : t0 < tb.length) (h30 : (tb.getD t0 []).length < 30) (g : gx_143 p1 p2 X u X') : cx_WS X' sr W n val tw (tb.modify t0 (fun A : List md_Row => A ++ [(([], fun _ => true) : md_Row)]), sk, tr, sd, rel, pt, t0, pk, fo, fd) ∧ X'.1 82 5 = X.1 82 5 := by
  have hW0 := hW
  obtain ⟨w1, hs, w3, w4, w5, w6, ⟨w7, w8⟩, ⟨rs, w9⟩, w10, w11, w12, w13, w14⟩ := hW
  have htw : t0 < tw.length := by have := w6.2.2.1; omega
  have h10 : tw.length ≤ 10 := w6.2.1
  obtain ⟨A, hA⟩ : ∃ A, tb[t0]? = some A := ⟨tb[t0], List.getElem?_eq_getElem ht⟩
  obtain ⟨wd, hwd⟩ : ∃ wd, tw[t0]? = some wd := ⟨tw[t0], List.getElem?_eq_getElem htw⟩
  have hA30 : A.length < 30 := by rw [List.getD_eq_getElem?_getD, hA] at h30; exact h30
  obtain ⟨r, a1, a2, a3⟩ := w6.2.2.2 t0 wd hwd
  rw [hA] at a3
  have a3 : cx_Rr X r W A := a3
  have hr0 := (w3.2.1 (sr + 8, t0) r (cx_slot hs (by omega)) a1).1
  unfold gx_143 at g
  rw [if_pos h1] at g
  obtain ⟨j, j1, j2, j3⟩ := hp2
  obtain ⟨w6', X5, r1, X7, e7, X8, e8, b10, hb, w12', X11, r2, g⟩ := g
  obtain ⟨e5, v6⟩ := cx_40 j1 j2 r1
  subst e5
  have k8 : ∀ q k, ¬ (q = 95 ∧ (k = 13 ∨ k = 14)) → X8.1 q k = X.1 q k := fun q k hq => by rw [e8, fx_rI, if_neg (by omega), e7, fx_rI, if_neg (by omega)]
  have r8 : X8.2 = X.2 := by rw [e8, e7]; rfl
  have i13 : (X8.1 95 13).toInt = (t0 : Int) := by rw [e8, fx_rIk (by decide), e7, fx_rIe, v6]; exact j3
  have i14 : (X8.1 95 14).toInt = 0 := by rw [e8, fx_rIe]; rfl
  have eb : b10 = sr := Option.some.inj (hb.symm.trans (by rw [r8]; exact w5.1))
  subst eb
  obtain ⟨e11, v12⟩ := cx_63t i13 (by omega) (by rw [k8 _ _ (by omega), w6.1]; omega) r2
  subst e11
  rw [r8, a1] at v12
  subst v12
  rcases g with ⟨z, -⟩ | ⟨b, eb, w16, X16, r3, e16⟩
  · cases z
  have eb : r = b := Option.some.inj eb
  subst eb
  have h7 : X8.2.2.1 95 7 = some b10 := by rw [r8]; exact w5.1
  have hR8 : cx_Rr X8 r W A := cx_Rr_e a3 (k8 _ _ (by omega)) (fun k => k8 _ _ (by omega)) (fun k => k8 _ _ (by omega)) (fun k => k8 _ _ (by omega))
  obtain ⟨c1, c2, c3⟩ := cx_144 hs hr0 hW4 h7 (by rw [k8 _ _ (by omega)]; exact w5.2.2.2.2.2.2) hA30 hR8 r3
  rw [e16]
  have hot : cx_ot r X X16 := cx_ot_tr ⟨r8, fun q k _ _ z _ _ _ _ _ => k8 q k (by omega)⟩ (cx_ot_rf c2)
  have hmod : ∀ t : Nat, (tb.modify t0 (fun A : List md_Row => A ++ [(([], fun _ => true) : md_Row)]))[t]? = if t0 = t then tb[t]?.map (fun A : List md_Row => A ++ [(([], fun _ => true) : md_Row)]) else tb[t]? := fun t => md_mod
  have k16 : ∀ k, X16.1 95 k = X8.1 95 k := fun k => c2.2 95 k (by omega)
  refine ⟨?_, by rw [c2.2 82 5 (by omega), k8 82 5 (by omega)]⟩
  refine cx_WS_tb hW0 hot a1 (by omega) (by rw [List.length_modify]; exact w6.2.2.1) (fun t ht => by rw [hmod, if_neg (fun z => ht z.symm)]) (fun wd' hwd' => ?_) ?_ (fun k z1 z2 => by rw [k16]; exact k8 95 k (by omega)) ⟨funext fun k => by rw [c2.2 96 k (by omega), k8 96 k (by omega)], funext fun k => by rw [c2.2 97 k (by omega), k8 97 k (by omega)]⟩ (fun i f hf w hw => by rw [c2.2 106 w (by omega), k8 106 w (by omega)]; exact w10 i f hf w hw) ⟨fun _ => by rw [k16]; exact i13, fun A' r' h1 h2 => ?_⟩
  · rw [hmod, if_pos rfl, hA]
    rw [hwd] at hwd'
    cases hwd'
    refine ⟨r, by rw [c2.1, r8]; exact a1, ?_, c1⟩
    rw [c3, k8 _ _ (by omega)]
    exact a2
  · obtain ⟨g1, g2, g3, g4⟩ := w1
    refine ⟨fun B hB => ?_, g2, g3, g4⟩
    obtain ⟨t, ht⟩ := List.getElem?_of_mem hB
    rw [hmod] at ht
    by_cases z : t0 = t
    · rw [if_pos z, ← z, hA] at ht
      have ht : A ++ [(([], fun _ => true) : md_Row)] = B := Option.some.inj ht
      subst ht
      have gA := g1 A (List.mem_of_getElem? hA)
      refine ⟨by rw [List.length_append]; show A.length + 1 ≤ 30; omega, fun x hx => ?_⟩
      rcases List.mem_append.mp hx with y | y
      · exact gA.2 x y
      · rw [List.mem_singleton.mp y]
        exact ⟨Nat.zero_le _, fun t ht => by cases ht⟩
    · rw [if_neg z] at ht
      exact g1 B (List.mem_of_getElem? ht)
  · rw [hmod, if_pos rfl, hA] at h1
    have h1 : A ++ [(([], fun _ => true) : md_Row)] = A' := Option.some.inj h1
    subst h1
    rw [List.getLast?_concat] at h2
    have h2 : (([], fun _ => true) : md_Row) = r' := Option.some.inj h2
    subst h2
    rw [k16]
    exact i14
end CE10
