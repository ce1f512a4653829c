/-! THE CLASS: a text worked out, whole -/
/-- what the working out of a text leaves as it was -/
def cx_n7 (sr : Nat) (X X' : fx_X) : Prop := (∀ q, (q < 95 ∨ 107 ≤ q) → X'.2.1 q = X.2.1 q) ∧ (∀ q k, (q < 95 ∨ (107 ≤ q ∧ q < 150)) → (q = 82 → k = 4) → q ≠ sr + 4 → q ≠ sr + 5 → q ≠ sr + 6 → ¬ (q = sr ∧ (k = 14 ∨ k = 15)) → X'.1 q k = X.1 q k) ∧ (∀ t r, t < 10 → X.2.2.1 (128 - sr) t = some r → ∀ q k, r ≤ q → q < r + 4 → X'.1 q k = X.1 q k) ∧ (∀ q j, q < 150 → q ≠ 101 → ¬ (q = 95 ∧ (j = 5 ∨ j = 7)) → X'.2.2.1 q j = X.2.2.1 q j) ∧ cx_K5 X'
section CE28
variable {P : md_P} {X X' X0 X1 : fx_X} {v p1 y1 y2 y3 : Int32} {u : Unit} {sr k m j near l : Nat} {T : md_T} {U : md_U} {s0 s1 : md_CS} {es : List md_Ev} {as : List Int}
/-- the worker's state ahead of a text -/
def cx_w0 (X : fx_X) : md_WS := ([], [], [], (((X.1 95 8).toInt, X.1 95 9), ((X.1 95 10).toInt, X.1 95 11)), (X.1 95 12).toInt, [], 1000, none, (X.1 96 2).toInt, (X.1 96 3).toInt)
theorem cx_97 (hCS : cx_CS X sr True s1) (h5 : ∃ rs, X.2.2.1 95 5 = some rs) (h15 : (X.1 sr 15).toInt = 0) (hf : (X.1 82 5).toInt = 0) (hT0 : s0.2.2.1 = []) (he2 : md_e2 false es) (hfa : md_fa (rp_T P) s0 es = md_k (s1, as)) (hUf : rp_Uf P = s1.1) (hW1 : 0 < md_all s1.1) (hfd : md_fd true P (s0, cx_w0 X) es ≠ none) (h83 : ∀ (j : Nat) (x : md_Nt), (md_nts es)[j]? = some x → (X.1 83 j).toInt = x.1) (h86 : ∀ (j : Nat) (a : Int), as[j]? = some a → (X.1 86 j).toInt = a) (h824 : (X.1 82 4).toInt = ((md_nts es).length : Int)) (hle : (md_nts es).length ≤ 2002) (g : gx_97 sr X u X') : cx_n7 sr X X' ∧ ((md_fd true P (s0, cx_w0 X) es = some none ∧ (X'.1 82 5).toInt ≠ 0) ∨ ∃ q', md_fd true P (s0, cx_w0 X) es = md_k q' ∧ cx_WS X' sr (md_all s1.1) s1.1.length (md_val s1.1) (s1.2.2.1.map (fun x => x.2.2.length)) q'.2 ∧ (X'.1 82 5).toInt = 0) := by
  obtain ⟨hgd, hU, -, hTB, -, -, -, hO, -, hs⟩ := hCS
  obtain ⟨n, X2, e2, b4, h4, w6, X5, r1, X7, e7, g⟩ := g
  have k2 : X2.1 = X.1 := by rw [e2]; rfl
  have l2 : X2.2.1 = X.2.1 := by rw [e2]; rfl
  have n2 : X2.2.2.2 = X.2.2.2 := by rw [e2]; rfl
  have r2 : ∀ q j, ¬ (q = 95 ∧ j = 7) → X2.2.2.1 q j = X.2.2.1 q j := fun q j h => by rw [e2]; exact if_neg h
  have h7 : X2.2.2.1 95 7 = some sr := by rw [e2]; show (if 95 = 95 ∧ 7 = 7 then some sr else X.2.2.1 95 7) = some sr; exact if_pos ⟨rfl, rfl⟩
  have eb : b4 = sr := Option.some.inj (h4.symm.trans h7)
  subst eb
  have hU2 : cx_U X2 b4 s1.1 := by
    obtain ⟨u1, u2, u3⟩ := hU
    exact ⟨by rw [k2]; exact u1, by rw [k2]; exact u2, fun u x hx => ⟨by rw [l2]; exact (u3 u x hx).1, by rw [k2]; exact (u3 u x hx).2.1, fun i v hv => by rw [k2]; exact (u3 u x hx).2.2 i v hv⟩⟩
  obtain ⟨c1, c2, c3, c4, c5⟩ := cx_3 hs ⟨hgd.2.2.2.1, hgd.2.2.2.2.2.2.1, hgd.2.2.2.2.2.2.2.2⟩ hU2 (P := 0) (by rw [k2]; exact h15) (Nat.zero_le _) r1
  have k7 : ∀ q k, q ≠ b4 + 4 → q ≠ b4 + 5 → q ≠ b4 + 6 → ¬ (q = b4 ∧ k = 14) → ¬ (q = 95 ∧ k = 4) → X7.1 q k = X.1 q k := fun q k z1 z2 z3 z4 z5 => by
    rw [e7, fx_rI, if_neg z5, c5 q k z1 z2 z3 z4, k2]
  have k75 : ∀ q k, ¬ (q = 95 ∧ k = 4) → X7.1 q k = X5.1 q k := fun q k z5 => by rw [e7, fx_rI, if_neg z5]
  have e72 : X7.2 = X2.2 := by rw [e7]; exact c4
  have hO7 : cx_O X7 := by
    have sl : ∀ s, cx_sl s → X7.2.2.1 s.1 s.2 = X.2.2.1 s.1 s.2 := fun s hs => by
      rw [e72]
      exact r2 _ _ (by rcases hs with h | h | h | h <;> omega)
    obtain ⟨o1, o2, o3⟩ := hO
    refine ⟨by rw [e72, n2]; exact o1, fun s r h1 h2 => ?_, fun s s' r r' h1 h2 h3 h4 => ?_⟩
    · rw [sl s h1] at h2
      rw [e72, n2]
      exact o2 s r h1 h2
    · rw [sl s h1] at h3
      rw [sl s' h2] at h4
      exact o3 s s' r r' h1 h2 h3 h4
  have hnt : ([] : List (Nat → Bool)) = List.replicate 0 (fun _ => true) := rfl
  have hWS : cx_WS X7 b4 (rp_W P) (rp_n P) (rp_v P) (s1.2.2.1.map (fun x => x.2.2.length)) (cx_w0 X) := by
    have eW : rp_W P = md_all s1.1 := by show md_all (rp_Uf P) = _; rw [hUf]
    have en : rp_n P = s1.1.length := by show (rp_Uf P).length = _; rw [hUf]
    have ev : rp_v P = md_val s1.1 := by show md_val (rp_Uf P) = _; rw [hUf]
    rw [eW, en, ev]
    refine ⟨⟨fun A hA => (by cases hA), fun q hq => (by cases hq), Nat.zero_le _, Nat.zero_le _⟩, hs, hO7, ?_, ⟨by rw [e72]; exact h7, by rw [k7 95 8 (by omega) (by omega) (by omega) (by omega) (by omega)], by rw [k7 95 9 (by omega) (by omega) (by omega) (by omega) (by omega)], by rw [k7 95 10 (by omega) (by omega) (by omega) (by omega) (by omega)], by rw [k7 95 11 (by omega) (by omega) (by omega) (by omega) (by omega)], by rw [k7 95 12 (by omega) (by omega) (by omega) (by omega) (by omega)], by rw [k7 b4 13 (by omega) (by omega) (by omega) (by omega) (by omega)]; exact hU.2.1⟩, ⟨?_, by rw [List.length_map]; exact hgd.2.2.2.2.1, Nat.zero_le _, fun t wd ht => ?_⟩, ⟨by rw [e7, fx_rIe]; rfl, True.intro⟩, ?_, fun i f hf => (by cases hf), ?_, ?_, ⟨fun h => absurd h (Nat.not_lt_zero _), fun A r h => (by cases h)⟩, ⟨fun ps hp => (by cases hp), by rw [k7 96 2 (by omega) (by omega) (by omega) (by omega) (by omega)], by rw [k7 96 3 (by omega) (by omega) (by omega) (by omega) (by omega)]⟩⟩
    · exact ⟨c1.1, c1.2.1, fun w u hw hu => by rw [k75 _ _ (by omega)]; exact c1.2.2 w u hw hu⟩
    · rw [k7 b4 12 (by omega) (by omega) (by omega) (by omega) (by omega), List.length_map]; exact hTB.1
    · rw [List.getElem?_map] at ht
      cases hx : s1.2.2.1[t]? with
      | none => rw [hx] at ht; cases ht
      | some x =>
        rw [hx] at ht
        have ht : x.2.2.length = wd := Option.some.inj ht
        subst ht
        obtain ⟨-, -, r, a3, a4, a5, -⟩ := hTB.2 t x hx
        have htl : t < 10 := by have := (List.getElem?_eq_some_iff.mp hx).1; have := hgd.2.2.2.2.1; omega
        have hr := (hO.2.1 (b4 + 8, t) r (cx_slot hs htl) a3).1
        refine ⟨r, by rw [e72, r2 _ _ (by omega)]; exact a3, by rw [k7 r 3 (by omega) (by omega) (by omega) (by omega) (by omega)]; exact a4, ?_⟩
        show (X7.1 r 4).toInt = 0
        rw [k7 r 4 (by omega) (by omega) (by omega) (by omega) (by omega)]
        exact a5 True.intro
    · obtain ⟨rs, h5⟩ := h5
      exact ⟨rs, by rw [e72, r2 _ _ (by omega)]; exact h5⟩
    · exact ⟨by rw [k75 _ _ (by omega)]; exact c2.1, c2.2.1, fun w p hw hp => by rw [k75 _ _ (by omega)]; exact c2.2.2 w p hw hp⟩
    · exact ⟨by rw [k75 _ _ (by omega)]; exact c3.1, fun k w hk => by rw [k75 _ _ (by omega)]; exact c3.2 k w hk⟩
  have hkk : ∀ q k, 78 ≤ q → q < 95 → X7.1 q k = X.1 q k := fun q k z1 z2 => k7 q k (by omega) (by omega) (by omega) (by omega) (by omega)
  obtain ⟨f1, f2⟩ := cx_97l (X0 := X7) (tw := s1.2.2.1.map (fun x => x.2.2.length)) hs (show 0 < md_all (rp_Uf P) by rw [hUf]; exact hW1) (s2 := s1) rfl es false s0 (cx_w0 X) as 0 n _ X7 he2 hfa hfd (by rw [hT0]; rfl) (Or.inr (by show 10 ≤ 1000; decide)) (fun j x hx => by rw [hkk _ _ (by decide) (by decide), Nat.zero_add]; exact h83 j x hx) (fun j a hx => by rw [hkk _ _ (by decide) (by decide), Nat.zero_add]; exact h86 j a hx) (by rw [hkk _ _ (by decide) (by decide), Nat.zero_add]; exact h824) (by omega) rfl cx_nf_rf (by rw [hkk _ _ (by decide) (by decide)]; exact hf) hWS g
  refine ⟨⟨fun q hq => by rw [f1.1 q hq, e72, l2], fun q k z1 z2 z3 z4 z5 z6 => by rw [f1.2.1 q k z1 z2 z4 z5 z6]; exact k7 q k z3 z4 z5 (by omega) (by omega), fun t r ht hr q k z1 z2 => ?_, fun q j z1 z2 z3 => by rw [f1.2.2.2.1 q j z1 z2 (by omega), e72]; exact r2 q j (by omega), f1.2.2.2.2 ⟨hO7, by obtain ⟨rs, h5⟩ := h5; exact ⟨rs, by rw [e72, r2 _ _ (by omega)]; exact h5⟩⟩⟩, ?_⟩
  · have h0 := (hO.2.1 (128 - b4, t) r (cx_slo hs ht) hr).1
    rw [f1.2.2.1 t r ht (by rw [e72, r2 _ _ (by omega)]; exact hr) q k z1 z2]
    exact k7 q k (by omega) (by omega) (by omega) (by omega) (by omega)
  · rcases f2 with ⟨y1, y2⟩ | ⟨q', y1, y2, y3⟩
    · exact Or.inl ⟨y1, y2⟩
    · refine Or.inr ⟨q', y1, ?_, y3⟩
      have eW : rp_W P = md_all s1.1 := by show md_all (rp_Uf P) = _; rw [hUf]
      have en : rp_n P = s1.1.length := by show (rp_Uf P).length = _; rw [hUf]
      have ev : rp_v P = md_val s1.1 := by show md_val (rp_Uf P) = _; rw [hUf]
      rw [eW, en, ev] at y2
      exact y2
end CE28
