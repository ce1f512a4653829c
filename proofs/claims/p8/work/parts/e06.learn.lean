/-! THE CLASS: learn -/
/-- two places alone name another ROWS -/
def cx_kr (X X' : fx_X) : Prop := (∀ r k, ¬ (r = 91 ∧ k = 2) → ¬ (r = 95 ∧ k = 7) → X'.2.2.1 r k = X.2.2.1 r k) ∧ X'.2.2.2 = X.2.2.2
section CE06
variable {X X' X0 X1 : fx_X} {v p y1 y2 y3 : Int32} {u : Unit} {sr k m j near l nl N n : Nat} {T : md_T} {es : List md_Ev} {hz : Prop} {pt : List (Nat → Bool)} {U : md_U} {TB : md_TB} {f : Nat → Bool}
theorem cx_kr_tr (h1 : cx_kr X X0) (h2 : cx_kr X0 X1) : cx_kr X X1 := ⟨fun r k a b => (h2.1 r k a b).trans (h1.1 r k a b), h2.2.trans h1.2⟩
theorem cx_kr_e (h : X'.2.2 = X.2.2) : cx_kr X X' := ⟨fun r k _ _ => by rw [h], by rw [h]⟩
theorem cx_UT_k (hs : sr = 54 ∨ sr = 66) (h : cx_U X sr U ∧ cx_TB X sr hz TB ∧ cx_O X ∧ ∀ fr, md_gd (U, none, TB, (0, 0), [], [], fr)) (e2 : cx_kr X X') (e1 : ∀ q k, ((q = sr ∧ (k = 11 ∨ k = 12 ∨ k = 13)) ∨ q = sr + 2 ∨ q = sr + 3 ∨ q = sr + 11 ∨ q = 102 ∨ 150 ≤ q) → X'.1 q k = X.1 q k) (el : ∀ q, (q = sr + 1 ∨ q = sr + 9 ∨ q = sr + 10) → X'.2.1 q = X.2.1 q) : cx_U X' sr U ∧ cx_TB X' sr hz TB ∧ cx_O X' ∧ ∀ fr, md_gd (U, none, TB, (0, 0), [], [], fr) := by
  obtain ⟨⟨u1, u2, u3⟩, ⟨t1, t2⟩, o, gd⟩ := h
  refine ⟨⟨by rw [e1 _ _ (by omega)]; exact u1, by rw [e1 _ _ (by omega)]; exact u2, fun u x hx => ?_⟩, ⟨by rw [e1 _ _ (by omega)]; exact t1, fun t x hx => ?_⟩, ?_, gd⟩
  · obtain ⟨a1, a2, a3⟩ := u3 u x hx
    exact ⟨by rw [el _ (by omega)]; exact a1, by rw [e1 _ _ (by omega)]; exact a2, fun i v hv => by rw [e1 _ _ (by omega)]; exact a3 i v hv⟩
  · obtain ⟨a1, a2, r, a3, a4, a5, a6⟩ := t2 t x hx
    have ht := (List.getElem?_eq_some_iff.mp hx).1
    have h10 : TB.length ≤ 10 := (gd 0).2.2.2.2.1
    have hr := (o.2.1 (sr + 8, t) r (cx_slot hs (by omega)) a3).1
    refine ⟨by rw [el _ (by omega)]; exact a1, by rw [e1 _ _ (by omega)]; exact a2, r, by rw [e2.1 _ _ (by omega) (by omega)]; exact a3, by rw [e1 _ _ (by omega)]; exact a4, fun z => by rw [e1 _ _ (by omega)]; exact a5 z, fun c n hn => by rw [el _ (by omega)]; exact a6 c n hn⟩
  · have sl : ∀ s, cx_sl s → X'.2.2.1 s.1 s.2 = X.2.2.1 s.1 s.2 := fun s hs => e2.1 _ _ (by rcases hs with h | h | h | h <;> omega) (by rcases hs with h | h | h | h <;> omega)
    obtain ⟨o1, o2, o3⟩ := o
    refine ⟨by rw [e2.2]; exact o1, fun s r h1 h2 => ?_, fun s s' r r' h1 h2 h3 h4 => ?_⟩
    · rw [sl s h1] at h2
      rw [e2.2]
      exact o2 s r h1 h2
    · rw [sl s h1] at h3
      rw [sl s' h2] at h4
      exact o3 s s' r r' h1 h2 h3 h4
theorem cx_MH_k (hM : cx_MH sr hz U TB pt nl X) (e2 : cx_kr X X') (e1 : ∀ q k, ((sr ≤ q ∧ q < sr + 12) ∨ q = 102 ∨ 150 ≤ q) → X'.1 q k = X.1 q k) (el : ∀ q, (q = sr + 1 ∨ q = sr + 9 ∨ q = sr + 10) → X'.2.1 q = X.2.1 q) : cx_MH sr hz U TB pt nl X' := by
  obtain ⟨a1, hs, aU, a6, a7, a8, a9, a10⟩ := hM
  refine ⟨by rw [e2.1 _ _ (by omega) (by omega)]; exact a1, hs, cx_UT_k hs aU e2 (fun q k h => e1 q k (by omega)) el, ⟨a6.1, a6.2.1, fun w u hw hu => by rw [e1 _ _ (by omega)]; exact a6.2.2 w u hw hu⟩, ⟨by rw [e1 _ _ (by omega)]; exact a7.1, a7.2.1, fun w p hw hp => by rw [e1 _ _ (by omega)]; exact a7.2.2 w p hw hp⟩, ⟨by rw [e1 _ _ (by omega)]; exact a8.1, fun k w hk => by rw [e1 _ _ (by omega)]; exact a8.2 k w hk⟩, by rw [e1 _ _ (by omega)]; exact a9, a10⟩
theorem cx_MH_kp (hM : cx_MH sr hz U TB pt nl X) (h : cx_kp X X') : cx_MH sr hz U TB pt nl X' := by
  have hs := hM.2.1
  exact cx_MH_k hM ⟨fun r k a _ => h.2.2.1 r k (fun z y => a ⟨z, y⟩), h.2.2.2⟩ (fun q k hq => h.1 q k (by omega) (by omega)) (fun q hq => h.2.1 q (by omega))
/-- what is told of it, worked out -/
theorem cx_156 {P : md_P} {s s2 s' : md_CS} {ws' : md_WS} {as : List Int} {sd : md_Sd × md_Sd} {rel : Int} (hM : cx_MH sr hz (rp_Uf P) TB pt nl X) (hsd : (X.1 95 8).toInt = sd.1.1 ∧ X.1 95 9 = sd.1.2 ∧ (X.1 95 10).toInt = sd.2.1 ∧ X.1 95 11 = sd.2.2 ∧ (X.1 95 12).toInt = rel) (hc : ∀ e, e ∈ es → md_cset e.1 = true ∧ 170 ≤ e.1) (hfa : md_fa (rp_T P) s es = md_k (s2, as)) (hfd : md_fd true P (s, ([], [], [], sd, rel, [], 0, none, 0, 0)) es = md_k (s', ws')) (h83 : ∀ (j : Nat) (x : md_Nt), (md_nts es)[j]? = some x → (X.1 83 j).toInt = x.1) (h86 : ∀ (j : Nat) (a : Int), as[j]? = some a → (X.1 86 j).toInt = a) (h824 : (X.1 82 4).toInt = ((md_nts es).length : Int)) (hle : (md_nts es).length ≤ 2002) (g : gx_156 sr X u X') : cx_MH sr hz (rp_Uf P) TB pt nl X' ∧ cx_tr X' (md_all (rp_Uf P)) (md_tr ws') ∧ cx_kr X X' := by
  obtain ⟨n, X2, e2, g⟩ := g
  have hs := hM.2.1
  have k2 : X2.1 = X.1 := by rw [e2]; rfl
  have kr : cx_kr X X2 := by
    refine ⟨fun r k _ h => ?_, by rw [e2]; rfl⟩
    rw [e2]
    exact if_neg h
  have kl : X2.2.1 = X.2.1 := by rw [e2]; rfl
  have hM2 : cx_MH sr hz (rp_Uf P) TB pt nl X2 := cx_MH_k hM kr (fun q k _ => by rw [k2]) (fun q _ => by rw [kl])
  have h7 : X2.2.2.1 95 7 = some sr := by rw [e2]; show (if 95 = 95 ∧ 7 = 7 then some sr else X.2.2.1 95 7) = some sr; exact if_pos ⟨rfl, rfl⟩
  have hSd : cx_Sd X2 sr (rp_W P) sd rel := by
    obtain ⟨a, b, c, d, e⟩ := hsd
    refine ⟨h7, by rw [k2]; exact a, by rw [k2]; exact b, by rw [k2]; exact c, by rw [k2]; exact d, by rw [k2]; exact e, hM2.2.2.1.1.2.1⟩
  obtain ⟨b1, b2, -⟩ := cx_156l (X0 := X2) hs hM2.2.2.2.1 es s s2 s' ([], [], [], sd, rel, [], 0, none, 0, 0) ws' as 0 n _ X2 hc hfa hfd (fun j x hx => by rw [k2, Nat.zero_add]; exact h83 j x hx) (fun j a hx => by rw [k2, Nat.zero_add]; exact h86 j a hx) (by rw [k2, Nat.zero_add]; exact h824) (by omega) rfl ⟨rfl, fun _ _ _ _ => rfl, fun _ _ => rfl⟩ hSd (fun i f hf => by cases hf) (Nat.zero_le _) g
  refine ⟨cx_MH_k hM2 (cx_kr_e (by rw [b1.1])) (fun q k hq => b1.2.1 q k (by omega) (by omega)) (fun q _ => by rw [b1.1]), b2, cx_kr_tr kr (cx_kr_e (by rw [b1.1]))⟩
end CE06
