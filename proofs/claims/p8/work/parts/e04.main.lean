/-! THE CLASS: the shelf, learn and undo -/
/-- its UNKNOWNS, TABLES, what is so, how much of that was learned -/
def cx_MH (sr : Nat) (hz : Prop) (U : md_U) (TB : md_TB) (pt : List (Nat → Bool)) (nl : Nat) (X : fx_X) : Prop := X.2.2.1 52 3 = some sr ∧ (sr = 54 ∨ sr = 66) ∧ (cx_U X sr U ∧ cx_TB X sr hz TB ∧ cx_O X ∧ ∀ fr, md_gd (U, none, TB, (0, 0), [], [], fr)) ∧ cx_ce X sr (md_all U) U.length (md_val U) ∧ cx_pt X sr (md_all U) pt ∧ cx_hd X sr (md_hl (md_all U) pt) ∧ ((X.1 sr 16).toInt = (nl : Int) ∧ nl ≤ 8 ∧ nl ≤ pt.length ∧ pt.length ≤ 12 + nl)
section CE04
variable {P : md_P} {X X' X0 X1 : fx_X} {v p1 y1 y2 y3 : Int32} {u : Unit} {sr k m j near l nl : Nat} {hz : Prop} {pt : List (Nat → Bool)} {f x : Nat → Bool} {T : md_T} {U : md_U} {TB : md_TB}
theorem cx_W4 (h : cx_ce X sr (md_all U) U.length (md_val U)) : md_all U ≤ 1024 := h.1
theorem cx_UT_e (hs : sr = 54 ∨ sr = 66) (h : cx_U X sr U ∧ cx_TB X sr hz TB ∧ cx_O X ∧ ∀ fr, md_gd (U, none, TB, (0, 0), [], [], fr)) (e2 : X'.2.2 = X.2.2) (e1 : ∀ q k, ((q = sr ∧ (k = 11 ∨ k = 12 ∨ k = 13)) ∨ q = sr + 2 ∨ q = sr + 3 ∨ q = sr + 11 ∨ q = 102 ∨ 150 ≤ q) → X'.1 q k = X.1 q k) (el : ∀ q, (q = sr + 1 ∨ q = sr + 9 ∨ q = sr + 10) → X'.2.1 q = X.2.1 q) : cx_U X' sr U ∧ cx_TB X' sr hz TB ∧ cx_O X' ∧ ∀ fr, md_gd (U, none, TB, (0, 0), [], [], fr) := by
  obtain ⟨⟨u1, u2, u3⟩, ⟨t1, t2⟩, o, gd⟩ := h
  refine ⟨⟨by rw [e1 _ _ (by omega)]; exact u1, by rw [e1 _ _ (by omega)]; exact u2, fun u x hx => ?_⟩, ⟨by rw [e1 _ _ (by omega)]; exact t1, fun t x hx => ?_⟩, ?_, gd⟩
  · obtain ⟨a1, a2, a3⟩ := u3 u x hx
    exact ⟨by rw [el _ (by omega)]; exact a1, by rw [e1 _ _ (by omega)]; exact a2, fun i v hv => by rw [e1 _ _ (by omega)]; exact a3 i v hv⟩
  · obtain ⟨a1, a2, r, a3, a4, a5, a6⟩ := t2 t x hx
    have ht := (List.getElem?_eq_some_iff.mp hx).1
    have h10 : TB.length ≤ 10 := (gd 0).2.2.2.2.1
    have hr := (o.2.1 (sr + 8, t) r (cx_slot hs (by omega)) a3).1
    refine ⟨by rw [el _ (by omega)]; exact a1, by rw [e1 _ _ (by omega)]; exact a2, r, by rw [e2]; exact a3, by rw [e1 _ _ (by omega)]; exact a4, fun z => by rw [e1 _ _ (by omega)]; exact a5 z, fun c n hn => by rw [el _ (by omega)]; exact a6 c n hn⟩
  · unfold cx_O at o ⊢
    rw [e2]
    exact o
/-- undone, or nothing there to undo -/
theorem cx_159 (hM : cx_MH sr hz U TB pt nl X) (g : gx_159 X v X') : (nl = 0 ∧ v = Int32.ofInt 0 ∧ X' = X) ∨ (0 < nl ∧ v = Int32.ofInt 1 ∧ cx_MH sr hz U TB pt.dropLast (nl - 1) X') := by
  obtain ⟨a1, hs, aU, a6, a7, a8, a9, a10, a11, a12⟩ := hM
  obtain ⟨b3, h3, g⟩ := g
  have e : b3 = sr := Option.some.inj (h3.symm.trans a1)
  subst e
  rcases fy_ifd g with ⟨c, g1⟩ | ⟨c, g1⟩
  · right
    have hnl : 0 < nl := by omega
    obtain ⟨b6, h6, X7, e7, b9, h9, w11, X10, r1, w13, X12, r2, e1, e2⟩ := g1
    have e : b6 = b3 := Option.some.inj (h6.symm.trans a1)
    subst e
    have h7 : X7.2 = X.2 := by rw [e7]; rfl
    have e : b9 = b6 := Option.some.inj (h9.symm.trans (by rw [h7]; exact a1))
    subst e
    have k7 : ∀ q k, ¬ (q = b9 ∧ k = 16) → X7.1 q k = X.1 q k := fun q k h => by rw [e7, fx_rI, if_neg h]
    have hpl : 0 < pt.length := by omega
    obtain ⟨f, hf⟩ : ∃ f, pt = pt.dropLast ++ [f] := ⟨pt.getLast (fun z => by rw [z] at hpl; exact absurd hpl (Nat.lt_irrefl _)), (List.dropLast_concat_getLast _).symm⟩
    have hW := a6.1
    have hpt7 : cx_pt X7 b9 (md_all U) (pt.dropLast ++ [f]) := by
      rw [← hf]
      refine ⟨by rw [k7 _ _ (by omega)]; exact a7.1, a7.2.1, fun w p hw hp => by rw [k7 _ _ (by omega)]; exact a7.2.2 w p hw hp⟩
    obtain ⟨b1, b2, b3, b4⟩ := cx_160 hs hW (by rw [k7 _ _ (by omega)]; exact aU.1.2.1) hpt7 r1
    have f12 := gf_150 r2
    have k12 : ∀ q, q ≠ 107 → q ≠ 113 → X'.1 q = X10.1 q := fun q h1 h2 => by
      rw [e2]
      exact fy_ra f12 List.not_mem_nil (fun z hz e => by
        have : z = (107, 0) ∨ z = (113, 0) := by
          rcases List.mem_cons.mp hz with y | y
          · exact Or.inl y
          · exact Or.inr (List.mem_singleton.mp y)
        rcases this with y | y <;> (rw [y] at e; first | exact h1 e.symm | exact h2 e.symm))
    have kk : ∀ q k, q ≠ 107 → q ≠ 113 → q ≠ b9 + 5 → q ≠ b9 + 6 → ¬ (q = b9 ∧ (k = 14 ∨ k = 15 ∨ k = 16)) → X'.1 q k = X.1 q k := fun q k h1 h2 h3 h4 h5 => by
      rw [k12 q h1 h2, b4 q k h3 h4 (by omega), k7 q k (by omega)]
    have kl : X'.2.1 = X.2.1 := by
      have : X12.2.1 = X10.2.1 := funext fun r => fy_rl f12 List.not_mem_nil (fun z hz => by cases hz)
      rw [e2, this, b3, h7]
    have kr : X'.2.2 = X.2.2 := by rw [e2, f12.1, b3, h7]
    have k16 : (X'.1 b9 16).toInt = ((nl - 1 : Nat) : Int) := by
      have e1' : (Int32.ofInt 1).toInt = 1 := rfl
      rw [k12 b9 (by omega) (by omega), b4 b9 16 (by omega) (by omega) (by omega), e7, fx_rIe, fx_sub (by omega) (by omega), a9]
      omega
    refine ⟨hnl, e1, by rw [kr]; exact a1, hs, ?_, ?_, ?_, ?_, k16, by omega, by rw [List.length_dropLast]; omega, by rw [List.length_dropLast]; omega⟩
    · exact cx_UT_e hs aU kr (fun q k h => kk q k (by omega) (by omega) (by omega) (by omega) (by omega)) (fun q _ => by rw [kl])
    · exact ⟨a6.1, a6.2.1, fun w u hw hu => by rw [kk _ _ (by omega) (by omega) (by omega) (by omega) (by omega)]; exact a6.2.2 w u hw hu⟩
    · exact ⟨by rw [k12 _ (by omega) (by omega)]; exact b1.1, b1.2.1, fun w p hw hp => by rw [k12 _ (by omega) (by omega)]; exact b1.2.2 w p hw hp⟩
    · exact ⟨by rw [k12 _ (by omega) (by omega)]; exact b2.1, fun k w hk => by rw [k12 _ (by omega) (by omega)]; exact b2.2 k w hk⟩
  · exact Or.inl ⟨by omega, g1⟩
end CE04
