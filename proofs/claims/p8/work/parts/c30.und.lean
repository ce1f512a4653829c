/-! THE CLASS UNDERSTANDS A TAPE -/
def md_TL (T : md_T) (L : List (Int × Nat × Int64)) : Prop := ∀ i x, L[i]? = some x → T.1 i = x.1 ∧ T.2 i = x.2.2
/-- what understanding leaves alone -/
def cx_fu (sr : Nat) (X X' : fx_X) : Prop :=
  (∀ r k, (r < 78 ∨ 95 ≤ r) → (r = 52 → k ≠ 1) → ¬ cx_wi sr r k → (∀ t, t < 10 → X.2.2.1 (sr + 8) t ≠ some r) → r < X.2.2.2.2 → X'.1 r k = X.1 r k) ∧
  (∀ r k, (r < 78 ∨ 95 ≤ r) → ¬ cx_wa sr r → X'.2.1 r k = X.2.1 r k) ∧
  (∀ r k, r ≠ sr + 8 → r < X.2.2.2.2 → (r = 91 → k ≠ 2) → X'.2.2.1 r k = X.2.2.1 r k) ∧
  (∀ t r, t < 10 → X.2.2.1 (sr + 8) t = some r → X'.2.2.1 (sr + 8) t = some r) ∧ (∀ t r, t < 10 → X'.2.2.1 (sr + 8) t = some r → X.2.2.1 (sr + 8) t = some r ∨ X.2.2.2.2 ≤ r) ∧ X.2.2.2.2 ≤ X'.2.2.2.2 ∧ (cx_O X → cx_O X')
section CX30
variable {X X' X1 X2 : fx_X} {T : md_T} {p p1 p2 : Int32} {u : Unit} {sr m N : Nat} {U : md_U} {TB : md_TB} {hz : Prop} {F L : List (Nat × Nat)} {A : List Nat}
theorem cx_fu_tr (h1 : cx_fu sr X X1) (h2 : cx_fu sr X1 X2) : cx_fu sr X X2 := by
  obtain ⟨a1, a2, a3, a4, a5, a6, a7⟩ := h1
  obtain ⟨b1, b2, b3, b4, b5, b6, b7⟩ := h2
  refine ⟨fun r k c0 c1 c2 c9 c10 => ?_, fun r k c0 c1 => (b2 r k c0 c1).trans (a2 r k c0 c1), fun r k c1 c2 c3 => (b3 r k c1 (by omega) c3).trans (a3 r k c1 c2 c3), fun t r ht h => b4 t r ht (a4 t r ht h), fun t r ht h => ?_, by omega, fun z => b7 (a7 z)⟩
  · rw [b1 r k c0 c1 c2 (fun t ht z => ?_) (by omega), a1 r k c0 c1 c2 c9 c10]
    rcases a5 t r ht z with y | y
    · exact c9 t ht y
    · omega
  · rcases b5 t r ht h with y | y
    · exact a5 t r ht y
    · exact Or.inr (by omega)
theorem cx_fu_fc (h : cx_fc sr X X') : cx_fu sr X X' := ⟨fun r k _ _ c c1 c2 => h.1 r k c c1 c2, fun r k _ c => h.2.1 r k c, h.2.2.1, h.2.2.2.1, h.2.2.2.2.1, h.2.2.2.2.2⟩
theorem cx_fu_fy (h : fy F L A X X') (hF : ∀ q, q ∈ F → q = (52, 1) ∨ 78 ≤ q.1 ∧ q.1 < 95) (hL : ∀ q, q ∈ L → 78 ≤ q.1 ∧ q.1 < 95) (hA : ∀ a, a ∈ A → 78 ≤ a ∧ a < 95) : cx_fu sr X X' := by
  obtain ⟨h1, h2, h3⟩ := h
  refine ⟨fun r k c0 c1 c2 c9 c10 => h3 r k (fun y => by have := hA r y; omega) (fun y => ?_), fun r k c0 c1 => h2 r k (fun y => by have := hA r y; omega) (fun y => by have := hL _ y; dsimp only at this; omega), fun r k _ _ _ => by rw [h1], fun t r _ h => by rw [h1]; exact h, fun t r _ h => by rw [h1] at h; exact Or.inl h, by rw [h1]; exact Nat.le_refl _, fun z => by unfold cx_O; rw [h1]; exact z⟩
  rcases hF _ y with e | e
  · cases e; exact c1 rfl rfl
  · dsimp only at e; omega
/-- the tokens stand in the arrays -/
theorem cx_all_at : ∀ (L : List (Int × Nat × Int64)) (m : Nat) (X : fx_X), (X.1 78 3).toInt = (m : Int) → m + L.length ≤ 1002 → cx_all X m L X' → (∀ i x, L[i]? = some x → (X'.1 79 (m + i)).toInt = x.1 ∧ (X'.1 80 (m + i)).toInt = (x.2.1 : Int) ∧ X'.2.1 81 (m + i) = x.2.2) ∧ (∀ i, i < m → X'.1 79 i = X.1 79 i ∧ X'.1 80 i = X.1 80 i ∧ X'.2.1 81 i = X.2.1 81 i)
  | [], m, X, _, _, h => by
    have : X' = X := h
    subst this
    exact ⟨fun i x hx => (by cases hx), fun _ _ => ⟨rfl, rfl, rfl⟩⟩
  | t :: L, m, X, hm, hl, h => by
    obtain ⟨kd, st, h1, h2, h3⟩ := h
    have hl' : m + (L.length + 1) ≤ 1002 := hl
    obtain ⟨a1, a2⟩ := cx_all_at L (m + 1) _ (cx_tk_m hm (by omega)) (by omega) h3
    have q1 : ∀ i, (cx_tk X m kd st t.2.2).1 79 i = (if i = m then kd else X.1 79 i) ∧ (cx_tk X m kd st t.2.2).1 80 i = (if i = m then st else X.1 80 i) ∧ (cx_tk X m kd st t.2.2).2.1 81 i = (if i = m then t.2.2 else X.2.1 81 i) := by
      intro i
      unfold cx_tk
      refine ⟨?_, ?_, ?_⟩
      · rw [fx_rIn (by decide), fx_rL1, fx_rIn (by decide), fx_rI]
        by_cases z : i = m
        · rw [if_pos ⟨rfl, z⟩, if_pos z]
        · rw [if_neg (fun y => z y.2), if_neg z]
      · rw [fx_rIn (by decide), fx_rL1, fx_rI]
        by_cases z : i = m
        · rw [if_pos ⟨rfl, z⟩, if_pos z]
        · rw [if_neg (fun y => z y.2), if_neg z, fx_rIn (by decide)]
      · show (if 81 = 81 ∧ i = m then t.2.2 else X.2.1 81 i) = _
        by_cases z : i = m
        · rw [if_pos ⟨rfl, z⟩, if_pos z]
        · rw [if_neg (fun y => z y.2), if_neg z]
    refine ⟨fun i x hx => ?_, fun i hi => ?_⟩
    · cases i with
      | zero =>
        cases hx
        obtain ⟨b1, b2, b3⟩ := a2 m (Nat.lt_succ_self _)
        obtain ⟨c1, c2, c3⟩ := q1 m
        rw [if_pos rfl] at c1 c2 c3
        rw [Nat.add_zero, b1, b2, b3, c1, c2, c3]
        exact ⟨h1, h2, rfl⟩
      | succ i =>
        have := a1 i x hx
        rw [show m + 1 + i = m + (i + 1) by omega] at this
        exact this
    · obtain ⟨b1, b2, b3⟩ := a2 i (by omega)
      obtain ⟨c1, c2, c3⟩ := q1 i
      rw [if_neg (by omega)] at c1 c2 c3
      rw [b1, b2, b3, c1, c2, c3]
      exact ⟨rfl, rfl, rfl⟩
theorem md_lst_len {f : Nat → Int32} : ∀ (L : List (Int × Nat × Int64)) (k m : Nat), md_lst f N k m L → m ≤ 1000 → m + L.length ≤ 1002
  | [], _, _, h, _ => h.elim
  | t :: L, k, m, h, hm => by
    obtain ⟨b, -, h⟩ := h
    show m + (L.length + 1) ≤ 1002
    split at h
    · rw [h.2]; show m + 1 ≤ 1002; omega
    · obtain ⟨nx, -, -, h⟩ := h
      split at h
      · rename_i z
        rw [h]
        show m + 2 ≤ 1002
        omega
      · have := md_lst_len L nx (m + 1) h (by omega)
        omega
/-- the class understands: tokens, events, checks -/
theorem cx_20 (hX : cx_rX X) (hS : cx_S X) (hN : (X.1 52 1).toInt = (N : Int)) (hN4 : N ≤ 4000) (hp : p.toInt = 130 ∨ p.toInt = 138) (hs : sr = 54 ∨ sr = 66) (hU : cx_U X sr U) (hT : cx_TB X sr hz TB) (hO : cx_O X) (hg : ∀ fr, md_gd (U, none, TB, (0, 0), [], [], fr)) (g : gx_20 p sr X u X') : ∃ L T m r fr, md_lst (X.1 53) N 0 0 L ∧ md_TL T L ∧ md_am T m [(p.toInt, 0), (1, 0)] 0 0 (fun _ => Int32.ofInt 0) [] = some r ∧ ((∃ es, r = some es ∧ md_fa T (U, none, TB, (0, 0), [], [], fr) es = none) ∨ (cx_fu sr X X' ∧ cx_O X' ∧ (X'.1 52 1).toInt = 0 ∧ (match r with
    | none => (X'.1 82 5).toInt ≠ 0
    | some es => (md_fa T (U, none, TB, (0, 0), [], [], fr) es = some none ∧ (X'.1 82 5).toInt ≠ 0) ∨ ∃ s' as, md_fa T (U, none, TB, (0, 0), [], [], fr) es = some (some (s', as)) ∧ (X'.1 82 5).toInt = 0 ∧ cx_CS X' sr hz s' ∧ as.length = (md_nts es).length ∧ (X'.1 82 4).toInt = (as.length : Int) ∧ as.length ≤ 2002 ∧ (∀ j x, (md_nts es)[j]? = some x → (X'.1 83 j).toInt = x.1 ∧ (X'.1 84 j).toInt = (x.2.1 : Int) ∧ (X'.1 85 j).toInt = (x.2.2.1 : Int)) ∧ (∀ j x, as[j]? = some x → (X'.1 86 j).toInt = x) ∧ cx_Tk X' T))) := by
  obtain ⟨w5, X4, r1, X6, e6, w9, X8, r2, w12, X11, r3, g⟩ := g
  obtain ⟨L, hL, hall⟩ := cx_21 hS hN hN4 r1
  have hlen := md_lst_len L 0 0 hL (by decide)
  obtain ⟨t1, -⟩ := cx_all_at L 0 _ (by rw [fx_rIe]; rfl) hlen hall
  obtain ⟨T, hTd⟩ : ∃ T : md_T, T = (fun i => if i < 1002 then (X4.1 79 i).toInt else 2, fun i => if i < 1002 then X4.2.1 81 i else Int64.ofNat 0) := ⟨_, rfl⟩
  have hT4 : cx_Tk X4 T := fun i => by rw [hTd]; exact ⟨rfl, rfl⟩
  have hTL : md_TL T L := fun i x hx => by
    have hi := (List.getElem?_eq_some_iff.mp hx).1
    obtain ⟨b1, b2, b3⟩ := t1 i x hx
    rw [Nat.zero_add] at b1 b3
    rw [(hT4 i).1, (hT4 i).2, if_pos (by omega), if_pos (by omega)]
    exact ⟨b1, b3⟩
  have f4 := gf_21 r1
  have e8 := cx_31 r2
  have f68 : fy [(52, 1), (82, 4), (82, 5), (82, 6)] [] [] X4 X8 := by
    rw [e8, e6]
    exact fy_f (fy_f (fy_f (fy_f fy_rf (by decide)) (by decide)) (by decide)) (by decide)
  have f8 : fy [(78, 3), (52, 1), (82, 4), (82, 5), (82, 6)] [] [79, 80, 81] X X8 := fy_tr (fy_sub f4 (by decide) (by decide) (by decide)) (fy_sub f68 (by decide) (by decide) (by decide))
  have hX8 : cx_rX X8 := cx_rX_fr hX f8 (by decide) (by decide)
  have hT8 : cx_Tk X8 T := cx_Tk_fr hT4 f68 (by decide) (by decide) (by decide) (by decide)
  obtain ⟨m, r, am, hPR⟩ := cx_32 hX8 hT8 (by rw [e8, fx_rIk (by decide), fx_rIe]; rfl) (by rw [e8, fx_rIk (by decide), fx_rIk (by decide), fx_rIe]; rfl) hp r3
  have f11 := gf_32 r3
  have hfu : cx_fu sr X X11 := cx_fu_tr (cx_fu_fy f8 (by decide) (by decide) (by decide)) (cx_fu_fy f11 (by decide) (by decide) (by decide))
  have f52 : (X11.1 52 1).toInt = 0 := by rw [f11.2.2 52 1 (by decide) (by decide), e8, fx_rIn (by decide), fx_rIn (by decide), fx_rIn (by decide), e6, fx_rIe]; rfl
  have r11 : X11.2.2 = X.2.2 := f11.1.trans f8.1
  have i11 : ∀ q, q ≠ 52 → (q < 78 ∨ 95 ≤ q) → X11.1 q = X.1 q ∧ X11.2.1 q = X.2.1 q := by
    intro q h52 hq
    have a1 : ∀ {F L : List (Nat × Nat)} {A : List Nat} {Y Y' : fx_X}, fy F L A Y Y' → (∀ q, q ∈ F → q.1 = 52 ∨ 78 ≤ q.1 ∧ q.1 < 95) → (∀ q, q ∈ L → 78 ≤ q.1 ∧ q.1 < 95) → (∀ a, a ∈ A → 78 ≤ a ∧ a < 95) → Y'.1 q = Y.1 q ∧ Y'.2.1 q = Y.2.1 q := fun h hF hL hA => ⟨fy_ra h (fun z => by have := hA q z; omega) (fun z hz => by have := hF z hz; omega), fy_rl h (fun z => by have := hA q z; omega) (fun z hz => by have := hL z hz; omega)⟩
    obtain ⟨b1, b2⟩ := a1 f8 (by decide) (by decide) (by decide)
    obtain ⟨b3, b4⟩ := a1 f11 (by decide) (by decide) (by decide)
    exact ⟨b3.trans b1, b4.trans b2⟩
  have hO11 : cx_O X11 := by unfold cx_O; rw [r11]; exact hO
  refine ⟨L, T, m, r, X11.2.1 91 8, hL, hTL, am, ?_⟩
  cases r with
  | none =>
    have hf : (X11.1 82 5).toInt ≠ 0 := hPR
    rw [if_neg hf] at g
    rw [g]
    exact Or.inr ⟨hfu, hO11, f52, hf⟩
  | some es =>
    obtain ⟨hf, hnt, hl2⟩ := hPR
    rw [if_pos hf] at g
    obtain ⟨w17, X16, ⟨n, Z2, rfl, Z3, rfl, Z, hZ, g⟩, rfl⟩ := g
    have hrun : md_run false (([(p.toInt, 0), (1, 0)] : List md_Sy).map (·.1)) = some false := by
      rcases hp with e | e <;> (rw [e]; rfl)
    have he1 : md_e1 [(p.toInt, 0), (1, 0)] = 1 := by
      rcases hp with e | e <;> (rw [e]; rfl)
    obtain ⟨ev1, ev2⟩ := md_am_ev m _ 0 0 _ [] false es am hrun (fun x hx => by
      simp only [List.mem_cons, List.not_mem_nil, or_false] at hx
      rcases hx with rfl | rfl <;> exact Nat.zero_le _) (by rw [he1]; decide) (by rw [he1]; decide) (Nat.le_refl _)
    have hns := md_ac_nts es false [] (-1) (fun e he => (ev1 e he).1) ev2 (by decide) (fun z => by cases z)
    rw [if_neg (by decide), List.nil_append] at hns
    rw [hns] at hnt hl2
    have hcnt : ∀ es1 es2, es = es1 ++ es2 → md_cnt es2 ≤ 100000 := fun es1 es2 h => by
      have a1 := md_cnt_le es2
      have a2 := md_nts_app es1 es2
      rw [← h] at a2
      omega
    have zi : ∀ q k, (q ≠ 91 ∨ (k ≠ 5 ∧ k ≠ 7)) → Z.1 q k = X11.1 q k := fun q k h => by
      rw [hZ, fx_rI, if_neg (by omega), fx_rI, if_neg (by omega)]; rfl
    have zl : Z.2.1 = X11.2.1 := by rw [hZ]; rfl
    have zr : ∀ q k, ¬ (q = 91 ∧ k = 2) → Z.2.2.1 q k = X11.2.2.1 q k := fun q k h => by rw [hZ]; exact if_neg h
    have zn : Z.2.2.2 = X11.2.2.2 := by rw [hZ]; rfl
    have z5 : (Z.1 91 5).toInt = 0 := by rw [hZ, fx_rIk (by decide), fx_rIe]; rfl
    have z7 : (Z.1 91 7).toInt = 0 := by rw [hZ, fx_rIe]; rfl
    have zO : cx_O Z := by
      have hsl : ∀ s, cx_sl s → Z.2.2.1 s.1 s.2 = X11.2.2.1 s.1 s.2 := fun s h => zr _ _ (by unfold cx_sl at h; omega)
      refine ⟨by rw [zn]; exact hO11.1, fun s q h1 h2 => ?_, fun s s' q q' h1 h2 h3 h4 => ?_⟩
      · rw [hsl s h1] at h2
        rw [zn]
        exact hO11.2.1 s q h1 h2
      · rw [hsl s h1] at h3
        rw [hsl s' h2] at h4
        exact hO11.2.2 s s' q q' h1 h2 h3 h4
    have zx : ∀ q k, q ≠ 52 → (q < 78 ∨ 95 ≤ q) → Z.1 q k = X.1 q k ∧ Z.2.1 q k = X.2.1 q k := fun q k h1 h2 => by
      rw [zi q k (by omega), zl, (i11 q h1 h2).1, (i11 q h1 h2).2]
      exact ⟨rfl, rfl⟩
    have zv : ∀ v vs, cx_vs X sr v vs → cx_vs Z sr v vs := fun v vs h => ⟨by rw [(zx _ _ (by omega) (by omega)).1]; exact h.1, fun i x hx => by rw [(zx _ _ (by omega) (by omega)).1]; exact h.2 i x hx⟩
    have hCS : cx_CS Z sr hz (U, none, TB, (0, 0), [], [], X11.2.1 91 8) := by
      refine ⟨hg _, ⟨by rw [(zx _ _ (by omega) (by omega)).1]; exact hU.1, by rw [(zx _ _ (by omega) (by omega)).1]; exact hU.2.1, fun v x hx => ⟨by rw [(zx _ _ (by omega) (by omega)).2]; exact (hU.2.2 v x hx).1, zv _ _ (hU.2.2 v x hx).2⟩⟩, fun x hx => (by cases hx), ⟨by rw [(zx _ _ (by omega) (by omega)).1]; exact hT.1, fun t x hx => ?_⟩, ⟨z5, True.intro⟩, ⟨z7, fun i n hn => by cases hn⟩, by rw [zl], zO, by rw [hZ]; show (if 91 = 91 ∧ 2 = 2 then some sr else X11.2.2.1 91 2) = some sr; exact if_pos ⟨rfl, rfl⟩, hs⟩
      obtain ⟨a1, a2, q, a3, a4, a5, a6⟩ := hT.2 t x hx
      have ht : t < TB.length := (List.getElem?_eq_some_iff.mp hx).1
      have h10 : TB.length ≤ 10 := (hg 0).2.2.2.2.1
      have hq := (hO.2.1 (sr + 8, t) q (cx_slot hs (by omega)) a3).1
      exact ⟨by rw [(zx _ _ (by omega) (by omega)).2]; exact a1, by rw [(zx _ _ (by omega) (by omega)).1]; exact a2, q, by rw [zr _ _ (by omega), r11]; exact a3, by rw [(zx _ _ (by omega) (by omega)).1]; exact a4, fun z => by rw [(zx _ _ (by omega) (by omega)).1]; exact a5 z, fun c n hc => by rw [(zx _ _ (by omega) (by omega)).2]; exact a6 c n hc⟩
    have hTZ : cx_Tk Z T := by
      intro i
      rw [zi _ _ (by omega), zl]
      exact cx_Tk_fr hT8 f11 (by decide) (by decide) (by decide) (by decide) i
    have fZ : cx_fu sr X11 Z := ⟨fun q k c0 c1 c2 _ _ => zi q k (by omega), fun q k _ _ => by rw [zl], fun q k c1 _ c3 => zr q k (fun z => c3 z.1 z.2), fun t q _ h => by rw [zr _ _ (by omega)]; exact h, fun t q _ h => by rw [zr _ _ (by omega)] at h; exact Or.inl h, by rw [zn]; exact Nat.le_refl _, fun _ => zO⟩
    have hLI : cx_LI T sr hz (md_nts es) Z (U, none, TB, (0, 0), [], [], X11.2.1 91 8) 0 := by
      refine ⟨hTZ, by rw [zi _ _ (by omega)]; exact hf, by rw [zi _ _ (by omega)]; exact hnt.1, hl2, hCS, fun j x hx => ?_, fun j x _ hx => ?_⟩
      · obtain ⟨b1, b2, b3, b4⟩ := hnt.2.2 j x hx
        rw [zi _ _ (by omega), zi _ _ (by omega), zi _ _ (by omega)]
        exact ⟨b1, b2, b3⟩
      · rw [zi _ _ (by omega)]; exact (hnt.2.2 j x hx).2.2.2
    have key := cx_56l (ns := md_nts es) es (fun e he => (ev1 e he).2) (hcnt [] es rfl) hcnt n 0 _ Z _ rfl (Nat.zero_le _) rfl hLI g
    have lk := md_lk (T := T) es (U, none, TB, (0, 0), [], [], X11.2.1 91 8) false (fun e he => (ev1 e he).1) ev2 (fun z => by cases z)
    have fin : cx_fc sr Z X' → cx_fu sr X X' ∧ cx_O X' ∧ (X'.1 52 1).toInt = 0 := fun h => by
      refine ⟨cx_fu_tr hfu (cx_fu_tr fZ (cx_fu_fc h)), h.2.2.2.2.2.2 zO, ?_⟩
      rw [h.1 52 1 (by unfold cx_wi cx_wa; omega) (fun t ht z => by
        have := (zO.2.1 (sr + 8, t) 52 (cx_slot hs ht) z).1
        omega) (by have := zO.1; omega), zi _ _ (by omega)]
      exact f52
    rcases key with k | ⟨k, k1, k2⟩ | ⟨s', as, k, k1, k2, k3, k4, -, k6⟩
    · -- beyond what the class holds
      rcases lk with z | ⟨z, z1⟩ | ⟨s1, as1, z, z1⟩
      · exact Or.inl ⟨es, rfl, z⟩
      · rw [k] at z1; cases z1
      · rw [k] at z1; cases z1
    · obtain ⟨q1, q2, q3⟩ := fin k2
      rcases lk with z | ⟨z, z1⟩ | ⟨s1, as1, z, z1⟩
      · exact Or.inl ⟨es, rfl, z⟩
      · exact Or.inr ⟨q1, q2, q3, Or.inl ⟨z, k1⟩⟩
      · rw [k] at z1; cases z1
    · obtain ⟨q1, q2, q3⟩ := fin k6
      rcases lk with z | ⟨z, z1⟩ | ⟨s1, as1, z, z1⟩
      · exact Or.inl ⟨es, rfl, z⟩
      · rw [k] at z1; cases z1
      · rw [k] at z1
        cases z1
        have kk : ∀ q j, q < 86 → 78 ≤ q → (q = 82 → j = 4) → X'.1 q j = Z.1 q j := fun q j h1 h2 h3 => k6.1 q j (by unfold cx_wi cx_wa; omega) (fun t ht z => by
          have := (zO.2.1 (sr + 8, t) q (cx_slot hs ht) z).1
          omega) (by have := zO.1; omega)
        refine Or.inr ⟨q1, q2, q3, Or.inr ⟨s', as, z, k1, k2, k3, ?_, by omega, fun j x hx => ?_, fun j x hx => ?_, ?_⟩⟩
        · rw [kk 82 4 (by decide) (by decide) (fun _ => rfl), k3]; exact hLI.2.2.1
        · rw [kk 83 j (by decide) (by decide) (by omega), kk 84 j (by decide) (by decide) (by omega), kk 85 j (by decide) (by decide) (by omega)]
          exact hLI.2.2.2.2.2.1 j x hx
        · have := k4 j x hx
          rw [Nat.zero_add] at this
          exact this
        · intro i
          rw [kk 79 i (by decide) (by decide) (by omega), k6.2.1 81 i (by unfold cx_wa; omega)]
          exact hTZ i
end CX30
