/-! THE CLASS'S WORKER: CONDs -/
/-- truths alone change -/
def cx_tf (X X' : fx_X) : Prop := X'.2 = X.2 ∧ ∀ q k, q ≠ 106 → X'.1 q k = X.1 q k
section CX40
variable {X X' X0 X1 : fx_X} {v p p0 p1 p2 p3 p4 : Int32} {u : Unit} {sr r r' rs W n i j c w m wd k : Nat} {val : md_V} {tr tr' pt : List (Nat → Bool)} {sd : md_Sd × md_Sd} {rel : Int} {f : Nat → Bool}
theorem cx_tf_Sd (h : cx_Sd X sr W sd rel) (hs : sr = 54 ∨ sr = 66) (hf : cx_tf X X') : cx_Sd X' sr W sd rel := by
  obtain ⟨h1, h2, h3, h4, h5, h6, h7⟩ := h
  exact ⟨by rw [hf.1]; exact h1, by rw [hf.2 _ _ (by decide)]; exact h2, by rw [hf.2 _ _ (by decide)]; exact h3, by rw [hf.2 _ _ (by decide)]; exact h4, by rw [hf.2 _ _ (by decide)]; exact h5, by rw [hf.2 _ _ (by decide)]; exact h6, by rw [hf.2 _ _ (by omega)]; exact h7⟩
theorem cx_tf_ce (h : cx_ce X sr W n val) (hs : sr = 54 ∨ sr = 66) (hf : cx_tf X X') : cx_ce X' sr W n val := ⟨h.1, h.2.1, fun w u hw hu => by rw [hf.2 _ _ (by omega)]; exact h.2.2 w u hw hu⟩
/-- every WORLD's bits go the same way -/
theorem cx_140l (hs : sr = 54 ∨ sr = 66) (ha : p1.toInt = 204 ∨ p1.toInt = 205 ∨ p1.toInt = 206 ∨ p1.toInt = 207) (hsd : p1.toInt = 204 → md_oks n 0 sd.1 ∧ md_oks n 0 sd.2) : ∀ (q k : Nat) (y3 : Int32) (X : fx_X), y3.toInt = (k : Int) → k ≤ W → cx_ce X sr W n val → cx_Sd X sr W sd rel → gxF_140 p1 p2 q 85 [y3] [] [] X u X' → cx_tf X X' ∧ (∀ w, w < k → X'.1 106 w = X.1 106 w) ∧ ∀ w i, k ≤ w → w < W → (i < 31 ∨ (i < 32 ∧ (p1.toInt = 204 ∨ p1.toInt = 205))) → fx_ib (X'.1 106 w) i = md_jd p1.toInt (md_cmp rel (md_sv val w [] sd.1) (md_sv val w [] sd.2)) (fx_ib (X.1 106 w)) i := by
  intro q
  induction q with
  | zero => intro k y3 X _ _ _ _ g; exact g.elim
  | succ q ih =>
    intro k y3 X hk hkl hce hSd g
    replace g := gxO_140_85 g
    obtain ⟨b23, eb, g⟩ := g
    rw [hSd.1] at eb
    cases eb
    have h13 := hSd.2.2.2.2.2.2
    have hW := hce.1
    by_cases z : k < W
    · rw [if_pos (by omega), if_pos (by omega), fx_in hk] at g
      obtain ⟨-, w31, X30, r1, -, X33, rfl, x34, rfl, g⟩ := g
      obtain ⟨rfl, e31⟩ := cx_142 (b := md_cmp rel (md_sv val k [] sd.1) (md_sv val k [] sd.2)) (fun h204 b7 w9 X8 eb7 r2 => by
        obtain ⟨q1, q2⟩ := hsd h204
        exact cx_122 (ts := []) (i := 0) hce (fun c t ht => by cases ht) ⟨Nat.zero_le _, fun t ht => by cases ht⟩ (by decide) z q1 q2 hSd.1 hSd.2.1 hSd.2.2.1 hSd.2.2.2.1 hSd.2.2.2.2.1 hSd.2.2.2.2.2.1 rfl hk r2) ha r1
      have hf : cx_tf X (fx_wI X 106 k w31) := ⟨rfl, fun q j hq => by rw [fx_rIn hq]⟩
      obtain ⟨a1, a2, a3⟩ := ih (k + 1) _ _ (cx_inc hk (by omega)) (by omega) (cx_tf_ce hce hs hf) (cx_tf_Sd hSd hs hf) g
      refine ⟨⟨a1.1, fun q j hq => by rw [a1.2 q j hq, fx_rIn hq]⟩, fun w hw => by rw [a2 w (by omega), fx_rIk (by omega)], fun w i hkw hw hi => ?_⟩
      by_cases y : w = k
      · subst y
        rw [a2 w (Nat.lt_succ_self _), fx_rIe]
        exact e31 i hi
      · rw [a3 w i (by omega) hw hi]
        have : (fx_wI X 106 k w31).1 106 w = X.1 106 w := by rw [fx_rIk y]
        rw [this]
    · rw [if_neg (by omega)] at g
      subst g
      exact ⟨⟨rfl, fun _ _ _ => rfl⟩, fun _ _ => rfl, fun w i h1 h2 => absurd h2 (by omega)⟩
/-- a COND's note -/
theorem cx_140 (hs : sr = 54 ∨ sr = 66) (hce : cx_ce X sr W n val) (hSd : cx_Sd X sr W sd rel) (htr : cx_tr X W tr) (hl : tr.length ≤ 32) (g : gx_140 p1 p2 X u X') :
    (p1.toInt = 200 → cx_Sd X' sr W (sd.2, (0, p2)) rel ∧ X'.2 = X.2 ∧ (∀ q k, q ≠ 95 → X'.1 q k = X.1 q k) ∧ ∀ k, k < 8 ∨ 12 < k → X'.1 95 k = X.1 95 k) ∧
    (p1.toInt = 201 → cx_Sd X' sr W (sd.2, (1, p2)) rel ∧ X'.2 = X.2 ∧ (∀ q k, q ≠ 95 → X'.1 q k = X.1 q k) ∧ ∀ k, k < 8 ∨ 12 < k → X'.1 95 k = X.1 95 k) ∧
    (p1.toInt = 202 → cx_Sd X' sr W (sd.2, (2, p2)) rel ∧ X'.2 = X.2 ∧ (∀ q k, q ≠ 95 → X'.1 q k = X.1 q k) ∧ ∀ k, k < 8 ∨ 12 < k → X'.1 95 k = X.1 95 k) ∧
    (p1.toInt = 203 → cx_Sd X' sr W sd p2.toInt ∧ X'.2 = X.2 ∧ (∀ q k, q ≠ 95 → X'.1 q k = X.1 q k) ∧ ∀ k, k < 8 ∨ 12 < k → X'.1 95 k = X.1 95 k) ∧
    (p1.toInt = 204 → tr.length < 32 → md_oks n 0 sd.1 → md_oks n 0 sd.2 → cx_tf X X' ∧ cx_tr X' W ((fun w => md_cmp rel (md_sv val w [] sd.1) (md_sv val w [] sd.2)) :: tr)) ∧
    (p1.toInt = 205 → ∀ x tr', tr = x :: tr' → cx_tf X X' ∧ cx_tr X' W ((fun w => !x w) :: tr')) ∧
    (p1.toInt = 206 → ∀ y x tr', tr = y :: x :: tr' → cx_tf X X' ∧ cx_tr X' W ((fun w => x w && y w) :: tr')) ∧
    (p1.toInt = 207 → ∀ y x tr', tr = y :: x :: tr' → cx_tf X X' ∧ cx_tr X' W ((fun w => x w || y w) :: tr')) ∧
    (p1.toInt < 200 ∨ 207 < p1.toInt → X' = X) := by
  obtain ⟨q, g⟩ := g
  unfold gxE_140 at g
  have side : ∀ {s : Int32} {ss : Int}, s.toInt = ss → (∃ (w5 : Unit) (X4 : fx_X), gx_141 s p2 X w5 X4 ∧ X' = X4) → cx_Sd X' sr W (sd.2, (ss, p2)) rel ∧ X'.2 = X.2 ∧ (∀ q k, q ≠ 95 → X'.1 q k = X.1 q k) ∧ ∀ k, k < 8 ∨ 12 < k → X'.1 95 k = X.1 95 k := by
    rintro s ss h ⟨w5, X4, r1, rfl⟩
    obtain ⟨a1, a2, a3, a4⟩ := cx_141 hSd hs r1
    rw [h] at a1
    exact ⟨a1, a2, a3, fun k hk => a4 k (by omega)⟩
  have trd : ∀ {i : Nat} {f : Nat → Bool} {w : Nat}, tr[i]? = some f → w < W → fx_ib (X.1 106 w) i = f w := fun h hw => htr _ _ h _ hw
  refine ⟨fun c => ?_, fun c => ?_, fun c => ?_, fun c => ?_, fun c h32 o1 o2 => ?_, fun c x tr' e => ?_, fun c y x tr' e => ?_, fun c y x tr' e => ?_, fun c => ?_⟩
  · rw [if_pos c] at g; exact side rfl g
  · rw [if_neg (by omega), if_pos c] at g; exact side rfl g
  · rw [if_neg (by omega), if_neg (by omega), if_pos c] at g; exact side rfl g
  · rw [if_neg (by omega), if_neg (by omega), if_neg (by omega), if_pos c] at g
    obtain ⟨X13, rfl, rfl⟩ := g
    obtain ⟨h1, h2, h3, h4, h5, h6, h7⟩ := hSd
    exact ⟨⟨h1, by rw [fx_rIk (by decide)]; exact h2, by rw [fx_rIk (by decide)]; exact h3, by rw [fx_rIk (by decide)]; exact h4, by rw [fx_rIk (by decide)]; exact h5, by rw [fx_rIe], by rw [fx_rIn (by omega)]; exact h7⟩, rfl, fun q k hq => by rw [fx_rIn hq], fun k hk => by rw [fx_rIk (by omega)]⟩
  · rw [if_neg (by omega), if_neg (by omega), if_neg (by omega), if_neg (by omega), if_pos c] at g
    obtain ⟨a1, a2, a3⟩ := cx_140l (p1 := p1) (val := val) hs (by omega) (fun _ => ⟨o1, o2⟩) q 0 _ X rfl (Nat.zero_le _) hce hSd g
    refine ⟨a1, fun i f hf w hw => ?_⟩
    have hi := (List.getElem?_eq_some_iff.mp hf).1
    rw [List.length_cons] at hi
    rw [a3 w i (Nat.zero_le _) hw (by omega), c]
    show (if i = 0 then _ else _) = f w
    cases i with
    | zero => cases hf; rfl
    | succ i => exact trd hf hw
  · rw [if_neg (by omega), if_neg (by omega), if_neg (by omega), if_neg (by omega), if_neg (by omega), if_pos c] at g
    obtain ⟨a1, a2, a3⟩ := cx_140l (p1 := p1) (val := val) hs (by omega) (fun z => absurd z (by omega)) q 0 _ X rfl (Nat.zero_le _) hce hSd g
    subst e
    refine ⟨a1, fun i f hf w hw => ?_⟩
    have hi := (List.getElem?_eq_some_iff.mp hf).1
    rw [List.length_cons] at hi hl
    rw [a3 w i (Nat.zero_le _) hw (by omega), c]
    show (if i = 0 then !fx_ib (X.1 106 w) 0 else fx_ib (X.1 106 w) i) = f w
    cases i with
    | zero => cases hf; rw [if_pos rfl, trd (i := 0) rfl hw]
    | succ i => rw [if_neg (by omega)]; exact trd (i := i + 1) hf hw
  · rw [if_neg (by omega), if_neg (by omega), if_neg (by omega), if_neg (by omega), if_neg (by omega), if_neg (by omega), if_pos c] at g
    obtain ⟨a1, a2, a3⟩ := cx_140l (p1 := p1) (val := val) hs (by omega) (fun z => absurd z (by omega)) q 0 _ X rfl (Nat.zero_le _) hce hSd g
    subst e
    refine ⟨a1, fun i f hf w hw => ?_⟩
    have hi := (List.getElem?_eq_some_iff.mp hf).1
    rw [List.length_cons] at hi
    rw [List.length_cons, List.length_cons] at hl
    rw [a3 w i (Nat.zero_le _) hw (by omega), c]
    show (if i = 0 then fx_ib (X.1 106 w) 1 && fx_ib (X.1 106 w) 0 else fx_ib (X.1 106 w) (i + 1)) = f w
    cases i with
    | zero => cases hf; rw [if_pos rfl, trd (i := 0) rfl hw, trd (i := 1) rfl hw]
    | succ i => rw [if_neg (by omega)]; exact trd (i := i + 2) hf hw
  · rw [if_neg (by omega), if_neg (by omega), if_neg (by omega), if_neg (by omega), if_neg (by omega), if_neg (by omega), if_neg (by omega), if_pos c] at g
    obtain ⟨a1, a2, a3⟩ := cx_140l (p1 := p1) (val := val) hs (by omega) (fun z => absurd z (by omega)) q 0 _ X rfl (Nat.zero_le _) hce hSd g
    subst e
    refine ⟨a1, fun i f hf w hw => ?_⟩
    have hi := (List.getElem?_eq_some_iff.mp hf).1
    rw [List.length_cons] at hi
    rw [List.length_cons, List.length_cons] at hl
    rw [a3 w i (Nat.zero_le _) hw (by omega), c]
    show (if i = 0 then fx_ib (X.1 106 w) 1 || fx_ib (X.1 106 w) 0 else fx_ib (X.1 106 w) (i + 1)) = f w
    cases i with
    | zero => cases hf; rw [if_pos rfl, trd (i := 0) rfl hw, trd (i := 1) rfl hw]
    | succ i => rw [if_neg (by omega)]; exact trd (i := i + 2) hf hw
  · rw [if_neg (by omega), if_neg (by omega), if_neg (by omega), if_neg (by omega), if_neg (by omega), if_neg (by omega), if_neg (by omega), if_neg (by omega)] at g
    exact g
end CX40
