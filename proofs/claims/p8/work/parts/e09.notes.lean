/-! THE CLASS'S WORKER: what a note leaves as it was -/
/-- one ROWS alone, and what the worker notes for itself -/
def cx_ot (r : Nat) (X X' : fx_X) : Prop := X'.2 = X.2 ∧ ∀ q k, (q < r ∨ r + 4 ≤ q) → q ≠ 82 → q ≠ 95 → q ≠ 96 → q ≠ 97 → q ≠ 98 → q ≠ 99 → q ≠ 106 → X'.1 q k = X.1 q k
section CE09
variable {X X' X0 X1 : fx_X} {u : Unit} {sr r r0 W n t t0 wd k : Nat} {tw : List Nat} {val : md_V} {A : List md_Row} {tb tb' : List (List md_Row)} {sk : List md_Q} {pt : List (Nat → Bool)} {q : md_Q} {L : List Nat}
theorem cx_ot_rf (h : cx_rf r X X') : cx_ot r X X' := ⟨h.1, fun q k h1 _ _ _ _ _ _ _ => h.2 q k h1⟩
theorem cx_ot_tr (h1 : cx_ot r X X1) (h2 : cx_ot r X1 X') : cx_ot r X X' := ⟨h2.1.trans h1.1, fun q k a b c d e f g i => (h2.2 q k a b c d e f g i).trans (h1.2 q k a b c d e f g i)⟩
theorem cx_ot_O (hO : cx_O X) (h : cx_ot r X X') : cx_O X' := by
  unfold cx_O at hO ⊢
  rw [h.1]
  exact hO
theorem cx_ot_ce (hs : sr = 54 ∨ sr = 66) (hr : 102 ≤ r) (hce : cx_ce X sr W n val) (h : cx_ot r X X') : cx_ce X' sr W n val := ⟨hce.1, hce.2.1, fun w u hw hu => by rw [h.2 _ _ (by omega) (by omega) (by omega) (by omega) (by omega) (by omega) (by omega) (by omega)]; exact hce.2.2 w u hw hu⟩
theorem cx_ot_pt (hs : sr = 54 ∨ sr = 66) (hr : 102 ≤ r) (hpt : cx_pt X sr W pt) (h : cx_ot r X X') : cx_pt X' sr W pt := ⟨by rw [h.2 _ _ (by omega) (by omega) (by omega) (by omega) (by omega) (by omega) (by omega) (by omega)]; exact hpt.1, hpt.2.1, fun w p hw hp => by rw [h.2 _ _ (by omega) (by omega) (by omega) (by omega) (by omega) (by omega) (by omega) (by omega)]; exact hpt.2.2 w p hw hp⟩
theorem cx_ot_hd (hs : sr = 54 ∨ sr = 66) (hr : 102 ≤ r) (hd : cx_hd X sr L) (h : cx_ot r X X') : cx_hd X' sr L := ⟨by rw [h.2 _ _ (by omega) (by omega) (by omega) (by omega) (by omega) (by omega) (by omega) (by omega)]; exact hd.1, fun k w hk => by rw [h.2 _ _ (by omega) (by omega) (by omega) (by omega) (by omega) (by omega) (by omega) (by omega)]; exact hd.2 k w hk⟩
/-- another ROWS -/
theorem cx_ot_Rr (hR : cx_Rr X r0 W A) (h : cx_ot r X X') (h0 : r0 = 102 ∨ 150 ≤ r0) (ha : r0 + 4 ≤ r ∨ r + 4 ≤ r0) : cx_Rr X' r0 W A ∧ X'.1 r0 3 = X.1 r0 3 ∧ X'.1 r0 4 = X.1 r0 4 := by
  have e : ∀ q k, r0 ≤ q → q < r0 + 4 → (q = 102 ∨ q = 103 ∨ q = 104 ∨ q = 105 ∨ 150 ≤ q) → X'.1 q k = X.1 q k := fun q k h1 h2 h3 => h.2 q k (by omega) (by omega) (by omega) (by omega) (by omega) (by omega) (by omega) (by omega)
  exact ⟨cx_Rr_e hR (e _ _ (by omega) (by omega) (by omega)) (fun k => e _ _ (by omega) (by omega) (by omega)) (fun k => e _ _ (by omega) (by omega) (by omega)) (fun k => e _ _ (by omega) (by omega) (by omega)), e _ _ (by omega) (by omega) (by omega), e _ _ (by omega) (by omega) (by omega)⟩
theorem cx_ot_34 (h : cx_ot r X X') (h0 : r0 = 102 ∨ 150 ≤ r0) (ha : r0 + 4 ≤ r ∨ r + 4 ≤ r0) : X'.1 r0 3 = X.1 r0 3 ∧ X'.1 r0 4 = X.1 r0 4 := ⟨h.2 _ _ (by omega) (by omega) (by omega) (by omega) (by omega) (by omega) (by omega) (by omega), h.2 _ _ (by omega) (by omega) (by omega) (by omega) (by omega) (by omega) (by omega) (by omega)⟩
theorem cx_ot_t1 {o : Option (List md_Row)} (hO : cx_O X) (hs : sr = 54 ∨ sr = 66) (ht : t < 10) (h1 : cx_t1 X sr W t wd o) (h : cx_ot r X X') (ha : ∀ r0, X.2.2.1 (sr + 8) t = some r0 → r0 + 4 ≤ r ∨ r + 4 ≤ r0) : cx_t1 X' sr W t wd o := by
  obtain ⟨r0, a1, a2, a3⟩ := h1
  have h0 := (hO.2.1 (sr + 8, t) r0 (cx_slot hs ht) a1).1
  obtain ⟨e3, e4⟩ := cx_ot_34 h h0 (ha r0 a1)
  refine ⟨r0, by rw [h.1]; exact a1, by rw [e3]; exact a2, ?_⟩
  cases o with
  | none => show (X'.1 r0 4).toInt = 0; rw [e4]; exact a3
  | some A => exact (cx_ot_Rr a3 h h0 (ha r0 a1)).1
/-- TABLES: one alone is another -/
theorem cx_ot_tb (hO : cx_O X) (hs : sr = 54 ∨ sr = 66) (htb : cx_tb X sr W tw tb) (h : cx_ot r X X') (hr : X.2.2.1 (sr + 8) t0 = some r) (ht0 : t0 < 10) (hr0 : 102 ≤ r) (hl : tb'.length ≤ tw.length) (hne : ∀ t : Nat, t ≠ t0 → tb'[t]? = tb[t]?) (h1 : ∀ wd, tw[t0]? = some wd → cx_t1 X' sr W t0 wd tb'[t0]?) : cx_tb X' sr W tw tb' := by
  obtain ⟨a1, a2, a3, a4⟩ := htb
  refine ⟨by rw [h.2 _ _ (by omega) (by omega) (by omega) (by omega) (by omega) (by omega) (by omega) (by omega)]; exact a1, a2, hl, fun t wd ht => ?_⟩
  by_cases z : t = t0
  · subst z
    exact h1 wd ht
  · rw [hne t z]
    have htl := (List.getElem?_eq_some_iff.mp ht).1
    refine cx_ot_t1 hO hs (by omega) (a4 t wd ht) h (fun r1 h1 => ?_)
    rcases hO.2.2 (sr + 8, t) (sr + 8, t0) r1 r (cx_slot hs (by omega)) (cx_slot hs ht0) h1 hr with y | y | y
    · exact absurd (Prod.mk.inj y).2 z
    · exact Or.inl y
    · exact Or.inr y
/-- TABLES where no TABLE's ROWS change -/
theorem cx_ot_tb0 (hO : cx_O X) (hs : sr = 54 ∨ sr = 66) (htb : cx_tb X sr W tw tb) (h : cx_ot r X X') (hr0 : 102 ≤ r) (ha : ∀ t r0, t < 10 → X.2.2.1 (sr + 8) t = some r0 → r0 + 4 ≤ r ∨ r + 4 ≤ r0) : cx_tb X' sr W tw tb := by
  obtain ⟨a1, a2, a3, a4⟩ := htb
  refine ⟨by rw [h.2 _ _ (by omega) (by omega) (by omega) (by omega) (by omega) (by omega) (by omega) (by omega)]; exact a1, a2, a3, fun t wd ht => ?_⟩
  have htl := (List.getElem?_eq_some_iff.mp ht).1
  exact cx_ot_t1 hO hs (by omega) (a4 t wd ht) h (fun r1 h1 => ha t r1 (by omega) h1)
/-- the stack where none of its ROWS change -/
theorem cx_ot_ls (hO : cx_O X) (h20 : sk.length ≤ 20) (hls : cx_ls X W sk) (h : cx_ot r X X') (ha : ∀ i r0, i < sk.length → X.2.2.1 101 i = some r0 → r0 + 4 ≤ r ∨ r + 4 ≤ r0) : cx_ls X' W sk := by
  induction sk with
  | nil => exact True.intro
  | cons q sk ih =>
    obtain ⟨⟨r0, a1, a2, a3⟩, a4⟩ := hls
    have h20 : sk.length + 1 ≤ 20 := h20
    have h0 := (hO.2.1 (101, sk.length) r0 (Or.inr (Or.inr (Or.inl ⟨rfl, by show sk.length < 20; omega⟩))) a1).1
    have hb := ha sk.length r0 (Nat.lt_succ_self _) a1
    obtain ⟨b1, b2, -⟩ := cx_ot_Rr a3 h h0 hb
    exact ⟨⟨r0, by rw [h.1]; exact a1, by rw [b2]; exact a2, b1⟩, ih (by omega) a4 (fun i r1 hi => ha i r1 (Nat.lt_succ_of_lt hi))⟩
/-- a TABLE's ROWS are none of the stack -/
theorem cx_ap_tl (hO : cx_O X) (hs : sr = 54 ∨ sr = 66) (ht0 : t0 < 10) (hr : X.2.2.1 (sr + 8) t0 = some r) : ∀ i r0, i < 20 → X.2.2.1 101 i = some r0 → r0 + 4 ≤ r ∨ r + 4 ≤ r0 := fun i r0 hi h1 => by
  rcases hO.2.2 (101, i) (sr + 8, t0) r0 r (Or.inr (Or.inr (Or.inl ⟨rfl, hi⟩))) (cx_slot hs ht0) h1 hr with y | y | y
  · have := (Prod.mk.inj y).1
    omega
  · exact Or.inl y
  · exact Or.inr y
/-- ROWS of the stack are none of a TABLE -/
theorem cx_ap_lt (hO : cx_O X) (hs : sr = 54 ∨ sr = 66) (hk : k < 20) (hr : X.2.2.1 101 k = some r) : ∀ t r0, t < 10 → X.2.2.1 (sr + 8) t = some r0 → r0 + 4 ≤ r ∨ r + 4 ≤ r0 := fun t r0 ht h1 => by
  rcases hO.2.2 (sr + 8, t) (101, k) r0 r (cx_slot hs ht) (Or.inr (Or.inr (Or.inl ⟨rfl, hk⟩))) h1 hr with y | y | y
  · have := (Prod.mk.inj y).1
    omega
  · exact Or.inl y
  · exact Or.inr y
theorem cx_ap_ll (hO : cx_O X) (hk : k < 20) (hr : X.2.2.1 101 k = some r) : ∀ i r0, i < k → X.2.2.1 101 i = some r0 → r0 + 4 ≤ r ∨ r + 4 ≤ r0 := fun i r0 hi h1 => by
  rcases hO.2.2 (101, i) (101, k) r0 r (Or.inr (Or.inr (Or.inl ⟨rfl, by show i < 20; omega⟩))) (Or.inr (Or.inr (Or.inl ⟨rfl, hk⟩))) h1 hr with y | y | y
  · have := (Prod.mk.inj y).2
    omega
  · exact Or.inl y
  · exact Or.inr y
end CE09
