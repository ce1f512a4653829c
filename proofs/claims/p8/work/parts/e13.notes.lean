/-! THE CLASS'S WORKER: the stack of a question -/
/-- one ROWS alone, and what is folded on the way -/
def cx_tf4 (r : Nat) (X X' : fx_X) : Prop := X'.2 = X.2 ∧ ∀ q k, (q < r ∨ r + 4 ≤ q) → q ≠ 98 → q ≠ 99 → q ≠ 100 → X'.1 q k = X.1 q k
section CE13
variable {X X' X0 X1 : fx_X} {p p1 p2 : Int32} {u : Unit} {sr r r0 rr W n t t0 wd wd' k c : Nat} {tw : List Nat} {val : md_V} {A A' B : List md_Row} {tb tb' : List (List md_Row)} {sk sk' : List md_Q} {tr tr' pt : List (Nat → Bool)} {q : md_Q} {sd : md_Sd × md_Sd} {rel fo fd : Int} {rt rt' : Nat} {pk : Option (List Nat)} {o : Option Nat} {x : Nat → Bool} {y : md_Row} {ps : List Nat}
theorem cx_tf4_rf (h : cx_rf r X X') : cx_tf4 r X X' := ⟨h.1, fun q k a _ _ _ => h.2 q k a⟩
theorem cx_tf4_jf (h : cx_jf r X X') : cx_tf4 r X X' := ⟨h.1, fun q k a _ b c => h.2 q k a b c⟩
/-- a ROWS of the stack that is there already -/
theorem cx_100s (hk : p1.toInt = (k : Int)) (h20 : k < 20) (hr : X.2.2.1 101 k = some r) (g : gx_100 p1 X rr X') : X' = X ∧ rr = r := by
  unfold gx_100 at g
  rw [if_neg (by omega), if_pos (by omega), fx_in hk] at g
  obtain ⟨-, g⟩ := g
  rcases g with ⟨hn, _⟩ | ⟨b10, hb, -, rfl, rfl⟩
  · rw [hr] at hn; cases hn
  · rw [hr] at hb; cases hb; exact ⟨rfl, rfl⟩
/-- the stack alone is another -/
theorem cx_WS_sk (hW : cx_WS X sr W n val tw (tb, sk, tr, sd, rel, pt, rt, pk, fo, fd)) (hO : cx_O X') (hs : ∀ q j, q < 150 → q ≠ 101 → ¬ (q = 95 ∧ j = 5) → X'.2.2.1 q j = X.2.2.1 q j) (h5 : ∃ rs, X'.2.2.1 95 5 = some rs) (h1 : ∀ q k, (q < 102 ∨ (106 ≤ q ∧ q < 150)) → q ≠ 98 → q ≠ 99 → q ≠ 100 → ¬ (q = 95 ∧ k = 4) → X'.1 q k = X.1 q k) (ht : ∀ t r0, t < 10 → X.2.2.1 (sr + 8) t = some r0 → ∀ q k, r0 ≤ q → q < r0 + 4 → X'.1 q k = X.1 q k) (h4 : (X'.1 95 4).toInt = (sk'.length : Int)) (hls : cx_ls X' W sk') (hg : md_gw n (tb, sk', tr, sd, rel, pt, rt, pk, fo, fd)) : cx_WS X' sr W n val tw (tb, sk', tr, sd, rel, pt, rt, pk, fo, fd) := by
  obtain ⟨w1, hs54, w3, w4, ⟨a, b, c, d, e, f, g⟩, ⟨t1, t2, t3, t4⟩, w7, w9, w10, w11, w12, ⟨r1, r2⟩, ⟨q1, q2, q3⟩⟩ := hW
  refine ⟨hg, hs54, hO, ⟨w4.1, w4.2.1, fun w u hw hu => by rw [h1 _ _ (by omega) (by omega) (by omega) (by omega) (by omega)]; exact w4.2.2 w u hw hu⟩, ⟨by rw [hs _ _ (by omega) (by omega) (by omega)]; exact a, by rw [h1 _ _ (by omega) (by omega) (by omega) (by omega) (by omega)]; exact b, by rw [h1 _ _ (by omega) (by omega) (by omega) (by omega) (by omega)]; exact c, by rw [h1 _ _ (by omega) (by omega) (by omega) (by omega) (by omega)]; exact d, by rw [h1 _ _ (by omega) (by omega) (by omega) (by omega) (by omega)]; exact e, by rw [h1 _ _ (by omega) (by omega) (by omega) (by omega) (by omega)]; exact f, by rw [h1 _ _ (by omega) (by omega) (by omega) (by omega) (by omega)]; exact g⟩, ⟨by rw [h1 _ _ (by omega) (by omega) (by omega) (by omega) (by omega)]; exact t1, t2, t3, fun t wd htw => ?_⟩, ⟨h4, hls⟩, h5, fun i f hf w hw => by rw [h1 _ _ (by omega) (by omega) (by omega) (by omega) (by omega)]; exact w10 i f hf w hw, ⟨by rw [h1 _ _ (by omega) (by omega) (by omega) (by omega) (by omega)]; exact w11.1, w11.2.1, fun w p hw hp => by rw [h1 _ _ (by omega) (by omega) (by omega) (by omega) (by omega)]; exact w11.2.2 w p hw hp⟩, ⟨by rw [h1 _ _ (by omega) (by omega) (by omega) (by omega) (by omega)]; exact w12.1, fun k w hk => by rw [h1 _ _ (by omega) (by omega) (by omega) (by omega) (by omega)]; exact w12.2 k w hk⟩, ⟨fun h => by rw [h1 _ _ (by omega) (by omega) (by omega) (by omega) (by omega)]; exact r1 h, fun A r' ha hb => by rw [h1 _ _ (by omega) (by omega) (by omega) (by omega) (by omega)]; exact r2 A r' ha hb⟩, ⟨fun ps hp => ?_, by rw [h1 _ _ (by omega) (by omega) (by omega) (by omega) (by omega)]; exact q2, by rw [h1 _ _ (by omega) (by omega) (by omega) (by omega) (by omega)]; exact q3⟩⟩
  · obtain ⟨r0, a1, a2, a3⟩ := t4 t wd htw
    have htl := (List.getElem?_eq_some_iff.mp htw).1
    have e := ht t r0 (by omega) a1
    refine ⟨r0, by rw [hs _ _ (by omega) (by omega) (by omega)]; exact a1, by rw [e _ _ (by omega) (by omega)]; exact a2, ?_⟩
    cases ho : tb[t]? with
    | none => rw [ho] at a3; show (X'.1 r0 4).toInt = 0; rw [e _ _ (by omega) (by omega)]; exact a3
    | some A => rw [ho] at a3; exact cx_Rr_e a3 (e _ _ (by omega) (by omega)) (fun k => e _ _ (by omega) (by omega)) (fun k => e _ _ (by omega) (by omega)) (fun k => e _ _ (by omega) (by omega))
  · obtain ⟨b1, b2, b3⟩ := q1 ps hp
    exact ⟨by rw [h1 _ _ (by omega) (by omega) (by omega) (by omega) (by omega)]; exact b1, b2, fun i c hc => by rw [h1 _ _ (by omega) (by omega) (by omega) (by omega) (by omega)]; exact b3 i c hc⟩
/-- the stack under a change of one ROWS that is none of it -/
theorem cx_ls_tf4 (hO : cx_O X) (h20 : sk.length ≤ 20) (hls : cx_ls X W sk) (h : cx_tf4 r X X') (ha : ∀ i r0, i < sk.length → X.2.2.1 101 i = some r0 → r0 + 4 ≤ r ∨ r + 4 ≤ r0) : cx_ls X' W sk := by
  induction sk with
  | nil => exact True.intro
  | cons q sk ih =>
    obtain ⟨⟨r0, a1, a2, a3⟩, a4⟩ := hls
    have h20 : sk.length + 1 ≤ 20 := h20
    have h0 := (hO.2.1 (101, sk.length) r0 (Or.inr (Or.inr (Or.inl ⟨rfl, by show sk.length < 20; omega⟩))) a1).1
    have hb := ha sk.length r0 (Nat.lt_succ_self _) a1
    have e : ∀ q k, r0 ≤ q → q < r0 + 4 → X'.1 q k = X.1 q k := fun q k h1 h2 => h.2 q k (by omega) (by omega) (by omega) (by omega)
    exact ⟨⟨r0, by rw [h.1]; exact a1, by rw [e _ _ (by omega) (by omega)]; exact a2, cx_Rr_e a3 (e _ _ (by omega) (by omega)) (fun k => e _ _ (by omega) (by omega)) (fun k => e _ _ (by omega) (by omega)) (fun k => e _ _ (by omega) (by omega))⟩, ih (by omega) a4 (fun i r1 hi => ha i r1 (Nat.lt_succ_of_lt hi))⟩
/-- the stack where its arrays stay -/
theorem cx_ls_e4 (hO : cx_O X) (h20 : sk.length ≤ 20) (hls : cx_ls X W sk) (h2 : ∀ i, i < sk.length → ∀ r0, X.2.2.1 101 i = some r0 → X'.2.2.1 101 i = some r0 ∧ ∀ q k, r0 ≤ q → q < r0 + 4 → X'.1 q k = X.1 q k) : cx_ls X' W sk := by
  induction sk with
  | nil => exact True.intro
  | cons q sk ih =>
    obtain ⟨⟨r0, a1, a2, a3⟩, a4⟩ := hls
    have h20 : sk.length + 1 ≤ 20 := h20
    obtain ⟨e1, e⟩ := h2 sk.length (Nat.lt_succ_self _) r0 a1
    exact ⟨⟨r0, e1, by rw [e _ _ (by omega) (by omega)]; exact a2, cx_Rr_e a3 (e _ _ (by omega) (by omega)) (fun k => e _ _ (by omega) (by omega)) (fun k => e _ _ (by omega) (by omega)) (fun k => e _ _ (by omega) (by omega))⟩, ih (by omega) a4 (fun i hi => h2 i (Nat.lt_succ_of_lt hi))⟩
/-- the top of the stack is dropped -/
theorem cx_WS_dr (hW : cx_WS X sr W n val tw (tb, q :: sk, tr, sd, rel, pt, rt, pk, fo, fd)) (e : X' = fx_wI X 95 4 (X.1 95 4 - Int32.ofInt 1)) : cx_WS X' sr W n val tw (tb, sk, tr, sd, rel, pt, rt, pk, fo, fd) := by
  have hW0 := hW
  obtain ⟨⟨g1, g2, g3, g4⟩, hs, w3, -, -, -, ⟨w7, w8⟩, w9, -⟩ := hW
  have g3 : sk.length + 1 ≤ 20 := g3
  have w7 : (X.1 95 4).toInt = ((sk.length + 1 : Nat) : Int) := w7
  subst e
  refine cx_WS_sk hW0 w3 (fun _ _ _ _ _ => rfl) w9 (fun q k _ _ _ _ z => by rw [fx_rI, if_neg z]) (fun t r0 ht hr q k z1 z2 => ?_) (by rw [fx_rIe]; exact cx_dec w7 (by omega)) ?_ ⟨g1, fun q' hq => g2 q' (List.mem_cons_of_mem _ hq), by show sk.length ≤ 20; omega, g4⟩
  · have h0 := (w3.2.1 (sr + 8, t) r0 (cx_slot hs ht) hr).1
    rw [fx_rIn (by omega)]
  · refine cx_ls_e4 w3 (by omega) w8.2 (fun i hi r0 hr => ⟨hr, fun q k z1 z2 => ?_⟩)
    have h0 := (w3.2.1 (101, i) r0 (Or.inr (Or.inr (Or.inl ⟨rfl, by show i < 20; omega⟩))) hr).1
    rw [fx_rIn (by omega)]
/-- the top of the stack is another -/
theorem cx_WS_tp {q' : md_Q} (hW : cx_WS X sr W n val tw (tb, q :: sk, tr, sd, rel, pt, rt, pk, fo, fd)) (hr : X.2.2.1 101 sk.length = some r) (h : cx_tf4 r X X') (hR : cx_Rr X' r W q'.2) (hw : (X'.1 r 3).toInt = (q'.1 : Int)) (hok : md_okA n q'.1 q'.2) (h6 : q'.1 ≤ 6) : cx_WS X' sr W n val tw (tb, q' :: sk, tr, sd, rel, pt, rt, pk, fo, fd) := by
  have hW0 := hW
  obtain ⟨⟨g1, g2, g3, g4⟩, hs, w3, -, -, -, ⟨w7, w8⟩, w9, -⟩ := hW
  have g3 : sk.length + 1 ≤ 20 := g3
  have hr0 := (w3.2.1 (101, sk.length) r (Or.inr (Or.inr (Or.inl ⟨rfl, by show sk.length < 20; omega⟩))) hr).1
  refine cx_WS_sk hW0 (by unfold cx_O at w3 ⊢; rw [h.1]; exact w3) (fun _ _ _ _ _ => by rw [h.1]) (by rw [h.1]; exact w9) (fun q k z a b c _ => h.2 q k (by omega) a b c) (fun t r0 ht hr1 q k z1 z2 => ?_) (by rw [h.2 _ _ (by omega) (by decide) (by decide) (by decide)]; exact w7) ⟨⟨r, by rw [h.1]; exact hr, hw, hR⟩, cx_ls_tf4 w3 (by omega) w8.2 h (cx_ap_ll w3 (by omega) hr)⟩ ⟨g1, fun q1 hq => ?_, by show sk.length + 1 ≤ 20; omega, g4⟩
  · have h0 := (w3.2.1 (sr + 8, t) r0 (cx_slot hs ht) hr1).1
    have ha := cx_ap_lt w3 hs (by omega) hr t r0 ht hr1
    exact h.2 q k (by omega) (by omega) (by omega) (by omega)
  · rcases List.mem_cons.mp hq with z | z
    · rw [z]; exact ⟨hok, h6⟩
    · exact g2 q1 (List.mem_cons_of_mem _ z)
end CE13
