/-! THE MODEL OF THE WORKER: ROWS stay such as can be -/
def md_okA' (n : Nat) (A : List md_Row) : Prop := A.length ≤ 30 ∧ ∀ x, x ∈ A → md_okt n x.1
def md_gw (n : Nat) (w : md_WS) : Prop := (∀ A, A ∈ w.1 → md_okA' n A) ∧ (∀ q, q ∈ w.2.1 → md_okA n q.1 q.2 ∧ q.1 ≤ 6) ∧ w.2.1.length ≤ 20 ∧ w.2.2.1.length ≤ 32
section MDW
variable {W n wd wd' m : Nat} {val : md_V} {A B : List md_Row} {sd : md_Sd × md_Sd} {rel : Int} {ts us : List md_Tm} {s : md_Sd}
theorem md_okb_s (h : md_okb n wd s = true) : md_oks n wd s := by
  unfold md_okb at h
  simp only [Bool.or_eq_true, Bool.and_eq_true, beq_iff_eq, decide_eq_true_eq] at h
  unfold md_oks
  rcases h with (h | ⟨h, h1, h2⟩) | ⟨h, h1, h2⟩
  · exact Or.inl h
  · exact Or.inr (Or.inl ⟨h, h1, h2⟩)
  · exact Or.inr (Or.inr ⟨h, h1, h2⟩)
theorem md_okA_app (hA : md_okA n wd A) (hB : md_okA n wd B) (h : A.length + B.length ≤ 30) : md_okA n wd (A ++ B) := ⟨by rw [List.length_append]; exact h, fun x hx => by
  rcases List.mem_append.mp hx with y | y
  · exact hA.2 x y
  · exact hB.2 x y⟩
theorem md_okA_mi (hA : md_okA n wd A) : md_okA n wd (md_mi val A B) := ⟨by unfold md_mi; rw [List.length_map]; exact hA.1, fun x hx => by
  obtain ⟨y, hy, rfl⟩ := List.mem_map.mp hx
  exact hA.2 y hy⟩
theorem md_okA_ts (hA : md_okA n wd A) : md_okA n wd (md_ts val sd rel A) := ⟨by unfold md_ts; rw [List.length_map]; exact hA.1, fun x hx => by
  obtain ⟨y, hy, rfl⟩ := List.mem_map.mp hx
  exact hA.2 y hy⟩
theorem md_nw_mem : ∀ (us : List md_Tm) (m : Nat) (t : md_Tm), t ∈ md_nw wd m us → t ∈ us
  | [], _, _, h => h
  | b :: us, m, t, h => by
    have h' : t ∈ (if m % 8 < wd then [] else [b]) ++ md_nw wd (m / 8) us := h
    rcases List.mem_append.mp h' with y | y
    · split at y
      · cases y
      · simp at y; rw [y]; exact List.mem_cons_self
    · exact List.mem_cons_of_mem _ (md_nw_mem us (m / 8) t y)
theorem md_okA_jn (hA : md_okA n wd A) (hB : md_okA n wd' B) (h : A.length * B.length ≤ 30) (h6 : wd + md_ncn wd m wd' ≤ 6) : md_okA n (wd + md_ncn wd m wd') (md_jn val m A B) := by
  constructor
  · have key : ∀ A' : List md_Row, (md_jn val m A' B).length = A'.length * B.length := by
      intro A'
      induction A' with
      | nil => show 0 = 0 * B.length; omega
      | cons a A' ih =>
        unfold md_jn at ih ⊢
        rw [List.flatMap_cons, List.length_append, List.length_map, ih, List.length_cons, Nat.succ_mul]; omega
    rw [key]; exact h
  · intro x hx
    obtain ⟨a, ha, hx⟩ := List.mem_flatMap.mp hx
    obtain ⟨b, hb, rfl⟩ := List.mem_map.mp hx
    obtain ⟨o1, o2⟩ := hA.2 a ha
    obtain ⟨o3, o4⟩ := hB.2 b hb
    have e : (a.1 ++ md_nw a.1.length m b.1).length = wd + md_ncn wd m wd' := by rw [List.length_append, md_nw_n, o2, o4]
    refine ⟨⟨by show (a.1 ++ md_nw a.1.length m b.1).length ≤ 6; rw [e]; exact h6, fun t ht => ?_⟩, e⟩
    have ht' : t ∈ a.1 ++ md_nw a.1.length m b.1 := ht
    rcases List.mem_append.mp ht' with y | y
    · exact o1.2 t y
    · exact o3.2 t (md_nw_mem b.1 m t y)
theorem md_okA_pj {pk : List Nat} (hA : md_okA n wd A) (hp : ∀ c, c ∈ pk → c < wd) (h6 : pk.length ≤ 6) : md_okA n pk.length (md_pj pk A) := by
  refine ⟨by unfold md_pj; rw [List.length_map]; exact hA.1, fun x hx => ?_⟩
  obtain ⟨y, hy, rfl⟩ := List.mem_map.mp hx
  obtain ⟨o1, o2⟩ := hA.2 y hy
  refine ⟨⟨by show (pk.map _).length ≤ 6; rw [List.length_map]; exact h6, fun t ht => ?_⟩, by show (pk.map _).length = _; rw [List.length_map]⟩
  obtain ⟨c, hc, rfl⟩ := List.mem_map.mp ht
  have hcw := hp c hc
  refine o1.2 _ ?_
  rw [List.getD_eq_getElem?_getD, List.getElem?_eq_getElem (by omega : c < y.1.length)]
  exact List.getElem_mem _
end MDW
