/-! THE REFERENCE AT A TOKEN -/
def md_RT2 (kd kd' mk : Int) : Prop := (kd = 1 ∧ kd' = 0) ∨ md_RT kd kd' mk
/-- the reference stands at token j -/
def rx_at (P : md_P) (X : fx_X) (j : Nat) : Prop := ∃ (k b : Nat) (L : List (Int × Nat × Int64)), md_lst (rp_f P) (rp_N P) k j L ∧ (∀ i x, L[i]? = some x → (rp_T P).1 (j + i) = x.1 ∧ (rp_T P).2 (j + i) = x.2.2) ∧ md_end md_bk (rp_f P) (rp_N P) k b ∧ (X.1 117 27).toInt = (b : Int) ∧ ((b = rp_N P ∧ (X.1 117 26).toInt = 0 ∧ (X.1 117 28).toInt = (rp_N P : Int)) ∨ (b < rp_N P ∧ ∃ e : Nat, (X.1 117 28).toInt = (e : Int) ∧ md_rtk (rp_f P) (rp_N P) b (X.1 117 26).toInt e (X.1 117 29).toInt))
def rx_G (P : md_P) (X : fx_X) (j : Nat) (c : md_C) : Prop := X.1 138 = rp_f P ∧ (X.1 117 23).toInt = (rp_N P : Int) ∧ rp_N P ≤ 4000 ∧ ((X.1 117 37).toInt = (rp_h P : Int) ∧ rp_h P ≤ 1) ∧ (X.1 117 32).toInt = (if rp_b P = true then 1 else 0) ∧ (X.1 117 24).toInt = 0 ∧ (X.1 117 31).toInt = 0 ∧ rx_at P X j ∧ ((X.1 117 30).toInt = (j : Int) + 1 ∧ j ≤ 1000) ∧ ((X.1 117 47).toInt = (c 12).toInt ∧ 0 ≤ (c 12).toInt ∧ (c 12).toInt ≤ 40) ∧ ((X.1 117 45).toInt = (c 11).toInt ∧ 0 ≤ (c 11).toInt ∧ (c 11).toInt ≤ 12)
/-- a fault is kept -/
def rx_B (P : md_P) (X : fx_X) : Prop := md_F P ∧ (X.1 117 24).toInt ≠ 0 ∧ (X.1 117 32).toInt = 0
/-- the text ends here -/
def rx_X (P : md_P) (v : Int32) (X : fx_X) : Prop := v = Int32.ofInt 0 ∧ md_F P ∧ (X.1 117 24).toInt ≠ 0
def rx_sg (X : fx_X) (a : Int) : Prop := (X.1 117 26).toInt = 3 ∧ (X.1 117 29).toInt = a
abbrev rx_gk : List Nat := [23, 24, 26, 27, 28, 29, 30, 31, 32, 37, 45, 47]
section DD1
variable {P : md_P} {X X' X1 : fx_X} {K : List md_Sy} {s a : Int} {l j near : Nat} {c : md_C} {nm : md_Nm} {q : md_S} {v w p p1 p2 : Int32} {u : Unit} {F L : List (Nat × Nat)} {A : List Nat} {w8 : Int64} {Q : Prop}
theorem md_one_u {f : Nat → Int32} {N k nx nx' : Nat} {kd kd' : Int} {w w' : Int64} (h : md_one f N k kd nx w) (h' : md_one f N k kd' nx' w') : kd = kd' ∧ nx = nx' ∧ w = w' := by
  rcases h with ⟨a1, e, a2, a3⟩ | ⟨a1, e, a2, a3⟩ | ⟨a1, a2, a3⟩
  · rcases h' with ⟨b1, e', b2, b3⟩ | ⟨b1, -⟩ | ⟨b1, -⟩
    · have := md_end_u a2 b2
      subst this
      by_cases z : 8 < e - k
      · rw [if_pos z] at a3 b3
        rw [a3.1, a3.2.1, a3.2.2, b3.1, b3.2.1, b3.2.2]
        exact ⟨rfl, rfl, rfl⟩
      · rw [if_neg z] at a3 b3
        rw [a3.1, a3.2.1, a3.2.2, b3.1, b3.2.1, b3.2.2]
        exact ⟨rfl, rfl, rfl⟩
    · unfold md_let at a1; unfold md_dig at b1; omega
    · exact absurd (Or.inl a1) b1
  · rcases h' with ⟨b1, -⟩ | ⟨b1, e', b2, b3⟩ | ⟨b1, -⟩
    · unfold md_let at b1; unfold md_dig at a1; omega
    · have := md_end_u a2 b2
      subst this
      by_cases z : 4 < e - k
      · rw [if_pos z] at a3 b3
        rw [a3.1, a3.2.1, a3.2.2, b3.1, b3.2.1, b3.2.2]
        exact ⟨rfl, rfl, rfl⟩
      · rw [if_neg z] at a3 b3
        rw [a3.1, a3.2.1, a3.2.2, b3.1, b3.2.1, b3.2.2]
        exact ⟨rfl, rfl, rfl⟩
    · exact absurd (Or.inr a1) b1
  · rcases h' with ⟨b1, -⟩ | ⟨b1, -⟩ | ⟨b1, b2, b3⟩
    · exact absurd (Or.inl b1) a1
    · exact absurd (Or.inr b1) a1
    · by_cases z1 : (f k).toInt = 46 ∧ md_bh f N k = 46
      · rw [if_pos z1] at a3 b3
        rw [a3.1, a3.2, b3.1, b3.2, a2, b2]; exact ⟨rfl, rfl, rfl⟩
      · rw [if_neg z1] at a3 b3
        by_cases z2 : md_bh f N k = 61 ∧ (f k).toInt = 33
        · rw [if_pos z2] at a3 b3
          rw [a3.1, a3.2, b3.1, b3.2, a2, b2]; exact ⟨rfl, rfl, rfl⟩
        · rw [if_neg z2] at a3 b3
          by_cases z3 : md_bh f N k = 61 ∧ (f k).toInt = 60
          · rw [if_pos z3] at a3 b3
            rw [a3.1, a3.2, b3.1, b3.2, a2, b2]; exact ⟨rfl, rfl, rfl⟩
          · rw [if_neg z3] at a3 b3
            by_cases z4 : (f k).toInt ∈ md_sg
            · rw [if_pos z4] at a3 b3
              rw [a3.1, a3.2, b3.1, b3.2, a2, b2]; exact ⟨rfl, rfl, rfl⟩
            · rw [if_neg z4] at a3 b3
              rw [a3.1, a3.2, b3.1, b3.2, a2, b2]; exact ⟨rfl, rfl, rfl⟩
/-- what the token is -/
theorem rx_at_c (h : rx_at P X j) : ((rp_T P).1 j = 1 ∧ (X.1 117 26).toInt = 0) ∨ ∃ (b e : Nat), (X.1 117 27).toInt = (b : Int) ∧ (X.1 117 28).toInt = (e : Int) ∧ b < e ∧ e ≤ rp_N P ∧ md_one (rp_f P) (rp_N P) b ((rp_T P).1 j) (if (rp_T P).1 j = 2 then b else e) ((rp_T P).2 j) ∧ md_RT ((rp_T P).1 j) (X.1 117 26).toInt (X.1 117 29).toInt ∧ ((rp_T P).1 j ≠ 2 → j < 1000 → ∃ L, md_lst (rp_f P) (rp_N P) e (j + 1) L ∧ ∀ i x, L[i]? = some x → (rp_T P).1 (j + 1 + i) = x.1 ∧ (rp_T P).2 (j + 1 + i) = x.2.2) := by
  obtain ⟨k, b, L, h1, h2, h3, h4, h5⟩ := h
  cases L with
  | nil => exact h1.elim
  | cons t L =>
    obtain ⟨b', hb', hif⟩ := h1
    have := md_end_u h3 hb'
    subst this
    obtain ⟨t1, t2⟩ := h2 0 t rfl
    rw [Nat.add_zero] at t1 t2
    by_cases hbN : b = rp_N P
    · rw [if_pos hbN] at hif
      rcases h5 with ⟨-, h6, -⟩ | ⟨h6, -⟩
      · exact Or.inl ⟨by rw [t1, hif.1], h6⟩
      · omega
    · rw [if_neg hbN] at hif
      obtain ⟨nx, ho, -, hr⟩ := hif
      rcases h5 with ⟨h6, -⟩ | ⟨h6, e, he, h7, h8, kd, nx', w', ho', hk, hRT⟩
      · exact absurd h6 hbN
      · obtain ⟨e1, e2, e3⟩ := md_one_u ho' ho
        refine Or.inr ⟨b, e, h4, he, h7, h8, ?_, ?_, fun hk2 hj => ?_⟩
        · rw [t1, t2]
          by_cases z : t.1 = 2
          · rw [if_pos z]
            have hnx : nx = b := by
              rcases ho with ⟨-, e4, -, a3⟩ | ⟨-, e4, -, a3⟩ | ⟨-, -, a3⟩
              · by_cases y : 8 < e4 - b
                · rw [if_pos y] at a3; exact a3.2.1
                · rw [if_neg y, z] at a3
                  exfalso
                  have a4 := a3.1
                  have : ∀ w : Int64, md_wd md_ws w 0 = 3 ∨ 10 ≤ md_wd md_ws w 0 := by
                    intro w
                    have gen : ∀ (l : List Int64) (i : Nat), md_wd l w i = 3 ∨ 10 ≤ md_wd l w i := by
                      intro l
                      induction l with
                      | nil => intro i; exact Or.inl rfl
                      | cons x l ih =>
                        intro i
                        unfold md_wd
                        split
                        · right; omega
                        · exact ih _
                    exact gen md_ws 0
                  rcases this (md_pk (rp_f P) (e4 - b) b (Int64.ofNat 0)) with y | y <;> omega
              · by_cases y : 4 < e4 - b
                · rw [if_pos y] at a3; exact a3.2.1
                · rw [if_neg y, z] at a3
                  omega
              · rw [z] at a3
                split at a3
                · omega
                · split at a3
                  · omega
                  · split at a3
                    · omega
                    · split at a3
                      · rename_i y
                        rw [← a3.1] at y
                        unfold md_sg at y
                        exact absurd y (by decide)
                      · exact a3.2
            rw [hnx] at ho
            exact ho
          · rw [if_neg z, hk (by rw [e1]; exact z), e2]
            exact ho
        · rw [t1, ← e1]; exact hRT
        · rw [t1] at hk2
          have hen : e = nx := by rw [hk (by rw [e1]; exact hk2), e2]
          subst hen
          rw [if_neg (by omega)] at hr
          refine ⟨L, hr, fun i x hx => ?_⟩
          have := h2 (i + 1) x hx
          rw [show j + 1 + i = j + (i + 1) by omega]
          exact this
theorem rx_at_RT (h : rx_at P X j) : md_RT2 ((rp_T P).1 j) (X.1 117 26).toInt (X.1 117 29).toInt := by
  rcases rx_at_c h with h | ⟨b, e, -, -, -, -, -, h, -⟩
  · exact Or.inl h
  · exact Or.inr h
theorem rx_at_fr (h : rx_at P X j) (hf : X'.1 117 26 = X.1 117 26 ∧ X'.1 117 27 = X.1 117 27 ∧ X'.1 117 28 = X.1 117 28 ∧ X'.1 117 29 = X.1 117 29) : rx_at P X' j := by
  unfold rx_at
  rw [hf.1, hf.2.1, hf.2.2.1, hf.2.2.2]
  exact h
theorem rx_G_fr (h : rx_G P X j c) (hf : fy F L A X X') (hA : 138 ∉ A ∧ 117 ∉ A) (hF : ∀ q, q ∈ F → q.1 ≠ 138 ∧ (q.1 = 117 → q.2 ∉ rx_gk)) : rx_G P X' j c := by
  have e : ∀ k, k ∈ rx_gk → X'.1 117 k = X.1 117 k := fun k hk => hf.2.2 117 k hA.2 (fun z => (hF _ z).2 rfl hk)
  obtain ⟨h1, h2, h3, h4, h5, h6, h7, h8, h9, h10, h11⟩ := h
  refine ⟨by rw [fy_ra hf hA.1 (fun q hq => (hF q hq).1)]; exact h1, by rw [e _ (by decide)]; exact h2, h3, by rw [e _ (by decide)]; exact h4, by rw [e _ (by decide)]; exact h5, by rw [e _ (by decide)]; exact h6, by rw [e _ (by decide)]; exact h7, rx_at_fr h8 ⟨e _ (by decide), e _ (by decide), e _ (by decide), e _ (by decide)⟩, by rw [e _ (by decide)]; exact h9, by rw [e _ (by decide)]; exact h10, by rw [e _ (by decide)]; exact h11⟩
theorem rx_B_fr (h : rx_B P X) (hf : fy F L A X X') (hA : 117 ∉ A) (hF : ∀ q, q ∈ F → q.1 = 117 → q.2 ≠ 24 ∧ q.2 ≠ 32) : rx_B P X' := by
  refine ⟨h.1, ?_, ?_⟩
  · rw [hf.2.2 117 24 hA (fun z => (hF _ z rfl).1 rfl)]; exact h.2.1
  · rw [hf.2.2 117 32 hA (fun z => (hF _ z rfl).2 rfl)]; exact h.2.2
theorem rx_220 (g : gx_220 p X w X') : X' = X ∧ ((w.toInt = 1 ∧ rx_sg X p.toInt) ∨ (w.toInt = 0 ∧ ¬ rx_sg X p.toInt)) := by
  unfold gx_220 at g
  unfold rx_sg
  rcases fy_ifd g with ⟨c1, g⟩ | ⟨c1, g⟩
  · rcases fy_ifd g with ⟨c2, g⟩ | ⟨c2, g⟩
    · exact ⟨g.2, Or.inl ⟨by rw [g.1]; rfl, c1, c2⟩⟩
    · exact ⟨g.2, Or.inr ⟨by rw [g.1]; rfl, fun z => c2 z.2⟩⟩
  · exact ⟨g.2, Or.inr ⟨by rw [g.1]; rfl, fun z => c1 z.1⟩⟩
theorem rx_212 (g : gx_212 p X w X') : X' = X ∧ ((w.toInt = 1 ∧ (X.1 117 26).toInt = 4 ∧ (X.1 117 29).toInt = p.toInt) ∨ (w.toInt = 0 ∧ ¬ ((X.1 117 26).toInt = 4 ∧ (X.1 117 29).toInt = p.toInt))) := by
  unfold gx_212 at g
  rcases fy_ifd g with ⟨c1, g⟩ | ⟨c1, g⟩
  · rcases fy_ifd g with ⟨c2, g⟩ | ⟨c2, g⟩
    · exact ⟨g.2, Or.inl ⟨by rw [g.1]; rfl, c1, c2⟩⟩
    · exact ⟨g.2, Or.inr ⟨by rw [g.1]; rfl, fun z => c2 z.2⟩⟩
  · exact ⟨g.2, Or.inr ⟨by rw [g.1]; rfl, fun z => c1 z.1⟩⟩
theorem md_RT2_sg {kd kd' mk : Int} (h : md_RT2 kd kd' mk) (ha : a ∈ md_sg) : (kd' = 3 ∧ mk = a) ↔ kd = a := by
  have ha' := ha
  unfold md_sg at ha'
  simp only [List.mem_cons, List.not_mem_nil, or_false] at ha'
  constructor
  · rintro ⟨h1, h2⟩
    rcases h with h | h | h | h | h | h | h | h | h <;> first | omega | (exfalso; omega)
  · intro e
    subst e
    rcases h with h | h | h | h | h | h | h | h | h <;> first | omega | (exfalso; omega) | exact ⟨h.2.1, h.2.2⟩
theorem rx_sg_i (h : rx_G P X j c) (ha : a ∈ md_sg) : rx_sg X a ↔ (rp_T P).1 j = a := md_RT2_sg (rx_at_RT h.2.2.2.2.2.2.2.1) ha
theorem md_RT2_k {kd kd' mk : Int} (h : md_RT2 kd kd' mk) : (kd' = 0 ↔ kd = 1) ∧ (kd' = 1 ↔ kd = 3) ∧ (kd' = 2 ↔ kd = 4) ∧ (kd' = 3 ∧ mk = 256 ↔ kd = 5) ∧ (kd' = 3 ∧ mk = 257 ↔ kd = 6) ∧ (kd' = 3 ∧ mk = 258 ↔ kd = 7) ∧ ∀ w : Int, 0 ≤ w → w ≤ 9 → (kd' = 4 ∧ mk = w ↔ kd = 10 + w) := by
  have key : kd ∈ md_sg → 33 ≤ kd ∧ kd ≤ 125 := fun z => by
    unfold md_sg at z
    simp only [List.mem_cons, List.not_mem_nil, or_false] at z
    omega
  rcases h with h | h | h | h | h | h | h | h | ⟨h, h1, h2⟩
  · refine ⟨by omega, by omega, by omega, by omega, by omega, by omega, fun w w1 w2 => by omega⟩
  · refine ⟨by omega, by omega, by omega, by omega, by omega, by omega, fun w w1 w2 => by omega⟩
  · refine ⟨by omega, by omega, by omega, by omega, by omega, by omega, fun w w1 w2 => by omega⟩
  · refine ⟨by omega, by omega, by omega, by omega, by omega, by omega, fun w w1 w2 => by omega⟩
  · refine ⟨by omega, by omega, by omega, by omega, by omega, by omega, fun w w1 w2 => by omega⟩
  · refine ⟨by omega, by omega, by omega, by omega, by omega, by omega, fun w w1 w2 => by omega⟩
  · refine ⟨by omega, by omega, by omega, by omega, by omega, by omega, fun w w1 w2 => by omega⟩
  · refine ⟨by omega, by omega, by omega, by omega, by omega, by omega, fun w w1 w2 => by omega⟩
  · have := key h
    refine ⟨by omega, by omega, by omega, by omega, by omega, by omega, fun w w1 w2 => by omega⟩
theorem rx_k (h : rx_G P X j c) : ((X.1 117 26).toInt = 0 ↔ (rp_T P).1 j = 1) ∧ ((X.1 117 26).toInt = 1 ↔ (rp_T P).1 j = 3) ∧ ((X.1 117 26).toInt = 2 ↔ (rp_T P).1 j = 4) ∧ ((X.1 117 26).toInt = 3 ∧ (X.1 117 29).toInt = 256 ↔ (rp_T P).1 j = 5) ∧ ((X.1 117 26).toInt = 3 ∧ (X.1 117 29).toInt = 257 ↔ (rp_T P).1 j = 6) ∧ ((X.1 117 26).toInt = 3 ∧ (X.1 117 29).toInt = 258 ↔ (rp_T P).1 j = 7) ∧ ∀ w : Int, 0 ≤ w → w ≤ 9 → ((X.1 117 26).toInt = 4 ∧ (X.1 117 29).toInt = w ↔ (rp_T P).1 j = 10 + w) := md_RT2_k (rx_at_RT h.2.2.2.2.2.2.2.1)
theorem rx_215 (hr : md_F P) (hp : p1.toInt ≠ 0) (g : gx_215 p1 p2 X v X') : rx_X P v X' := by
  obtain ⟨X2, rfl, X3, rfl, X4, rfl, rfl, rfl⟩ := g
  exact ⟨rfl, hr, by rw [fx_rIk (by decide), fx_rIk (by decide), fx_rIe]; exact hp⟩
theorem rx_218 (hw : (X.1 117 32).toInt = 0) (hp : p1.toInt ≠ 0) (g : gx_218 p1 p2 X u X') : (X'.1 117 24).toInt ≠ 0 ∧ (X'.1 117 32).toInt = 0 := by
  unfold gx_218 at g
  rw [if_pos hw] at g
  have st : ∀ {X4 : fx_X}, X4 = (fx_wI X 117 24 p1) → X' = (fx_wI X4 117 25 p2) → (X'.1 117 24).toInt ≠ 0 ∧ (X'.1 117 32).toInt = 0 := by
    rintro X4 rfl rfl
    refine ⟨by rw [fx_rIk (by decide), fx_rIe]; exact hp, by rw [fx_rIk (by decide), fx_rIk (by decide)]; exact hw⟩
  rcases fy_ifd g with ⟨c1, g⟩ | ⟨c1, g⟩
  · obtain ⟨X4, e1, X5, e2, e3⟩ := g
    exact st e1 (e3.trans e2)
  · rcases fy_ifd g with ⟨c2, g⟩ | ⟨c2, g⟩
    · rw [g]; exact ⟨c1, hw⟩
    · rcases fy_ifd g with ⟨c3, g⟩ | ⟨c3, g⟩
      · rcases fy_ifd g with ⟨c4, g⟩ | ⟨c4, g⟩
        · obtain ⟨X4, e1, X5, e2, e3⟩ := g
          exact st e1 (e3.trans e2)
        · rw [g]; exact ⟨c1, hw⟩
      · obtain ⟨X4, e1, X5, e2, e3⟩ := g
        exact st e1 (e3.trans e2)
theorem rx_tell (h : rx_B P X ∨ (rx_G P X j c ∧ md_F P)) (hp : p1.toInt ≠ 0) (g : gx_218 p1 p2 X u X') : rx_B P X' := by
  rcases h with h | ⟨h, hF⟩
  · exact ⟨h.1, rx_218 h.2.2 hp g⟩
  · exact ⟨hF, rx_218 (by rw [h.2.2.2.2.1, hF.1]; rfl) hp g⟩
abbrev rx_FP : List (Nat × Nat) := [(117, 24), (117, 25), (117, 26), (117, 27), (117, 28), (117, 29), (117, 30), (117, 31)]
/-- one token on, where it is one -/
theorem rx_214t (h : rx_B P X ∨ (rx_G P X j c ∧ ((rp_T P).1 j ≠ 1 ∧ (rp_T P).1 j ≠ 2) ∧ Q)) (g : gx_214 X v X') : (v = Int32.ofInt 0 ∧ (rx_B P X' ∨ ((X'.1 117 24).toInt ≠ 0 ∧ 1000 ≤ j ∧ Q))) ∨ (v = Int32.ofInt 1 ∧ (rx_B P X' ∨ (rx_G P X' (j + 1) c ∧ j < 1000 ∧ Q))) := by
  unfold gx_214 at g
  rcases fy_ifd g with ⟨c1, g⟩ | ⟨c1, g⟩
  · obtain ⟨w7, X6, ⟨X2, rfl, X3, rfl, X4, rfl, rfl, rfl⟩, rfl, rfl⟩ := g
    left
    refine ⟨rfl, ?_⟩
    have e24 : ((fx_wI (fx_wI (fx_wI X 117 24 (Int32.ofInt 2)) 117 25 (X.1 117 27)) 117 31 (Int32.ofInt 1)).1 117 24).toInt ≠ 0 := by rw [fx_rIk (by decide), fx_rIk (by decide), fx_rIe]; decide
    rcases h with h | ⟨hG, hT, hQ⟩
    · exact Or.inl ⟨h.1, e24, by rw [fx_rIk (by decide), fx_rIk (by decide), fx_rIk (by decide)]; exact h.2.2⟩
    · have := hG.2.2.2.2.2.2.2.2.1
      exact Or.inr ⟨e24, by omega, hQ⟩
  · obtain ⟨X3, rfl, w5, X4, r, rfl, rfl⟩ := g
    right
    refine ⟨rfl, ?_⟩
    have f1 : fy [(117, 30)] [] [] X (fx_wI X 117 30 (X.1 117 30 + Int32.ofInt 1)) := fy_f fy_rf (by decide)
    have f2 := gf_206 r
    rcases h with h | ⟨hG, hT, hQ⟩
    · exact Or.inl (rx_B_fr (rx_B_fr h f1 (by decide) (by decide)) f2 (by decide) (by decide))
    · obtain ⟨h1, h2, h3, h4, h5, h6, h7, h8, h9, h10, h11⟩ := hG
      have hj : j < 1000 := by omega
      have e30 : (X.1 117 30 + Int32.ofInt 1).toInt = ((j + 1 : Nat) : Int) + 1 := by
        have e1 : (Int32.ofInt 1).toInt = 1 := rfl
        rw [fx_add (by omega) (by omega), h9.1, e1]; omega
      have k : ∀ k, k ≠ 26 → k ≠ 27 → k ≠ 28 → k ≠ 29 → k ≠ 30 → X'.1 117 k = X.1 117 k := fun k k1 k2 k3 k4 k5 => by
        rw [f2.2.2 117 k (by decide) (by simp; omega), fx_rIk k5]
      refine Or.inr ⟨⟨?_, ?_, h3, ?_, ?_, ?_, ?_, ?_, ?_, ?_, ?_⟩, hj, hQ⟩
      · rw [fy_ra f2 (by decide) (by decide), fx_rIn (by decide)]; exact h1
      · rw [k _ (by decide) (by decide) (by decide) (by decide) (by decide)]; exact h2
      · rw [k _ (by decide) (by decide) (by decide) (by decide) (by decide)]; exact h4
      · rw [k _ (by decide) (by decide) (by decide) (by decide) (by decide)]; exact h5
      · rw [k _ (by decide) (by decide) (by decide) (by decide) (by decide)]; exact h6
      · rw [k _ (by decide) (by decide) (by decide) (by decide) (by decide)]; exact h7
      · rcases rx_at_c h8 with ⟨z, -⟩ | ⟨b, e, hb, he, hbe, heN, -, -, hL⟩
        · exact absurd z hT.1
        · obtain ⟨L, hL1, hL2⟩ := hL hT.2 hj
          obtain ⟨b2, q1, q2, q3, q4⟩ := cx_206 (f := rp_f P) h3 (by rw [fx_rIk (by decide)]; exact h2) (by rw [fx_rIn (by decide)]; exact h1) (by rw [fx_rIk (by decide)]; exact he) heN r
          exact ⟨e, b2, L, hL1, hL2, q1, q3, q4⟩
      · rw [f2.2.2 117 30 (by decide) (by decide), fx_rIe]; exact ⟨e30, by omega⟩
      · rw [k _ (by decide) (by decide) (by decide) (by decide) (by decide)]; exact h10
      · rw [k _ (by decide) (by decide) (by decide) (by decide) (by decide)]; exact h11
/-- one token on -/
theorem rx_214 (h : rx_B P X ∨ (rx_G P X j c ∧ md_R P ((s, l) :: K) j near c nm q ∧ ((rp_T P).1 j = s ∧ 3 ≤ s ∧ s < 130) ∧ Q)) (g : gx_214 X v X') : rx_X P v X' ∨ (v = Int32.ofInt 1 ∧ (rx_B P X' ∨ (rx_G P X' (j + 1) c ∧ md_R P K (j + 1) j c nm q ∧ Q))) := by
  have h2 := rx_214t (Q := md_R P ((s, l) :: K) j near c nm q ∧ ((rp_T P).1 j = s ∧ 3 ≤ s ∧ s < 130) ∧ Q) (h.imp id (fun z => ⟨z.1, by have := z.2.2.1; omega, z.2⟩)) g
  rcases h2 with ⟨hv, h2⟩ | ⟨hv, h2⟩
  · left
    rcases h2 with h2 | ⟨h3, h4, hR, hT, hQ⟩
    · exact ⟨hv, h2.1, h2.2.1⟩
    · exact ⟨hv, (md_R_tx hR hT.2.2 (Or.inr ⟨h4, by omega⟩)), h3⟩
  · exact Or.inr ⟨hv, h2.imp id (fun z => ⟨z.1, md_R_t z.2.2.1 z.2.2.2.1.2.2 z.2.2.2.1.1 (Or.inl z.2.1), z.2.2.2.2⟩)⟩
/-- a call that may end the text -/
theorem rx_go {B G : Prop} (h : rx_X P w X1 ∨ (w = Int32.ofInt 1 ∧ B)) (g : if w.toInt = 0 then (v = Int32.ofInt 0 ∧ X' = X1) else G) : rx_X P v X' ∨ (B ∧ G) := by
  rcases h with ⟨h1, h2, h3⟩ | ⟨h1, h2⟩
  · rw [if_pos (by rw [h1]; rfl)] at g
    rw [g.2]
    exact Or.inl ⟨g.1, h2, h3⟩
  · rw [if_neg (by rw [h1]; decide)] at g
    exact Or.inr ⟨h2, g⟩
/-- the sign that must come -/
theorem rx_219 (h : rx_B P X ∨ (rx_G P X j c ∧ md_R P ((s, l) :: K) j near c nm q ∧ Q)) (hs : s ∈ md_sg) (hp : p.toInt = s) (g : gx_219 p X v X') : rx_X P v X' ∨ (v = Int32.ofInt 1 ∧ (rx_B P X' ∨ (rx_G P X' (j + 1) c ∧ md_R P K (j + 1) j c nm q ∧ Q))) := by
  obtain ⟨w3, X2, r, g⟩ := g
  obtain ⟨rfl, hw⟩ := rx_220 r
  have hs2 : 3 ≤ s ∧ s < 130 := by
    unfold md_sg at hs
    simp only [List.mem_cons, List.not_mem_nil, or_false] at hs
    omega
  rcases fy_ifd g with ⟨c1, g⟩ | ⟨c1, g⟩
  · obtain ⟨w7, X6, r, rfl, rfl⟩ := g
    left
    have hn : ¬ rx_sg X2 s := by
      rcases hw with hw | hw
      · omega
      · rw [← hp]; exact hw.2
    rcases h with h | ⟨hG, hR, -⟩
    · exact rx_215 h.1 (by decide) r
    · exact rx_215 (md_R_tx hR hs2.2 (Or.inl (fun z => hn ((rx_sg_i hG hs).mpr z)))) (by decide) r
  · obtain ⟨w7, X6, r, rfl, rfl⟩ := g
    have hn : rx_sg X2 s := by
      rcases hw with hw | hw
      · rw [← hp]; exact hw.2
      · omega
    exact rx_214 (h.imp id (fun z => ⟨z.1, z.2.1, ⟨(rx_sg_i z.1 hs).mp hn, hs2.1, hs2.2⟩, z.2.2⟩)) r
/-- a NAME -/
theorem rx_216 (h : rx_B P X ∨ (rx_G P X j c ∧ md_R P ((3, l) :: K) j near c nm q ∧ Q)) (g : gx_216 X v X') : rx_X P v X' ∨ (v = Int32.ofInt 1 ∧ (rx_B P X' ∨ (rx_G P X' (j + 1) c ∧ md_R P K (j + 1) j c nm q ∧ (X'.2.1 117 33 = (rp_T P).2 j ∧ (rp_T P).1 j = 3) ∧ Q))) := by
  unfold gx_216 at g
  rcases fy_ifd g with ⟨c1, g⟩ | ⟨c1, g⟩
  · obtain ⟨w4, X3, r1, X5, rfl, X6, rfl, w8, X7, r2, rfl, rfl⟩ := g
    have e3 : X3 = X := fy_e (gf_210 r1)
    subst e3
    have f6 : fy [(117, 34)] [(117, 33)] [] X3 (fx_wI (fx_wL X3 117 33 w4) 117 34 ((fx_wL X3 117 33 w4).1 117 27)) := fy_f (fy_g fy_rf (by decide)) (by decide)
    have hx := rx_214 (Q := rx_G P X3 j c ∧ Q) (h.imp (fun z => rx_B_fr z f6 (by decide) (by decide)) (fun z => ⟨rx_G_fr z.1 f6 (by decide) (by decide), z.2.1, ⟨(rx_k z.1).2.1.mp c1, by decide, by decide⟩, z.1, z.2.2⟩)) r2
    rcases hx with hx | ⟨hv, hx⟩
    · exact Or.inl hx
    · refine Or.inr ⟨hv, ?_⟩
      rcases hx with hx | ⟨hx1, hx2, hG, hQ⟩
      · exact Or.inl hx
      · have hT : (rp_T P).1 j = 3 := (rx_k hG).2.1.mp c1
        refine Or.inr ⟨hx1, hx2, ⟨?_, hT⟩, hQ⟩
        have f7 := gf_214 r2
        rw [f7.2.1 117 33 (by decide) (by decide)]
        show (fx_wL X3 117 33 w4).2.1 117 33 = _
        rw [fx_rLe]
        rcases rx_at_c hG.2.2.2.2.2.2.2.1 with ⟨z, -⟩ | ⟨b, e, hb, he, hbe, heN, ho, -, -⟩
        · omega
        · obtain ⟨-, hq⟩ := cx_210 hb he (by have := hG.2.2.1; omega) (by omega) r1
          rw [hq, hG.1]
          rw [hT, if_neg (by decide)] at ho
          rcases ho with ⟨-, e', a2, a3⟩ | ⟨-, e', a2, a3⟩ | ⟨-, -, a3⟩
          · by_cases y : 8 < e' - b
            · rw [if_pos y] at a3; omega
            · rw [if_neg y] at a3
              rw [a3.2.2, a3.2.1]
          · split at a3 <;> omega
          · exfalso
            split at a3
            · omega
            · split at a3
              · omega
              · split at a3
                · omega
                · split at a3
                  · rename_i y
                    rw [← a3.1] at y
                    exact absurd y (by decide)
                  · omega
  · obtain ⟨w7, X6, r, rfl, rfl⟩ := g
    left
    rcases h with h | ⟨hG, hR, -⟩
    · exact rx_215 h.1 (by decide) r
    · exact rx_215 (md_R_tx hR (by decide) (Or.inl (fun z => c1 ((rx_k hG).2.1.mpr z)))) (by decide) r
end DD1
