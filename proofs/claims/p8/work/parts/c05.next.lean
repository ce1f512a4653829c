/-! TOKENS OF THE REFERENCE: next -/
/-- the class's kind kd, the reference's kind and mark -/
def md_RT (kd kd' mk : Int) : Prop := (kd = 2 ∧ (kd' = 5 ∨ (kd' = 3 ∧ mk = 46))) ∨ (kd = 3 ∧ kd' = 1) ∨ (kd = 4 ∧ kd' = 2) ∨ (kd = 5 ∧ kd' = 3 ∧ mk = 256) ∨ (kd = 6 ∧ kd' = 3 ∧ mk = 257) ∨ (kd = 7 ∧ kd' = 3 ∧ mk = 258) ∨ (10 ≤ kd ∧ kd ≤ 19 ∧ kd' = 4 ∧ mk = kd - 10) ∨ (kd ∈ md_sg ∧ kd' = 3 ∧ mk = kd)
def md_rtk (f : Nat → Int32) (N b : Nat) (kd' : Int) (e : Nat) (mk : Int) : Prop := b < e ∧ e ≤ N ∧ ∃ (kd : Int) (nx : Nat) (w : Int64), md_one f N b kd nx w ∧ (kd ≠ 2 → e = nx) ∧ md_RT kd kd' mk
def md_s2 : List Int := [40, 41, 91, 93, 123, 125, 44, 59, 58, 46, 63, 35, 43, 45, 42, 61, 33, 60, 38, 124]
/-- where the token ends -/
def cx_e (X : fx_X) (kd y : Int32) : fx_X := fx_wI (fx_wI X 117 26 kd) 117 28 y
section CX5
variable {X X' : fx_X} {u : Unit} {N b n : Nat} {f : Nat → Int32} {y2 y3 : Int32}
theorem cx_206_430 (g : gxF_206 n 430 [y2] [] [] X u X') : X' = cx_e X (Int32.ofInt 3) y2 := by
  cases n with
  | zero => exact g.elim
  | succ n =>
    replace g := gxO_206_430 g
    obtain ⟨X1, rfl, X2, rfl, rfl⟩ := g
    rfl
theorem cx_206_310 (g : gxF_206 n 310 [y2, y3] [] [] X u X') : (y3.toInt ∈ md_s2 ∧ X' = cx_e X (Int32.ofInt 3) y2) ∨ (y3.toInt ∉ md_s2 ∧ X' = cx_e X (Int32.ofInt 5) y2) := by
  cases n with
  | zero => exact g.elim
  | succ n =>
    replace g := gxO_206_310 g
    unfold gxT_206_310 at g
    by_cases h : y3.toInt ∈ md_s2
    · refine Or.inl ⟨h, ?_⟩
      unfold md_s2 at h
      simp only [List.mem_cons, List.not_mem_nil, or_false] at h
      rcases h with h | h | h | h | h | h | h | h | h | h | h | h | h | h | h | h | h | h | h | h <;> (simp [h] at g; exact cx_206_430 g)
    · refine Or.inr ⟨h, ?_⟩
      unfold md_s2 at h
      simp only [List.mem_cons, List.not_mem_nil, or_false, not_or] at h
      obtain ⟨h1, h2, h3, h4, h5, h6, h7, h8, h9, h10, h11, h12, h13, h14, h15, h16, h17, h18, h19, h20⟩ := h
      rw [if_neg h1, if_neg h2, if_neg h3, if_neg h4, if_neg h5, if_neg h6, if_neg h7, if_neg h8, if_neg h9, if_neg h10, if_neg h11, if_neg h12, if_neg h13, if_neg h14, if_neg h15, if_neg h16, if_neg h17, if_neg h18, if_neg h19, if_neg h20] at g
      obtain ⟨X1, rfl, X2, rfl, rfl⟩ := g
      rfl
abbrev cx_FT : List (Nat × Nat) := [(117, 26), (117, 27), (117, 28), (117, 29)]
theorem cx_e_fr {kd y : Int32} : fx_fr cx_FT [] X (cx_e X kd y) := fx_fr_f (fx_fr_f fx_fr_rf (by decide)) (by decide)
theorem cx_e_k {kd y : Int32} : (cx_e X kd y).1 117 26 = kd ∧ (cx_e X kd y).1 117 27 = X.1 117 27 ∧ (cx_e X kd y).1 117 28 = y ∧ (cx_e X kd y).1 117 29 = X.1 117 29 := by
  unfold cx_e
  refine ⟨?_, ?_, fx_rIe, ?_⟩
  · rw [fx_rIk (by decide), fx_rIe]
  · rw [fx_rIk (by decide), fx_rIk (by decide)]
  · rw [fx_rIk (by decide), fx_rIk (by decide)]
theorem md_sg_s2 {c : Int} : c ∈ md_s2 ↔ c ∈ md_sg ∨ c = 46 := by
  unfold md_s2 md_sg
  simp only [List.mem_cons, List.not_mem_nil, or_false]
  omega
/-- signs: at b + 1 with what stands there -/
theorem cx_206_261 (hb : b < N) (hN : N ≤ 4000) (h2 : y2.toInt = ((b + 1 : Nat) : Int)) {y4 : Int32} (h3 : y3 = f b) (h4 : y4.toInt = md_bh f N b) (hnl : ¬ md_ld (f b).toInt) (hm : X.1 117 29 = y3) (h46 : ¬ (y3.toInt = 46 ∧ y4.toInt = 46)) (g : gxF_206 n 261 [y2, y3, y4] [] [] X u X') : ∃ e : Nat, fx_fr cx_FT [] X X' ∧ X'.1 117 27 = X.1 117 27 ∧ (X'.1 117 28).toInt = (e : Int) ∧ md_rtk f N b (X'.1 117 26).toInt e (X'.1 117 29).toInt := by
  cases n with
  | zero => exact g.elim
  | succ n =>
    replace g := gxO_206_261 g
    unfold gxT_206_261 at g
    have hy : (y2 + Int32.ofInt 1).toInt = ((b + 2 : Nat) : Int) := by
      rw [fx_add (by rw [h2]; show -2147483648 ≤ ((b + 1 : Nat) : Int) + 1; omega) (by rw [h2]; show ((b + 1 : Nat) : Int) + 1 ≤ 2147483647; omega), h2]
      show ((b + 1 : Nat) : Int) + 1 = _
      omega
    subst h3
    rw [h4] at h46 g
    have plain : ¬ (md_bh f N b = 61 ∧ (f b).toInt = 33) → ¬ (md_bh f N b = 61 ∧ (f b).toInt = 60) → gxF_206 n 310 [y2, f b] [] [] X u X' → ∃ e : Nat, fx_fr cx_FT [] X X' ∧ X'.1 117 27 = X.1 117 27 ∧ (X'.1 117 28).toInt = (e : Int) ∧ md_rtk f N b (X'.1 117 26).toInt e (X'.1 117 29).toInt := by
      intro n1 n2 g
      rcases cx_206_310 g with ⟨q, rfl⟩ | ⟨q, rfl⟩
      · obtain ⟨k1, k2, k3, k4⟩ := cx_e_k (X := X) (kd := Int32.ofInt 3) (y := y2)
        refine ⟨b + 1, cx_e_fr, k2, by rw [k3, h2], by omega, by omega, ?_⟩
        rw [k1, k4, hm]
        by_cases z : (f b).toInt ∈ md_sg
        · refine ⟨(f b).toInt, b + 1, _, Or.inr (Or.inr ⟨hnl, rfl, ?_⟩), fun _ => rfl, Or.inr (Or.inr (Or.inr (Or.inr (Or.inr (Or.inr (Or.inr ⟨z, rfl, rfl⟩))))))⟩
          rw [if_neg h46, if_neg n1, if_neg n2, if_pos z]
          exact ⟨rfl, rfl⟩
        · have z2 : (f b).toInt = 46 := (md_sg_s2.mp q).resolve_left z
          refine ⟨2, b, _, Or.inr (Or.inr ⟨hnl, rfl, ?_⟩), fun w => absurd rfl w, Or.inl ⟨rfl, Or.inr ⟨rfl, z2⟩⟩⟩
          rw [if_neg h46, if_neg n1, if_neg n2, if_neg z]
          exact ⟨rfl, rfl⟩
      · obtain ⟨k1, k2, k3, k4⟩ := cx_e_k (X := X) (kd := Int32.ofInt 5) (y := y2)
        refine ⟨b + 1, cx_e_fr, k2, by rw [k3, h2], by omega, by omega, ?_⟩
        rw [k1]
        have z : (f b).toInt ∉ md_sg := fun z => q (md_sg_s2.mpr (Or.inl z))
        refine ⟨2, b, _, Or.inr (Or.inr ⟨hnl, rfl, ?_⟩), fun w => absurd rfl w, Or.inl ⟨rfl, Or.inl rfl⟩⟩
        rw [if_neg h46, if_neg n1, if_neg n2, if_neg z]
        exact ⟨rfl, rfl⟩
    have two : ∀ (mk : Int32) (kd : Int), md_bh f N b = 61 → (f b).toInt ∈ md_s2 → (md_RT kd 3 mk.toInt) → (if (f b).toInt = 46 ∧ md_bh f N b = 46 then kd = 5 ∧ b + 2 = b + 2 else if md_bh f N b = 61 ∧ (f b).toInt = 33 then kd = 6 ∧ b + 2 = b + 2 else if md_bh f N b = 61 ∧ (f b).toInt = 60 then kd = 7 ∧ b + 2 = b + 2 else if (f b).toInt ∈ md_sg then kd = (f b).toInt ∧ b + 2 = b + 1 else kd = 2 ∧ b + 2 = b) → gxF_206 n 310 [y2 + Int32.ofInt 1, f b] [] [] (fx_wI X 117 29 mk) u X' → ∃ e : Nat, fx_fr cx_FT [] X X' ∧ X'.1 117 27 = X.1 117 27 ∧ (X'.1 117 28).toInt = (e : Int) ∧ md_rtk f N b (X'.1 117 26).toInt e (X'.1 117 29).toInt := by
      intro mk kd hbh hs hrt hone g
      have hb2 : b + 1 < N := by
        unfold md_bh at hbh
        split at hbh
        · assumption
        · omega
      rcases cx_206_310 g with ⟨q, rfl⟩ | ⟨q, rfl⟩
      · obtain ⟨k1, k2, k3, k4⟩ := cx_e_k (X := fx_wI X 117 29 mk) (kd := Int32.ofInt 3) (y := y2 + Int32.ofInt 1)
        refine ⟨b + 2, fx_fr_tr (fx_fr_f fx_fr_rf (by decide)) cx_e_fr, by rw [k2, fx_rIk (by decide)], by rw [k3, hy], by omega, by omega, ?_⟩
        rw [k1, k4, fx_rIe]
        exact ⟨kd, b + 2, _, Or.inr (Or.inr ⟨hnl, rfl, hone⟩), fun _ => rfl, hrt⟩
      · exact absurd hs q
    by_cases q1 : (f b).toInt = 33
    · rw [if_pos q1] at g
      by_cases q2 : md_bh f N b = 61
      · rw [if_pos q2] at g
        obtain ⟨X1, rfl, y, rfl, g⟩ := g
        refine two _ 6 q2 (by rw [q1]; decide) (Or.inr (Or.inr (Or.inr (Or.inr (Or.inl ⟨rfl, rfl, rfl⟩))))) ?_ g
        rw [if_neg h46, if_pos ⟨q2, q1⟩]
        exact ⟨rfl, rfl⟩
      · rw [if_neg q2, if_neg (by omega)] at g
        exact plain (fun z => q2 z.1) (fun z => q2 z.1) g
    · rw [if_neg q1] at g
      by_cases q3 : (f b).toInt = 60
      · rw [if_pos q3] at g
        by_cases q2 : md_bh f N b = 61
        · rw [if_pos q2] at g
          obtain ⟨X1, rfl, y, rfl, g⟩ := g
          refine two _ 7 q2 (by rw [q3]; decide) (Or.inr (Or.inr (Or.inr (Or.inr (Or.inr (Or.inl ⟨rfl, rfl, rfl⟩)))))) ?_ g
          rw [if_neg h46, if_neg (fun z => q1 z.2), if_pos ⟨q2, q3⟩]
          exact ⟨rfl, rfl⟩
        · rw [if_neg q2] at g
          exact plain (fun z => q2 z.1) (fun z => q2 z.1) g
      · rw [if_neg q3] at g
        exact plain (fun z => q1 z.2) (fun z => q3 z.2) g
end CX5
