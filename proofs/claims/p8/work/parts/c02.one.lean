/-! TOKENS: one of the class -/
section CX2
variable {X X' : fx_X} {v p2 p3 : Int32} {m N a : Nat}
theorem cx_23 (hX : cx_S X) (hm : (X.1 78 3).toInt = (m : Int)) (h : m < 1002) (h2 : p2.toInt = (N : Int)) (hN : N ≤ 4000) (h3 : p3.toInt = (a : Int)) (haN : a < N) (g : gx_23 p2 p3 X v X') : ∃ (kd : Int32) (nx : Nat) (w : Int64), v.toInt = (nx : Int) ∧ X' = cx_tk X m kd p3 w ∧ md_one (X.1 53) N a kd.toInt nx w ∧ nx ≤ N := by
  have hA : (Int32.ofNat (X.2.2.2.1 53).2).toInt = 4000 := by
    rw [hX.1]
    rfl
  have a1 : (p3 + Int32.ofInt 1).toInt = ((a + 1 : Nat) : Int) := by
    rw [fx_add (by rw [h3]; show -2147483648 ≤ (a : Int) + 1; omega) (by rw [h3]; show (a : Int) + 1 ≤ 2147483647; omega), h3]
    rfl
  obtain ⟨n, g⟩ := g
  unfold gxE_23 at g
  rw [if_pos (by omega)] at g
  obtain ⟨-, c, hc, w1, X1, r1, g⟩ := g
  obtain ⟨rfl, hw1⟩ := cx_24 r1
  rw [fx_in h3] at hc
  by_cases q1 : 97 ≤ c.toInt ∧ c.toInt ≤ 122
  · rw [if_pos q1] at hw1
    subst hw1
    rw [if_neg (by decide)] at g
    obtain ⟨w2, X2, r2, rfl, rfl⟩ := g
    obtain ⟨e, e1, e2, e3⟩ := cx_25 hX hm h h2 hN h3 (by omega) r2
    unfold cx_nm at e3
    split at e3
    · rename_i z
      obtain ⟨rfl, rfl⟩ := e3
      refine ⟨_, a, _, h3, rfl, Or.inl ⟨by rw [← hc]; exact q1, e, e1, ?_⟩, by omega⟩
      rw [if_pos z]
      exact ⟨rfl, rfl, rfl⟩
    · rename_i z
      obtain ⟨f1, w, f2, rfl⟩ := e3
      refine ⟨w, e, _, f1, rfl, Or.inl ⟨by rw [← hc]; exact q1, e, e1, ?_⟩, by omega⟩
      rw [if_neg z]
      exact ⟨f2, rfl, rfl⟩
  · rw [if_neg q1] at hw1
    subst hw1
    rw [if_pos (by decide)] at g
    obtain ⟨w2, X2, r2, g⟩ := g
    obtain ⟨rfl, hw2⟩ := cx_26 r2
    by_cases q2 : 48 ≤ c.toInt ∧ c.toInt ≤ 57
    · rw [if_pos q2] at hw2
      subst hw2
      rw [if_neg (by decide)] at g
      obtain ⟨w2, X2, r2, rfl, rfl⟩ := g
      obtain ⟨e, e1, e2, e3⟩ := cx_29 hX hm h h2 hN h3 (by omega) r2
      unfold cx_nb at e3
      split at e3
      · rename_i z
        obtain ⟨rfl, rfl⟩ := e3
        refine ⟨_, a, _, h3, rfl, Or.inr (Or.inl ⟨by rw [← hc]; exact q2, e, e1, ?_⟩), by omega⟩
        rw [if_pos z]
        exact ⟨rfl, rfl, rfl⟩
      · rename_i z
        obtain ⟨f1, rfl⟩ := e3
        refine ⟨_, e, _, f1, rfl, Or.inr (Or.inl ⟨by rw [← hc]; exact q2, e, e1, ?_⟩), by omega⟩
        rw [if_neg z]
        exact ⟨rfl, rfl, rfl⟩
    · rw [if_neg q2] at hw2
      subst hw2
      rw [if_pos (by decide)] at g
      have nl : ¬ md_ld ((X.1 53) a).toInt := by
        rw [← hc]
        exact fun z => z.elim q1 q2
      -- what stands behind
      have fin : ∀ y : Int32, y.toInt = md_bh (X.1 53) N a → ¬ (c.toInt = 46 ∧ y.toInt = 46) → gxF_23 p2 p3 n 98 [c, y] [] [] X v X' → ∃ (kd : Int32) (nx : Nat) (w : Int64), v.toInt = (nx : Int) ∧ X' = cx_tk X m kd p3 w ∧ md_one (X.1 53) N a kd.toInt nx w ∧ nx ≤ N := by
        intro y hy h46 g
        cases n with
        | zero => exact g.elim
        | succ n =>
          obtain ⟨kd, nx, k1, k2, k3⟩ := cx_23s hm h h3 (by omega) (gxO_23_98 g) h46
          rw [hy, hc] at k3
          refine ⟨kd, nx, _, k1, k2, Or.inr (Or.inr ⟨nl, rfl, k3⟩), ?_⟩
          by_cases z : nx ≤ a + 1
          · omega
          · have hb : md_bh (X.1 53) N a ≠ 0 := by
              intro z0
              rw [z0, if_neg (fun w => absurd w.2 (by decide)), if_neg (fun w => absurd w.1 (by decide)), if_neg (fun w => absurd w.1 (by decide))] at k3
              split at k3 <;> omega
            unfold md_bh at hb
            split at hb
            · split at k3
              · omega
              · split at k3
                · omega
                · split at k3
                  · omega
                  · split at k3 <;> omega
            · exact absurd rfl hb
      by_cases q3 : a + 1 < N
      · rw [if_pos (by omega), if_pos (by omega)] at g
        obtain ⟨-, y, hy, g⟩ := g
        rw [fx_in a1] at hy
        have hb : y.toInt = md_bh (X.1 53) N a := by
          unfold md_bh
          rw [if_pos q3, hy]
        by_cases q4 : c.toInt = 46
        · rw [if_pos q4] at g
          by_cases q5 : y.toInt = 46
          · rw [if_pos q5] at g
            obtain ⟨_, X2, g, rfl, rfl⟩ := g
            have a2 : (p3 + Int32.ofInt 2).toInt = ((a + 2 : Nat) : Int) := by
              rw [fx_add (by rw [h3]; show -2147483648 ≤ (a : Int) + 2; omega) (by rw [h3]; show (a : Int) + 2 ≤ 2147483647; omega), h3]
              rfl
            refine ⟨_, a + 2, _, a2, cx_27 hm h g, Or.inr (Or.inr ⟨nl, rfl, ?_⟩), by omega⟩
            rw [← hb, ← hc, if_pos ⟨q4, q5⟩]
            exact ⟨rfl, rfl⟩
          · rw [if_neg q5] at g
            exact fin y hb (fun z => q5 z.2) g
        · rw [if_neg q4] at g
          exact fin y hb (fun z => q4 z.1) g
      · rw [if_neg (by omega)] at g
        have hb : (Int32.ofInt 0).toInt = md_bh (X.1 53) N a := by
          unfold md_bh
          rw [if_neg q3]
          rfl
        have h0 : ¬ (c.toInt = 46 ∧ (Int32.ofInt 0).toInt = 46) := fun z => absurd z.2 (by decide)
        split at g
        · exact fin _ hb h0 g
        · exact fin _ hb h0 g
end CX2
