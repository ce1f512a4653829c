/-! TOKENS: all of a tape -/
def md_bk (c : Int) : Prop := c = 9 ∨ c = 10 ∨ c = 13 ∨ c = 32
/-- the tokens from k on, m being told -/
def md_lst (f : Nat → Int32) (N : Nat) : Nat → Nat → List (Int × Nat × Int64) → Prop
  | _, _, [] => False
  | k, m, t :: L => ∃ b, md_end md_bk f N k b ∧ (if b = N then t = (1, N, Int64.ofNat 0) ∧ L = [] else ∃ nx, md_one f N b t.1 nx t.2.2 ∧ t.2.1 = b ∧ (if nx ≤ b ∨ 1000 < m + 1 then L = [(1, N, Int64.ofNat 0)] else md_lst f N nx (m + 1) L))
def cx_all (X : fx_X) (m : Nat) : List (Int × Nat × Int64) → fx_X → Prop
  | [], X' => X' = X
  | t :: L, X' => ∃ kd st : Int32, kd.toInt = t.1 ∧ st.toInt = (t.2.1 : Int) ∧ cx_all (cx_tk X m kd st t.2.2) (m + 1) L X'
section CX3
variable {X X' : fx_X} {p2 : Int32} {N : Nat} {u : Unit} {f : Nat → Int32}
theorem md_lst_bk {k m : Nat} {L : List (Int × Nat × Int64)} (hk : k < N) (hb : md_bk (f k).toInt) (h : md_lst f N (k + 1) m L) : md_lst f N k m L := by
  cases L with
  | nil => exact h.elim
  | cons t L =>
    obtain ⟨b, h1, h2⟩ := h
    refine ⟨b, ⟨by have := h1.1; omega, fun i hi hib => ?_, h1.2.2⟩, h2⟩
    by_cases z : i = k
    · subst z
      exact ⟨hk, hb⟩
    · exact h1.2.1 i (by omega) hib
theorem cx_21l (h2 : p2.toInt = (N : Int)) (hN : N ≤ 4000) : ∀ (n m k : Nat) (y3 y4 : Int32) (X : fx_X), cx_S X → X.1 53 = f → (X.1 78 3).toInt = (m : Int) → y4.toInt = (k : Int) → k ≤ N → gxF_21 p2 n 10 [y3, y4] [] [] X u X' → (y3.toInt = 0 → m ≤ 1001 → cx_all X m [(1, N, Int64.ofNat 0)] X') ∧ (y3.toInt = 1 → m ≤ 1000 → ∃ L, md_lst f N k m L ∧ cx_all X m L X') := by
  intro n
  induction n with
  | zero => intro m k y3 y4 X _ _ _ _ _ g; exact g.elim
  | succ n ih =>
    intro m k y3 y4 X hX hf hm hk hkN g
    replace g := gxO_21_10 g
    unfold gxT_21_10 at g
    have hA : (Int32.ofNat (X.2.2.2.1 53).2).toInt = 4000 := by
      rw [hX.1]
      rfl
    have fin : ∀ {w : Unit} {X1 : fx_X}, m < 1002 → gx_27 (Int32.ofInt 1) p2 (Int64.ofNat 0) X w X1 → cx_all X m [(1, N, Int64.ofNat 0)] X1 := fun h g => ⟨Int32.ofInt 1, p2, rfl, h2, cx_27 hm h g⟩
    refine ⟨fun e hm1 => ?_, fun e hm1 => ?_⟩
    · rw [if_pos e] at g
      obtain ⟨_, X1, g, rfl⟩ := g
      exact fin (by omega) g
    · rw [if_neg (by omega)] at g
      by_cases q1 : k < N
      · rw [if_pos (by omega), if_pos (by omega)] at g
        obtain ⟨-, c, hc, w1, X1, r1, g⟩ := g
        obtain ⟨rfl, hw1⟩ := cx_22 r1
        rw [fx_in hk] at hc
        by_cases q2 : c.toInt = 9 ∨ c.toInt = 10 ∨ c.toInt = 13 ∨ c.toInt = 32
        · rw [if_pos q2] at hw1
          subst hw1
          rw [if_neg (by decide)] at g
          obtain ⟨y, rfl, g⟩ := g
          have hy : (y4 + Int32.ofInt 1).toInt = ((k + 1 : Nat) : Int) := by
            rw [fx_add (by rw [hk]; show -2147483648 ≤ (k : Int) + 1; omega) (by rw [hk]; show (k : Int) + 1 ≤ 2147483647; omega), hk]
            rfl
          obtain ⟨L, l1, l2⟩ := (ih m (k + 1) _ _ X hX hf hm hy (by omega) g).2 e hm1
          exact ⟨L, md_lst_bk q1 (by rw [← hf, ← hc]; exact q2) l1, l2⟩
        · rw [if_neg q2] at hw1
          subst hw1
          rw [if_pos (by decide)] at g
          obtain ⟨w2, X2, r2, g⟩ := g
          obtain ⟨kd, nx, w, k1, rfl, k3, k4⟩ := cx_23 hX hm (by omega) h2 hN hk q1 r2
          have hm2 := cx_tk_m (p1 := kd) (p2 := y4) (p3 := w) hm (by omega : m < 1002)
          have hb : md_end md_bk f N k k := ⟨Nat.le_refl _, fun i h1 h2 => absurd h2 (by omega), fun z => q2 (by rw [hc, hf]; exact z.2)⟩
          have hX2 := cx_S_tk (m := m) (p1 := kd) (p2 := y4) (p3 := w) hX
          have hf2 : (cx_tk X m kd y4 w).1 53 = f := by rw [cx_tk_53, hf]
          rw [hf] at k3
          by_cases q3 : k < nx
          · rw [if_pos (by omega)] at g
            by_cases q4 : 1000 < m + 1
            · rw [if_pos (by omega)] at g
              have l := (ih (m + 1) nx _ _ _ hX2 hf2 hm2 k1 k4 g).1 rfl (by omega)
              refine ⟨[(kd.toInt, k, w), (1, N, Int64.ofNat 0)], ⟨k, hb, ?_⟩, kd, y4, rfl, hk, l⟩
              rw [if_neg (by omega)]
              exact ⟨nx, k3, rfl, by rw [if_pos (Or.inr q4)]⟩
            · rw [if_neg (by omega)] at g
              obtain ⟨L, l1, l2⟩ := (ih (m + 1) nx _ _ _ hX2 hf2 hm2 k1 k4 g).2 rfl (by omega)
              refine ⟨(kd.toInt, k, w) :: L, ⟨k, hb, ?_⟩, kd, y4, rfl, hk, l2⟩
              rw [if_neg (by omega)]
              exact ⟨nx, k3, rfl, by rw [if_neg (by omega)]; exact l1⟩
          · rw [if_neg (by omega)] at g
            have l := (ih (m + 1) nx _ _ _ hX2 hf2 hm2 k1 k4 g).1 rfl (by omega)
            refine ⟨[(kd.toInt, k, w), (1, N, Int64.ofNat 0)], ⟨k, hb, ?_⟩, kd, y4, rfl, hk, l⟩
            rw [if_neg (by omega)]
            exact ⟨nx, k3, rfl, by rw [if_pos (Or.inl (by omega))]⟩
      · rw [if_neg (by omega)] at g
        obtain ⟨_, X1, g, rfl⟩ := g
        refine ⟨[(1, N, Int64.ofNat 0)], ⟨k, ⟨Nat.le_refl _, fun i h1 h2 => absurd h2 (by omega), fun z => q1 z.1⟩, ?_⟩, fin (by omega) g⟩
        rw [if_pos (by omega)]
        exact ⟨rfl, rfl⟩
/-- the class's scan -/
theorem cx_21 (hX : cx_S X) (h2 : p2.toInt = (N : Int)) (hN : N ≤ 4000) (g : gx_21 p2 X u X') : ∃ L, md_lst (X.1 53) N 0 0 L ∧ cx_all (fx_wI X 78 3 (Int32.ofInt 0)) 0 L X' := by
  obtain ⟨n, X2, rfl, g⟩ := g
  have hX2 : cx_S (fx_wI X 78 3 (Int32.ofInt 0)) := ⟨hX.1, hX.2⟩
  exact (cx_21l h2 hN n 0 0 _ _ _ hX2 (fx_rIn (by decide)) (by rw [fx_rIe]; rfl) rfl (by omega) g).2 rfl (by omega)
end CX3
