/-! THE CLASS'S WORKER: two GROUPS change places, their bits -/
section CX62
variable {X X' X0 X1 : fx_X} {v p p0 p1 p2 p3 p4 p5 p6 : Int32} {u : Unit} {sr r r' rs W n i i' j j' c l w w' m k P wd a b : Nat} {x y z : List Int32} {s : Int32}
theorem fx_ib_dif (h1 : p1.toInt = (i : Int)) (h2 : p2.toInt = (j : Int)) (hi : i < 30) (hj : j < 30) (hl : l < 32) : fx_ib (((s >>> (p1 &&& 31)) ^^^ (s >>> (p2 &&& 31))) &&& Int32.ofInt 1) l = (decide (l = 0) && (fx_ib s i ^^ fx_ib s j)) := by
  rw [fx_ib_and, fx_ib_1, fx_ib_xor]
  by_cases e : l = 0
  · subst e
    rw [fx_ib_shr (fx_sv h1 (by omega)) (by omega) (by omega), fx_ib_shr (fx_sv h2 (by omega)) (by omega) (by omega), Nat.zero_add, Nat.zero_add, Bool.and_comm]
  · simp [e]
theorem fx_ib_at {t : Int32} {d : Bool} (h1 : p1.toInt = (i : Int)) (hi : i < 30) (hl : l < 32) (ht : ∀ l, l < 32 → fx_ib t l = (decide (l = 0) && d)) : fx_ib (t <<< (p1 &&& 31)) l = (decide (l = i) && d) := by
  rw [fx_ib_shl (fx_sv h1 (by omega)) (by omega) hl, ht _ (by omega)]
  by_cases e : l = i
  · subst e
    simp
  · by_cases e2 : i ≤ l
    · have : ¬ l - i = 0 := by omega
      simp [e, this]
    · simp [e, e2]
theorem fx_ib_swap (h1 : p1.toInt = (i : Int)) (h2 : p2.toInt = (j : Int)) (hi : i < 30) (hj : j < 30) (hl : l < 32) : fx_ib (s ^^^ (((((s >>> (p1 &&& 31)) ^^^ (s >>> (p2 &&& 31))) &&& Int32.ofInt 1) <<< (p1 &&& 31)) ||| ((((s >>> (p1 &&& 31)) ^^^ (s >>> (p2 &&& 31))) &&& Int32.ofInt 1) <<< (p2 &&& 31)))) l = (if l = i then fx_ib s j else if l = j then fx_ib s i else fx_ib s l) := by
  rw [fx_ib_xor, fx_ib_or, fx_ib_at h1 hi hl (fun l hl => fx_ib_dif h1 h2 hi hj hl), fx_ib_at h2 hj hl (fun l hl => fx_ib_dif h1 h2 hi hj hl)]
  by_cases e : l = i
  · subst e
    rw [if_pos rfl, decide_eq_true rfl]
    by_cases e2 : l = j
    · subst e2
      simp
    · rw [decide_eq_false e2]
      cases fx_ib s l <;> cases fx_ib s j <;> rfl
  · rw [if_neg e, decide_eq_false e]
    by_cases e2 : l = j
    · subst e2
      rw [if_pos rfl, decide_eq_true rfl]
      cases fx_ib s l <;> cases fx_ib s i <;> rfl
    · rw [if_neg e2, decide_eq_false e2]
      cases fx_ib s l <;> rfl
theorem cx_139b {X0 : fx_X} (hi : i < 30) (hj : j < 30) (hW : W ≤ 1024) (h1 : p1.toInt = (i : Int)) (h2 : p2.toInt = (j : Int)) (h3 : p3.toInt = (W : Int)) : ∀ (q c : Nat) (y4 : Int32) (X : fx_X), y4.toInt = (c : Int) → c ≤ W → X.2 = X0.2 → (∀ q k, q ≠ rs + 3 → X.1 q k = X0.1 q k) → (∀ w, w < W → ∀ l, l < 32 → fx_ib (X.1 (rs + 3) w) l = if w < c then (if l = i then fx_ib (X0.1 (rs + 3) w) j else if l = j then fx_ib (X0.1 (rs + 3) w) i else fx_ib (X0.1 (rs + 3) w) l) else fx_ib (X0.1 (rs + 3) w) l) → gxF_139 rs p1 p2 p3 q 71 [y4] [] [] X u X' → X'.2 = X0.2 ∧ (∀ q k, q ≠ rs + 3 → X'.1 q k = X0.1 q k) ∧ ∀ w, w < W → ∀ l, l < 32 → fx_ib (X'.1 (rs + 3) w) l = (if l = i then fx_ib (X0.1 (rs + 3) w) j else if l = j then fx_ib (X0.1 (rs + 3) w) i else fx_ib (X0.1 (rs + 3) w) l) := by
  intro q
  induction q with
  | zero => intro c y4 X _ _ _ _ _ g; exact g.elim
  | succ q ih =>
    intro c y4 X hc hcl hX hf hb g
    replace g := gxO_139_71 g
    unfold gxT_139_71 at g
    by_cases z : c < W
    · have c6 : c ≤ 1000000 := by omega
      rw [if_pos (by omega), if_pos (by omega), fx_in hc] at g
      obtain ⟨-, -, x28, rfl, -, -, X33, e33, x34, rfl, g⟩ := g
      have n33 : ∀ w, w ≠ c → X33.1 (rs + 3) w = X.1 (rs + 3) w := fun w hw => by rw [e33, fx_rIk hw]
      have a33 : ∀ l, l < 32 → fx_ib (X33.1 (rs + 3) c) l = (if l = i then fx_ib (X.1 (rs + 3) c) j else if l = j then fx_ib (X.1 (rs + 3) c) i else fx_ib (X.1 (rs + 3) c) l) := fun l hl => by
        rw [e33, fx_rIe]
        exact fx_ib_swap h1 h2 hi hj hl
      refine ih (c + 1) _ X33 (cx_inc hc c6) z (by rw [e33]; exact hX) (fun q k hq => by rw [e33, fx_rIn hq]; exact hf q k hq) (fun w hw l hl => ?_) g
      by_cases y : w = c
      · subst y
        have old : ∀ l, l < 32 → fx_ib (X.1 (rs + 3) w) l = fx_ib (X0.1 (rs + 3) w) l := fun l hl => by rw [hb w hw l hl, if_neg (Nat.lt_irrefl w)]
        rw [if_pos (Nat.lt_succ_self w), a33 l hl, old j (by omega), old i (by omega), old l hl]
      · rw [n33 w y, hb w hw l hl]
        by_cases t : w < c
        · have t' : w < c + 1 := by omega
          rw [if_pos t, if_pos t']
        · have t' : ¬ w < c + 1 := by omega
          rw [if_neg t, if_neg t']
    · rw [if_neg (by omega)] at g
      subst g
      refine ⟨hX, hf, fun w hw l hl => ?_⟩
      have t' : w < c := by omega
      rw [hb w hw l hl, if_pos t']
end CX62
