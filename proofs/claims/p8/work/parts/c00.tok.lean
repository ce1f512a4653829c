/-! TOKENS OF THE CLASS: what its small methods do, over views -/
theorem fx_add {x y : Int32} (h1 : -2147483648 ≤ x.toInt + y.toInt) (h2 : x.toInt + y.toInt ≤ 2147483647) : (x + y).toInt = x.toInt + y.toInt := by
  rw [Int32.toInt_add]
  apply Int.bmod_eq_of_le <;> omega
theorem fx_sub {x y : Int32} (h1 : -2147483648 ≤ x.toInt - y.toInt) (h2 : x.toInt - y.toInt ≤ 2147483647) : (x - y).toInt = x.toInt - y.toInt := by
  rw [Int32.toInt_sub]
  apply Int.bmod_eq_of_le <;> omega
theorem fx_mul {x y : Int32} (h1 : -2147483648 ≤ x.toInt * y.toInt) (h2 : x.toInt * y.toInt ≤ 2147483647) : (x * y).toInt = x.toInt * y.toInt := by
  rw [Int32.toInt_mul]
  apply Int.bmod_eq_of_le <;> omega
theorem fx_in {x : Int32} {m : Nat} (h : x.toInt = (m : Int)) : x.toInt.toNat = m := by
  rw [h]
  exact Int.toNat_natCast m
theorem fx_ofI {a : Int} (h1 : -2147483648 ≤ a) (h2 : a ≤ 2147483647) : (Int32.ofInt a).toInt = a := by
  rw [Int32.toInt_ofInt]
  have e : ((Int32.size : Nat) : Int) = 4294967296 := rfl
  apply Int.bmod_eq_of_le <;> (try rw [e]) <;> omega
theorem fx_inj {x y : Int32} (h : x.toInt = y.toInt) : x = y := Int32.toInt_inj.mp h
/-- the ten words, as the static array 0 has them -/
def md_wd (l : List Int64) (w : Int64) (i : Nat) : Int := match l with
  | [] => 3
  | x :: l => if x = w then 10 + i else md_wd l w (i + 1)
def md_ws : List Int64 := [0x756e6b6e6f776e, 0x7461626c65, 0x726f77, 0x6966, 0x616c77617973, 0x616e73776572, 0x636f756e74, 0x6c65617374, 0x6d6f7374, 0x73756d]
/-- what the tokens need of a view -/
def cx_S (X : fx_X) : Prop := X.2.2.2.1 53 = (3, 4000) ∧ ∀ i, i < 10 → X.2.1 0 i = md_ws.getD i 0
section CX0
variable {X X' : fx_X} {v p p1 p2 c : Int32} {w p3 : Int64} {u : Unit} {m j : Nat}
theorem cx_46 (hp : p.toInt = (j : Int)) (hj : j < 1002) (g : gx_46 p X v X') : X = X' ∧ v = X.1 79 j := by
  unfold gx_46 at g
  rw [if_neg (by omega), if_pos (by omega)] at g
  rw [fx_in hp] at g
  exact ⟨g.2.2.symm, g.2.1⟩
theorem cx_43 (hp : p.toInt = (j : Int)) (hj : j < 1002) (g : gx_43 p X v X') : X = X' ∧ v = X.1 80 j := by
  unfold gx_43 at g
  rw [if_neg (by omega), if_pos (by omega)] at g
  rw [fx_in hp] at g
  exact ⟨g.2.2.symm, g.2.1⟩
theorem cx_37 (hp : p.toInt = (j : Int)) (hj : j < 1002) (g : gx_37 p X w X') : X = X' ∧ w = X.2.1 81 j := by
  unfold gx_37 at g
  rw [if_neg (by omega), if_pos (by omega)] at g
  rw [fx_in hp] at g
  exact ⟨g.2.2.symm, g.2.1⟩
/-- a token more -/
def cx_tk (X : fx_X) (m : Nat) (p1 p2 : Int32) (p3 : Int64) : fx_X := fx_wI (fx_wL (fx_wI (fx_wI X 79 m p1) 80 m p2) 81 m p3) 78 3 (X.1 78 3 + Int32.ofInt 1)
theorem cx_27 (hm : (X.1 78 3).toInt = (m : Int)) (h : m < 1002) (g : gx_27 p1 p2 p3 X u X') : X' = cx_tk X m p1 p2 p3 := by
  unfold gx_27 at g
  rw [if_pos (by omega), if_pos (by omega), if_pos (by omega)] at g
  obtain ⟨-, X1, rfl, -, X2, rfl, -, X3, rfl, X4, rfl, rfl⟩ := g
  have e1 : (fx_wI X 79 (X.1 78 3).toInt.toNat p1).1 78 3 = X.1 78 3 := by rw [fx_rIn (by decide)]
  rw [e1, fx_rIn (r := 80) (r' := 78) (by decide), e1, fx_rL1, fx_rIn (r := 80) (r' := 78) (by decide), e1, fx_in hm]
  rfl
theorem cx_27o (hm : 1002 ≤ (X.1 78 3).toInt) (g : gx_27 p1 p2 p3 X u X') : X = X' := by
  unfold gx_27 at g
  rw [if_neg (by omega)] at g
  exact g.symm
theorem cx_24 (g : gx_24 c X v X') : X = X' ∧ v = (if 97 ≤ c.toInt ∧ c.toInt ≤ 122 then Int32.ofInt 1 else Int32.ofInt 0) := by
  unfold gx_24 at g
  split at g
  · rw [if_neg (by omega)]; exact ⟨g.2.symm, g.1⟩
  · split at g
    · rw [if_neg (by omega)]; exact ⟨g.2.symm, g.1⟩
    · rw [if_pos (by omega)]; exact ⟨g.2.symm, g.1⟩
theorem cx_26 (g : gx_26 c X v X') : X = X' ∧ v = (if 48 ≤ c.toInt ∧ c.toInt ≤ 57 then Int32.ofInt 1 else Int32.ofInt 0) := by
  unfold gx_26 at g
  split at g
  · rw [if_neg (by omega)]; exact ⟨g.2.symm, g.1⟩
  · split at g
    · rw [if_neg (by omega)]; exact ⟨g.2.symm, g.1⟩
    · rw [if_pos (by omega)]; exact ⟨g.2.symm, g.1⟩
theorem cx_22 (g : gx_22 c X v X') : X = X' ∧ v = (if c.toInt = 9 ∨ c.toInt = 10 ∨ c.toInt = 13 ∨ c.toInt = 32 then Int32.ofInt 1 else Int32.ofInt 0) := by
  unfold gx_22 at g
  split at g
  · rw [if_pos (by omega)]; exact ⟨g.2.symm, g.1⟩
  · split at g
    · rw [if_pos (by omega)]; exact ⟨g.2.symm, g.1⟩
    · split at g
      · rw [if_pos (by omega)]; exact ⟨g.2.symm, g.1⟩
      · split at g
        · rw [if_pos (by omega)]; exact ⟨g.2.symm, g.1⟩
        · rw [if_neg (by omega)]; exact ⟨g.2.symm, g.1⟩
/-- the signs -/
def md_sg : List Int := [33, 35, 38, 40, 41, 42, 43, 44, 45, 58, 59, 60, 61, 63, 91, 93, 123, 124, 125]
theorem cx_30 (g : gx_30 c X v X') : X = X' ∧ v = (if c.toInt ∈ md_sg then Int32.ofInt 1 else Int32.ofInt 0) := by
  unfold gx_30 at g
  by_cases h : c.toInt ∈ md_sg
  · rw [if_pos h]
    unfold md_sg at h
    simp only [List.mem_cons, List.not_mem_nil, or_false] at h
    rcases h with h | h | h | h | h | h | h | h | h | h | h | h | h | h | h | h | h | h | h <;> (simp [h] at g; exact ⟨g.2.symm, g.1⟩)
  · rw [if_neg h]
    unfold md_sg at h
    simp only [List.mem_cons, List.not_mem_nil, or_false, not_or] at h
    obtain ⟨h1, h2, h3, h4, h5, h6, h7, h8, h9, h10, h11, h12, h13, h14, h15, h16, h17, h18, h19⟩ := h
    rw [if_neg h1, if_neg h2, if_neg h3, if_neg h4, if_neg h5, if_neg h6, if_neg h7, if_neg h8, if_neg h9, if_neg h10, if_neg h11, if_neg h12, if_neg h13, if_neg h14, if_neg h15, if_neg h16, if_neg h17, if_neg h18, if_neg h19] at g
    exact ⟨g.2.symm, g.1⟩
theorem cx_28l (hs : ∀ i, i < 10 → X.2.1 0 i = md_ws.getD i 0) : ∀ (n k : Nat) (y : Int32), y.toInt = (k : Int) → k ≤ 10 → gxF_28 w n 2 [y] [] [] X v X' → X = X' ∧ v.toInt = md_wd (md_ws.drop k) w k := by
  intro n
  induction n with
  | zero => intro k y _ _ g; exact g.elim
  | succ n ih =>
    intro k y hy hk g
    replace g := gxO_28_2 g
    unfold gxT_28_2 at g
    by_cases h : k < 10
    · rw [if_pos (by omega), fx_in hy, hs k h] at g
      obtain ⟨-, g⟩ := g
      have hd : md_ws.drop k = md_ws.getD k 0 :: md_ws.drop (k + 1) := by
        rcases k with _ | _ | _ | _ | _ | _ | _ | _ | _ | _ | k <;> first | rfl | omega
      rw [hd]
      show _ ∧ _ = if md_ws.getD k 0 = w then 10 + (k : Int) else md_wd (md_ws.drop (k + 1)) w (k + 1)
      split at g
      · rename_i e
        rw [if_pos e]
        refine ⟨g.2.symm, ?_⟩
        rw [g.1, fx_add (by rw [hy]; show -2147483648 ≤ (10 : Int) + k; omega) (by rw [hy]; show (10 : Int) + k ≤ 2147483647; omega), hy]
        rfl
      · rename_i e
        rw [if_neg e]
        obtain ⟨y2, rfl, g⟩ := g
        refine ih (k + 1) _ ?_ (by omega) g
        rw [fx_add (by rw [hy]; show -2147483648 ≤ (k : Int) + 1; omega) (by rw [hy]; show (k : Int) + 1 ≤ 2147483647; omega), hy]
        rfl
    · rw [if_neg (by omega)] at g
      obtain rfl : k = 10 := by omega
      refine ⟨g.2.symm, ?_⟩
      rw [g.1]
      rfl
theorem cx_28 (hX : cx_S X) (g : gx_28 w X v X') : X = X' ∧ v.toInt = md_wd md_ws w 0 := by
  obtain ⟨n, g⟩ := g
  exact cx_28l hX.2 n 0 _ rfl (by omega) g
theorem cx_S_G (hX : fx_G X) : cx_S X := by
  refine ⟨fx_Gs hX (c := 1) (by decide), fun i hi => ?_⟩
  rw [(fx_Gt hX (r := 0) (by decide)).2.1]
  rcases i with _ | _ | _ | _ | _ | _ | _ | _ | _ | _ | i <;> first | rfl | omega
theorem cx_tk_53 : (cx_tk X m p1 p2 p3).1 53 = X.1 53 := by
  unfold cx_tk
  rw [fx_rIn (by decide), fx_rL1, fx_rIn (by decide), fx_rIn (by decide)]
theorem cx_tk_m (hm : (X.1 78 3).toInt = (m : Int)) (h : m < 1002) : ((cx_tk X m p1 p2 p3).1 78 3).toInt = ((m + 1 : Nat) : Int) := by
  unfold cx_tk
  rw [fx_rIe, fx_add (by rw [hm]; show -2147483648 ≤ (m : Int) + 1; omega) (by rw [hm]; show (m : Int) + 1 ≤ 2147483647; omega), hm]
  rfl
theorem cx_S_tk (hX : cx_S X) : cx_S (cx_tk X m p1 p2 p3) := by
  refine ⟨hX.1, fun i hi => ?_⟩
  show (fx_wL (fx_wI (fx_wI X 79 m p1) 80 m p2) 81 m p3).2.1 0 i = _
  rw [fx_rLn (by decide)]
  exact hX.2 i hi
end CX0
