/-! PLAN AND PARSER OF THE CLASS: small methods -/
section CX8
variable {X X' : fx_X} {v p p1 p2 p3 p4 : Int32} {u : Unit} {m j : Nat}
theorem cx_31 (g : gx_31 X u X') : X' = fx_wI (fx_wI (fx_wI X 82 4 (Int32.ofInt 0)) 82 5 (Int32.ofInt 0)) 82 6 (Int32.ofInt 0) := by
  obtain ⟨X1, rfl, X2, rfl, X3, rfl, rfl⟩ := g
  rfl
/-- a fault stays one -/
theorem cx_44 (hp : p1.toInt ≠ 0) (g : gx_44 p1 p2 X u X') : (X'.1 82 5).toInt ≠ 0 ∧ fx_fr [(82, 5), (82, 6)] [] X X' := by
  have k : ∀ {Y : fx_X}, Y = fx_wI (fx_wI X 82 5 p1) 82 6 p2 → (Y.1 82 5).toInt ≠ 0 ∧ fx_fr [(82, 5), (82, 6)] [] X Y := by
    rintro Y rfl
    refine ⟨by rw [fx_rIk (by decide), fx_rIe]; exact hp, fx_fr_f (fx_fr_f fx_fr_rf (by decide)) (by decide)⟩
  unfold gx_44 at g
  split at g
  · obtain ⟨X1, rfl, X2, rfl, rfl⟩ := g
    exact k rfl
  · rename_i q
    split at g
    · obtain ⟨X1, rfl, X2, rfl, rfl⟩ := g
      exact k rfl
    · split at g
      · split at g
        · obtain ⟨X1, rfl, X2, rfl, rfl⟩ := g
          exact k rfl
        · subst g
          exact ⟨q, fx_fr_rf⟩
      · subst g
        exact ⟨q, fx_fr_rf⟩
/-- a symbol on the stack -/
def cx_pu (X : fx_X) (m : Nat) (p : Int32) : fx_X := fx_wI (fx_wI X 88 m (((X.1 87 6) <<< (((Int8.ofInt 8).toInt32) &&& 31)) ||| p)) 87 5 (X.1 87 5 + Int32.ofInt 1)
theorem cx_33 (hm : (X.1 87 5).toInt = (m : Int)) (h : m < 512) (g : gx_33 p X u X') : X' = cx_pu X m p := by
  unfold gx_33 at g
  rw [if_neg (by omega), if_pos (by omega)] at g
  obtain ⟨-, X1, rfl, X2, rfl, rfl⟩ := g
  rw [fx_rIn (r := 88) (r' := 87) (by decide), fx_in hm]
  rfl
theorem cx_40 (hp : p.toInt = (j : Int)) (hj : j < 2500) (g : gx_40 p X v X') : X = X' ∧ v = X.1 86 j := by
  unfold gx_40 at g
  rw [if_neg (by omega), if_pos (by omega)] at g
  rw [fx_in hp] at g
  exact ⟨g.2.2.symm, g.2.1⟩
theorem cx_57 (hp : p.toInt = (j : Int)) (hj : j < 2500) (g : gx_57 p X v X') : X = X' ∧ v = X.1 83 j := by
  unfold gx_57 at g
  rw [if_neg (by omega), if_pos (by omega)] at g
  rw [fx_in hp] at g
  exact ⟨g.2.2.symm, g.2.1⟩
theorem cx_61 (hp : p.toInt = (j : Int)) (hj : j < 2500) (g : gx_61 p X v X') : X = X' ∧ v = X.1 84 j := by
  unfold gx_61 at g
  rw [if_neg (by omega), if_pos (by omega)] at g
  rw [fx_in hp] at g
  exact ⟨g.2.2.symm, g.2.1⟩
theorem cx_72 (hp : p.toInt = (j : Int)) (hj : j < 2500) (g : gx_72 p X v X') : X = X' ∧ v = X.1 85 j := by
  unfold gx_72 at g
  rw [if_neg (by omega), if_pos (by omega)] at g
  rw [fx_in hp] at g
  exact ⟨g.2.2.symm, g.2.1⟩
theorem cx_41 (hp : p.toInt = (j : Int)) (hj : j < 2500) (g : gx_41 p p2 X u X') : X' = fx_wI X 86 j p2 := by
  unfold gx_41 at g
  rw [if_neg (by omega), if_pos (by omega)] at g
  obtain ⟨-, X1, rfl, rfl⟩ := g
  rw [fx_in hp]
/-- a note more -/
def cx_no (X : fx_X) (m : Nat) (p1 p2 p3 p4 : Int32) : fx_X := fx_wI (fx_wI (fx_wI (fx_wI (fx_wI X 83 m p1) 84 m p2) 85 m p3) 86 m p4) 82 4 (X.1 82 4 + Int32.ofInt 1)
theorem cx_42 (hm : (X.1 82 4).toInt = (m : Int)) (h : m < 2500) (g : gx_42 p1 p2 p3 p4 X u X') : X' = cx_no X m p1 p2 p3 p4 := by
  unfold gx_42 at g
  rw [if_pos (by omega)] at g
  obtain ⟨-, X1, rfl, -, X2, rfl, -, X3, rfl, -, X4, rfl, X5, rfl, rfl⟩ := g
  have e1 : ∀ {Y : fx_X} {r k : Nat} {w : Int32}, r ≠ 82 → (fx_wI Y r k w).1 82 4 = Y.1 82 4 := fun hr => by rw [fx_rIn (fun z => hr z.symm)]
  rw [e1 (r := 86) (by decide), e1 (r := 85) (by decide), e1 (r := 84) (by decide), e1 (r := 83) (by decide), fx_in hm]
  rfl
end CX8
