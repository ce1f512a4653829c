/-! THE REFERENCE: signs that wait in a query -/
/-- signs that wait, the latest first -/
def rx_ac (X : fx_X) : List Int → Prop
  | [] => True
  | a :: S => (X.1 140 S.length).toInt = a ∧ rx_ac X S
section DD53
variable {P : md_P} {X X' X0 : fx_X} {K : List md_Sy} {nm : md_Nm} {v p1 : Int32} {nn : Int64} {sk : List (List Int64)} {b14 : Int} {S : List Int} {a : Int}
theorem rx_ac_eq (h : rx_ac X S) (e : X'.1 140 = X.1 140) : rx_ac X' S := by
  induction S with
  | nil => exact True.intro
  | cons a S ih => exact ⟨by rw [e]; exact h.1, ih h.2⟩
theorem rx_273 (h : rx_ac X S) (h50 : (X.1 117 50).toInt = (S.length : Int)) (hS : S.length < 64) (hp : p1.toInt = a) (g : gx_273 p1 X v X') : X' = X ∧ ((v = Int32.ofInt 1 ∧ S.head? = some a) ∨ (v = Int32.ofInt 0 ∧ S.head? ≠ some a)) := by
  unfold gx_273 at g
  have e1' : (Int32.ofInt 1).toInt = 1 := rfl
  cases S with
  | nil =>
    have h50 : (X.1 117 50).toInt = 0 := h50
    rw [if_neg (by omega)] at g
    exact ⟨g.2, Or.inr ⟨g.1, fun z => by cases z⟩⟩
  | cons b S =>
    have h50 : (X.1 117 50).toInt = ((S.length + 1 : Nat) : Int) := h50
    have hS : S.length + 1 < 64 := hS
    rw [if_pos (by omega)] at g
    have i1 : (X.1 117 50 - Int32.ofInt 1).toInt = (S.length : Int) := by rw [fx_sub (by omega) (by omega), h50, e1']; omega
    rw [fx_in i1, h.1, hp] at g
    replace g := g.2
    rcases fy_ifd g with ⟨c1, g1⟩ | ⟨c1, g1⟩
    · exact ⟨g1.2, Or.inl ⟨g1.1, by rw [c1]; rfl⟩⟩
    · exact ⟨g1.2, Or.inr ⟨g1.1, fun z => c1 (Option.some.inj z)⟩⟩
end DD53
