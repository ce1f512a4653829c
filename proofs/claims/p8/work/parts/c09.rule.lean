/-! THE RULES OF THE GRAMMAR by number, as the class chooses them (printed by wip/p7/gen_c10.py) -/
theorem fy_ifd {c A B : Prop} [Decidable c] (g : if c then A else B) : (c ∧ A) ∨ (¬ c ∧ B) := by
  by_cases q : c
  · rw [if_pos q] at g; exact Or.inl ⟨q, g⟩
  · rw [if_neg q] at g; exact Or.inr ⟨q, g⟩
def md_rl : List (List Int) := [[], [10, 3, 180, 58, 131, 132, 59, 183, 130], [11, 3, 184, 40, 3, 185, 135, 41, 59, 130], [12, 3, 186, 40, 144, 187, 136, 41, 137, 59, 130], [14, 189, 138, 59, 190, 130], [15, 3, 191, 61, 145, 59, 192, 130], [], [45, 181, 4], [4, 181], [45, 182, 4], [4, 182], [5, 134], [44, 131, 133], [44, 3, 185, 135], [44, 144, 187, 136], [13, 138, 188], [140, 139], [124, 140, 207, 139], [142, 141], [38, 142, 206, 141], [33, 170, 142, 171, 205], [40, 170, 138, 41, 171], [144, 143, 144, 204], [61, 203], [6, 203], [60, 203], [7, 203], [63, 3, 201], [45, 200, 4], [4, 200], [147, 146], [43, 172, 147, 211, 146], [45, 172, 147, 212, 146], [149, 148], [42, 172, 149, 213, 148], [40, 170, 145, 41, 171, 150], [3, 210, 150], [91, 151, 152, 93, 150], [58, 40, 215, 3, 216, 154, 41, 217, 150], [123, 3, 218, 61, 3, 219, 125, 150], [35, 172, 40, 215, 155, 41, 220, 156, 3, 223, 150], [153, 143, 153, 214], [44, 151, 152], [3, 202], [144], [44, 3, 216, 154], [3, 216, 154], [16, 221], [17, 221, 3, 222], [18, 221, 3, 222], [19, 221, 3, 222]]
def md_48 (p0 : Int) : Option Nat := (if p0 = 1 then some 6 else (if p0 = 10 then some 1 else (if p0 = 11 then some 2 else (if p0 = 12 then some 3 else (if p0 = 14 then some 4 else (if p0 = 15 then some 5 else none))))))
theorem cx_48 {p0 : Int32} {X X' : fx_X} {v : Option Nat} (g : gx_48 p0 X v X') : X = X' ∧ v = md_48 p0.toInt := by
  unfold gx_48 at g
  unfold md_48
  rcases fy_ifd g with ⟨q, g⟩ | ⟨q, g⟩
  · rw [if_pos q]
    exact ⟨g.2.symm, g.1⟩
  · rw [if_neg q]
    rcases fy_ifd g with ⟨q, g⟩ | ⟨q, g⟩
    · rw [if_pos q]
      exact ⟨g.2.symm, g.1⟩
    · rw [if_neg q]
      rcases fy_ifd g with ⟨q, g⟩ | ⟨q, g⟩
      · rw [if_pos q]
        exact ⟨g.2.symm, g.1⟩
      · rw [if_neg q]
        rcases fy_ifd g with ⟨q, g⟩ | ⟨q, g⟩
        · rw [if_pos q]
          exact ⟨g.2.symm, g.1⟩
        · rw [if_neg q]
          rcases fy_ifd g with ⟨q, g⟩ | ⟨q, g⟩
          · rw [if_pos q]
            exact ⟨g.2.symm, g.1⟩
          · rw [if_neg q]
            rcases fy_ifd g with ⟨q, g⟩ | ⟨q, g⟩
            · rw [if_pos q]
              exact ⟨g.2.symm, g.1⟩
            · rw [if_neg q]
              exact ⟨g.2.symm, g.1⟩
def md_49 (p0 p1 : Int) : Option Nat := (if p0 = 131 then (if p1 = 45 then some 7 else (if p1 = 4 then some 8 else none)) else (if p0 = 132 then (if p1 = 5 then some 11 else (if p1 = 44 then some 12 else some 6)) else (if p0 = 133 then (if p1 = 44 then some 12 else some 6) else (if p0 = 134 then (if p1 = 45 then some 9 else (if p1 = 4 then some 10 else none)) else (if p0 = 135 then (if p1 = 44 then some 13 else some 6) else (if p0 = 136 then (if p1 = 44 then some 14 else some 6) else (if p0 = 137 then (if p1 = 13 then some 15 else some 6) else none)))))))
theorem cx_49 {p0 p1 : Int32} {X X' : fx_X} {v : Option Nat} (g : gx_49 p0 p1 X v X') : X = X' ∧ v = md_49 p0.toInt p1.toInt := by
  unfold gx_49 at g
  unfold md_49
  rcases fy_ifd g with ⟨q, g⟩ | ⟨q, g⟩
  · rw [if_pos q]
    rcases fy_ifd g with ⟨q, g⟩ | ⟨q, g⟩
    · rw [if_pos q]
      exact ⟨g.2.symm, g.1⟩
    · rw [if_neg q]
      rcases fy_ifd g with ⟨q, g⟩ | ⟨q, g⟩
      · rw [if_pos q]
        exact ⟨g.2.symm, g.1⟩
      · rw [if_neg q]
        exact ⟨g.2.symm, g.1⟩
  · rw [if_neg q]
    rcases fy_ifd g with ⟨q, g⟩ | ⟨q, g⟩
    · rw [if_pos q]
      rcases fy_ifd g with ⟨q, g⟩ | ⟨q, g⟩
      · rw [if_pos q]
        exact ⟨g.2.symm, g.1⟩
      · rw [if_neg q]
        rcases fy_ifd g with ⟨q, g⟩ | ⟨q, g⟩
        · rw [if_pos q]
          exact ⟨g.2.symm, g.1⟩
        · rw [if_neg q]
          exact ⟨g.2.symm, g.1⟩
    · rw [if_neg q]
      rcases fy_ifd g with ⟨q, g⟩ | ⟨q, g⟩
      · rw [if_pos q]
        rcases fy_ifd g with ⟨q, g⟩ | ⟨q, g⟩
        · rw [if_pos q]
          exact ⟨g.2.symm, g.1⟩
        · rw [if_neg q]
          exact ⟨g.2.symm, g.1⟩
      · rw [if_neg q]
        rcases fy_ifd g with ⟨q, g⟩ | ⟨q, g⟩
        · rw [if_pos q]
          rcases fy_ifd g with ⟨q, g⟩ | ⟨q, g⟩
          · rw [if_pos q]
            exact ⟨g.2.symm, g.1⟩
          · rw [if_neg q]
            rcases fy_ifd g with ⟨q, g⟩ | ⟨q, g⟩
            · rw [if_pos q]
              exact ⟨g.2.symm, g.1⟩
            · rw [if_neg q]
              exact ⟨g.2.symm, g.1⟩
        · rw [if_neg q]
          rcases fy_ifd g with ⟨q, g⟩ | ⟨q, g⟩
          · rw [if_pos q]
            rcases fy_ifd g with ⟨q, g⟩ | ⟨q, g⟩
            · rw [if_pos q]
              exact ⟨g.2.symm, g.1⟩
            · rw [if_neg q]
              exact ⟨g.2.symm, g.1⟩
          · rw [if_neg q]
            rcases fy_ifd g with ⟨q, g⟩ | ⟨q, g⟩
            · rw [if_pos q]
              rcases fy_ifd g with ⟨q, g⟩ | ⟨q, g⟩
              · rw [if_pos q]
                exact ⟨g.2.symm, g.1⟩
              · rw [if_neg q]
                exact ⟨g.2.symm, g.1⟩
            · rw [if_neg q]
              rcases fy_ifd g with ⟨q, g⟩ | ⟨q, g⟩
              · rw [if_pos q]
                rcases fy_ifd g with ⟨q, g⟩ | ⟨q, g⟩
                · rw [if_pos q]
                  exact ⟨g.2.symm, g.1⟩
                · rw [if_neg q]
                  exact ⟨g.2.symm, g.1⟩
              · rw [if_neg q]
                exact ⟨g.2.symm, g.1⟩
def md_51 (p0 : Int) : Option Nat := (if p0 = 6 then some 24 else (if p0 = 7 then some 26 else (if p0 = 60 then some 25 else (if p0 = 61 then some 23 else none))))
theorem cx_51 {p0 : Int32} {X X' : fx_X} {v : Option Nat} (g : gx_51 p0 X v X') : X = X' ∧ v = md_51 p0.toInt := by
  unfold gx_51 at g
  unfold md_51
  rcases fy_ifd g with ⟨q, g⟩ | ⟨q, g⟩
  · rw [if_pos q]
    exact ⟨g.2.symm, g.1⟩
  · rw [if_neg q]
    rcases fy_ifd g with ⟨q, g⟩ | ⟨q, g⟩
    · rw [if_pos q]
      exact ⟨g.2.symm, g.1⟩
    · rw [if_neg q]
      rcases fy_ifd g with ⟨q, g⟩ | ⟨q, g⟩
      · rw [if_pos q]
        exact ⟨g.2.symm, g.1⟩
      · rw [if_neg q]
        rcases fy_ifd g with ⟨q, g⟩ | ⟨q, g⟩
        · rw [if_pos q]
          exact ⟨g.2.symm, g.1⟩
        · rw [if_neg q]
          exact ⟨g.2.symm, g.1⟩
def md_53 (p0 : Int) : Option Nat := (if p0 = 35 then some 40 else (if p0 = 58 then some 38 else (if p0 = 91 then some 37 else (if p0 = 123 then some 39 else some 6))))
theorem cx_53 {p0 : Int32} {X X' : fx_X} {v : Option Nat} (g : gx_53 p0 X v X') : X = X' ∧ v = md_53 p0.toInt := by
  unfold gx_53 at g
  unfold md_53
  rcases fy_ifd g with ⟨q, g⟩ | ⟨q, g⟩
  · rw [if_pos q]
    exact ⟨g.2.symm, g.1⟩
  · rw [if_neg q]
    rcases fy_ifd g with ⟨q, g⟩ | ⟨q, g⟩
    · rw [if_pos q]
      exact ⟨g.2.symm, g.1⟩
    · rw [if_neg q]
      rcases fy_ifd g with ⟨q, g⟩ | ⟨q, g⟩
      · rw [if_pos q]
        exact ⟨g.2.symm, g.1⟩
      · rw [if_neg q]
        rcases fy_ifd g with ⟨q, g⟩ | ⟨q, g⟩
        · rw [if_pos q]
          exact ⟨g.2.symm, g.1⟩
        · rw [if_neg q]
          exact ⟨g.2.symm, g.1⟩
def md_54 (p0 : Int) : Option Nat := (if p0 = 16 then some 47 else (if p0 = 17 then some 48 else (if p0 = 18 then some 49 else (if p0 = 19 then some 50 else none))))
theorem cx_54 {p0 : Int32} {X X' : fx_X} {v : Option Nat} (g : gx_54 p0 X v X') : X = X' ∧ v = md_54 p0.toInt := by
  unfold gx_54 at g
  unfold md_54
  rcases fy_ifd g with ⟨q, g⟩ | ⟨q, g⟩
  · rw [if_pos q]
    exact ⟨g.2.symm, g.1⟩
  · rw [if_neg q]
    rcases fy_ifd g with ⟨q, g⟩ | ⟨q, g⟩
    · rw [if_pos q]
      exact ⟨g.2.symm, g.1⟩
    · rw [if_neg q]
      rcases fy_ifd g with ⟨q, g⟩ | ⟨q, g⟩
      · rw [if_pos q]
        exact ⟨g.2.symm, g.1⟩
      · rw [if_neg q]
        rcases fy_ifd g with ⟨q, g⟩ | ⟨q, g⟩
        · rw [if_pos q]
          exact ⟨g.2.symm, g.1⟩
        · rw [if_neg q]
          exact ⟨g.2.symm, g.1⟩
def md_50 (p0 p1 : Int) : Option Nat := (if p0 = 138 then some 16 else (if p0 = 139 then (if p1 = 124 then some 17 else some 6) else (if p0 = 140 then some 18 else (if p0 = 141 then (if p1 = 38 then some 19 else some 6) else (if p0 = 142 then (if p1 = 33 then some 20 else (if p1 = 40 then some 21 else some 22)) else (if p0 = 143 then md_51 p1 else (if p0 = 144 then (if p1 = 63 then some 27 else (if p1 = 45 then some 28 else (if p1 = 4 then some 29 else none))) else none)))))))
theorem cx_50 {p0 p1 : Int32} {X X' : fx_X} {v : Option Nat} (g : gx_50 p0 p1 X v X') : X = X' ∧ v = md_50 p0.toInt p1.toInt := by
  unfold gx_50 at g
  unfold md_50
  rcases fy_ifd g with ⟨q, g⟩ | ⟨q, g⟩
  · rw [if_pos q]
    exact ⟨g.2.symm, g.1⟩
  · rw [if_neg q]
    rcases fy_ifd g with ⟨q, g⟩ | ⟨q, g⟩
    · rw [if_pos q]
      rcases fy_ifd g with ⟨q, g⟩ | ⟨q, g⟩
      · rw [if_pos q]
        exact ⟨g.2.symm, g.1⟩
      · rw [if_neg q]
        exact ⟨g.2.symm, g.1⟩
    · rw [if_neg q]
      rcases fy_ifd g with ⟨q, g⟩ | ⟨q, g⟩
      · rw [if_pos q]
        exact ⟨g.2.symm, g.1⟩
      · rw [if_neg q]
        rcases fy_ifd g with ⟨q, g⟩ | ⟨q, g⟩
        · rw [if_pos q]
          rcases fy_ifd g with ⟨q, g⟩ | ⟨q, g⟩
          · rw [if_pos q]
            exact ⟨g.2.symm, g.1⟩
          · rw [if_neg q]
            exact ⟨g.2.symm, g.1⟩
        · rw [if_neg q]
          rcases fy_ifd g with ⟨q, g⟩ | ⟨q, g⟩
          · rw [if_pos q]
            rcases fy_ifd g with ⟨q, g⟩ | ⟨q, g⟩
            · rw [if_pos q]
              exact ⟨g.2.symm, g.1⟩
            · rw [if_neg q]
              rcases fy_ifd g with ⟨q, g⟩ | ⟨q, g⟩
              · rw [if_pos q]
                exact ⟨g.2.symm, g.1⟩
              · rw [if_neg q]
                exact ⟨g.2.symm, g.1⟩
          · rw [if_neg q]
            rcases fy_ifd g with ⟨q, g⟩ | ⟨q, g⟩
            · rw [if_pos q]
              obtain ⟨w, X1, r, g⟩ := g
              obtain ⟨rfl, rfl⟩ := cx_51 r
              rcases g with ⟨e, rfl, rfl⟩ | ⟨b, e, rfl, rfl⟩ <;> exact ⟨rfl, e.symm⟩
            · rw [if_neg q]
              rcases fy_ifd g with ⟨q, g⟩ | ⟨q, g⟩
              · rw [if_pos q]
                rcases fy_ifd g with ⟨q, g⟩ | ⟨q, g⟩
                · rw [if_pos q]
                  exact ⟨g.2.symm, g.1⟩
                · rw [if_neg q]
                  rcases fy_ifd g with ⟨q, g⟩ | ⟨q, g⟩
                  · rw [if_pos q]
                    exact ⟨g.2.symm, g.1⟩
                  · rw [if_neg q]
                    rcases fy_ifd g with ⟨q, g⟩ | ⟨q, g⟩
                    · rw [if_pos q]
                      exact ⟨g.2.symm, g.1⟩
                    · rw [if_neg q]
                      exact ⟨g.2.symm, g.1⟩
              · rw [if_neg q]
                exact ⟨g.2.symm, g.1⟩
def md_52 (p0 p1 : Int) : Option Nat := (if p0 = 145 then some 30 else (if p0 = 146 then (if p1 = 43 then some 31 else (if p1 = 45 then some 32 else some 6)) else (if p0 = 147 then some 33 else (if p0 = 148 then (if p1 = 42 then some 34 else some 6) else (if p0 = 149 then (if p1 = 40 then some 35 else (if p1 = 3 then some 36 else none)) else (if p0 = 150 then md_53 p1 else (if p0 = 151 then some 41 else (if p0 = 152 then (if p1 = 44 then some 42 else some 6) else (if p0 = 153 then (if p1 = 3 then some 43 else some 44) else (if p0 = 154 then (if p1 = 44 then some 45 else some 6) else (if p0 = 155 then (if p1 = 3 then some 46 else some 6) else (if p0 = 156 then md_54 p1 else none))))))))))))
theorem cx_52 {p0 p1 : Int32} {X X' : fx_X} {v : Option Nat} (g : gx_52 p0 p1 X v X') : X = X' ∧ v = md_52 p0.toInt p1.toInt := by
  unfold gx_52 at g
  unfold md_52
  rcases fy_ifd g with ⟨q, g⟩ | ⟨q, g⟩
  · rw [if_pos q]
    exact ⟨g.2.symm, g.1⟩
  · rw [if_neg q]
    rcases fy_ifd g with ⟨q, g⟩ | ⟨q, g⟩
    · rw [if_pos q]
      rcases fy_ifd g with ⟨q, g⟩ | ⟨q, g⟩
      · rw [if_pos q]
        exact ⟨g.2.symm, g.1⟩
      · rw [if_neg q]
        rcases fy_ifd g with ⟨q, g⟩ | ⟨q, g⟩
        · rw [if_pos q]
          exact ⟨g.2.symm, g.1⟩
        · rw [if_neg q]
          exact ⟨g.2.symm, g.1⟩
    · rw [if_neg q]
      rcases fy_ifd g with ⟨q, g⟩ | ⟨q, g⟩
      · rw [if_pos q]
        exact ⟨g.2.symm, g.1⟩
      · rw [if_neg q]
        rcases fy_ifd g with ⟨q, g⟩ | ⟨q, g⟩
        · rw [if_pos q]
          rcases fy_ifd g with ⟨q, g⟩ | ⟨q, g⟩
          · rw [if_pos q]
            exact ⟨g.2.symm, g.1⟩
          · rw [if_neg q]
            exact ⟨g.2.symm, g.1⟩
        · rw [if_neg q]
          rcases fy_ifd g with ⟨q, g⟩ | ⟨q, g⟩
          · rw [if_pos q]
            rcases fy_ifd g with ⟨q, g⟩ | ⟨q, g⟩
            · rw [if_pos q]
              exact ⟨g.2.symm, g.1⟩
            · rw [if_neg q]
              rcases fy_ifd g with ⟨q, g⟩ | ⟨q, g⟩
              · rw [if_pos q]
                exact ⟨g.2.symm, g.1⟩
              · rw [if_neg q]
                exact ⟨g.2.symm, g.1⟩
          · rw [if_neg q]
            rcases fy_ifd g with ⟨q, g⟩ | ⟨q, g⟩
            · rw [if_pos q]
              obtain ⟨w, X1, r, g⟩ := g
              obtain ⟨rfl, rfl⟩ := cx_53 r
              rcases g with ⟨e, rfl, rfl⟩ | ⟨b, e, rfl, rfl⟩ <;> exact ⟨rfl, e.symm⟩
            · rw [if_neg q]
              rcases fy_ifd g with ⟨q, g⟩ | ⟨q, g⟩
              · rw [if_pos q]
                exact ⟨g.2.symm, g.1⟩
              · rw [if_neg q]
                rcases fy_ifd g with ⟨q, g⟩ | ⟨q, g⟩
                · rw [if_pos q]
                  rcases fy_ifd g with ⟨q, g⟩ | ⟨q, g⟩
                  · rw [if_pos q]
                    exact ⟨g.2.symm, g.1⟩
                  · rw [if_neg q]
                    exact ⟨g.2.symm, g.1⟩
                · rw [if_neg q]
                  rcases fy_ifd g with ⟨q, g⟩ | ⟨q, g⟩
                  · rw [if_pos q]
                    rcases fy_ifd g with ⟨q, g⟩ | ⟨q, g⟩
                    · rw [if_pos q]
                      exact ⟨g.2.symm, g.1⟩
                    · rw [if_neg q]
                      exact ⟨g.2.symm, g.1⟩
                  · rw [if_neg q]
                    rcases fy_ifd g with ⟨q, g⟩ | ⟨q, g⟩
                    · rw [if_pos q]
                      rcases fy_ifd g with ⟨q, g⟩ | ⟨q, g⟩
                      · rw [if_pos q]
                        exact ⟨g.2.symm, g.1⟩
                      · rw [if_neg q]
                        exact ⟨g.2.symm, g.1⟩
                    · rw [if_neg q]
                      rcases fy_ifd g with ⟨q, g⟩ | ⟨q, g⟩
                      · rw [if_pos q]
                        rcases fy_ifd g with ⟨q, g⟩ | ⟨q, g⟩
                        · rw [if_pos q]
                          exact ⟨g.2.symm, g.1⟩
                        · rw [if_neg q]
                          exact ⟨g.2.symm, g.1⟩
                      · rw [if_neg q]
                        rcases fy_ifd g with ⟨q, g⟩ | ⟨q, g⟩
                        · rw [if_pos q]
                          obtain ⟨w, X1, r, g⟩ := g
                          obtain ⟨rfl, rfl⟩ := cx_54 r
                          rcases g with ⟨e, rfl, rfl⟩ | ⟨b, e, rfl, rfl⟩ <;> exact ⟨rfl, e.symm⟩
                        · rw [if_neg q]
                          exact ⟨g.2.symm, g.1⟩
def md_47 (p0 p1 : Int) : Option Nat := (if p0 < 138 then (if p0 = 130 then md_48 p1 else md_49 p0 p1) else (if p0 < 145 then md_50 p0 p1 else md_52 p0 p1))
theorem cx_47 {p0 p1 : Int32} {X X' : fx_X} {v : Option Nat} (g : gx_47 p0 p1 X v X') : X = X' ∧ v = md_47 p0.toInt p1.toInt := by
  unfold gx_47 at g
  unfold md_47
  rcases fy_ifd g with ⟨q, g⟩ | ⟨q, g⟩
  · rw [if_pos q]
    rcases fy_ifd g with ⟨q, g⟩ | ⟨q, g⟩
    · rw [if_pos q]
      obtain ⟨w, X1, r, g⟩ := g
      obtain ⟨rfl, rfl⟩ := cx_48 r
      rcases g with ⟨e, rfl, rfl⟩ | ⟨b, e, rfl, rfl⟩ <;> exact ⟨rfl, e.symm⟩
    · rw [if_neg q]
      obtain ⟨w, X1, r, g⟩ := g
      obtain ⟨rfl, rfl⟩ := cx_49 r
      rcases g with ⟨e, rfl, rfl⟩ | ⟨b, e, rfl, rfl⟩ <;> exact ⟨rfl, e.symm⟩
  · rw [if_neg q]
    rcases fy_ifd g with ⟨q, g⟩ | ⟨q, g⟩
    · rw [if_pos q]
      obtain ⟨w, X1, r, g⟩ := g
      obtain ⟨rfl, rfl⟩ := cx_50 r
      rcases g with ⟨e, rfl, rfl⟩ | ⟨b, e, rfl, rfl⟩ <;> exact ⟨rfl, e.symm⟩
    · rw [if_neg q]
      obtain ⟨w, X1, r, g⟩ := g
      obtain ⟨rfl, rfl⟩ := cx_52 r
      rcases g with ⟨e, rfl, rfl⟩ | ⟨b, e, rfl, rfl⟩ <;> exact ⟨rfl, e.symm⟩
def md_rule (p k : Int) : Option (List Int) := (md_47 p k).map (fun i => md_rl.getD i [])
theorem cx_rl {X : fx_X} (hX : fx_G X) {i : Nat} (h0 : 1 ≤ i) (h : i < 51) : (X.2.2.2.1 i).2 = (md_rl.getD i []).length ∧ ∀ j, j < (md_rl.getD i []).length → (X.1 i j).toInt = (md_rl.getD i []).getD j 0 := by
  obtain ⟨e1, -, e2⟩ := fx_Gt hX h
  rw [e1, e2]
  have k : ∀ i : Nat, i < 51 → 1 ≤ i → (fx_A ((aj_tbS[i]?).map Sum.inl)).2 = (md_rl.getD i []).length ∧ ∀ j, j < (md_rl.getD i []).length → (fx_I ((aj_tbS[i]?).map Sum.inl) j).toInt = (md_rl.getD i []).getD j 0 := by decide +kernel
  exact k i h h0
