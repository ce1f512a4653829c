/-! TOKENS OF THE REFERENCE -/
/-- what may have changed: fields, arrays (of ints and longs) -/
def fx_fr (F : List (Nat × Nat)) (A : List Nat) (X X' : fx_X) : Prop := X'.2.2 = X.2.2 ∧ (∀ r, r ∉ A → X'.2.1 r = X.2.1 r) ∧ ∀ r k, r ∉ A → (r, k) ∉ F → X'.1 r k = X.1 r k
section FXFR
variable {F F' : List (Nat × Nat)} {A A' : List Nat} {X X1 X2 : fx_X} {r k : Nat} {v : Int32} {w : Int64}
theorem fx_fr_rf : fx_fr F A X X := ⟨rfl, fun _ _ => rfl, fun _ _ _ _ => rfl⟩
theorem fx_fr_tr (h1 : fx_fr F A X X1) (h2 : fx_fr F A X1 X2) : fx_fr F A X X2 := ⟨h2.1.trans h1.1, fun r hr => (h2.2.1 r hr).trans (h1.2.1 r hr), fun r k hr hk => (h2.2.2 r k hr hk).trans (h1.2.2 r k hr hk)⟩
theorem fx_fr_f (h1 : fx_fr F A X X1) (hk : (r, k) ∈ F) : fx_fr F A X (fx_wI X1 r k v) := ⟨h1.1, h1.2.1, fun r' k' hr hk' => by
  rw [fx_rI, if_neg (fun z => hk' (by rw [z.1, z.2]; exact hk))]
  exact h1.2.2 r' k' hr hk'⟩
theorem fx_fr_a (h1 : fx_fr F A X X1) (hr : r ∈ A) : fx_fr F A X (fx_wI X1 r k v) := ⟨h1.1, h1.2.1, fun r' k' hr' hk' => by
  rw [fx_rI, if_neg (fun z => hr' (by rw [z.1]; exact hr))]
  exact h1.2.2 r' k' hr' hk'⟩
theorem fx_fr_l (h1 : fx_fr F A X X1) (hr : r ∈ A) : fx_fr F A X (fx_wL X1 r k w) := ⟨h1.1, fun r' hr' => by
  rw [fx_rLn (fun z => hr' (by rw [z]; exact hr))]
  exact h1.2.1 r' hr', h1.2.2⟩
theorem fx_fr_sub (h1 : fx_fr F A X X1) (hF : ∀ q, q ∈ F → q ∈ F') (hA : ∀ q, q ∈ A → q ∈ A') : fx_fr F' A' X X1 := ⟨h1.1, fun r hr => h1.2.1 r (fun z => hr (hA r z)), fun r k hr hk => h1.2.2 r k (fun z => hr (hA r z)) (fun z => hk (hF _ z))⟩
end FXFR
section CX4
variable {X X' : fx_X} {v p p0 p1 p2 : Int32} {w q : Int64} {u : Unit} {N j a : Nat} {f : Nat → Int32}
theorem cx_207 (hN : (X.1 117 23).toInt = (N : Int)) (hp : p.toInt = (j : Int)) (g : gx_207 p X v X') : X = X' ∧ v = (if j < N then X.1 138 j else Int32.ofInt 0) := by
  unfold gx_207 at g
  by_cases h : j < N
  · rw [if_pos (by omega), fx_in hp] at g
    rw [if_pos h]
    exact ⟨g.2.2.symm, g.2.1⟩
  · rw [if_neg (by omega)] at g
    rw [if_neg h]
    exact ⟨g.2.symm, g.1⟩
theorem cx_208 (hN : (X.1 117 23).toInt = (N : Int)) (hp : p.toInt = (j : Int)) (g : gx_208 p X v X') : X = X' ∧ v = (if j < N ∧ 97 ≤ (X.1 138 j).toInt ∧ (X.1 138 j).toInt ≤ 122 then Int32.ofInt 1 else Int32.ofInt 0) := by
  obtain ⟨w3, X2, r, g⟩ := g
  obtain ⟨rfl, hw⟩ := cx_207 hN hp r
  by_cases h : j < N
  · rw [if_pos h] at hw
    subst hw
    split at g
    · rw [if_neg (fun z => by have := z.2.1; omega)]
      exact ⟨g.2.symm, g.1⟩
    · obtain ⟨w6, X5, r2, g⟩ := g
      obtain ⟨rfl, hw⟩ := cx_207 hN hp r2
      rw [if_pos h] at hw
      subst hw
      split at g
      · rw [if_neg (fun z => by have := z.2.2; omega)]
        exact ⟨g.2.symm, g.1⟩
      · rw [if_pos ⟨h, by omega⟩]
        exact ⟨g.2.symm, g.1⟩
  · rw [if_neg h] at hw
    subst hw
    rw [if_pos (by decide)] at g
    rw [if_neg (fun z => h z.1)]
    exact ⟨g.2.symm, g.1⟩
theorem cx_209 (hN : (X.1 117 23).toInt = (N : Int)) (hp : p.toInt = (j : Int)) (g : gx_209 p X v X') : X = X' ∧ v = (if j < N ∧ 48 ≤ (X.1 138 j).toInt ∧ (X.1 138 j).toInt ≤ 57 then Int32.ofInt 1 else Int32.ofInt 0) := by
  obtain ⟨w3, X2, r, g⟩ := g
  obtain ⟨rfl, hw⟩ := cx_207 hN hp r
  by_cases h : j < N
  · rw [if_pos h] at hw
    subst hw
    split at g
    · rw [if_neg (fun z => by have := z.2.1; omega)]
      exact ⟨g.2.symm, g.1⟩
    · obtain ⟨w6, X5, r2, g⟩ := g
      obtain ⟨rfl, hw⟩ := cx_207 hN hp r2
      rw [if_pos h] at hw
      subst hw
      split at g
      · rw [if_neg (fun z => by have := z.2.2; omega)]
        exact ⟨g.2.symm, g.1⟩
      · rw [if_pos ⟨h, by omega⟩]
        exact ⟨g.2.symm, g.1⟩
  · rw [if_neg h] at hw
    subst hw
    rw [if_pos (by decide)] at g
    rw [if_neg (fun z => h z.1)]
    exact ⟨g.2.symm, g.1⟩
theorem cx_210l (h2 : p2.toInt = (N : Int)) (hN : N ≤ 4000) : ∀ (n k : Nat) (y3 : Int64) (y5 : Int32), y5.toInt = (k : Int) → k ≤ N → gxF_210 p1 p2 n 5 [y5] [y3] [] X q X' → X = X' ∧ q = md_pk (X.1 138) (N - k) k y3 := by
  intro n
  induction n with
  | zero => intro k y3 y5 _ _ g; exact g.elim
  | succ n ih =>
    intro k y3 y5 hk hkN g
    replace g := gxO_210_5 g
    unfold gxT_210_5 at g
    by_cases h : k < N
    · rw [if_pos (by omega), fx_in hk] at g
      obtain ⟨-, y6, rfl, y7, rfl, g⟩ := g
      have hy : (y5 + Int32.ofInt 1).toInt = ((k + 1 : Nat) : Int) := by
        rw [fx_add (by rw [hk]; show -2147483648 ≤ (k : Int) + 1; omega) (by rw [hk]; show (k : Int) + 1 ≤ 2147483647; omega), hk]
        rfl
      obtain ⟨e1, e2⟩ := ih (k + 1) _ _ hy (by omega) g
      refine ⟨e1, ?_⟩
      rw [e2, show N - k = (N - (k + 1)) + 1 by omega]
      rfl
    · rw [if_neg (by omega)] at g
      refine ⟨g.2.symm, ?_⟩
      rw [g.1, show N - k = 0 by omega]
      rfl
theorem cx_210 (h1 : p1.toInt = (a : Int)) (h2 : p2.toInt = (N : Int)) (hN : N ≤ 4000) (haN : a ≤ N) (g : gx_210 p1 p2 X q X') : X = X' ∧ q = md_pk (X.1 138) (N - a) a (Int64.ofNat 0) := by
  obtain ⟨n, g⟩ := g
  exact cx_210l h2 hN n a _ p1 h1 haN g
/-- the reference's number of a word is the class's kind less ten, -1 where it is none -/
theorem cx_211 (g : gx_211 q X v X') : X = X' ∧ ((v.toInt = -1 ∧ md_wd md_ws q 0 = 3) ∨ (0 ≤ v.toInt ∧ v.toInt ≤ 9 ∧ md_wd md_ws q 0 = 10 + v.toInt)) := by
  unfold gx_211 at g
  have e : ∀ x : Int64, (x = q) = (q = x) := fun x => propext ⟨Eq.symm, Eq.symm⟩
  simp only [md_wd, md_ws, e]
  have k0 : (0x756e6b6e6f776e : Int64) = Int64.ofInt 33053979968501614 := by decide
  have k1 : (0x7461626c65 : Int64) = Int64.ofInt 499850046565 := by decide
  have k2 : (0x726f77 : Int64) = Int64.ofInt 7499639 := by decide
  have k3 : (0x6966 : Int64) = Int64.ofInt 26982 := by decide
  have k4 : (0x616c77617973 : Int64) = Int64.ofInt 107118487239027 := by decide
  have k5 : (0x616e73776572 : Int64) = Int64.ofInt 107127011501426 := by decide
  have k6 : (0x636f756e74 : Int64) = Int64.ofInt 427071729268 := by decide
  have k7 : (0x6c65617374 : Int64) = Int64.ofInt 465557353332 := by decide
  have k8 : (0x6d6f7374 : Int64) = Int64.ofInt 1836020596 := by decide
  have k9 : (0x73756d : Int64) = Int64.ofInt 7566701 := by decide
  rw [k0, k1, k2, k3, k4, k5, k6, k7, k8, k9]
  split at g
  · rename_i z; rw [if_pos z]; exact ⟨g.2.symm, Or.inr (by rw [g.1]; decide)⟩
  rename_i z; rw [if_neg z]
  split at g
  · rename_i z; rw [if_pos z]; exact ⟨g.2.symm, Or.inr (by rw [g.1]; decide)⟩
  rename_i z; rw [if_neg z]
  split at g
  · rename_i z; rw [if_pos z]; exact ⟨g.2.symm, Or.inr (by rw [g.1]; decide)⟩
  rename_i z; rw [if_neg z]
  split at g
  · rename_i z; rw [if_pos z]; exact ⟨g.2.symm, Or.inr (by rw [g.1]; decide)⟩
  rename_i z; rw [if_neg z]
  split at g
  · rename_i z; rw [if_pos z]; exact ⟨g.2.symm, Or.inr (by rw [g.1]; decide)⟩
  rename_i z; rw [if_neg z]
  split at g
  · rename_i z; rw [if_pos z]; exact ⟨g.2.symm, Or.inr (by rw [g.1]; decide)⟩
  rename_i z; rw [if_neg z]
  split at g
  · rename_i z; rw [if_pos z]; exact ⟨g.2.symm, Or.inr (by rw [g.1]; decide)⟩
  rename_i z; rw [if_neg z]
  split at g
  · rename_i z; rw [if_pos z]; exact ⟨g.2.symm, Or.inr (by rw [g.1]; decide)⟩
  rename_i z; rw [if_neg z]
  split at g
  · rename_i z; rw [if_pos z]; exact ⟨g.2.symm, Or.inr (by rw [g.1]; decide)⟩
  rename_i z; rw [if_neg z]
  split at g
  · rename_i z; rw [if_pos z]; exact ⟨g.2.symm, Or.inr (by rw [g.1]; decide)⟩
  rename_i z; rw [if_neg z]
  exact ⟨g.2.symm, Or.inl (by rw [g.1]; exact ⟨by decide, rfl⟩)⟩
end CX4
