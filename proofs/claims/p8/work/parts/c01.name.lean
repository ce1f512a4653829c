/-! TOKENS: names and numbers of the class -/
/-- from k on all p up to e -/
def md_end (p : Int → Prop) (f : Nat → Int32) (N k e : Nat) : Prop := k ≤ e ∧ (∀ i, k ≤ i → i < e → i < N ∧ p (f i).toInt) ∧ ¬ (e < N ∧ p (f e).toInt)
def md_let (c : Int) : Prop := 97 ≤ c ∧ c ≤ 122
def md_dig (c : Int) : Prop := 48 ≤ c ∧ c ≤ 57
def md_ld (c : Int) : Prop := md_let c ∨ md_dig c
/-- letters packed -/
def md_pk (f : Nat → Int32) : Nat → Nat → Int64 → Int64
  | 0, _, v => v
  | l + 1, a, v => md_pk f l (a + 1) ((v <<< ((((Int8.ofInt 8).toInt32)).toInt64 &&& 63)) ||| ((f a).toInt64))
def md_nu (f : Nat → Int32) : Nat → Nat → Int64 → Int64
  | 0, _, v => v
  | l + 1, a, v => md_nu f l (a + 1) ((v * (Int64.ofInt 10)) + (((f a - ((Int8.ofInt 48).toInt32))).toInt64))
theorem md_end_u {p : Int → Prop} {f : Nat → Int32} {N k e e' : Nat} (h : md_end p f N k e) (h' : md_end p f N k e') : e = e' := by
  obtain ⟨a1, a2, a3⟩ := h
  obtain ⟨b1, b2, b3⟩ := h'
  rcases Nat.lt_trichotomy e e' with q | q | q
  · exact absurd (b2 e a1 q) a3
  · exact q
  · exact absurd (a2 e' b1 q) b3
section CX1
variable {X X' : fx_X} {v p2 p3 : Int32} {m N a : Nat}
/-- what a name leaves -/
def cx_nm (X : fx_X) (f : Nat → Int32) (m : Nat) (p3 : Int32) (a k e : Nat) (y5 : Int64) (v : Int32) (X' : fx_X) : Prop := if 8 < e - a then v = p3 ∧ X' = cx_tk X m (Int32.ofInt 2) p3 (Int64.ofNat 0) else v.toInt = (e : Int) ∧ ∃ w : Int32, w.toInt = md_wd md_ws (md_pk f (e - k) k y5) 0 ∧ X' = cx_tk X m w p3 (md_pk f (e - k) k y5)
theorem cx_25t (hX : cx_S X) (hm : (X.1 78 3).toInt = (m : Int)) (h : m < 1002) (h3 : p3.toInt = (a : Int)) {f : Nat → Int32} {e : Nat} {y4 : Int32} {y5 : Int64} (h4 : y4.toInt = (e : Int)) (hae : a ≤ e) (he : e ≤ 4000) (g : if 8 < (y4 - p3).toInt then (∃ (w39 : Unit) (X38 : fx_X), gx_27 (Int32.ofInt 2) p3 (Int64.ofNat 0) X w39 X38 ∧ v = p3 ∧ X' = X38) else (∃ (w35 : Int32) (X34 : fx_X), gx_28 y5 X w35 X34 ∧ ∃ (w37 : Unit) (X36 : fx_X), gx_27 w35 p3 y5 X34 w37 X36 ∧ v = y4 ∧ X' = X36)) : cx_nm X f m p3 a e e y5 v X' := by
  have hs : (y4 - p3).toInt = (e : Int) - a := by
    rw [fx_sub (by omega) (by omega), h4, h3]
  unfold cx_nm
  rw [Nat.sub_self]
  split at g
  · obtain ⟨_, X1, g, rfl, rfl⟩ := g
    rw [if_pos (by omega)]
    exact ⟨rfl, cx_27 hm h g⟩
  · obtain ⟨w, X1, g1, _, X2, g2, rfl, rfl⟩ := g
    obtain ⟨rfl, hw⟩ := cx_28 hX g1
    rw [if_neg (by omega)]
    exact ⟨h4, w, hw, cx_27 hm h g2⟩
theorem cx_25l (hX : cx_S X) (hm : (X.1 78 3).toInt = (m : Int)) (h : m < 1002) (h2 : p2.toInt = (N : Int)) (hN : N ≤ 4000) (h3 : p3.toInt = (a : Int)) : ∀ (n k : Nat) (y4 : Int32) (y5 : Int64), y4.toInt = (k : Int) → a ≤ k → k ≤ N → gxF_25 p2 p3 n 6 [y4] [y5] [] X v X' → ∃ e, md_end md_ld (X.1 53) N k e ∧ e ≤ N ∧ cx_nm X (X.1 53) m p3 a k e y5 v X' := by
  have hA : (Int32.ofNat (X.2.2.2.1 53).2).toInt = 4000 := by
    rw [hX.1]
    rfl
  intro n
  induction n with
  | zero => intro k y4 y5 _ _ _ g; exact g.elim
  | succ n ih =>
    intro k y4 y5 hk hak hkN g
    replace g := gxO_25_6 g
    unfold gxT_25_6 at g
    by_cases q1 : k < N
    · rw [if_pos (by omega), if_pos (by omega)] at g
      obtain ⟨-, w1, X1, r1, g⟩ := g
      obtain ⟨rfl, hw1⟩ := cx_24 r1
      rw [fx_in hk] at hw1 g
      by_cases q2 : 97 ≤ (X.1 53 k).toInt ∧ (X.1 53 k).toInt ≤ 122
      · rw [if_pos q2] at hw1
        subst hw1
        rw [if_neg (by decide)] at g
        obtain ⟨-, y6, rfl, y7, rfl, g⟩ := g
        have hy : (y4 + Int32.ofInt 1).toInt = ((k + 1 : Nat) : Int) := by
          rw [fx_add (by rw [hk]; show -2147483648 ≤ (k : Int) + 1; omega) (by rw [hk]; show (k : Int) + 1 ≤ 2147483647; omega), hk]
          rfl
        obtain ⟨e, e1, e2, e3⟩ := ih (k + 1) _ _ hy (by omega) (by omega) g
        refine ⟨e, ⟨by have := e1.1; omega, fun i hi hie => ?_, e1.2.2⟩, e2, ?_⟩
        · by_cases z : i = k
          · subst z
            exact ⟨q1, Or.inl q2⟩
          · exact e1.2.1 i (by omega) hie
        · unfold cx_nm at e3 ⊢
          have hek := e1.1
          rw [show e - k = (e - (k + 1)) + 1 by omega]
          exact e3
      · rw [if_neg q2] at hw1
        subst hw1
        rw [if_pos (by decide)] at g
        obtain ⟨-, w2, X2, r2, g⟩ := g
        obtain ⟨rfl, hw2⟩ := cx_26 r2
        by_cases q3 : 48 ≤ (X.1 53 k).toInt ∧ (X.1 53 k).toInt ≤ 57
        · rw [if_pos q3] at hw2
          subst hw2
          rw [if_neg (by decide)] at g
          obtain ⟨-, y6, rfl, y7, rfl, g⟩ := g
          have hy : (y4 + Int32.ofInt 1).toInt = ((k + 1 : Nat) : Int) := by
            rw [fx_add (by rw [hk]; show -2147483648 ≤ (k : Int) + 1; omega) (by rw [hk]; show (k : Int) + 1 ≤ 2147483647; omega), hk]
            rfl
          obtain ⟨e, e1, e2, e3⟩ := ih (k + 1) _ _ hy (by omega) (by omega) g
          refine ⟨e, ⟨by have := e1.1; omega, fun i hi hie => ?_, e1.2.2⟩, e2, ?_⟩
          · by_cases z : i = k
            · subst z
              exact ⟨q1, Or.inr q3⟩
            · exact e1.2.1 i (by omega) hie
          · unfold cx_nm at e3 ⊢
            have hek := e1.1
            rw [show e - k = (e - (k + 1)) + 1 by omega]
            exact e3
        · rw [if_neg q3] at hw2
          subst hw2
          rw [if_pos (by decide)] at g
          refine ⟨k, ⟨Nat.le_refl _, fun i h1 h2 => absurd h2 (by omega), fun z => z.2.elim q2 q3⟩, hkN, ?_⟩
          exact cx_25t hX hm h h3 hk hak (by omega) g
    · rw [if_neg (by omega)] at g
      refine ⟨k, ⟨Nat.le_refl _, fun i h1 h2 => absurd h2 (by omega), fun z => q1 z.1⟩, hkN, ?_⟩
      exact cx_25t hX hm h h3 hk hak (by omega) g
theorem cx_25 (hX : cx_S X) (hm : (X.1 78 3).toInt = (m : Int)) (h : m < 1002) (h2 : p2.toInt = (N : Int)) (hN : N ≤ 4000) (h3 : p3.toInt = (a : Int)) (haN : a ≤ N) (g : gx_25 p2 p3 X v X') : ∃ e, md_end md_ld (X.1 53) N a e ∧ e ≤ N ∧ cx_nm X (X.1 53) m p3 a a e (Int64.ofNat 0) v X' := by
  obtain ⟨n, g⟩ := g
  exact cx_25l hX hm h h2 hN h3 n a p3 _ h3 (Nat.le_refl _) haN g
/-- what a number leaves -/
def cx_nb (X : fx_X) (f : Nat → Int32) (m : Nat) (p3 : Int32) (a k e : Nat) (y5 : Int64) (v : Int32) (X' : fx_X) : Prop := if 4 < e - a then v = p3 ∧ X' = cx_tk X m (Int32.ofInt 2) p3 (Int64.ofNat 0) else v.toInt = (e : Int) ∧ X' = cx_tk X m (Int32.ofInt 4) p3 (md_nu f (e - k) k y5)
theorem cx_29t (hm : (X.1 78 3).toInt = (m : Int)) (h : m < 1002) (h3 : p3.toInt = (a : Int)) {f : Nat → Int32} {e : Nat} {y4 : Int32} {y5 : Int64} (h4 : y4.toInt = (e : Int)) (hae : a ≤ e) (he : e ≤ 4000) (g : if 4 < (y4 - p3).toInt then (∃ (w39 : Unit) (X38 : fx_X), gx_27 (Int32.ofInt 2) p3 (Int64.ofNat 0) X w39 X38 ∧ v = p3 ∧ X' = X38) else (∃ (w35 : Unit) (X34 : fx_X), gx_27 (Int32.ofInt 4) p3 y5 X w35 X34 ∧ v = y4 ∧ X' = X34)) : cx_nb X f m p3 a e e y5 v X' := by
  have hs : (y4 - p3).toInt = (e : Int) - a := by
    rw [fx_sub (by omega) (by omega), h4, h3]
  unfold cx_nb
  rw [Nat.sub_self]
  split at g
  · obtain ⟨_, X1, g, rfl, rfl⟩ := g
    rw [if_pos (by omega)]
    exact ⟨rfl, cx_27 hm h g⟩
  · obtain ⟨_, X1, g, rfl, rfl⟩ := g
    rw [if_neg (by omega)]
    exact ⟨h4, cx_27 hm h g⟩
theorem cx_29l (hX : cx_S X) (hm : (X.1 78 3).toInt = (m : Int)) (h : m < 1002) (h2 : p2.toInt = (N : Int)) (hN : N ≤ 4000) (h3 : p3.toInt = (a : Int)) : ∀ (n k : Nat) (y4 : Int32) (y5 : Int64), y4.toInt = (k : Int) → a ≤ k → k ≤ N → gxF_29 p2 p3 n 6 [y4] [y5] [] X v X' → ∃ e, md_end md_dig (X.1 53) N k e ∧ e ≤ N ∧ cx_nb X (X.1 53) m p3 a k e y5 v X' := by
  have hA : (Int32.ofNat (X.2.2.2.1 53).2).toInt = 4000 := by
    rw [hX.1]
    rfl
  intro n
  induction n with
  | zero => intro k y4 y5 _ _ _ g; exact g.elim
  | succ n ih =>
    intro k y4 y5 hk hak hkN g
    replace g := gxO_29_6 g
    unfold gxT_29_6 at g
    by_cases q1 : k < N
    · rw [if_pos (by omega), if_pos (by omega)] at g
      obtain ⟨-, w2, X2, r2, g⟩ := g
      obtain ⟨rfl, hw2⟩ := cx_26 r2
      rw [fx_in hk] at hw2 g
      by_cases q3 : 48 ≤ (X.1 53 k).toInt ∧ (X.1 53 k).toInt ≤ 57
      · rw [if_pos q3] at hw2
        subst hw2
        rw [if_neg (by decide)] at g
        obtain ⟨-, y6, rfl, y7, rfl, g⟩ := g
        have hy : (y4 + Int32.ofInt 1).toInt = ((k + 1 : Nat) : Int) := by
          rw [fx_add (by rw [hk]; show -2147483648 ≤ (k : Int) + 1; omega) (by rw [hk]; show (k : Int) + 1 ≤ 2147483647; omega), hk]
          rfl
        obtain ⟨e, e1, e2, e3⟩ := ih (k + 1) _ _ hy (by omega) (by omega) g
        refine ⟨e, ⟨by have := e1.1; omega, fun i hi hie => ?_, e1.2.2⟩, e2, ?_⟩
        · by_cases z : i = k
          · subst z
            exact ⟨q1, q3⟩
          · exact e1.2.1 i (by omega) hie
        · unfold cx_nb at e3 ⊢
          have hek := e1.1
          rw [show e - k = (e - (k + 1)) + 1 by omega]
          exact e3
      · rw [if_neg q3] at hw2
        subst hw2
        rw [if_pos (by decide)] at g
        refine ⟨k, ⟨Nat.le_refl _, fun i h1 h2 => absurd h2 (by omega), fun z => q3 z.2⟩, hkN, ?_⟩
        exact cx_29t hm h h3 hk hak (by omega) g
    · rw [if_neg (by omega)] at g
      refine ⟨k, ⟨Nat.le_refl _, fun i h1 h2 => absurd h2 (by omega), fun z => q1 z.1⟩, hkN, ?_⟩
      exact cx_29t hm h h3 hk hak (by omega) g
theorem cx_29 (hX : cx_S X) (hm : (X.1 78 3).toInt = (m : Int)) (h : m < 1002) (h2 : p2.toInt = (N : Int)) (hN : N ≤ 4000) (h3 : p3.toInt = (a : Int)) (haN : a ≤ N) (g : gx_29 p2 p3 X v X') : ∃ e, md_end md_dig (X.1 53) N a e ∧ e ≤ N ∧ cx_nb X (X.1 53) m p3 a a e (Int64.ofNat 0) v X' := by
  obtain ⟨n, g⟩ := g
  exact cx_29l hX hm h h2 hN h3 n a p3 _ h3 (Nat.le_refl _) haN g
/-- one token at k: its kind, where it ends (k: it is none), what it says -/
def md_bh (f : Nat → Int32) (N k : Nat) : Int := if k + 1 < N then (f (k + 1)).toInt else 0
def md_one (f : Nat → Int32) (N k : Nat) (kd : Int) (nx : Nat) (w : Int64) : Prop :=
  (md_let (f k).toInt ∧ ∃ e, md_end md_ld f N k e ∧ (if 8 < e - k then kd = 2 ∧ nx = k ∧ w = Int64.ofNat 0 else kd = md_wd md_ws (md_pk f (e - k) k (Int64.ofNat 0)) 0 ∧ nx = e ∧ w = md_pk f (e - k) k (Int64.ofNat 0))) ∨
  (md_dig (f k).toInt ∧ ∃ e, md_end md_dig f N k e ∧ (if 4 < e - k then kd = 2 ∧ nx = k ∧ w = Int64.ofNat 0 else kd = 4 ∧ nx = e ∧ w = md_nu f (e - k) k (Int64.ofNat 0))) ∨
  (¬ md_ld (f k).toInt ∧ w = Int64.ofNat 0 ∧ (if (f k).toInt = 46 ∧ md_bh f N k = 46 then kd = 5 ∧ nx = k + 2 else if md_bh f N k = 61 ∧ (f k).toInt = 33 then kd = 6 ∧ nx = k + 2 else if md_bh f N k = 61 ∧ (f k).toInt = 60 then kd = 7 ∧ nx = k + 2 else if (f k).toInt ∈ md_sg then kd = (f k).toInt ∧ nx = k + 1 else kd = 2 ∧ nx = k))
theorem cx_23s (hm : (X.1 78 3).toInt = (m : Int)) (h : m < 1002) (h3 : p3.toInt = (a : Int)) (ha : a < 4000) {y4 y5 : Int32} {P : Nat → List Int32 → List Int64 → List Nat → fx_X → Int32 → fx_X → Prop} (g : gxT_23_98 p2 p3 P y4 y5 X v X') (h46 : ¬ (y4.toInt = 46 ∧ y5.toInt = 46)) : ∃ (kd : Int32) (nx : Nat), v.toInt = (nx : Int) ∧ X' = cx_tk X m kd p3 (Int64.ofNat 0) ∧ (if y4.toInt = 46 ∧ y5.toInt = 46 then kd.toInt = 5 ∧ nx = a + 2 else if y5.toInt = 61 ∧ y4.toInt = 33 then kd.toInt = 6 ∧ nx = a + 2 else if y5.toInt = 61 ∧ y4.toInt = 60 then kd.toInt = 7 ∧ nx = a + 2 else if y4.toInt ∈ md_sg then kd.toInt = y4.toInt ∧ nx = a + 1 else kd.toInt = 2 ∧ nx = a) := by
  have a2 : (p3 + Int32.ofInt 2).toInt = ((a + 2 : Nat) : Int) := by
    rw [fx_add (by rw [h3]; show -2147483648 ≤ (a : Int) + 2; omega) (by rw [h3]; show (a : Int) + 2 ≤ 2147483647; omega), h3]
    rfl
  have a1 : (p3 + Int32.ofInt 1).toInt = ((a + 1 : Nat) : Int) := by
    rw [fx_add (by rw [h3]; show -2147483648 ≤ (a : Int) + 1; omega) (by rw [h3]; show (a : Int) + 1 ≤ 2147483647; omega), h3]
    rfl
  have sg : ∀ {X1 : fx_X} {w : Int32}, gx_30 y4 X w X1 → ¬ (y5.toInt = 61 ∧ y4.toInt = 33) → ¬ (y5.toInt = 61 ∧ y4.toInt = 60) → (if w.toInt = 0 then (∃ (w73 : Unit) (X72 : fx_X), gx_27 (Int32.ofInt 2) p3 (Int64.ofNat 0) X1 w73 X72 ∧ v = p3 ∧ X' = X72) else (∃ (w71 : Unit) (X70 : fx_X), gx_27 y4 p3 (Int64.ofNat 0) X1 w71 X70 ∧ v = (p3 + (Int32.ofInt 1)) ∧ X' = X70)) → ∃ (kd : Int32) (nx : Nat), v.toInt = (nx : Int) ∧ X' = cx_tk X m kd p3 (Int64.ofNat 0) ∧ (if y4.toInt = 46 ∧ y5.toInt = 46 then kd.toInt = 5 ∧ nx = a + 2 else if y5.toInt = 61 ∧ y4.toInt = 33 then kd.toInt = 6 ∧ nx = a + 2 else if y5.toInt = 61 ∧ y4.toInt = 60 then kd.toInt = 7 ∧ nx = a + 2 else if y4.toInt ∈ md_sg then kd.toInt = y4.toInt ∧ nx = a + 1 else kd.toInt = 2 ∧ nx = a) := by
    intro X1 w r n1 n2 g
    obtain ⟨rfl, hw⟩ := cx_30 r
    by_cases q : y4.toInt ∈ md_sg
    · rw [if_pos q] at hw
      subst hw
      rw [if_neg (by decide)] at g
      obtain ⟨_, X2, g, rfl, rfl⟩ := g
      refine ⟨y4, a + 1, a1, cx_27 hm h g, ?_⟩
      rw [if_neg h46, if_neg n1, if_neg n2, if_pos q]
      exact ⟨rfl, rfl⟩
    · rw [if_neg q] at hw
      subst hw
      rw [if_pos (by decide)] at g
      obtain ⟨_, X2, g, rfl, rfl⟩ := g
      refine ⟨Int32.ofInt 2, a, h3, cx_27 hm h g, ?_⟩
      rw [if_neg h46, if_neg n1, if_neg n2, if_neg q]
      exact ⟨rfl, rfl⟩
  unfold gxT_23_98 at g
  by_cases q1 : y5.toInt = 61
  · rw [if_pos q1] at g
    by_cases q2 : y4.toInt = 33
    · rw [if_pos q2, if_pos q2] at g
      obtain ⟨_, X2, g, rfl, rfl⟩ := g
      refine ⟨_, a + 2, a2, cx_27 hm h g, ?_⟩
      rw [if_neg h46, if_pos ⟨q1, q2⟩]
      exact ⟨rfl, rfl⟩
    · rw [if_neg q2] at g
      by_cases q3 : y4.toInt = 60
      · rw [if_pos q3, if_neg q2] at g
        obtain ⟨_, X2, g, rfl, rfl⟩ := g
        refine ⟨_, a + 2, a2, cx_27 hm h g, ?_⟩
        rw [if_neg h46, if_neg (fun z => q2 z.2), if_pos ⟨q1, q3⟩]
        exact ⟨rfl, rfl⟩
      · rw [if_neg q3] at g
        obtain ⟨w, X1, r, g⟩ := g
        exact sg r (fun z => q2 z.2) (fun z => q3 z.2) g
  · rw [if_neg q1] at g
    obtain ⟨w, X1, r, g⟩ := g
    exact sg r (fun z => q1 z.1) (fun z => q1 z.1) g
end CX1
