/-! THE REFERENCE: what a text has told so far -/
/-- the values of an UNKNOWN that is being told -/
def rx_L (P : md_P) (X : fx_X) (n : Nat) (vs : List Int32) : Prop := (X.1 120 (8 * rp_h P + n)).toInt = (vs.length : Int) ∧ (1 ≤ vs.length ∧ vs.length ≤ 64) ∧ ∀ i v, vs[i]? = some v → X.1 121 (64 * (8 * rp_h P + n) + i) = v
def rx_cl (X : fx_X) (slot : Nat) (cs : List Int64) : Prop := (X.1 132 slot).toInt = (cs.length : Int) ∧ cs.length ≤ 6 ∧ ∀ c n, cs[c]? = some n → X.2.1 133 (8 * slot + c) = n
def rx_T1 (P : md_P) (X : fx_X) (t : Nat) (x : Int64 × Bool × List Int64) : Prop := X.2.1 125 (10 * rp_h P + t) = x.1 ∧ (X.1 126 (10 * rp_h P + t)).toInt = (if x.2.1 = true then 1 else 0) ∧ rx_cl X (10 * rp_h P + t) x.2.2
def rx_TB (P : md_P) (X : fx_X) (TB : md_TB) (nm : md_Nm) : Prop := (X.1 124 (rp_h P)).toInt = (TB.length : Int) ∧ TB.length ≤ 10 ∧ (∀ t x, TB[t]? = some x → rx_T1 P X t x) ∧ (TB.map (·.1)).Nodup ∧ nm.map (·.1) = TB.map (·.1) ∧ ∀ t x k, TB[t]? = some x → nm[t]? = some k → x.2.1 = false → (X.1 131 (10 * rp_h P + t)).toInt = k.2.toInt ∧ 0 ≤ k.2.toInt ∧ k.2.toInt ≤ 30
def rx_tm (X : fx_X) (k : Nat) (t : md_Tm) : Prop := (X.1 134 k).toInt = (if t.1 = true then 1 else 0) ∧ X.1 135 k = t.2
def rx_Rw (P : md_P) (X : fx_X) (m slot : Nat) (A : List md_Row) : Prop := (X.1 131 slot).toInt = (A.length : Int) ∧ ∀ r x, A[r]? = some x → (∀ c t, x.1[c]? = some t → rx_tm X (8 * (30 * slot + r) + c) t) ∧ ∀ w, w < rp_W P → fx_bt (X.1 136) (32 * (30 * slot + r)) (w / m) = x.2 w
def md_ptw (w : md_WS) : List (Nat → Bool) := w.2.2.2.2.2.1
def rx_pt (P : md_P) (X : fx_X) (m : Nat) (pt : List (Nat → Bool)) : Prop := (X.1 127 (rp_h P)).toInt = (pt.length : Int) ∧ pt.length ≤ 20 ∧ ∀ p f, pt[p]? = some f → ∀ w, w < rp_W P → fx_bt (X.1 129) (32 * (20 * rp_h P + p)) (w / m) = f w
def rx_WT (P : md_P) (X : fx_X) (cs : md_CS) (ws : md_WS) : Prop := ws.1.length = cs.2.2.1.length ∧ (∀ t A x, ws.1[t]? = some A → cs.2.2.1[t]? = some x → rx_Rw P X (md_m P cs.1) (10 * rp_h P + t) A ∧ md_okA cs.1.length x.2.2.length A) ∧ rx_pt P X (md_m P cs.1) (md_ptw ws)
def rx_TT (P : md_P) (X : fx_X) (cs : md_CS) (ws : md_WS) (nm : md_Nm) : Prop := rx_U P X cs.1 ∧ rx_V P X cs.1 ∧ rx_TB P X cs.2.2.1 nm ∧ (rp_b P = true → rx_WT P X cs ws)
def rx_T (P : md_P) (X : fx_X) (j : Nat) (c : md_C) (cs : md_CS) (ws : md_WS) (nm : md_Nm) : Prop := rx_G P X j c ∧ rx_TT P X cs ws nm ∧ ((c 14).toInt = 0 ∧ (c 8).toInt = (cs.1.length : Int)) ∧ cs.2.2.2.2.1 = [] ∧ (rp_b P = true → md_tr ws = [] ∧ ws.2.1 = [] ∧ ((md_ptw ws).length : Int) = (c 11).toInt)
/-- what is worked out ends the text -/
def rx_Y (P : md_P) (v : Int32) (X : fx_X) : Prop := v = Int32.ofInt 0 ∧ (rp_b P = true ∧ rp_r P = some none) ∧ (X.1 117 24).toInt ≠ 0
/-- behind a statement -/
def rx_PT (P : md_P) (K : List md_Sy) (v : Int32) (X : fx_X) : Prop := (rx_X P v X ∨ rx_Y P v X) ∨ (v = Int32.ofInt 1 ∧ (rx_B P X ∨ ∃ l j near c nm cs ws, rx_T P X j c cs ws nm ∧ md_R P ((130, l) :: K) j near c nm (cs, ws)))
section DD12
variable {P : md_P} {X X' : fx_X} {c : md_C} {nm : md_Nm} {cs : md_CS} {ws : md_WS} {j j' m slot n : Nat} {F L : List (Nat × Nat)} {A : List Nat} {TB : md_TB} {vs : List Int32} {l8 : List Int64}
theorem rx_cl_fr (h : rx_cl X slot l8) (e1 : X'.1 132 = X.1 132) (e2 : X'.2.1 133 = X.2.1 133) : rx_cl X' slot l8 := by
  unfold rx_cl
  rw [e1, e2]
  exact h
abbrev rx_tl : List Nat := [118, 119, 120, 121, 122, 123, 124, 125, 126, 127, 129, 131, 132, 133, 134, 135, 136]
theorem rx_TT_fr (h : rx_TT P X cs ws nm) (hf : fy F L A X X') (hA : ∀ a, a ∈ A → a ∉ rx_tl) (hF : (∀ q, q ∈ F → q.1 < 118) ∧ ∀ q, q ∈ L → q.1 < 118) : rx_TT P X' cs ws nm := by
  have e : ∀ r, r ∈ rx_tl → X'.1 r = X.1 r := fun r hr => fy_ra hf (fun z => hA r z hr) (fun q hq => by
    have := hF.1 q hq
    have : ∀ r, r ∈ rx_tl → 118 ≤ r := by decide
    have := this r hr
    omega)
  have e2 : ∀ r, r ∈ rx_tl → X'.2.1 r = X.2.1 r := fun r hr => fy_rl hf (fun z => hA r z hr) (fun q hq => by
    have := hF.2 q hq
    have : ∀ r, r ∈ rx_tl → 118 ≤ r := by decide
    have := this r hr
    omega)
  obtain ⟨h1, h2, h3, h4⟩ := h
  refine ⟨?_, ?_, ?_, fun hb => ?_⟩
  · unfold rx_U
    rw [e 118 (by decide), e 120 (by decide), e 121 (by decide), e 122 (by decide), e2 119 (by decide)]
    exact h1
  · unfold rx_V
    rw [e 123 (by decide)]
    exact h2
  · unfold rx_TB rx_T1 rx_cl
    rw [e 124 (by decide), e 126 (by decide), e 131 (by decide), e 132 (by decide), e2 125 (by decide), e2 133 (by decide)]
    exact h3
  · unfold rx_WT rx_Rw rx_tm rx_pt
    rw [e 131 (by decide), e 134 (by decide), e 135 (by decide), e 136 (by decide), e 127 (by decide), e 129 (by decide)]
    exact h4 hb
theorem rx_L_fr (h : rx_L P X n vs) (e1 : X'.1 120 = X.1 120) (e2 : X'.1 121 = X.1 121) : rx_L P X' n vs := by
  unfold rx_L
  rw [e1, e2]
  exact h
/-- numbers of tokens are small -/
theorem md_n3_le {f : Nat → Int32} : ∀ (l a : Nat) (v : Int32) (B : Int), 0 ≤ v.toInt → v.toInt ≤ B → (B + 1) * 10 ^ l ≤ 1000000 → (∀ i, a ≤ i → i < a + l → md_dig (f i).toInt) → 0 ≤ (md_n3 f l a v).toInt ∧ (md_n3 f l a v).toInt ≤ (B + 1) * 10 ^ l - 1
  | 0, _, v, B, h1, h2, _, _ => ⟨h1, by rw [Int.pow_zero]; show v.toInt ≤ _; omega⟩
  | l + 1, a, v, B, h1, h2, h3, h4 => by
    have hd := h4 a (Nat.le_refl _) (by omega)
    unfold md_dig at hd
    have e10 : ((Int8.ofInt 10).toInt32).toInt = 10 := rfl
    have e48 : ((Int8.ofInt 48).toInt32).toInt = 48 := rfl
    have hp : (1 : Int) ≤ 10 ^ l := Int.pow_pos (by decide)
    have hB : B + 1 ≤ 1000000 := by
      have e : (B + 1) * 10 ^ (l + 1) = (B + 1) * (10 ^ l * 10) := by rw [Int.pow_succ]
      rw [e] at h3
      have h5 : (B + 1) * 1 ≤ (B + 1) * (10 ^ l * 10) := Int.mul_le_mul_of_nonneg_left (by omega) (by omega)
      omega
    have m1 : (((Int8.ofInt 10).toInt32) * v).toInt = 10 * v.toInt := by rw [fx_mul (by rw [e10]; omega) (by rw [e10]; omega), e10]
    have m2 : (((Int8.ofInt 10).toInt32) * v + f a).toInt = 10 * v.toInt + (f a).toInt := by rw [fx_add (by omega) (by omega), m1]
    have m3 : (((Int8.ofInt 10).toInt32) * v + f a - ((Int8.ofInt 48).toInt32)).toInt = 10 * v.toInt + (f a).toInt - 48 := by rw [fx_sub (by omega) (by omega), m2, e48]
    have e : (B + 1) * 10 ^ (l + 1) = (10 * B + 9 + 1) * 10 ^ l := by
      rw [Int.pow_succ, show (10 * B + 9 + 1 : Int) = (B + 1) * 10 by omega, Int.mul_assoc, Int.mul_comm 10 (10 ^ l)]
    rw [e] at h3 ⊢
    exact md_n3_le l (a + 1) _ (10 * B + 9) (by omega) (by omega) h3 (fun i i1 i2 => h4 i (by omega) (by omega))
theorem md_one_4 {f : Nat → Int32} {N b nx : Nat} {w : Int64} (ho : md_one f N b 4 nx w) : 0 ≤ w.toInt32.toInt ∧ w.toInt32.toInt ≤ 9999 := by
  have e := md_nu_at ho
  rcases ho with ⟨-, e', a2, a3⟩ | ⟨-, e', a2, a3⟩ | ⟨-, -, a3⟩
  · exfalso
    split at a3
    · omega
    · have : ∀ w : Int64, md_wd md_ws w 0 = 3 ∨ 10 ≤ md_wd md_ws w 0 := by
        intro w
        have gen : ∀ (l : List Int64) (i : Nat), md_wd l w i = 3 ∨ 10 ≤ md_wd l w i := by
          intro l
          induction l with
          | nil => intro i; exact Or.inl rfl
          | cons x l ih =>
            intro i
            unfold md_wd
            split
            · right; omega
            · exact ih _
        exact gen md_ws 0
      rcases this (md_pk f (e' - b) b (Int64.ofNat 0)) with y | y <;> omega
  · by_cases y : 4 < e' - b
    · rw [if_pos y] at a3; omega
    · rw [if_neg y] at a3
      rw [e]
      have hl : nx - b ≤ 4 := by omega
      have hnx := a3.2.1
      have key : ∀ l : Fin 5, (0 + 1 : Int) * 10 ^ l.val ≤ 10000 := by decide
      have k1 := key ⟨nx - b, by omega⟩
      dsimp only at k1
      have := md_n3_le (f := f) (nx - b) b (Int32.ofInt 0) 0 (by decide) (by decide) (by omega) (fun i i1 i2 => (a2.2.1 i i1 (by have := a2.1; omega)).2)
      omega
  · exfalso
    split at a3
    · omega
    · split at a3
      · omega
      · split at a3
        · omega
        · split at a3
          · rename_i y
            rw [← a3.1] at y
            exact absurd y (by decide)
          · omega
theorem md_lst_4 {f : Nat → Int32} {N : Nat} : ∀ (L : List (Int × Nat × Int64)) (k m i : Nat) (x : Int × Nat × Int64), md_lst f N k m L → L[i]? = some x → x.1 = 4 → 0 ≤ x.2.2.toInt32.toInt ∧ x.2.2.toInt32.toInt ≤ 9999
  | [], _, _, _, _, h, _, _ => h.elim
  | t :: L, k, m, i, x, h, hx, h4 => by
    obtain ⟨b, -, h⟩ := h
    by_cases hb : b = N
    · rw [if_pos hb] at h
      cases i with
      | zero =>
        cases hx
        rw [h.1] at h4
        exact absurd h4 (by show ¬ (1 : Int) = 4; decide)
      | succ i =>
        rw [h.2] at hx
        cases hx
    · rw [if_neg hb] at h
      obtain ⟨nx, ho, -, hr⟩ := h
      cases i with
      | zero =>
        cases hx
        rw [h4] at ho
        exact md_one_4 ho
      | succ i =>
        have hx : L[i]? = some x := hx
        split at hr
        · rw [hr] at hx
          cases i with
          | zero => cases hx; exact absurd h4 (by show ¬ (1 : Int) = 4; decide)
          | succ i => cases hx
        · exact md_lst_4 L nx (m + 1) i x hr hx h4
theorem rx_it (h : rx_at P X j) (hw : rx_wh P j j') : -9999 ≤ (md_it (rp_T P) j).toInt ∧ (md_it (rp_T P) j).toInt ≤ 9999 := by
  obtain ⟨k, b, L, h1, h2, -, -, -⟩ := h
  have hL : L ≠ [] := fun z => by rw [z] at h1; exact h1
  obtain ⟨t, L', rfl⟩ : ∃ t L', L = t :: L' := by
    cases L with
    | nil => exact absurd rfl hL
    | cons t L' => exact ⟨t, L', rfl⟩
  have t0 := h2 0 t rfl
  rw [Nat.add_zero] at t0
  unfold md_it
  rcases hw with ⟨w1, w2, w3⟩ | ⟨w1, w2, w3, w4⟩
  · rw [if_pos (by omega), if_neg (by omega), t0.2]
    have := md_lst_4 _ k j 0 t h1 rfl (by rw [← t0.1]; exact w1)
    omega
  · rw [if_pos (by omega), if_pos w1, Int64.toInt32_neg]
    have key : ∃ x, L'[0]? = some x := by
      obtain ⟨b, -, h1⟩ := h1
      by_cases hb : b = rp_N P
      · rw [if_pos hb] at h1
        rw [t0.1, h1.1] at w1
        exact absurd w1 (by show ¬ (1 : Int) = 45; decide)
      · rw [if_neg hb] at h1
        obtain ⟨nx, -, -, hr⟩ := h1
        split at hr
        · rw [hr]; exact ⟨_, rfl⟩
        · cases L' with
          | nil => exact hr.elim
          | cons y L' => exact ⟨y, rfl⟩
    obtain ⟨x, hx⟩ := key
    have t1 := h2 1 x hx
    have := md_lst_4 _ k j 1 x h1 hx (by rw [← t1.1]; exact w2)
    rw [t1.2]
    have hn : (-x.2.2.toInt32).toInt = -x.2.2.toInt32.toInt := by
      have e : -x.2.2.toInt32 = Int32.ofInt 0 - x.2.2.toInt32 := by
        rw [Int32.sub_eq_add_neg]
        exact (Int32.zero_add _).symm
      have e0 : (Int32.ofInt 0).toInt = 0 := rfl
      rw [e, fx_sub (by omega) (by omega), e0]
      omega
    omega
end DD12
