/-! THE CLASS'S WORKER: PARTS and what the WORLDS hold -/
def md_br (pt : List (Nat → Bool)) (w p : Nat) : Bool := match pt[p]? with
  | some f => !f w
  | none => false
/-- what is left of a WORLD's number behind the last UNKNOWNS -/
def md_no : md_U → Nat → Nat
  | [], w => w
  | x :: U, w => md_no U w / x.2.length
def md_val (U : md_U) : md_V := fun w u => match U[u]? with
  | some x => x.2.getD (md_no (U.drop (u + 1)) w % x.2.length) (Int32.ofInt 0)
  | none => Int32.ofInt 0
section CX42
variable {X X' X0 X1 : fx_X} {v p p0 p1 p2 p3 p4 : Int32} {u : Unit} {sr r r' rs W n i j c w m k : Nat} {val : md_V} {pt : List (Nat → Bool)} {f : Nat → Bool} {U : md_U}
theorem md_br_app : md_br (pt ++ [f]) w i = if i = pt.length then !f w else md_br pt w i := by
  unfold md_br
  by_cases z : i = pt.length
  · subst z
    rw [if_pos rfl, List.getElem?_append_right (Nat.le_refl _), Nat.sub_self]; rfl
  · rw [if_neg z]
    by_cases y : i < pt.length
    · rw [List.getElem?_append_left y]
    · have e1 : (pt ++ [f])[i]? = none := List.getElem?_eq_none (by rw [List.length_append]; show pt.length + 1 ≤ i; omega)
      have e2 : pt[i]? = none := List.getElem?_eq_none (by omega)
      rw [e1, e2]
/-- only what is broken changes -/
def cx_bf (sr : Nat) (X X' : fx_X) : Prop := X'.2 = X.2 ∧ ∀ q k, q ≠ sr + 5 → X'.1 q k = X.1 q k
theorem cx_148l {X0 : fx_X} (hs : sr = 54 ∨ sr = 66) (hW : W ≤ 1024) (h13 : (X0.1 sr 13).toInt = (W : Int)) (hpt : cx_pt X0 sr W pt) (hlt : pt.length < 20) (ht : ∀ w, w < W → fx_ib (X0.1 106 w) 0 = f w) : ∀ (q k : Nat) (y2 : Int32) (X : fx_X), y2.toInt = (k : Int) → k ≤ W → cx_bf sr X0 X → (∀ w p, w < W → p < 32 → fx_ib (X.1 (sr + 5) w) p = md_br (if w < k then pt ++ [f] else pt) w p) → gxF_148 sr q 12 [y2] [] [] X u X' → cx_pt X' sr W (pt ++ [f]) ∧ cx_hd X' sr (md_hl W (pt ++ [f])) ∧ X'.2 = X0.2 ∧ ∀ q k, q ≠ sr + 5 → q ≠ sr + 6 → ¬ (q = sr ∧ (k = 14 ∨ k = 15)) → X'.1 q k = X0.1 q k := by
  intro q
  induction q with
  | zero => intro k y2 X _ _ _ _ g; exact g.elim
  | succ q ih =>
    intro k y2 X hk hkl hb hB g
    replace g := gxO_148_12 g
    unfold gxT_148_12 at g
    have h13' : (X.1 sr 13).toInt = (W : Int) := by rw [hb.2 _ _ (by omega)]; exact h13
    have h15 : (X.1 sr 15).toInt = (pt.length : Int) := by rw [hb.2 _ _ (by omega)]; exact hpt.1
    by_cases z : k < W
    · rw [if_pos (by omega), if_pos (by omega)] at g
      obtain ⟨w14, X13, r1, g⟩ := g
      obtain ⟨rfl, rfl⟩ := cx_147 (f := f) (fun w hw => by rw [hb.2 _ _ (by omega)]; exact ht w hw) hW z hk r1
      cases hf : f k with
      | true =>
        rw [hf, if_neg (by decide)] at g
        obtain ⟨x16, rfl, g⟩ := g
        refine ih (k + 1) _ X (cx_inc hk (by omega)) (by omega) hb (fun w p hw hp => ?_) g
        rw [hB w p hw hp]
        by_cases y : w = k
        · subst y
          rw [if_neg (by omega), if_pos (by omega), md_br_app, hf]
          by_cases yy : p = pt.length
          · subst yy
            rw [if_pos rfl]
            unfold md_br
            rw [List.getElem?_eq_none (Nat.le_refl _)]; rfl
          · rw [if_neg yy]
        · by_cases yy : w < k
          · rw [if_pos yy, if_pos (by omega)]
          · rw [if_neg yy, if_neg (by omega)]
      | false =>
        rw [hf, if_pos (by decide), fx_in hk] at g
        obtain ⟨-, -, X21, rfl, x22, rfl, g⟩ := g
        refine ih (k + 1) _ (fx_wI X (sr + 5) k (X.1 (sr + 5) k ||| Int32.ofInt 1 <<< (X.1 sr 15 &&& 31))) (cx_inc hk (by omega)) (by omega) ⟨hb.1, fun q j hq => by rw [fx_rIn hq]; exact hb.2 q j hq⟩ (fun w p hw hp => ?_) g
        by_cases y : w = k
        · subst y
          rw [fx_rIe, fx_ib_put h15 (by omega) hp, hB w p hw hp, if_neg (by omega), if_pos (by omega), md_br_app, hf]
          by_cases yy : p = pt.length
          · rw [if_pos yy]; simp [yy]
          · rw [if_neg yy]; simp [yy]
        · rw [fx_rIk y, hB w p hw hp]
          by_cases yy : w < k
          · rw [if_pos yy, if_pos (by omega)]
          · rw [if_neg yy, if_neg (by omega)]
    · rw [if_neg (by omega)] at g
      have e : k = W := by omega
      subst e
      obtain ⟨X5, rfl, w7, X6, r1, rfl⟩ := g
      have hpt' : cx_pt (fx_wI X sr 15 (X.1 sr 15 + Int32.ofInt 1)) sr k (pt ++ [f]) := by
        refine ⟨by rw [fx_rIe, cx_inc h15 (by omega), List.length_append]; rfl, by rw [List.length_append]; show pt.length + 1 ≤ 20; omega, fun w p hw hp => ?_⟩
        rw [fx_rIn (by omega), hB w p hw hp, if_pos hw]
        rfl
      obtain ⟨a1, a2, a3⟩ := cx_hold hs hW (by rw [fx_rIk (by decide)]; exact h13') hpt' r1
      refine ⟨?_, a1, by rw [a2]; exact hb.1, fun q j h1 h2 h3 => ?_⟩
      · refine ⟨by rw [a3 _ _ (by omega) (by omega)]; exact hpt'.1, hpt'.2.1, fun w p hw hp => by rw [a3 _ _ (by omega) (by omega)]; exact hpt'.2.2 w p hw hp⟩
      · rw [a3 _ _ h2 (by omega), fx_rI, if_neg (by omega), hb.2 _ _ h1]
theorem cx_148 (hs : sr = 54 ∨ sr = 66) (hW : W ≤ 1024) (h13 : (X.1 sr 13).toInt = (W : Int)) (hpt : cx_pt X sr W pt) (hlt : pt.length < 20) (ht : ∀ w, w < W → fx_ib (X.1 106 w) 0 = f w) (g : gx_148 sr X u X') : cx_pt X' sr W (pt ++ [f]) ∧ cx_hd X' sr (md_hl W (pt ++ [f])) ∧ X'.2 = X.2 ∧ ∀ q k, q ≠ sr + 5 → q ≠ sr + 6 → ¬ (q = sr ∧ (k = 14 ∨ k = 15)) → X'.1 q k = X.1 q k := by
  obtain ⟨q, g⟩ := g
  have h15 := hpt.1
  unfold gxE_148 at g
  rw [if_pos (by omega)] at g
  exact cx_148l hs hW h13 hpt hlt ht q 0 _ X rfl (Nat.zero_le _) ⟨rfl, fun _ _ _ => rfl⟩ (fun w p hw hp => by rw [if_neg (Nat.not_lt_zero w)]; exact hpt.2.2 w p hw hp) g
/-! whole numbers divided -/
theorem fx_div {a b : Int32} {m n : Nat} (ha : a.toInt = (m : Int)) (hb : b.toInt = (n : Int)) (hm : m ≤ 1000000) : (a / b).toInt = ((m / n : Nat) : Int) := by
  rw [Int32.toInt_div, ha, hb]
  have e : (m : Int).tdiv (n : Int) = ((m / n : Nat) : Int) := rfl
  have := Nat.div_le_self m n
  rw [e]
  generalize m / n = d at this ⊢
  apply Int.bmod_eq_of_le <;> omega
theorem fx_rem {a b : Int32} {m n : Nat} (ha : a.toInt = (m : Int)) (hb : b.toInt = (n : Int)) (hm : m ≤ 1000000) : (a - a / b * b).toInt = ((m % n : Nat) : Int) := by
  have h1 := fx_div ha hb hm
  have h2 := Nat.div_mul_le_self m n
  have e : ((m / n * n : Nat) : Int) = ((m / n : Nat) : Int) * (n : Int) := Int.natCast_mul _ _
  have h3 : (a / b * b).toInt = ((m / n * n : Nat) : Int) := by
    rw [fx_mul (by rw [h1, hb, ← e]; omega) (by rw [h1, hb, ← e]; omega), h1, hb, e]
  have h4 : m % n = m - m / n * n := by
    have := Nat.div_add_mod m n
    rw [Nat.mul_comm] at this
    omega
  rw [fx_sub (by rw [ha, h3]; omega) (by rw [ha, h3]; omega), ha, h3, h4]
  omega
theorem md_all_pos : ∀ (U : md_U) (a : Nat), 0 < (U.map (fun x => x.2.length)).foldl (· * ·) a → 0 < a ∧ ∀ x, x ∈ U → 0 < x.2.length
  | [], a, h => ⟨h, fun x hx => by cases hx⟩
  | y :: U, a, h => by
    obtain ⟨h1, h2⟩ := md_all_pos U (a * y.2.length) h
    have h3 : 0 < y.2.length := by
      rcases Nat.eq_zero_or_pos y.2.length with e | e
      · rw [e, Nat.mul_zero] at h1; omega
      · exact e
    refine ⟨?_, fun x hx => ?_⟩
    · rcases Nat.eq_zero_or_pos a with e | e
      · rw [e, Nat.zero_mul] at h1; omega
      · exact e
    · rcases List.mem_cons.mp hx with z | z
      · rw [z]; exact h3
      · exact h2 x z
theorem md_no_le : ∀ (U : md_U) (w : Nat), md_no U w ≤ w
  | [], _ => Nat.le_refl _
  | _ :: U, w => Nat.le_trans (Nat.div_le_self _ _) (md_no_le U w)
end CX42
