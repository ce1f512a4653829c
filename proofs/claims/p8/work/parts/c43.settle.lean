/-! THE CLASS'S WORKER: a shelf is settled -/
section CX43
variable {X X' X0 X1 : fx_X} {v p p0 p1 p2 p3 p4 : Int32} {u : Unit} {sr r r' rs W n i j c w m k P : Nat} {val : md_V} {pt : List (Nat → Bool)} {f : Nat → Bool} {U : md_U}
theorem cx_5 {z : Int32} (hi : z.toInt = (i : Int)) (hi5 : i < 512) (h1 : p1.toInt = (w : Int)) (hw : w < 1024) (h2 : p2.toInt = (j : Int)) (hj : j < 8) (g : gx_5 sr p1 p2 z X u X') : X' = fx_wI X (sr + 4) (8 * w + j) (X.1 (sr + 3) i) := by
  obtain ⟨x2, rfl, g⟩ := g
  have h := cx_8 h1 h2 (by omega) (by omega)
  rw [if_neg (by omega), if_pos (by omega), if_neg (by omega), if_pos (by omega), fx_in h, fx_in hi] at g
  obtain ⟨-, -, X14, rfl, rfl⟩ := g
  rfl
/-- the cells of WORLDS from this one on alone -/
def cx_cf (sr w : Nat) (X X' : fx_X) : Prop := X'.2 = X.2 ∧ ∀ q k, ¬ (q = sr + 4 ∧ 8 * w ≤ k) → X'.1 q k = X.1 q k
theorem cx_3u {X0 : fx_X} (hs : sr = 54 ∨ sr = 66) (hw : w < 1024) (h8 : U.length ≤ 8) (h64 : ∀ x, x ∈ U → 0 < x.2.length ∧ x.2.length ≤ 64) (hV : ∀ u x, U[u]? = some x → cx_vs X0 sr u x.2) {y1 : Int32} (h1 : y1.toInt = (w : Int)) : ∀ (i q : Nat) (y2 y3 : Int32) (X : fx_X), i ≤ U.length → y3.toInt = (i : Int) - 1 → y2.toInt = (md_no (U.drop i) w : Int) → cx_cf sr w X0 X → (∀ j, i ≤ j → j < U.length → X.1 (sr + 4) (8 * w + j) = md_val U w j) → gxF_3 sr q 35 [y1, y2, y3] [] [] X u X' → ∃ (X1 : fx_X) (q' : Nat), cx_cf sr w X0 X1 ∧ (∀ j, j < U.length → X1.1 (sr + 4) (8 * w + j) = md_val U w j) ∧ gxF_3 sr q' 2 [y1 + Int32.ofInt 1] [] [] X1 u X' := by
  intro i
  induction i with
  | zero =>
    intro q y2 y3 X _ h3 h2 hf hc g
    cases q with
    | zero => exact g.elim
    | succ q =>
      replace g := gxO_3_35 g
      unfold gxT_3_35 at g
      rw [if_pos (by omega)] at g
      obtain ⟨x17, rfl, g⟩ := g
      exact ⟨X, q, hf, fun j hj => hc j (Nat.zero_le _) hj, g⟩
  | succ i ih =>
    intro q y2 y3 X hi h3 h2 hf hc g
    cases q with
    | zero => exact g.elim
    | succ q =>
      replace g := gxO_3_35 g
      unfold gxT_3_35 at g
      have h3' : y3.toInt = (i : Int) := by omega
      rw [if_neg (by omega)] at g
      obtain ⟨w20, X19, r1, g⟩ := g
      obtain ⟨rfl, rfl⟩ := cx_4 h3' (by omega) r1
      obtain ⟨x, hx⟩ : ∃ x, U[i]? = some x := ⟨U[i], List.getElem?_eq_getElem (by omega)⟩
      have hxm := List.mem_of_getElem? hx
      obtain ⟨l0, l64⟩ := h64 x hxm
      obtain ⟨v1, v2⟩ := hV i x hx
      have e1 : (X.1 (sr + 2) i).toInt = (x.2.length : Int) := by rw [hf.2 _ _ (by omega)]; exact v1
      rw [if_pos (by omega)] at g
      obtain ⟨-, w27, X26, r2, -, x29, rfl, x31, rfl, g⟩ := g
      have hle := md_no_le (U.drop (i + 1)) w
      have hrem := fx_rem h2 e1 (by omega)
      have hml : md_no (U.drop (i + 1)) w % x.2.length < x.2.length := Nat.mod_lt _ l0
      have h64' := cx_64k h3' (by omega)
      have hidx : (y3 * ((Int8.ofInt 64).toInt32) + (y2 - y2 / X.1 (sr + 2) i * X.1 (sr + 2) i)).toInt = ((64 * i + md_no (U.drop (i + 1)) w % x.2.length : Nat) : Int) := by
        generalize md_no (U.drop (i + 1)) w % x.2.length = m at hrem hml ⊢
        clear hc hf hV h64 g v2
        rw [fx_add (by rw [h64', hrem]; omega) (by rw [h64', hrem]; omega), h64', hrem]
        omega
      have e26 := cx_5 hidx (by omega) h1 hw h3' (by omega) r2
      obtain ⟨z, hz⟩ : ∃ z, x.2[md_no (U.drop (i + 1)) w % x.2.length]? = some z := ⟨_, List.getElem?_eq_getElem hml⟩
      have ev : X.1 (sr + 3) (64 * i + md_no (U.drop (i + 1)) w % x.2.length) = md_val U w i := by
        rw [hf.2 _ _ (by omega), v2 _ _ hz]
        unfold md_val
        rw [hx]
        show z = x.2.getD _ _
        rw [List.getD_eq_getElem?_getD, hz]
        rfl
      rw [ev] at e26
      have ed : md_no (U.drop i) w = md_no (U.drop (i + 1)) w / x.2.length := by
        have : U.drop i = x :: U.drop (i + 1) := by
          have := (List.getElem?_eq_some_iff.mp hx)
          rw [List.drop_eq_getElem_cons this.1, this.2]
        rw [this]; rfl
      have hdec : (y3 + Int32.ofInt (-1)).toInt = (i : Int) - 1 := by
        have e : (Int32.ofInt (-1)).toInt = -1 := by decide
        rw [fx_add (by rw [h3', e]; omega) (by rw [h3', e]; omega), h3', e]; omega
      have hi' : i ≤ U.length := Nat.le_of_succ_le hi
      have hn2 : (y2 / X.1 (sr + 2) i).toInt = (md_no (U.drop i) w : Int) := by rw [fx_div h2 e1 (Nat.le_trans hle (Nat.le_of_lt (Nat.lt_trans hw (by decide)))), ed]
      clear hrem hml h64' hidx ev ed hle h2 hz l0 l64 e1 v1 v2
      refine ih q _ _ X26 hi' hdec hn2 ?_ (fun j hj hjl => ?_) g
      · rw [e26]
        refine ⟨hf.1, fun q j hq => ?_⟩
        have : ¬ (q = sr + 4 ∧ j = 8 * w + i) := fun z => hq ⟨z.1, by rw [z.2]; exact Nat.le_add_right _ _⟩
        rw [fx_rI, if_neg this]; exact hf.2 q j hq
      · rw [e26]
        by_cases y : j = i
        · rw [y, fx_rIe]
        · have y' : 8 * w + j ≠ 8 * w + i := fun z => y (Nat.add_left_cancel z)
          rw [fx_rIk y']; exact hc j (Nat.lt_of_le_of_ne hj (fun z => y z.symm)) hjl
end CX43
