/-! THE CLASS'S PARSER: its loop runs as the model -/
theorem md_room_14 {s : Int} {w : Int64} {c c' : md_C} {nm nm' : md_Nm} (h : md_room s w c nm = some (c', nm')) (h1 : -10 ≤ (c 14).toInt) (h2 : (c 14).toInt ≤ 8) : (c' 14).toInt = (c 14).toInt + (if s = 170 then 1 else if s = 171 then -1 else 0) ∧ (c' 14).toInt ≤ 8 := by
  have lim : ∀ {m : Int} {c : md_C} {i : Nat}, i ≠ 14 → md_lim m c i nm = some (c', nm') → c' 14 = c 14 := by
    intro m c i hi hh
    unfold md_lim at hh
    split at hh
    · cases hh
    · cases hh
      exact if_neg (fun z => hi z.symm)
  have tb : md_tb w c nm = some (c', nm') → c' 14 = c 14 := by
    intro hh
    unfold md_tb at hh
    split at hh
    · cases hh
    · cases hh
      exact if_neg (by decide)
  unfold md_room at h
  by_cases z : s = 170
  · rw [if_pos z] at h
    rw [if_pos z]
    unfold md_lim at h
    have e1 : (c 14 + Int32.ofInt 1).toInt = (c 14).toInt + 1 := fx_add (by show -2147483648 ≤ (c 14).toInt + 1; omega) (by show (c 14).toInt + 1 ≤ 2147483647; omega)
    split at h
    · cases h
    · rename_i y
      cases h
      have e2 : md_u c 14 (c 14 + Int32.ofInt 1) 14 = c 14 + Int32.ofInt 1 := if_pos rfl
      rw [e2]
      rw [e1] at y ⊢
      omega
  rw [if_neg z] at h
  rw [if_neg z]
  by_cases z : s = 171
  · rw [if_pos z] at h
    rw [if_pos z]
    cases h
    have e2 : md_u c 14 (c 14 - Int32.ofInt 1) 14 = c 14 - Int32.ofInt 1 := if_pos rfl
    have e1 : (c 14 - Int32.ofInt 1).toInt = (c 14).toInt - 1 := fx_sub (by show -2147483648 ≤ (c 14).toInt - 1; omega) (by show (c 14).toInt - 1 ≤ 2147483647; omega)
    rw [e2, e1]
    omega
  rw [if_neg z] at h
  rw [if_neg z]
  have fin : c' 14 = c 14 → (c' 14).toInt = (c 14).toInt + 0 ∧ (c' 14).toInt ≤ 8 := fun e => by rw [e]; omega
  by_cases z : s = 172
  · rw [if_pos z] at h; exact fin (lim (by decide) h)
  rw [if_neg z] at h
  by_cases z : s = 180
  · rw [if_pos z] at h; exact fin ((lim (by decide) h).trans (if_neg (by decide)))
  rw [if_neg z] at h
  by_cases z : s = 181
  · rw [if_pos z] at h; exact fin (lim (by decide) h)
  rw [if_neg z] at h
  by_cases z : s = 184
  · rw [if_pos z] at h; exact fin (tb h)
  rw [if_neg z] at h
  by_cases z : s = 185
  · rw [if_pos z] at h; exact fin (lim (by decide) h)
  rw [if_neg z] at h
  by_cases z : s = 186
  · rw [if_pos z] at h
    cases e : md_rw w nm with
    | none => rw [e] at h; cases h
    | some l => rw [e] at h; cases h; exact fin rfl
  rw [if_neg z] at h
  by_cases z : s = 189
  · rw [if_pos z] at h; exact fin (lim (by decide) h)
  rw [if_neg z] at h
  by_cases z : s = 191
  · rw [if_pos z] at h; exact fin (tb h)
  rw [if_neg z] at h
  cases h
  exact fin rfl
section CX12
variable {X X' X1 : fx_X} {T : md_T} {v p p1 p2 : Int32} {u : Unit} {j near i k l : Nat} {c : md_C} {nm : md_Nm} {K : List md_Sy} {ns : List md_Nt} {rn s : Int}
theorem cx_34 (hT : cx_Tk X T) (hne : (X.1 87 7).toInt = (near : Int)) (hc : cx_ct X c) (hn : cx_ns X nm) (h : cx_nt X ns rn) (hl : ns.length < 2500) (hr : rn < (ns.length : Int)) (h1 : p1.toInt = s) (h137 : s ≠ 137) (h2 : p2.toInt = (l : Int)) (g : gx_34 p1 p2 X u X') : (md_room s (T.2 near) c nm = none ∧ (X'.1 82 5).toInt ≠ 0) ∨ ∃ c' nm', md_room s (T.2 near) c nm = some (c', nm') ∧ cx_ct X' c' ∧ cx_ns X' nm' ∧ cx_nt X' (md_ac (ns, rn) (s, near, l)).1 (md_ac (ns, rn) (s, near, l)).2 ∧ X'.1 82 5 = X.1 82 5 := by
  obtain ⟨w3, X2, r, g⟩ := g
  have hf := gf_35 r
  have hh := cx_35 hT hne hc hn r
  rw [h1] at hh
  rcases hh with ⟨h3, h4⟩ | ⟨c', nm', h3, h4, h5, h6⟩
  · rw [if_pos h4] at g
    obtain ⟨w8, X7, r1, w10, X9, r2, rfl⟩ := g
    exact Or.inl ⟨h3, (cx_44 (by decide) r2).1⟩
  · rw [if_neg (by omega)] at g
    obtain ⟨w12, X11, r1, rfl⟩ := g
    have hf2 := gf_39 r1
    refine Or.inr ⟨c', nm', h3, fun k a1 a2 a3 => ?_, ⟨?_, h6.2.1, fun i x hx => ?_⟩, ?_, ?_⟩
    · rw [hf2.2.2 87 k (by decide) (by simp; omega)]; exact h5 k a1 a2 a3
    · rw [hf2.2.2 87 9 (by decide) (by decide)]; exact h6.1
    · rw [fy_rl hf2 (by decide) (by decide), fy_ra hf2 (by decide) (by decide)]; exact h6.2.2 i x hx
    · refine cx_39 ⟨?_, ?_, fun i x hx => ?_⟩ hl hr h1 h137 ?_ h2 r1
      · rw [hf.2.2 82 4 (by decide) (by decide)]; exact h.1
      · rw [hf.2.2 87 15 (by decide) (by decide)]; exact h.2.1
      · rw [fy_ra hf (by decide) (by decide), fy_ra hf (by decide) (by decide), fy_ra hf (by decide) (by decide), fy_ra hf (by decide) (by decide)]; exact h.2.2 i x hx
      · rw [hf.2.2 87 7 (by decide) (by decide)]; exact hne
    · rw [hf2.2.2 82 5 (by decide) (by decide), hf.2.2 82 5 (by decide) (by decide)]
theorem cx_55 (hT : cx_Tk X T) (hj : (X.1 87 6).toInt = (j : Int)) (h1 : p1.toInt = s) (g : gx_55 p1 X u X') : (T.1 j = s ∧ ¬ (1000 ≤ j ∧ s ≠ 1) ∧ X' = fx_wI (fx_wI X 87 7 (X.1 87 6)) 87 6 (X.1 87 6 + Int32.ofInt 1)) ∨ (¬ (T.1 j = s ∧ ¬ (1000 ≤ j ∧ s ≠ 1)) ∧ (X'.1 82 5).toInt ≠ 0) := by
  obtain ⟨w4, X3, r, g⟩ := g
  obtain ⟨rfl, e⟩ := cx_46T hT hj r
  rw [e, h1] at g
  rcases fy_ifd g with ⟨z, g⟩ | ⟨z, g⟩
  · rcases fy_ifd g with ⟨z1, g⟩ | ⟨z1, g⟩
    · obtain ⟨X7, rfl, X8, rfl, rfl⟩ := g
      exact Or.inl ⟨z, by omega, by rw [fx_rIk (by decide)]⟩
    · rcases fy_ifd g with ⟨z2, g⟩ | ⟨z2, g⟩
      · obtain ⟨X7, rfl, X8, rfl, rfl⟩ := g
        exact Or.inl ⟨z, by omega, by rw [fx_rIk (by decide)]⟩
      · obtain ⟨w15, X14, r1, w17, X16, r2, X18, rfl, X19, rfl, rfl⟩ := g
        refine Or.inr ⟨fun y => y.2 ⟨by omega, z2⟩, ?_⟩
        rw [fx_rIn (by decide), fx_rIn (by decide)]
        exact (cx_44 (by decide) r2).1
  · obtain ⟨w15, X14, r1, w17, X16, r2, rfl⟩ := g
    exact Or.inr ⟨fun y => z y.1, (cx_44 (by decide) r2).1⟩
theorem cx_45l {ref : Nat} {r : List Int} (h51 : ref < 51) (hr : r.all (fun s => decide (1 ≤ s ∧ s < 256)) = true) (hj2 : j ≤ 2000000) (hl : K.length + r.length ≤ 512) : ∀ (n i : Nat) (y3 : Int32) (X : fx_X), y3.toInt = (i : Int) - 1 → i ≤ r.length → (∀ k, k < r.length → (X.1 ref k).toInt = r.getD k 0) → (X.1 87 6).toInt = (j : Int) → cx_sk X ((r.drop i).map (fun a => (a, j)) ++ K) → gxF_45 p n 45 [y3] [] [ref] X u X' → cx_sk X' (r.map (fun a => (a, j)) ++ K) := by
  intro n
  induction n with
  | zero => intro i y3 X _ _ _ _ _ g; exact g.elim
  | succ n ih =>
    intro i y3 X hy hi ha hj hs g
    replace g := gxO_45_45 g
    rcases fy_ifd g with ⟨z, g⟩ | ⟨z, g⟩
    · have e : i = 0 := by omega
      subst e
      rw [g]
      exact hs
    · obtain ⟨-, w20, X19, r1, x21, rfl, g⟩ := g
      obtain ⟨k, rfl⟩ : ∃ k, i = k + 1 := ⟨i - 1, by omega⟩
      have hk : y3.toInt = (k : Int) := by omega
      rw [fx_in hk] at r1
      have hkl : k < r.length := by omega
      have hel := ha k hkl
      have hrk : 1 ≤ r.getD k 0 ∧ r.getD k 0 < 256 := by
        have h0 := List.all_eq_true.mp hr (r[k]) (List.getElem_mem hkl)
        have h1 := of_decide_eq_true h0
        rw [List.getD_eq_getElem?_getD, List.getElem?_eq_getElem hkl]
        exact h1
      obtain ⟨s, hs2⟩ : ∃ s : Nat, r.getD k 0 = (s : Int) := ⟨(r.getD k 0).toNat, by omega⟩
      have hd : r.drop k = r.getD k 0 :: r.drop (k + 1) := by
        rw [List.drop_eq_getElem_cons hkl, List.getD_eq_getElem?_getD, List.getElem?_eq_getElem hkl]
        rfl
      have hlen : ((r.drop (k + 1)).map (fun a => (a, j)) ++ K).length < 512 := by
        rw [List.length_append, List.length_map, List.length_drop]; omega
      obtain ⟨q1, q2⟩ := cx_33S hs hj hj2 hlen (hel.trans hs2) (by omega) r1
      have hf := gf_33 r1
      refine ih k _ X19 ?_ (by omega) (fun k' hk' => ?_) q2 ?_ g
      · rw [fx_add (by rw [hk]; show -2147483648 ≤ (k : Int) + -1; omega) (by rw [hk]; show (k : Int) + -1 ≤ 2147483647; omega), hk]; rfl
      · rw [fy_ra hf (by simp; omega) (by intro q hq; simp at hq; rcases hq with rfl | rfl <;> (show (87 : Nat) ≠ ref; omega))]
        exact ha k' hk'
      · rw [hd, hs2]; exact q1
/-- the rules stand in the static arrays -/
def cx_rX (X : fx_X) : Prop := ∀ i, 1 ≤ i → i < 51 → (X.2.2.2.1 i).2 = (md_rl.getD i []).length ∧ ∀ j, j < (md_rl.getD i []).length → (X.1 i j).toInt = (md_rl.getD i []).getD j 0
theorem cx_rX_G (hX : fx_G X) : cx_rX X := fun _ h0 h => cx_rl hX h0 h
theorem cx_rX_fr {F L : List (Nat × Nat)} {A : List Nat} (hX : cx_rX X) (h : fy F L A X X') (hA : ∀ a, a ∈ A → 52 ≤ a) (hF : ∀ q, q ∈ F → 52 ≤ q.1) : cx_rX X' := by
  intro i h0 h1
  obtain ⟨a1, a2⟩ := hX i h0 h1
  rw [h.1, fy_ra h (fun z => by have := hA i z; omega) (fun q hq => by have := hF q hq; omega)]
  exact ⟨a1, a2⟩
theorem cx_45 (hX : cx_rX X) (hT : cx_Tk X T) (hj : (X.1 87 6).toInt = (j : Int)) (hj2 : j ≤ 2000000) (hl : K.length ≤ 500) (hs : cx_sk X K) (h1 : p1.toInt = s) (g : gx_45 p1 X u X') : (md_rule s (T.1 j) = none ∧ (X'.1 82 5).toInt ≠ 0) ∨ ∃ r, md_rule s (T.1 j) = some r ∧ cx_sk X' (r.map (fun a => (a, j)) ++ K) ∧ X'.1 82 5 = X.1 82 5 := by
  obtain ⟨n, w4, X3, r, w6, X5, r1, g⟩ := g
  obtain ⟨rfl, e⟩ := cx_46T hT hj r
  obtain ⟨rfl, e2⟩ := cx_47 r1
  rw [e, h1] at e2
  rcases g with ⟨e3, w11, X10, r2, w13, X12, r3, rfl⟩ | ⟨ref, e3, x15, rfl, g⟩
  · left
    refine ⟨?_, (cx_44 (by decide) r3).1⟩
    unfold md_rule
    rw [← e2, e3]
    rfl
  · right
    have e4 : md_rule s (T.1 j) = some (md_rl.getD ref []) := by
      unfold md_rule
      rw [← e2, e3]
      rfl
    have hok := md_rule_ok e4
    have hpr := md_47_mem (e2.symm.trans e3)
    have hb : 1 ≤ ref ∧ ref < 51 := (by decide : ∀ q, q ∈ md_pairs → 1 ≤ q.2 ∧ q.2 < 51) _ hpr
    obtain ⟨a1, a2⟩ := hX ref hb.1 hb.2
    unfold md_ok at hok
    simp only [Bool.and_eq_true] at hok
    have hlen : (md_rl.getD ref []).length ≤ 11 := of_decide_eq_true hok.1.1.1.2
    refine ⟨_, e4, ?_, ?_⟩
    · refine cx_45l (r := md_rl.getD ref []) (K := K) hb.2 hok.2 hj2 (by omega) n (md_rl.getD ref []).length _ X ?_ (Nat.le_refl _) a2 hj ?_ g
      · rw [a1]
        have e5 : (Int32.ofNat (md_rl.getD ref []).length).toInt = ((md_rl.getD ref []).length : Int) := by
          have := fx_ofI (a := ((md_rl.getD ref []).length : Int)) (by omega) (by omega)
          exact this
        rw [fx_sub (by rw [e5]; show -2147483648 ≤ ((md_rl.getD ref []).length : Int) - 1; omega) (by rw [e5]; show ((md_rl.getD ref []).length : Int) - 1 ≤ 2147483647; omega), e5]
        rfl
      · rw [List.drop_length]; exact hs
    · have hf : ∀ (n : Nat) (y : Int32) (ref : Nat) (Y : fx_X), gxF_45 p1 n 45 [y] [] [ref] Y u X' → X'.1 82 5 = Y.1 82 5 := by
        intro n
        induction n with
        | zero => intro y ref Y g; exact g.elim
        | succ n ih =>
          intro y ref Y g
          replace g := gxO_45_45 g
          rcases fy_ifd g with ⟨z, g⟩ | ⟨z, g⟩
          · rw [g]
          · obtain ⟨-, w20, X19, r1, x21, rfl, g⟩ := g
            rw [ih _ _ _ g, (gf_33 r1).2.2 82 5 (by decide) (by decide)]
      exact hf n _ _ _ g
theorem cx_32f (h : (X.1 82 5).toInt ≠ 0) {n : Nat} {y : Int32} (g : gxF_32 p n 67 [y] [] [] X u X') : X' = X := by
  cases n with
  | zero => exact g.elim
  | succ n =>
    replace g := gxO_32_67 g
    rcases fy_ifd g with ⟨z, g⟩ | ⟨z, g⟩
    · rcases fy_ifd g with ⟨z1, g⟩ | ⟨z1, g⟩
      · rw [if_neg h] at g; exact g
      · exact g
    · exact g
end CX12
