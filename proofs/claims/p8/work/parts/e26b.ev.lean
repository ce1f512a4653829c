/-! THE MODEL: what a check makes of the TABLES -/
section ME26b
variable {T : md_T} {p p' : md_CS × Int} {U : md_U} {cu : Option (Int64 × List Int32)} {TB : md_TB} {rw : Int × Int} {sk : List (List Int64)} {pk : List Int64} {fr : Int64} {a : Int} {near lead : Nat} {s s2 : md_CS} {as : List Int} {q : Bool}
theorem md_ck_TB (h : md_ck T (U, cu, TB, rw, sk, pk, fr) (a, near, lead) = md_k p) : (a = 184 → p.1.2.2.1 = TB ++ [(T.2 near, false, [])]) ∧ (a = 192 → p.2 = (TB.length : Int) ∧ ∃ cs, p.1.2.2.1 = TB ++ [(T.2 (lead + 1), true, cs)]) ∧ (a = 185 → ∃ B z z', TB = B ++ [z] ∧ p.1.2.2.1 = B ++ [z']) ∧ (a ≠ 184 → a ≠ 185 → a ≠ 192 → p.1.2.2.1 = TB) ∧ (a = 186 → 0 ≤ p.2) ∧ (a = 210 → 0 ≤ p.2 ∧ ∃ x cs' , TB[p.2.toNat]? = some x ∧ p.1.2.2.2.2.1 = x.2.2 :: cs') := by
  have no2 : ∀ {x : md_CS × Int}, (some none : md_O (md_CS × Int)) = md_k x → False := fun z => by unfold md_k at z; cases z
  unfold md_ck md_ckg at h
  dsimp only at h
  by_cases c180 : a = 180
  · rw [if_pos c180] at h
    repeat' split at h
    all_goals first
      | exact (md_k_no h).elim
      | exact (no2 h).elim
      | (have e := md_k_inj h
         subst e
         exact ⟨fun z => by omega, fun z => by omega, fun z => by omega, fun _ _ _ => rfl, fun z => by omega, fun z => by omega⟩)
  rw [if_neg c180] at h
  by_cases c181 : a = 181
  · rw [if_pos c181] at h
    repeat' split at h
    all_goals first
      | exact (md_k_no h).elim
      | exact (no2 h).elim
      | (have e := md_k_inj h
         subst e
         exact ⟨fun z => by omega, fun z => by omega, fun z => by omega, fun _ _ _ => rfl, fun z => by omega, fun z => by omega⟩)
  rw [if_neg c181] at h
  by_cases c182 : a = 182
  · rw [if_pos c182] at h
    repeat' split at h
    all_goals first
      | exact (md_k_no h).elim
      | exact (no2 h).elim
      | (have e := md_k_inj h
         subst e
         exact ⟨fun z => by omega, fun z => by omega, fun z => by omega, fun _ _ _ => rfl, fun z => by omega, fun z => by omega⟩)
  rw [if_neg c182] at h
  by_cases c183 : a = 183
  · rw [if_pos c183] at h
    repeat' split at h
    all_goals first
      | exact (md_k_no h).elim
      | exact (no2 h).elim
      | (have e := md_k_inj h
         subst e
         exact ⟨fun z => by omega, fun z => by omega, fun z => by omega, fun _ _ _ => rfl, fun z => by omega, fun z => by omega⟩)
  rw [if_neg c183] at h
  by_cases c184 : a = 184
  · rw [if_pos c184] at h
    repeat' split at h
    all_goals first
      | exact (md_k_no h).elim
      | exact (no2 h).elim
      | (have e := md_k_inj h
         subst e
         exact ⟨fun _ => rfl, fun z => by omega, fun z => by omega, fun z => absurd c184 z, fun z => by omega, fun z => by omega⟩)
  rw [if_neg c184] at h
  by_cases c185 : a = 185
  · rw [if_pos c185] at h
    cases hl : TB.getLast? with
    | none => rw [hl] at h; exact (md_k_no h).elim
    | some x =>
      obtain ⟨n, b, cs⟩ := x
      rw [hl] at h
      dsimp only at h
      split at h
      · exact (no2 h).elim
      · have e := md_k_inj h
        subst e
        have hn : TB ≠ [] := fun z => by rw [z] at hl; cases hl
        exact ⟨fun z => by omega, fun z => by omega, fun _ => ⟨TB.dropLast, TB.getLast hn, _, (List.dropLast_concat_getLast hn).symm, rfl⟩, fun _ z => absurd c185 z, fun z => by omega, fun z => by omega⟩
  rw [if_neg c185] at h
  by_cases c186 : a = 186
  · rw [if_pos c186] at h
    by_cases z1 : md_ix (T.2 near) (TB.map (·.1)) 0 < 0
    · rw [if_pos z1] at h; exact (no2 h).elim
    · rw [if_neg z1] at h
      repeat' split at h
      all_goals first
        | exact (md_k_no h).elim
        | exact (no2 h).elim
        | (have e := md_k_inj h
           subst e
           exact ⟨fun z => by omega, fun z => by omega, fun z => by omega, fun _ _ _ => rfl, fun _ => Int.not_lt.mp z1, fun z => by omega⟩)
  rw [if_neg c186] at h
  by_cases c187 : a = 187
  · rw [if_pos c187] at h
    repeat' split at h
    all_goals first
      | exact (md_k_no h).elim
      | exact (no2 h).elim
      | (have e := md_k_inj h
         subst e
         exact ⟨fun z => by omega, fun z => by omega, fun z => by omega, fun _ _ _ => rfl, fun z => by omega, fun z => by omega⟩)
  rw [if_neg c187] at h
  by_cases c137 : a = 137
  · rw [if_pos c137] at h
    repeat' split at h
    all_goals first
      | exact (md_k_no h).elim
      | exact (no2 h).elim
      | (have e := md_k_inj h
         subst e
         exact ⟨fun z => by omega, fun z => by omega, fun z => by omega, fun _ _ _ => rfl, fun z => by omega, fun z => by omega⟩)
  rw [if_neg c137] at h
  by_cases c191 : a = 191
  · rw [if_pos c191] at h
    repeat' split at h
    all_goals first
      | exact (md_k_no h).elim
      | exact (no2 h).elim
      | (have e := md_k_inj h
         subst e
         exact ⟨fun z => by omega, fun z => by omega, fun z => by omega, fun _ _ _ => rfl, fun z => by omega, fun z => by omega⟩)
  rw [if_neg c191] at h
  by_cases c192 : a = 192
  · rw [if_pos c192] at h
    cases sk with
    | nil => exact (md_k_no h).elim
    | cons cs sk' =>
      dsimp only at h
      split at h
      · exact (md_k_no h).elim
      · have e := md_k_inj h
        subst e
        exact ⟨fun z => by omega, fun _ => ⟨rfl, cs, rfl⟩, fun z => by omega, fun _ _ z => absurd c192 z, fun z => by omega, fun z => by omega⟩
  rw [if_neg c192] at h
  by_cases c200 : a = 200
  · rw [if_pos c200] at h
    repeat' split at h
    all_goals first
      | exact (md_k_no h).elim
      | exact (no2 h).elim
      | (have e := md_k_inj h
         subst e
         exact ⟨fun z => by omega, fun z => by omega, fun z => by omega, fun _ _ _ => rfl, fun z => by omega, fun z => by omega⟩)
  rw [if_neg c200] at h
  by_cases c201 : a = 201
  · rw [if_pos c201] at h
    repeat' split at h
    all_goals first
      | exact (md_k_no h).elim
      | exact (no2 h).elim
      | (have e := md_k_inj h
         subst e
         exact ⟨fun z => by omega, fun z => by omega, fun z => by omega, fun _ _ _ => rfl, fun z => by omega, fun z => by omega⟩)
  rw [if_neg c201] at h
  by_cases c202 : a = 202
  · rw [if_pos c202] at h
    repeat' split at h
    all_goals first
      | exact (md_k_no h).elim
      | exact (no2 h).elim
      | (have e := md_k_inj h
         subst e
         exact ⟨fun z => by omega, fun z => by omega, fun z => by omega, fun _ _ _ => rfl, fun z => by omega, fun z => by omega⟩)
  rw [if_neg c202] at h
  by_cases c203 : a = 203
  · rw [if_pos c203] at h
    repeat' split at h
    all_goals first
      | exact (md_k_no h).elim
      | exact (no2 h).elim
      | (have e := md_k_inj h
         subst e
         exact ⟨fun z => by omega, fun z => by omega, fun z => by omega, fun _ _ _ => rfl, fun z => by omega, fun z => by omega⟩)
  rw [if_neg c203] at h
  by_cases c210 : a = 210
  · rw [if_pos c210] at h
    by_cases z1 : md_ix (T.2 near) (TB.map (·.1)) 0 < 0
    · rw [if_pos z1] at h; exact (no2 h).elim
    · rw [if_neg z1] at h
      cases hx : TB[(md_ix (T.2 near) (TB.map (·.1)) 0).toNat]? with
      | none => rw [hx] at h; exact (md_k_no h).elim
      | some x =>
        obtain ⟨n, b, cs⟩ := x
        rw [hx] at h
        dsimp only at h
        split at h
        · exact (md_k_no h).elim
        · have e := md_k_inj h
          subst e
          exact ⟨fun z => by omega, fun z => by omega, fun z => by omega, fun _ _ _ => rfl, fun z => by omega, fun _ => ⟨Int.not_lt.mp z1, (n, b, cs), sk, hx, rfl⟩⟩
  rw [if_neg c210] at h
  by_cases c211 : a = 211 ∨ a = 212
  · rw [if_pos c211] at h
    rcases sk with _ | ⟨y, _ | ⟨x, sk⟩⟩
    · exact (md_k_no h).elim
    · exact (md_k_no h).elim
    · unfold md_pm at h
      dsimp only at h
      split at h
      · have e := md_k_inj h
        subst e
        exact ⟨fun z => by omega, fun z => by omega, fun z => by omega, fun _ _ _ => rfl, fun z => by omega, fun z => by omega⟩
      · exact (no2 h).elim
  rw [if_neg c211] at h
  by_cases c213 : a = 213
  · rw [if_pos c213] at h
    repeat' split at h
    all_goals first
      | exact (md_k_no h).elim
      | exact (no2 h).elim
      | (have e := md_k_inj h
         subst e
         exact ⟨fun z => by omega, fun z => by omega, fun z => by omega, fun _ _ _ => rfl, fun z => by omega, fun z => by omega⟩)
  rw [if_neg c213] at h
  by_cases c215 : a = 215
  · rw [if_pos c215] at h
    repeat' split at h
    all_goals first
      | exact (md_k_no h).elim
      | exact (no2 h).elim
      | (have e := md_k_inj h
         subst e
         exact ⟨fun z => by omega, fun z => by omega, fun z => by omega, fun _ _ _ => rfl, fun z => by omega, fun z => by omega⟩)
  rw [if_neg c215] at h
  by_cases c216 : a = 216
  · rw [if_pos c216] at h
    repeat' split at h
    all_goals first
      | exact (md_k_no h).elim
      | exact (no2 h).elim
      | (have e := md_k_inj h
         subst e
         exact ⟨fun z => by omega, fun z => by omega, fun z => by omega, fun _ _ _ => rfl, fun z => by omega, fun z => by omega⟩)
  rw [if_neg c216] at h
  by_cases c217 : a = 217
  · rw [if_pos c217] at h
    repeat' split at h
    all_goals first
      | exact (md_k_no h).elim
      | exact (no2 h).elim
      | (have e := md_k_inj h
         subst e
         exact ⟨fun z => by omega, fun z => by omega, fun z => by omega, fun _ _ _ => rfl, fun z => by omega, fun z => by omega⟩)
  rw [if_neg c217] at h
  by_cases c218 : a = 218
  · rw [if_pos c218] at h
    repeat' split at h
    all_goals first
      | exact (md_k_no h).elim
      | exact (no2 h).elim
      | (have e := md_k_inj h
         subst e
         exact ⟨fun z => by omega, fun z => by omega, fun z => by omega, fun _ _ _ => rfl, fun z => by omega, fun z => by omega⟩)
  rw [if_neg c218] at h
  by_cases c219 : a = 219
  · rw [if_pos c219] at h
    repeat' split at h
    all_goals first
      | exact (md_k_no h).elim
      | exact (no2 h).elim
      | (have e := md_k_inj h
         subst e
         exact ⟨fun z => by omega, fun z => by omega, fun z => by omega, fun _ _ _ => rfl, fun z => by omega, fun z => by omega⟩)
  rw [if_neg c219] at h
  by_cases c220 : a = 220
  · rw [if_pos c220] at h
    repeat' split at h
    all_goals first
      | exact (md_k_no h).elim
      | exact (no2 h).elim
      | (have e := md_k_inj h
         subst e
         exact ⟨fun z => by omega, fun z => by omega, fun z => by omega, fun _ _ _ => rfl, fun z => by omega, fun z => by omega⟩)
  rw [if_neg c220] at h
  by_cases c221 : a = 221
  · rw [if_pos c221] at h
    repeat' split at h
    all_goals first
      | exact (md_k_no h).elim
      | exact (no2 h).elim
      | (have e := md_k_inj h
         subst e
         exact ⟨fun z => by omega, fun z => by omega, fun z => by omega, fun _ _ _ => rfl, fun z => by omega, fun z => by omega⟩)
  rw [if_neg c221] at h
  by_cases c222 : a = 222
  · rw [if_pos c222] at h
    repeat' split at h
    all_goals first
      | exact (md_k_no h).elim
      | exact (no2 h).elim
      | (have e := md_k_inj h
         subst e
         exact ⟨fun z => by omega, fun z => by omega, fun z => by omega, fun _ _ _ => rfl, fun z => by omega, fun z => by omega⟩)
  rw [if_neg c222] at h
  by_cases c223 : a = 223
  · rw [if_pos c223] at h
    repeat' split at h
    all_goals first
      | exact (md_k_no h).elim
      | exact (no2 h).elim
      | (have e := md_k_inj h
         subst e
         exact ⟨fun z => by omega, fun z => by omega, fun z => by omega, fun _ _ _ => rfl, fun z => by omega, fun z => by omega⟩)
  rw [if_neg c223] at h
  have e := md_k_inj h
  subst e
  exact ⟨fun z => by omega, fun z => by omega, fun z => by omega, fun _ _ _ => rfl, fun z => by omega, fun z => by omega⟩
theorem md_fa_TB : ∀ (es : List md_Ev) (q : Bool) (s s2 : md_CS) (as : List Int), md_e2 q es → md_fa T s es = md_k (s2, as) → s.2.2.1.length ≤ s2.2.2.1.length ∧ ∀ (t : Nat) x, s.2.2.1[t]? = some x → (q = true → t + 1 < s.2.2.1.length) → s2.2.2.1[t]? = some x := by
  intro es
  induction es with
  | nil =>
    intro q s s2 as _ h
    have e := md_k_inj h
    have e1 : s = s2 := (Prod.mk.inj e).1
    subst e1
    exact ⟨Nat.le_refl _, fun t x hx _ => hx⟩
  | cons e es ih =>
    intro q s s2 as he h
    obtain ⟨a, near, lead⟩ := e
    obtain ⟨e1, e2, e3, e4⟩ := he
    rw [md_fa_c] at h
    obtain ⟨p, h1, h2⟩ := md_bd_k h
    obtain ⟨p2, h3, h4⟩ := md_bd_k h2
    have e5 : p2.1 = s2 := (Prod.mk.inj (md_k_inj h4)).1
    obtain ⟨U, cu, TB, rw, sk, pk, fr⟩ := s
    obtain ⟨c1, c2, c3, c4, -, -⟩ := md_ck_TB h1
    obtain ⟨b1, b2⟩ := ih _ p.1 s2 p2.2 e4 (by rw [h3, ← e5])
    show TB.length ≤ _ ∧ ∀ (t : Nat) x, TB[t]? = some x → (q = true → t + 1 < TB.length) → _
    by_cases z4 : a = 184
    · have c := c1 z4
      rw [c, List.length_append] at b1
      refine ⟨by have : TB.length + 1 ≤ s2.2.2.1.length := b1; omega, fun t x hx _ => b2 t x ?_ (fun _ => ?_)⟩
      · rw [c, List.getElem?_append_left (List.getElem?_eq_some_iff.mp hx).1]; exact hx
      · rw [c, List.length_append]
        have := (List.getElem?_eq_some_iff.mp hx).1
        show t + 1 < TB.length + 1
        omega
    by_cases z5 : a = 185
    · have hq := e1 z5
      obtain ⟨B, z, z', d1, d2⟩ := c3 z5
      rw [d2, List.length_append] at b1
      rw [d1, List.length_append]
      refine ⟨b1, fun t x hx ht => b2 t x ?_ (fun _ => ?_)⟩
      · have ht := ht hq
        have ht : t + 1 < B.length + 1 := ht
        rw [List.getElem?_append_left (by omega)] at hx
        rw [d2, List.getElem?_append_left (by omega)]
        exact hx
      · rw [d2, List.length_append]
        exact ht hq
    have hq2 : (a == 184 || a == 185) = false := by
      rw [Bool.or_eq_false_iff]
      exact ⟨beq_eq_false_iff_ne.mpr z4, beq_eq_false_iff_ne.mpr z5⟩
    by_cases z6 : a = 192
    · obtain ⟨-, cs, c⟩ := c2 z6
      rw [c, List.length_append] at b1
      refine ⟨by have : TB.length + 1 ≤ s2.2.2.1.length := b1; omega, fun t x hx _ => b2 t x ?_ (fun y => by have y : (a == 184 || a == 185) = true := y; rw [hq2] at y; cases y)⟩
      rw [c, List.getElem?_append_left (List.getElem?_eq_some_iff.mp hx).1]; exact hx
    · have c := c4 z4 z5 z6
      rw [c] at b1
      exact ⟨b1, fun t x hx _ => b2 t x (by rw [c]; exact hx) (fun y => by have y : (a == 184 || a == 185) = true := y; rw [hq2] at y; cases y)⟩
end ME26b
