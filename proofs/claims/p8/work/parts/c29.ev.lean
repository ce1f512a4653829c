/-! THE MODEL: what events the parser tells; notes as the class lays them -/
def md_add (ns : List md_Nt) (rn : Int) (m : Nat) : List md_Nt := if 0 ≤ rn then ns.modify rn.toNat (fun x => (x.1, x.2.1, x.2.2.1, x.2.2.2 + Int32.ofNat m)) else ns
section MDE
variable {T : md_T} {ns : List md_Nt} {rn : Int} {m : Nat}
theorem md_of_add (x : Int32) (a b : Nat) : x + Int32.ofNat a + Int32.ofNat b = x + Int32.ofNat (a + b) := by
  rw [Int32.add_assoc, ← Int32.ofNat_add]
theorem md_mod_id {α : Type} (l : List α) (i : Nat) (f : α → α) (h : ∀ x, f x = x) : l.modify i f = l := by
  have e : f = id := funext h
  rw [e]
  exact List.modify_id _ _
theorem md_add_0 : md_add ns rn 0 = ns := by
  unfold md_add
  split
  · refine md_mod_id _ _ _ (fun x => ?_)
    have : x.2.2.2 + Int32.ofNat 0 = x.2.2.2 := Int32.add_zero _
    rw [this]
  · rfl
theorem md_inc_add : md_add (md_inc ns rn) rn m = md_add ns rn (1 + m) := by
  unfold md_add md_inc
  by_cases h : 0 ≤ rn
  · rw [if_pos h, if_pos h, if_pos h, List.modify_modify_eq]
    congr 1
    funext x
    show (x.1, x.2.1, x.2.2.1, x.2.2.2 + Int32.ofInt 1 + Int32.ofNat m) = (x.1, x.2.1, x.2.2.1, x.2.2.2 + Int32.ofNat (1 + m))
    have : x.2.2.2 + Int32.ofInt 1 = x.2.2.2 + Int32.ofNat 1 := rfl
    rw [this, md_of_add]
  · rw [if_neg h, if_neg h, if_neg h]
theorem md_mod_app {α : Type} (f : α → α) (y : α) : ∀ (l : List α) (i : Nat), i < l.length → (l ++ [y]).modify i f = l.modify i f ++ [y]
  | [], _, h => absurd h (Nat.not_lt_zero _)
  | x :: l, 0, _ => rfl
  | x :: l, i + 1, h => by
    show x :: (l ++ [y]).modify i f = x :: (l.modify i f ++ [y])
    rw [md_mod_app f y l i (by have : i + 1 < l.length + 1 := h; omega)]
theorem md_mod_last {α : Type} (f : α → α) (y : α) : ∀ (l : List α), (l ++ [y]).modify l.length f = l ++ [f y]
  | [] => rfl
  | x :: l => by
    show x :: (l ++ [y]).modify l.length f = x :: (l ++ [f y])
    rw [md_mod_last f y l]
theorem md_add_app (x : md_Nt) (h : rn < (ns.length : Int)) : md_add (ns ++ [x]) rn m = md_add ns rn m ++ [x] := by
  unfold md_add
  by_cases h0 : 0 ≤ rn
  · rw [if_pos h0, if_pos h0, md_mod_app _ _ _ _ (by omega)]
  · rw [if_neg h0, if_neg h0]
/-- the class's notes -/
theorem md_ac_nts : ∀ (es : List md_Ev) (q : Bool) (ns : List md_Nt) (rn : Int), (∀ e, e ∈ es → md_cod e) → md_run q (es.map (·.1)) = some false → rn < (ns.length : Int) → (q = true → 0 ≤ rn) → (es.foldl md_ac (ns, rn)).1 = (if q = true then md_add ns rn (md_cnt es) else ns) ++ md_nts es
  | [], q, ns, rn, _, h, _, _ => by
    have : q = false := Option.some.inj h
    subst this
    show ns = ns ++ []
    rw [List.append_nil]
  | e :: es, q, ns, rn, hc, h, hr, hq0 => by
    have hc' : ∀ e, e ∈ es → md_cod e := fun x hx => hc x (List.mem_cons_of_mem _ hx)
    have h' : (md_au q e.1).bind (fun q' => md_run q' (es.map (·.1))) = some false := h
    have hce := hc e List.mem_cons_self
    obtain ⟨a, near, lead⟩ := e
    unfold md_cod at hce
    dsimp only at h' hce
    by_cases hq : md_quiet a = true
    · have e1 : md_ac (ns, rn) (a, near, lead) = (ns, rn) := if_pos hq
      have e2 : md_nts ((a, near, lead) :: es) = md_nts es := if_pos hq
      rw [List.foldl_cons, e1, e2]
      by_cases h137 : a = 137
      · subst h137
        cases q with
        | false => cases h'
        | true =>
          have e0 : md_cnt ((137, near, lead) :: es) = 0 := if_pos rfl
          rw [md_ac_nts es false ns rn hc' h' hr (fun z => by cases z), e0, if_neg (by decide), if_pos rfl, md_add_0]
      · have h4 : a = 170 ∨ a = 171 ∨ a = 172 := by
          unfold md_quiet at hq
          simp at hq
          omega
        have hau : md_au q a = some q := by
          unfold md_au
          rw [if_neg (by omega), if_neg (by omega), if_neg h137, if_neg (by omega)]
        rw [hau] at h'
        have e0 : md_cnt ((a, near, lead) :: es) = (if a = 187 then 1 else 0) + md_cnt es := if_neg h137
        rw [md_ac_nts es q ns rn hc' h' hr hq0, e0, if_neg (by omega : ¬ a = 187), Nat.zero_add]
    · have h137 : a ≠ 137 := fun z => hq (by rw [z]; rfl)
      have e2 : md_nts ((a, near, lead) :: es) = (a, near, lead, Int32.ofNat (if a = 186 then md_cnt es else 0)) :: md_nts es := if_neg hq
      have e0 : md_cnt ((a, near, lead) :: es) = (if a = 187 then 1 else 0) + md_cnt es := if_neg h137
      rw [List.foldl_cons, e2, e0]
      by_cases h186 : a = 186
      · subst h186
        cases q with
        | true => cases h'
        | false =>
          have e1 : md_ac (ns, rn) (186, near, lead) = (ns ++ [(186, near, lead, Int32.ofInt 0)], (ns.length : Int)) := rfl
          rw [e1, md_ac_nts es true _ _ hc' h' (by rw [List.length_append]; show (ns.length : Int) < ((ns.length + 1 : Nat) : Int); omega) (fun _ => by omega), if_pos rfl, if_neg (by decide), if_pos rfl]
          unfold md_add
          rw [if_pos (by omega), Int.toNat_natCast, md_mod_last, List.append_assoc]
          have : Int32.ofInt 0 + Int32.ofNat (md_cnt es) = Int32.ofNat (md_cnt es) := Int32.zero_add _
          show ns ++ ([(186, near, lead, Int32.ofInt 0 + Int32.ofNat (md_cnt es))] ++ md_nts es) = _
          rw [this]
          rfl
      · by_cases h187 : a = 187
        · subst h187
          cases q with
          | false => cases h'
          | true =>
            have e1 : md_ac (ns, rn) (187, near, lead) = (md_inc ns rn ++ [(187, near, lead, Int32.ofInt 0)], rn) := rfl
            rw [e1, md_ac_nts es true _ _ hc' h' (by rw [List.length_append, md_inc_len]; show rn < ((ns.length + 1 : Nat) : Int); omega) hq0, if_pos rfl, if_pos rfl, if_pos rfl, if_neg (by decide), md_add_app _ (by rw [md_inc_len]; exact hr), md_inc_add, List.append_assoc]
            rfl
        · have hau : md_au q a = some q := by
            cases e : md_au q a with
            | none => rw [e] at h'; cases h'
            | some q' =>
              unfold md_au at e
              rw [if_neg h186, if_neg (by omega), if_neg h137, if_neg (by omega)] at e
              exact e.symm
          rw [hau] at h'
          have e1 : md_ac (ns, rn) (a, near, lead) = (ns ++ [(a, near, lead, Int32.ofInt 0)], rn) := by
            unfold md_ac
            rw [if_neg hq, if_neg h186, if_neg h187]
          rw [e1, md_ac_nts es q _ _ hc' h' (by rw [List.length_append]; show rn < ((ns.length + 1 : Nat) : Int); omega) hq0, if_neg h187, if_neg h186, Nat.zero_add, md_add_app _ hr]
          cases q with
          | true => rw [if_pos rfl, if_pos rfl, List.append_assoc]; rfl
          | false => rw [if_neg (by decide), if_neg (by decide), List.append_assoc]; rfl
theorem md_cnt_le : ∀ (es : List md_Ev), md_cnt es ≤ (md_nts es).length
  | [] => Nat.le_refl _
  | e :: es => by
    have ih := md_cnt_le es
    unfold md_cnt md_nts
    by_cases h137 : e.1 = 137
    · rw [if_pos h137]; omega
    · rw [if_neg h137]
      by_cases h187 : e.1 = 187
      · have : ¬ md_quiet e.1 = true := by rw [h187]; decide
        rw [if_pos h187, if_neg this, List.length_cons]; omega
      · rw [if_neg h187]
        split
        · omega
        · rw [List.length_cons]; omega
theorem md_nts_app : ∀ (es1 es2 : List md_Ev), (md_nts es2).length ≤ (md_nts (es1 ++ es2)).length
  | [], _ => Nat.le_refl _
  | e :: es1, es2 => by
    have ih := md_nts_app es1 es2
    have e1 : md_nts (e :: (es1 ++ es2)) = if md_quiet e.1 = true then md_nts (es1 ++ es2) else (e.1, e.2.1, e.2.2, Int32.ofNat (if e.1 = 186 then md_cnt (es1 ++ es2) else 0)) :: md_nts (es1 ++ es2) := rfl
    show _ ≤ (md_nts (e :: (es1 ++ es2))).length
    rw [e1]
    split
    · exact ih
    · rw [List.length_cons]; omega
theorem md_cs_some {e : md_Ev} {x : Option (Option (List md_Ev))} {es : List md_Ev} (h : md_cs e x = some (some es)) : ∃ es', x = some (some es') ∧ es = e :: es' := by
  unfold md_cs at h
  cases x with
  | none => cases h
  | some y =>
    cases y with
    | none => cases h
    | some es' =>
      have := Option.some.inj (Option.some.inj h)
      exact ⟨es', rfl, this.symm⟩
/-- what the parser's events are like -/
theorem md_am_ev : ∀ (n : Nat) (K : List md_Sy) (j near : Nat) (c : md_C) (nm : md_Nm) (q : Bool) (es : List md_Ev), md_am T n K j near c nm = some (some es) → md_run q (K.map (·.1)) = some false → (∀ x, x ∈ K → x.2 ≤ 2000) → (j : Int) + md_e1 K ≤ 1001 → md_e1 K ≤ 1 → near ≤ j → (∀ e, e ∈ es → md_cod e ∧ e.2.1 ≤ 2000 ∧ e.2.2 ≤ 100000) ∧ md_run q (es.map (·.1)) = some false := by
  intro n
  induction n with
  | zero => intro K j near c nm q es h; cases h
  | succ n ih =>
    intro K j near c nm q es h hr hK hj he hnj
    have e1n := md_e1_0 (K := K)
    cases K with
    | nil =>
      have : [] = es := Option.some.inj (Option.some.inj h)
      subst this
      exact ⟨fun e he => (by cases he), hr⟩
    | cons x K =>
      obtain ⟨s, l⟩ := x
      have hl := hK (s, l) List.mem_cons_self
      have hK' : ∀ x, x ∈ K → x.2 ≤ 2000 := fun y hy => hK y (List.mem_cons_of_mem _ hy)
      have hr' : (md_au q s).bind (fun q' => md_run q' (K.map (·.1))) = some false := hr
      have hje : (j : Int) + ((if s = 1 then 1 else 0) + md_e1 K) ≤ 1001 := hj
      have hee : (if s = 1 then 1 else 0) + md_e1 K ≤ 1 := he
      unfold md_am at h
      by_cases z : 170 ≤ s
      · rw [if_pos z] at h
        rw [if_neg (by omega)] at hje hee
        cases hm : md_room s (T.2 near) c nm with
        | none => rw [hm] at h; cases h
        | some p =>
          rw [hm] at h
          obtain ⟨es', h1, rfl⟩ := md_cs_some h
          cases hau : md_au q s with
          | none => rw [hau] at hr'; cases hr'
          | some q' =>
            rw [hau] at hr'
            obtain ⟨a1, a2⟩ := ih K j near p.1 p.2 q' es' h1 hr' hK' (by omega) (by omega) hnj
            refine ⟨fun e he => ?_, ?_⟩
            · rcases List.mem_cons.mp he with y | y
              · rw [y]; exact ⟨Or.inr z, by show near ≤ 2000; omega, by show l ≤ 100000; have : l ≤ 2000 := hl; omega⟩
              · exact a1 e y
            · show (md_au q s).bind (fun q' => md_run q' (es'.map (·.1))) = some false
              rw [hau]; exact a2
      · rw [if_neg z] at h
        by_cases z2 : 130 ≤ s
        · rw [if_pos z2] at h
          rw [if_neg (by omega)] at hje hee
          cases hm : md_rule s (T.1 j) with
          | none => rw [hm] at h; cases h
          | some r =>
            rw [hm] at h
            dsimp only at h
            have hok := md_rule_ok hm
            unfold md_ok at hok
            simp only [Bool.and_eq_true] at hok
            obtain ⟨⟨⟨⟨⟨⟨⟨⟨⟨⟨⟨r1, r2⟩, r3⟩, r4⟩, r5⟩, r6⟩, r7⟩, r8⟩, r9⟩, r10⟩, r11⟩, r12⟩ := hok
            have r7' : r.contains 1 = false := by simpa using r7
            have hmap : (r.map (fun a => (a, j)) ++ K).map (·.1) = r ++ K.map (·.1) := by
              rw [List.map_append, List.map_map]
              congr 1
              exact List.map_id _
            have hKn : ∀ x, x ∈ r.map (fun a => (a, j)) ++ K → x.2 ≤ 2000 := fun x hx => by
              rcases List.mem_append.mp hx with y | y
              · obtain ⟨a, _, rfl⟩ := List.mem_map.mp y
                show j ≤ 2000
                omega
              · exact hK' x y
            have he1 : md_e1 (r.map (fun a => (a, j)) ++ K) = md_e1 K := md_e1_app r7'
            cases hau : md_au q s with
            | none => rw [hau] at hr'; cases hr'
            | some q' =>
              rw [hau] at hr'
              unfold md_rk at r8
              by_cases h137 : s = 137
              · rw [if_pos h137] at r8
                rw [if_pos h137] at h
                obtain ⟨es', h1, rfl⟩ := md_cs_some h
                have r8' : md_run false r = some false := by simpa using r8
                have hq' : q' = false := by
                  subst h137
                  cases q <;> cases hau
                  rfl
                subst hq'
                obtain ⟨a1, a2⟩ := ih _ j near c nm false es' h1 (by rw [hmap, md_run_app (q1 := false), r8']; exact hr') hKn (by rw [he1]; omega) (by rw [he1]; omega) hnj
                refine ⟨fun e he => ?_, ?_⟩
                · rcases List.mem_cons.mp he with y | y
                  · rw [y]; exact ⟨Or.inl rfl, by show near ≤ 2000; omega, by show l ≤ 100000; have : l ≤ 2000 := hl; omega⟩
                  · exact a1 e y
                · show (md_au q 137).bind (fun q' => md_run q' (es'.map (·.1))) = some false
                  rw [← h137, hau]; exact a2
              · rw [if_neg h137] at r8 h
                rw [Bool.and_eq_true] at r8
                have hrun : md_run q r = some q' := by
                  cases q with
                  | true =>
                    have := r8.2
                    rw [hau] at this
                    simpa using this
                  | false =>
                    have := r8.1
                    rw [hau] at this
                    simpa using this
                exact ih _ j near c nm q es h (by rw [hmap, md_run_app (q1 := false), hrun]; exact hr') hKn (by rw [he1]; omega) (by rw [he1]; omega) hnj
        · rw [if_neg z2] at h
          by_cases z3 : T.1 j = s
          · rw [if_pos z3] at h
            by_cases z4 : 1000 ≤ j ∧ s ≠ 1
            · rw [if_pos z4] at h; cases h
            · rw [if_neg z4] at h
              have hau : md_au q s = some q := by
                unfold md_au
                rw [if_neg (by omega), if_neg (by omega), if_neg (by omega), if_neg (by omega)]
              rw [hau] at hr'
              refine ih K (j + 1) j c nm q es h hr' hK' ?_ ?_ (by omega)
              · split at hje
                · omega
                · rename_i y
                  have : ¬ 1000 ≤ j := fun w => z4 ⟨w, y⟩
                  split at hee <;> omega
              · split at hee <;> omega
          · rw [if_neg z3] at h; cases h
end MDE
