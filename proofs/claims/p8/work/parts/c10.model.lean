/-! THE MODEL OF THE PARSER: a stack of symbols, events -/
abbrev md_T : Type := (Nat → Int) × (Nat → Int64)
abbrev md_Sy : Type := Int × Nat
abbrev md_Ev : Type := Int × Nat × Nat
abbrev md_C : Type := Nat → Int32
abbrev md_Nm : Type := List (Int64 × Int32)
def md_u (c : md_C) (i : Nat) (v : Int32) : md_C := fun k => if k = i then v else c k
/-- a row more of the TABLE so named -/
def md_rw (w : Int64) : md_Nm → Option md_Nm
  | [] => some []
  | (n, k) :: l => if n = w then (if 30 < (k + Int32.ofInt 1).toInt then none else some ((n, k + Int32.ofInt 1) :: l)) else (md_rw w l).map (fun l' => (n, k) :: l')
def md_lim (m : Int) (c : md_C) (i : Nat) (nm : md_Nm) : Option (md_C × md_Nm) := if m < (c i + Int32.ofInt 1).toInt then none else some (md_u c i (c i + Int32.ofInt 1), nm)
def md_tb (w : Int64) (c : md_C) (nm : md_Nm) : Option (md_C × md_Nm) := if 10 ≤ nm.length then none else some (md_u c 10 (Int32.ofInt 0), nm ++ [(w, Int32.ofInt 0)])
def md_room (s : Int) (w : Int64) (c : md_C) (nm : md_Nm) : Option (md_C × md_Nm) :=
  if s = 170 then md_lim 8 c 14 nm
  else if s = 171 then some (md_u c 14 (c 14 - Int32.ofInt 1), nm)
  else if s = 172 then md_lim 40 c 12 nm
  else if s = 180 then md_lim 8 (md_u c 13 (Int32.ofInt 0)) 8 nm
  else if s = 181 then md_lim 16 c 13 nm
  else if s = 184 then md_tb w c nm
  else if s = 185 then md_lim 4 c 10 nm
  else if s = 186 then (md_rw w nm).map (fun l => (c, l))
  else if s = 189 then md_lim 12 c 11 nm
  else if s = 191 then md_tb w c nm
  else some (c, nm)
def md_cs (e : md_Ev) (x : Option (Option (List md_Ev))) : Option (Option (List md_Ev)) := x.map (fun y => y.map (fun l => e :: l))
def md_am (T : md_T) : Nat → List md_Sy → Nat → Nat → md_C → md_Nm → Option (Option (List md_Ev))
  | 0, _, _, _, _, _ => none
  | _ + 1, [], _, _, _, _ => some (some [])
  | n + 1, (s, l) :: K, j, near, c, nm =>
    if 170 ≤ s then (match md_room s (T.2 near) c nm with
      | none => some none
      | some q => md_cs (s, near, l) (md_am T n K j near q.1 q.2))
    else if 130 ≤ s then (match md_rule s (T.1 j) with
      | none => some none
      | some r => if s = 137 then md_cs (137, near, l) (md_am T n (r.map (fun a => (a, j)) ++ K) j near c nm) else md_am T n (r.map (fun a => (a, j)) ++ K) j near c nm)
    else if T.1 j = s then (if 1000 ≤ j ∧ s ≠ 1 then some none else md_am T n K (j + 1) j c nm) else some none
/-! what the rules are like -/
def md_pairs : List (Int × Nat) := [(130, 6), (130, 1), (130, 2), (130, 3), (130, 4), (130, 5), (131, 7), (131, 8), (132, 11), (132, 12), (132, 6), (133, 12), (133, 6), (134, 9), (134, 10), (135, 13), (135, 6), (136, 14), (136, 6), (137, 15), (137, 6), (138, 16), (139, 17), (139, 6), (140, 18), (141, 19), (141, 6), (142, 20), (142, 21), (142, 22), (143, 23), (143, 24), (143, 25), (143, 26), (144, 27), (144, 28), (144, 29), (145, 30), (146, 31), (146, 32), (146, 6), (147, 33), (148, 34), (148, 6), (149, 35), (149, 36), (150, 37), (150, 38), (150, 39), (150, 40), (150, 6), (151, 41), (152, 42), (152, 6), (153, 43), (153, 44), (154, 45), (154, 6), (155, 46), (155, 6), (156, 47), (156, 48), (156, 49), (156, 50)]
theorem md_47_mem {p k : Int} {i : Nat} (h : md_47 p k = some i) : (p, i) ∈ md_pairs := by
  unfold md_47 md_48 md_49 md_50 md_51 md_52 md_53 md_54 at h
  by_cases q : p < 138
  · rw [if_pos q] at h
    by_cases q : p = 130
    · rw [if_pos q] at h
      subst q
      by_cases q : k = 1
      · rw [if_pos q] at h
        subst q
        cases h; decide
      · rw [if_neg q] at h; clear q
        by_cases q : k = 10
        · rw [if_pos q] at h
          subst q
          cases h; decide
        · rw [if_neg q] at h; clear q
          by_cases q : k = 11
          · rw [if_pos q] at h
            subst q
            cases h; decide
          · rw [if_neg q] at h; clear q
            by_cases q : k = 12
            · rw [if_pos q] at h
              subst q
              cases h; decide
            · rw [if_neg q] at h; clear q
              by_cases q : k = 14
              · rw [if_pos q] at h
                subst q
                cases h; decide
              · rw [if_neg q] at h; clear q
                by_cases q : k = 15
                · rw [if_pos q] at h
                  subst q
                  cases h; decide
                · rw [if_neg q] at h; clear q
                  cases h
    · rw [if_neg q] at h; clear q
      by_cases q : p = 131
      · rw [if_pos q] at h
        subst q
        by_cases q : k = 45
        · rw [if_pos q] at h
          subst q
          cases h; decide
        · rw [if_neg q] at h; clear q
          by_cases q : k = 4
          · rw [if_pos q] at h
            subst q
            cases h; decide
          · rw [if_neg q] at h; clear q
            cases h
      · rw [if_neg q] at h; clear q
        by_cases q : p = 132
        · rw [if_pos q] at h
          subst q
          by_cases q : k = 5
          · rw [if_pos q] at h
            subst q
            cases h; decide
          · rw [if_neg q] at h; clear q
            by_cases q : k = 44
            · rw [if_pos q] at h
              subst q
              cases h; decide
            · rw [if_neg q] at h; clear q
              cases h; decide
        · rw [if_neg q] at h; clear q
          by_cases q : p = 133
          · rw [if_pos q] at h
            subst q
            by_cases q : k = 44
            · rw [if_pos q] at h
              subst q
              cases h; decide
            · rw [if_neg q] at h; clear q
              cases h; decide
          · rw [if_neg q] at h; clear q
            by_cases q : p = 134
            · rw [if_pos q] at h
              subst q
              by_cases q : k = 45
              · rw [if_pos q] at h
                subst q
                cases h; decide
              · rw [if_neg q] at h; clear q
                by_cases q : k = 4
                · rw [if_pos q] at h
                  subst q
                  cases h; decide
                · rw [if_neg q] at h; clear q
                  cases h
            · rw [if_neg q] at h; clear q
              by_cases q : p = 135
              · rw [if_pos q] at h
                subst q
                by_cases q : k = 44
                · rw [if_pos q] at h
                  subst q
                  cases h; decide
                · rw [if_neg q] at h; clear q
                  cases h; decide
              · rw [if_neg q] at h; clear q
                by_cases q : p = 136
                · rw [if_pos q] at h
                  subst q
                  by_cases q : k = 44
                  · rw [if_pos q] at h
                    subst q
                    cases h; decide
                  · rw [if_neg q] at h; clear q
                    cases h; decide
                · rw [if_neg q] at h; clear q
                  by_cases q : p = 137
                  · rw [if_pos q] at h
                    subst q
                    by_cases q : k = 13
                    · rw [if_pos q] at h
                      subst q
                      cases h; decide
                    · rw [if_neg q] at h; clear q
                      cases h; decide
                  · rw [if_neg q] at h; clear q
                    cases h
  · rw [if_neg q] at h; clear q
    by_cases q : p < 145
    · rw [if_pos q] at h
      by_cases q : p = 138
      · rw [if_pos q] at h
        subst q
        cases h; decide
      · rw [if_neg q] at h; clear q
        by_cases q : p = 139
        · rw [if_pos q] at h
          subst q
          by_cases q : k = 124
          · rw [if_pos q] at h
            subst q
            cases h; decide
          · rw [if_neg q] at h; clear q
            cases h; decide
        · rw [if_neg q] at h; clear q
          by_cases q : p = 140
          · rw [if_pos q] at h
            subst q
            cases h; decide
          · rw [if_neg q] at h; clear q
            by_cases q : p = 141
            · rw [if_pos q] at h
              subst q
              by_cases q : k = 38
              · rw [if_pos q] at h
                subst q
                cases h; decide
              · rw [if_neg q] at h; clear q
                cases h; decide
            · rw [if_neg q] at h; clear q
              by_cases q : p = 142
              · rw [if_pos q] at h
                subst q
                by_cases q : k = 33
                · rw [if_pos q] at h
                  subst q
                  cases h; decide
                · rw [if_neg q] at h; clear q
                  by_cases q : k = 40
                  · rw [if_pos q] at h
                    subst q
                    cases h; decide
                  · rw [if_neg q] at h; clear q
                    cases h; decide
              · rw [if_neg q] at h; clear q
                by_cases q : p = 143
                · rw [if_pos q] at h
                  subst q
                  by_cases q : k = 6
                  · rw [if_pos q] at h
                    subst q
                    cases h; decide
                  · rw [if_neg q] at h; clear q
                    by_cases q : k = 7
                    · rw [if_pos q] at h
                      subst q
                      cases h; decide
                    · rw [if_neg q] at h; clear q
                      by_cases q : k = 60
                      · rw [if_pos q] at h
                        subst q
                        cases h; decide
                      · rw [if_neg q] at h; clear q
                        by_cases q : k = 61
                        · rw [if_pos q] at h
                          subst q
                          cases h; decide
                        · rw [if_neg q] at h; clear q
                          cases h
                · rw [if_neg q] at h; clear q
                  by_cases q : p = 144
                  · rw [if_pos q] at h
                    subst q
                    by_cases q : k = 63
                    · rw [if_pos q] at h
                      subst q
                      cases h; decide
                    · rw [if_neg q] at h; clear q
                      by_cases q : k = 45
                      · rw [if_pos q] at h
                        subst q
                        cases h; decide
                      · rw [if_neg q] at h; clear q
                        by_cases q : k = 4
                        · rw [if_pos q] at h
                          subst q
                          cases h; decide
                        · rw [if_neg q] at h; clear q
                          cases h
                  · rw [if_neg q] at h; clear q
                    cases h
    · rw [if_neg q] at h; clear q
      by_cases q : p = 145
      · rw [if_pos q] at h
        subst q
        cases h; decide
      · rw [if_neg q] at h; clear q
        by_cases q : p = 146
        · rw [if_pos q] at h
          subst q
          by_cases q : k = 43
          · rw [if_pos q] at h
            subst q
            cases h; decide
          · rw [if_neg q] at h; clear q
            by_cases q : k = 45
            · rw [if_pos q] at h
              subst q
              cases h; decide
            · rw [if_neg q] at h; clear q
              cases h; decide
        · rw [if_neg q] at h; clear q
          by_cases q : p = 147
          · rw [if_pos q] at h
            subst q
            cases h; decide
          · rw [if_neg q] at h; clear q
            by_cases q : p = 148
            · rw [if_pos q] at h
              subst q
              by_cases q : k = 42
              · rw [if_pos q] at h
                subst q
                cases h; decide
              · rw [if_neg q] at h; clear q
                cases h; decide
            · rw [if_neg q] at h; clear q
              by_cases q : p = 149
              · rw [if_pos q] at h
                subst q
                by_cases q : k = 40
                · rw [if_pos q] at h
                  subst q
                  cases h; decide
                · rw [if_neg q] at h; clear q
                  by_cases q : k = 3
                  · rw [if_pos q] at h
                    subst q
                    cases h; decide
                  · rw [if_neg q] at h; clear q
                    cases h
              · rw [if_neg q] at h; clear q
                by_cases q : p = 150
                · rw [if_pos q] at h
                  subst q
                  by_cases q : k = 35
                  · rw [if_pos q] at h
                    subst q
                    cases h; decide
                  · rw [if_neg q] at h; clear q
                    by_cases q : k = 58
                    · rw [if_pos q] at h
                      subst q
                      cases h; decide
                    · rw [if_neg q] at h; clear q
                      by_cases q : k = 91
                      · rw [if_pos q] at h
                        subst q
                        cases h; decide
                      · rw [if_neg q] at h; clear q
                        by_cases q : k = 123
                        · rw [if_pos q] at h
                          subst q
                          cases h; decide
                        · rw [if_neg q] at h; clear q
                          cases h; decide
                · rw [if_neg q] at h; clear q
                  by_cases q : p = 151
                  · rw [if_pos q] at h
                    subst q
                    cases h; decide
                  · rw [if_neg q] at h; clear q
                    by_cases q : p = 152
                    · rw [if_pos q] at h
                      subst q
                      by_cases q : k = 44
                      · rw [if_pos q] at h
                        subst q
                        cases h; decide
                      · rw [if_neg q] at h; clear q
                        cases h; decide
                    · rw [if_neg q] at h; clear q
                      by_cases q : p = 153
                      · rw [if_pos q] at h
                        subst q
                        by_cases q : k = 3
                        · rw [if_pos q] at h
                          subst q
                          cases h; decide
                        · rw [if_neg q] at h; clear q
                          cases h; decide
                      · rw [if_neg q] at h; clear q
                        by_cases q : p = 154
                        · rw [if_pos q] at h
                          subst q
                          by_cases q : k = 44
                          · rw [if_pos q] at h
                            subst q
                            cases h; decide
                          · rw [if_neg q] at h; clear q
                            cases h; decide
                        · rw [if_neg q] at h; clear q
                          by_cases q : p = 155
                          · rw [if_pos q] at h
                            subst q
                            by_cases q : k = 3
                            · rw [if_pos q] at h
                              subst q
                              cases h; decide
                            · rw [if_neg q] at h; clear q
                              cases h; decide
                          · rw [if_neg q] at h; clear q
                            by_cases q : p = 156
                            · rw [if_pos q] at h
                              subst q
                              by_cases q : k = 16
                              · rw [if_pos q] at h
                                subst q
                                cases h; decide
                              · rw [if_neg q] at h; clear q
                                by_cases q : k = 17
                                · rw [if_pos q] at h
                                  subst q
                                  cases h; decide
                                · rw [if_neg q] at h; clear q
                                  by_cases q : k = 18
                                  · rw [if_pos q] at h
                                    subst q
                                    cases h; decide
                                  · rw [if_neg q] at h; clear q
                                    by_cases q : k = 19
                                    · rw [if_pos q] at h
                                      subst q
                                      cases h; decide
                                    · rw [if_neg q] at h; clear q
                                      cases h
                            · rw [if_neg q] at h; clear q
                              cases h
/-- notes told, by what is left -/
def md_np (s : Int) : Int := if s = 131 ∨ s = 134 ∨ s = 138 ∨ s = 140 ∨ s = 142 ∨ s = 143 ∨ s = 144 ∨ s = 145 ∨ s = 147 ∨ s = 149 ∨ s = 153 ∨ s = 156 then -1 else if s = 151 then -2 else 0
def md_wt (s : Int) : Int := if 173 ≤ s then 1 else if 170 ≤ s then 0 else if 130 ≤ s then md_np s else -2
def md_need : List md_Sy → Int
  | [] => 0
  | (s, _) :: K => if 173 ≤ s then 1 + md_need K else max 0 (md_wt s + md_need K)
def md_mp : List Int → Int
  | [] => 0
  | s :: r => if 173 ≤ s then 1 + md_mp r else max 0 (md_wt s + md_mp r)
def md_tot : List Int → Int
  | [] => 0
  | s :: r => md_wt s + md_tot r
/-- how many symbols there can be up to the next SHUT -/
def md_h0 (s : Int) : Int := if s = 130 then 18 else if s = 131 ∨ s = 134 ∨ s = 144 ∨ s = 153 then 3 else if s = 132 ∨ s = 133 then 5 else if s = 135 ∨ s = 154 ∨ s = 155 ∨ s = 156 then 4 else if s = 136 then 5 else if s = 137 then 12 else if s = 138 ∨ s = 139 then 10 else if s = 140 ∨ s = 141 then 8 else if s = 142 then 6 else if s = 143 then 2 else if s = 145 ∨ s = 146 then 15 else if s = 147 ∨ s = 148 then 13 else if s = 149 ∨ s = 150 then 11 else if s = 151 then 6 else if s = 152 then 7 else 1
def md_ln : List md_Sy → Int
  | [] => 0
  | (s, _) :: K => if s = 171 then 0 else 1 + md_ln K
def md_lr : List Int → Int
  | [] => 0
  | s :: K => if s = 171 then 0 else 1 + md_lr K
def md_dp : List md_Sy → Prop
  | [] => True
  | (s, _) :: K => (s = 171 ∨ md_h0 s + md_ln K ≤ 24) ∧ md_dp K
def md_dc (h : Int) : List Int → Bool
  | [] => true
  | s :: r => (s == 171 || (if r.contains 171 then decide (md_h0 s + md_lr r ≤ 24) else decide (md_h0 s + r.length ≤ h))) && md_dc h r
def md_sh : List md_Sy → Int
  | [] => 0
  | (s, _) :: K => (if s = 171 then 1 else 0) + md_sh K
def md_on : List md_Sy → Int
  | [] => 0
  | (s, _) :: K => (if s = 170 then 1 else 0) + md_on K
def md_shr : List Int → Int
  | [] => 0
  | s :: K => (if s = 171 then 1 else 0) + md_shr K
def md_onr : List Int → Int
  | [] => 0
  | s :: K => (if s = 170 then 1 else 0) + md_onr K
def md_op (K : List md_Sy) : Prop := md_on K = 0 ∨ (∃ l K', K = (170, l) :: K' ∧ md_on K' = 0) ∨ (∃ t l l' K', K = (t, l) :: (170, l') :: K' ∧ t < 130 ∧ md_on K' = 0)
def md_oc (r : List Int) : Bool := match r with
  | t :: s :: r' => (decide (t < 130) && s == 170 && decide (md_onr r' = 0)) || decide (md_onr (t :: s :: r') = 0)
  | r => decide (md_onr r = 0)
/-- steps that are left -/
def md_cst (s : Int) : Int := if 170 ≤ s then 1 else if s < 130 then -19 else if s = 142 then 5 else if s = 140 then 7 else if s = 138 then 9 else if s = 153 then 2 else if s = 151 then 7 else if s = 147 then 3 else if s = 145 then 5 else 1
def md_st : List md_Sy → Int
  | [] => 0
  | (s, _) :: K => md_cst s + md_st K
def md_str : List Int → Int
  | [] => 0
  | s :: K => md_cst s + md_str K
def md_e1 : List md_Sy → Int
  | [] => 0
  | (s, _) :: K => (if s = 1 then 1 else 0) + md_e1 K
/-- rows begin and end in turn -/
def md_au (q : Bool) (s : Int) : Option Bool := if s = 186 then (if q then none else some true) else if s = 187 ∨ s = 136 then (if q then some true else none) else if s = 137 then (if q then some false else none) else if s = 130 then (if q then none else some false) else some q
def md_run (q : Bool) : List Int → Option Bool
  | [] => some q
  | s :: r => (md_au q s).bind (fun q' => md_run q' r)
def md_rk (p : Int) (r : List Int) : Bool := if p = 137 then md_run false r == some false else (md_au false p == none || md_run false r == md_au false p) && (md_au true p == none || md_run true r == md_au true p)
def md_ok (p : Int) (r : List Int) : Bool := decide (md_mp r ≤ 0) && decide (md_tot r ≤ md_np p) && md_dc (md_h0 p) r && decide (md_shr r = md_onr r) && md_oc r && decide (1 + md_str r ≤ md_cst p) && !(r.contains 1) && md_rk p r && decide (r.length ≤ 11) && decide (130 ≤ p) && decide (p < 170) && r.all (fun s => decide (1 ≤ s ∧ s < 256))
theorem md_ok_all : ∀ q, q ∈ md_pairs → md_ok q.1 (md_rl.getD q.2 []) = true := by decide +kernel
theorem md_rule_ok {p k : Int} {r : List Int} (h : md_rule p k = some r) : md_ok p r = true := by
  unfold md_rule at h
  cases e : md_47 p k with
  | none => rw [e] at h; cases h
  | some i =>
    rw [e] at h
    cases h
    exact md_ok_all (p, i) (md_47_mem e)
section MDP
variable {K : List md_Sy} {r : List Int} {j p : Nat} {s : Int}
theorem md_need_0 : 0 ≤ md_need K := by
  induction K with
  | nil => exact Int.le_refl _
  | cons a K ih => obtain ⟨s, l⟩ := a; unfold md_need; split <;> omega
theorem md_need_app : md_need (r.map (fun a => (a, j)) ++ K) ≤ max (md_mp r) (md_tot r + md_need K) := by
  induction r with
  | nil => show md_need K ≤ max 0 (0 + md_need K); omega
  | cons s r ih =>
    show (if 173 ≤ s then 1 + md_need (r.map (fun a => (a, j)) ++ K) else max 0 (md_wt s + md_need (r.map (fun a => (a, j)) ++ K))) ≤ max (if 173 ≤ s then 1 + md_mp r else max 0 (md_wt s + md_mp r)) (md_wt s + md_tot r + md_need K)
    split
    · rename_i h
      have : md_wt s = 1 := if_pos h
      omega
    · omega
theorem md_ln_24 (h : md_dp K) : md_ln K ≤ 24 := by
  cases K with
  | nil => show (0 : Int) ≤ 24; decide
  | cons a K =>
    obtain ⟨s, l⟩ := a
    unfold md_dp at h
    unfold md_ln
    split
    · decide
    · rename_i z
      have h0 : 1 ≤ md_h0 s := by unfold md_h0; (repeat' split) <;> omega
      have := h.1.resolve_left z
      omega
theorem md_len (h : md_dp K) : (K.length : Int) ≤ md_ln K + 25 * md_sh K := by
  induction K with
  | nil => show (0 : Int) ≤ 0 + 25 * 0; decide
  | cons a K ih =>
    obtain ⟨s, l⟩ := a
    have h1 := ih h.2
    have h2 := md_ln_24 h.2
    show ((K.length + 1 : Nat) : Int) ≤ (if s = 171 then 0 else 1 + md_ln K) + 25 * ((if s = 171 then 1 else 0) + md_sh K)
    split <;> omega
theorem md_ln_app : md_ln (r.map (fun a => (a, j)) ++ K) = if r.contains 171 then md_lr r else (r.length : Int) + md_ln K := by
  induction r with
  | nil => show md_ln K = ((0 : Nat) : Int) + md_ln K; omega
  | cons s r ih =>
    show (if s = 171 then 0 else 1 + md_ln (r.map (fun a => (a, j)) ++ K)) = if (s :: r).contains 171 then (if s = 171 then 0 else 1 + md_lr r) else ((r.length + 1 : Nat) : Int) + md_ln K
    rw [ih, List.contains_cons]
    by_cases h : s = 171
    · subst h
      rw [if_pos rfl, if_pos (by rfl), if_pos rfl]
    · have e : ((171 : Int) == s) = false := by simp; omega
      rw [if_neg h, e, Bool.false_or]
      by_cases h2 : r.contains 171 = true
      · rw [if_pos h2, if_pos h2, if_neg h]
      · rw [if_neg h2, if_neg h2]; omega
theorem md_dp_app {h : Int} (hc : md_dc h r = true) (hh : h + md_ln K ≤ 24) (hK : md_dp K) : md_dp (r.map (fun a => (a, j)) ++ K) := by
  induction r with
  | nil => exact hK
  | cons s r ih =>
    unfold md_dc at hc
    rw [Bool.and_eq_true] at hc
    refine ⟨?_, ih hc.2⟩
    by_cases z : s = 171
    · exact Or.inl z
    · right
      have e : (s == 171) = false := by simp; exact z
      rw [e, Bool.false_or] at hc
      have e2 := md_ln_app (r := r) (j := j) (K := K)
      show md_h0 s + md_ln (r.map (fun a => (a, j)) ++ K) ≤ 24
      rw [e2]
      by_cases h2 : r.contains 171 = true
      · rw [if_pos h2]; rw [if_pos h2] at hc; exact of_decide_eq_true hc.1
      · rw [if_neg h2]; rw [if_neg h2] at hc
        have := of_decide_eq_true hc.1
        omega
theorem md_sh_app : md_sh (r.map (fun a => (a, j)) ++ K) = md_shr r + md_sh K := by
  induction r with
  | nil => show md_sh K = 0 + md_sh K; omega
  | cons s r ih =>
    show (if s = 171 then 1 else 0) + md_sh (r.map (fun a => (a, j)) ++ K) = (if s = 171 then 1 else 0) + md_shr r + md_sh K
    omega
theorem md_on_app : md_on (r.map (fun a => (a, j)) ++ K) = md_onr r + md_on K := by
  induction r with
  | nil => show md_on K = 0 + md_on K; omega
  | cons s r ih =>
    show (if s = 170 then 1 else 0) + md_on (r.map (fun a => (a, j)) ++ K) = (if s = 170 then 1 else 0) + md_onr r + md_on K
    omega
theorem md_st_app : md_st (r.map (fun a => (a, j)) ++ K) = md_str r + md_st K := by
  induction r with
  | nil => show md_st K = 0 + md_st K; omega
  | cons s r ih =>
    show md_cst s + md_st (r.map (fun a => (a, j)) ++ K) = md_cst s + md_str r + md_st K
    omega
theorem md_st_low : -19 * (K.length : Int) ≤ md_st K := by
  induction K with
  | nil => decide
  | cons a K ih =>
    obtain ⟨s, l⟩ := a
    have : -19 ≤ md_cst s := by unfold md_cst; (repeat' split) <;> omega
    show -19 * ((K.length + 1 : Nat) : Int) ≤ md_cst s + md_st K
    omega
theorem md_e1_app (h : r.contains 1 = false) : md_e1 (r.map (fun a => (a, j)) ++ K) = md_e1 K := by
  induction r with
  | nil => rfl
  | cons s r ih =>
    rw [List.contains_cons, Bool.or_eq_false_iff] at h
    have e : ¬ s = 1 := by intro z; subst z; simp at h
    show (if s = 1 then 1 else 0) + md_e1 (r.map (fun a => (a, j)) ++ K) = md_e1 K
    rw [if_neg e, ih h.2]; omega
theorem md_e1_0 : 0 ≤ md_e1 K := by
  induction K with
  | nil => exact Int.le_refl _
  | cons a K ih => obtain ⟨s, l⟩ := a; unfold md_e1; split <;> omega
theorem md_on_0 : 0 ≤ md_on K := by
  induction K with
  | nil => exact Int.le_refl _
  | cons a K ih => obtain ⟨s, l⟩ := a; unfold md_on; split <;> omega
theorem md_op_1 (h : md_op K) : md_on K ≤ 1 := by
  rcases h with h | ⟨l, K', rfl, h⟩ | ⟨t, l, l', K', rfl, ht, h⟩
  · omega
  · show (if (170 : Int) = 170 then 1 else 0) + md_on K' ≤ 1
    rw [if_pos rfl]; omega
  · show (if t = 170 then 1 else 0) + ((if (170 : Int) = 170 then 1 else 0) + md_on K') ≤ 1
    rw [if_pos rfl, if_neg (by omega)]; omega
/-- what is below the top -/
theorem md_op_t {l : Nat} (h : md_op ((s, l) :: K)) : md_op K ∧ (130 ≤ s → md_on K = 0) := by
  rcases h with h | ⟨l', K', e, h⟩ | ⟨t, l1, l2, K', e, ht, h⟩
  · have h1 : (if s = 170 then 1 else 0) + md_on K = 0 := h
    have h2 := md_on_0 (K := K)
    have h3 : md_on K = 0 := by
      split at h1 <;> omega
    exact ⟨Or.inl h3, fun _ => h3⟩
  · cases e
    exact ⟨Or.inl h, fun _ => h⟩
  · cases e
    exact ⟨Or.inr (Or.inl ⟨_, _, rfl, h⟩), fun z => absurd z (by omega)⟩
theorem md_op_app (hr : md_oc r = true) (hK : md_on K = 0) : md_op (r.map (fun a => (a, j)) ++ K) := by
  have k : md_onr r = 0 → md_op (r.map (fun a => (a, j)) ++ K) := fun z => Or.inl (by rw [md_on_app, z, hK]; rfl)
  unfold md_oc at hr
  split at hr
  · rename_i t s r'
    rw [Bool.or_eq_true] at hr
    rcases hr with hr | hr
    · rw [Bool.and_eq_true, Bool.and_eq_true] at hr
      have h2 : s = 170 := by have := hr.1.2; simpa using this
      subst h2
      refine Or.inr (Or.inr ⟨t, j, j, _, rfl, of_decide_eq_true hr.1.1, ?_⟩)
      show md_on (r'.map (fun a => (a, j)) ++ K) = 0
      rw [md_on_app, of_decide_eq_true hr.2, hK]; rfl
    · exact k (of_decide_eq_true hr)
  · exact k (of_decide_eq_true hr)
theorem md_run_app {q q1 : Bool} {r1 : List Int} : md_run q (r ++ r1) = (md_run q r).bind (fun q1 => md_run q1 r1) := by
  induction r generalizing q with
  | nil => rfl
  | cons s r ih =>
    show (md_au q s).bind (fun q' => md_run q' (r ++ r1)) = ((md_au q s).bind (fun q' => md_run q' r)).bind (fun q1 => md_run q1 r1)
    cases md_au q s with
    | none => rfl
    | some q' => exact ih
end MDP
