/-! THE MODEL: what the events of a text are like -/
/-- symbols: COLUMNS are told of a new TABLE alone; no event that no one works on -/
def md_b2 (q : Bool) (s : Int) : Option Bool := if s = 59 then some false else if s < 130 then some q else if s = 208 ∨ s = 209 then none else if s = 184 then (if q then none else some true) else if s = 185 ∨ s = 135 then (if q then some true else none) else (if q then none else some false)
def md_r2 (q : Bool) : List Int → Option Bool
  | [] => some q
  | s :: r => (md_b2 q s).bind (fun q' => md_r2 q' r)
def md_k2 (p : Int) (r : List Int) : Bool := (md_b2 false p == none || md_r2 false r == md_b2 false p) && (md_b2 true p == none || md_r2 true r == md_b2 true p)
theorem md_k2_all : ∀ q, q ∈ md_pairs → md_k2 q.1 (md_rl.getD q.2 []) = true := by decide +kernel
def md_e2 : Bool → List md_Ev → Prop
  | _, [] => True
  | q, e :: es => (e.1 = 185 → q = true) ∧ e.1 ≠ 208 ∧ e.1 ≠ 209 ∧ md_e2 (e.1 == 184 || e.1 == 185) es
section ME26
variable {T : md_T} {p p' : md_CS × Int} {U : md_U} {cu : Option (Int64 × List Int32)} {TB : md_TB} {rw : Int × Int} {sk : List (List Int64)} {pk : List Int64} {fr : Int64} {a : Int} {near lead : Nat} {s s2 : md_CS} {as : List Int} {q : Bool}
theorem md_r2_app : ∀ (a b : List Int) (q : Bool), md_r2 q (a ++ b) = (md_r2 q a).bind (fun q' => md_r2 q' b)
  | [], b, q => rfl
  | s :: a, b, q => by
    show (md_b2 q s).bind (fun q' => md_r2 q' (a ++ b)) = ((md_b2 q s).bind (fun q' => md_r2 q' a)).bind (fun q' => md_r2 q' b)
    cases md_b2 q s with
    | none => rfl
    | some q' => exact md_r2_app a b q'
theorem md_k2_rule {p k : Int} {r : List Int} (h : md_rule p k = some r) : md_k2 p r = true := by
  unfold md_rule at h
  cases e : md_47 p k with
  | none => rw [e] at h; cases h
  | some i =>
    rw [e] at h
    cases h
    exact md_k2_all _ (md_47_mem e)
theorem md_k2_b {p : Int} {r : List Int} {q q' : Bool} (h : md_k2 p r = true) (h1 : md_b2 q p = some q') : md_r2 q r = some q' := by
  unfold md_k2 at h
  rw [Bool.and_eq_true, Bool.or_eq_true, Bool.or_eq_true] at h
  cases q with
  | false =>
    rcases h.1 with z | z
    · rw [h1] at z; cases z
    · rw [beq_iff_eq] at z; rw [z]; exact h1
  | true =>
    rcases h.2 with z | z
    · rw [h1] at z; cases z
    · rw [beq_iff_eq] at z; rw [z]; exact h1
theorem md_am_e2 : ∀ (n : Nat) (K : List md_Sy) (j near : Nat) (c : md_C) (nm : md_Nm) (q q' b : Bool) (es : List md_Ev), md_am T n K j near c nm = some (some es) → md_r2 q (K.map (·.1)) = some b → (q = true → q' = true) → md_e2 q' es := by
  intro n
  induction n with
  | zero => intro K j near c nm q q' b es h; cases h
  | succ n ih =>
    intro K j near c nm q q' b es h hr hq
    cases K with
    | nil =>
      have : [] = es := Option.some.inj (Option.some.inj h)
      subst this
      exact True.intro
    | cons x K =>
      obtain ⟨s, l⟩ := x
      have hr' : (md_b2 q s).bind (fun q' => md_r2 q' (K.map (·.1))) = some b := hr
      cases hb : md_b2 q s with
      | none => rw [hb] at hr'; cases hr'
      | some q1 =>
        rw [hb] at hr'
        have hr' : md_r2 q1 (K.map (·.1)) = some b := hr'
        unfold md_am at h
        by_cases z : 170 ≤ s
        · rw [if_pos z] at h
          cases hm : md_room s (T.2 near) c nm with
          | none => rw [hm] at h; cases h
          | some p =>
            rw [hm] at h
            obtain ⟨es', h1, rfl⟩ := md_cs_some h
            unfold md_b2 at hb
            rw [if_neg (by omega), if_neg (by omega)] at hb
            by_cases z1 : s = 208 ∨ s = 209
            · rw [if_pos z1] at hb; cases hb
            rw [if_neg z1] at hb
            refine ⟨fun z2 => ?_, fun y => z1 (Or.inl y), fun y => z1 (Or.inr y), ih K j near p.1 p.2 q1 _ b es' h1 hr' (fun z2 => ?_)⟩
            · have z2 : s = 185 := z2
              rw [if_neg (by omega), if_pos (Or.inl z2)] at hb
              cases q with
              | false => cases hb
              | true => exact hq rfl
            · show (s == 184 || s == 185) = true
              by_cases z3 : s = 184
              · rw [z3]; rfl
              · rw [if_neg z3] at hb
                by_cases z4 : s = 185 ∨ s = 135
                · have z5 : s = 185 := by omega
                  rw [z5]; rfl
                · rw [if_neg z4] at hb
                  cases q with
                  | false => rw [z2] at hb; cases hb
                  | true => cases hb
        · rw [if_neg z] at h
          by_cases z2 : 130 ≤ s
          · rw [if_pos z2] at h
            cases hm : md_rule s (T.1 j) with
            | none => rw [hm] at h; cases h
            | some r =>
              rw [hm] at h
              have hk := md_k2_b (md_k2_rule hm) hb
              have hK : md_r2 q ((r.map (fun a => (a, j)) ++ K).map (·.1)) = some b := by
                rw [List.map_append, List.map_map]
                have : r.map ((fun x : md_Sy => x.1) ∘ fun a => (a, j)) = r := by
                  rw [show ((fun x : md_Sy => x.1) ∘ fun a => (a, j)) = id from rfl, List.map_id]
                rw [this, md_r2_app, hk]
                exact hr'
              by_cases z3 : s = 137
              · dsimp only at h
                rw [if_pos z3] at h
                obtain ⟨es', h1, rfl⟩ := md_cs_some h
                refine ⟨fun y => by have y : (137 : Int) = 185 := y; omega, fun y => by have y : (137 : Int) = 208 := y; omega, fun y => by have y : (137 : Int) = 209 := y; omega, ih _ j near c nm q _ b es' h1 hK (fun z4 => ?_)⟩
                rw [z3, z4] at hb
                cases hb
              · dsimp only at h
                rw [if_neg z3] at h
                exact ih _ j near c nm q q' b es h hK hq
          · rw [if_neg z2] at h
            by_cases z3 : T.1 j = s
            · rw [if_pos z3] at h
              by_cases z4 : 1000 ≤ j ∧ s ≠ 1
              · rw [if_pos z4] at h; cases h
              · rw [if_neg z4] at h
                refine ih K (j + 1) j c nm q1 q' b es h hr' (fun z5 => hq ?_)
                unfold md_b2 at hb
                by_cases z6 : s = 59
                · rw [if_pos z6, z5] at hb; cases hb
                · rw [if_neg z6, if_pos (by omega), z5] at hb
                  exact Option.some.inj hb
            · rw [if_neg z3] at h; cases h
end ME26
