/-! THE ABSTRACT MACHINE AS A FUNCTION: at the branches that 'fl' names (method, pc) the way is told by a row of numbers, and what has to hold for it is handed back -/
abbrev aj_O : Type := (ClassFile.Cond × Int32 × Int32 × Bool) ⊕ (Int32 × Int)
def aj_oOK : aj_O → Prop
  | .inl (c, x, y, b) => aj_test c x y = b
  | .inr (x, k) => x.toInt = k
def aj_fl (fl : List (Nat × Nat)) (mi pc : Nat) : Bool := fl.any fun q => q.1 == mi && q.2 == pc
/-- at a told branch: where to, the stack, what has to hold -/
def aj_ask (i : Instr) (len pc : Nat) (st : List Value) (b : Int) : Option (Nat × List Value × aj_O) := match i with
  | .ifCond c off => match st with
    | .int x :: r => if len = 3 ∧ 0 ≤ (pc : Int) + off then some (if b = 1 then ((pc : Int) + off).toNat else pc + 3, r, .inl (c, x, 0, decide (b = 1))) else none
    | _ => none
  | .if_icmp c off => match st with
    | .int y :: .int x :: r => if len = 3 ∧ 0 ≤ (pc : Int) + off then some (if b = 1 then ((pc : Int) + off).toNat else pc + 3, r, .inl (c, x, y, decide (b = 1))) else none
    | _ => none
  | .tableswitch dflt lo hi offs => match st with
    | .int x :: r => if b < lo ∨ hi < b then (if 0 ≤ (pc : Int) + dflt then some (((pc : Int) + dflt).toNat, r, .inr (x, b)) else none) else match offs[(b - lo).toNat]? with
      | some off => if 0 ≤ (pc : Int) + off then some (((pc : Int) + off).toNat, r, .inr (x, b)) else none
      | none => none
    | _ => none
  | _ => none
def aj_ct (ct : List (Nat × Instr × Nat)) (pc : Nat) : Option (Instr × Nat) := (ct.find? (fun q => q.1 == pc)).map (fun q => q.2)
/-- the list is the code's -/
def aj_ctOK (ct : List (Nat × Instr × Nat)) (b : ByteArray) : Prop := ∀ q ∈ ct, decode b q.1 = .ok q.2
theorem aj_ct_ok {ct : List (Nat × Instr × Nat)} {b : ByteArray} (hc : aj_ctOK ct b) {pc : Nat} {i : Instr} {len : Nat} (h : aj_ct ct pc = some (i, len)) : decode b pc = .ok (i, len) := by
  unfold aj_ct at h
  obtain ⟨q, hq, he⟩ := Option.map_eq_some_iff.mp h
  have h1 := List.find?_some hq
  have h2 := hc q (List.mem_of_find?_eq_some hq)
  have h3 : q.1 = pc := by simpa using h1
  rw [h3, he] at h2
  exact h2
abbrev aj_X : Type := Option Value × aj_H × Nat × Nat × List Int × List aj_O
def aj_frmX (rc : Nat) (cls : List aj_C) (tb : aj_T) (fl : List (Nat × Nat)) (mi : Nat) (m : aj_M) (ct : List (Nat × Instr × Nat)) (isI deep : Bool) (call : Nat → List Value → aj_H → List Int → Option aj_X) : Nat → Nat → aj_V → List Value → aj_H → Nat → Nat → List Int → Option aj_X
  | 0, _, _, _, _, _, _, _ => none
  | n + 1, pc, lv, st, h, kc, ks, tp => match aj_ct ct pc with
    | none => none
    | some (i, len) => if aj_fl fl mi pc = true then (match tp with
        | [] => none
        | b :: tp => match aj_ask i len pc st b with
          | none => none
          | some (pc', st', o) => match aj_frmX rc cls tb fl mi m ct isI deep call n pc' lv st' h kc ks tp with
            | none => none
            | some (r, hF, c1, s1, t1, os) => some (r, hF, c1, s1, t1, o :: os))
      else match aj_step rc cls tb m.2.2.2.2.2.1 m.2.2.1 m.2.2.2.1 isI i len pc lv st h with
        | none => none
        | some (.inl ((pc', lv', st'), h', dc, ds)) => aj_frmX rc cls tb fl mi m ct isI deep call n pc' lv' st' h' (kc + dc) (ks + ds) tp
        | some (.inr (.inl (kind, mi', as, (pc', lv', st')))) => if deep = true then (if kind = 5 then aj_frmX rc cls tb fl mi m ct isI deep call n pc' lv' st' h kc ks tp else match call mi' as h tp with
            | none => none
            | some (r', h', c1, s1, t1, os) => if h'.length = h.length + c1 then (match aj_frmX rc cls tb fl mi m ct isI deep call n pc' lv' (r'.toList ++ st') h' (kc + c1) (ks + s1) t1 with
              | none => none
              | some (r, hF, c2, s2, t2, os2) => some (r, hF, c2, s2, t2, os ++ os2)) else none) else none
        | some (.inr (.inr v)) => some (v, h, kc, ks, tp, [])
def aj_runsX (rc : Nat) (cls : List aj_C) (tb : aj_T) (mt : List aj_M) (cd : List (List (Nat × Instr × Nat))) (fl : List (Nat × Nat)) : Nat → Nat → List Value → aj_H → List Int → Option aj_X
  | 0, mi, as, h, tp => match mt[mi]?, cd[mi]? with
    | some m, some ct => if (lg_sl as).length ≤ m.2.2.1 then aj_frmX rc cls tb fl mi m ct (aj_isI m) false (fun _ _ _ _ => none) 100000 0 (lv_args 0 as) [] h 0 0 tp else none
    | _, _ => none
  | d + 1, mi, as, h, tp => match mt[mi]?, cd[mi]? with
    | some m, some ct => if (lg_sl as).length ≤ m.2.2.1 then aj_frmX rc cls tb fl mi m ct (aj_isI m) true (aj_runsX rc cls tb mt cd fl d) 100000 0 (lv_args 0 as) [] h 0 0 tp else none
    | _, _ => none
theorem aj_ask_ok {rc : Nat} {cls : List aj_C} {tb : aj_T} {lk : List aj_L} {nL : Nat} {ret : Option FieldType} {isI : Bool} {i : Instr} {len pc pc' : Nat} {lv : aj_V} {st st' : List Value} {h : aj_H} {b : Int} {o : aj_O} (h0 : aj_ask i len pc st b = some (pc', st', o)) (ho : aj_oOK o) : aj_step rc cls tb lk nL ret isI i len pc lv st h = some (.inl ((pc', lv, st'), h, 0, 0)) := by
  unfold aj_ask at h0
  split at h0
  · split at h0
    · split at h0
      · rename_i hq
        obtain ⟨rfl, hp⟩ := hq
        cases h0
        have ho : aj_test _ _ _ = _ := ho
        simp only [aj_step, if_true, aj_br, if_pos hp, aj_go]
        by_cases hb : b = 1
        · simp [hb] at ho
          simp [hb, ho]
        · simp [hb] at ho
          simp [hb, ho]
      · cases h0
    · cases h0
  · split at h0
    · split at h0
      · rename_i hq
        obtain ⟨rfl, hp⟩ := hq
        cases h0
        have ho : aj_test _ _ _ = _ := ho
        simp only [aj_step, if_true, aj_br, if_pos hp, aj_go]
        by_cases hb : b = 1
        · simp [hb] at ho
          simp [hb, ho]
        · simp [hb] at ho
          simp [hb, ho]
      · cases h0
    · cases h0
  · split at h0
    · split at h0
      · rename_i hq
        split at h0
        · rename_i hp
          cases h0
          have ho : Int32.toInt _ = _ := ho
          simp only [aj_step, ho, if_pos hq, aj_jump, if_pos hp, aj_go]
        · cases h0
      · rename_i hq
        split at h0
        · rename_i off hoff
          split at h0
          · rename_i hp
            cases h0
            have ho : Int32.toInt _ = _ := ho
            simp only [aj_step, ho, if_neg hq, hoff, aj_jump, if_pos hp, aj_go]
          · cases h0
        · cases h0
    · cases h0
  · cases h0
theorem aj_frmX_ok {rc : Nat} {cls : List aj_C} {tb : aj_T} {fl : List (Nat × Nat)} {mi : Nat} {m : aj_M} {ct : List (Nat × Instr × Nat)} (hct : aj_ctOK ct m.2.1) {isI deep : Bool} {call : Nat → List Value → aj_H → List Int → Option aj_X} {callP : Nat → List Value → aj_H → Nat → Nat → Option Value → aj_H → Prop}
    (hcall : ∀ mi as h tp r h' c1 s1 t1 os, call mi as h tp = some (r, h', c1, s1, t1, os) → (∀ o ∈ os, aj_oOK o) → callP mi as h c1 s1 r h') :
    ∀ (n pc : Nat) (lv : aj_V) (st : List Value) (h : aj_H) (kc ks : Nat) (tp : List Int) (r : Option Value) (hF : aj_H) (c1 s1 : Nat) (t1 : List Int) (os : List aj_O), aj_frmX rc cls tb fl mi m ct isI deep call n pc lv st h kc ks tp = some (r, hF, c1, s1, t1, os) → (∀ o ∈ os, aj_oOK o) → kc ≤ c1 ∧ ks ≤ s1 ∧ ∀ ms, s1 ≤ ms → aj_frm rc cls tb m isI deep callP n pc lv st h kc ks c1 ms r hF := by
  intro n
  induction n with
  | zero => intro pc lv st h kc ks tp r hF c1 s1 t1 os hx; cases hx
  | succ n ih =>
    intro pc lv st h kc ks tp r hF c1 s1 t1 os hx ho
    unfold aj_frmX at hx
    split at hx
    · cases hx
    · rename_i i len hd
      have hd := aj_ct_ok hct hd
      split at hx
      · split at hx
        · cases hx
        · rename_i b tp
          split at hx
          · cases hx
          · rename_i pc' st' o hask
            split at hx
            · cases hx
            · rename_i r2 hF2 c2 s2 t2 os2 hrec
              cases hx
              have h1 := aj_ask_ok (rc := rc) (cls := cls) (tb := tb) (lk := m.2.2.2.2.2.1) (nL := m.2.2.1) (ret := m.2.2.2.1) (isI := isI) (lv := lv) (h := h) hask (ho o List.mem_cons_self)
              obtain ⟨g1, g2, g3⟩ := ih _ _ _ _ _ _ _ _ _ _ _ _ _ hrec (fun o' ho' => ho o' (List.mem_cons_of_mem _ ho'))
              refine ⟨g1, g2, fun ms hms => ?_⟩
              unfold aj_frm
              rw [hd]
              dsimp only
              rw [h1]
              exact ⟨g1, Nat.le_trans g2 hms, g3 ms hms⟩
      · split at hx
        · cases hx
        · rename_i pc' lv' st' h' dc ds hs
          obtain ⟨g1, g2, g3⟩ := ih _ _ _ _ _ _ _ _ _ _ _ _ _ hx ho
          refine ⟨by omega, by omega, fun ms hms => ?_⟩
          unfold aj_frm
          rw [hd]
          dsimp only
          rw [hs]
          exact ⟨g1, Nat.le_trans g2 hms, g3 ms hms⟩
        · rename_i kind mi' as pc' lv' st' hs
          split at hx
          · rename_i hdeep
            split at hx
            · rename_i hk5
              obtain ⟨g1, g2, g3⟩ := ih _ _ _ _ _ _ _ _ _ _ _ _ _ hx ho
              refine ⟨g1, g2, fun ms hms => ?_⟩
              unfold aj_frm
              rw [hd]
              dsimp only
              rw [hs]
              exact ⟨hdeep, Or.inl ⟨hk5, g3 ms hms⟩⟩
            · rename_i hk5
              split at hx
              · cases hx
              · rename_i r2 h2 c2 s2 t2 os2 hcl
                split at hx
                · rename_i hlen
                  split at hx
                  · cases hx
                  · rename_i r3 h3 c3 s3 t3 os3 hrec
                    cases hx
                    have hp := hcall _ _ _ _ _ _ _ _ _ _ hcl (fun o ho' => ho o (List.mem_append_left _ ho'))
                    obtain ⟨g1, g2, g3⟩ := ih _ _ _ _ _ _ _ _ _ _ _ _ _ hrec (fun o ho' => ho o (List.mem_append_right _ ho'))
                    refine ⟨by omega, by omega, fun ms hms => ?_⟩
                    unfold aj_frm
                    rw [hd]
                    dsimp only
                    rw [hs]
                    exact ⟨hdeep, Or.inr ⟨hk5, c2, s2, r2, h2, hp, hlen, g1, Nat.le_trans g2 hms, g3 ms hms⟩⟩
                · cases hx
          · cases hx
        · rename_i v hs
          cases hx
          refine ⟨Nat.le_refl _, Nat.le_refl _, fun ms hms => ?_⟩
          unfold aj_frm
          rw [hd]
          dsimp only
          rw [hs]
          exact ⟨rfl, rfl, rfl⟩
theorem aj_runsX_ok {rc : Nat} {cls : List aj_C} {tb : aj_T} {mt : List aj_M} {cd : List (List (Nat × Instr × Nat))} (hcd : ∀ (i : Nat) (m : aj_M) (ct : List (Nat × Instr × Nat)), mt[i]? = some m → cd[i]? = some ct → aj_ctOK ct m.2.1) {fl : List (Nat × Nat)} : ∀ (d mi : Nat) (as : List Value) (h : aj_H) (tp : List Int) (r : Option Value) (h' : aj_H) (c1 s1 : Nat) (t1 : List Int) (os : List aj_O), aj_runsX rc cls tb mt cd fl d mi as h tp = some (r, h', c1, s1, t1, os) → (∀ o ∈ os, aj_oOK o) → aj_runs rc cls tb mt d mi as h c1 s1 r h' := by
  intro d
  induction d with
  | zero =>
    intro mi as h tp r h' c1 s1 t1 os hx ho
    unfold aj_runsX at hx
    split at hx
    · rename_i m ct hm hc
      split at hx
      · rename_i hl
        exact ⟨m, hm, hl, 100000, (aj_frmX_ok (hcd _ _ _ hm hc) (fun _ _ _ _ _ _ _ _ _ _ z => by cases z) _ _ _ _ _ _ _ _ _ _ _ _ _ _ hx ho).2.2 s1 (Nat.le_refl _)⟩
      · cases hx
    · cases hx
  | succ d ih =>
    intro mi as h tp r h' c1 s1 t1 os hx ho
    unfold aj_runsX at hx
    split at hx
    · rename_i m ct hm hc
      split at hx
      · rename_i hl
        exact ⟨m, hm, hl, 100000, (aj_frmX_ok (hcd _ _ _ hm hc) ih _ _ _ _ _ _ _ _ _ _ _ _ _ _ hx ho).2.2 s1 (Nat.le_refl _)⟩
      · cases hx
    · cases hx
