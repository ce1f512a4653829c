/-- a branch on an unknown number -/
def aj_sy (i : Instr) (st : List Value) : Bool := match i, st with
  | .ifCond _ _, .retAddr _ :: _ => true
  | .if_icmp _ _, .retAddr _ :: _ => true
  | .if_icmp _ _, _ :: .retAddr _ :: _ => true
  | .tableswitch _ _ _ _, .retAddr _ :: _ => true
  | _, _ => false
abbrev aj_Y : Type := Option Value × aj_H × Nat × Nat × List Int × List aj_OS
def aj_frmS (kn : List (Nat × Int32)) (sid L rc : Nat) (cls : List aj_C) (tb : aj_T) (m : aj_M) (ct : List (Nat × Instr × Nat)) (isI deep : Bool) (call : Nat → List Value → aj_H → List Int → Option aj_Y) : Nat → Nat → aj_V → List Value → aj_H → Nat → Nat → List Int → Option aj_Y
  | 0, _, _, _, _, _, _, _ => none
  | n + 1, pc, lv, st, h, kc, ks, tp => match aj_ct ct pc with
    | none => none
    | some (i, len) => if aj_sy i st = true then (match tp with
        | [] => none
        | b :: tp => match aj_askS i len pc st b with
          | none => none
          | some (pc', st', o) => match aj_frmS kn sid L rc cls tb m ct isI deep call n pc' lv st' h kc ks tp with
            | none => none
            | some (r, hF, c1, s1, t1, os) => some (r, hF, c1, s1, t1, o :: os))
      else match aj_stepS kn sid L rc cls tb m.2.2.2.2.2.1 m.2.2.1 m.2.2.2.1 isI i len pc lv st h with
        | none => none
        | some (.inl ((pc', lv', st'), h', dc, ds)) => aj_frmS kn sid L rc cls tb m ct isI deep call n pc' lv' st' h' (kc + dc) (ks + ds) tp
        | some (.inr (.inl (kind, mi', as, (pc', lv', st')))) => if deep = true then (if kind = 5 then aj_frmS kn sid L rc cls tb m ct isI deep call n pc' lv' st' h kc ks tp else match call mi' as h tp with
            | none => none
            | some (r', h', c1, s1, t1, os) => if h'.length = h.length + c1 then (match aj_frmS kn sid L rc cls tb m ct isI deep call n pc' lv' (r'.toList ++ st') h' (kc + c1) (ks + s1) t1 with
              | none => none
              | some (r, hF, c2, s2, t2, os2) => some (r, hF, c2, s2, t2, os ++ os2)) else none) else none
        | some (.inr (.inr v)) => some (v, h, kc, ks, tp, [])
def aj_runsS (kn : List (Nat × Int32)) (sid L rc : Nat) (cls : List aj_C) (tb : aj_T) (mt : List aj_M) (cd : List (List (Nat × Instr × Nat))) : Nat → Nat → List Value → aj_H → List Int → Option aj_Y
  | 0, mi, as, h, tp => match mt[mi]?, cd[mi]? with
    | some m, some ct => if (lg_sl as).length ≤ m.2.2.1 then aj_frmS kn sid L rc cls tb m ct (aj_isI m) false (fun _ _ _ _ => none) 100000 0 (lv_args 0 as) [] h 0 0 tp else none
    | _, _ => none
  | d + 1, mi, as, h, tp => match mt[mi]?, cd[mi]? with
    | some m, some ct => if (lg_sl as).length ≤ m.2.2.1 then aj_frmS kn sid L rc cls tb m ct (aj_isI m) true (aj_runsS kn sid L rc cls tb mt cd d) 100000 0 (lv_args 0 as) [] h 0 0 tp else none
    | _, _ => none
section AJSYMEXEC
variable {kn : List (Nat × Int32)} {ρ xs : Nat → Int32} {tb' tb : aj_T} {sid L : Nat}
theorem aj_frmS_ok (hkn : ∀ q ∈ kn, xs q.1 = q.2) (hT : aj_sT tb' tb) (hsid : sid < tb.length ∧ tb[sid]? = some (0, L, .inl xs)) (hL : L ≤ 100) (hρ : (∀ j, j < 100 → ρ j = xs j) ∧ ∀ j, j < 100 → ρ (j + 100) = ρ j &&& 31) {rc : Nat} {cls : List aj_C} {m : aj_M} {ct : List (Nat × Instr × Nat)} (hct : aj_ctOK ct m.2.1) {isI deep : Bool} {call : Nat → List Value → aj_H → List Int → Option aj_Y} {callP : Nat → List Value → aj_H → Nat → Nat → Option Value → aj_H → Prop}
    (hcall : ∀ mi as h tp r h' c1 s1 t1 os, call mi as h tp = some (r, h', c1, s1, t1, os) → (∀ o ∈ os, aj_osOK ρ o) → callP mi (as.map (aj_sv ρ)) (aj_sH ρ h) c1 s1 (r.map (aj_sv ρ)) (aj_sH ρ h')) :
    ∀ (n pc : Nat) (lv : aj_V) (st : List Value) (h : aj_H) (kc ks : Nat) (tp : List Int) (r : Option Value) (hF : aj_H) (c1 s1 : Nat) (t1 : List Int) (os : List aj_OS), aj_frmS kn sid L rc cls tb' m ct isI deep call n pc lv st h kc ks tp = some (r, hF, c1, s1, t1, os) → (∀ o ∈ os, aj_osOK ρ o) → kc ≤ c1 ∧ ks ≤ s1 ∧ ∀ ms, s1 ≤ ms → aj_frm rc cls tb m isI deep callP n pc (aj_sV ρ lv) (st.map (aj_sv ρ)) (aj_sH ρ h) kc ks c1 ms (r.map (aj_sv ρ)) (aj_sH ρ hF) := by
  intro n
  induction n with
  | zero => intro pc lv st h kc ks tp r hF c1 s1 t1 os hx; cases hx
  | succ n ih =>
    intro pc lv st h kc ks tp r hF c1 s1 t1 os hx ho
    unfold aj_frmS at hx
    split at hx
    · cases hx
    · rename_i i len hd
      have hd := aj_ct_ok hct hd
      split at hx
      · split at hx
        · cases hx
        · rename_i b tp
          split at hx
          · cases hx
          · rename_i pc' st' o hask
            split at hx
            · cases hx
            · rename_i r2 hF2 c2 s2 t2 os2 hrec
              cases hx
              have h1 := aj_askS_ok (ρ := ρ) (rc := rc) (cls := cls) (tb := tb) (lk := m.2.2.2.2.2.1) (nL := m.2.2.1) (ret := m.2.2.2.1) (isI := isI) (lv := lv) (h := h) hask (ho o List.mem_cons_self)
              obtain ⟨g1, g2, g3⟩ := ih _ _ _ _ _ _ _ _ _ _ _ _ _ hrec (fun o' ho' => ho o' (List.mem_cons_of_mem _ ho'))
              refine ⟨g1, g2, fun ms hms => ?_⟩
              unfold aj_frm
              rw [hd]
              dsimp only
              rw [h1]
              exact ⟨g1, Nat.le_trans g2 hms, g3 ms hms⟩
      · split at hx
        · cases hx
        · rename_i pc' lv' st' h' dc ds hs
          have hs := aj_stepS_ok (ρ := ρ) hkn hT hsid hL hρ hs
          obtain ⟨g1, g2, g3⟩ := ih _ _ _ _ _ _ _ _ _ _ _ _ _ hx ho
          refine ⟨by omega, by omega, fun ms hms => ?_⟩
          unfold aj_frm
          rw [hd]
          dsimp only
          rw [hs]
          exact ⟨g1, Nat.le_trans g2 hms, g3 ms hms⟩
        · rename_i kind mi' as pc' lv' st' hs
          have hs := aj_stepS_ok (ρ := ρ) hkn hT hsid hL hρ hs
          split at hx
          · rename_i hdeep
            split at hx
            · rename_i hk5
              obtain ⟨g1, g2, g3⟩ := ih _ _ _ _ _ _ _ _ _ _ _ _ _ hx ho
              refine ⟨g1, g2, fun ms hms => ?_⟩
              unfold aj_frm
              rw [hd]
              dsimp only
              rw [hs]
              exact ⟨hdeep, Or.inl ⟨hk5, g3 ms hms⟩⟩
            · rename_i hk5
              split at hx
              · cases hx
              · rename_i r2 h2 c2 s2 t2 os2 hcl
                split at hx
                · rename_i hlen
                  split at hx
                  · cases hx
                  · rename_i r3 h3 c3 s3 t3 os3 hrec
                    cases hx
                    have hp := hcall _ _ _ _ _ _ _ _ _ _ hcl (fun o ho' => ho o (List.mem_append_left _ ho'))
                    obtain ⟨g1, g2, g3⟩ := ih _ _ _ _ _ _ _ _ _ _ _ _ _ hrec (fun o ho' => ho o (List.mem_append_right _ ho'))
                    refine ⟨by omega, by omega, fun ms hms => ?_⟩
                    unfold aj_frm
                    rw [hd]
                    dsimp only
                    rw [hs]
                    have e : (r2.map (aj_sv ρ)).toList ++ st'.map (aj_sv ρ) = (r2.toList ++ st').map (aj_sv ρ) := by cases r2 <;> rfl
                    refine ⟨hdeep, Or.inr ⟨hk5, c2, s2, r2.map (aj_sv ρ), aj_sH ρ h2, hp, by rw [aj_sH_len, aj_sH_len]; exact hlen, g1, Nat.le_trans g2 hms, ?_⟩⟩
                    rw [e]
                    exact g3 ms hms
                · cases hx
          · cases hx
        · rename_i v hs
          have hs := aj_stepS_ok (ρ := ρ) hkn hT hsid hL hρ hs
          cases hx
          refine ⟨Nat.le_refl _, Nat.le_refl _, fun ms hms => ?_⟩
          unfold aj_frm
          rw [hd]
          dsimp only
          rw [hs]
          exact ⟨rfl, rfl, rfl⟩
theorem aj_args_s (as : List Value) : ∀ i, lv_args i (as.map (aj_sv ρ)) = aj_sV ρ (lv_args i as) := by
  induction as with
  | nil => intro i; rfl
  | cons v vs ih =>
    intro i
    simp only [List.map_cons, lv_args, aj_sv_cat, ih, aj_sV]
theorem aj_lsl_s (as : List Value) : (lg_sl (as.map (aj_sv ρ))).length = (lg_sl as).length := by
  unfold lg_sl
  induction as with
  | nil => rfl
  | cons v vs ih =>
    simp only [List.map_cons, List.flatMap_cons, List.length_append, ih, aj_sv_cat]
    congr 1
    split <;> rfl
theorem aj_runsS_ok (hkn : ∀ q ∈ kn, xs q.1 = q.2) (hT : aj_sT tb' tb) (hsid : sid < tb.length ∧ tb[sid]? = some (0, L, .inl xs)) (hL : L ≤ 100) (hρ : (∀ j, j < 100 → ρ j = xs j) ∧ ∀ j, j < 100 → ρ (j + 100) = ρ j &&& 31) {rc : Nat} {cls : List aj_C} {mt : List aj_M} {cd : List (List (Nat × Instr × Nat))} (hcd : ∀ (i : Nat) (m : aj_M) (ct : List (Nat × Instr × Nat)), mt[i]? = some m → cd[i]? = some ct → aj_ctOK ct m.2.1) : ∀ (d mi : Nat) (as : List Value) (h : aj_H) (tp : List Int) (r : Option Value) (h' : aj_H) (c1 s1 : Nat) (t1 : List Int) (os : List aj_OS), aj_runsS kn sid L rc cls tb' mt cd d mi as h tp = some (r, h', c1, s1, t1, os) → (∀ o ∈ os, aj_osOK ρ o) → aj_runs rc cls tb mt d mi (as.map (aj_sv ρ)) (aj_sH ρ h) c1 s1 (r.map (aj_sv ρ)) (aj_sH ρ h') := by
  intro d
  induction d with
  | zero =>
    intro mi as h tp r h' c1 s1 t1 os hx ho
    unfold aj_runsS at hx
    split at hx
    · rename_i m ct hm hc
      split at hx
      · rename_i hl
        have g := (aj_frmS_ok hkn hT hsid hL hρ (hcd _ _ _ hm hc) (callP := fun _ _ _ _ _ _ _ => False) (fun _ _ _ _ _ _ _ _ _ _ z => by cases z) _ _ _ _ _ _ _ _ _ _ _ _ _ _ hx ho).2.2 s1 (Nat.le_refl _)
        rw [← aj_args_s] at g
        exact ⟨m, hm, by rw [aj_lsl_s]; exact hl, 100000, g⟩
      · cases hx
    · cases hx
  | succ d ih =>
    intro mi as h tp r h' c1 s1 t1 os hx ho
    unfold aj_runsS at hx
    split at hx
    · rename_i m ct hm hc
      split at hx
      · rename_i hl
        have g := (aj_frmS_ok hkn hT hsid hL hρ (hcd _ _ _ hm hc) ih _ _ _ _ _ _ _ _ _ _ _ _ _ _ hx ho).2.2 s1 (Nat.le_refl _)
        rw [← aj_args_s] at g
        exact ⟨m, hm, by rw [aj_lsl_s]; exact hl, 100000, g⟩
      · cases hx
    · cases hx
end AJSYMEXEC
/-- a run up to the place 'stop', without told branches -/
def aj_frmT (kn : List (Nat × Int32)) (sid L rc : Nat) (cls : List aj_C) (tb : aj_T) (m : aj_M) (ct : List (Nat × Instr × Nat)) (isI deep : Bool) (call : Nat → List Value → aj_H → List Int → Option aj_Y) (stop : Nat) : Nat → Nat → aj_V → List Value → aj_H → Nat → Nat → Option (aj_V × List Value × aj_H × Nat × Nat)
  | 0, _, _, _, _, _, _ => none
  | n + 1, pc, lv, st, h, kc, ks => if pc = stop then some (lv, st, h, kc, ks) else match aj_ct ct pc with
    | none => none
    | some (i, len) => match aj_stepS kn sid L rc cls tb m.2.2.2.2.2.1 m.2.2.1 m.2.2.2.1 isI i len pc lv st h with
        | none => none
        | some (.inl ((pc', lv', st'), h', dc, ds)) => aj_frmT kn sid L rc cls tb m ct isI deep call stop n pc' lv' st' h' (kc + dc) (ks + ds)
        | some (.inr (.inl (kind, mi', as, (pc', lv', st')))) => if deep = true then (if kind = 5 then aj_frmT kn sid L rc cls tb m ct isI deep call stop n pc' lv' st' h kc ks else match call mi' as h [] with
            | some (r', h', c1, s1, _, []) => if h'.length = h.length + c1 then aj_frmT kn sid L rc cls tb m ct isI deep call stop n pc' lv' (r'.toList ++ st') h' (kc + c1) (ks + s1) else none
            | _ => none) else none
        | some (.inr (.inr _)) => none
section AJSYMTO
variable {kn : List (Nat × Int32)} {ρ xs : Nat → Int32} {tb' tb : aj_T} {sid L : Nat}
theorem aj_frmT_ok (hkn : ∀ q ∈ kn, xs q.1 = q.2) (hT : aj_sT tb' tb) (hsid : sid < tb.length ∧ tb[sid]? = some (0, L, .inl xs)) (hL : L ≤ 100) (hρ : (∀ j, j < 100 → ρ j = xs j) ∧ ∀ j, j < 100 → ρ (j + 100) = ρ j &&& 31) {rc : Nat} {cls : List aj_C} {m : aj_M} {ct : List (Nat × Instr × Nat)} (hct : aj_ctOK ct m.2.1) {isI deep : Bool} {call : Nat → List Value → aj_H → List Int → Option aj_Y} {callP : Nat → List Value → aj_H → Nat → Nat → Option Value → aj_H → Prop}
    (hcall : ∀ mi as h tp r h' c1 s1 t1 os, call mi as h tp = some (r, h', c1, s1, t1, os) → (∀ o ∈ os, aj_osOK ρ o) → callP mi (as.map (aj_sv ρ)) (aj_sH ρ h) c1 s1 (r.map (aj_sv ρ)) (aj_sH ρ h')) {stop mc ms : Nat} {r : Option Value} {hF : aj_H} :
    ∀ (n pc : Nat) (lv : aj_V) (st : List Value) (h : aj_H) (kc ks : Nat) (lv1 : aj_V) (st1 : List Value) (h1 : aj_H) (k1 s1 : Nat), aj_frmT kn sid L rc cls tb' m ct isI deep call stop n pc lv st h kc ks = some (lv1, st1, h1, k1, s1) → k1 ≤ mc → s1 ≤ ms → (∃ n1, aj_frm rc cls tb m isI deep callP n1 stop (aj_sV ρ lv1) (st1.map (aj_sv ρ)) (aj_sH ρ h1) k1 s1 mc ms r hF) → kc ≤ k1 ∧ ks ≤ s1 ∧ ∃ n2, aj_frm rc cls tb m isI deep callP n2 pc (aj_sV ρ lv) (st.map (aj_sv ρ)) (aj_sH ρ h) kc ks mc ms r hF := by
  intro n
  induction n with
  | zero => intro pc lv st h kc ks lv1 st1 h1 k1 s1 hx; cases hx
  | succ n ih =>
    intro pc lv st h kc ks lv1 st1 h1 k1 s1 hx hk1 hs1 hcont
    unfold aj_frmT at hx
    split at hx
    · rename_i hpc
      cases hx
      rw [hpc]
      exact ⟨Nat.le_refl _, Nat.le_refl _, hcont⟩
    · split at hx
      · cases hx
      · rename_i i len hd
        have hd := aj_ct_ok hct hd
        split at hx
        · cases hx
        · rename_i pc' lv' st' h' dc ds hs
          have hs := aj_stepS_ok (ρ := ρ) hkn hT hsid hL hρ hs
          obtain ⟨g1, g2, n2, g3⟩ := ih _ _ _ _ _ _ _ _ _ _ _ hx hk1 hs1 hcont
          refine ⟨by omega, by omega, n2 + 1, ?_⟩
          unfold aj_frm
          rw [hd]
          dsimp only
          rw [hs]
          exact ⟨Nat.le_trans g1 hk1, Nat.le_trans g2 hs1, g3⟩
        · rename_i kind mi' as pc' lv' st' hs
          have hs := aj_stepS_ok (ρ := ρ) hkn hT hsid hL hρ hs
          split at hx
          · rename_i hdeep
            split at hx
            · rename_i hk5
              obtain ⟨g1, g2, n2, g3⟩ := ih _ _ _ _ _ _ _ _ _ _ _ hx hk1 hs1 hcont
              refine ⟨g1, g2, n2 + 1, ?_⟩
              unfold aj_frm
              rw [hd]
              dsimp only
              rw [hs]
              exact ⟨hdeep, Or.inl ⟨hk5, g3⟩⟩
            · rename_i hk5
              split at hx
              · rename_i r2 h2 c2 s2 t2 hcl
                split at hx
                · rename_i hlen
                  have hp := hcall _ _ _ _ _ _ _ _ _ _ hcl (fun o ho' => absurd ho' List.not_mem_nil)
                  obtain ⟨g1, g2, n2, g3⟩ := ih _ _ _ _ _ _ _ _ _ _ _ hx hk1 hs1 hcont
                  refine ⟨by omega, by omega, n2 + 1, ?_⟩
                  unfold aj_frm
                  rw [hd]
                  dsimp only
                  rw [hs]
                  have e : (r2.map (aj_sv ρ)).toList ++ st'.map (aj_sv ρ) = (r2.toList ++ st').map (aj_sv ρ) := by cases r2 <;> rfl
                  refine ⟨hdeep, Or.inr ⟨hk5, c2, s2, r2.map (aj_sv ρ), aj_sH ρ h2, hp, by rw [aj_sH_len, aj_sH_len]; exact hlen, Nat.le_trans g1 hk1, Nat.le_trans g2 hs1, ?_⟩⟩
                  rw [e]
                  exact g3
                · cases hx
              · cases hx
          · cases hx
        · cases hx
end AJSYMTO
