/-! THE CLASS'S WORKER: how many TABLES -/
section CE22
variable {W n wd : Nat} {val : md_V} {tb : List (List md_Row)} {sk : List md_Q} {tr pt : List (Nat → Bool)} {sd : md_Sd × md_Sd} {rel fo fd a arg : Int} {rt : Nat} {pk : Option (List Nat)} {near l : Nat} {ws ws' : md_WS}
theorem md_wk_tl (h : md_wk W n val wd (tb, sk, tr, sd, rel, pt, rt, pk, fo, fd) (a, near, l) arg = md_k ws') : (a = 184 ∨ a = 192 → ws'.1.length = tb.length + 1) ∧ (a ≠ 184 → a ≠ 192 → ws'.1.length = tb.length) := by
  have no2 : ∀ {x : md_WS}, (some none : md_O md_WS) = md_k x → False := fun z => by unfold md_k at z; cases z
  unfold md_wk at h
  dsimp only at h
  by_cases c184 : a = 184
  · rw [if_pos c184] at h
    repeat' split at h
    all_goals first
      | exact (md_k_no h).elim
      | exact (no2 h).elim
      | (have e := md_k_inj h
         subst e
         first
           | exact ⟨fun z => by omega, fun _ _ => rfl⟩
           | exact ⟨fun _ => (by show (tb ++ [_]).length = _; rw [List.length_append]; rfl), fun _ _ => by omega⟩
           | exact ⟨fun z => by omega, fun _ _ => (by show (tb.modify _ _).length = _; rw [List.length_modify])⟩)
  rw [if_neg c184] at h
  by_cases c186 : a = 186
  · rw [if_pos c186] at h
    repeat' split at h
    all_goals first
      | exact (md_k_no h).elim
      | exact (no2 h).elim
      | (have e := md_k_inj h
         subst e
         first
           | exact ⟨fun z => by omega, fun _ _ => rfl⟩
           | exact ⟨fun _ => (by show (tb ++ [_]).length = _; rw [List.length_append]; rfl), fun _ _ => by omega⟩
           | exact ⟨fun z => by omega, fun _ _ => (by show (tb.modify _ _).length = _; rw [List.length_modify])⟩)
  rw [if_neg c186] at h
  by_cases c187 : a = 187
  · rw [if_pos c187] at h
    repeat' split at h
    all_goals first
      | exact (md_k_no h).elim
      | exact (no2 h).elim
      | (have e := md_k_inj h
         subst e
         first
           | exact ⟨fun z => by omega, fun _ _ => rfl⟩
           | exact ⟨fun _ => (by show (tb ++ [_]).length = _; rw [List.length_append]; rfl), fun _ _ => by omega⟩
           | exact ⟨fun z => by omega, fun _ _ => (by show (tb.modify _ _).length = _; rw [List.length_modify])⟩)
  rw [if_neg c187] at h
  by_cases c188 : a = 188
  · rw [if_pos c188] at h
    repeat' split at h
    all_goals first
      | exact (md_k_no h).elim
      | exact (no2 h).elim
      | (have e := md_k_inj h
         subst e
         first
           | exact ⟨fun z => by omega, fun _ _ => rfl⟩
           | exact ⟨fun _ => (by show (tb ++ [_]).length = _; rw [List.length_append]; rfl), fun _ _ => by omega⟩
           | exact ⟨fun z => by omega, fun _ _ => (by show (tb.modify _ _).length = _; rw [List.length_modify])⟩)
  rw [if_neg c188] at h
  by_cases c190 : a = 190
  · rw [if_pos c190] at h
    repeat' split at h
    all_goals first
      | exact (md_k_no h).elim
      | exact (no2 h).elim
      | (have e := md_k_inj h
         subst e
         first
           | exact ⟨fun z => by omega, fun _ _ => rfl⟩
           | exact ⟨fun _ => (by show (tb ++ [_]).length = _; rw [List.length_append]; rfl), fun _ _ => by omega⟩
           | exact ⟨fun z => by omega, fun _ _ => (by show (tb.modify _ _).length = _; rw [List.length_modify])⟩)
  rw [if_neg c190] at h
  by_cases c192 : a = 192
  · rw [if_pos c192] at h
    repeat' split at h
    all_goals first
      | exact (md_k_no h).elim
      | exact (no2 h).elim
      | (have e := md_k_inj h
         subst e
         first
           | exact ⟨fun z => by omega, fun _ _ => rfl⟩
           | exact ⟨fun _ => (by show (tb ++ [_]).length = _; rw [List.length_append]; rfl), fun _ _ => by omega⟩
           | exact ⟨fun z => by omega, fun _ _ => (by show (tb.modify _ _).length = _; rw [List.length_modify])⟩)
  rw [if_neg c192] at h
  by_cases c200 : a = 200
  · rw [if_pos c200] at h
    repeat' split at h
    all_goals first
      | exact (md_k_no h).elim
      | exact (no2 h).elim
      | (have e := md_k_inj h
         subst e
         first
           | exact ⟨fun z => by omega, fun _ _ => rfl⟩
           | exact ⟨fun _ => (by show (tb ++ [_]).length = _; rw [List.length_append]; rfl), fun _ _ => by omega⟩
           | exact ⟨fun z => by omega, fun _ _ => (by show (tb.modify _ _).length = _; rw [List.length_modify])⟩)
  rw [if_neg c200] at h
  by_cases c201 : a = 201
  · rw [if_pos c201] at h
    repeat' split at h
    all_goals first
      | exact (md_k_no h).elim
      | exact (no2 h).elim
      | (have e := md_k_inj h
         subst e
         first
           | exact ⟨fun z => by omega, fun _ _ => rfl⟩
           | exact ⟨fun _ => (by show (tb ++ [_]).length = _; rw [List.length_append]; rfl), fun _ _ => by omega⟩
           | exact ⟨fun z => by omega, fun _ _ => (by show (tb.modify _ _).length = _; rw [List.length_modify])⟩)
  rw [if_neg c201] at h
  by_cases c202 : a = 202
  · rw [if_pos c202] at h
    repeat' split at h
    all_goals first
      | exact (md_k_no h).elim
      | exact (no2 h).elim
      | (have e := md_k_inj h
         subst e
         first
           | exact ⟨fun z => by omega, fun _ _ => rfl⟩
           | exact ⟨fun _ => (by show (tb ++ [_]).length = _; rw [List.length_append]; rfl), fun _ _ => by omega⟩
           | exact ⟨fun z => by omega, fun _ _ => (by show (tb.modify _ _).length = _; rw [List.length_modify])⟩)
  rw [if_neg c202] at h
  by_cases c203 : a = 203
  · rw [if_pos c203] at h
    repeat' split at h
    all_goals first
      | exact (md_k_no h).elim
      | exact (no2 h).elim
      | (have e := md_k_inj h
         subst e
         first
           | exact ⟨fun z => by omega, fun _ _ => rfl⟩
           | exact ⟨fun _ => (by show (tb ++ [_]).length = _; rw [List.length_append]; rfl), fun _ _ => by omega⟩
           | exact ⟨fun z => by omega, fun _ _ => (by show (tb.modify _ _).length = _; rw [List.length_modify])⟩)
  rw [if_neg c203] at h
  by_cases c204 : a = 204
  · rw [if_pos c204] at h
    repeat' split at h
    all_goals first
      | exact (md_k_no h).elim
      | exact (no2 h).elim
      | (have e := md_k_inj h
         subst e
         first
           | exact ⟨fun z => by omega, fun _ _ => rfl⟩
           | exact ⟨fun _ => (by show (tb ++ [_]).length = _; rw [List.length_append]; rfl), fun _ _ => by omega⟩
           | exact ⟨fun z => by omega, fun _ _ => (by show (tb.modify _ _).length = _; rw [List.length_modify])⟩)
  rw [if_neg c204] at h
  by_cases c205 : a = 205
  · rw [if_pos c205] at h
    repeat' split at h
    all_goals first
      | exact (md_k_no h).elim
      | exact (no2 h).elim
      | (have e := md_k_inj h
         subst e
         first
           | exact ⟨fun z => by omega, fun _ _ => rfl⟩
           | exact ⟨fun _ => (by show (tb ++ [_]).length = _; rw [List.length_append]; rfl), fun _ _ => by omega⟩
           | exact ⟨fun z => by omega, fun _ _ => (by show (tb.modify _ _).length = _; rw [List.length_modify])⟩)
  rw [if_neg c205] at h
  by_cases c206 : a = 206
  · rw [if_pos c206] at h
    repeat' split at h
    all_goals first
      | exact (md_k_no h).elim
      | exact (no2 h).elim
      | (have e := md_k_inj h
         subst e
         first
           | exact ⟨fun z => by omega, fun _ _ => rfl⟩
           | exact ⟨fun _ => (by show (tb ++ [_]).length = _; rw [List.length_append]; rfl), fun _ _ => by omega⟩
           | exact ⟨fun z => by omega, fun _ _ => (by show (tb.modify _ _).length = _; rw [List.length_modify])⟩)
  rw [if_neg c206] at h
  by_cases c207 : a = 207
  · rw [if_pos c207] at h
    repeat' split at h
    all_goals first
      | exact (md_k_no h).elim
      | exact (no2 h).elim
      | (have e := md_k_inj h
         subst e
         first
           | exact ⟨fun z => by omega, fun _ _ => rfl⟩
           | exact ⟨fun _ => (by show (tb ++ [_]).length = _; rw [List.length_append]; rfl), fun _ _ => by omega⟩
           | exact ⟨fun z => by omega, fun _ _ => (by show (tb.modify _ _).length = _; rw [List.length_modify])⟩)
  rw [if_neg c207] at h
  by_cases c210 : a = 210
  · rw [if_pos c210] at h
    repeat' split at h
    all_goals first
      | exact (md_k_no h).elim
      | exact (no2 h).elim
      | (have e := md_k_inj h
         subst e
         first
           | exact ⟨fun z => by omega, fun _ _ => rfl⟩
           | exact ⟨fun _ => (by show (tb ++ [_]).length = _; rw [List.length_append]; rfl), fun _ _ => by omega⟩
           | exact ⟨fun z => by omega, fun _ _ => (by show (tb.modify _ _).length = _; rw [List.length_modify])⟩)
  rw [if_neg c210] at h
  by_cases c211 : a = 211
  · rw [if_pos c211] at h
    repeat' split at h
    all_goals first
      | exact (md_k_no h).elim
      | exact (no2 h).elim
      | (have e := md_k_inj h
         subst e
         first
           | exact ⟨fun z => by omega, fun _ _ => rfl⟩
           | exact ⟨fun _ => (by show (tb ++ [_]).length = _; rw [List.length_append]; rfl), fun _ _ => by omega⟩
           | exact ⟨fun z => by omega, fun _ _ => (by show (tb.modify _ _).length = _; rw [List.length_modify])⟩)
  rw [if_neg c211] at h
  by_cases c212 : a = 212
  · rw [if_pos c212] at h
    repeat' split at h
    all_goals first
      | exact (md_k_no h).elim
      | exact (no2 h).elim
      | (have e := md_k_inj h
         subst e
         first
           | exact ⟨fun z => by omega, fun _ _ => rfl⟩
           | exact ⟨fun _ => (by show (tb ++ [_]).length = _; rw [List.length_append]; rfl), fun _ _ => by omega⟩
           | exact ⟨fun z => by omega, fun _ _ => (by show (tb.modify _ _).length = _; rw [List.length_modify])⟩)
  rw [if_neg c212] at h
  by_cases c213 : a = 213
  · rw [if_pos c213] at h
    repeat' split at h
    all_goals first
      | exact (md_k_no h).elim
      | exact (no2 h).elim
      | (have e := md_k_inj h
         subst e
         first
           | exact ⟨fun z => by omega, fun _ _ => rfl⟩
           | exact ⟨fun _ => (by show (tb ++ [_]).length = _; rw [List.length_append]; rfl), fun _ _ => by omega⟩
           | exact ⟨fun z => by omega, fun _ _ => (by show (tb.modify _ _).length = _; rw [List.length_modify])⟩)
  rw [if_neg c213] at h
  by_cases c214 : a = 214
  · rw [if_pos c214] at h
    repeat' split at h
    all_goals first
      | exact (md_k_no h).elim
      | exact (no2 h).elim
      | (have e := md_k_inj h
         subst e
         first
           | exact ⟨fun z => by omega, fun _ _ => rfl⟩
           | exact ⟨fun _ => (by show (tb ++ [_]).length = _; rw [List.length_append]; rfl), fun _ _ => by omega⟩
           | exact ⟨fun z => by omega, fun _ _ => (by show (tb.modify _ _).length = _; rw [List.length_modify])⟩)
  rw [if_neg c214] at h
  by_cases c215 : a = 215
  · rw [if_pos c215] at h
    repeat' split at h
    all_goals first
      | exact (md_k_no h).elim
      | exact (no2 h).elim
      | (have e := md_k_inj h
         subst e
         first
           | exact ⟨fun z => by omega, fun _ _ => rfl⟩
           | exact ⟨fun _ => (by show (tb ++ [_]).length = _; rw [List.length_append]; rfl), fun _ _ => by omega⟩
           | exact ⟨fun z => by omega, fun _ _ => (by show (tb.modify _ _).length = _; rw [List.length_modify])⟩)
  rw [if_neg c215] at h
  by_cases c216 : a = 216
  · rw [if_pos c216] at h
    repeat' split at h
    all_goals first
      | exact (md_k_no h).elim
      | exact (no2 h).elim
      | (have e := md_k_inj h
         subst e
         first
           | exact ⟨fun z => by omega, fun _ _ => rfl⟩
           | exact ⟨fun _ => (by show (tb ++ [_]).length = _; rw [List.length_append]; rfl), fun _ _ => by omega⟩
           | exact ⟨fun z => by omega, fun _ _ => (by show (tb.modify _ _).length = _; rw [List.length_modify])⟩)
  rw [if_neg c216] at h
  by_cases c217 : a = 217
  · rw [if_pos c217] at h
    repeat' split at h
    all_goals first
      | exact (md_k_no h).elim
      | exact (no2 h).elim
      | (have e := md_k_inj h
         subst e
         first
           | exact ⟨fun z => by omega, fun _ _ => rfl⟩
           | exact ⟨fun _ => (by show (tb ++ [_]).length = _; rw [List.length_append]; rfl), fun _ _ => by omega⟩
           | exact ⟨fun z => by omega, fun _ _ => (by show (tb.modify _ _).length = _; rw [List.length_modify])⟩)
  rw [if_neg c217] at h
  by_cases c221 : a = 221
  · rw [if_pos c221] at h
    repeat' split at h
    all_goals first
      | exact (md_k_no h).elim
      | exact (no2 h).elim
      | (have e := md_k_inj h
         subst e
         first
           | exact ⟨fun z => by omega, fun _ _ => rfl⟩
           | exact ⟨fun _ => (by show (tb ++ [_]).length = _; rw [List.length_append]; rfl), fun _ _ => by omega⟩
           | exact ⟨fun z => by omega, fun _ _ => (by show (tb.modify _ _).length = _; rw [List.length_modify])⟩)
  rw [if_neg c221] at h
  by_cases c222 : a = 222
  · rw [if_pos c222] at h
    repeat' split at h
    all_goals first
      | exact (md_k_no h).elim
      | exact (no2 h).elim
      | (have e := md_k_inj h
         subst e
         first
           | exact ⟨fun z => by omega, fun _ _ => rfl⟩
           | exact ⟨fun _ => (by show (tb ++ [_]).length = _; rw [List.length_append]; rfl), fun _ _ => by omega⟩
           | exact ⟨fun z => by omega, fun _ _ => (by show (tb.modify _ _).length = _; rw [List.length_modify])⟩)
  rw [if_neg c222] at h
  by_cases c223 : a = 223
  · rw [if_pos c223] at h
    repeat' split at h
    all_goals first
      | exact (md_k_no h).elim
      | exact (no2 h).elim
      | (have e := md_k_inj h
         subst e
         first
           | exact ⟨fun z => by omega, fun _ _ => rfl⟩
           | exact ⟨fun _ => (by show (tb ++ [_]).length = _; rw [List.length_append]; rfl), fun _ _ => by omega⟩
           | exact ⟨fun z => by omega, fun _ _ => (by show (tb.modify _ _).length = _; rw [List.length_modify])⟩)
  rw [if_neg c223] at h
  have e := md_k_inj h
  subst e
  exact ⟨fun z => by omega, fun _ _ => rfl⟩
end CE22
