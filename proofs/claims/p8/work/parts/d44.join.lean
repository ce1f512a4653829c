/-! THE REFERENCE: join, COLUMN by COLUMN: the model's lists -/
section DD44
variable {n m k w c : Nat} {val : md_V} {ts us : List md_Tm} {b : md_Tm} {lx ly : List Int64} {n8 : Int64}
theorem md_nw_t : ∀ {us : List md_Tm} {m k : Nat}, us[k]? = some b → md_nw n m (us.take (k + 1)) = md_nw n m (us.take k) ++ (if m / 8 ^ k % 8 < n then [] else [b])
  | [], _, _, h => by rw [List.getElem?_nil] at h; cases h
  | u :: us, m, 0, h => by
    have h : u = b := Option.some.inj h
    subst h
    rw [Nat.pow_zero, Nat.div_one]
    show (if m % 8 < n then [] else [u]) ++ md_nw n (m / 8) (us.take 0) = [] ++ _
    rw [List.take_zero, List.nil_append]
    exact List.append_nil _
  | u :: us, m, k + 1, h => by
    have h : us[k]? = some b := h
    show (if m % 8 < n then [] else [u]) ++ md_nw n (m / 8) (us.take (k + 1)) = ((if m % 8 < n then [] else [u]) ++ md_nw n (m / 8) (us.take k)) ++ _
    rw [md_nw_t h, List.append_assoc, Nat.div_div_eq_div_mul, show 8 * 8 ^ k = 8 ^ (k + 1) by rw [Nat.pow_succ, Nat.mul_comm]]
theorem md_mt_t : ∀ {us : List md_Tm} {m k : Nat}, us[k]? = some b → md_mt val w ts m (us.take (k + 1)) = (md_mt val w ts m (us.take k) && (if m / 8 ^ k % 8 < ts.length then md_cv val w (ts.getD (m / 8 ^ k % 8) (false, Int32.ofInt 0)) == md_cv val w b else true))
  | [], _, _, h => by rw [List.getElem?_nil] at h; cases h
  | u :: us, m, 0, h => by
    have h : u = b := Option.some.inj h
    subst h
    rw [Nat.pow_zero, Nat.div_one]
    show ((if m % 8 < ts.length then md_cv val w (ts.getD (m % 8) (false, Int32.ofInt 0)) == md_cv val w u else true) && true) = (true && _)
    rw [Bool.and_true, Bool.true_and]
  | u :: us, m, k + 1, h => by
    have h : us[k]? = some b := h
    show ((if m % 8 < ts.length then md_cv val w (ts.getD (m % 8) (false, Int32.ofInt 0)) == md_cv val w u else true) && md_mt val w ts (m / 8) (us.take (k + 1))) = (((if m % 8 < ts.length then md_cv val w (ts.getD (m % 8) (false, Int32.ofInt 0)) == md_cv val w u else true) && md_mt val w ts (m / 8) (us.take k)) && _)
    rw [md_mt_t h, ← Bool.and_assoc, Nat.div_div_eq_div_mul, show 8 * 8 ^ k = 8 ^ (k + 1) by rw [Nat.pow_succ, Nat.mul_comm]]
/-- which COLUMNS are new -/
theorem md_dg_new (h6 : lx.length ≤ 6) (hn : ly[k]? = some n8) : (md_ix n8 lx 0 < 0 ∧ ¬ md_map lx ly 0 / 8 ^ k % 8 < lx.length) ∨ (¬ md_ix n8 lx 0 < 0 ∧ md_map lx ly 0 / 8 ^ k % 8 < lx.length ∧ md_ix n8 lx 0 = ((md_map lx ly 0 / 8 ^ k % 8 : Nat) : Int)) := by
  rw [md_map_dg h6 hn]
  rcases md_dg_7 (n := n8) h6 with ⟨h1, h2⟩ | ⟨h1, h2, h3, h4⟩
  · exact Or.inl ⟨h1, by omega⟩
  · exact Or.inr ⟨h1, (List.getElem?_eq_some_iff.mp h4).1, h3⟩
theorem md_nwl (h6 : lx.length ≤ 6) (hl : us.length = ly.length) : ∀ c, c ≤ ly.length → (md_nw lx.length (md_map lx ly 0) (us.take c)).length = (md_new lx (ly.take c)).length := by
  intro c
  induction c with
  | zero => intro _; rfl
  | succ c ih =>
    intro hc
    have h1 : us[c]? = some us[c] := List.getElem?_eq_getElem (by omega)
    have h2 : ly[c]? = some ly[c] := List.getElem?_eq_getElem (by omega)
    rw [md_nw_t h1, md_new_take h2, List.length_append, List.length_append, ih (by omega)]
    rcases md_dg_new h6 h2 with ⟨a1, a2⟩ | ⟨a1, a2, -⟩
    · rw [if_neg a2, if_pos a1]; rfl
    · rw [if_pos a2, if_neg a1]; rfl
end DD44
