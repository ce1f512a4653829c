/-! STEPS OF THE REFERENCE'S METHODS OVER ITS CELLS AS FUNCTIONS -/
section AJMST
variable {rc : Nat} {cls : List aj_C} {tb : aj_T} {m : aj_M} {isI deep : Bool} {call : Nat → List Value → aj_H → Nat → Nat → Option Value → aj_H → Prop} {pc : Nat} {lv : aj_V} {rest : List Value} {h : aj_H} {S : aj_S} {kc ks mc ms : Nat} {r : Option Value} {hF : aj_H} {ct : List (Nat × Instr × Nat)}
theorem aj_mo (hl : 98 ≤ h.length) (htb : tb.length = 52) (S : aj_S) : aj_obj tb (aj_mh h S) 117 = some (11, aj_mf S) := by
  unfold aj_obj
  rw [htb, if_neg (by decide)]
  have e : (aj_mh h S)[117 - 52]? = some (aj_mc S 0) := aj_mh_get hl S (k := 0) (by decide)
  rw [e]
  rfl
theorem aj_ma (hl : 98 ≤ h.length) (htb : tb.length = 52) (S : aj_S) {k kd n : Nat} (hk : k < 33) (hk0 : k ≠ 0) (hm : aj_ml[k]? = some (kd, n)) (hkd : kd ≠ 1) : aj_arr tb (aj_mh h S) (117 + k) = some (kd, n, .inl (S.2.2.1 k)) := by
  unfold aj_arr
  rw [htb, if_neg (by omega)]
  have e : (aj_mh h S)[117 + k - 52]? = some (aj_mc S k) := by
    rw [show 117 + k - 52 = 65 + k by omega]
    exact aj_mh_get hl S hk
  rw [e]
  unfold aj_mc
  rw [if_neg hk0, hm]
  dsimp only
  rw [if_neg hkd]
theorem aj_mal (hl : 98 ≤ h.length) (htb : tb.length = 52) (S : aj_S) {k n : Nat} (hk : k < 33) (hk0 : k ≠ 0) (hm : aj_ml[k]? = some (1, n)) : (aj_mh h S)[117 + k - 52]? = some (.inl (1, n, .inr (.inl (S.2.2.2 k)))) := by
  rw [show 117 + k - 52 = 65 + k by omega, aj_mh_get hl S hk]
  unfold aj_mc
  rw [if_neg hk0, hm]
  dsimp only
  rw [if_pos rfl]
/-- getfield of the reference's object -/
theorem aj_mg (hl : 98 ≤ h.length) (htb : tb.length = 52) (hct : aj_ctOK ct m.2.1) (hk : kc ≤ mc ∧ ks ≤ ms) {idx : Nat} (hd : aj_ct ct pc = some (.getfield idx, 3)) {kind k : Nat} {fin : Int} (hlk : aj_link m.2.2.2.2.2.1 idx = some (kind, 11, k, fin)) (hk2 : kind < 2) {v : Value} (hv : (aj_mf S)[k]? = some v) (kk : aj_TF rc cls tb m isI deep call (pc + 3) lv (v :: rest) (aj_mh h S) kc ks mc ms r hF) : aj_TF rc cls tb m isI deep call pc lv (.ref 117 :: rest) (aj_mh h S) kc ks mc ms r hF :=
  aj_tg hct hk hd hlk hk2 (aj_mo hl htb S) hv kk
/-- putfield of an int or a boolean of the reference's object -/
theorem aj_mp (hl : 98 ≤ h.length) (htb : tb.length = 52) (hct : aj_ctOK ct m.2.1) (hk : kc ≤ mc ∧ ks ≤ ms) {idx : Nat} (hd : aj_ct ct pc = some (.putfield idx, 3)) {k : Nat} (hlk : aj_link m.2.2.2.2.2.1 idx = some (0, 11, k, 0)) (hki : k ∈ aj_mi) {q : aj_C} (hc : cls[11]? = some q) {v : Int32} (hf : aj_fit (q.2.2.2 k) (.int v) = true) (kk : aj_TF rc cls tb m isI deep call (pc + 3) lv rest (aj_mh h (aj_u S.1 k v, S.2)) kc ks mc ms r hF) : aj_TF rc cls tb m isI deep call pc lv (.int v :: .ref 117 :: rest) (aj_mh h S) kc ks mc ms r hF := by
  have hlen : k < (aj_mf S).length := by
    have h1 : aj_mi.all (fun k => decide (k < 72)) = true := by decide
    have h2 := of_decide_eq_true (List.all_eq_true.mp h1 k hki)
    exact h2
  refine aj_tp hct hk hd hlk (by decide) (Or.inl rfl) (aj_mo hl htb S) hc hlen hf ?_
  rw [htb, show 117 - 52 = 65 from rfl, aj_mh_fld hki]
  exact kk
/-- a load from an array of the reference -/
theorem aj_mld (hl : 98 ≤ h.length) (htb : tb.length = 52) (hct : aj_ctOK ct m.2.1) (hk : kc ≤ mc ∧ ks ≤ ms) {i : Instr} {k kd n : Nat} (hi : i = .iaload ∧ kd = 0 ∨ i = .caload ∧ kd = 3 ∨ i = .baload ∧ kd = 2 ∨ i = .baload ∧ kd = 4) (hd : aj_ct ct pc = some (i, 1)) (hk3 : k < 33) (hk0 : k ≠ 0) (hm : aj_ml[k]? = some (kd, n)) {x : Int32} (hx : aj_in x n = true) (kk : aj_TF rc cls tb m isI deep call (pc + 1) lv (.int (S.2.2.1 k x.toNatClampNeg) :: rest) (aj_mh h S) kc ks mc ms r hF) : aj_TF rc cls tb m isI deep call pc lv (.int x :: .ref (117 + k) :: rest) (aj_mh h S) kc ks mc ms r hF :=
  aj_ta hct hk hi hd (aj_ma hl htb S hk3 hk0 hm (by rcases hi with ⟨-, rfl⟩ | ⟨-, rfl⟩ | ⟨-, rfl⟩ | ⟨-, rfl⟩ <;> decide)) hx kk
/-- a store into an array of the reference -/
theorem aj_mst (hl : 98 ≤ h.length) (htb : tb.length = 52) (hct : aj_ctOK ct m.2.1) (hk : kc ≤ mc ∧ ks ≤ ms) {i : Instr} {k kd n : Nat} (hi : i = .iastore ∧ kd = 0 ∨ i = .castore ∧ kd = 3 ∨ i = .bastore ∧ kd = 2 ∨ i = .bastore ∧ kd = 4) (hd : aj_ct ct pc = some (i, 1)) (hk3 : k < 33) (hk0 : k ≠ 0) (hm : aj_ml[k]? = some (kd, n)) {x v : Int32} (hx : aj_in x n = true) (kk : aj_TF rc cls tb m isI deep call (pc + 1) lv rest (aj_mh h (S.1, S.2.1, aj_u S.2.2.1 k (upd (S.2.2.1 k) x.toNatClampNeg (aj_nar kd v)), S.2.2.2)) kc ks mc ms r hF) : aj_TF rc cls tb m isI deep call pc lv (.int v :: .int x :: .ref (117 + k) :: rest) (aj_mh h S) kc ks mc ms r hF := by
  have hkd : kd ≠ 1 := by rcases hi with ⟨-, rfl⟩ | ⟨-, rfl⟩ | ⟨-, rfl⟩ | ⟨-, rfl⟩ <;> decide
  have ha := aj_ma (tb := tb) hl htb S hk3 hk0 hm hkd
  have ha2 : (aj_mh h S)[117 + k - tb.length]? = some (.inl (kd, n, .inl (S.2.2.1 k))) := by
    rw [htb, show 117 + k - 52 = 65 + k by omega, aj_mh_get hl S hk3]
    unfold aj_mc
    rw [if_neg hk0, hm]
    dsimp only
    rw [if_neg hkd]
  refine aj_ts hct hk hi hd (by rw [htb]; omega) ha2 hx ?_
  rw [htb, show 117 + k - 52 = 65 + k by omega, aj_mh_arr hk3 hk0 hm hkd]
  exact kk
end AJMST
