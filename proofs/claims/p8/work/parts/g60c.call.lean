/-! CALLS OF WHAT THE CHECKER DECIDED, from methods by hand -/
section CWC
variable {T : ak_TT} {SP : List Nat → aj_H → Prop} {tb : aj_T} {d : Nat} {con : ak_Con} {s u : List Nat} {h h' : aj_H} {i c k kd n t : Nat} {v : Value} {x : cw_X} {lo hi : Int}
theorem cw_q0 {v0 : Option Value} : ak_gQ tb h v0 [] := by
  intro e he
  cases he
theorem cw_rI {r : Option Value} (h0 : ak_gR s (some (.inl (lo, hi))) r) : ∃ b : Int32, r = some (.int b) ∧ lo ≤ b.toInt ∧ b.toInt ≤ hi := by
  cases r with
  | none => exact h0.elim
  | some v =>
    obtain ⟨b, rfl, hb⟩ := ak_gi h0
    exact ⟨b, rfl, hb⟩
theorem cw_rN {r : Option Value} (h0 : ak_gR s none r) : r = none := by
  cases r with
  | none => rfl
  | some v => exact h0.elim
theorem cw_rR {r : Option Value} (h0 : ak_gR s (some (.inr (some ([t], false)))) r) (h1 : 52 ≤ t) : ∃ i, r = some (.ref (52 + i)) ∧ s[i]? = some t := by
  cases r with
  | none => exact h0.elim
  | some v =>
    obtain ⟨i, rfl, hi⟩ := cw_gr h0 h1
    exact ⟨i, rfl, hi⟩
theorem cw_rRn {r : Option Value} (h0 : ak_gR s (some (.inr (some ([t], true)))) r) (h1 : 52 ≤ t) : r = some .null ∨ ∃ i, r = some (.ref (52 + i)) ∧ s[i]? = some t := by
  cases r with
  | none => exact h0.elim
  | some v =>
    rcases cw_grn h0 h1 with rfl | ⟨i, rfl, hi⟩
    · exact Or.inl rfl
    · exact Or.inr ⟨i, rfl, hi⟩
theorem cw_rL {r : Option Value} (h0 : ak_gR s (some (.inr none)) r) : ∃ b : Int64, r = some (.long b) := by
  cases r with
  | none => exact h0.elim
  | some v =>
    obtain ⟨b, rfl⟩ := cw_gl h0
    exact ⟨b, rfl⟩
theorem cw_sapp (h0 : s[i]? = some t) : (s ++ u)[i]? = some t := by
  rw [List.getElem?_append_left (List.getElem?_eq_some_iff.mp h0).1]
  exact h0
/-- what the checker decided, where nothing that is seen changes -/
abbrev cw_SP1 (s0 : List Nat) (h0 : aj_H) : List Nat → aj_H → Prop := fun s h => cw_B s ∧ (s = s0 ∧ cw_o h = cw_o h0)
theorem cw_SP1c {T : ak_TT} (s0 : List Nat) (h0 : aj_H) (hT1 : T.2.2.1 = ak_spTC) (hT2 : T.2.2.2 = ak_spFC) : ak_SPc T (cw_SP1 s0 h0) := cw_SPI (I := fun s o => s = s0 ∧ o = cw_o h0) hT1 hT2
theorem cw_a1 {k : Nat} (hd : k ≤ d) (hC : ak_CT T (cw_SP1 s h) cw_kap tb k con) {as : List Value} (hT : ak_Ty T s h) (hB : cw_B s) (hQ : con.2.2.2.2.1 = []) (hA : ak_gA s con.2.1 as) : cw_K T (fun s' _ h' => s' = s ∧ cw_o h' = cw_o h) tb d con as s h := by
  refine cw_mono (fun s' r h' hh => hh.1.2) (cw_of (SP := cw_SP1 s h) hd hC hT ⟨hB, rfl, rfl⟩ hA (by rw [hQ]; exact cw_q0))
theorem cw_trF (ho : cw_o h' = cw_o h) (hk : (c, k) ∈ ak_spFC) (hF : cw_F h i c k v) : cw_F h' i c k v := (cw_fo_F hk).mp (ho ▸ (cw_fo_F hk).mpr hF)
theorem cw_trA (ho : cw_o h' = cw_o h) (hs : ((ak_s0[i]?).map (fun t => ak_spTC.contains t)) = some true) (hA : cw_A h i kd n x) : cw_A h' i kd n x := by
  have := (cw_oa_A hs).mpr hA
  refine (cw_oa_A hs).mp ?_
  have e : cw_oa h' i = cw_oa h i := congrFun (congrArg Prod.snd ho) i
  rw [e]
  exact this
end CWC
theorem cw_cls {T : ak_TT} {s : List Nat} {h : aj_H} {i t c : Nat} (hT : ak_Ty T s h) (hs : s[i]? = some t) (ht : T.1[t]? = some (.inl c)) : ∃ fs : List Value, h[i]? = some (.inr (c, fs)) := by
  obtain ⟨-, e, he, hc⟩ := hT.2 i t hs
  unfold ak_cOK at hc
  rw [ht] at hc
  obtain ⟨fs, rfl, -⟩ := hc
  exact ⟨fs, he⟩
theorem cw_nsp {s : List Nat} {i t : Nat} (hB : cw_B s) (hs : s[i]? = some t) (ht : t ∉ ak_spTC) : ((ak_s0[i]?).map (fun t => ak_spTC.contains t)) ≠ some true := by
  intro z
  cases e : ak_s0[i]? with
  | none => rw [e] at z; cases z
  | some t' =>
    rw [e] at z
    have := cw_s0 hB e
    rw [hs] at this
    cases this
    simp at z
    exact ht z
theorem cw_I_eq {X : Option Nat} {s : List Nat} {h h' : aj_H} (ho : cw_o h' = cw_o h) (hI : cw_I X s h) : cw_I X s h' := by
  unfold cw_I at hI ⊢
  rw [ho]
  exact hI
