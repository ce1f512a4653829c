/-! THE REFERENCE'S PUBLIC METHODS OVER A HEAP (printed by wip/p2/ref/r35.py) -/
/-- a call of the reference returns an int; the bytes of its tape behind it -/
def ar_PB2 (tb : aj_T) (d m : Nat) (as : List Value) (s : List Nat) (h : aj_H) (R : Int32 → Int32 → Prop) : Prop := ∃ (z x2 : Int32) (h' : aj_H), aj_runs aj_rc aj_cls tb aj_mt d m as h 0 0 (some (.int z)) h' ∧ ak_Ty ak_C0 s h' ∧ cw_I cw_XB s h' ∧ aw_B (aw_xS h') ∧ (∀ i, i < 65 ∨ 98 ≤ i → h'[i]? = h[i]?) ∧ aw_xf h' 23 = x2 ∧ R z x2
section ARA35
variable {tb : aj_T} {s : List Nat} {h h' : aj_H} {S S' S1 S2 : aj_S} {d m : Nat} {as : List Value}
theorem ar_len (hT : ak_Ty ak_C0 s h) (hB : cw_B s) : 98 ≤ h.length := by
  obtain ⟨u, rfl, -⟩ := hB
  rw [hT.1, List.length_append, cw_s98]
  omega
theorem ar_hy (hT : ak_Ty ak_C0 s h) (hB : cw_B s) : aw_hy s h := by
  refine ⟨hT.1, hB, fun i c fs hi he => ?_⟩
  have hl := (List.getElem?_eq_some_iff.mp he).1
  have hs : s[i]? = some (s[i]'(by rw [← hT.1]; exact hl)) := List.getElem?_eq_getElem _
  generalize s[i]'(by rw [← hT.1]; exact hl) = t at hs
  have n63 : t ≠ 63 := by
    intro z
    subst z
    have h63 : ∀ a, a < 98 → ak_s0[a]? = some 63 → a = 65 := by decide +kernel
    obtain ⟨h1, h2⟩ := cw_cell hB hs (by decide)
    have := h63 i h1 h2
    omega
  obtain ⟨-, e, e1, hk⟩ := hT.2 i t hs
  rw [he] at e1
  cases e1
  unfold ak_cOK at hk
  have q1 : (List.range 134).all (fun t => decide (t = 63) || (match ak_ti[t]? with | some (.inl c) => decide (c < 11) && (match ak_ft0[c]? with | some fa => decide (fa.length ≤ 40) | none => true) | _ => true)) = true := by decide +kernel
  cases hq : ak_C0.1[t]? with
  | none =>
    rw [hq] at hk
    exact hk.elim
  | some w =>
    rw [hq] at hk
    have hq' : ak_ti[t]? = some w := hq
    have q2 := List.all_eq_true.mp q1 t (List.mem_range.mpr (cw_tlt hq'))
    rw [hq', decide_eq_false n63, Bool.false_or] at q2
    cases w with
    | inl c' =>
      obtain ⟨fs', e3, fa, e4, e5, -⟩ := hk
      cases e3
      have e4 : ak_ft0[c]? = some fa := e4
      dsimp only at q2
      rw [e4, Bool.and_eq_true] at q2
      refine ⟨of_decide_eq_true q2.1, ?_⟩
      have := of_decide_eq_true q2.2
      omega
    | inr w =>
      obtain ⟨n, x, e3, -⟩ := hk
      cases e3
theorem ar_o (h0 : ∀ i, i < 65 ∨ 98 ≤ i → h'[i]? = h[i]?) : cw_ex (List.range' 65 33) (cw_o h) (cw_o h') := by
  intro i hi
  have hi : i < 65 ∨ 98 ≤ i := by
    rw [List.mem_range'_1] at hi
    omega
  refine ⟨?_, ?_⟩
  · show cw_ob h' i = cw_ob h i
    unfold cw_ob
    rw [h0 i hi]
  · show cw_oa h' i = cw_oa h i
    unfold cw_oa
    rw [h0 i hi]
theorem ar_I (hI : cw_I cw_XB s h) (h0 : ∀ i, i < 65 ∨ 98 ≤ i → h'[i]? = h[i]?) : cw_I cw_XB s h' := by
  have e := ar_o h0
  exact ⟨hI.1, cw_wds_ex e (by decide) hI.2.1, cw_dis_ex e (by decide) hI.2.2.1, cw_gd_ex e (by decide) hI.2.2.2.1, cw_HR_ex e (by decide) (by decide) hI.2.2.2.2⟩
theorem ar_raw (htb : ak_tbOK ak_C0 tb) (hT : ak_Ty ak_C0 s h) (hI : cw_I cw_XB s h) (hB : aw_B (aw_xS h)) {R : Int32 → Int32 → Int32 → Prop} (hK : ∀ S, aw_U tb s h → ak_Ty ak_TN s (aj_mh h S) → aw_B S → aw_K tb h d m as S (fun r S' => ak_Ty ak_TN s (aj_mh h S') ∧ aw_B S' ∧ ∃ z : Int32, r = some (.int z) ∧ R z (S.1 23) (S'.1 23))) : ar_PB2 tb d m as s h (fun z x2 => R z (aw_xf h 23) x2) := by
  have hl := ar_len hT hI.1
  have hy := ar_hy hT hI.1
  have hU : aw_U tb s h := ⟨⟨hl, htb.1⟩, htb, hy⟩
  have hT' : ak_Ty ak_TN s h := (aw_tyM ak_C0 rfl rfl).mp hT
  have e := aw_mh_mg (S := aw_xS h) hy hl hT' (fun _ _ => rfl)
  rw [aw_mg_self] at e
  obtain ⟨r, S', k1, k2, k3, z, rfl, k4⟩ := hK (aw_xS h) hU (by rw [← e]; exact hT') hB
  rw [← e] at k1
  refine ⟨z, S'.1 23, aj_mh h S', k1, (aw_tyM ak_C0 rfl rfl).mpr k2, ar_I hI (fun i hi => aj_mh_out S' hi), aw_B_sm (aw_xS_sm hl) k3, fun i hi => aj_mh_out S' hi, aw_xf_mh hl (by decide), k4⟩
/-- feed -/
theorem ar_Q200 (htb : ak_tbOK ak_C0 tb) (hT : ak_Ty ak_C0 s h) (hI : cw_I cw_XB s h) (hB : aw_B (aw_xS h)) (hd : 27 ≤ d) (a0 a1 a2 a3 a4 : Int32) : ar_PB2 tb d 200 [.ref 117, .int a0, .int a1, .int a2, .int a3, .int a4] s h (fun z x2 => (4000 < ((aw_xf h 23)).toInt + 20 ∧ z.toInt = -1 ∧ x2.toInt = ((aw_xf h 23)).toInt) ∨ (((aw_xf h 23)).toInt + 20 ≤ 4000 ∧ z.toInt = ((aw_xf h 23)).toInt + 20 ∧ x2.toInt = ((aw_xf h 23)).toInt + 20)) := by
  refine ar_raw htb hT hI hB (R := fun z c x2 => (4000 < (c).toInt + 20 ∧ z.toInt = -1 ∧ x2.toInt = (c).toInt) ∨ ((c).toInt + 20 ≤ 4000 ∧ z.toInt = (c).toInt + 20 ∧ x2.toInt = (c).toInt + 20)) (fun S hU hT hB => aw_mono ?_ (ar_feed hU hT (by omega)))
  rintro r S' ⟨k1, k2, z, rfl, k3⟩
  exact ⟨k1, aw_B_fr hB (by decide) (by decide) (by decide) (by decide) (by decide) (by decide) (by decide) k2, z, rfl, k3⟩
/-- back -/
theorem ar_Q202 (htb : ak_tbOK ak_C0 tb) (hT : ak_Ty ak_C0 s h) (hI : cw_I cw_XB s h) (hB : aw_B (aw_xS h)) (hd : 27 ≤ d) (a0 : Int32) : ar_PB2 tb d 202 [.ref 117, .int a0] s h (fun z x2 => ((a0.toInt < 0 ∨ ((aw_xf h 23)).toInt < a0.toInt) ∧ z.toInt = -1 ∧ x2.toInt = ((aw_xf h 23)).toInt) ∨ ((0 ≤ a0.toInt ∧ a0.toInt ≤ ((aw_xf h 23)).toInt) ∧ z.toInt = ((aw_xf h 23)).toInt - a0.toInt ∧ x2.toInt = ((aw_xf h 23)).toInt - a0.toInt)) := by
  refine ar_raw htb hT hI hB (R := fun z c x2 => ((a0.toInt < 0 ∨ (c).toInt < a0.toInt) ∧ z.toInt = -1 ∧ x2.toInt = (c).toInt) ∨ ((0 ≤ a0.toInt ∧ a0.toInt ≤ (c).toInt) ∧ z.toInt = (c).toInt - a0.toInt ∧ x2.toInt = (c).toInt - a0.toInt)) (fun S hU hT hB => aw_mono ?_ (ar_back hU hT (by omega)))
  rintro r S' ⟨k1, k2, z, rfl, k3⟩
  exact ⟨k1, aw_B_fr hB (by decide) (by decide) (by decide) (by decide) (by decide) (by decide) (by decide) k2, z, rfl, k3⟩
/-- read -/
theorem ar_Q203 (htb : ak_tbOK ak_C0 tb) (hT : ak_Ty ak_C0 s h) (hI : cw_I cw_XB s h) (hB : aw_B (aw_xS h)) (hd : 27 ≤ d) : ar_PB2 tb d 203 [.ref 117] s h (fun z x2 => x2.toInt = 0) := by
  refine ar_raw htb hT hI hB (R := fun z c x2 => x2.toInt = 0) (fun S hU hT hB => aw_mono ?_ (ar_read hU hT hB (by omega)))
  rintro r S' ⟨k1, k2, ⟨z, rfl⟩, k3, k4⟩
  exact ⟨k1, k3, z, rfl, k4⟩
/-- learn -/
theorem ar_Q281 (htb : ak_tbOK ak_C0 tb) (hT : ak_Ty ak_C0 s h) (hI : cw_I cw_XB s h) (hB : aw_B (aw_xS h)) (hd : 27 ≤ d) : ar_PB2 tb d 281 [.ref 117] s h (fun z x2 => x2.toInt = 0) := by
  refine ar_raw htb hT hI hB (R := fun z c x2 => x2.toInt = 0) (fun S hU hT hB => aw_mono ?_ (ar_learn hU hT hB (by omega)))
  rintro r S' ⟨k1, k2, ⟨z, rfl⟩, k3, k4⟩
  exact ⟨k1, k3, z, rfl, k4⟩
/-- ask -/
theorem ar_Q284 (htb : ak_tbOK ak_C0 tb) (hT : ak_Ty ak_C0 s h) (hI : cw_I cw_XB s h) (hB : aw_B (aw_xS h)) (hd : 27 ≤ d) : ar_PB2 tb d 284 [.ref 117] s h (fun z x2 => x2.toInt = 0) := by
  refine ar_raw htb hT hI hB (R := fun z c x2 => x2.toInt = 0) (fun S hU hT hB => aw_mono ?_ (ar_ask hU hT hB (by omega)))
  rintro r S' ⟨k1, k2, ⟨z, rfl⟩, k3, k4⟩
  exact ⟨k1, k3, z, rfl, k4⟩
/-- undo -/
theorem ar_Q283 (htb : ak_tbOK ak_C0 tb) (hT : ak_Ty ak_C0 s h) (hI : cw_I cw_XB s h) (hB : aw_B (aw_xS h)) (hd : 27 ≤ d) : ar_PB2 tb d 283 [.ref 117] s h (fun z x2 => x2 = (aw_xf h 23)) := by
  refine ar_raw htb hT hI hB (R := fun z c x2 => x2 = c) (fun S hU hT hB => aw_mono ?_ (ar_undo hU hT hB (by omega)))
  rintro r S' ⟨k1, k2, ⟨z, rfl⟩, k3⟩
  exact ⟨k1, k3, z, rfl, (k2.1 23 (by decide)).1⟩
/-- why -/
theorem ar_Q285 (htb : ak_tbOK ak_C0 tb) (hT : ak_Ty ak_C0 s h) (hI : cw_I cw_XB s h) (hB : aw_B (aw_xS h)) (hd : 27 ≤ d) (a0 : Int32) : ar_PB2 tb d 285 [.ref 117, .int a0] s h (fun z x2 => x2 = (aw_xf h 23)) := by
  refine ar_raw htb hT hI hB (R := fun z c x2 => x2 = c) (fun S hU hT hB => aw_mono ?_ (ar_why hU hT hB (by omega)))
  rintro r S' ⟨k1, k2, ⟨z, rfl⟩, k3⟩
  exact ⟨k1, k3, z, rfl, (k2.1 23 (by decide)).1⟩
/-- place -/
theorem ar_Q280 (htb : ak_tbOK ak_C0 tb) (hT : ak_Ty ak_C0 s h) (hI : cw_I cw_XB s h) (hB : aw_B (aw_xS h)) (hd : 27 ≤ d) : ar_PB2 tb d 280 [.ref 117] s h (fun z x2 => x2 = (aw_xf h 23)) := by
  refine ar_raw htb hT hI hB (R := fun z c x2 => x2 = c) (fun S hU hT hB => aw_mono ?_ (aw_toK hU aw_Gs_B (con := ac_c280) (by omega) (ar_280 hU.2.1 (aw_SPc hU.2.2 aw_Gs_B) aw_kpc) ⟨hT, hB⟩ (as := [.ref 117]) ⟨aw_g117 hU.2.2, trivial⟩ (fun e he => nomatch he)))
  rintro r S' ⟨k1, k2, k3, -, -⟩
  obtain ⟨z, rfl, -⟩ := cw_rI k1
  exact ⟨k2.1, k2.2, z, rfl, (k3.1 23 (by decide)).1⟩
/-- value -/
theorem ar_Q288 (htb : ak_tbOK ak_C0 tb) (hT : ak_Ty ak_C0 s h) (hI : cw_I cw_XB s h) (hB : aw_B (aw_xS h)) (hd : 27 ≤ d) (a0 a1 : Int32) : ar_PB2 tb d 288 [.ref 117, .int a0, .int a1] s h (fun z x2 => x2 = (aw_xf h 23)) := by
  refine ar_raw htb hT hI hB (R := fun z c x2 => x2 = c) (fun S hU hT hB => aw_mono ?_ (aw_toK hU aw_Gs_B (con := ac_c288) (by omega) (ar_288 hU.2.1 (aw_SPc hU.2.2 aw_Gs_B) aw_kpc) ⟨hT, hB⟩ (as := [.ref 117, .int a0, .int a1]) ⟨aw_g117 hU.2.2, cw_full _, cw_full _, trivial⟩ (fun e he => nomatch he)))
  rintro r S' ⟨k1, k2, k3, -, -⟩
  obtain ⟨z, rfl, -⟩ := cw_rI k1
  exact ⟨k2.1, k2.2, z, rfl, (k3.1 23 (by decide)).1⟩
/-- table -/
theorem ar_Q290 (htb : ak_tbOK ak_C0 tb) (hT : ak_Ty ak_C0 s h) (hI : cw_I cw_XB s h) (hB : aw_B (aw_xS h)) (hd : 27 ≤ d) (a0 a1 : Int32) : ar_PB2 tb d 290 [.ref 117, .int a0, .int a1] s h (fun z x2 => x2 = (aw_xf h 23)) := by
  refine ar_raw htb hT hI hB (R := fun z c x2 => x2 = c) (fun S hU hT hB => aw_mono ?_ (aw_toK hU aw_Gs_B (con := ac_c290) (by omega) (ar_290 hU.2.1 (aw_SPc hU.2.2 aw_Gs_B) aw_kpc (arc_258 hU aw_Gs_B (fun _ q => q.1)) (arc_289_0 hU) (arc_291 hU aw_Gs_B) (arc_294 hU)) ⟨hT, hB⟩ (as := [.ref 117, .int a0, .int a1]) ⟨aw_g117 hU.2.2, cw_full _, cw_full _, trivial⟩ (fun e he => nomatch he)))
  rintro r S' ⟨k1, k2, k3, -, -⟩
  obtain ⟨z, rfl, -⟩ := cw_rI k1
  exact ⟨k2.1, k2.2, z, rfl, (k3.1 23 (by decide)).1⟩
/-- term -/
theorem ar_Q297 (htb : ak_tbOK ak_C0 tb) (hT : ak_Ty ak_C0 s h) (hI : cw_I cw_XB s h) (hB : aw_B (aw_xS h)) (hd : 27 ≤ d) (a0 a1 a2 a3 : Int32) : ar_PB2 tb d 297 [.ref 117, .int a0, .int a1, .int a2, .int a3] s h (fun z x2 => x2 = (aw_xf h 23)) := by
  refine ar_raw htb hT hI hB (R := fun z c x2 => x2 = c) (fun S hU hT hB => aw_mono ?_ (aw_toK hU aw_Gs_B (con := ac_c297) (by omega) (ar_297 hU.2.1 (aw_SPc hU.2.2 aw_Gs_B) aw_kpc (arc_298 hU aw_Gs_B)) ⟨hT, hB⟩ (as := [.ref 117, .int a0, .int a1, .int a2, .int a3]) ⟨aw_g117 hU.2.2, cw_full _, cw_full _, cw_full _, cw_full _, trivial⟩ (fun e he => nomatch he)))
  rintro r S' ⟨k1, k2, k3, -, -⟩
  obtain ⟨z, rfl, -⟩ := cw_rI k1
  exact ⟨k2.1, k2.2, z, rfl, (k3.1 23 (by decide)).1⟩
/-- many -/
theorem ar_Q299 (htb : ak_tbOK ak_C0 tb) (hT : ak_Ty ak_C0 s h) (hI : cw_I cw_XB s h) (hB : aw_B (aw_xS h)) (hd : 27 ≤ d) (a0 a1 : Int32) : ar_PB2 tb d 299 [.ref 117, .int a0, .int a1] s h (fun z x2 => x2 = (aw_xf h 23)) := by
  refine ar_raw htb hT hI hB (R := fun z c x2 => x2 = c) (fun S hU hT hB => aw_mono ?_ (aw_toK hU aw_Gs_B (con := ac_c299) (by omega) (ar_299 hU.2.1 (aw_SPc hU.2.2 aw_Gs_B) aw_kpc (arc_298 hU aw_Gs_B)) ⟨hT, hB⟩ (as := [.ref 117, .int a0, .int a1]) ⟨aw_g117 hU.2.2, cw_full _, cw_full _, trivial⟩ (fun e he => nomatch he)))
  rintro r S' ⟨k1, k2, k3, -, -⟩
  obtain ⟨z, rfl, -⟩ := cw_rI k1
  exact ⟨k2.1, k2.2, z, rfl, (k3.1 23 (by decide)).1⟩
/-- holds -/
theorem ar_Q300 (htb : ak_tbOK ak_C0 tb) (hT : ak_Ty ak_C0 s h) (hI : cw_I cw_XB s h) (hB : aw_B (aw_xS h)) (hd : 27 ≤ d) (a0 a1 a2 : Int32) : ar_PB2 tb d 300 [.ref 117, .int a0, .int a1, .int a2] s h (fun z x2 => x2 = (aw_xf h 23)) := by
  refine ar_raw htb hT hI hB (R := fun z c x2 => x2 = c) (fun S hU hT hB => aw_mono ?_ (aw_toK hU aw_Gs_B (con := ac_c300) (by omega) (ar_300 hU.2.1 (aw_SPc hU.2.2 aw_Gs_B) aw_kpc (arc_298 hU aw_Gs_B)) ⟨hT, hB⟩ (as := [.ref 117, .int a0, .int a1, .int a2]) ⟨aw_g117 hU.2.2, cw_full _, cw_full _, cw_full _, trivial⟩ (fun e he => nomatch he)))
  rintro r S' ⟨k1, k2, k3, -, -⟩
  obtain ⟨z, rfl, -⟩ := cw_rI k1
  exact ⟨k2.1, k2.2, z, rfl, (k3.1 23 (by decide)).1⟩
/-- size -/
theorem ar_Q301 (htb : ak_tbOK ak_C0 tb) (hT : ak_Ty ak_C0 s h) (hI : cw_I cw_XB s h) (hB : aw_B (aw_xS h)) (hd : 27 ≤ d) (a0 a1 : Int32) : ar_PB2 tb d 301 [.ref 117, .int a0, .int a1] s h (fun z x2 => x2 = (aw_xf h 23)) := by
  refine ar_raw htb hT hI hB (R := fun z c x2 => x2 = c) (fun S hU hT hB => aw_mono ?_ (aw_toK hU aw_Gs_B (con := ac_c301) (by omega) (ar_301 hU.2.1 (aw_SPc hU.2.2 aw_Gs_B) aw_kpc (arc_258 hU aw_Gs_B (fun _ q => q.1)) (arc_291 hU aw_Gs_B)) ⟨hT, hB⟩ (as := [.ref 117, .int a0, .int a1]) ⟨aw_g117 hU.2.2, cw_full _, cw_full _, trivial⟩ (fun e he => nomatch he)))
  rintro r S' ⟨k1, k2, k3, -, -⟩
  obtain ⟨z, rfl, -⟩ := cw_rI k1
  exact ⟨k2.1, k2.2, z, rfl, (k3.1 23 (by decide)).1⟩
/-- cell -/
theorem ar_Q302 (htb : ak_tbOK ak_C0 tb) (hT : ak_Ty ak_C0 s h) (hI : cw_I cw_XB s h) (hB : aw_B (aw_xS h)) (hd : 27 ≤ d) (a0 a1 a2 a3 : Int32) : ar_PB2 tb d 302 [.ref 117, .int a0, .int a1, .int a2, .int a3] s h (fun z x2 => x2 = (aw_xf h 23)) := by
  refine ar_raw htb hT hI hB (R := fun z c x2 => x2 = c) (fun S hU hT hB => aw_mono ?_ (aw_toK hU aw_Gs_B (con := ac_c302) (by omega) (ar_302 hU.2.1 (aw_SPc hU.2.2 aw_Gs_B) aw_kpc (arc_258 hU aw_Gs_B (fun _ q => q.1)) (arc_291 hU aw_Gs_B)) ⟨hT, hB⟩ (as := [.ref 117, .int a0, .int a1, .int a2, .int a3]) ⟨aw_g117 hU.2.2, cw_full _, cw_full _, cw_full _, cw_full _, trivial⟩ (fun e he => nomatch he)))
  rintro r S' ⟨k1, k2, k3, -, -⟩
  obtain ⟨z, rfl, -⟩ := cw_rI k1
  exact ⟨k2.1, k2.2, z, rfl, (k3.1 23 (by decide)).1⟩
/-- sure -/
theorem ar_Q303 (htb : ak_tbOK ak_C0 tb) (hT : ak_Ty ak_C0 s h) (hI : cw_I cw_XB s h) (hB : aw_B (aw_xS h)) (hd : 27 ≤ d) (a0 a1 a2 : Int32) : ar_PB2 tb d 303 [.ref 117, .int a0, .int a1, .int a2] s h (fun z x2 => x2 = (aw_xf h 23)) := by
  refine ar_raw htb hT hI hB (R := fun z c x2 => x2 = c) (fun S hU hT hB => aw_mono ?_ (aw_toK hU aw_Gs_B (con := ac_c303) (by omega) (ar_303 hU.2.1 (aw_SPc hU.2.2 aw_Gs_B) aw_kpc (arc_258 hU aw_Gs_B (fun _ q => q.1)) (arc_289_0 hU) (arc_291 hU aw_Gs_B)) ⟨hT, hB⟩ (as := [.ref 117, .int a0, .int a1, .int a2]) ⟨aw_g117 hU.2.2, cw_full _, cw_full _, cw_full _, trivial⟩ (fun e he => nomatch he)))
  rintro r S' ⟨k1, k2, k3, -, -⟩
  obtain ⟨z, rfl, -⟩ := cw_rI k1
  exact ⟨k2.1, k2.2, z, rfl, (k3.1 23 (by decide)).1⟩
/-- maybe -/
theorem ar_Q304 (htb : ak_tbOK ak_C0 tb) (hT : ak_Ty ak_C0 s h) (hI : cw_I cw_XB s h) (hB : aw_B (aw_xS h)) (hd : 27 ≤ d) (a0 a1 a2 : Int32) : ar_PB2 tb d 304 [.ref 117, .int a0, .int a1, .int a2] s h (fun z x2 => x2 = (aw_xf h 23)) := by
  refine ar_raw htb hT hI hB (R := fun z c x2 => x2 = c) (fun S hU hT hB => aw_mono ?_ (aw_toK hU aw_Gs_B (con := ac_c304) (by omega) (ar_304 hU.2.1 (aw_SPc hU.2.2 aw_Gs_B) aw_kpc (arc_258 hU aw_Gs_B (fun _ q => q.1)) (arc_291 hU aw_Gs_B) (arc_294 hU)) ⟨hT, hB⟩ (as := [.ref 117, .int a0, .int a1, .int a2]) ⟨aw_g117 hU.2.2, cw_full _, cw_full _, cw_full _, trivial⟩ (fun e he => nomatch he)))
  rintro r S' ⟨k1, k2, k3, -, -⟩
  obtain ⟨z, rfl, -⟩ := cw_rI k1
  exact ⟨k2.1, k2.2, z, rfl, (k3.1 23 (by decide)).1⟩
/-- often -/
theorem ar_Q305 (htb : ak_tbOK ak_C0 tb) (hT : ak_Ty ak_C0 s h) (hI : cw_I cw_XB s h) (hB : aw_B (aw_xS h)) (hd : 27 ≤ d) (a0 a1 : Int32) : ar_PB2 tb d 305 [.ref 117, .int a0, .int a1] s h (fun z x2 => x2 = (aw_xf h 23)) := by
  refine ar_raw htb hT hI hB (R := fun z c x2 => x2 = c) (fun S hU hT hB => aw_mono ?_ (aw_toK hU aw_Gs_B (con := ac_c305) (by omega) (ar_305 hU.2.1 (aw_SPc hU.2.2 aw_Gs_B) aw_kpc (arc_258 hU aw_Gs_B (fun _ q => q.1)) (arc_291 hU aw_Gs_B) (arc_294 hU)) ⟨hT, hB⟩ (as := [.ref 117, .int a0, .int a1]) ⟨aw_g117 hU.2.2, cw_full _, cw_full _, trivial⟩ (fun e he => nomatch he)))
  rintro r S' ⟨k1, k2, k3, -, -⟩
  obtain ⟨z, rfl, -⟩ := cw_rI k1
  exact ⟨k2.1, k2.2, z, rfl, (k3.1 23 (by decide)).1⟩
/-- same -/
theorem ar_Q306 (htb : ak_tbOK ak_C0 tb) (hT : ak_Ty ak_C0 s h) (hI : cw_I cw_XB s h) (hB : aw_B (aw_xS h)) (hd : 27 ≤ d) (a0 a1 : Int32) : ar_PB2 tb d 306 [.ref 117, .int a0, .int a1] s h (fun z x2 => x2 = (aw_xf h 23)) := by
  refine ar_raw htb hT hI hB (R := fun z c x2 => x2 = c) (fun S hU hT hB => aw_mono ?_ (aw_toK hU aw_Gs_B (con := ac_c306) (by omega) (ar_306 hU.2.1 (aw_SPc hU.2.2 aw_Gs_B) aw_kpc (arc_258 hU aw_Gs_B (fun _ q => q.1)) (arc_291 hU aw_Gs_B)) ⟨hT, hB⟩ (as := [.ref 117, .int a0, .int a1]) ⟨aw_g117 hU.2.2, cw_full _, cw_full _, trivial⟩ (fun e he => nomatch he)))
  rintro r S' ⟨k1, k2, k3, -, -⟩
  obtain ⟨z, rfl, -⟩ := cw_rI k1
  exact ⟨k2.1, k2.2, z, rfl, (k3.1 23 (by decide)).1⟩
/-- count -/
theorem ar_Q308 (htb : ak_tbOK ak_C0 tb) (hT : ak_Ty ak_C0 s h) (hI : cw_I cw_XB s h) (hB : aw_B (aw_xS h)) (hd : 27 ≤ d) (a0 : Int32) : ar_PB2 tb d 308 [.ref 117, .int a0] s h (fun z x2 => x2 = (aw_xf h 23)) := by
  refine ar_raw htb hT hI hB (R := fun z c x2 => x2 = c) (fun S hU hT hB => aw_mono ?_ (aw_toK hU aw_Gs_B (con := ac_c308) (by omega) (ar_308 hU.2.1 (aw_SPc hU.2.2 aw_Gs_B) aw_kpc) ⟨hT, hB⟩ (as := [.ref 117, .int a0]) ⟨aw_g117 hU.2.2, cw_full _, trivial⟩ (fun e he => nomatch he)))
  rintro r S' ⟨k1, k2, k3, -, -⟩
  obtain ⟨z, rfl, -⟩ := cw_rI k1
  exact ⟨k2.1, k2.2, z, rfl, (k3.1 23 (by decide)).1⟩
end ARA35
