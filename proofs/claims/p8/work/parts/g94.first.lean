/-! THE CLASS'S INVARIANT BEFORE THE FIRST CALL -/
section CW94
variable {h : aj_H} {f : Nat → Int32} {xa xb : cw_X}
theorem cw_I_0 (hT : ak_Ty ak_C0 ak_s0 h) (a29 : cw_A h 29 1 1002 (.inr (.inl (fun _ => 0)))) (a10 : cw_A h 10 5 10 (cw_q (fun _ => none))) (a22 : cw_A h 22 5 10 (cw_q (fun _ => none))) (a49 : cw_A h 49 5 20 (cw_q (fun _ => none))) (f95 : cw_F h 43 9 5 (.ref (52 + 50))) (a31 : cw_A h 31 0 2500 (.inl f)) (f44 : cw_F h 30 4 4 (.int 0)) (f64 : cw_F h 50 6 4 (.int 0)) (f63 : cw_F h 50 6 3 (.int 0)) (f25 : cw_F h 55 2 5 (.ref (52 + 56))) (f26 : cw_F h 55 2 6 (.ref (52 + 57))) (o56 : (cw_o h).2 56 = some (0, 64, xa)) (o57 : (cw_o h).2 57 = some (0, 64, xb)) : cw_I cw_XB ak_s0 h := by
  refine ⟨⟨[], (List.append_nil _).symm, fun _ z => nomatch z⟩, ⟨_, (cw_oa_A (by decide)).mpr a29, fun j _ => ⟨(by decide : 0 ≤ (0 : Int64).toInt32.toInt), (by decide : (0 : Int64).toInt32.toInt ≤ 2139095039)⟩⟩, ⟨fun _ => none, 52 + 50, (cw_oa_A (by decide)).mpr a49, (cw_fo_F (by decide)).mpr f95, (fun _ _ _ _ _ z _ => nomatch z), (fun _ _ _ z => nomatch z)⟩, fun _ => ⟨f, 0, (cw_oa_A (by decide)).mpr a31, (cw_fo_F (by decide)).mpr f44, ?_⟩, ?_, ?_⟩
  · show (some 0 : Option Nat) ≠ none
    exact fun z => by cases z
  · intro i hi g hg
    rcases hi with rfl | hi
    · obtain ⟨g1, z1, z2⟩ := (cw_fo_F (h := h) (by decide)).mpr f64
      obtain ⟨g2, z3, z4⟩ := (cw_fo_F (h := h) (by decide)).mpr f63
      rw [hg] at z1 z3
      cases z1
      cases z3
      exact ⟨0, 0, z2, z4, by decide, by decide⟩
    · have := cw_ob_lt hg
      rw [hT.1, cw_s98] at this
      omega
  · exact ⟨[], fun _ => none, fun _ => none, fun _ => none, 56, 57, 0, xa, xb, (List.append_nil _).symm, (cw_oa_A (by decide)).mpr a10, (cw_oa_A (by decide)).mpr a22, (cw_oa_A (by decide)).mpr a49, (cw_fo_F (by decide)).mpr f25, (cw_fo_F (by decide)).mpr f26, ⟨Or.inl rfl, Or.inr (Or.inl rfl)⟩, ⟨o56, o57⟩, Nat.zero_le _, Nat.zero_le _⟩
end CW94
