/-! THE PUBLIC METHODS: what they leave as it was (printed by wip/p7/gen_h04.py) -/
def lw_PC (tb : aj_T) (d m : Nat) (as : List Value) (s : List Nat) (h : aj_H) (R : Int32 → Int32 → Prop) (E : aj_H → aj_H → Prop) : Prop := ∃ (u : List Nat) (z x2 : Int32) (h' : aj_H), aj_runs aj_rc aj_cls tb aj_mt d m as h u.length (ak_slo ak_C0 u) (some (.int z)) h' ∧ ak_Ty ak_C0 (s ++ u) h' ∧ cw_I cw_XB (s ++ u) h' ∧ cw_rs h h' ∧ cw_F h' 0 10 1 (.int x2) ∧ R z x2 ∧ E h h'
def lw_s3 (h h' : aj_H) : Prop := lw_s2 h h' ∧ h'[1]? = h[1]?
section LWH4
variable {tb : aj_T} {d m : Nat} {as : List Value} {s : List Nat} {h : aj_H} {x1 : Int32} {R : Int32 → Int32 → Prop}
theorem lw_PC0 (h0 : cw_PB2 tb d m as s h R) : lw_PC tb d m as s h R (fun _ _ => True) := by
  obtain ⟨u, z, x2, h', k1, k2, k3, k4, k5, k6⟩ := h0
  exact ⟨u, z, x2, h', k1, k2, k3, k4, k5, k6, trivial⟩
theorem lw_C153 (htb : ak_tbOK ak_C0 tb) (htG : cw_tbG tb) (hT : ak_Ty ak_C0 s h) (hI : cw_I cw_XB s h) (hd : 27 ≤ d) (f1 : cw_F h 0 10 1 (.int x1)) : lw_PC tb d 153 [.ref (52 + 0)] s h (fun _ x2 => x2 = x1) lw_sh := by
  obtain ⟨u, r, h', k1, k2, k3, k4, k5⟩ := cw_of (d := d) (SP := cw_I cw_XB) (k := 1) (by omega) (ap_0_153 htb (cw_I_c rfl rfl) cw_hK) hT hI (as := [.ref (52 + 0)]) ⟨cw_gR (cw_s0 hI.1 rfl) (by decide) (by decide), trivial⟩ cw_q0
  obtain ⟨z, rfl, -⟩ := cw_rI k5
  exact ⟨u, z, x1, h', k1, k2, k3.1, cw_rs_ev hT hI.1 k4 (by decide), cw_Fev k4 (by decide) f1, rfl, lw_sh_ev hT hI.1 k4 (by rw [hT.1, k2.1, List.length_append]; exact Nat.le_add_right _ _) (by decide)⟩
theorem lw_C154 (htb : ak_tbOK ak_C0 tb) (htG : cw_tbG tb) (hT : ak_Ty ak_C0 s h) (hI : cw_I cw_XB s h) (hd : 27 ≤ d) (f1 : cw_F h 0 10 1 (.int x1)) : lw_PC tb d 154 [.ref (52 + 0)] s h (fun _ x2 => x2.toInt = 0) lw_s2 := by
  obtain ⟨u, r, h', k1, k2, k3, k4, k5⟩ := cw_learn1 htb htG hT hI (d := d) (by omega)
  obtain ⟨z, rfl, -⟩ := cw_rI k5
  exact ⟨u, z, _, h', k1, k2, k3.1, cw_rs_ev hT hI.1 k4 (by decide), k3.2, rfl, lw_s2_ev k4 (by decide) (by decide)⟩
theorem lw_C159 (htb : ak_tbOK ak_C0 tb) (htG : cw_tbG tb) (hT : ak_Ty ak_C0 s h) (hI : cw_I cw_XB s h) (hd : 27 ≤ d) (f1 : cw_F h 0 10 1 (.int x1)) : lw_PC tb d 159 [.ref (52 + 0)] s h (fun _ x2 => x2 = x1) lw_s3 := by
  obtain ⟨u, r, h', k1, k2, k3, k4, k5⟩ := cw_of (d := d) (SP := cw_I cw_XB) (k := 3) (by omega) (ap_0_159 htb (cw_I_c rfl rfl) cw_hK) hT hI (as := [.ref (52 + 0)]) ⟨cw_gR (cw_s0 hI.1 rfl) (by decide) (by decide), trivial⟩ cw_q0
  obtain ⟨z, rfl, -⟩ := cw_rI k5
  exact ⟨u, z, x1, h', k1, k2, k3.1, cw_rs_ev hT hI.1 k4 (by decide), cw_Fev k4 (by decide) f1, rfl, ⟨lw_s2_ev k4 (by decide) (by decide), k4.1 1 64 _ (cw_s0 hI.1 rfl) rfl (by decide)⟩⟩
theorem lw_C161 (htb : ak_tbOK ak_C0 tb) (htG : cw_tbG tb) (hT : ak_Ty ak_C0 s h) (hI : cw_I cw_XB s h) (hd : 27 ≤ d) (f1 : cw_F h 0 10 1 (.int x1)) : lw_PC tb d 161 [.ref (52 + 0)] s h (fun _ x2 => x2.toInt = 0) lw_s2 := by
  obtain ⟨u, r, h', k1, k2, k3, k4, k5⟩ := cw_ask1 htb htG hT hI (d := d) (by omega)
  obtain ⟨z, rfl, -⟩ := cw_rI k5
  exact ⟨u, z, _, h', k1, k2, k3.1, cw_rs_ev hT hI.1 k4 (by decide), k3.2, rfl, lw_s2_ev k4 (by decide) (by decide)⟩
theorem lw_C163 (htb : ak_tbOK ak_C0 tb) (htG : cw_tbG tb) (hT : ak_Ty ak_C0 s h) (hI : cw_I cw_XB s h) (hd : 27 ≤ d) (a0 : Int32) (f1 : cw_F h 0 10 1 (.int x1)) : lw_PC tb d 163 [.ref (52 + 0), .int a0] s h (fun _ x2 => x2 = x1) lw_sh := by
  obtain ⟨u, r, h', k1, k2, k3, k4, k5⟩ := cw_of (d := d) (SP := cw_I cw_XB) (k := 27) (by omega) (ap_0_163 htb (cw_I_c rfl rfl) cw_hK) hT hI (as := [.ref (52 + 0), .int a0]) ⟨cw_gR (cw_s0 hI.1 rfl) (by decide) (by decide), cw_full _, trivial⟩ cw_q0
  obtain ⟨z, rfl, -⟩ := cw_rI k5
  exact ⟨u, z, x1, h', k1, k2, k3.1, cw_rs_ev hT hI.1 k4 (by decide), cw_Fev k4 (by decide) f1, rfl, lw_sh_ev hT hI.1 k4 (by rw [hT.1, k2.1, List.length_append]; exact Nat.le_add_right _ _) (by decide)⟩
theorem lw_C172 (htb : ak_tbOK ak_C0 tb) (htG : cw_tbG tb) (hT : ak_Ty ak_C0 s h) (hI : cw_I cw_XB s h) (hd : 27 ≤ d) (a0 a1 : Int32) (f1 : cw_F h 0 10 1 (.int x1)) : lw_PC tb d 172 [.ref (52 + 0), .int a0, .int a1] s h (fun _ x2 => x2 = x1) lw_sh := by
  obtain ⟨u, r, h', k1, k2, k3, k4, k5⟩ := cw_of (d := d) (SP := cw_I cw_XB) (k := 2) (by omega) (ap_0_172 htb (cw_I_c rfl rfl) cw_hK) hT hI (as := [.ref (52 + 0), .int a0, .int a1]) ⟨cw_gR (cw_s0 hI.1 rfl) (by decide) (by decide), cw_full _, cw_full _, trivial⟩ cw_q0
  obtain ⟨z, rfl, -⟩ := cw_rI k5
  exact ⟨u, z, x1, h', k1, k2, k3.1, cw_rs_ev hT hI.1 k4 (by decide), cw_Fev k4 (by decide) f1, rfl, lw_sh_ev hT hI.1 k4 (by rw [hT.1, k2.1, List.length_append]; exact Nat.le_add_right _ _) (by decide)⟩
theorem lw_C173 (htb : ak_tbOK ak_C0 tb) (htG : cw_tbG tb) (hT : ak_Ty ak_C0 s h) (hI : cw_I cw_XB s h) (hd : 27 ≤ d) (a0 a1 : Int32) (f1 : cw_F h 0 10 1 (.int x1)) : lw_PC tb d 173 [.ref (52 + 0), .int a0, .int a1] s h (fun _ x2 => x2 = x1) lw_sh := by
  obtain ⟨u, r, h', k1, k2, k3, k4, k5⟩ := cw_of (d := d) (SP := cw_I cw_XB) (k := 8) (by omega) (ap_0_173 htb (cw_I_c rfl rfl) cw_hK (cw_H0 htb htG)) hT hI (as := [.ref (52 + 0), .int a0, .int a1]) ⟨cw_gR (cw_s0 hI.1 rfl) (by decide) (by decide), cw_full _, cw_full _, trivial⟩ cw_q0
  obtain ⟨z, rfl, -⟩ := cw_rI k5
  exact ⟨u, z, x1, h', k1, k2, k3.1, cw_rs_ev hT hI.1 k4 (by decide), cw_Fev k4 (by decide) f1, rfl, lw_sh_ev hT hI.1 k4 (by rw [hT.1, k2.1, List.length_append]; exact Nat.le_add_right _ _) (by decide)⟩
theorem lw_C186 (htb : ak_tbOK ak_C0 tb) (htG : cw_tbG tb) (hT : ak_Ty ak_C0 s h) (hI : cw_I cw_XB s h) (hd : 27 ≤ d) (a0 a1 a2 a3 : Int32) (f1 : cw_F h 0 10 1 (.int x1)) : lw_PC tb d 186 [.ref (52 + 0), .int a0, .int a1, .int a2, .int a3] s h (fun _ x2 => x2 = x1) lw_sh := by
  obtain ⟨u, r, h', k1, k2, k3, k4, k5⟩ := cw_of (d := d) (SP := cw_I cw_XB) (k := 3) (by omega) (ap_0_186 htb (cw_I_c rfl rfl) cw_hK) hT hI (as := [.ref (52 + 0), .int a0, .int a1, .int a2, .int a3]) ⟨cw_gR (cw_s0 hI.1 rfl) (by decide) (by decide), cw_full _, cw_full _, cw_full _, cw_full _, trivial⟩ cw_q0
  obtain ⟨z, rfl, -⟩ := cw_rI k5
  exact ⟨u, z, x1, h', k1, k2, k3.1, cw_rs_ev hT hI.1 k4 (by decide), cw_Fev k4 (by decide) f1, rfl, lw_sh_ev hT hI.1 k4 (by rw [hT.1, k2.1, List.length_append]; exact Nat.le_add_right _ _) (by decide)⟩
theorem lw_C187 (htb : ak_tbOK ak_C0 tb) (htG : cw_tbG tb) (hT : ak_Ty ak_C0 s h) (hI : cw_I cw_XB s h) (hd : 27 ≤ d) (a0 a1 : Int32) (f1 : cw_F h 0 10 1 (.int x1)) : lw_PC tb d 187 [.ref (52 + 0), .int a0, .int a1] s h (fun _ x2 => x2 = x1) lw_sh := by
  obtain ⟨u, r, h', k1, k2, k3, k4, k5⟩ := cw_of (d := d) (SP := cw_I cw_XB) (k := 3) (by omega) (ap_0_187 htb (cw_I_c rfl rfl) cw_hK) hT hI (as := [.ref (52 + 0), .int a0, .int a1]) ⟨cw_gR (cw_s0 hI.1 rfl) (by decide) (by decide), cw_full _, cw_full _, trivial⟩ cw_q0
  obtain ⟨z, rfl, -⟩ := cw_rI k5
  exact ⟨u, z, x1, h', k1, k2, k3.1, cw_rs_ev hT hI.1 k4 (by decide), cw_Fev k4 (by decide) f1, rfl, lw_sh_ev hT hI.1 k4 (by rw [hT.1, k2.1, List.length_append]; exact Nat.le_add_right _ _) (by decide)⟩
theorem lw_C188 (htb : ak_tbOK ak_C0 tb) (htG : cw_tbG tb) (hT : ak_Ty ak_C0 s h) (hI : cw_I cw_XB s h) (hd : 27 ≤ d) (a0 a1 a2 : Int32) (f1 : cw_F h 0 10 1 (.int x1)) : lw_PC tb d 188 [.ref (52 + 0), .int a0, .int a1, .int a2] s h (fun _ x2 => x2 = x1) lw_sh := by
  obtain ⟨u, r, h', k1, k2, k3, k4, k5⟩ := cw_of (d := d) (SP := cw_I cw_XB) (k := 3) (by omega) (ap_0_188 htb (cw_I_c rfl rfl) cw_hK) hT hI (as := [.ref (52 + 0), .int a0, .int a1, .int a2]) ⟨cw_gR (cw_s0 hI.1 rfl) (by decide) (by decide), cw_full _, cw_full _, cw_full _, trivial⟩ cw_q0
  obtain ⟨z, rfl, -⟩ := cw_rI k5
  exact ⟨u, z, x1, h', k1, k2, k3.1, cw_rs_ev hT hI.1 k4 (by decide), cw_Fev k4 (by decide) f1, rfl, lw_sh_ev hT hI.1 k4 (by rw [hT.1, k2.1, List.length_append]; exact Nat.le_add_right _ _) (by decide)⟩
theorem lw_C189 (htb : ak_tbOK ak_C0 tb) (htG : cw_tbG tb) (hT : ak_Ty ak_C0 s h) (hI : cw_I cw_XB s h) (hd : 27 ≤ d) (a0 a1 : Int32) (f1 : cw_F h 0 10 1 (.int x1)) : lw_PC tb d 189 [.ref (52 + 0), .int a0, .int a1] s h (fun _ x2 => x2 = x1) lw_sh := by
  obtain ⟨u, r, h', k1, k2, k3, k4, k5⟩ := cw_of (d := d) (SP := cw_I cw_XB) (k := 5) (by omega) (ap_0_189 htb (cw_I_c rfl rfl) cw_hK) hT hI (as := [.ref (52 + 0), .int a0, .int a1]) ⟨cw_gR (cw_s0 hI.1 rfl) (by decide) (by decide), cw_full _, cw_full _, trivial⟩ cw_q0
  obtain ⟨z, rfl, -⟩ := cw_rI k5
  exact ⟨u, z, x1, h', k1, k2, k3.1, cw_rs_ev hT hI.1 k4 (by decide), cw_Fev k4 (by decide) f1, rfl, lw_sh_ev hT hI.1 k4 (by rw [hT.1, k2.1, List.length_append]; exact Nat.le_add_right _ _) (by decide)⟩
theorem lw_C190 (htb : ak_tbOK ak_C0 tb) (htG : cw_tbG tb) (hT : ak_Ty ak_C0 s h) (hI : cw_I cw_XB s h) (hd : 27 ≤ d) (a0 a1 a2 a3 : Int32) (f1 : cw_F h 0 10 1 (.int x1)) : lw_PC tb d 190 [.ref (52 + 0), .int a0, .int a1, .int a2, .int a3] s h (fun _ x2 => x2 = x1) lw_sh := by
  obtain ⟨u, r, h', k1, k2, k3, k4, k5⟩ := cw_of (d := d) (SP := cw_I cw_XB) (k := 5) (by omega) (ap_0_190 htb (cw_I_c rfl rfl) cw_hK) hT hI (as := [.ref (52 + 0), .int a0, .int a1, .int a2, .int a3]) ⟨cw_gR (cw_s0 hI.1 rfl) (by decide) (by decide), cw_full _, cw_full _, cw_full _, cw_full _, trivial⟩ cw_q0
  obtain ⟨z, rfl, -⟩ := cw_rI k5
  exact ⟨u, z, x1, h', k1, k2, k3.1, cw_rs_ev hT hI.1 k4 (by decide), cw_Fev k4 (by decide) f1, rfl, lw_sh_ev hT hI.1 k4 (by rw [hT.1, k2.1, List.length_append]; exact Nat.le_add_right _ _) (by decide)⟩
theorem lw_C191 (htb : ak_tbOK ak_C0 tb) (htG : cw_tbG tb) (hT : ak_Ty ak_C0 s h) (hI : cw_I cw_XB s h) (hd : 27 ≤ d) (a0 a1 a2 : Int32) (f1 : cw_F h 0 10 1 (.int x1)) : lw_PC tb d 191 [.ref (52 + 0), .int a0, .int a1, .int a2] s h (fun _ x2 => x2 = x1) lw_sh := by
  obtain ⟨u, r, h', k1, k2, k3, k4, k5⟩ := cw_of (d := d) (SP := cw_I cw_XB) (k := 8) (by omega) (ap_0_191 htb (cw_I_c rfl rfl) cw_hK (cw_H0 htb htG)) hT hI (as := [.ref (52 + 0), .int a0, .int a1, .int a2]) ⟨cw_gR (cw_s0 hI.1 rfl) (by decide) (by decide), cw_full _, cw_full _, cw_full _, trivial⟩ cw_q0
  obtain ⟨z, rfl, -⟩ := cw_rI k5
  exact ⟨u, z, x1, h', k1, k2, k3.1, cw_rs_ev hT hI.1 k4 (by decide), cw_Fev k4 (by decide) f1, rfl, lw_sh_ev hT hI.1 k4 (by rw [hT.1, k2.1, List.length_append]; exact Nat.le_add_right _ _) (by decide)⟩
theorem lw_C194 (htb : ak_tbOK ak_C0 tb) (htG : cw_tbG tb) (hT : ak_Ty ak_C0 s h) (hI : cw_I cw_XB s h) (hd : 27 ≤ d) (a0 a1 a2 : Int32) (f1 : cw_F h 0 10 1 (.int x1)) : lw_PC tb d 194 [.ref (52 + 0), .int a0, .int a1, .int a2] s h (fun _ x2 => x2 = x1) lw_sh := by
  obtain ⟨u, r, h', k1, k2, k3, k4, k5⟩ := cw_of (d := d) (SP := cw_I cw_XB) (k := 8) (by omega) (ap_0_194 htb (cw_I_c rfl rfl) cw_hK (cw_H0 htb htG)) hT hI (as := [.ref (52 + 0), .int a0, .int a1, .int a2]) ⟨cw_gR (cw_s0 hI.1 rfl) (by decide) (by decide), cw_full _, cw_full _, cw_full _, trivial⟩ cw_q0
  obtain ⟨z, rfl, -⟩ := cw_rI k5
  exact ⟨u, z, x1, h', k1, k2, k3.1, cw_rs_ev hT hI.1 k4 (by decide), cw_Fev k4 (by decide) f1, rfl, lw_sh_ev hT hI.1 k4 (by rw [hT.1, k2.1, List.length_append]; exact Nat.le_add_right _ _) (by decide)⟩
theorem lw_C195 (htb : ak_tbOK ak_C0 tb) (htG : cw_tbG tb) (hT : ak_Ty ak_C0 s h) (hI : cw_I cw_XB s h) (hd : 27 ≤ d) (a0 a1 : Int32) (f1 : cw_F h 0 10 1 (.int x1)) : lw_PC tb d 195 [.ref (52 + 0), .int a0, .int a1] s h (fun _ x2 => x2 = x1) lw_sh := by
  obtain ⟨u, r, h', k1, k2, k3, k4, k5⟩ := cw_of (d := d) (SP := cw_I cw_XB) (k := 8) (by omega) (ap_0_195 htb (cw_I_c rfl rfl) cw_hK (cw_H0 htb htG)) hT hI (as := [.ref (52 + 0), .int a0, .int a1]) ⟨cw_gR (cw_s0 hI.1 rfl) (by decide) (by decide), cw_full _, cw_full _, trivial⟩ cw_q0
  obtain ⟨z, rfl, -⟩ := cw_rI k5
  exact ⟨u, z, x1, h', k1, k2, k3.1, cw_rs_ev hT hI.1 k4 (by decide), cw_Fev k4 (by decide) f1, rfl, lw_sh_ev hT hI.1 k4 (by rw [hT.1, k2.1, List.length_append]; exact Nat.le_add_right _ _) (by decide)⟩
theorem lw_C196 (htb : ak_tbOK ak_C0 tb) (htG : cw_tbG tb) (hT : ak_Ty ak_C0 s h) (hI : cw_I cw_XB s h) (hd : 27 ≤ d) (a0 a1 : Int32) (f1 : cw_F h 0 10 1 (.int x1)) : lw_PC tb d 196 [.ref (52 + 0), .int a0, .int a1] s h (fun _ x2 => x2 = x1) lw_sh := by
  obtain ⟨u, r, h', k1, k2, k3, k4, k5⟩ := cw_of (d := d) (SP := cw_I cw_XB) (k := 6) (by omega) (ap_0_196 htb (cw_I_c rfl rfl) cw_hK) hT hI (as := [.ref (52 + 0), .int a0, .int a1]) ⟨cw_gR (cw_s0 hI.1 rfl) (by decide) (by decide), cw_full _, cw_full _, trivial⟩ cw_q0
  obtain ⟨z, rfl, -⟩ := cw_rI k5
  exact ⟨u, z, x1, h', k1, k2, k3.1, cw_rs_ev hT hI.1 k4 (by decide), cw_Fev k4 (by decide) f1, rfl, lw_sh_ev hT hI.1 k4 (by rw [hT.1, k2.1, List.length_append]; exact Nat.le_add_right _ _) (by decide)⟩
theorem lw_C198 (htb : ak_tbOK ak_C0 tb) (htG : cw_tbG tb) (hT : ak_Ty ak_C0 s h) (hI : cw_I cw_XB s h) (hd : 27 ≤ d) (a0 : Int32) (f1 : cw_F h 0 10 1 (.int x1)) : lw_PC tb d 198 [.ref (52 + 0), .int a0] s h (fun _ x2 => x2 = x1) lw_sh := by
  obtain ⟨u, r, h', k1, k2, k3, k4, k5⟩ := cw_of (d := d) (SP := cw_I cw_XB) (k := 1) (by omega) (ap_0_198 htb (cw_I_c rfl rfl) cw_hK) hT hI (as := [.ref (52 + 0), .int a0]) ⟨cw_gR (cw_s0 hI.1 rfl) (by decide) (by decide), cw_full _, trivial⟩ cw_q0
  obtain ⟨z, rfl, -⟩ := cw_rI k5
  exact ⟨u, z, x1, h', k1, k2, k3.1, cw_rs_ev hT hI.1 k4 (by decide), cw_Fev k4 (by decide) f1, rfl, lw_sh_ev hT hI.1 k4 (by rw [hT.1, k2.1, List.length_append]; exact Nat.le_add_right _ _) (by decide)⟩
end LWH4
/-! a question of the reference leaves its shelf and its tape -/
def lw_rk (tb : aj_T) (m2 : Nat) (as2 : List Value) : Prop := ∀ X : fx_X, ∃ Q : Option Value → fx_X → Prop, fx_K tb m2 as2 X Q ∧ ∀ r X', Q r X' → (∀ hh U pt nl, rx_MH hh U pt nl X → rx_MH hh U pt nl X') ∧ X'.1 138 = X.1 138
theorem lw_rkf {X X' : fx_X} {F L : List (Nat × Nat)} {A : List Nat} (hf : fy F L A X X') (hA : ∀ a, a ∈ A → a < 117 ∨ 130 ≤ a) (h138 : 138 ∉ A) (hF : (∀ q, q ∈ F → q.1 = 117 ∧ q.2 ≠ 0) ∧ ∀ q, q ∈ L → q.1 = 117) : (∀ hh U pt nl, rx_MH hh U pt nl X → rx_MH hh U pt nl X') ∧ X'.1 138 = X.1 138 := ⟨fun _ _ _ _ hM => rx_MH_fy hM hf hA hF, fy_ra hf h138 (fun q hq => by have := (hF.1 q hq).1; omega)⟩
theorem lw_rk280 {tb : aj_T} : lw_rk tb 280 [.ref 117] := fun X => ⟨_, gx_280_ok, fun r X' ⟨v, e, g⟩ => lw_rkf (gf_280 g) (by decide) (by decide) (by decide)⟩
theorem lw_rk285 {tb : aj_T} (a0 : Int32) : lw_rk tb 285 [.ref 117, .int a0] := fun X => ⟨_, gx_285_ok a0, fun r X' ⟨v, e, g⟩ => lw_rkf (gf_285 g) (by decide) (by decide) (by decide)⟩
theorem lw_rk288 {tb : aj_T} (a0 a1 : Int32) : lw_rk tb 288 [.ref 117, .int a0, .int a1] := fun X => ⟨_, gx_288_ok a0 a1, fun r X' ⟨v, e, g⟩ => lw_rkf (gf_288 g) (by decide) (by decide) (by decide)⟩
theorem lw_rk290 {tb : aj_T} (a0 a1 : Int32) : lw_rk tb 290 [.ref 117, .int a0, .int a1] := fun X => ⟨_, gx_290_ok a0 a1, fun r X' ⟨v, e, g⟩ => lw_rkf (gf_290 g) (by decide) (by decide) (by decide)⟩
theorem lw_rk297 {tb : aj_T} (a0 a1 a2 a3 : Int32) : lw_rk tb 297 [.ref 117, .int a0, .int a1, .int a2, .int a3] := fun X => ⟨_, gx_297_ok a0 a1 a2 a3, fun r X' ⟨v, e, g⟩ => lw_rkf (gf_297 g) (by decide) (by decide) (by decide)⟩
theorem lw_rk299 {tb : aj_T} (a0 a1 : Int32) : lw_rk tb 299 [.ref 117, .int a0, .int a1] := fun X => ⟨_, gx_299_ok a0 a1, fun r X' ⟨v, e, g⟩ => lw_rkf (gf_299 g) (by decide) (by decide) (by decide)⟩
theorem lw_rk300 {tb : aj_T} (a0 a1 a2 : Int32) : lw_rk tb 300 [.ref 117, .int a0, .int a1, .int a2] := fun X => ⟨_, gx_300_ok a0 a1 a2, fun r X' ⟨v, e, g⟩ => lw_rkf (gf_300 g) (by decide) (by decide) (by decide)⟩
theorem lw_rk301 {tb : aj_T} (a0 a1 : Int32) : lw_rk tb 301 [.ref 117, .int a0, .int a1] := fun X => ⟨_, gx_301_ok a0 a1, fun r X' ⟨v, e, g⟩ => lw_rkf (gf_301 g) (by decide) (by decide) (by decide)⟩
theorem lw_rk302 {tb : aj_T} (a0 a1 a2 a3 : Int32) : lw_rk tb 302 [.ref 117, .int a0, .int a1, .int a2, .int a3] := fun X => ⟨_, gx_302_ok a0 a1 a2 a3, fun r X' ⟨v, e, g⟩ => lw_rkf (gf_302 g) (by decide) (by decide) (by decide)⟩
theorem lw_rk303 {tb : aj_T} (a0 a1 a2 : Int32) : lw_rk tb 303 [.ref 117, .int a0, .int a1, .int a2] := fun X => ⟨_, gx_303_ok a0 a1 a2, fun r X' ⟨v, e, g⟩ => lw_rkf (gf_303 g) (by decide) (by decide) (by decide)⟩
theorem lw_rk304 {tb : aj_T} (a0 a1 a2 : Int32) : lw_rk tb 304 [.ref 117, .int a0, .int a1, .int a2] := fun X => ⟨_, gx_304_ok a0 a1 a2, fun r X' ⟨v, e, g⟩ => lw_rkf (gf_304 g) (by decide) (by decide) (by decide)⟩
theorem lw_rk305 {tb : aj_T} (a0 a1 : Int32) : lw_rk tb 305 [.ref 117, .int a0, .int a1] := fun X => ⟨_, gx_305_ok a0 a1, fun r X' ⟨v, e, g⟩ => lw_rkf (gf_305 g) (by decide) (by decide) (by decide)⟩
theorem lw_rk306 {tb : aj_T} (a0 a1 : Int32) : lw_rk tb 306 [.ref 117, .int a0, .int a1] := fun X => ⟨_, gx_306_ok a0 a1, fun r X' ⟨v, e, g⟩ => lw_rkf (gf_306 g) (by decide) (by decide) (by decide)⟩
theorem lw_rk308 {tb : aj_T} (a0 : Int32) : lw_rk tb 308 [.ref 117, .int a0] := fun X => ⟨_, gx_308_ok a0, fun r X' ⟨v, e, g⟩ => lw_rkf (gf_308 g) (by decide) (by decide) (by decide)⟩
