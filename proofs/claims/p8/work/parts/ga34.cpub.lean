/-! THE CLASS'S PUBLIC METHODS, WITH THE BYTES OF THE TAPE -/
section CWA34
variable {tb : aj_T} {d : Nat} {s : List Nat} {h : aj_H} {x1 : Int32}
theorem cw_Q153 (htb : ak_tbOK ak_C0 tb) (htG : cw_tbG tb) (hT : ak_Ty ak_C0 s h) (hI : cw_I cw_XB s h) (hd : 27 ≤ d) (f1 : cw_F h 0 10 1 (.int x1)) : cw_PB2 tb d 153 [.ref (52 + 0)] s h (fun _ x2 => x2 = x1) := by
  obtain ⟨u, r, h', k1, k2, k3, k4, k5⟩ := cw_of (d := d) (SP := cw_I cw_XB) (k := 1) (by omega) (ap_0_153 htb (cw_I_c rfl rfl) cw_hK) hT hI (as := [.ref (52 + 0)]) ⟨cw_gR (cw_s0 hI.1 rfl) (by decide) (by decide), trivial⟩ cw_q0
  obtain ⟨z, rfl, -⟩ := cw_rI k5
  exact ⟨u, z, x1, h', k1, k2, k3.1, cw_rs_ev hT hI.1 k4 (by decide), cw_Fev k4 (by decide) f1, rfl⟩
theorem cw_Q154 (htb : ak_tbOK ak_C0 tb) (htG : cw_tbG tb) (hT : ak_Ty ak_C0 s h) (hI : cw_I cw_XB s h) (hd : 27 ≤ d) (f1 : cw_F h 0 10 1 (.int x1)) : cw_PB2 tb d 154 [.ref (52 + 0)] s h (fun _ x2 => x2.toInt = 0) := by
  obtain ⟨u, r, h', k1, k2, k3, k4, k5⟩ := cw_learn1 htb htG hT hI (d := d) (by omega)
  obtain ⟨z, rfl, -⟩ := cw_rI k5
  exact ⟨u, z, _, h', k1, k2, k3.1, cw_rs_ev hT hI.1 k4 (by decide), k3.2, rfl⟩
theorem cw_Q159 (htb : ak_tbOK ak_C0 tb) (htG : cw_tbG tb) (hT : ak_Ty ak_C0 s h) (hI : cw_I cw_XB s h) (hd : 27 ≤ d) (f1 : cw_F h 0 10 1 (.int x1)) : cw_PB2 tb d 159 [.ref (52 + 0)] s h (fun _ x2 => x2 = x1) := by
  obtain ⟨u, r, h', k1, k2, k3, k4, k5⟩ := cw_of (d := d) (SP := cw_I cw_XB) (k := 3) (by omega) (ap_0_159 htb (cw_I_c rfl rfl) cw_hK) hT hI (as := [.ref (52 + 0)]) ⟨cw_gR (cw_s0 hI.1 rfl) (by decide) (by decide), trivial⟩ cw_q0
  obtain ⟨z, rfl, -⟩ := cw_rI k5
  exact ⟨u, z, x1, h', k1, k2, k3.1, cw_rs_ev hT hI.1 k4 (by decide), cw_Fev k4 (by decide) f1, rfl⟩
theorem cw_Q161 (htb : ak_tbOK ak_C0 tb) (htG : cw_tbG tb) (hT : ak_Ty ak_C0 s h) (hI : cw_I cw_XB s h) (hd : 27 ≤ d) (f1 : cw_F h 0 10 1 (.int x1)) : cw_PB2 tb d 161 [.ref (52 + 0)] s h (fun _ x2 => x2.toInt = 0) := by
  obtain ⟨u, r, h', k1, k2, k3, k4, k5⟩ := cw_ask1 htb htG hT hI (d := d) (by omega)
  obtain ⟨z, rfl, -⟩ := cw_rI k5
  exact ⟨u, z, _, h', k1, k2, k3.1, cw_rs_ev hT hI.1 k4 (by decide), k3.2, rfl⟩
theorem cw_Q163 (htb : ak_tbOK ak_C0 tb) (htG : cw_tbG tb) (hT : ak_Ty ak_C0 s h) (hI : cw_I cw_XB s h) (hd : 27 ≤ d) (a0 : Int32) (f1 : cw_F h 0 10 1 (.int x1)) : cw_PB2 tb d 163 [.ref (52 + 0), .int a0] s h (fun _ x2 => x2 = x1) := by
  obtain ⟨u, r, h', k1, k2, k3, k4, k5⟩ := cw_of (d := d) (SP := cw_I cw_XB) (k := 27) (by omega) (ap_0_163 htb (cw_I_c rfl rfl) cw_hK) hT hI (as := [.ref (52 + 0), .int a0]) ⟨cw_gR (cw_s0 hI.1 rfl) (by decide) (by decide), cw_full _, trivial⟩ cw_q0
  obtain ⟨z, rfl, -⟩ := cw_rI k5
  exact ⟨u, z, x1, h', k1, k2, k3.1, cw_rs_ev hT hI.1 k4 (by decide), cw_Fev k4 (by decide) f1, rfl⟩
theorem cw_Q172 (htb : ak_tbOK ak_C0 tb) (htG : cw_tbG tb) (hT : ak_Ty ak_C0 s h) (hI : cw_I cw_XB s h) (hd : 27 ≤ d) (a0 a1 : Int32) (f1 : cw_F h 0 10 1 (.int x1)) : cw_PB2 tb d 172 [.ref (52 + 0), .int a0, .int a1] s h (fun _ x2 => x2 = x1) := by
  obtain ⟨u, r, h', k1, k2, k3, k4, k5⟩ := cw_of (d := d) (SP := cw_I cw_XB) (k := 2) (by omega) (ap_0_172 htb (cw_I_c rfl rfl) cw_hK) hT hI (as := [.ref (52 + 0), .int a0, .int a1]) ⟨cw_gR (cw_s0 hI.1 rfl) (by decide) (by decide), cw_full _, cw_full _, trivial⟩ cw_q0
  obtain ⟨z, rfl, -⟩ := cw_rI k5
  exact ⟨u, z, x1, h', k1, k2, k3.1, cw_rs_ev hT hI.1 k4 (by decide), cw_Fev k4 (by decide) f1, rfl⟩
theorem cw_Q173 (htb : ak_tbOK ak_C0 tb) (htG : cw_tbG tb) (hT : ak_Ty ak_C0 s h) (hI : cw_I cw_XB s h) (hd : 27 ≤ d) (a0 a1 : Int32) (f1 : cw_F h 0 10 1 (.int x1)) : cw_PB2 tb d 173 [.ref (52 + 0), .int a0, .int a1] s h (fun _ x2 => x2 = x1) := by
  obtain ⟨u, r, h', k1, k2, k3, k4, k5⟩ := cw_of (d := d) (SP := cw_I cw_XB) (k := 8) (by omega) (ap_0_173 htb (cw_I_c rfl rfl) cw_hK (cw_H0 htb htG)) hT hI (as := [.ref (52 + 0), .int a0, .int a1]) ⟨cw_gR (cw_s0 hI.1 rfl) (by decide) (by decide), cw_full _, cw_full _, trivial⟩ cw_q0
  obtain ⟨z, rfl, -⟩ := cw_rI k5
  exact ⟨u, z, x1, h', k1, k2, k3.1, cw_rs_ev hT hI.1 k4 (by decide), cw_Fev k4 (by decide) f1, rfl⟩
theorem cw_Q186 (htb : ak_tbOK ak_C0 tb) (htG : cw_tbG tb) (hT : ak_Ty ak_C0 s h) (hI : cw_I cw_XB s h) (hd : 27 ≤ d) (a0 a1 a2 a3 : Int32) (f1 : cw_F h 0 10 1 (.int x1)) : cw_PB2 tb d 186 [.ref (52 + 0), .int a0, .int a1, .int a2, .int a3] s h (fun _ x2 => x2 = x1) := by
  obtain ⟨u, r, h', k1, k2, k3, k4, k5⟩ := cw_of (d := d) (SP := cw_I cw_XB) (k := 3) (by omega) (ap_0_186 htb (cw_I_c rfl rfl) cw_hK) hT hI (as := [.ref (52 + 0), .int a0, .int a1, .int a2, .int a3]) ⟨cw_gR (cw_s0 hI.1 rfl) (by decide) (by decide), cw_full _, cw_full _, cw_full _, cw_full _, trivial⟩ cw_q0
  obtain ⟨z, rfl, -⟩ := cw_rI k5
  exact ⟨u, z, x1, h', k1, k2, k3.1, cw_rs_ev hT hI.1 k4 (by decide), cw_Fev k4 (by decide) f1, rfl⟩
theorem cw_Q187 (htb : ak_tbOK ak_C0 tb) (htG : cw_tbG tb) (hT : ak_Ty ak_C0 s h) (hI : cw_I cw_XB s h) (hd : 27 ≤ d) (a0 a1 : Int32) (f1 : cw_F h 0 10 1 (.int x1)) : cw_PB2 tb d 187 [.ref (52 + 0), .int a0, .int a1] s h (fun _ x2 => x2 = x1) := by
  obtain ⟨u, r, h', k1, k2, k3, k4, k5⟩ := cw_of (d := d) (SP := cw_I cw_XB) (k := 3) (by omega) (ap_0_187 htb (cw_I_c rfl rfl) cw_hK) hT hI (as := [.ref (52 + 0), .int a0, .int a1]) ⟨cw_gR (cw_s0 hI.1 rfl) (by decide) (by decide), cw_full _, cw_full _, trivial⟩ cw_q0
  obtain ⟨z, rfl, -⟩ := cw_rI k5
  exact ⟨u, z, x1, h', k1, k2, k3.1, cw_rs_ev hT hI.1 k4 (by decide), cw_Fev k4 (by decide) f1, rfl⟩
theorem cw_Q188 (htb : ak_tbOK ak_C0 tb) (htG : cw_tbG tb) (hT : ak_Ty ak_C0 s h) (hI : cw_I cw_XB s h) (hd : 27 ≤ d) (a0 a1 a2 : Int32) (f1 : cw_F h 0 10 1 (.int x1)) : cw_PB2 tb d 188 [.ref (52 + 0), .int a0, .int a1, .int a2] s h (fun _ x2 => x2 = x1) := by
  obtain ⟨u, r, h', k1, k2, k3, k4, k5⟩ := cw_of (d := d) (SP := cw_I cw_XB) (k := 3) (by omega) (ap_0_188 htb (cw_I_c rfl rfl) cw_hK) hT hI (as := [.ref (52 + 0), .int a0, .int a1, .int a2]) ⟨cw_gR (cw_s0 hI.1 rfl) (by decide) (by decide), cw_full _, cw_full _, cw_full _, trivial⟩ cw_q0
  obtain ⟨z, rfl, -⟩ := cw_rI k5
  exact ⟨u, z, x1, h', k1, k2, k3.1, cw_rs_ev hT hI.1 k4 (by decide), cw_Fev k4 (by decide) f1, rfl⟩
theorem cw_Q189 (htb : ak_tbOK ak_C0 tb) (htG : cw_tbG tb) (hT : ak_Ty ak_C0 s h) (hI : cw_I cw_XB s h) (hd : 27 ≤ d) (a0 a1 : Int32) (f1 : cw_F h 0 10 1 (.int x1)) : cw_PB2 tb d 189 [.ref (52 + 0), .int a0, .int a1] s h (fun _ x2 => x2 = x1) := by
  obtain ⟨u, r, h', k1, k2, k3, k4, k5⟩ := cw_of (d := d) (SP := cw_I cw_XB) (k := 5) (by omega) (ap_0_189 htb (cw_I_c rfl rfl) cw_hK) hT hI (as := [.ref (52 + 0), .int a0, .int a1]) ⟨cw_gR (cw_s0 hI.1 rfl) (by decide) (by decide), cw_full _, cw_full _, trivial⟩ cw_q0
  obtain ⟨z, rfl, -⟩ := cw_rI k5
  exact ⟨u, z, x1, h', k1, k2, k3.1, cw_rs_ev hT hI.1 k4 (by decide), cw_Fev k4 (by decide) f1, rfl⟩
theorem cw_Q190 (htb : ak_tbOK ak_C0 tb) (htG : cw_tbG tb) (hT : ak_Ty ak_C0 s h) (hI : cw_I cw_XB s h) (hd : 27 ≤ d) (a0 a1 a2 a3 : Int32) (f1 : cw_F h 0 10 1 (.int x1)) : cw_PB2 tb d 190 [.ref (52 + 0), .int a0, .int a1, .int a2, .int a3] s h (fun _ x2 => x2 = x1) := by
  obtain ⟨u, r, h', k1, k2, k3, k4, k5⟩ := cw_of (d := d) (SP := cw_I cw_XB) (k := 5) (by omega) (ap_0_190 htb (cw_I_c rfl rfl) cw_hK) hT hI (as := [.ref (52 + 0), .int a0, .int a1, .int a2, .int a3]) ⟨cw_gR (cw_s0 hI.1 rfl) (by decide) (by decide), cw_full _, cw_full _, cw_full _, cw_full _, trivial⟩ cw_q0
  obtain ⟨z, rfl, -⟩ := cw_rI k5
  exact ⟨u, z, x1, h', k1, k2, k3.1, cw_rs_ev hT hI.1 k4 (by decide), cw_Fev k4 (by decide) f1, rfl⟩
theorem cw_Q191 (htb : ak_tbOK ak_C0 tb) (htG : cw_tbG tb) (hT : ak_Ty ak_C0 s h) (hI : cw_I cw_XB s h) (hd : 27 ≤ d) (a0 a1 a2 : Int32) (f1 : cw_F h 0 10 1 (.int x1)) : cw_PB2 tb d 191 [.ref (52 + 0), .int a0, .int a1, .int a2] s h (fun _ x2 => x2 = x1) := by
  obtain ⟨u, r, h', k1, k2, k3, k4, k5⟩ := cw_of (d := d) (SP := cw_I cw_XB) (k := 8) (by omega) (ap_0_191 htb (cw_I_c rfl rfl) cw_hK (cw_H0 htb htG)) hT hI (as := [.ref (52 + 0), .int a0, .int a1, .int a2]) ⟨cw_gR (cw_s0 hI.1 rfl) (by decide) (by decide), cw_full _, cw_full _, cw_full _, trivial⟩ cw_q0
  obtain ⟨z, rfl, -⟩ := cw_rI k5
  exact ⟨u, z, x1, h', k1, k2, k3.1, cw_rs_ev hT hI.1 k4 (by decide), cw_Fev k4 (by decide) f1, rfl⟩
theorem cw_Q194 (htb : ak_tbOK ak_C0 tb) (htG : cw_tbG tb) (hT : ak_Ty ak_C0 s h) (hI : cw_I cw_XB s h) (hd : 27 ≤ d) (a0 a1 a2 : Int32) (f1 : cw_F h 0 10 1 (.int x1)) : cw_PB2 tb d 194 [.ref (52 + 0), .int a0, .int a1, .int a2] s h (fun _ x2 => x2 = x1) := by
  obtain ⟨u, r, h', k1, k2, k3, k4, k5⟩ := cw_of (d := d) (SP := cw_I cw_XB) (k := 8) (by omega) (ap_0_194 htb (cw_I_c rfl rfl) cw_hK (cw_H0 htb htG)) hT hI (as := [.ref (52 + 0), .int a0, .int a1, .int a2]) ⟨cw_gR (cw_s0 hI.1 rfl) (by decide) (by decide), cw_full _, cw_full _, cw_full _, trivial⟩ cw_q0
  obtain ⟨z, rfl, -⟩ := cw_rI k5
  exact ⟨u, z, x1, h', k1, k2, k3.1, cw_rs_ev hT hI.1 k4 (by decide), cw_Fev k4 (by decide) f1, rfl⟩
theorem cw_Q195 (htb : ak_tbOK ak_C0 tb) (htG : cw_tbG tb) (hT : ak_Ty ak_C0 s h) (hI : cw_I cw_XB s h) (hd : 27 ≤ d) (a0 a1 : Int32) (f1 : cw_F h 0 10 1 (.int x1)) : cw_PB2 tb d 195 [.ref (52 + 0), .int a0, .int a1] s h (fun _ x2 => x2 = x1) := by
  obtain ⟨u, r, h', k1, k2, k3, k4, k5⟩ := cw_of (d := d) (SP := cw_I cw_XB) (k := 8) (by omega) (ap_0_195 htb (cw_I_c rfl rfl) cw_hK (cw_H0 htb htG)) hT hI (as := [.ref (52 + 0), .int a0, .int a1]) ⟨cw_gR (cw_s0 hI.1 rfl) (by decide) (by decide), cw_full _, cw_full _, trivial⟩ cw_q0
  obtain ⟨z, rfl, -⟩ := cw_rI k5
  exact ⟨u, z, x1, h', k1, k2, k3.1, cw_rs_ev hT hI.1 k4 (by decide), cw_Fev k4 (by decide) f1, rfl⟩
theorem cw_Q196 (htb : ak_tbOK ak_C0 tb) (htG : cw_tbG tb) (hT : ak_Ty ak_C0 s h) (hI : cw_I cw_XB s h) (hd : 27 ≤ d) (a0 a1 : Int32) (f1 : cw_F h 0 10 1 (.int x1)) : cw_PB2 tb d 196 [.ref (52 + 0), .int a0, .int a1] s h (fun _ x2 => x2 = x1) := by
  obtain ⟨u, r, h', k1, k2, k3, k4, k5⟩ := cw_of (d := d) (SP := cw_I cw_XB) (k := 6) (by omega) (ap_0_196 htb (cw_I_c rfl rfl) cw_hK) hT hI (as := [.ref (52 + 0), .int a0, .int a1]) ⟨cw_gR (cw_s0 hI.1 rfl) (by decide) (by decide), cw_full _, cw_full _, trivial⟩ cw_q0
  obtain ⟨z, rfl, -⟩ := cw_rI k5
  exact ⟨u, z, x1, h', k1, k2, k3.1, cw_rs_ev hT hI.1 k4 (by decide), cw_Fev k4 (by decide) f1, rfl⟩
theorem cw_Q198 (htb : ak_tbOK ak_C0 tb) (htG : cw_tbG tb) (hT : ak_Ty ak_C0 s h) (hI : cw_I cw_XB s h) (hd : 27 ≤ d) (a0 : Int32) (f1 : cw_F h 0 10 1 (.int x1)) : cw_PB2 tb d 198 [.ref (52 + 0), .int a0] s h (fun _ x2 => x2 = x1) := by
  obtain ⟨u, r, h', k1, k2, k3, k4, k5⟩ := cw_of (d := d) (SP := cw_I cw_XB) (k := 1) (by omega) (ap_0_198 htb (cw_I_c rfl rfl) cw_hK) hT hI (as := [.ref (52 + 0), .int a0]) ⟨cw_gR (cw_s0 hI.1 rfl) (by decide) (by decide), cw_full _, trivial⟩ cw_q0
  obtain ⟨z, rfl, -⟩ := cw_rI k5
  exact ⟨u, z, x1, h', k1, k2, k3.1, cw_rs_ev hT hI.1 k4 (by decide), cw_Fev k4 (by decide) f1, rfl⟩
theorem cw_Q19 (htb : ak_tbOK ak_C0 tb) (htG : cw_tbG tb) (hT : ak_Ty ak_C0 s h) (hI : cw_I cw_XB s h) (hd : 27 ≤ d) (f1 : cw_F h 0 10 1 (.int x1)) : cw_PB2 tb d 19 [.ref (52 + 0)] s h (fun _ x2 => x2.toInt = 0) := by
  obtain ⟨u, r, h', k1, k2, k3, k4, k5⟩ := cw_read1 htb htG hT hI (d := d) (by omega)
  obtain ⟨z, rfl, -⟩ := cw_rI k5
  exact ⟨u, z, _, h', k1, k2, k3.1, cw_rs_ev hT hI.1 k4 (by decide), k3.2, rfl⟩
end CWA34
