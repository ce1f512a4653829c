/-! THE CLASS'S PUBLIC METHODS (printed by wip/p2/cwalk/g90.py) -/
/-- a call of the class returns an int, and the next may come -/
def cw_PB (tb : aj_T) (d m : Nat) (as : List Value) (s : List Nat) (h : aj_H) : Prop := ∃ (u : List Nat) (z : Int32) (h' : aj_H), aj_runs aj_rc aj_cls tb aj_mt d m as h u.length (ak_slo ak_C0 u) (some (.int z)) h' ∧ ak_Ty ak_C0 (s ++ u) h' ∧ cw_I cw_XB (s ++ u) h'
section CW90
variable {tb : aj_T} {d : Nat} {s : List Nat} {h : aj_H}
/-- feed -/
theorem cw_P16 (htb : ak_tbOK ak_C0 tb) (htG : cw_tbG tb) (hT : ak_Ty ak_C0 s h) (hI : cw_I cw_XB s h) (hd : 27 ≤ d) (a0 a1 a2 a3 a4 : Int32) : cw_PB tb d 16 [.ref (52 + 0), .int a0, .int a1, .int a2, .int a3, .int a4] s h := by
  obtain ⟨u, r, h', k1, k2, k3, -, k5⟩ := cw_of (d := d) (SP := cw_I cw_XB) (k := 2) (by omega) (ap_0_16 htb (cw_I_c rfl rfl) cw_hK) hT hI (as := [.ref (52 + 0), .int a0, .int a1, .int a2, .int a3, .int a4]) ⟨cw_gR (cw_s0 hI.1 rfl) (by decide) (by decide), cw_full _, cw_full _, cw_full _, cw_full _, cw_full _, trivial⟩ cw_q0
  obtain ⟨z, rfl, -⟩ := cw_rI k5
  exact ⟨u, z, h', k1, k2, k3.1⟩
/-- back -/
theorem cw_P18 (htb : ak_tbOK ak_C0 tb) (htG : cw_tbG tb) (hT : ak_Ty ak_C0 s h) (hI : cw_I cw_XB s h) (hd : 27 ≤ d) (a0 : Int32) : cw_PB tb d 18 [.ref (52 + 0), .int a0] s h := by
  obtain ⟨u, r, h', k1, k2, k3, -, k5⟩ := cw_of (d := d) (SP := cw_I cw_XB) (k := 1) (by omega) (ap_0_18 htb (cw_I_c rfl rfl) cw_hK) hT hI (as := [.ref (52 + 0), .int a0]) ⟨cw_gR (cw_s0 hI.1 rfl) (by decide) (by decide), cw_full _, trivial⟩ cw_q0
  obtain ⟨z, rfl, -⟩ := cw_rI k5
  exact ⟨u, z, h', k1, k2, k3.1⟩
/-- place -/
theorem cw_P153 (htb : ak_tbOK ak_C0 tb) (htG : cw_tbG tb) (hT : ak_Ty ak_C0 s h) (hI : cw_I cw_XB s h) (hd : 27 ≤ d) : cw_PB tb d 153 [.ref (52 + 0)] s h := by
  obtain ⟨u, r, h', k1, k2, k3, -, k5⟩ := cw_of (d := d) (SP := cw_I cw_XB) (k := 1) (by omega) (ap_0_153 htb (cw_I_c rfl rfl) cw_hK) hT hI (as := [.ref (52 + 0)]) ⟨cw_gR (cw_s0 hI.1 rfl) (by decide) (by decide), trivial⟩ cw_q0
  obtain ⟨z, rfl, -⟩ := cw_rI k5
  exact ⟨u, z, h', k1, k2, k3.1⟩
/-- learn -/
theorem cw_P154 (htb : ak_tbOK ak_C0 tb) (htG : cw_tbG tb) (hT : ak_Ty ak_C0 s h) (hI : cw_I cw_XB s h) (hd : 27 ≤ d) : cw_PB tb d 154 [.ref (52 + 0)] s h := by
  obtain ⟨u, r, h', k1, k2, k3, -, k5⟩ := cw_of (d := d) (SP := cw_I cw_XB) (k := 9) (by omega) (ap_0_154 htb (cw_I_c rfl rfl) cw_hK (cw_H0 htb htG)) hT hI (as := [.ref (52 + 0)]) ⟨cw_gR (cw_s0 hI.1 rfl) (by decide) (by decide), trivial⟩ cw_q0
  obtain ⟨z, rfl, -⟩ := cw_rI k5
  exact ⟨u, z, h', k1, k2, k3.1⟩
/-- undo -/
theorem cw_P159 (htb : ak_tbOK ak_C0 tb) (htG : cw_tbG tb) (hT : ak_Ty ak_C0 s h) (hI : cw_I cw_XB s h) (hd : 27 ≤ d) : cw_PB tb d 159 [.ref (52 + 0)] s h := by
  obtain ⟨u, r, h', k1, k2, k3, -, k5⟩ := cw_of (d := d) (SP := cw_I cw_XB) (k := 3) (by omega) (ap_0_159 htb (cw_I_c rfl rfl) cw_hK) hT hI (as := [.ref (52 + 0)]) ⟨cw_gR (cw_s0 hI.1 rfl) (by decide) (by decide), trivial⟩ cw_q0
  obtain ⟨z, rfl, -⟩ := cw_rI k5
  exact ⟨u, z, h', k1, k2, k3.1⟩
/-- ask -/
theorem cw_P161 (htb : ak_tbOK ak_C0 tb) (htG : cw_tbG tb) (hT : ak_Ty ak_C0 s h) (hI : cw_I cw_XB s h) (hd : 27 ≤ d) : cw_PB tb d 161 [.ref (52 + 0)] s h := by
  obtain ⟨u, r, h', k1, k2, k3, -, k5⟩ := cw_of (d := d) (SP := cw_I cw_XB) (k := 9) (by omega) (ap_0_161 htb (cw_I_c rfl rfl) cw_hK (cw_H0 htb htG)) hT hI (as := [.ref (52 + 0)]) ⟨cw_gR (cw_s0 hI.1 rfl) (by decide) (by decide), trivial⟩ cw_q0
  obtain ⟨z, rfl, -⟩ := cw_rI k5
  exact ⟨u, z, h', k1, k2, k3.1⟩
/-- why -/
theorem cw_P163 (htb : ak_tbOK ak_C0 tb) (htG : cw_tbG tb) (hT : ak_Ty ak_C0 s h) (hI : cw_I cw_XB s h) (hd : 27 ≤ d) (a0 : Int32) : cw_PB tb d 163 [.ref (52 + 0), .int a0] s h := by
  obtain ⟨u, r, h', k1, k2, k3, -, k5⟩ := cw_of (d := d) (SP := cw_I cw_XB) (k := 27) (by omega) (ap_0_163 htb (cw_I_c rfl rfl) cw_hK) hT hI (as := [.ref (52 + 0), .int a0]) ⟨cw_gR (cw_s0 hI.1 rfl) (by decide) (by decide), cw_full _, trivial⟩ cw_q0
  obtain ⟨z, rfl, -⟩ := cw_rI k5
  exact ⟨u, z, h', k1, k2, k3.1⟩
/-- value -/
theorem cw_P172 (htb : ak_tbOK ak_C0 tb) (htG : cw_tbG tb) (hT : ak_Ty ak_C0 s h) (hI : cw_I cw_XB s h) (hd : 27 ≤ d) (a0 a1 : Int32) : cw_PB tb d 172 [.ref (52 + 0), .int a0, .int a1] s h := by
  obtain ⟨u, r, h', k1, k2, k3, -, k5⟩ := cw_of (d := d) (SP := cw_I cw_XB) (k := 2) (by omega) (ap_0_172 htb (cw_I_c rfl rfl) cw_hK) hT hI (as := [.ref (52 + 0), .int a0, .int a1]) ⟨cw_gR (cw_s0 hI.1 rfl) (by decide) (by decide), cw_full _, cw_full _, trivial⟩ cw_q0
  obtain ⟨z, rfl, -⟩ := cw_rI k5
  exact ⟨u, z, h', k1, k2, k3.1⟩
/-- table -/
theorem cw_P173 (htb : ak_tbOK ak_C0 tb) (htG : cw_tbG tb) (hT : ak_Ty ak_C0 s h) (hI : cw_I cw_XB s h) (hd : 27 ≤ d) (a0 a1 : Int32) : cw_PB tb d 173 [.ref (52 + 0), .int a0, .int a1] s h := by
  obtain ⟨u, r, h', k1, k2, k3, -, k5⟩ := cw_of (d := d) (SP := cw_I cw_XB) (k := 8) (by omega) (ap_0_173 htb (cw_I_c rfl rfl) cw_hK (cw_H0 htb htG)) hT hI (as := [.ref (52 + 0), .int a0, .int a1]) ⟨cw_gR (cw_s0 hI.1 rfl) (by decide) (by decide), cw_full _, cw_full _, trivial⟩ cw_q0
  obtain ⟨z, rfl, -⟩ := cw_rI k5
  exact ⟨u, z, h', k1, k2, k3.1⟩
/-- term -/
theorem cw_P186 (htb : ak_tbOK ak_C0 tb) (htG : cw_tbG tb) (hT : ak_Ty ak_C0 s h) (hI : cw_I cw_XB s h) (hd : 27 ≤ d) (a0 a1 a2 a3 : Int32) : cw_PB tb d 186 [.ref (52 + 0), .int a0, .int a1, .int a2, .int a3] s h := by
  obtain ⟨u, r, h', k1, k2, k3, -, k5⟩ := cw_of (d := d) (SP := cw_I cw_XB) (k := 3) (by omega) (ap_0_186 htb (cw_I_c rfl rfl) cw_hK) hT hI (as := [.ref (52 + 0), .int a0, .int a1, .int a2, .int a3]) ⟨cw_gR (cw_s0 hI.1 rfl) (by decide) (by decide), cw_full _, cw_full _, cw_full _, cw_full _, trivial⟩ cw_q0
  obtain ⟨z, rfl, -⟩ := cw_rI k5
  exact ⟨u, z, h', k1, k2, k3.1⟩
/-- many -/
theorem cw_P187 (htb : ak_tbOK ak_C0 tb) (htG : cw_tbG tb) (hT : ak_Ty ak_C0 s h) (hI : cw_I cw_XB s h) (hd : 27 ≤ d) (a0 a1 : Int32) : cw_PB tb d 187 [.ref (52 + 0), .int a0, .int a1] s h := by
  obtain ⟨u, r, h', k1, k2, k3, -, k5⟩ := cw_of (d := d) (SP := cw_I cw_XB) (k := 3) (by omega) (ap_0_187 htb (cw_I_c rfl rfl) cw_hK) hT hI (as := [.ref (52 + 0), .int a0, .int a1]) ⟨cw_gR (cw_s0 hI.1 rfl) (by decide) (by decide), cw_full _, cw_full _, trivial⟩ cw_q0
  obtain ⟨z, rfl, -⟩ := cw_rI k5
  exact ⟨u, z, h', k1, k2, k3.1⟩
/-- holds -/
theorem cw_P188 (htb : ak_tbOK ak_C0 tb) (htG : cw_tbG tb) (hT : ak_Ty ak_C0 s h) (hI : cw_I cw_XB s h) (hd : 27 ≤ d) (a0 a1 a2 : Int32) : cw_PB tb d 188 [.ref (52 + 0), .int a0, .int a1, .int a2] s h := by
  obtain ⟨u, r, h', k1, k2, k3, -, k5⟩ := cw_of (d := d) (SP := cw_I cw_XB) (k := 3) (by omega) (ap_0_188 htb (cw_I_c rfl rfl) cw_hK) hT hI (as := [.ref (52 + 0), .int a0, .int a1, .int a2]) ⟨cw_gR (cw_s0 hI.1 rfl) (by decide) (by decide), cw_full _, cw_full _, cw_full _, trivial⟩ cw_q0
  obtain ⟨z, rfl, -⟩ := cw_rI k5
  exact ⟨u, z, h', k1, k2, k3.1⟩
/-- size -/
theorem cw_P189 (htb : ak_tbOK ak_C0 tb) (htG : cw_tbG tb) (hT : ak_Ty ak_C0 s h) (hI : cw_I cw_XB s h) (hd : 27 ≤ d) (a0 a1 : Int32) : cw_PB tb d 189 [.ref (52 + 0), .int a0, .int a1] s h := by
  obtain ⟨u, r, h', k1, k2, k3, -, k5⟩ := cw_of (d := d) (SP := cw_I cw_XB) (k := 5) (by omega) (ap_0_189 htb (cw_I_c rfl rfl) cw_hK) hT hI (as := [.ref (52 + 0), .int a0, .int a1]) ⟨cw_gR (cw_s0 hI.1 rfl) (by decide) (by decide), cw_full _, cw_full _, trivial⟩ cw_q0
  obtain ⟨z, rfl, -⟩ := cw_rI k5
  exact ⟨u, z, h', k1, k2, k3.1⟩
/-- cell -/
theorem cw_P190 (htb : ak_tbOK ak_C0 tb) (htG : cw_tbG tb) (hT : ak_Ty ak_C0 s h) (hI : cw_I cw_XB s h) (hd : 27 ≤ d) (a0 a1 a2 a3 : Int32) : cw_PB tb d 190 [.ref (52 + 0), .int a0, .int a1, .int a2, .int a3] s h := by
  obtain ⟨u, r, h', k1, k2, k3, -, k5⟩ := cw_of (d := d) (SP := cw_I cw_XB) (k := 5) (by omega) (ap_0_190 htb (cw_I_c rfl rfl) cw_hK) hT hI (as := [.ref (52 + 0), .int a0, .int a1, .int a2, .int a3]) ⟨cw_gR (cw_s0 hI.1 rfl) (by decide) (by decide), cw_full _, cw_full _, cw_full _, cw_full _, trivial⟩ cw_q0
  obtain ⟨z, rfl, -⟩ := cw_rI k5
  exact ⟨u, z, h', k1, k2, k3.1⟩
/-- sure -/
theorem cw_P191 (htb : ak_tbOK ak_C0 tb) (htG : cw_tbG tb) (hT : ak_Ty ak_C0 s h) (hI : cw_I cw_XB s h) (hd : 27 ≤ d) (a0 a1 a2 : Int32) : cw_PB tb d 191 [.ref (52 + 0), .int a0, .int a1, .int a2] s h := by
  obtain ⟨u, r, h', k1, k2, k3, -, k5⟩ := cw_of (d := d) (SP := cw_I cw_XB) (k := 8) (by omega) (ap_0_191 htb (cw_I_c rfl rfl) cw_hK (cw_H0 htb htG)) hT hI (as := [.ref (52 + 0), .int a0, .int a1, .int a2]) ⟨cw_gR (cw_s0 hI.1 rfl) (by decide) (by decide), cw_full _, cw_full _, cw_full _, trivial⟩ cw_q0
  obtain ⟨z, rfl, -⟩ := cw_rI k5
  exact ⟨u, z, h', k1, k2, k3.1⟩
/-- maybe -/
theorem cw_P194 (htb : ak_tbOK ak_C0 tb) (htG : cw_tbG tb) (hT : ak_Ty ak_C0 s h) (hI : cw_I cw_XB s h) (hd : 27 ≤ d) (a0 a1 a2 : Int32) : cw_PB tb d 194 [.ref (52 + 0), .int a0, .int a1, .int a2] s h := by
  obtain ⟨u, r, h', k1, k2, k3, -, k5⟩ := cw_of (d := d) (SP := cw_I cw_XB) (k := 8) (by omega) (ap_0_194 htb (cw_I_c rfl rfl) cw_hK (cw_H0 htb htG)) hT hI (as := [.ref (52 + 0), .int a0, .int a1, .int a2]) ⟨cw_gR (cw_s0 hI.1 rfl) (by decide) (by decide), cw_full _, cw_full _, cw_full _, trivial⟩ cw_q0
  obtain ⟨z, rfl, -⟩ := cw_rI k5
  exact ⟨u, z, h', k1, k2, k3.1⟩
/-- often -/
theorem cw_P195 (htb : ak_tbOK ak_C0 tb) (htG : cw_tbG tb) (hT : ak_Ty ak_C0 s h) (hI : cw_I cw_XB s h) (hd : 27 ≤ d) (a0 a1 : Int32) : cw_PB tb d 195 [.ref (52 + 0), .int a0, .int a1] s h := by
  obtain ⟨u, r, h', k1, k2, k3, -, k5⟩ := cw_of (d := d) (SP := cw_I cw_XB) (k := 8) (by omega) (ap_0_195 htb (cw_I_c rfl rfl) cw_hK (cw_H0 htb htG)) hT hI (as := [.ref (52 + 0), .int a0, .int a1]) ⟨cw_gR (cw_s0 hI.1 rfl) (by decide) (by decide), cw_full _, cw_full _, trivial⟩ cw_q0
  obtain ⟨z, rfl, -⟩ := cw_rI k5
  exact ⟨u, z, h', k1, k2, k3.1⟩
/-- same -/
theorem cw_P196 (htb : ak_tbOK ak_C0 tb) (htG : cw_tbG tb) (hT : ak_Ty ak_C0 s h) (hI : cw_I cw_XB s h) (hd : 27 ≤ d) (a0 a1 : Int32) : cw_PB tb d 196 [.ref (52 + 0), .int a0, .int a1] s h := by
  obtain ⟨u, r, h', k1, k2, k3, -, k5⟩ := cw_of (d := d) (SP := cw_I cw_XB) (k := 6) (by omega) (ap_0_196 htb (cw_I_c rfl rfl) cw_hK) hT hI (as := [.ref (52 + 0), .int a0, .int a1]) ⟨cw_gR (cw_s0 hI.1 rfl) (by decide) (by decide), cw_full _, cw_full _, trivial⟩ cw_q0
  obtain ⟨z, rfl, -⟩ := cw_rI k5
  exact ⟨u, z, h', k1, k2, k3.1⟩
/-- count -/
theorem cw_P198 (htb : ak_tbOK ak_C0 tb) (htG : cw_tbG tb) (hT : ak_Ty ak_C0 s h) (hI : cw_I cw_XB s h) (hd : 27 ≤ d) (a0 : Int32) : cw_PB tb d 198 [.ref (52 + 0), .int a0] s h := by
  obtain ⟨u, r, h', k1, k2, k3, -, k5⟩ := cw_of (d := d) (SP := cw_I cw_XB) (k := 1) (by omega) (ap_0_198 htb (cw_I_c rfl rfl) cw_hK) hT hI (as := [.ref (52 + 0), .int a0]) ⟨cw_gR (cw_s0 hI.1 rfl) (by decide) (by decide), cw_full _, trivial⟩ cw_q0
  obtain ⟨z, rfl, -⟩ := cw_rI k5
  exact ⟨u, z, h', k1, k2, k3.1⟩
/-- read -/
theorem cw_P19 (htb : ak_tbOK ak_C0 tb) (htG : cw_tbG tb) (hT : ak_Ty ak_C0 s h) (hI : cw_I cw_XB s h) (hd : 27 ≤ d) : cw_PB tb d 19 [.ref (52 + 0)] s h := by
  obtain ⟨u, r, h', k1, k2, k3, -, k5⟩ := cw_read htb htG hT hI (d := d) (by omega)
  obtain ⟨z, rfl, -⟩ := cw_rI k5
  exact ⟨u, z, h', k1, k2, k3⟩
end CW90
