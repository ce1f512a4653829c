set_option maxRecDepth 1000000 in
theorem aj_dk302 : aj_ctOK aj_c302 (aj_bc 2191) := by
  rw [show aj_bc 2191 = prog_14_method_100_code from rfl]
  exact aj_ckD_ok (by decide +kernel)
set_option maxRecDepth 1000000 in
theorem aj_dk303 : aj_ctOK aj_c303 (aj_bc 2195) := by
  rw [show aj_bc 2195 = prog_14_method_103_code from rfl]
  exact aj_ckD_ok (by decide +kernel)
set_option maxRecDepth 1000000 in
theorem aj_dk304 : aj_ctOK aj_c304 (aj_bc 2199) := by
  rw [show aj_bc 2199 = prog_14_method_107_code from rfl]
  exact aj_ckD_ok (by decide +kernel)
set_option maxRecDepth 1000000 in
theorem aj_dk305 : aj_ctOK aj_c305 (aj_bc 2203) := by
  rw [show aj_bc 2203 = prog_14_method_108_code from rfl]
  exact aj_ckD_ok (by decide +kernel)
set_option maxRecDepth 1000000 in
theorem aj_dk306 : aj_ctOK aj_c306 (aj_bc 2207) := by
  rw [show aj_bc 2207 = prog_14_method_109_code from rfl]
  exact aj_ckD_ok (by decide +kernel)
set_option maxRecDepth 1000000 in
theorem aj_dk307 : aj_ctOK aj_c307 (aj_bc 2211) := by
  rw [show aj_bc 2211 = prog_14_method_110_code from rfl]
  exact aj_ckD_ok (by decide +kernel)
set_option maxRecDepth 1000000 in
theorem aj_dk308 : aj_ctOK aj_c308 (aj_bc 2215) := by
  rw [show aj_bc 2215 = prog_14_method_111_code from rfl]
  exact aj_ckD_ok (by decide +kernel)
set_option maxRecDepth 1000000 in
theorem aj_dk309 : aj_ctOK aj_c309 (aj_bc 2219) := by
  rw [show aj_bc 2219 = prog_14_method_84_code from rfl]
  exact aj_ckD_ok (by decide +kernel)
