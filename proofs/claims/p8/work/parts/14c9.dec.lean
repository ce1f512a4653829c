set_option maxRecDepth 1000000 in
theorem aj_dk265 : aj_ctOK aj_c265 (aj_bc 2042) := by
  rw [show aj_bc 2042 = prog_14_method_76_code from rfl]
  exact aj_ckD_ok (by decide +kernel)
set_option maxRecDepth 1000000 in
theorem aj_dk266 : aj_ctOK aj_c266 (aj_bc 2046) := by
  rw [show aj_bc 2046 = prog_14_method_75_code from rfl]
  exact aj_ckD_ok (by decide +kernel)
set_option maxRecDepth 1000000 in
theorem aj_dk267 : aj_ctOK aj_c267 (aj_bc 2050) := by
  rw [show aj_bc 2050 = prog_14_method_74_code from rfl]
  exact aj_ckD_ok (by decide +kernel)
set_option maxRecDepth 1000000 in
theorem aj_dk268 : aj_ctOK aj_c268 (aj_bc 2054) := by
  rw [show aj_bc 2054 = prog_14_method_78_code from rfl]
  exact aj_ckD_ok (by decide +kernel)
set_option maxRecDepth 1000000 in
theorem aj_dk269 : aj_ctOK aj_c269 (aj_bc 2058) := by
  rw [show aj_bc 2058 = prog_14_method_77_code from rfl]
  exact aj_ckD_ok (by decide +kernel)
set_option maxRecDepth 1000000 in
theorem aj_dk270 : aj_ctOK aj_c270 (aj_bc 2062) := by
  rw [show aj_bc 2062 = prog_14_method_79_code from rfl]
  exact aj_ckD_ok (by decide +kernel)
set_option maxRecDepth 1000000 in
theorem aj_dk271 : aj_ctOK aj_c271 (aj_bc 2066) := by
  rw [show aj_bc 2066 = prog_14_method_80_code from rfl]
  exact aj_ckD_ok (by decide +kernel)
set_option maxRecDepth 1000000 in
theorem aj_dk272 : aj_ctOK aj_c272 (aj_bc 2070) := by
  rw [show aj_bc 2070 = prog_14_method_81_code from rfl]
  exact aj_ckD_ok (by decide +kernel)
set_option maxRecDepth 1000000 in
theorem aj_dk273 : aj_ctOK aj_c273 (aj_bc 2074) := by
  rw [show aj_bc 2074 = prog_14_method_54_code from rfl]
  exact aj_ckD_ok (by decide +kernel)
set_option maxRecDepth 1000000 in
theorem aj_dk274 : aj_ctOK aj_c274 (aj_bc 2078) := by
  rw [show aj_bc 2078 = prog_14_method_55_code from rfl]
  exact aj_ckD_ok (by decide +kernel)
set_option maxRecDepth 1000000 in
theorem aj_dk275 : aj_ctOK aj_c275 (aj_bc 2082) := by
  rw [show aj_bc 2082 = prog_14_method_64_code from rfl]
  exact aj_ckD_ok (by decide +kernel)
set_option maxRecDepth 1000000 in
theorem aj_dk276 : aj_ctOK aj_c276 (aj_bc 2086) := by
  rw [show aj_bc 2086 = prog_14_method_65_code from rfl]
  exact aj_ckD_ok (by decide +kernel)
set_option maxRecDepth 1000000 in
theorem aj_dk277 : aj_ctOK aj_c277 (aj_bc 2090) := by
  rw [show aj_bc 2090 = prog_14_method_59_code from rfl]
  exact aj_ckD_ok (by decide +kernel)
set_option maxRecDepth 1000000 in
theorem aj_dk278 : aj_ctOK aj_c278 (aj_bc 2094) := by
  rw [show aj_bc 2094 = prog_14_method_60_code from rfl]
  exact aj_ckD_ok (by decide +kernel)
set_option maxRecDepth 1000000 in
theorem aj_dk279 : aj_ctOK aj_c279 (aj_bc 2098) := by
  rw [show aj_bc 2098 = prog_14_method_63_code from rfl]
  exact aj_ckD_ok (by decide +kernel)
set_option maxRecDepth 1000000 in
theorem aj_dk280 : aj_ctOK aj_c280 (aj_bc 2102) := by
  rw [show aj_bc 2102 = prog_14_method_82_code from rfl]
  exact aj_ckD_ok (by decide +kernel)
