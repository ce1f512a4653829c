set_option maxRecDepth 1000000 in
theorem aj_dk248 : aj_ctOK aj_c248 (aj_bc 1974) := by
  rw [show aj_bc 1974 = prog_14_method_50_code from rfl]
  exact aj_ckD_ok (by decide +kernel)
set_option maxRecDepth 1000000 in
theorem aj_dk249 : aj_ctOK aj_c249 (aj_bc 1978) := by
  rw [show aj_bc 1978 = prog_14_method_56_code from rfl]
  exact aj_ckD_ok (by decide +kernel)
set_option maxRecDepth 1000000 in
theorem aj_dk250 : aj_ctOK aj_c250 (aj_bc 1982) := by
  rw [show aj_bc 1982 = prog_14_method_57_code from rfl]
  exact aj_ckD_ok (by decide +kernel)
set_option maxRecDepth 1000000 in
theorem aj_dk251 : aj_ctOK aj_c251 (aj_bc 1986) := by
  rw [show aj_bc 1986 = prog_14_method_51_code from rfl]
  exact aj_ckD_ok (by decide +kernel)
set_option maxRecDepth 1000000 in
theorem aj_dk252 : aj_ctOK aj_c252 (aj_bc 1990) := by
  rw [show aj_bc 1990 = prog_14_method_52_code from rfl]
  exact aj_ckD_ok (by decide +kernel)
set_option maxRecDepth 1000000 in
theorem aj_dk253 : aj_ctOK aj_c253 (aj_bc 1994) := by
  rw [show aj_bc 1994 = prog_14_method_58_code from rfl]
  exact aj_ckD_ok (by decide +kernel)
set_option maxRecDepth 1000000 in
theorem aj_dk254 : aj_ctOK aj_c254 (aj_bc 1998) := by
  rw [show aj_bc 1998 = prog_14_method_69_code from rfl]
  exact aj_ckD_ok (by decide +kernel)
set_option maxRecDepth 1000000 in
theorem aj_dk255 : aj_ctOK aj_c255 (aj_bc 2002) := by
  rw [show aj_bc 2002 = prog_14_method_67_code from rfl]
  exact aj_ckD_ok (by decide +kernel)
set_option maxRecDepth 1000000 in
theorem aj_dk256 : aj_ctOK aj_c256 (aj_bc 2006) := by
  rw [show aj_bc 2006 = prog_14_method_66_code from rfl]
  exact aj_ckD_ok (by decide +kernel)
set_option maxRecDepth 1000000 in
theorem aj_dk257 : aj_ctOK aj_c257 (aj_bc 2010) := by
  rw [show aj_bc 2010 = prog_14_method_68_code from rfl]
  exact aj_ckD_ok (by decide +kernel)
set_option maxRecDepth 1000000 in
theorem aj_dk258 : aj_ctOK aj_c258 (aj_bc 2014) := by
  rw [show aj_bc 2014 = prog_14_method_61_code from rfl]
  exact aj_ckD_ok (by decide +kernel)
set_option maxRecDepth 1000000 in
theorem aj_dk259 : aj_ctOK aj_c259 (aj_bc 2018) := by
  rw [show aj_bc 2018 = prog_14_method_62_code from rfl]
  exact aj_ckD_ok (by decide +kernel)
set_option maxRecDepth 1000000 in
theorem aj_dk260 : aj_ctOK aj_c260 (aj_bc 2022) := by
  rw [show aj_bc 2022 = prog_14_method_71_code from rfl]
  exact aj_ckD_ok (by decide +kernel)
set_option maxRecDepth 1000000 in
theorem aj_dk261 : aj_ctOK aj_c261 (aj_bc 2026) := by
  rw [show aj_bc 2026 = prog_14_method_70_code from rfl]
  exact aj_ckD_ok (by decide +kernel)
set_option maxRecDepth 1000000 in
theorem aj_dk262 : aj_ctOK aj_c262 (aj_bc 2030) := by
  rw [show aj_bc 2030 = prog_14_method_72_code from rfl]
  exact aj_ckD_ok (by decide +kernel)
set_option maxRecDepth 1000000 in
theorem aj_dk263 : aj_ctOK aj_c263 (aj_bc 2034) := by
  rw [show aj_bc 2034 = prog_14_method_73_code from rfl]
  exact aj_ckD_ok (by decide +kernel)
set_option maxRecDepth 1000000 in
theorem aj_dk264 : aj_ctOK aj_c264 (aj_bc 2038) := by
  rw [show aj_bc 2038 = prog_14_method_53_code from rfl]
  exact aj_ckD_ok (by decide +kernel)
