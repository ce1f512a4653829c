set_option maxRecDepth 1000000 in
theorem aj_dk281 : aj_ctOK aj_c281 (aj_bc 2106) := by
  rw [show aj_bc 2106 = prog_14_method_85_code from rfl]
  exact aj_ckD_ok (by decide +kernel)
set_option maxRecDepth 1000000 in
theorem aj_dk282 : aj_ctOK aj_c282 (aj_bc 2110) := by
  rw [show aj_bc 2110 = prog_14_method_83_code from rfl]
  exact aj_ckD_ok (by decide +kernel)
set_option maxRecDepth 1000000 in
theorem aj_dk283 : aj_ctOK aj_c283 (aj_bc 2114) := by
  rw [show aj_bc 2114 = prog_14_method_86_code from rfl]
  exact aj_ckD_ok (by decide +kernel)
set_option maxRecDepth 1000000 in
theorem aj_dk284 : aj_ctOK aj_c284 (aj_bc 2118) := by
  rw [show aj_bc 2118 = prog_14_method_87_code from rfl]
  exact aj_ckD_ok (by decide +kernel)
set_option maxRecDepth 1000000 in
theorem aj_dk285 : aj_ctOK aj_c285 (aj_bc 2122) := by
  rw [show aj_bc 2122 = prog_14_method_88_code from rfl]
  exact aj_ckD_ok (by decide +kernel)
set_option maxRecDepth 1000000 in
theorem aj_dk286 : aj_ctOK aj_c286 (aj_bc 2126) := by
  rw [show aj_bc 2126 = prog_14_method_90_code from rfl]
  exact aj_ckD_ok (by decide +kernel)
set_option maxRecDepth 1000000 in
theorem aj_dk287 : aj_ctOK aj_c287 (aj_bc 2130) := by
  rw [show aj_bc 2130 = prog_14_method_89_code from rfl]
  exact aj_ckD_ok (by decide +kernel)
set_option maxRecDepth 1000000 in
theorem aj_dk288 : aj_ctOK aj_c288 (aj_bc 2134) := by
  rw [show aj_bc 2134 = prog_14_method_93_code from rfl]
  exact aj_ckD_ok (by decide +kernel)
set_option maxRecDepth 1000000 in
theorem aj_dk289 : aj_ctOK aj_c289 (aj_bc 2138) := by
  rw [show aj_bc 2138 = prog_14_method_92_code from rfl]
  exact aj_ckD_ok (by decide +kernel)
set_option maxRecDepth 1000000 in
theorem aj_dk290 : aj_ctOK aj_c290 (aj_bc 2143) := by
  rw [show aj_bc 2143 = prog_14_method_94_code from rfl]
  exact aj_ckD_ok (by decide +kernel)
set_option maxRecDepth 1000000 in
theorem aj_dk291 : aj_ctOK aj_c291 (aj_bc 2147) := by
  rw [show aj_bc 2147 = prog_14_method_91_code from rfl]
  exact aj_ckD_ok (by decide +kernel)
set_option maxRecDepth 1000000 in
theorem aj_dk292 : aj_ctOK aj_c292 (aj_bc 2151) := by
  rw [show aj_bc 2151 = prog_14_method_102_code from rfl]
  exact aj_ckD_ok (by decide +kernel)
set_option maxRecDepth 1000000 in
theorem aj_dk293 : aj_ctOK aj_c293 (aj_bc 2155) := by
  rw [show aj_bc 2155 = prog_14_method_101_code from rfl]
  exact aj_ckD_ok (by decide +kernel)
set_option maxRecDepth 1000000 in
theorem aj_dk294 : aj_ctOK aj_c294 (aj_bc 2159) := by
  rw [show aj_bc 2159 = prog_14_method_106_code from rfl]
  exact aj_ckD_ok (by decide +kernel)
set_option maxRecDepth 1000000 in
theorem aj_dk295 : aj_ctOK aj_c295 (aj_bc 2163) := by
  rw [show aj_bc 2163 = prog_14_method_105_code from rfl]
  exact aj_ckD_ok (by decide +kernel)
set_option maxRecDepth 1000000 in
theorem aj_dk296 : aj_ctOK aj_c296 (aj_bc 2167) := by
  rw [show aj_bc 2167 = prog_14_method_104_code from rfl]
  exact aj_ckD_ok (by decide +kernel)
set_option maxRecDepth 1000000 in
theorem aj_dk297 : aj_ctOK aj_c297 (aj_bc 2171) := by
  rw [show aj_bc 2171 = prog_14_method_96_code from rfl]
  exact aj_ckD_ok (by decide +kernel)
set_option maxRecDepth 1000000 in
theorem aj_dk298 : aj_ctOK aj_c298 (aj_bc 2175) := by
  rw [show aj_bc 2175 = prog_14_method_95_code from rfl]
  exact aj_ckD_ok (by decide +kernel)
set_option maxRecDepth 1000000 in
theorem aj_dk299 : aj_ctOK aj_c299 (aj_bc 2179) := by
  rw [show aj_bc 2179 = prog_14_method_97_code from rfl]
  exact aj_ckD_ok (by decide +kernel)
set_option maxRecDepth 1000000 in
theorem aj_dk300 : aj_ctOK aj_c300 (aj_bc 2183) := by
  rw [show aj_bc 2183 = prog_14_method_98_code from rfl]
  exact aj_ckD_ok (by decide +kernel)
set_option maxRecDepth 1000000 in
theorem aj_dk301 : aj_ctOK aj_c301 (aj_bc 2187) := by
  rw [show aj_bc 2187 = prog_14_method_99_code from rfl]
  exact aj_ckD_ok (by decide +kernel)
