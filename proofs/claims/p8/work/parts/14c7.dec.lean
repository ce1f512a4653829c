set_option maxRecDepth 1000000 in
theorem aj_dk229 : aj_ctOK aj_c229 (aj_bc 1900) := by
  rw [show aj_bc 1900 = prog_14_method_45_code from rfl]
  exact aj_ckD_ok (by decide +kernel)
set_option maxRecDepth 1000000 in
theorem aj_dk230 : aj_ctOK aj_c230 (aj_bc 1904) := by
  rw [show aj_bc 1904 = prog_14_method_44_code from rfl]
  exact aj_ckD_ok (by decide +kernel)
set_option maxRecDepth 1000000 in
theorem aj_dk231 : aj_ctOK aj_c231 (aj_bc 1908) := by
  rw [show aj_bc 1908 = prog_14_method_21_code from rfl]
  exact aj_ckD_ok (by decide +kernel)
set_option maxRecDepth 1000000 in
theorem aj_dk232 : aj_ctOK aj_c232 (aj_bc 1912) := by
  rw [show aj_bc 1912 = prog_14_method_46_code from rfl]
  exact aj_ckD_ok (by decide +kernel)
set_option maxRecDepth 1000000 in
theorem aj_dk233 : aj_ctOK aj_c233 (aj_bc 1916) := by
  rw [show aj_bc 1916 = prog_14_method_22_code from rfl]
  exact aj_ckD_ok (by decide +kernel)
set_option maxRecDepth 1000000 in
theorem aj_dk234 : aj_ctOK aj_c234 (aj_bc 1920) := by
  rw [show aj_bc 1920 = prog_14_method_47_code from rfl]
  exact aj_ckD_ok (by decide +kernel)
set_option maxRecDepth 1000000 in
theorem aj_dk235 : aj_ctOK aj_c235 (aj_bc 1924) := by
  rw [show aj_bc 1924 = prog_14_method_23_code from rfl]
  exact aj_ckD_ok (by decide +kernel)
set_option maxRecDepth 1000000 in
theorem aj_dk236 : aj_ctOK aj_c236 (aj_bc 1927) := by
  rw [show aj_bc 1927 = prog_14_method_31_code from rfl]
  exact aj_ckD_ok (by decide +kernel)
set_option maxRecDepth 1000000 in
theorem aj_dk237 : aj_ctOK aj_c237 (aj_bc 1931) := by
  rw [show aj_bc 1931 = prog_14_method_35_code from rfl]
  exact aj_ckD_ok (by decide +kernel)
set_option maxRecDepth 1000000 in
theorem aj_dk238 : aj_ctOK aj_c238 (aj_bc 1935) := by
  rw [show aj_bc 1935 = prog_14_method_36_code from rfl]
  exact aj_ckD_ok (by decide +kernel)
set_option maxRecDepth 1000000 in
theorem aj_dk239 : aj_ctOK aj_c239 (aj_bc 1939) := by
  rw [show aj_bc 1939 = prog_14_method_26_code from rfl]
  exact aj_ckD_ok (by decide +kernel)
set_option maxRecDepth 1000000 in
theorem aj_dk240 : aj_ctOK aj_c240 (aj_bc 1943) := by
  rw [show aj_bc 1943 = prog_14_method_25_code from rfl]
  exact aj_ckD_ok (by decide +kernel)
set_option maxRecDepth 1000000 in
theorem aj_dk241 : aj_ctOK aj_c241 (aj_bc 1947) := by
  rw [show aj_bc 1947 = prog_14_method_24_code from rfl]
  exact aj_ckD_ok (by decide +kernel)
set_option maxRecDepth 1000000 in
theorem aj_dk242 : aj_ctOK aj_c242 (aj_bc 1950) := by
  rw [show aj_bc 1950 = prog_14_method_27_code from rfl]
  exact aj_ckD_ok (by decide +kernel)
set_option maxRecDepth 1000000 in
theorem aj_dk243 : aj_ctOK aj_c243 (aj_bc 1954) := by
  rw [show aj_bc 1954 = prog_14_method_34_code from rfl]
  exact aj_ckD_ok (by decide +kernel)
set_option maxRecDepth 1000000 in
theorem aj_dk244 : aj_ctOK aj_c244 (aj_bc 1958) := by
  rw [show aj_bc 1958 = prog_14_method_33_code from rfl]
  exact aj_ckD_ok (by decide +kernel)
set_option maxRecDepth 1000000 in
theorem aj_dk245 : aj_ctOK aj_c245 (aj_bc 1962) := by
  rw [show aj_bc 1962 = prog_14_method_32_code from rfl]
  exact aj_ckD_ok (by decide +kernel)
set_option maxRecDepth 1000000 in
theorem aj_dk246 : aj_ctOK aj_c246 (aj_bc 1966) := by
  rw [show aj_bc 1966 = prog_14_method_48_code from rfl]
  exact aj_ckD_ok (by decide +kernel)
set_option maxRecDepth 1000000 in
theorem aj_dk247 : aj_ctOK aj_c247 (aj_bc 1970) := by
  rw [show aj_bc 1970 = prog_14_method_49_code from rfl]
  exact aj_ckD_ok (by decide +kernel)
