set_option maxRecDepth 1000000 in
theorem aj_dk73 : aj_ctOK aj_c73 (aj_bc 985) := by
  rw [show aj_bc 985 = prog_2_method_16_code from rfl]
  exact aj_ckD_ok (by decide +kernel)
set_option maxRecDepth 1000000 in
theorem aj_dk74 : aj_ctOK aj_c74 (aj_bc 989) := by
  rw [show aj_bc 989 = prog_2_method_26_code from rfl]
  exact aj_ckD_ok (by decide +kernel)
set_option maxRecDepth 1000000 in
theorem aj_dk75 : aj_ctOK aj_c75 (aj_bc 993) := by
  rw [show aj_bc 993 = prog_2_method_17_code from rfl]
  exact aj_ckD_ok (by decide +kernel)
set_option maxRecDepth 1000000 in
theorem aj_dk76 : aj_ctOK aj_c76 (aj_bc 997) := by
  rw [show aj_bc 997 = prog_2_method_18_code from rfl]
  exact aj_ckD_ok (by decide +kernel)
set_option maxRecDepth 1000000 in
theorem aj_dk77 : aj_ctOK aj_c77 (aj_bc 1001) := by
  rw [show aj_bc 1001 = prog_2_method_19_code from rfl]
  exact aj_ckD_ok (by decide +kernel)
set_option maxRecDepth 1000000 in
theorem aj_dk78 : aj_ctOK aj_c78 (aj_bc 1005) := by
  rw [show aj_bc 1005 = prog_2_method_13_code from rfl]
  exact aj_ckD_ok (by decide +kernel)
set_option maxRecDepth 1000000 in
theorem aj_dk79 : aj_ctOK aj_c79 (aj_bc 1010) := by
  rw [show aj_bc 1010 = prog_2_method_24_code from rfl]
  exact aj_ckD_ok (by decide +kernel)
set_option maxRecDepth 1000000 in
theorem aj_dk80 : aj_ctOK aj_c80 (aj_bc 1015) := by
  rw [show aj_bc 1015 = prog_2_method_20_code from rfl]
  exact aj_ckD_ok (by decide +kernel)
set_option maxRecDepth 1000000 in
theorem aj_dk81 : aj_ctOK aj_c81 (aj_bc 1019) := by
  rw [show aj_bc 1019 = prog_2_method_12_code from rfl]
  exact aj_ckD_ok (by decide +kernel)
set_option maxRecDepth 1000000 in
theorem aj_dk82 : aj_ctOK aj_c82 (aj_bc 1023) := by
  rw [show aj_bc 1023 = prog_2_method_6_code from rfl]
  exact aj_ckD_ok (by decide +kernel)
set_option maxRecDepth 1000000 in
theorem aj_dk83 : aj_ctOK aj_c83 (aj_bc 1027) := by
  rw [show aj_bc 1027 = prog_11_method_5_code from rfl]
  exact aj_ckD_ok (by decide +kernel)
set_option maxRecDepth 1000000 in
theorem aj_dk84 : aj_ctOK aj_c84 (aj_bc 1031) := by
  rw [show aj_bc 1031 = prog_10_method_3_code from rfl]
  exact aj_ckD_ok (by decide +kernel)
set_option maxRecDepth 1000000 in
theorem aj_dk85 : aj_ctOK aj_c85 (aj_bc 1035) := by
  rw [show aj_bc 1035 = prog_2_method_7_code from rfl]
  exact aj_ckD_ok (by decide +kernel)
set_option maxRecDepth 1000000 in
theorem aj_dk86 : aj_ctOK aj_c86 (aj_bc 1039) := by
  rw [show aj_bc 1039 = prog_10_method_4_code from rfl]
  exact aj_ckD_ok (by decide +kernel)
set_option maxRecDepth 1000000 in
theorem aj_dk87 : aj_ctOK aj_c87 (aj_bc 1043) := by
  rw [show aj_bc 1043 = prog_10_method_5_code from rfl]
  exact aj_ckD_ok (by decide +kernel)
set_option maxRecDepth 1000000 in
theorem aj_dk88 : aj_ctOK aj_c88 (aj_bc 1047) := by
  rw [show aj_bc 1047 = prog_2_method_8_code from rfl]
  exact aj_ckD_ok (by decide +kernel)
set_option maxRecDepth 1000000 in
theorem aj_dk89 : aj_ctOK aj_c89 (aj_bc 1051) := by
  rw [show aj_bc 1051 = prog_10_method_6_code from rfl]
  exact aj_ckD_ok (by decide +kernel)
set_option maxRecDepth 1000000 in
theorem aj_dk90 : aj_ctOK aj_c90 (aj_bc 1055) := by
  rw [show aj_bc 1055 = prog_10_method_7_code from rfl]
  exact aj_ckD_ok (by decide +kernel)
set_option maxRecDepth 1000000 in
theorem aj_dk91 : aj_ctOK aj_c91 (aj_bc 1059) := by
  rw [show aj_bc 1059 = prog_2_method_9_code from rfl]
  exact aj_ckD_ok (by decide +kernel)
set_option maxRecDepth 1000000 in
theorem aj_dk92 : aj_ctOK aj_c92 (aj_bc 1063) := by
  rw [show aj_bc 1063 = prog_10_method_10_code from rfl]
  exact aj_ckD_ok (by decide +kernel)
set_option maxRecDepth 1000000 in
theorem aj_dk93 : aj_ctOK aj_c93 (aj_bc 1068) := by
  rw [show aj_bc 1068 = prog_10_method_11_code from rfl]
  exact aj_ckD_ok (by decide +kernel)
set_option maxRecDepth 1000000 in
theorem aj_dk94 : aj_ctOK aj_c94 (aj_bc 1074) := by
  rw [show aj_bc 1074 = prog_2_method_10_code from rfl]
  exact aj_ckD_ok (by decide +kernel)
set_option maxRecDepth 1000000 in
theorem aj_dk95 : aj_ctOK aj_c95 (aj_bc 1078) := by
  rw [show aj_bc 1078 = prog_10_method_14_code from rfl]
  exact aj_ckD_ok (by decide +kernel)
set_option maxRecDepth 1000000 in
theorem aj_dk96 : aj_ctOK aj_c96 (aj_bc 1082) := by
  rw [show aj_bc 1082 = prog_2_method_11_code from rfl]
  exact aj_ckD_ok (by decide +kernel)
set_option maxRecDepth 1000000 in
theorem aj_dk97 : aj_ctOK aj_c97 (aj_bc 1086) := by
  rw [show aj_bc 1086 = prog_12_method_4_code from rfl]
  exact aj_ckD_ok (by decide +kernel)
set_option maxRecDepth 1000000 in
theorem aj_dk98 : aj_ctOK aj_c98 (aj_bc 1092) := by
  rw [show aj_bc 1092 = prog_12_method_15_code from rfl]
  exact aj_ckD_ok (by decide +kernel)
set_option maxRecDepth 1000000 in
theorem aj_dk99 : aj_ctOK aj_c99 (aj_bc 1098) := by
  rw [show aj_bc 1098 = prog_12_method_19_code from rfl]
  exact aj_ckD_ok (by decide +kernel)
set_option maxRecDepth 1000000 in
theorem aj_dk100 : aj_ctOK aj_c100 (aj_bc 1102) := by
  rw [show aj_bc 1102 = prog_12_method_17_code from rfl]
  exact aj_ckD_ok (by decide +kernel)
set_option maxRecDepth 1000000 in
theorem aj_dk101 : aj_ctOK aj_c101 (aj_bc 1106) := by
  rw [show aj_bc 1106 = prog_9_method_10_code from rfl]
  exact aj_ckD_ok (by decide +kernel)
set_option maxRecDepth 1000000 in
theorem aj_dk102 : aj_ctOK aj_c102 (aj_bc 1110) := by
  rw [show aj_bc 1110 = prog_9_method_11_code from rfl]
  exact aj_ckD_ok (by decide +kernel)
set_option maxRecDepth 1000000 in
theorem aj_dk103 : aj_ctOK aj_c103 (aj_bc 1114) := by
  rw [show aj_bc 1114 = prog_9_method_2_code from rfl]
  exact aj_ckD_ok (by decide +kernel)
