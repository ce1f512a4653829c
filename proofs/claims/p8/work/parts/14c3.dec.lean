set_option maxRecDepth 1000000 in
theorem aj_dk104 : aj_ctOK aj_c104 (aj_bc 1118) := by
  rw [show aj_bc 1118 = prog_9_method_3_code from rfl]
  exact aj_ckD_ok (by decide +kernel)
set_option maxRecDepth 1000000 in
theorem aj_dk105 : aj_ctOK aj_c105 (aj_bc 1122) := by
  rw [show aj_bc 1122 = prog_9_method_4_code from rfl]
  exact aj_ckD_ok (by decide +kernel)
set_option maxRecDepth 1000000 in
theorem aj_dk106 : aj_ctOK aj_c106 (aj_bc 1129) := by
  rw [show aj_bc 1129 = prog_12_method_21_code from rfl]
  exact aj_ckD_ok (by decide +kernel)
set_option maxRecDepth 1000000 in
theorem aj_dk107 : aj_ctOK aj_c107 (aj_bc 1133) := by
  rw [show aj_bc 1133 = prog_12_method_16_code from rfl]
  exact aj_ckD_ok (by decide +kernel)
set_option maxRecDepth 1000000 in
theorem aj_dk108 : aj_ctOK aj_c108 (aj_bc 1141) := by
  rw [show aj_bc 1141 = prog_9_method_6_code from rfl]
  exact aj_ckD_ok (by decide +kernel)
set_option maxRecDepth 1000000 in
theorem aj_dk109 : aj_ctOK aj_c109 (aj_bc 1145) := by
  rw [show aj_bc 1145 = prog_9_method_7_code from rfl]
  exact aj_ckD_ok (by decide +kernel)
set_option maxRecDepth 1000000 in
theorem aj_dk110 : aj_ctOK aj_c110 (aj_bc 1149) := by
  rw [show aj_bc 1149 = prog_9_method_8_code from rfl]
  exact aj_ckD_ok (by decide +kernel)
set_option maxRecDepth 1000000 in
theorem aj_dk111 : aj_ctOK aj_c111 (aj_bc 1153) := by
  rw [show aj_bc 1153 = prog_12_method_22_code from rfl]
  exact aj_ckD_ok (by decide +kernel)
set_option maxRecDepth 1000000 in
theorem aj_dk112 : aj_ctOK aj_c112 (aj_bc 1158) := by
  rw [show aj_bc 1158 = prog_9_method_14_code from rfl]
  exact aj_ckD_ok (by decide +kernel)
set_option maxRecDepth 1000000 in
theorem aj_dk113 : aj_ctOK aj_c113 (aj_bc 1162) := by
  rw [show aj_bc 1162 = prog_9_method_15_code from rfl]
  exact aj_ckD_ok (by decide +kernel)
set_option maxRecDepth 1000000 in
theorem aj_dk114 : aj_ctOK aj_c114 (aj_bc 1167) := by
  rw [show aj_bc 1167 = prog_9_method_5_code from rfl]
  exact aj_ckD_ok (by decide +kernel)
set_option maxRecDepth 1000000 in
theorem aj_dk115 : aj_ctOK aj_c115 (aj_bc 1171) := by
  rw [show aj_bc 1171 = prog_12_method_23_code from rfl]
  exact aj_ckD_ok (by decide +kernel)
set_option maxRecDepth 1000000 in
theorem aj_dk116 : aj_ctOK aj_c116 (aj_bc 1175) := by
  rw [show aj_bc 1175 = prog_9_method_9_code from rfl]
  exact aj_ckD_ok (by decide +kernel)
set_option maxRecDepth 1000000 in
theorem aj_dk117 : aj_ctOK aj_c117 (aj_bc 1178) := by
  rw [show aj_bc 1178 = prog_19_method_103_code from rfl]
  exact aj_ckD_ok (by decide +kernel)
set_option maxRecDepth 1000000 in
theorem aj_dk118 : aj_ctOK aj_c118 (aj_bc 1182) := by
  rw [show aj_bc 1182 = prog_12_method_24_code from rfl]
  exact aj_ckD_ok (by decide +kernel)
set_option maxRecDepth 1000000 in
theorem aj_dk119 : aj_ctOK aj_c119 (aj_bc 1189) := by
  rw [show aj_bc 1189 = prog_9_method_16_code from rfl]
  exact aj_ckD_ok (by decide +kernel)
set_option maxRecDepth 1000000 in
theorem aj_dk120 : aj_ctOK aj_c120 (aj_bc 1193) := by
  rw [show aj_bc 1193 = prog_12_method_18_code from rfl]
  exact aj_ckD_ok (by decide +kernel)
set_option maxRecDepth 1000000 in
theorem aj_dk121 : aj_ctOK aj_c121 (aj_bc 1197) := by
  rw [show aj_bc 1197 = prog_12_method_20_code from rfl]
  exact aj_ckD_ok (by decide +kernel)
set_option maxRecDepth 1000000 in
theorem aj_dk122 : aj_ctOK aj_c122 (aj_bc 1201) := by
  rw [show aj_bc 1201 = prog_12_method_13_code from rfl]
  exact aj_ckD_ok (by decide +kernel)
set_option maxRecDepth 1000000 in
theorem aj_dk123 : aj_ctOK aj_c123 (aj_bc 1205) := by
  rw [show aj_bc 1205 = prog_12_method_14_code from rfl]
  exact aj_ckD_ok (by decide +kernel)
set_option maxRecDepth 1000000 in
theorem aj_dk124 : aj_ctOK aj_c124 (aj_bc 1209) := by
  rw [show aj_bc 1209 = prog_10_method_19_code from rfl]
  exact aj_ckD_ok (by decide +kernel)
set_option maxRecDepth 1000000 in
theorem aj_dk125 : aj_ctOK aj_c125 (aj_bc 1214) := by
  rw [show aj_bc 1214 = prog_4_method_2_code from rfl]
  exact aj_ckD_ok (by decide +kernel)
set_option maxRecDepth 1000000 in
theorem aj_dk126 : aj_ctOK aj_c126 (aj_bc 1218) := by
  rw [show aj_bc 1218 = prog_4_method_3_code from rfl]
  exact aj_ckD_ok (by decide +kernel)
set_option maxRecDepth 1000000 in
theorem aj_dk127 : aj_ctOK aj_c127 (aj_bc 1225) := by
  rw [show aj_bc 1225 = prog_4_method_4_code from rfl]
  exact aj_ckD_ok (by decide +kernel)
set_option maxRecDepth 1000000 in
theorem aj_dk128 : aj_ctOK aj_c128 (aj_bc 1233) := by
  rw [show aj_bc 1233 = prog_4_method_5_code from rfl]
  exact aj_ckD_ok (by decide +kernel)
set_option maxRecDepth 1000000 in
theorem aj_dk129 : aj_ctOK aj_c129 (aj_bc 1237) := by
  rw [show aj_bc 1237 = prog_9_method_13_code from rfl]
  exact aj_ckD_ok (by decide +kernel)
set_option maxRecDepth 1000000 in
theorem aj_dk130 : aj_ctOK aj_c130 (aj_bc 1241) := by
  rw [show aj_bc 1241 = prog_9_method_12_code from rfl]
  exact aj_ckD_ok (by decide +kernel)
set_option maxRecDepth 1000000 in
theorem aj_dk131 : aj_ctOK aj_c131 (aj_bc 1245) := by
  rw [show aj_bc 1245 = prog_4_method_6_code from rfl]
  exact aj_ckD_ok (by decide +kernel)
set_option maxRecDepth 1000000 in
theorem aj_dk132 : aj_ctOK aj_c132 (aj_bc 1249) := by
  rw [show aj_bc 1249 = prog_4_method_7_code from rfl]
  exact aj_ckD_ok (by decide +kernel)
set_option maxRecDepth 1000000 in
theorem aj_dk133 : aj_ctOK aj_c133 (aj_bc 1254) := by
  rw [show aj_bc 1254 = prog_4_method_8_code from rfl]
  exact aj_ckD_ok (by decide +kernel)
set_option maxRecDepth 1000000 in
theorem aj_dk134 : aj_ctOK aj_c134 (aj_bc 1258) := by
  rw [show aj_bc 1258 = prog_4_method_9_code from rfl]
  exact aj_ckD_ok (by decide +kernel)
set_option maxRecDepth 1000000 in
theorem aj_dk135 : aj_ctOK aj_c135 (aj_bc 1262) := by
  rw [show aj_bc 1262 = prog_4_method_10_code from rfl]
  exact aj_ckD_ok (by decide +kernel)
