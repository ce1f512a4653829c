set_option maxRecDepth 1000000 in
theorem aj_dk136 : aj_ctOK aj_c136 (aj_bc 1269) := by
  rw [show aj_bc 1269 = prog_4_method_11_code from rfl]
  exact aj_ckD_ok (by decide +kernel)
set_option maxRecDepth 1000000 in
theorem aj_dk137 : aj_ctOK aj_c137 (aj_bc 1273) := by
  rw [show aj_bc 1273 = prog_4_method_12_code from rfl]
  exact aj_ckD_ok (by decide +kernel)
set_option maxRecDepth 1000000 in
theorem aj_dk138 : aj_ctOK aj_c138 (aj_bc 1277) := by
  rw [show aj_bc 1277 = prog_4_method_13_code from rfl]
  exact aj_ckD_ok (by decide +kernel)
set_option maxRecDepth 1000000 in
theorem aj_dk139 : aj_ctOK aj_c139 (aj_bc 1282) := by
  rw [show aj_bc 1282 = prog_9_method_17_code from rfl]
  exact aj_ckD_ok (by decide +kernel)
set_option maxRecDepth 1000000 in
theorem aj_dk140 : aj_ctOK aj_c140 (aj_bc 1286) := by
  rw [show aj_bc 1286 = prog_12_method_10_code from rfl]
  exact aj_ckD_ok (by decide +kernel)
set_option maxRecDepth 1000000 in
theorem aj_dk141 : aj_ctOK aj_c141 (aj_bc 1290) := by
  rw [show aj_bc 1290 = prog_12_method_11_code from rfl]
  exact aj_ckD_ok (by decide +kernel)
set_option maxRecDepth 1000000 in
theorem aj_dk142 : aj_ctOK aj_c142 (aj_bc 1294) := by
  rw [show aj_bc 1294 = prog_12_method_12_code from rfl]
  exact aj_ckD_ok (by decide +kernel)
set_option maxRecDepth 1000000 in
theorem aj_dk143 : aj_ctOK aj_c143 (aj_bc 1298) := by
  rw [show aj_bc 1298 = prog_12_method_5_code from rfl]
  exact aj_ckD_ok (by decide +kernel)
set_option maxRecDepth 1000000 in
theorem aj_dk144 : aj_ctOK aj_c144 (aj_bc 1302) := by
  rw [show aj_bc 1302 = prog_12_method_6_code from rfl]
  exact aj_ckD_ok (by decide +kernel)
set_option maxRecDepth 1000000 in
theorem aj_dk145 : aj_ctOK aj_c145 (aj_bc 1306) := by
  rw [show aj_bc 1306 = prog_12_method_7_code from rfl]
  exact aj_ckD_ok (by decide +kernel)
set_option maxRecDepth 1000000 in
theorem aj_dk146 : aj_ctOK aj_c146 (aj_bc 1310) := by
  rw [show aj_bc 1310 = prog_12_method_8_code from rfl]
  exact aj_ckD_ok (by decide +kernel)
set_option maxRecDepth 1000000 in
theorem aj_dk147 : aj_ctOK aj_c147 (aj_bc 1314) := by
  rw [show aj_bc 1314 = prog_12_method_2_code from rfl]
  exact aj_ckD_ok (by decide +kernel)
set_option maxRecDepth 1000000 in
theorem aj_dk148 : aj_ctOK aj_c148 (aj_bc 1318) := by
  rw [show aj_bc 1318 = prog_10_method_23_code from rfl]
  exact aj_ckD_ok (by decide +kernel)
set_option maxRecDepth 1000000 in
theorem aj_dk149 : aj_ctOK aj_c149 (aj_bc 1323) := by
  rw [show aj_bc 1323 = prog_12_method_9_code from rfl]
  exact aj_ckD_ok (by decide +kernel)
set_option maxRecDepth 1000000 in
theorem aj_dk150 : aj_ctOK aj_c150 (aj_bc 1327) := by
  rw [show aj_bc 1327 = prog_1_method_25_code from rfl]
  exact aj_ckD_ok (by decide +kernel)
set_option maxRecDepth 1000000 in
theorem aj_dk151 : aj_ctOK aj_c151 (aj_bc 1331) := by
  rw [show aj_bc 1331 = prog_5_method_5_code from rfl]
  exact aj_ckD_ok (by decide +kernel)
set_option maxRecDepth 1000000 in
theorem aj_dk152 : aj_ctOK aj_c152 (aj_bc 1335) := by
  rw [show aj_bc 1335 = prog_8_method_2_code from rfl]
  exact aj_ckD_ok (by decide +kernel)
set_option maxRecDepth 1000000 in
theorem aj_dk153 : aj_ctOK aj_c153 (aj_bc 1339) := by
  rw [show aj_bc 1339 = prog_1_method_5_code from rfl]
  exact aj_ckD_ok (by decide +kernel)
set_option maxRecDepth 1000000 in
theorem aj_dk154 : aj_ctOK aj_c154 (aj_bc 1343) := by
  rw [show aj_bc 1343 = prog_1_method_6_code from rfl]
  exact aj_ckD_ok (by decide +kernel)
set_option maxRecDepth 1000000 in
theorem aj_dk155 : aj_ctOK aj_c155 (aj_bc 1347) := by
  rw [show aj_bc 1347 = prog_1_method_24_code from rfl]
  exact aj_ckD_ok (by decide +kernel)
set_option maxRecDepth 1000000 in
theorem aj_dk156 : aj_ctOK aj_c156 (aj_bc 1351) := by
  rw [show aj_bc 1351 = prog_12_method_3_code from rfl]
  exact aj_ckD_ok (by decide +kernel)
set_option maxRecDepth 1000000 in
theorem aj_dk157 : aj_ctOK aj_c157 (aj_bc 1355) := by
  rw [show aj_bc 1355 = prog_10_method_22_code from rfl]
  exact aj_ckD_ok (by decide +kernel)
set_option maxRecDepth 1000000 in
theorem aj_dk158 : aj_ctOK aj_c158 (aj_bc 1359) := by
  rw [show aj_bc 1359 = prog_10_method_18_code from rfl]
  exact aj_ckD_ok (by decide +kernel)
set_option maxRecDepth 1000000 in
theorem aj_dk159 : aj_ctOK aj_c159 (aj_bc 1364) := by
  rw [show aj_bc 1364 = prog_1_method_7_code from rfl]
  exact aj_ckD_ok (by decide +kernel)
set_option maxRecDepth 1000000 in
theorem aj_dk160 : aj_ctOK aj_c160 (aj_bc 1368) := by
  rw [show aj_bc 1368 = prog_10_method_24_code from rfl]
  exact aj_ckD_ok (by decide +kernel)
set_option maxRecDepth 1000000 in
theorem aj_dk161 : aj_ctOK aj_c161 (aj_bc 1372) := by
  rw [show aj_bc 1372 = prog_1_method_8_code from rfl]
  exact aj_ckD_ok (by decide +kernel)
set_option maxRecDepth 1000000 in
theorem aj_dk162 : aj_ctOK aj_c162 (aj_bc 1376) := by
  rw [show aj_bc 1376 = prog_10_method_25_code from rfl]
  exact aj_ckD_ok (by decide +kernel)
set_option maxRecDepth 1000000 in
theorem aj_dk163 : aj_ctOK aj_c163 (aj_bc 1380) := by
  rw [show aj_bc 1380 = prog_1_method_9_code from rfl]
  exact aj_ckD_ok (by decide +kernel)
set_option maxRecDepth 1000000 in
theorem aj_dk164 : aj_ctOK aj_c164 (aj_bc 1384) := by
  rw [show aj_bc 1384 = prog_8_method_3_code from rfl]
  exact aj_ckD_ok (by decide +kernel)
set_option maxRecDepth 1000000 in
theorem aj_dk165 : aj_ctOK aj_c165 (aj_bc 1388) := by
  rw [show aj_bc 1388 = prog_8_method_4_code from rfl]
  exact aj_ckD_ok (by decide +kernel)
set_option maxRecDepth 1000000 in
theorem aj_dk166 : aj_ctOK aj_c166 (aj_bc 1392) := by
  rw [show aj_bc 1392 = prog_10_method_21_code from rfl]
  exact aj_ckD_ok (by decide +kernel)
set_option maxRecDepth 1000000 in
theorem aj_dk167 : aj_ctOK aj_c167 (aj_bc 1396) := by
  rw [show aj_bc 1396 = prog_10_method_20_code from rfl]
  exact aj_ckD_ok (by decide +kernel)
set_option maxRecDepth 1000000 in
theorem aj_dk168 : aj_ctOK aj_c168 (aj_bc 1400) := by
  rw [show aj_bc 1400 = prog_8_method_5_code from rfl]
  exact aj_ckD_ok (by decide +kernel)
set_option maxRecDepth 1000000 in
theorem aj_dk169 : aj_ctOK aj_c169 (aj_bc 1403) := by
  rw [show aj_bc 1403 = prog_8_method_7_code from rfl]
  exact aj_ckD_ok (by decide +kernel)
set_option maxRecDepth 1000000 in
theorem aj_dk170 : aj_ctOK aj_c170 (aj_bc 1406) := by
  rw [show aj_bc 1406 = prog_16_method_49_code from rfl]
  exact aj_ckD_ok (by decide +kernel)
set_option maxRecDepth 1000000 in
theorem aj_dk171 : aj_ctOK aj_c171 (aj_bc 1413) := by
  rw [show aj_bc 1413 = prog_8_method_6_code from rfl]
  exact aj_ckD_ok (by decide +kernel)
set_option maxRecDepth 1000000 in
theorem aj_dk172 : aj_ctOK aj_c172 (aj_bc 1417) := by
  rw [show aj_bc 1417 = prog_1_method_10_code from rfl]
  exact aj_ckD_ok (by decide +kernel)
