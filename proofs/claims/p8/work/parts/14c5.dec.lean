set_option maxRecDepth 1000000 in
theorem aj_dk173 : aj_ctOK aj_c173 (aj_bc 1424) := by
  rw [show aj_bc 1424 = prog_1_method_11_code from rfl]
  exact aj_ckD_ok (by decide +kernel)
set_option maxRecDepth 1000000 in
theorem aj_dk174 : aj_ctOK aj_c174 (aj_bc 1430) := by
  rw [show aj_bc 1430 = prog_5_method_8_code from rfl]
  exact aj_ckD_ok (by decide +kernel)
set_option maxRecDepth 1000000 in
theorem aj_dk175 : aj_ctOK aj_c175 (aj_bc 1435) := by
  rw [show aj_bc 1435 = prog_5_method_9_code from rfl]
  exact aj_ckD_ok (by decide +kernel)
set_option maxRecDepth 1000000 in
theorem aj_dk176 : aj_ctOK aj_c176 (aj_bc 1443) := by
  rw [show aj_bc 1443 = prog_5_method_10_code from rfl]
  exact aj_ckD_ok (by decide +kernel)
set_option maxRecDepth 1000000 in
theorem aj_dk177 : aj_ctOK aj_c177 (aj_bc 1446) := by
  rw [show aj_bc 1446 = prog_19_method_123_code from rfl]
  exact aj_ckD_ok (by decide +kernel)
set_option maxRecDepth 1000000 in
theorem aj_dk178 : aj_ctOK aj_c178 (aj_bc 1459) := by
  rw [show aj_bc 1459 = prog_5_method_11_code from rfl]
  exact aj_ckD_ok (by decide +kernel)
set_option maxRecDepth 1000000 in
theorem aj_dk179 : aj_ctOK aj_c179 (aj_bc 1463) := by
  rw [show aj_bc 1463 = prog_5_method_12_code from rfl]
  exact aj_ckD_ok (by decide +kernel)
set_option maxRecDepth 1000000 in
theorem aj_dk180 : aj_ctOK aj_c180 (aj_bc 1467) := by
  rw [show aj_bc 1467 = prog_5_method_13_code from rfl]
  exact aj_ckD_ok (by decide +kernel)
set_option maxRecDepth 1000000 in
theorem aj_dk181 : aj_ctOK aj_c181 (aj_bc 1471) := by
  rw [show aj_bc 1471 = prog_5_method_6_code from rfl]
  exact aj_ckD_ok (by decide +kernel)
set_option maxRecDepth 1000000 in
theorem aj_dk182 : aj_ctOK aj_c182 (aj_bc 1474) := by
  rw [show aj_bc 1474 = prog_5_method_3_code from rfl]
  exact aj_ckD_ok (by decide +kernel)
set_option maxRecDepth 1000000 in
theorem aj_dk183 : aj_ctOK aj_c183 (aj_bc 1477) := by
  rw [show aj_bc 1477 = prog_5_method_2_code from rfl]
  exact aj_ckD_ok (by decide +kernel)
set_option maxRecDepth 1000000 in
theorem aj_dk184 : aj_ctOK aj_c184 (aj_bc 1481) := by
  rw [show aj_bc 1481 = prog_5_method_4_code from rfl]
  exact aj_ckD_ok (by decide +kernel)
set_option maxRecDepth 1000000 in
theorem aj_dk185 : aj_ctOK aj_c185 (aj_bc 1485) := by
  rw [show aj_bc 1485 = prog_5_method_14_code from rfl]
  exact aj_ckD_ok (by decide +kernel)
set_option maxRecDepth 1000000 in
theorem aj_dk186 : aj_ctOK aj_c186 (aj_bc 1489) := by
  rw [show aj_bc 1489 = prog_1_method_12_code from rfl]
  exact aj_ckD_ok (by decide +kernel)
set_option maxRecDepth 1000000 in
theorem aj_dk187 : aj_ctOK aj_c187 (aj_bc 1495) := by
  rw [show aj_bc 1495 = prog_1_method_13_code from rfl]
  exact aj_ckD_ok (by decide +kernel)
set_option maxRecDepth 1000000 in
theorem aj_dk188 : aj_ctOK aj_c188 (aj_bc 1500) := by
  rw [show aj_bc 1500 = prog_1_method_14_code from rfl]
  exact aj_ckD_ok (by decide +kernel)
set_option maxRecDepth 1000000 in
theorem aj_dk189 : aj_ctOK aj_c189 (aj_bc 1504) := by
  rw [show aj_bc 1504 = prog_1_method_15_code from rfl]
  exact aj_ckD_ok (by decide +kernel)
set_option maxRecDepth 1000000 in
theorem aj_dk190 : aj_ctOK aj_c190 (aj_bc 1509) := by
  rw [show aj_bc 1509 = prog_1_method_16_code from rfl]
  exact aj_ckD_ok (by decide +kernel)
set_option maxRecDepth 1000000 in
theorem aj_dk191 : aj_ctOK aj_c191 (aj_bc 1514) := by
  rw [show aj_bc 1514 = prog_1_method_17_code from rfl]
  exact aj_ckD_ok (by decide +kernel)
set_option maxRecDepth 1000000 in
theorem aj_dk192 : aj_ctOK aj_c192 (aj_bc 1518) := by
  rw [show aj_bc 1518 = prog_5_method_7_code from rfl]
  exact aj_ckD_ok (by decide +kernel)
set_option maxRecDepth 1000000 in
theorem aj_dk193 : aj_ctOK aj_c193 (aj_bc 1522) := by
  rw [show aj_bc 1522 = prog_1_method_26_code from rfl]
  exact aj_ckD_ok (by decide +kernel)
set_option maxRecDepth 1000000 in
theorem aj_dk194 : aj_ctOK aj_c194 (aj_bc 1528) := by
  rw [show aj_bc 1528 = prog_1_method_18_code from rfl]
  exact aj_ckD_ok (by decide +kernel)
set_option maxRecDepth 1000000 in
theorem aj_dk195 : aj_ctOK aj_c195 (aj_bc 1533) := by
  rw [show aj_bc 1533 = prog_1_method_19_code from rfl]
  exact aj_ckD_ok (by decide +kernel)
set_option maxRecDepth 1000000 in
theorem aj_dk196 : aj_ctOK aj_c196 (aj_bc 1538) := by
  rw [show aj_bc 1538 = prog_1_method_20_code from rfl]
  exact aj_ckD_ok (by decide +kernel)
set_option maxRecDepth 1000000 in
theorem aj_dk197 : aj_ctOK aj_c197 (aj_bc 1542) := by
  rw [show aj_bc 1542 = prog_1_method_27_code from rfl]
  exact aj_ckD_ok (by decide +kernel)
set_option maxRecDepth 1000000 in
theorem aj_dk198 : aj_ctOK aj_c198 (aj_bc 1547) := by
  rw [show aj_bc 1547 = prog_1_method_21_code from rfl]
  exact aj_ckD_ok (by decide +kernel)
set_option maxRecDepth 1000000 in
theorem aj_dk199 : aj_ctOK aj_c199 (aj_bc 1552) := by
  rw [show aj_bc 1552 = prog_14_method_1_code from rfl]
  exact aj_ckD_ok (by decide +kernel)
set_option maxRecDepth 1000000 in
theorem aj_dk200 : aj_ctOK aj_c200 (aj_bc 1777) := by
  rw [show aj_bc 1777 = prog_14_method_2_code from rfl]
  exact aj_ckD_ok (by decide +kernel)
set_option maxRecDepth 1000000 in
theorem aj_dk201 : aj_ctOK aj_c201 (aj_bc 1781) := by
  rw [show aj_bc 1781 = prog_14_method_3_code from rfl]
  exact aj_ckD_ok (by decide +kernel)
set_option maxRecDepth 1000000 in
theorem aj_dk202 : aj_ctOK aj_c202 (aj_bc 1785) := by
  rw [show aj_bc 1785 = prog_14_method_4_code from rfl]
  exact aj_ckD_ok (by decide +kernel)
set_option maxRecDepth 1000000 in
theorem aj_dk203 : aj_ctOK aj_c203 (aj_bc 1789) := by
  rw [show aj_bc 1789 = prog_14_method_37_code from rfl]
  exact aj_ckD_ok (by decide +kernel)
