def aj_ckD (b : ByteArray) (ct : List (Nat × Instr × Nat)) : Bool := ct.all fun q => decide (decode b q.1 = .ok q.2)
theorem aj_ckD_ok {b : ByteArray} {ct : List (Nat × Instr × Nat)} (h : aj_ckD b ct = true) : aj_ctOK ct b := fun q hq => of_decide_eq_true (List.all_eq_true.mp h q hq)
theorem aj_ckE {b : ByteArray} : aj_ctOK [] b := fun q hq => absurd hq List.not_mem_nil
set_option maxRecDepth 1000000 in
theorem aj_dkL : aj_ctOK aj_cL code := aj_ckD_ok (by decide +kernel)
set_option maxRecDepth 1000000 in
theorem aj_dk0 : aj_ctOK aj_c0 (aj_bc 189) := by
  rw [show aj_bc 189 = prog_1_method_1_code from rfl]
  exact aj_ckD_ok (by decide +kernel)
set_option maxRecDepth 1000000 in
theorem aj_dk1 : aj_ctOK aj_c1 (aj_bc 197) := by
  rw [show aj_bc 197 = prog_10_method_1_code from rfl]
  exact aj_ckD_ok (by decide +kernel)
set_option maxRecDepth 1000000 in
theorem aj_dk2 : aj_ctOK aj_c2 (aj_bc 204) := by
  rw [show aj_bc 204 = prog_10_method_2_code from rfl]
  exact aj_ckD_ok (by decide +kernel)
set_option maxRecDepth 1000000 in
theorem aj_dk3 : aj_ctOK aj_c3 (aj_bc 208) := by
  rw [show aj_bc 208 = prog_10_method_15_code from rfl]
  exact aj_ckD_ok (by decide +kernel)
set_option maxRecDepth 1000000 in
theorem aj_dk4 : aj_ctOK aj_c4 (aj_bc 212) := by
  rw [show aj_bc 212 = prog_10_method_8_code from rfl]
  exact aj_ckD_ok (by decide +kernel)
set_option maxRecDepth 1000000 in
theorem aj_dk5 : aj_ctOK aj_c5 (aj_bc 216) := by
  rw [show aj_bc 216 = prog_10_method_16_code from rfl]
  exact aj_ckD_ok (by decide +kernel)
set_option maxRecDepth 1000000 in
theorem aj_dk6 : aj_ctOK aj_c6 (aj_bc 220) := by
  rw [show aj_bc 220 = prog_10_method_17_code from rfl]
  exact aj_ckD_ok (by decide +kernel)
set_option maxRecDepth 1000000 in
theorem aj_dk7 : aj_ctOK aj_c7 (aj_bc 298) := by
  rw [show aj_bc 298 = prog_11_method_1_code from rfl]
  exact aj_ckD_ok (by decide +kernel)
set_option maxRecDepth 1000000 in
theorem aj_dk8 : aj_ctOK aj_c8 (aj_bc 317) := by
  rw [show aj_bc 317 = prog_7_method_1_code from rfl]
  exact aj_ckD_ok (by decide +kernel)
set_option maxRecDepth 1000000 in
theorem aj_dk9 : aj_ctOK aj_c9 (aj_bc 353) := by
  rw [show aj_bc 353 = prog_6_method_1_code from rfl]
  exact aj_ckD_ok (by decide +kernel)
set_option maxRecDepth 1000000 in
theorem aj_dk10 : aj_ctOK aj_c10 (aj_bc 408) := by
  rw [show aj_bc 408 = prog_2_method_1_code from rfl]
  exact aj_ckD_ok (by decide +kernel)
set_option maxRecDepth 1000000 in
theorem aj_dk11 : aj_ctOK aj_c11 (aj_bc 442) := by
  rw [show aj_bc 442 = prog_12_method_1_code from rfl]
  exact aj_ckD_ok (by decide +kernel)
set_option maxRecDepth 1000000 in
theorem aj_dk12 : aj_ctOK aj_c12 (aj_bc 448) := by
  rw [show aj_bc 448 = prog_4_method_1_code from rfl]
  exact aj_ckD_ok (by decide +kernel)
set_option maxRecDepth 1000000 in
theorem aj_dk13 : aj_ctOK aj_c13 (aj_bc 479) := by
  rw [show aj_bc 479 = prog_9_method_1_code from rfl]
  exact aj_ckD_ok (by decide +kernel)
set_option maxRecDepth 1000000 in
theorem aj_dk14 : aj_ctOK aj_c14 (aj_bc 556) := by
  rw [show aj_bc 556 = prog_5_method_1_code from rfl]
  exact aj_ckD_ok (by decide +kernel)
set_option maxRecDepth 1000000 in
theorem aj_dk15 : aj_ctOK aj_c15 (aj_bc 600) := by
  rw [show aj_bc 600 = prog_8_method_1_code from rfl]
  exact aj_ckD_ok (by decide +kernel)
set_option maxRecDepth 1000000 in
theorem aj_dk16 : aj_ctOK aj_c16 (aj_bc 661) := by
  rw [show aj_bc 661 = prog_1_method_2_code from rfl]
  exact aj_ckD_ok (by decide +kernel)
set_option maxRecDepth 1000000 in
theorem aj_dk17 : aj_ctOK aj_c17 (aj_bc 665) := by
  rw [show aj_bc 665 = prog_1_method_22_code from rfl]
  exact aj_ckD_ok (by decide +kernel)
set_option maxRecDepth 1000000 in
theorem aj_dk18 : aj_ctOK aj_c18 (aj_bc 669) := by
  rw [show aj_bc 669 = prog_1_method_3_code from rfl]
  exact aj_ckD_ok (by decide +kernel)
set_option maxRecDepth 1000000 in
theorem aj_dk19 : aj_ctOK aj_c19 (aj_bc 673) := by
  rw [show aj_bc 673 = prog_1_method_4_code from rfl]
  exact aj_ckD_ok (by decide +kernel)
set_option maxRecDepth 1000000 in
theorem aj_dk20 : aj_ctOK aj_c20 (aj_bc 678) := by
  rw [show aj_bc 678 = prog_1_method_23_code from rfl]
  exact aj_ckD_ok (by decide +kernel)
set_option maxRecDepth 1000000 in
theorem aj_dk21 : aj_ctOK aj_c21 (aj_bc 682) := by
  rw [show aj_bc 682 = prog_11_method_6_code from rfl]
  exact aj_ckD_ok (by decide +kernel)
set_option maxRecDepth 1000000 in
theorem aj_dk22 : aj_ctOK aj_c22 (aj_bc 685) := by
  rw [show aj_bc 685 = prog_11_method_12_code from rfl]
  exact aj_ckD_ok (by decide +kernel)
set_option maxRecDepth 1000000 in
theorem aj_dk27 : aj_ctOK aj_c27 (aj_bc 703) := by
  rw [show aj_bc 703 = prog_11_method_10_code from rfl]
  exact aj_ckD_ok (by decide +kernel)
set_option maxRecDepth 1000000 in
theorem aj_dk31 : aj_ctOK aj_c31 (aj_bc 720) := by
  rw [show aj_bc 720 = prog_7_method_2_code from rfl]
  exact aj_ckD_ok (by decide +kernel)
set_option maxRecDepth 1000000 in
theorem aj_dk32 : aj_ctOK aj_c32 (aj_bc 724) := by
  rw [show aj_bc 724 = prog_6_method_2_code from rfl]
  exact aj_ckD_ok (by decide +kernel)
set_option maxRecDepth 1000000 in
theorem aj_dk33 : aj_ctOK aj_c33 (aj_bc 728) := by
  rw [show aj_bc 728 = prog_6_method_3_code from rfl]
  exact aj_ckD_ok (by decide +kernel)
set_option maxRecDepth 1000000 in
theorem aj_dk34 : aj_ctOK aj_c34 (aj_bc 733) := by
  rw [show aj_bc 733 = prog_6_method_6_code from rfl]
  exact aj_ckD_ok (by decide +kernel)
set_option maxRecDepth 1000000 in
theorem aj_dk37 : aj_ctOK aj_c37 (aj_bc 745) := by
  rw [show aj_bc 745 = prog_11_method_4_code from rfl]
  exact aj_ckD_ok (by decide +kernel)
set_option maxRecDepth 1000000 in
theorem aj_dk43 : aj_ctOK aj_c43 (aj_bc 769) := by
  rw [show aj_bc 769 = prog_11_method_3_code from rfl]
  exact aj_ckD_ok (by decide +kernel)
set_option maxRecDepth 1000000 in
theorem aj_dk44 : aj_ctOK aj_c44 (aj_bc 773) := by
  rw [show aj_bc 773 = prog_7_method_4_code from rfl]
  exact aj_ckD_ok (by decide +kernel)
set_option maxRecDepth 1000000 in
theorem aj_dk45 : aj_ctOK aj_c45 (aj_bc 777) := by
  rw [show aj_bc 777 = prog_6_method_4_code from rfl]
  exact aj_ckD_ok (by decide +kernel)
set_option maxRecDepth 1000000 in
theorem aj_dk46 : aj_ctOK aj_c46 (aj_bc 781) := by
  rw [show aj_bc 781 = prog_11_method_2_code from rfl]
  exact aj_ckD_ok (by decide +kernel)
set_option maxRecDepth 1000000 in
theorem aj_dk47 : aj_ctOK aj_c47 (aj_bc 784) := by
  rw [show aj_bc 784 = prog_3_method_2_code from rfl]
  exact aj_ckD_ok (by decide +kernel)
set_option maxRecDepth 1000000 in
theorem aj_dk48 : aj_ctOK aj_c48 (aj_bc 787) := by
  rw [show aj_bc 787 = prog_3_method_3_code from rfl]
  exact aj_ckD_ok (by decide +kernel)
set_option maxRecDepth 1000000 in
theorem aj_dk49 : aj_ctOK aj_c49 (aj_bc 802) := by
  rw [show aj_bc 802 = prog_3_method_4_code from rfl]
  exact aj_ckD_ok (by decide +kernel)
set_option maxRecDepth 1000000 in
theorem aj_dk50 : aj_ctOK aj_c50 (aj_bc 823) := by
  rw [show aj_bc 823 = prog_3_method_5_code from rfl]
  exact aj_ckD_ok (by decide +kernel)
set_option maxRecDepth 1000000 in
theorem aj_dk51 : aj_ctOK aj_c51 (aj_bc 840) := by
  rw [show aj_bc 840 = prog_3_method_6_code from rfl]
  exact aj_ckD_ok (by decide +kernel)
set_option maxRecDepth 1000000 in
theorem aj_dk55 : aj_ctOK aj_c55 (aj_bc 909) := by
  rw [show aj_bc 909 = prog_6_method_5_code from rfl]
  exact aj_ckD_ok (by decide +kernel)
set_option maxRecDepth 1000000 in
theorem aj_dk56 : aj_ctOK aj_c56 (aj_bc 913) := by
  rw [show aj_bc 913 = prog_2_method_2_code from rfl]
  exact aj_ckD_ok (by decide +kernel)
set_option maxRecDepth 1000000 in
theorem aj_dk57 : aj_ctOK aj_c57 (aj_bc 917) := by
  rw [show aj_bc 917 = prog_7_method_5_code from rfl]
  exact aj_ckD_ok (by decide +kernel)
set_option maxRecDepth 1000000 in
theorem aj_dk63 : aj_ctOK aj_c63 (aj_bc 942) := by
  rw [show aj_bc 942 = prog_10_method_13_code from rfl]
  exact aj_ckD_ok (by decide +kernel)
set_option maxRecDepth 1000000 in
theorem aj_dk95 : aj_ctOK aj_c95 (aj_bc 1078) := by
  rw [show aj_bc 1078 = prog_10_method_14_code from rfl]
  exact aj_ckD_ok (by decide +kernel)
set_option maxRecDepth 1000000 in
theorem aj_dk97 : aj_ctOK aj_c97 (aj_bc 1086) := by
  rw [show aj_bc 1086 = prog_12_method_4_code from rfl]
  exact aj_ckD_ok (by decide +kernel)
set_option maxRecDepth 1000000 in
theorem aj_dk150 : aj_ctOK aj_c150 (aj_bc 1327) := by
  rw [show aj_bc 1327 = prog_1_method_25_code from rfl]
  exact aj_ckD_ok (by decide +kernel)
set_option maxRecDepth 1000000 in
theorem aj_dk151 : aj_ctOK aj_c151 (aj_bc 1331) := by
  rw [show aj_bc 1331 = prog_5_method_5_code from rfl]
  exact aj_ckD_ok (by decide +kernel)
set_option maxRecDepth 1000000 in
theorem aj_dk152 : aj_ctOK aj_c152 (aj_bc 1335) := by
  rw [show aj_bc 1335 = prog_8_method_2_code from rfl]
  exact aj_ckD_ok (by decide +kernel)
set_option maxRecDepth 1000000 in
theorem aj_dk153 : aj_ctOK aj_c153 (aj_bc 1339) := by
  rw [show aj_bc 1339 = prog_1_method_5_code from rfl]
  exact aj_ckD_ok (by decide +kernel)
set_option maxRecDepth 1000000 in
theorem aj_dk154 : aj_ctOK aj_c154 (aj_bc 1343) := by
  rw [show aj_bc 1343 = prog_1_method_6_code from rfl]
  exact aj_ckD_ok (by decide +kernel)
set_option maxRecDepth 1000000 in
theorem aj_dk155 : aj_ctOK aj_c155 (aj_bc 1347) := by
  rw [show aj_bc 1347 = prog_1_method_24_code from rfl]
  exact aj_ckD_ok (by decide +kernel)
set_option maxRecDepth 1000000 in
theorem aj_dk156 : aj_ctOK aj_c156 (aj_bc 1351) := by
  rw [show aj_bc 1351 = prog_12_method_3_code from rfl]
  exact aj_ckD_ok (by decide +kernel)
set_option maxRecDepth 1000000 in
theorem aj_dk157 : aj_ctOK aj_c157 (aj_bc 1355) := by
  rw [show aj_bc 1355 = prog_10_method_22_code from rfl]
  exact aj_ckD_ok (by decide +kernel)
set_option maxRecDepth 1000000 in
theorem aj_dk158 : aj_ctOK aj_c158 (aj_bc 1359) := by
  rw [show aj_bc 1359 = prog_10_method_18_code from rfl]
  exact aj_ckD_ok (by decide +kernel)
set_option maxRecDepth 1000000 in
theorem aj_dk159 : aj_ctOK aj_c159 (aj_bc 1364) := by
  rw [show aj_bc 1364 = prog_1_method_7_code from rfl]
  exact aj_ckD_ok (by decide +kernel)
set_option maxRecDepth 1000000 in
theorem aj_dk161 : aj_ctOK aj_c161 (aj_bc 1372) := by
  rw [show aj_bc 1372 = prog_1_method_8_code from rfl]
  exact aj_ckD_ok (by decide +kernel)
set_option maxRecDepth 1000000 in
theorem aj_dk163 : aj_ctOK aj_c163 (aj_bc 1380) := by
  rw [show aj_bc 1380 = prog_1_method_9_code from rfl]
  exact aj_ckD_ok (by decide +kernel)
set_option maxRecDepth 1000000 in
theorem aj_dk164 : aj_ctOK aj_c164 (aj_bc 1384) := by
  rw [show aj_bc 1384 = prog_8_method_3_code from rfl]
  exact aj_ckD_ok (by decide +kernel)
set_option maxRecDepth 1000000 in
theorem aj_dk165 : aj_ctOK aj_c165 (aj_bc 1388) := by
  rw [show aj_bc 1388 = prog_8_method_4_code from rfl]
  exact aj_ckD_ok (by decide +kernel)
set_option maxRecDepth 1000000 in
theorem aj_dk166 : aj_ctOK aj_c166 (aj_bc 1392) := by
  rw [show aj_bc 1392 = prog_10_method_21_code from rfl]
  exact aj_ckD_ok (by decide +kernel)
set_option maxRecDepth 1000000 in
theorem aj_dk167 : aj_ctOK aj_c167 (aj_bc 1396) := by
  rw [show aj_bc 1396 = prog_10_method_20_code from rfl]
  exact aj_ckD_ok (by decide +kernel)
set_option maxRecDepth 1000000 in
theorem aj_dk172 : aj_ctOK aj_c172 (aj_bc 1417) := by
  rw [show aj_bc 1417 = prog_1_method_10_code from rfl]
  exact aj_ckD_ok (by decide +kernel)
set_option maxRecDepth 1000000 in
theorem aj_dk173 : aj_ctOK aj_c173 (aj_bc 1424) := by
  rw [show aj_bc 1424 = prog_1_method_11_code from rfl]
  exact aj_ckD_ok (by decide +kernel)
set_option maxRecDepth 1000000 in
theorem aj_dk186 : aj_ctOK aj_c186 (aj_bc 1489) := by
  rw [show aj_bc 1489 = prog_1_method_12_code from rfl]
  exact aj_ckD_ok (by decide +kernel)
set_option maxRecDepth 1000000 in
theorem aj_dk187 : aj_ctOK aj_c187 (aj_bc 1495) := by
  rw [show aj_bc 1495 = prog_1_method_13_code from rfl]
  exact aj_ckD_ok (by decide +kernel)
set_option maxRecDepth 1000000 in
theorem aj_dk188 : aj_ctOK aj_c188 (aj_bc 1500) := by
  rw [show aj_bc 1500 = prog_1_method_14_code from rfl]
  exact aj_ckD_ok (by decide +kernel)
set_option maxRecDepth 1000000 in
theorem aj_dk189 : aj_ctOK aj_c189 (aj_bc 1504) := by
  rw [show aj_bc 1504 = prog_1_method_15_code from rfl]
  exact aj_ckD_ok (by decide +kernel)
set_option maxRecDepth 1000000 in
theorem aj_dk190 : aj_ctOK aj_c190 (aj_bc 1509) := by
  rw [show aj_bc 1509 = prog_1_method_16_code from rfl]
  exact aj_ckD_ok (by decide +kernel)
set_option maxRecDepth 1000000 in
theorem aj_dk191 : aj_ctOK aj_c191 (aj_bc 1514) := by
  rw [show aj_bc 1514 = prog_1_method_17_code from rfl]
  exact aj_ckD_ok (by decide +kernel)
set_option maxRecDepth 1000000 in
theorem aj_dk193 : aj_ctOK aj_c193 (aj_bc 1522) := by
  rw [show aj_bc 1522 = prog_1_method_26_code from rfl]
  exact aj_ckD_ok (by decide +kernel)
set_option maxRecDepth 1000000 in
theorem aj_dk194 : aj_ctOK aj_c194 (aj_bc 1528) := by
  rw [show aj_bc 1528 = prog_1_method_18_code from rfl]
  exact aj_ckD_ok (by decide +kernel)
set_option maxRecDepth 1000000 in
theorem aj_dk195 : aj_ctOK aj_c195 (aj_bc 1533) := by
  rw [show aj_bc 1533 = prog_1_method_19_code from rfl]
  exact aj_ckD_ok (by decide +kernel)
set_option maxRecDepth 1000000 in
theorem aj_dk196 : aj_ctOK aj_c196 (aj_bc 1538) := by
  rw [show aj_bc 1538 = prog_1_method_20_code from rfl]
  exact aj_ckD_ok (by decide +kernel)
set_option maxRecDepth 1000000 in
theorem aj_dk197 : aj_ctOK aj_c197 (aj_bc 1542) := by
  rw [show aj_bc 1542 = prog_1_method_27_code from rfl]
  exact aj_ckD_ok (by decide +kernel)
set_option maxRecDepth 1000000 in
theorem aj_dk198 : aj_ctOK aj_c198 (aj_bc 1547) := by
  rw [show aj_bc 1547 = prog_1_method_21_code from rfl]
  exact aj_ckD_ok (by decide +kernel)
set_option maxRecDepth 1000000 in
theorem aj_dk199 : aj_ctOK aj_c199 (aj_bc 1552) := by
  rw [show aj_bc 1552 = prog_14_method_1_code from rfl]
  exact aj_ckD_ok (by decide +kernel)
set_option maxRecDepth 1000000 in
theorem aj_dk200 : aj_ctOK aj_c200 (aj_bc 1777) := by
  rw [show aj_bc 1777 = prog_14_method_2_code from rfl]
  exact aj_ckD_ok (by decide +kernel)
set_option maxRecDepth 1000000 in
theorem aj_dk201 : aj_ctOK aj_c201 (aj_bc 1781) := by
  rw [show aj_bc 1781 = prog_14_method_3_code from rfl]
  exact aj_ckD_ok (by decide +kernel)
set_option maxRecDepth 1000000 in
theorem aj_dk202 : aj_ctOK aj_c202 (aj_bc 1785) := by
  rw [show aj_bc 1785 = prog_14_method_4_code from rfl]
  exact aj_ckD_ok (by decide +kernel)
set_option maxRecDepth 1000000 in
theorem aj_dk203 : aj_ctOK aj_c203 (aj_bc 1789) := by
  rw [show aj_bc 1789 = prog_14_method_37_code from rfl]
  exact aj_ckD_ok (by decide +kernel)
set_option maxRecDepth 1000000 in
theorem aj_dk204 : aj_ctOK aj_c204 (aj_bc 1793) := by
  rw [show aj_bc 1793 = prog_14_method_38_code from rfl]
  exact aj_ckD_ok (by decide +kernel)
set_option maxRecDepth 1000000 in
theorem aj_dk205 : aj_ctOK aj_c205 (aj_bc 1797) := by
  rw [show aj_bc 1797 = prog_14_method_11_code from rfl]
  exact aj_ckD_ok (by decide +kernel)
set_option maxRecDepth 1000000 in
theorem aj_dk206 : aj_ctOK aj_c206 (aj_bc 1801) := by
  rw [show aj_bc 1801 = prog_14_method_10_code from rfl]
  exact aj_ckD_ok (by decide +kernel)
set_option maxRecDepth 1000000 in
theorem aj_dk207 : aj_ctOK aj_c207 (aj_bc 1805) := by
  rw [show aj_bc 1805 = prog_14_method_5_code from rfl]
  exact aj_ckD_ok (by decide +kernel)
set_option maxRecDepth 1000000 in
theorem aj_dk212 : aj_ctOK aj_c212 (aj_bc 1834) := by
  rw [show aj_bc 1834 = prog_14_method_16_code from rfl]
  exact aj_ckD_ok (by decide +kernel)
set_option maxRecDepth 1000000 in
theorem aj_dk215 : aj_ctOK aj_c215 (aj_bc 1846) := by
  rw [show aj_bc 1846 = prog_14_method_12_code from rfl]
  exact aj_ckD_ok (by decide +kernel)
set_option maxRecDepth 1000000 in
theorem aj_dk220 : aj_ctOK aj_c220 (aj_bc 1866) := by
  rw [show aj_bc 1866 = prog_14_method_15_code from rfl]
  exact aj_ckD_ok (by decide +kernel)
set_option maxRecDepth 1000000 in
theorem aj_dk237 : aj_ctOK aj_c237 (aj_bc 1931) := by
  rw [show aj_bc 1931 = prog_14_method_35_code from rfl]
  exact aj_ckD_ok (by decide +kernel)
set_option maxRecDepth 1000000 in
theorem aj_dk238 : aj_ctOK aj_c238 (aj_bc 1935) := by
  rw [show aj_bc 1935 = prog_14_method_36_code from rfl]
  exact aj_ckD_ok (by decide +kernel)
set_option maxRecDepth 1000000 in
theorem aj_dk241 : aj_ctOK aj_c241 (aj_bc 1947) := by
  rw [show aj_bc 1947 = prog_14_method_24_code from rfl]
  exact aj_ckD_ok (by decide +kernel)
set_option maxRecDepth 1000000 in
theorem aj_dk247 : aj_ctOK aj_c247 (aj_bc 1970) := by
  rw [show aj_bc 1970 = prog_14_method_49_code from rfl]
  exact aj_ckD_ok (by decide +kernel)
set_option maxRecDepth 1000000 in
theorem aj_dk280 : aj_ctOK aj_c280 (aj_bc 2102) := by
  rw [show aj_bc 2102 = prog_14_method_82_code from rfl]
  exact aj_ckD_ok (by decide +kernel)
set_option maxRecDepth 1000000 in
theorem aj_dk281 : aj_ctOK aj_c281 (aj_bc 2106) := by
  rw [show aj_bc 2106 = prog_14_method_85_code from rfl]
  exact aj_ckD_ok (by decide +kernel)
set_option maxRecDepth 1000000 in
theorem aj_dk282 : aj_ctOK aj_c282 (aj_bc 2110) := by
  rw [show aj_bc 2110 = prog_14_method_83_code from rfl]
  exact aj_ckD_ok (by decide +kernel)
set_option maxRecDepth 1000000 in
theorem aj_dk283 : aj_ctOK aj_c283 (aj_bc 2114) := by
  rw [show aj_bc 2114 = prog_14_method_86_code from rfl]
  exact aj_ckD_ok (by decide +kernel)
set_option maxRecDepth 1000000 in
theorem aj_dk284 : aj_ctOK aj_c284 (aj_bc 2118) := by
  rw [show aj_bc 2118 = prog_14_method_87_code from rfl]
  exact aj_ckD_ok (by decide +kernel)
set_option maxRecDepth 1000000 in
theorem aj_dk285 : aj_ctOK aj_c285 (aj_bc 2122) := by
  rw [show aj_bc 2122 = prog_14_method_88_code from rfl]
  exact aj_ckD_ok (by decide +kernel)
set_option maxRecDepth 1000000 in
theorem aj_dk288 : aj_ctOK aj_c288 (aj_bc 2134) := by
  rw [show aj_bc 2134 = prog_14_method_93_code from rfl]
  exact aj_ckD_ok (by decide +kernel)
set_option maxRecDepth 1000000 in
theorem aj_dk289 : aj_ctOK aj_c289 (aj_bc 2138) := by
  rw [show aj_bc 2138 = prog_14_method_92_code from rfl]
  exact aj_ckD_ok (by decide +kernel)
set_option maxRecDepth 1000000 in
theorem aj_dk290 : aj_ctOK aj_c290 (aj_bc 2143) := by
  rw [show aj_bc 2143 = prog_14_method_94_code from rfl]
  exact aj_ckD_ok (by decide +kernel)
set_option maxRecDepth 1000000 in
theorem aj_dk291 : aj_ctOK aj_c291 (aj_bc 2147) := by
  rw [show aj_bc 2147 = prog_14_method_91_code from rfl]
  exact aj_ckD_ok (by decide +kernel)
set_option maxRecDepth 1000000 in
theorem aj_dk297 : aj_ctOK aj_c297 (aj_bc 2171) := by
  rw [show aj_bc 2171 = prog_14_method_96_code from rfl]
  exact aj_ckD_ok (by decide +kernel)
set_option maxRecDepth 1000000 in
theorem aj_dk298 : aj_ctOK aj_c298 (aj_bc 2175) := by
  rw [show aj_bc 2175 = prog_14_method_95_code from rfl]
  exact aj_ckD_ok (by decide +kernel)
set_option maxRecDepth 1000000 in
theorem aj_dk299 : aj_ctOK aj_c299 (aj_bc 2179) := by
  rw [show aj_bc 2179 = prog_14_method_97_code from rfl]
  exact aj_ckD_ok (by decide +kernel)
set_option maxRecDepth 1000000 in
theorem aj_dk300 : aj_ctOK aj_c300 (aj_bc 2183) := by
  rw [show aj_bc 2183 = prog_14_method_98_code from rfl]
  exact aj_ckD_ok (by decide +kernel)
set_option maxRecDepth 1000000 in
theorem aj_dk301 : aj_ctOK aj_c301 (aj_bc 2187) := by
  rw [show aj_bc 2187 = prog_14_method_99_code from rfl]
  exact aj_ckD_ok (by decide +kernel)
set_option maxRecDepth 1000000 in
theorem aj_dk302 : aj_ctOK aj_c302 (aj_bc 2191) := by
  rw [show aj_bc 2191 = prog_14_method_100_code from rfl]
  exact aj_ckD_ok (by decide +kernel)
set_option maxRecDepth 1000000 in
theorem aj_dk303 : aj_ctOK aj_c303 (aj_bc 2195) := by
  rw [show aj_bc 2195 = prog_14_method_103_code from rfl]
  exact aj_ckD_ok (by decide +kernel)
set_option maxRecDepth 1000000 in
theorem aj_dk304 : aj_ctOK aj_c304 (aj_bc 2199) := by
  rw [show aj_bc 2199 = prog_14_method_107_code from rfl]
  exact aj_ckD_ok (by decide +kernel)
set_option maxRecDepth 1000000 in
theorem aj_dk305 : aj_ctOK aj_c305 (aj_bc 2203) := by
  rw [show aj_bc 2203 = prog_14_method_108_code from rfl]
  exact aj_ckD_ok (by decide +kernel)
set_option maxRecDepth 1000000 in
theorem aj_dk306 : aj_ctOK aj_c306 (aj_bc 2207) := by
  rw [show aj_bc 2207 = prog_14_method_109_code from rfl]
  exact aj_ckD_ok (by decide +kernel)
set_option maxRecDepth 1000000 in
theorem aj_dk308 : aj_ctOK aj_c308 (aj_bc 2215) := by
  rw [show aj_bc 2215 = prog_14_method_111_code from rfl]
  exact aj_ckD_ok (by decide +kernel)
set_option maxRecDepth 1000000 in
theorem aj_dk309 : aj_ctOK aj_c309 (aj_bc 2219) := by
  rw [show aj_bc 2219 = prog_14_method_84_code from rfl]
  exact aj_ckD_ok (by decide +kernel)
