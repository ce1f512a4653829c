set_option maxRecDepth 1000000 in
theorem aj_dk0 : aj_ctOK aj_c0 (aj_bc 189) := by
  rw [show aj_bc 189 = prog_1_method_1_code from rfl]
  exact aj_ckD_ok (by decide +kernel)
set_option maxRecDepth 1000000 in
theorem aj_dk1 : aj_ctOK aj_c1 (aj_bc 197) := by
  rw [show aj_bc 197 = prog_10_method_1_code from rfl]
  exact aj_ckD_ok (by decide +kernel)
set_option maxRecDepth 1000000 in
theorem aj_dk2 : aj_ctOK aj_c2 (aj_bc 204) := by
  rw [show aj_bc 204 = prog_10_method_2_code from rfl]
  exact aj_ckD_ok (by decide +kernel)
set_option maxRecDepth 1000000 in
theorem aj_dk3 : aj_ctOK aj_c3 (aj_bc 208) := by
  rw [show aj_bc 208 = prog_10_method_15_code from rfl]
  exact aj_ckD_ok (by decide +kernel)
set_option maxRecDepth 1000000 in
theorem aj_dk4 : aj_ctOK aj_c4 (aj_bc 212) := by
  rw [show aj_bc 212 = prog_10_method_8_code from rfl]
  exact aj_ckD_ok (by decide +kernel)
set_option maxRecDepth 1000000 in
theorem aj_dk5 : aj_ctOK aj_c5 (aj_bc 216) := by
  rw [show aj_bc 216 = prog_10_method_16_code from rfl]
  exact aj_ckD_ok (by decide +kernel)
set_option maxRecDepth 1000000 in
theorem aj_dk6 : aj_ctOK aj_c6 (aj_bc 220) := by
  rw [show aj_bc 220 = prog_10_method_17_code from rfl]
  exact aj_ckD_ok (by decide +kernel)
set_option maxRecDepth 1000000 in
theorem aj_dk7 : aj_ctOK aj_c7 (aj_bc 298) := by
  rw [show aj_bc 298 = prog_11_method_1_code from rfl]
  exact aj_ckD_ok (by decide +kernel)
set_option maxRecDepth 1000000 in
theorem aj_dk8 : aj_ctOK aj_c8 (aj_bc 317) := by
  rw [show aj_bc 317 = prog_7_method_1_code from rfl]
  exact aj_ckD_ok (by decide +kernel)
set_option maxRecDepth 1000000 in
theorem aj_dk9 : aj_ctOK aj_c9 (aj_bc 353) := by
  rw [show aj_bc 353 = prog_6_method_1_code from rfl]
  exact aj_ckD_ok (by decide +kernel)
set_option maxRecDepth 1000000 in
theorem aj_dk10 : aj_ctOK aj_c10 (aj_bc 408) := by
  rw [show aj_bc 408 = prog_2_method_1_code from rfl]
  exact aj_ckD_ok (by decide +kernel)
set_option maxRecDepth 1000000 in
theorem aj_dk11 : aj_ctOK aj_c11 (aj_bc 442) := by
  rw [show aj_bc 442 = prog_12_method_1_code from rfl]
  exact aj_ckD_ok (by decide +kernel)
set_option maxRecDepth 1000000 in
theorem aj_dk12 : aj_ctOK aj_c12 (aj_bc 448) := by
  rw [show aj_bc 448 = prog_4_method_1_code from rfl]
  exact aj_ckD_ok (by decide +kernel)
set_option maxRecDepth 1000000 in
theorem aj_dk13 : aj_ctOK aj_c13 (aj_bc 479) := by
  rw [show aj_bc 479 = prog_9_method_1_code from rfl]
  exact aj_ckD_ok (by decide +kernel)
set_option maxRecDepth 1000000 in
theorem aj_dk14 : aj_ctOK aj_c14 (aj_bc 556) := by
  rw [show aj_bc 556 = prog_5_method_1_code from rfl]
  exact aj_ckD_ok (by decide +kernel)
set_option maxRecDepth 1000000 in
theorem aj_dk15 : aj_ctOK aj_c15 (aj_bc 600) := by
  rw [show aj_bc 600 = prog_8_method_1_code from rfl]
  exact aj_ckD_ok (by decide +kernel)
set_option maxRecDepth 1000000 in
theorem aj_dk16 : aj_ctOK aj_c16 (aj_bc 661) := by
  rw [show aj_bc 661 = prog_1_method_2_code from rfl]
  exact aj_ckD_ok (by decide +kernel)
set_option maxRecDepth 1000000 in
theorem aj_dk17 : aj_ctOK aj_c17 (aj_bc 665) := by
  rw [show aj_bc 665 = prog_1_method_22_code from rfl]
  exact aj_ckD_ok (by decide +kernel)
set_option maxRecDepth 1000000 in
theorem aj_dk18 : aj_ctOK aj_c18 (aj_bc 669) := by
  rw [show aj_bc 669 = prog_1_method_3_code from rfl]
  exact aj_ckD_ok (by decide +kernel)
set_option maxRecDepth 1000000 in
theorem aj_dk19 : aj_ctOK aj_c19 (aj_bc 673) := by
  rw [show aj_bc 673 = prog_1_method_4_code from rfl]
  exact aj_ckD_ok (by decide +kernel)
set_option maxRecDepth 1000000 in
theorem aj_dk20 : aj_ctOK aj_c20 (aj_bc 678) := by
  rw [show aj_bc 678 = prog_1_method_23_code from rfl]
  exact aj_ckD_ok (by decide +kernel)
set_option maxRecDepth 1000000 in
theorem aj_dk21 : aj_ctOK aj_c21 (aj_bc 682) := by
  rw [show aj_bc 682 = prog_11_method_6_code from rfl]
  exact aj_ckD_ok (by decide +kernel)
set_option maxRecDepth 1000000 in
theorem aj_dk22 : aj_ctOK aj_c22 (aj_bc 685) := by
  rw [show aj_bc 685 = prog_11_method_12_code from rfl]
  exact aj_ckD_ok (by decide +kernel)
set_option maxRecDepth 1000000 in
theorem aj_dk23 : aj_ctOK aj_c23 (aj_bc 689) := by
  rw [show aj_bc 689 = prog_11_method_7_code from rfl]
  exact aj_ckD_ok (by decide +kernel)
set_option maxRecDepth 1000000 in
theorem aj_dk24 : aj_ctOK aj_c24 (aj_bc 692) := by
  rw [show aj_bc 692 = prog_11_method_13_code from rfl]
  exact aj_ckD_ok (by decide +kernel)
set_option maxRecDepth 1000000 in
theorem aj_dk25 : aj_ctOK aj_c25 (aj_bc 696) := by
  rw [show aj_bc 696 = prog_11_method_8_code from rfl]
  exact aj_ckD_ok (by decide +kernel)
set_option maxRecDepth 1000000 in
theorem aj_dk26 : aj_ctOK aj_c26 (aj_bc 699) := by
  rw [show aj_bc 699 = prog_11_method_14_code from rfl]
  exact aj_ckD_ok (by decide +kernel)
set_option maxRecDepth 1000000 in
theorem aj_dk27 : aj_ctOK aj_c27 (aj_bc 703) := by
  rw [show aj_bc 703 = prog_11_method_10_code from rfl]
  exact aj_ckD_ok (by decide +kernel)
set_option maxRecDepth 1000000 in
theorem aj_dk28 : aj_ctOK aj_c28 (aj_bc 706) := by
  rw [show aj_bc 706 = prog_11_method_11_code from rfl]
  exact aj_ckD_ok (by decide +kernel)
set_option maxRecDepth 1000000 in
theorem aj_dk29 : aj_ctOK aj_c29 (aj_bc 712) := by
  rw [show aj_bc 712 = prog_11_method_9_code from rfl]
  exact aj_ckD_ok (by decide +kernel)
set_option maxRecDepth 1000000 in
theorem aj_dk30 : aj_ctOK aj_c30 (aj_bc 716) := by
  rw [show aj_bc 716 = prog_11_method_15_code from rfl]
  exact aj_ckD_ok (by decide +kernel)
set_option maxRecDepth 1000000 in
theorem aj_dk31 : aj_ctOK aj_c31 (aj_bc 720) := by
  rw [show aj_bc 720 = prog_7_method_2_code from rfl]
  exact aj_ckD_ok (by decide +kernel)
set_option maxRecDepth 1000000 in
theorem aj_dk32 : aj_ctOK aj_c32 (aj_bc 724) := by
  rw [show aj_bc 724 = prog_6_method_2_code from rfl]
  exact aj_ckD_ok (by decide +kernel)
set_option maxRecDepth 1000000 in
theorem aj_dk33 : aj_ctOK aj_c33 (aj_bc 728) := by
  rw [show aj_bc 728 = prog_6_method_3_code from rfl]
  exact aj_ckD_ok (by decide +kernel)
set_option maxRecDepth 1000000 in
theorem aj_dk34 : aj_ctOK aj_c34 (aj_bc 733) := by
  rw [show aj_bc 733 = prog_6_method_6_code from rfl]
  exact aj_ckD_ok (by decide +kernel)
