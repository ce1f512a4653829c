set_option maxRecDepth 1000000 in
theorem aj_dk35 : aj_ctOK aj_c35 (aj_bc 737) := by
  rw [show aj_bc 737 = prog_6_method_7_code from rfl]
  exact aj_ckD_ok (by decide +kernel)
set_option maxRecDepth 1000000 in
theorem aj_dk36 : aj_ctOK aj_c36 (aj_bc 741) := by
  rw [show aj_bc 741 = prog_6_method_8_code from rfl]
  exact aj_ckD_ok (by decide +kernel)
set_option maxRecDepth 1000000 in
theorem aj_dk37 : aj_ctOK aj_c37 (aj_bc 745) := by
  rw [show aj_bc 745 = prog_11_method_4_code from rfl]
  exact aj_ckD_ok (by decide +kernel)
set_option maxRecDepth 1000000 in
theorem aj_dk38 : aj_ctOK aj_c38 (aj_bc 749) := by
  rw [show aj_bc 749 = prog_6_method_9_code from rfl]
  exact aj_ckD_ok (by decide +kernel)
set_option maxRecDepth 1000000 in
theorem aj_dk39 : aj_ctOK aj_c39 (aj_bc 753) := by
  rw [show aj_bc 753 = prog_6_method_10_code from rfl]
  exact aj_ckD_ok (by decide +kernel)
set_option maxRecDepth 1000000 in
theorem aj_dk40 : aj_ctOK aj_c40 (aj_bc 757) := by
  rw [show aj_bc 757 = prog_7_method_8_code from rfl]
  exact aj_ckD_ok (by decide +kernel)
set_option maxRecDepth 1000000 in
theorem aj_dk41 : aj_ctOK aj_c41 (aj_bc 761) := by
  rw [show aj_bc 761 = prog_7_method_9_code from rfl]
  exact aj_ckD_ok (by decide +kernel)
set_option maxRecDepth 1000000 in
theorem aj_dk42 : aj_ctOK aj_c42 (aj_bc 765) := by
  rw [show aj_bc 765 = prog_7_method_3_code from rfl]
  exact aj_ckD_ok (by decide +kernel)
set_option maxRecDepth 1000000 in
theorem aj_dk43 : aj_ctOK aj_c43 (aj_bc 769) := by
  rw [show aj_bc 769 = prog_11_method_3_code from rfl]
  exact aj_ckD_ok (by decide +kernel)
set_option maxRecDepth 1000000 in
theorem aj_dk44 : aj_ctOK aj_c44 (aj_bc 773) := by
  rw [show aj_bc 773 = prog_7_method_4_code from rfl]
  exact aj_ckD_ok (by decide +kernel)
set_option maxRecDepth 1000000 in
theorem aj_dk45 : aj_ctOK aj_c45 (aj_bc 777) := by
  rw [show aj_bc 777 = prog_6_method_4_code from rfl]
  exact aj_ckD_ok (by decide +kernel)
set_option maxRecDepth 1000000 in
theorem aj_dk46 : aj_ctOK aj_c46 (aj_bc 781) := by
  rw [show aj_bc 781 = prog_11_method_2_code from rfl]
  exact aj_ckD_ok (by decide +kernel)
set_option maxRecDepth 1000000 in
theorem aj_dk47 : aj_ctOK aj_c47 (aj_bc 784) := by
  rw [show aj_bc 784 = prog_3_method_2_code from rfl]
  exact aj_ckD_ok (by decide +kernel)
set_option maxRecDepth 1000000 in
theorem aj_dk48 : aj_ctOK aj_c48 (aj_bc 787) := by
  rw [show aj_bc 787 = prog_3_method_3_code from rfl]
  exact aj_ckD_ok (by decide +kernel)
set_option maxRecDepth 1000000 in
theorem aj_dk49 : aj_ctOK aj_c49 (aj_bc 802) := by
  rw [show aj_bc 802 = prog_3_method_4_code from rfl]
  exact aj_ckD_ok (by decide +kernel)
set_option maxRecDepth 1000000 in
theorem aj_dk50 : aj_ctOK aj_c50 (aj_bc 823) := by
  rw [show aj_bc 823 = prog_3_method_5_code from rfl]
  exact aj_ckD_ok (by decide +kernel)
set_option maxRecDepth 1000000 in
theorem aj_dk51 : aj_ctOK aj_c51 (aj_bc 840) := by
  rw [show aj_bc 840 = prog_3_method_6_code from rfl]
  exact aj_ckD_ok (by decide +kernel)
set_option maxRecDepth 1000000 in
theorem aj_dk52 : aj_ctOK aj_c52 (aj_bc 857) := by
  rw [show aj_bc 857 = prog_3_method_7_code from rfl]
  exact aj_ckD_ok (by decide +kernel)
set_option maxRecDepth 1000000 in
theorem aj_dk53 : aj_ctOK aj_c53 (aj_bc 874) := by
  rw [show aj_bc 874 = prog_3_method_8_code from rfl]
  exact aj_ckD_ok (by decide +kernel)
set_option maxRecDepth 1000000 in
theorem aj_dk54 : aj_ctOK aj_c54 (aj_bc 897) := by
  rw [show aj_bc 897 = prog_3_method_9_code from rfl]
  exact aj_ckD_ok (by decide +kernel)
set_option maxRecDepth 1000000 in
theorem aj_dk55 : aj_ctOK aj_c55 (aj_bc 909) := by
  rw [show aj_bc 909 = prog_6_method_5_code from rfl]
  exact aj_ckD_ok (by decide +kernel)
set_option maxRecDepth 1000000 in
theorem aj_dk56 : aj_ctOK aj_c56 (aj_bc 913) := by
  rw [show aj_bc 913 = prog_2_method_2_code from rfl]
  exact aj_ckD_ok (by decide +kernel)
set_option maxRecDepth 1000000 in
theorem aj_dk57 : aj_ctOK aj_c57 (aj_bc 917) := by
  rw [show aj_bc 917 = prog_7_method_5_code from rfl]
  exact aj_ckD_ok (by decide +kernel)
set_option maxRecDepth 1000000 in
theorem aj_dk58 : aj_ctOK aj_c58 (aj_bc 921) := by
  rw [show aj_bc 921 = prog_2_method_14_code from rfl]
  exact aj_ckD_ok (by decide +kernel)
set_option maxRecDepth 1000000 in
theorem aj_dk59 : aj_ctOK aj_c59 (aj_bc 925) := by
  rw [show aj_bc 925 = prog_2_method_15_code from rfl]
  exact aj_ckD_ok (by decide +kernel)
set_option maxRecDepth 1000000 in
theorem aj_dk60 : aj_ctOK aj_c60 (aj_bc 929) := by
  rw [show aj_bc 929 = prog_2_method_5_code from rfl]
  exact aj_ckD_ok (by decide +kernel)
set_option maxRecDepth 1000000 in
theorem aj_dk61 : aj_ctOK aj_c61 (aj_bc 933) := by
  rw [show aj_bc 933 = prog_7_method_6_code from rfl]
  exact aj_ckD_ok (by decide +kernel)
set_option maxRecDepth 1000000 in
theorem aj_dk62 : aj_ctOK aj_c62 (aj_bc 938) := by
  rw [show aj_bc 938 = prog_10_method_9_code from rfl]
  exact aj_ckD_ok (by decide +kernel)
set_option maxRecDepth 1000000 in
theorem aj_dk63 : aj_ctOK aj_c63 (aj_bc 942) := by
  rw [show aj_bc 942 = prog_10_method_13_code from rfl]
  exact aj_ckD_ok (by decide +kernel)
set_option maxRecDepth 1000000 in
theorem aj_dk64 : aj_ctOK aj_c64 (aj_bc 946) := by
  rw [show aj_bc 946 = prog_2_method_3_code from rfl]
  exact aj_ckD_ok (by decide +kernel)
set_option maxRecDepth 1000000 in
theorem aj_dk65 : aj_ctOK aj_c65 (aj_bc 953) := by
  rw [show aj_bc 953 = prog_2_method_22_code from rfl]
  exact aj_ckD_ok (by decide +kernel)
set_option maxRecDepth 1000000 in
theorem aj_dk66 : aj_ctOK aj_c66 (aj_bc 957) := by
  rw [show aj_bc 957 = prog_10_method_12_code from rfl]
  exact aj_ckD_ok (by decide +kernel)
set_option maxRecDepth 1000000 in
theorem aj_dk67 : aj_ctOK aj_c67 (aj_bc 961) := by
  rw [show aj_bc 961 = prog_2_method_25_code from rfl]
  exact aj_ckD_ok (by decide +kernel)
set_option maxRecDepth 1000000 in
theorem aj_dk68 : aj_ctOK aj_c68 (aj_bc 965) := by
  rw [show aj_bc 965 = prog_2_method_27_code from rfl]
  exact aj_ckD_ok (by decide +kernel)
set_option maxRecDepth 1000000 in
theorem aj_dk69 : aj_ctOK aj_c69 (aj_bc 969) := by
  rw [show aj_bc 969 = prog_2_method_21_code from rfl]
  exact aj_ckD_ok (by decide +kernel)
set_option maxRecDepth 1000000 in
theorem aj_dk70 : aj_ctOK aj_c70 (aj_bc 973) := by
  rw [show aj_bc 973 = prog_2_method_23_code from rfl]
  exact aj_ckD_ok (by decide +kernel)
set_option maxRecDepth 1000000 in
theorem aj_dk71 : aj_ctOK aj_c71 (aj_bc 977) := by
  rw [show aj_bc 977 = prog_2_method_4_code from rfl]
  exact aj_ckD_ok (by decide +kernel)
set_option maxRecDepth 1000000 in
theorem aj_dk72 : aj_ctOK aj_c72 (aj_bc 981) := by
  rw [show aj_bc 981 = prog_7_method_7_code from rfl]
  exact aj_ckD_ok (by decide +kernel)
