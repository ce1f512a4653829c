set_option maxRecDepth 1000000 in
theorem aj_dk204 : aj_ctOK aj_c204 (aj_bc 1793) := by
  rw [show aj_bc 1793 = prog_14_method_38_code from rfl]
  exact aj_ckD_ok (by decide +kernel)
set_option maxRecDepth 1000000 in
theorem aj_dk205 : aj_ctOK aj_c205 (aj_bc 1797) := by
  rw [show aj_bc 1797 = prog_14_method_11_code from rfl]
  exact aj_ckD_ok (by decide +kernel)
set_option maxRecDepth 1000000 in
theorem aj_dk206 : aj_ctOK aj_c206 (aj_bc 1801) := by
  rw [show aj_bc 1801 = prog_14_method_10_code from rfl]
  exact aj_ckD_ok (by decide +kernel)
set_option maxRecDepth 1000000 in
theorem aj_dk207 : aj_ctOK aj_c207 (aj_bc 1805) := by
  rw [show aj_bc 1805 = prog_14_method_5_code from rfl]
  exact aj_ckD_ok (by decide +kernel)
set_option maxRecDepth 1000000 in
theorem aj_dk208 : aj_ctOK aj_c208 (aj_bc 1809) := by
  rw [show aj_bc 1809 = prog_14_method_7_code from rfl]
  exact aj_ckD_ok (by decide +kernel)
set_option maxRecDepth 1000000 in
theorem aj_dk209 : aj_ctOK aj_c209 (aj_bc 1813) := by
  rw [show aj_bc 1813 = prog_14_method_6_code from rfl]
  exact aj_ckD_ok (by decide +kernel)
set_option maxRecDepth 1000000 in
theorem aj_dk210 : aj_ctOK aj_c210 (aj_bc 1817) := by
  rw [show aj_bc 1817 = prog_14_method_8_code from rfl]
  exact aj_ckD_ok (by decide +kernel)
set_option maxRecDepth 1000000 in
theorem aj_dk211 : aj_ctOK aj_c211 (aj_bc 1820) := by
  rw [show aj_bc 1820 = prog_14_method_9_code from rfl]
  exact aj_ckD_ok (by decide +kernel)
set_option maxRecDepth 1000000 in
theorem aj_dk212 : aj_ctOK aj_c212 (aj_bc 1834) := by
  rw [show aj_bc 1834 = prog_14_method_16_code from rfl]
  exact aj_ckD_ok (by decide +kernel)
set_option maxRecDepth 1000000 in
theorem aj_dk213 : aj_ctOK aj_c213 (aj_bc 1838) := by
  rw [show aj_bc 1838 = prog_14_method_39_code from rfl]
  exact aj_ckD_ok (by decide +kernel)
set_option maxRecDepth 1000000 in
theorem aj_dk214 : aj_ctOK aj_c214 (aj_bc 1842) := by
  rw [show aj_bc 1842 = prog_14_method_13_code from rfl]
  exact aj_ckD_ok (by decide +kernel)
set_option maxRecDepth 1000000 in
theorem aj_dk215 : aj_ctOK aj_c215 (aj_bc 1846) := by
  rw [show aj_bc 1846 = prog_14_method_12_code from rfl]
  exact aj_ckD_ok (by decide +kernel)
set_option maxRecDepth 1000000 in
theorem aj_dk216 : aj_ctOK aj_c216 (aj_bc 1850) := by
  rw [show aj_bc 1850 = prog_14_method_18_code from rfl]
  exact aj_ckD_ok (by decide +kernel)
set_option maxRecDepth 1000000 in
theorem aj_dk217 : aj_ctOK aj_c217 (aj_bc 1854) := by
  rw [show aj_bc 1854 = prog_14_method_20_code from rfl]
  exact aj_ckD_ok (by decide +kernel)
set_option maxRecDepth 1000000 in
theorem aj_dk218 : aj_ctOK aj_c218 (aj_bc 1858) := by
  rw [show aj_bc 1858 = prog_14_method_14_code from rfl]
  exact aj_ckD_ok (by decide +kernel)
set_option maxRecDepth 1000000 in
theorem aj_dk219 : aj_ctOK aj_c219 (aj_bc 1862) := by
  rw [show aj_bc 1862 = prog_14_method_17_code from rfl]
  exact aj_ckD_ok (by decide +kernel)
set_option maxRecDepth 1000000 in
theorem aj_dk220 : aj_ctOK aj_c220 (aj_bc 1866) := by
  rw [show aj_bc 1866 = prog_14_method_15_code from rfl]
  exact aj_ckD_ok (by decide +kernel)
set_option maxRecDepth 1000000 in
theorem aj_dk221 : aj_ctOK aj_c221 (aj_bc 1870) := by
  rw [show aj_bc 1870 = prog_14_method_19_code from rfl]
  exact aj_ckD_ok (by decide +kernel)
set_option maxRecDepth 1000000 in
theorem aj_dk222 : aj_ctOK aj_c222 (aj_bc 1874) := by
  rw [show aj_bc 1874 = prog_14_method_40_code from rfl]
  exact aj_ckD_ok (by decide +kernel)
set_option maxRecDepth 1000000 in
theorem aj_dk223 : aj_ctOK aj_c223 (aj_bc 1878) := by
  rw [show aj_bc 1878 = prog_14_method_41_code from rfl]
  exact aj_ckD_ok (by decide +kernel)
set_option maxRecDepth 1000000 in
theorem aj_dk224 : aj_ctOK aj_c224 (aj_bc 1882) := by
  rw [show aj_bc 1882 = prog_14_method_42_code from rfl]
  exact aj_ckD_ok (by decide +kernel)
set_option maxRecDepth 1000000 in
theorem aj_dk225 : aj_ctOK aj_c225 (aj_bc 1886) := by
  rw [show aj_bc 1886 = prog_14_method_30_code from rfl]
  exact aj_ckD_ok (by decide +kernel)
set_option maxRecDepth 1000000 in
theorem aj_dk226 : aj_ctOK aj_c226 (aj_bc 1890) := by
  rw [show aj_bc 1890 = prog_14_method_43_code from rfl]
  exact aj_ckD_ok (by decide +kernel)
set_option maxRecDepth 1000000 in
theorem aj_dk227 : aj_ctOK aj_c227 (aj_bc 1893) := by
  rw [show aj_bc 1893 = prog_14_method_28_code from rfl]
  exact aj_ckD_ok (by decide +kernel)
set_option maxRecDepth 1000000 in
theorem aj_dk228 : aj_ctOK aj_c228 (aj_bc 1896) := by
  rw [show aj_bc 1896 = prog_14_method_29_code from rfl]
  exact aj_ckD_ok (by decide +kernel)
