/-! the law's rows, checked: the third lot -/
set_option maxRecDepth 100000 in
theorem bb_lp_11 : bp_12035_11.all bb_lp = true := by decide +kernel
set_option maxRecDepth 100000 in
theorem bb_lp_12 : bp_12035_12.all bb_lp = true := by decide +kernel
set_option maxRecDepth 100000 in
theorem bb_lp_13 : bp_12035_13.all bb_lp = true := by decide +kernel
