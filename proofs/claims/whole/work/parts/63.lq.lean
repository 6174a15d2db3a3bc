/-! the law's rows, checked: the second lot -/
set_option maxRecDepth 100000 in
theorem bb_lp_6 : bp_12035_6.all bb_lp = true := by decide +kernel
set_option maxRecDepth 100000 in
theorem bb_lp_7 : bp_12035_7.all bb_lp = true := by decide +kernel
set_option maxRecDepth 100000 in
theorem bb_lp_8 : bp_12035_8.all bb_lp = true := by decide +kernel
set_option maxRecDepth 100000 in
theorem bb_lp_9 : bp_12035_9.all bb_lp = true := by decide +kernel
set_option maxRecDepth 100000 in
theorem bb_lp_10 : bp_12035_10.all bb_lp = true := by decide +kernel
