/-! the law's rows, checked: lot 14 in four -/
set_option maxRecDepth 100000 in
theorem bb_lp_14a : (bp_12035_14.take 25).all bb_lp = true := by decide +kernel
set_option maxRecDepth 100000 in
theorem bb_lp_14b : ((bp_12035_14.drop 25).take 25).all bb_lp = true := by decide +kernel
set_option maxRecDepth 100000 in
theorem bb_lp_14c : (((bp_12035_14.drop 25).drop 25).take 25).all bb_lp = true := by decide +kernel
set_option maxRecDepth 100000 in
theorem bb_lp_14d : (((bp_12035_14.drop 25).drop 25).drop 25).all bb_lp = true := by decide +kernel
theorem bb_lp_14 : bp_12035_14.all bb_lp = true := lp_two _ _ bb_lp_14a (lp_two _ _ bb_lp_14b (lp_two _ _ bb_lp_14c bb_lp_14d))
