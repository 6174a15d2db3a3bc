/-! the law's rows, checked: the third lot -/
set_option maxRecDepth 100000 in
theorem bb_lp_11a : (bp_12035_11.take 25).all bb_lp = true := by decide +kernel
set_option maxRecDepth 100000 in
theorem bb_lp_11b : ((bp_12035_11.drop 25).take 25).all bb_lp = true := by decide +kernel
set_option maxRecDepth 100000 in
theorem bb_lp_11c : (((bp_12035_11.drop 25).drop 25).take 25).all bb_lp = true := by decide +kernel
set_option maxRecDepth 100000 in
theorem bb_lp_11d : (((bp_12035_11.drop 25).drop 25).drop 25).all bb_lp = true := by decide +kernel
theorem bb_lp_11 : bp_12035_11.all bb_lp = true := lp_two _ _ bb_lp_11a (lp_two _ _ bb_lp_11b (lp_two _ _ bb_lp_11c bb_lp_11d))
set_option maxRecDepth 100000 in
theorem bb_lp_12a : (bp_12035_12.take 25).all bb_lp = true := by decide +kernel
set_option maxRecDepth 100000 in
theorem bb_lp_12b : ((bp_12035_12.drop 25).take 25).all bb_lp = true := by decide +kernel
set_option maxRecDepth 100000 in
theorem bb_lp_12c : (((bp_12035_12.drop 25).drop 25).take 25).all bb_lp = true := by decide +kernel
set_option maxRecDepth 100000 in
theorem bb_lp_12d : (((bp_12035_12.drop 25).drop 25).drop 25).all bb_lp = true := by decide +kernel
theorem bb_lp_12 : bp_12035_12.all bb_lp = true := lp_two _ _ bb_lp_12a (lp_two _ _ bb_lp_12b (lp_two _ _ bb_lp_12c bb_lp_12d))
set_option maxRecDepth 100000 in
theorem bb_lp_13a : (bp_12035_13.take 25).all bb_lp = true := by decide +kernel
set_option maxRecDepth 100000 in
theorem bb_lp_13b : ((bp_12035_13.drop 25).take 25).all bb_lp = true := by decide +kernel
set_option maxRecDepth 100000 in
theorem bb_lp_13c : (((bp_12035_13.drop 25).drop 25).take 25).all bb_lp = true := by decide +kernel
set_option maxRecDepth 100000 in
theorem bb_lp_13d : (((bp_12035_13.drop 25).drop 25).drop 25).all bb_lp = true := by decide +kernel
theorem bb_lp_13 : bp_12035_13.all bb_lp = true := lp_two _ _ bb_lp_13a (lp_two _ _ bb_lp_13b (lp_two _ _ bb_lp_13c bb_lp_13d))
