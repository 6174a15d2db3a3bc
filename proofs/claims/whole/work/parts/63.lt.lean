/-! the law's rows, checked: lot 15 in four -/
set_option maxRecDepth 100000 in
theorem bb_lp_15a : (bp_12035_15.take 25).all bb_lp = true := by decide +kernel
set_option maxRecDepth 100000 in
theorem bb_lp_15b : ((bp_12035_15.drop 25).take 25).all bb_lp = true := by decide +kernel
set_option maxRecDepth 100000 in
theorem bb_lp_15c : (((bp_12035_15.drop 25).drop 25).take 25).all bb_lp = true := by decide +kernel
set_option maxRecDepth 100000 in
theorem bb_lp_15d : (((bp_12035_15.drop 25).drop 25).drop 25).all bb_lp = true := by decide +kernel
theorem bb_lp_15 : bp_12035_15.all bb_lp = true := lp_two _ _ bb_lp_15a (lp_two _ _ bb_lp_15b (lp_two _ _ bb_lp_15c bb_lp_15d))
theorem bb_lp_ok : (bb_P 12035).all bb_lp = true := by
  show bp_12035.all bb_lp = true
  unfold bp_12035
  simp only [List.all_append, bb_lp_0, bb_lp_1, bb_lp_2, bb_lp_3, bb_lp_4, bb_lp_5, bb_lp_6, bb_lp_7, bb_lp_8, bb_lp_9, bb_lp_10, bb_lp_11, bb_lp_12, bb_lp_13, bb_lp_14, bb_lp_15, Bool.and_self]
