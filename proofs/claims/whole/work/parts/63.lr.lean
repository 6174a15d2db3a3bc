/-! the law's rows, checked: the third lot -/
set_option maxRecDepth 100000 in
theorem bb_lp_11 : bp_12035_11.all bb_lp = true := by decide +kernel
set_option maxRecDepth 100000 in
theorem bb_lp_12 : bp_12035_12.all bb_lp = true := by decide +kernel
set_option maxRecDepth 100000 in
theorem bb_lp_13 : bp_12035_13.all bb_lp = true := by decide +kernel
set_option maxRecDepth 100000 in
theorem bb_lp_14 : bp_12035_14.all bb_lp = true := by decide +kernel
set_option maxRecDepth 100000 in
theorem bb_lp_15 : bp_12035_15.all bb_lp = true := by decide +kernel
theorem bb_lp_ok : (bb_P 12035).all bb_lp = true := by
  show bp_12035.all bb_lp = true
  unfold bp_12035
  simp only [List.all_append, bb_lp_0, bb_lp_1, bb_lp_2, bb_lp_3, bb_lp_4, bb_lp_5, bb_lp_6, bb_lp_7, bb_lp_8, bb_lp_9, bb_lp_10, bb_lp_11, bb_lp_12, bb_lp_13, bb_lp_14, bb_lp_15, Bool.and_self]
