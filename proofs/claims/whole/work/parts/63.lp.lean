/-! the law's rows, checked -/
def bb_lp (q : Nat × Instr × Option (List Bool)) : Bool := en_chk (bb_CD 12035) q.1 q.2.1 && (match q.2.2 with
  | none => true
  | some bs => bs.length == bb_ML 12035) && en_li q.2.1
set_option maxRecDepth 100000 in
theorem bb_lp_0 : bp_12035_0.all bb_lp = true := by decide +kernel
set_option maxRecDepth 100000 in
theorem bb_lp_1 : bp_12035_1.all bb_lp = true := by decide +kernel
set_option maxRecDepth 100000 in
theorem bb_lp_2 : bp_12035_2.all bb_lp = true := by decide +kernel
set_option maxRecDepth 100000 in
theorem bb_lp_3 : bp_12035_3.all bb_lp = true := by decide +kernel
set_option maxRecDepth 100000 in
theorem bb_lp_4 : bp_12035_4.all bb_lp = true := by decide +kernel
set_option maxRecDepth 100000 in
theorem bb_lp_5 : bp_12035_5.all bb_lp = true := by decide +kernel
set_option maxRecDepth 100000 in
theorem bb_lp_6 : bp_12035_6.all bb_lp = true := by decide +kernel
set_option maxRecDepth 100000 in
theorem bb_lp_7 : bp_12035_7.all bb_lp = true := by decide +kernel
set_option maxRecDepth 100000 in
theorem bb_lp_8 : bp_12035_8.all bb_lp = true := by decide +kernel
set_option maxRecDepth 100000 in
theorem bb_lp_9 : bp_12035_9.all bb_lp = true := by decide +kernel
set_option maxRecDepth 100000 in
theorem bb_lp_10 : bp_12035_10.all bb_lp = true := by decide +kernel
set_option maxRecDepth 100000 in
theorem bb_lp_11 : bp_12035_11.all bb_lp = true := by decide +kernel
set_option maxRecDepth 100000 in
theorem bb_lp_12 : bp_12035_12.all bb_lp = true := by decide +kernel
set_option maxRecDepth 100000 in
theorem bb_lp_13 : bp_12035_13.all bb_lp = true := by decide +kernel
set_option maxRecDepth 100000 in
theorem bb_lp_14 : bp_12035_14.all bb_lp = true := by decide +kernel
set_option maxRecDepth 100000 in
theorem bb_lp_15 : bp_12035_15.all bb_lp = true := by decide +kernel
theorem bb_lp_ok : (bb_P 12035).all bb_lp = true := by
  show bp_12035.all bb_lp = true
  unfold bp_12035
  simp only [List.all_append, bb_lp_0, bb_lp_1, bb_lp_2, bb_lp_3, bb_lp_4, bb_lp_5, bb_lp_6, bb_lp_7, bb_lp_8, bb_lp_9, bb_lp_10, bb_lp_11, bb_lp_12, bb_lp_13, bb_lp_14, bb_lp_15, Bool.and_self]
