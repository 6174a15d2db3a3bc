/-! the law's rows, checked -/
def bb_lp (q : Nat × Instr × Option (List Bool)) : Bool := en_chk (bb_CD 12035) q.1 q.2.1 && (match q.2.2 with
  | none => true
  | some bs => bs.length == bb_ML 12035) && en_li q.2.1
set_option maxRecDepth 100000 in
theorem bb_lp_0 : bp_12035_0.all bb_lp = true := by decide +kernel
set_option maxRecDepth 100000 in
theorem bb_lp_1 : bp_12035_1.all bb_lp = true := by decide +kernel
set_option maxRecDepth 100000 in
theorem bb_lp_2 : bp_12035_2.all bb_lp = true := by decide +kernel
set_option maxRecDepth 100000 in
theorem bb_lp_3 : bp_12035_3.all bb_lp = true := by decide +kernel
set_option maxRecDepth 100000 in
theorem bb_lp_4 : bp_12035_4.all bb_lp = true := by decide +kernel
set_option maxRecDepth 100000 in
theorem bb_lp_5 : bp_12035_5.all bb_lp = true := by decide +kernel
