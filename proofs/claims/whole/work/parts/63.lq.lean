/-! the law's rows, checked: the second lot -/
theorem lp_two {α : Type} (l : List α) (f : α → Bool) (h1 : (l.take 25).all f = true) (h2 : (l.drop 25).all f = true) : l.all f = true := by
  have h : (l.take 25 ++ l.drop 25).all f = true := by
    rw [List.all_append, h1, h2]
    exact rfl
  rw [List.take_append_drop] at h
  exact h
set_option maxRecDepth 100000 in
theorem bb_lp_6a : (bp_12035_6.take 25).all bb_lp = true := by decide +kernel
set_option maxRecDepth 100000 in
theorem bb_lp_6b : ((bp_12035_6.drop 25).take 25).all bb_lp = true := by decide +kernel
set_option maxRecDepth 100000 in
theorem bb_lp_6c : (((bp_12035_6.drop 25).drop 25).take 25).all bb_lp = true := by decide +kernel
set_option maxRecDepth 100000 in
theorem bb_lp_6d : (((bp_12035_6.drop 25).drop 25).drop 25).all bb_lp = true := by decide +kernel
theorem bb_lp_6 : bp_12035_6.all bb_lp = true := lp_two _ _ bb_lp_6a (lp_two _ _ bb_lp_6b (lp_two _ _ bb_lp_6c bb_lp_6d))
set_option maxRecDepth 100000 in
theorem bb_lp_7a : (bp_12035_7.take 25).all bb_lp = true := by decide +kernel
set_option maxRecDepth 100000 in
theorem bb_lp_7b : ((bp_12035_7.drop 25).take 25).all bb_lp = true := by decide +kernel
set_option maxRecDepth 100000 in
theorem bb_lp_7c : (((bp_12035_7.drop 25).drop 25).take 25).all bb_lp = true := by decide +kernel
set_option maxRecDepth 100000 in
theorem bb_lp_7d : (((bp_12035_7.drop 25).drop 25).drop 25).all bb_lp = true := by decide +kernel
theorem bb_lp_7 : bp_12035_7.all bb_lp = true := lp_two _ _ bb_lp_7a (lp_two _ _ bb_lp_7b (lp_two _ _ bb_lp_7c bb_lp_7d))
set_option maxRecDepth 100000 in
theorem bb_lp_8a : (bp_12035_8.take 25).all bb_lp = true := by decide +kernel
set_option maxRecDepth 100000 in
theorem bb_lp_8b : ((bp_12035_8.drop 25).take 25).all bb_lp = true := by decide +kernel
set_option maxRecDepth 100000 in
theorem bb_lp_8c : (((bp_12035_8.drop 25).drop 25).take 25).all bb_lp = true := by decide +kernel
set_option maxRecDepth 100000 in
theorem bb_lp_8d : (((bp_12035_8.drop 25).drop 25).drop 25).all bb_lp = true := by decide +kernel
theorem bb_lp_8 : bp_12035_8.all bb_lp = true := lp_two _ _ bb_lp_8a (lp_two _ _ bb_lp_8b (lp_two _ _ bb_lp_8c bb_lp_8d))
set_option maxRecDepth 100000 in
theorem bb_lp_9a : (bp_12035_9.take 25).all bb_lp = true := by decide +kernel
set_option maxRecDepth 100000 in
theorem bb_lp_9b : ((bp_12035_9.drop 25).take 25).all bb_lp = true := by decide +kernel
set_option maxRecDepth 100000 in
theorem bb_lp_9c : (((bp_12035_9.drop 25).drop 25).take 25).all bb_lp = true := by decide +kernel
set_option maxRecDepth 100000 in
theorem bb_lp_9d : (((bp_12035_9.drop 25).drop 25).drop 25).all bb_lp = true := by decide +kernel
theorem bb_lp_9 : bp_12035_9.all bb_lp = true := lp_two _ _ bb_lp_9a (lp_two _ _ bb_lp_9b (lp_two _ _ bb_lp_9c bb_lp_9d))
set_option maxRecDepth 100000 in
theorem bb_lp_10a : (bp_12035_10.take 25).all bb_lp = true := by decide +kernel
set_option maxRecDepth 100000 in
theorem bb_lp_10b : ((bp_12035_10.drop 25).take 25).all bb_lp = true := by decide +kernel
set_option maxRecDepth 100000 in
theorem bb_lp_10c : (((bp_12035_10.drop 25).drop 25).take 25).all bb_lp = true := by decide +kernel
set_option maxRecDepth 100000 in
theorem bb_lp_10d : (((bp_12035_10.drop 25).drop 25).drop 25).all bb_lp = true := by decide +kernel
theorem bb_lp_10 : bp_12035_10.all bb_lp = true := lp_two _ _ bb_lp_10a (lp_two _ _ bb_lp_10b (lp_two _ _ bb_lp_10c bb_lp_10d))
