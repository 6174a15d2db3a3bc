/-! the law's rows, checked: lot 14 in four -/
theorem lp_two {α : Type} (l : List α) (f : α → Bool) (h1 : (l.take 25).all f = true) (h2 : (l.drop 25).all f = true) : l.all f = true := by
  have h : (l.take 25 ++ l.drop 25).all f = true := by
    rw [List.all_append, h1, h2]
    exact rfl
  rw [List.take_append_drop] at h
  exact h
set_option maxRecDepth 100000 in
theorem bb_lp_14a : (bp_12035_14.take 25).all bb_lp = true := by decide +kernel
set_option maxRecDepth 100000 in
theorem bb_lp_14b : ((bp_12035_14.drop 25).take 25).all bb_lp = true := by decide +kernel
set_option maxRecDepth 100000 in
theorem bb_lp_14c : (((bp_12035_14.drop 25).drop 25).take 25).all bb_lp = true := by decide +kernel
set_option maxRecDepth 100000 in
theorem bb_lp_14d : (((bp_12035_14.drop 25).drop 25).drop 25).all bb_lp = true := by decide +kernel
theorem bb_lp_14 : bp_12035_14.all bb_lp = true := lp_two _ _ bb_lp_14a (lp_two _ _ bb_lp_14b (lp_two _ _ bb_lp_14c bb_lp_14d))
