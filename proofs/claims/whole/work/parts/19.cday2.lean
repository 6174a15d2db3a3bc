/-! the class's day: a box, all boxes, the days -/
theorem c_addWeight_67 {Λ : mu_Ld} {r : mu_Rw} (f : Nat → Nat → Int32) (g : Nat → Nat → Int64) (lo : lOK Λ) (hR : CRw Λ 67 r f) {x : Nat} (hx : x < lB Λ) (v : Int32) : x_st_addWeight_p67_0 (f, g) (nI x) v = rV (en_u1 f 68 x (sIn (rW r x + v) (nI 1) (nI 99)), g) := by
  have l1 := lo.1
  have hW : f 68 x = rW r x := hR.2.1 x hx
  rw [e_st_addWeight_p67_0]
  simp (disch := omega) only [q_0, q_1, q_2, q_3, q_4, q_5, q_6, q_7, q_8, q_9, q_10, q_11, q_12, q_13, q_14, q_15, q_16, q_17, q_18, q_19, q_20, q_21, q_22, q_23, q_24, q_29, q_30, q_31, q_36, q_42, q_50, q_40, q_48, q_96, q_97, q_99, q_100, q_255, q_256, q_700, q_999, q_1160, q_1400, q_99999, q_m1, q_in, q_clamp, if_true, hW, c_within, c_I]
  rfl
theorem c_tireOut_67 {Λ : mu_Ld} {r : mu_Rw} (f : Nat → Nat → Int32) (g : Nat → Nat → Int64) (lo : lOK Λ) (hR : CRw Λ 67 r f) {p : Nat} (hp : p < lP Λ) : ∃ f', x_st_tireOut_p67_0 (f, g) (nI p) = rV (f', g) ∧ CRw Λ 67 (sTi r p) f' ∧ ∀ q, q ≠ 71 → f' q = f q := by
  have l2 := lo.2.1
  have hT : f 71 p = rT r p := hR.2.2.2.2 p hp
  rw [e_st_tireOut_p67_0]
  simp (disch := omega) only [q_0, q_1, q_2, q_3, q_4, q_5, q_6, q_7, q_8, q_9, q_10, q_11, q_12, q_13, q_14, q_15, q_16, q_17, q_18, q_19, q_20, q_21, q_22, q_23, q_24, q_29, q_30, q_31, q_36, q_42, q_50, q_40, q_48, q_96, q_97, q_99, q_100, q_255, q_256, q_700, q_999, q_1160, q_1400, q_99999, q_m1, q_in, q_clamp, if_true, hT]
  unfold sTi
  by_cases c : nI 9 ≤ rT r p
  · rw [if_pos c, if_pos c]
    exact ⟨f, rfl, CRw_same hR p, fun _ _ => rfl⟩
  · rw [if_neg c, if_neg c]
    exact ⟨_, rfl, CRw_uT hR p _, fun q hq => u1_p _ _ _ hq⟩
theorem c_letFall_67 {Λ : mu_Ld} {r : mu_Rw} (f : Nat → Nat → Int32) (g : Nat → Nat → Int64) (lo : lOK Λ) (hL : CLd Λ f) (hR : CRw Λ 67 r f) {x : Nat} (hx : x < lB Λ) : ∃ f', x_st_letFall_p67_0 (f, g) (nI x) = rI (nI (sH Λ r (nI x))) (f', g) ∧ CRw Λ 67 (sLet Λ r x) f' ∧ CFr 67 f f' ∧ f' 67 6 = f 67 6 ||| nI (2 ^ x) ∧ f' 67 7 = f 67 7 := by
  have l1 := lo.1
  have l2 := lo.2.1
  have h8 := sH8 r lo (nI x)
  have hW : f 68 x = rW r x := hR.2.1 x hx
  rw [e_st_letFall_p67_0, c_bitsUnder_67 (r := r) (f, g) lo hL hR, c_I]
  simp (disch := omega) only [q_0, q_1, q_2, q_3, q_4, q_5, q_6, q_7, q_8, q_9, q_10, q_11, q_12, q_13, q_14, q_15, q_16, q_17, q_18, q_19, q_20, q_21, q_22, q_23, q_24, q_29, q_30, q_31, q_36, q_42, q_50, q_40, q_48, q_96, q_97, q_99, q_100, q_255, q_256, q_700, q_999, q_1160, q_1400, q_99999, q_m1, q_in, q_clamp, if_true, hW]
  obtain ⟨f', e, i1, i2, i3⟩ := mu_inv (fun (f : Nat → Nat → Int32) i => x_st_letFall_p67_26 (f, g) (nI x) (nI (sH Λ r (nI x))) i) (fun p f' => CRw Λ 67 (mu_up (fun p q => if (sH Λ r (nI x)).testBit p then wU q p nN else q) (wW r x (if nI 1 < rW r x / nI 2 then rW r x / nI 2 else nI 1)) p) f' ∧ (∀ q, q ≠ 68 → q ≠ 70 → f' q = f q) ∧ True) (lP Λ) (en_u1 f 68 x (if nI 1 < rW r x / nI 2 then rW r x / nI 2 else nI 1)) ⟨CRw_uW hR x _, fun q hq _ => u1_p _ _ _ hq, trivial⟩ (by
    intro p f1 hp ⟨i1, i3, _⟩
    have hP : f1 34 9 = nI (lP Λ) := by rw [i3 34 (by omega) (by omega)]; exact hL.2.1
    show ∃ f', x_st_letFall_p67_26 (f1, g) (nI x) (nI (sH Λ r (nI x))) (nI p) = x_st_letFall_p67_26 (f', g) (nI x) (nI (sH Λ r (nI x))) (nI (p + 1)) ∧ _
    rw [e_st_letFall_p67_26, c_hasBit _ (by omega) (by omega), c_I]
    simp (disch := omega) only [q_0, q_1, q_2, q_3, q_4, q_5, q_6, q_7, q_8, q_9, q_10, q_11, q_12, q_13, q_14, q_15, q_16, q_17, q_18, q_19, q_20, q_21, q_22, q_23, q_24, q_29, q_30, q_31, q_36, q_42, q_50, q_40, q_48, q_96, q_97, q_99, q_100, q_255, q_256, q_700, q_999, q_1160, q_1400, q_99999, q_m1, hP, q_leI, nI_add, tb_0, q_in, q_clamp, if_true]
    rw [if_neg (by omega)]
    simp only [mu_upS]
    cases hb2 : (sH Λ r (nI x)).testBit p
    · simp (decide := true) only [if_false, if_true]
      exact ⟨f1, rfl, i1, i3, trivial⟩
    · simp (decide := true) only [if_true, if_false]
      exact ⟨_, rfl, CRw_uU i1 p _, fun q h1 h3 => by rw [u1_p _ _ _ h3]; exact i3 q h1 h3, trivial⟩)
  have hP : f' 34 9 = nI (lP Λ) := by rw [i2 34 (by omega) (by omega)]; exact hL.2.1
  have hF : CFr 67 f f' := ⟨fun p h _ _ => i2 p (by omega) (by omega), fun i _ _ _ => by rw [i2 67 (by omega) (by omega)]⟩
  refine ⟨en_u1 f' 67 6 (f' 67 6 ||| nI (2 ^ x)), ?_, ?_, CFr_trans hF (CFr_uS _ _ (by omega)), ?_, ?_⟩
  · refine Eq.trans e ?_
    show x_st_letFall_p67_26 (f', g) (nI x) (nI (sH Λ r (nI x))) (nI (lP Λ)) = _
    rw [e_st_letFall_p67_26, if_pos (q_le hP)]
    simp (disch := omega) only [q_0, q_1, q_2, q_3, q_4, q_5, q_6, q_7, q_8, q_9, q_10, q_11, q_12, q_13, q_14, q_15, q_16, q_17, q_18, q_19, q_20, q_21, q_22, q_23, q_24, q_29, q_30, q_31, q_36, q_42, q_50, q_40, q_48, q_96, q_97, q_99, q_100, q_255, q_256, q_700, q_999, q_1160, q_1400, q_99999, q_m1, q_shl]
    rfl
  · exact CRw_of i1 (u1_ne _ _ (by omega)) (fun p h1 h2 => u1_p _ _ _ (by omega))
  · rw [u1_at, i2 67 (by omega) (by omega)]
  · rw [u1_ne _ _ (by omega), i2 67 (by omega) (by omega)]
theorem c_carryOn_67 {Λ : mu_Ld} {r : mu_Rw} (f : Nat → Nat → Int32) (g : Nat → Nat → Int64) (lo : lOK Λ) (hL : CLd Λ f) (hR : CRw Λ 67 r f) (ro : rOK Λ r) {x : Nat} (hx : x < lB Λ) : ∃ f', x_st_carryOn_p67_0 (f, g) (nI x) = rV (f', g) ∧ CRw Λ 67 (sCa Λ r x) f' ∧ CFr 67 f f' ∧ f' 67 6 = f 67 6 ∧ f' 67 7 = f 67 7 + nI 1 := by
  have l1 := lo.1
  have l2 := lo.2.1
  obtain ⟨s, hs, es⟩ := ro.2.1 x hx
  have hS : f 69 x = nI s := by rw [← es]; exact hR.2.2.1 x hx
  rw [e_st_carryOn_p67_0]
  simp (disch := omega) only [q_0, q_1, q_2, q_3, q_4, q_5, q_6, q_7, q_8, q_9, q_10, q_11, q_12, q_13, q_14, q_15, q_16, q_17, q_18, q_19, q_20, q_21, q_22, q_23, q_24, q_29, q_30, q_31, q_36, q_42, q_50, q_40, q_48, q_96, q_97, q_99, q_100, q_255, q_256, q_700, q_999, q_1160, q_1400, q_99999, q_m1, q_in, q_clamp, if_true, hS, c_nextPlace (f, g) lo hL hx hs, c_I]
  have hR1 : CRw Λ 67 (wS r x (sNx Λ x (rS r x))) (en_u1 f 69 x (sNx Λ x (nI s))) := by rw [es]; exact CRw_uS hR x _
  obtain ⟨f', e, i1, i2, i3⟩ := mu_inv (fun (f : Nat → Nat → Int32) i => x_st_carryOn_p67_22 (f, g) (nI x) i) (fun p f' => CRw Λ 67 (mu_up (fun p q => if (sH Λ r (nI x)).testBit p then sTi q p else q) (wS r x (sNx Λ x (rS r x))) p) f' ∧ (∀ q, q ≠ 69 → q ≠ 71 → f' q = f q) ∧ True) (lP Λ) (en_u1 f 69 x (sNx Λ x (nI s))) ⟨hR1, fun q hq _ => u1_p _ _ _ hq, trivial⟩ (by
    intro p f1 hp ⟨i1, i3, _⟩
    have hP : f1 34 9 = nI (lP Λ) := by rw [i3 34 (by omega) (by omega)]; exact hL.2.1
    have hU : f1 70 p = rU r p := by rw [i3 70 (by omega) (by omega)]; exact hR.2.2.2.1 p hp
    obtain ⟨f2, e2, R2, g2⟩ := c_tireOut_67 f1 g lo i1 hp
    show ∃ f', x_st_carryOn_p67_22 (f1, g) (nI x) (nI p) = x_st_carryOn_p67_22 (f', g) (nI x) (nI (p + 1)) ∧ _
    rw [e_st_carryOn_p67_22, e2, c_V]
    simp (disch := omega) only [q_0, q_1, q_2, q_3, q_4, q_5, q_6, q_7, q_8, q_9, q_10, q_11, q_12, q_13, q_14, q_15, q_16, q_17, q_18, q_19, q_20, q_21, q_22, q_23, q_24, q_29, q_30, q_31, q_36, q_42, q_50, q_40, q_48, q_96, q_97, q_99, q_100, q_255, q_256, q_700, q_999, q_1160, q_1400, q_99999, q_m1, hP, q_leI, nI_add, q_in, q_clamp, if_true, hU]
    rw [if_neg (by omega)]
    simp only [mu_upS, sH_tb r (nI x) hp]
    by_cases c : rU r p = nI x
    · rw [if_pos c]
      simp only [c, decide_true, if_true]
      exact ⟨f2, rfl, R2, fun q h1 h3 => by rw [g2 q h3]; exact i3 q h1 h3, trivial⟩
    · rw [if_neg c]
      simp only [c, decide_false, if_false, Bool.false_eq_true]
      exact ⟨f1, rfl, i1, i3, trivial⟩)
  have hP : f' 34 9 = nI (lP Λ) := by rw [i2 34 (by omega) (by omega)]; exact hL.2.1
  have hF : CFr 67 f f' := ⟨fun p h _ _ => i2 p (by omega) (by omega), fun i _ _ _ => by rw [i2 67 (by omega) (by omega)]⟩
  refine ⟨en_u1 f' 67 7 (f' 67 7 + nI 1), ?_, ?_, CFr_trans hF (CFr_uS _ _ (by omega)), ?_, ?_⟩
  · refine Eq.trans e ?_
    show x_st_carryOn_p67_22 (f', g) (nI x) (nI (lP Λ)) = _
    rw [e_st_carryOn_p67_22, if_pos (q_le hP)]
    rfl
  · exact CRw_of i1 (u1_ne _ _ (by omega)) (fun p h1 h2 => u1_p _ _ _ (by omega))
  · rw [u1_ne _ _ (by omega), i2 67 (by omega) (by omega)]
  · rw [u1_at, i2 67 (by omega) (by omega)]
theorem c_passBox_67 {Λ : mu_Ld} {r : mu_Rw} (f : Nat → Nat → Int32) (g : Nat → Nat → Int64) (lo : lOK Λ) (hL : CLd Λ f) (hR : CRw Λ 67 r f) (ro : rOK Λ r) {x : Nat} (hx : x < lB Λ) : ∃ f', x_st_passBox_p67_0 (f, g) (nI x) = rI (nI (sBx Λ r x).2.1) (f', g) ∧ CRw Λ 67 (sBx Λ r x).1 f' ∧ CFr 67 f f' ∧ f' 67 6 = f 67 6 ||| nI (sBx Λ r x).2.2.1 ∧ f' 67 7 = f 67 7 + nI (sBx Λ r x).2.2.2 := by
  have l1 := lo.1
  have l2 := lo.2.1
  have ro2 : rOK Λ (sW1 Λ r x) := rOK_sW1 ro x
  obtain ⟨f1, e1, g1, v1⟩ := c_survey_67 f g lo hL hR ro hx
  have F1 : CFr 67 f f1 := CFr_p (by omega) g1 (by omega)
  have L1 := CFr_L (by omega) F1 hL
  have R1 : CRw Λ 67 r f1 := CRw_of hR (by rw [g1 67 (by omega)]) (fun p h1 h2 => g1 p (by omega))
  -- the talk
  have A : ∃ f2, x_st_passBox_p67_0 (f, g) (nI x) = en_cV (x_st_addWeight_p67_0 (f2, g) (nI x) (sMo Λ r x)) (fun σ1 => en_cV (x_st_survey_p67_0 σ1 (nI x)) (fun σ2 => en_cI (x_st_valueOf_p67_0 σ2 (-5)) (fun r4 σ3 => if r4 = 1 then x_st_passBox_p67_82 σ3 (nI x) 1 else x_st_passBox_p67_82 σ3 (nI x) 0) (fun e σ => some (.inr e, σ))) (fun e σ => some (.inr e, σ))) (fun e σ => some (.inr e, σ)) ∧ ∀ p, p ≠ 46 → f2 p = f1 p := by
    rw [e_st_passBox_p67_0, e1, c_V, c_val_67_4, c_I, v1 4 (by omega)]
    have j : (if sV Λ r x 4 = 1 then x_st_passBox_p67_20 (f1, g) (nI x) 1 else x_st_passBox_p67_20 (f1, g) (nI x) (-1)) = x_st_passBox_p67_20 (f1, g) (nI x) (if sB Λ r x then nI 1 else nN) := by
      show (if tb (sB Λ r x) = 1 then _ else _) = _
      cases sB Λ r x
      · rw [if_neg (by decide), if_neg (by decide)]; rfl
      · rw [if_pos (by decide), if_pos rfl]; rfl
    rw [j, e_st_passBox_p67_20]
    unfold sMo
    have hK := L1.2.2.2.2.2.2.1
    cases hk : lK Λ with
    | none =>
      rw [hk] at hK
      have hK' : f1 44 0 = 0 := hK
      exact ⟨f1, by rw [if_pos hK'], fun _ _ => rfl⟩
    | some l =>
      rw [hk] at hK
      have hd : sDp l 0 := by have := lo.2.2.2.2.1; rw [hk] at this; exact this
      have hne : ¬ f1 44 0 = 0 := by rw [hK.1]; decide
      obtain ⟨f2, e2, g2⟩ := c_work_44_67 (sV Λ r x) (f1, g) l hK hd v1
      refine ⟨f2, ?_, g2⟩
      rw [if_neg hne, e2, c_I, c_within, c_I]
      rfl
  obtain ⟨f2, eA, gA⟩ := A
  have F2 : CFr 67 f1 f2 := CFr_p (by omega) gA (by omega)
  have L2 := CFr_L (by omega) F2 L1
  have R2 : CRw Λ 67 r f2 := CRw_of R1 (by rw [gA 67 (by omega)]) (fun p h1 h2 => gA p (by omega))
  have R3 : CRw Λ 67 (sW1 Λ r x) (en_u1 f2 68 x (sIn (rW r x + sMo Λ r x) (nI 1) (nI 99))) := CRw_uW R2 x _
  have F3 : CFr 67 f2 (en_u1 f2 68 x (sIn (rW r x + sMo Λ r x) (nI 1) (nI 99))) := CFr_u _ _ (by omega) (by omega)
  have z3 : ∀ i, (en_u1 f2 68 x (sIn (rW r x + sMo Λ r x) (nI 1) (nI 99))) 67 i = f 67 i := by
    intro i
    rw [u1_ne _ _ (by omega), gA 67 (by omega), g1 67 (by omega)]
  rw [eA, c_addWeight_67 f2 g lo R2 hx, c_V]
  generalize en_u1 f2 68 x (sIn (rW r x + sMo Λ r x) (nI 1) (nI 99)) = f3 at R3 F3 z3 ⊢
  have L3 := CFr_L (by omega) F3 L2
  obtain ⟨f4, e4, g4, v4⟩ := c_survey_67 f3 g lo L3 R3 ro2 hx
  have F4 : CFr 67 f3 f4 := CFr_p (by omega) g4 (by omega)
  have L4 := CFr_L (by omega) F4 L3
  have R4 : CRw Λ 67 (sW1 Λ r x) f4 := CRw_of R3 (by rw [g4 67 (by omega)]) (fun p h1 h2 => g4 p (by omega))
  have z4 : ∀ i, f4 67 i = f 67 i := fun i => by rw [g4 67 (by omega)]; exact z3 i
  have F04 : CFr 67 f f4 := CFr_trans F1 (CFr_trans F2 (CFr_trans F3 F4))
  rw [e4, c_V, c_val_67_4, c_I, v4 4 (by omega)]
  have j : (if sV Λ (sW1 Λ r x) x 4 = 1 then x_st_passBox_p67_82 (f4, g) (nI x) 1 else x_st_passBox_p67_82 (f4, g) (nI x) 0) = x_st_passBox_p67_102 (f4, g) (nI x) (tb (sB Λ (sW1 Λ r x) x)) (tb (sB Λ (sW1 Λ r x) x && decide (nI 5 < sLn Λ (sH Λ (sW1 Λ r x) (nI x))))) := by
    show (if tb (sB Λ (sW1 Λ r x) x) = 1 then _ else _) = _
    cases sB Λ (sW1 Λ r x) x
    · rw [if_neg (by decide), e_st_passBox_p67_82, if_pos rfl]; rfl
    · rw [if_pos (by decide), e_st_passBox_p67_82, if_neg (by decide), c_val_67_3, c_I, v4 3 (by omega)]
      show (if sLn Λ (sH Λ (sW1 Λ r x) (nI x)) ≤ 5 then _ else _) = _
      by_cases c : nI 5 < sLn Λ (sH Λ (sW1 Λ r x) (nI x))
      · rw [if_neg (by rw [Int32.not_le]; exact c), decide_eq_true c]; rfl
      · rw [if_pos (by rw [Int32.not_lt] at c; exact c), decide_eq_false c]; rfl
  rw [j, e_st_passBox_p67_102]
  -- the falling
  have B : ∃ f5, (if (f4, g).1 47 0 = 0 then if tb (sB Λ (sW1 Λ r x) x && decide (nI 5 < sLn Λ (sH Λ (sW1 Λ r x) (nI x)))) = 0 then if tb (sB Λ (sW1 Λ r x) x) = 0 then some (.inl (some (.int 0)), (f4, g)) else en_cV (x_st_carryOn_p67_0 (f4, g) (nI x)) (fun σ1 => some (.inl (some (.int 0)), σ1)) (fun e σ => some (.inr e, σ)) else en_cI (x_st_letFall_p67_0 (f4, g) (nI x)) (fun r3 σ2 => some (.inl (some (.int r3)), σ2)) (fun e σ => some (.inr e, σ)) else en_cI (x_ru_workOut_p47_72_0 (f4, g)) (fun r5 σ4 => if r5 ≤ 0 then if tb (sB Λ (sW1 Λ r x) x) = 0 then some (.inl (some (.int 0)), σ4) else en_cV (x_st_carryOn_p67_0 σ4 (nI x)) (fun σ6 => some (.inl (some (.int 0)), σ6)) (fun e σ => some (.inr e, σ)) else en_cI (x_st_letFall_p67_0 σ4 (nI x)) (fun r8 σ7 => some (.inl (some (.int r8)), σ7)) (fun e σ => some (.inr e, σ))) (fun e σ => some (.inr e, σ)) : Option en_O) = (if sFa Λ (sW1 Λ r x) x then en_cI (x_st_letFall_p67_0 (f5, g) (nI x)) (fun r3 σ2 => rI r3 σ2) (fun e σ => some (.inr e, σ)) else if sB Λ (sW1 Λ r x) x then en_cV (x_st_carryOn_p67_0 (f5, g) (nI x)) (fun σ1 => rI (nI 0) σ1) (fun e σ => some (.inr e, σ)) else rI (nI 0) (f5, g)) ∧ ∀ p, p ≠ 49 → f5 p = f4 p := by
    have hF := L4.2.2.2.2.2.2.2
    unfold sFa
    cases hk : lF Λ with
    | none =>
      rw [hk] at hF
      have hF' : f4 47 0 = 0 := hF
      refine ⟨f4, ?_, fun _ _ => rfl⟩
      rw [if_pos hF']
      cases sB Λ (sW1 Λ r x) x
      · rfl
      · cases decide (nI 5 < sLn Λ (sH Λ (sW1 Λ r x) (nI x))) <;> rfl
    | some l =>
      rw [hk] at hF
      have hd : sDp l 0 := by have := lo.2.2.2.2.2; rw [hk] at this; exact this
      have hne : ¬ f4 47 0 = 0 := by rw [hF.1]; decide
      obtain ⟨f5, e5, g5⟩ := c_work_47_67 (sV Λ (sW1 Λ r x) x) (f4, g) l hF hd v4
      refine ⟨f5, ?_, g5⟩
      rw [if_neg hne, e5, c_I]
      by_cases c : nI 0 < sE l (sV Λ (sW1 Λ r x) x)
      · rw [if_neg (by rw [Int32.not_le]; exact c)]
        simp only [c, decide_true, if_true]
        rfl
      · rw [if_pos (by rw [Int32.not_lt] at c; exact c)]
        simp only [c, decide_false, if_false, Bool.false_eq_true]
        cases sB Λ (sW1 Λ r x) x <;> rfl
  obtain ⟨f5, eB, gB⟩ := B
  have F5 : CFr 67 f4 f5 := CFr_p (by omega) gB (by omega)
  have L5 := CFr_L (by omega) F5 L4
  have R5 : CRw Λ 67 (sW1 Λ r x) f5 := CRw_of R4 (by rw [gB 67 (by omega)]) (fun p h1 h2 => gB p (by omega))
  have z5 : ∀ i, f5 67 i = f 67 i := fun i => by rw [gB 67 (by omega)]; exact z4 i
  have F05 : CFr 67 f f5 := CFr_trans F04 F5
  rw [eB]
  unfold sBx
  cases hfa : sFa Λ (sW1 Λ r x) x
  · simp only [Bool.false_eq_true, if_false]
    cases hbo : sB Λ (sW1 Λ r x) x
    · simp only [Bool.false_eq_true, if_false]
      refine ⟨f5, rfl, R5, F05, ?_, ?_⟩
      · rw [z5]; exact (Int32.or_zero).symm
      · rw [z5]; exact (Int32.add_zero _).symm
    · simp only [if_true]
      obtain ⟨f6, e6, R6, F6, a6, a7⟩ := c_carryOn_67 f5 g lo L5 R5 ro2 hx
      rw [e6, c_V]
      refine ⟨f6, rfl, R6, CFr_trans F05 F6, ?_, ?_⟩
      · rw [a6, z5]; exact (Int32.or_zero).symm
      · rw [a7, z5]
  · simp only [if_true]
    obtain ⟨f6, e6, R6, F6, a6, a7⟩ := c_letFall_67 f5 g lo L5 R5 hx
    rw [e6, c_I]
    refine ⟨f6, rfl, R6, CFr_trans F05 F6, ?_, ?_⟩
    · rw [a6, z5]
    · rw [a7, z5]; exact (Int32.add_zero _).symm
theorem c_passDay_67 {Λ : mu_Ld} {r : mu_Rw} (f : Nat → Nat → Int32) (g : Nat → Nat → Int64) (lo : lOK Λ) (hL : CLd Λ f) (hR : CRw Λ 67 r f) (ro : rOK Λ r) : ∃ f', x_st_passDay_p67_0 (f, g) = rV (f', g) ∧ CRw Λ 67 (sDy Λ r) f' ∧ CFr 67 f f' ∧ f' 67 6 = nI (sFe Λ r) ∧ f' 67 7 = nI (sCr Λ r) := by
  have l1 := lo.1
  have l2 := lo.2.1
  rw [e_st_passDay_p67_0]
  have F0 : CFr 67 f (en_u1 (en_u1 f 67 6 0) 67 7 0) := CFr_trans (CFr_uS _ _ (by omega)) (CFr_uS _ _ (by omega))
  obtain ⟨a1, e1, R1, F1, h1, h2, h3⟩ := mu_inv (fun (a : Int32 × (Nat → Nat → Int32)) i => x_st_passDay_p67_14 (a.2, g) a.1 i) (fun n a => CRw Λ 67 (sBs Λ r n).1 a.2 ∧ CFr 67 f a.2 ∧ a.1 = nI (sBs Λ r n).2.1 ∧ a.2 67 6 = nI (sBs Λ r n).2.2.1 ∧ a.2 67 7 = nI (sBs Λ r n).2.2.2) (lB Λ) (nI 0, en_u1 (en_u1 f 67 6 0) 67 7 0) ⟨CRw_of hR (by simp (disch := omega) only [u1_ne]) (fun p h1 h2 => by simp (disch := omega) only [u1_p]), F0, rfl, by simp (disch := omega) only [u1_ne, u1_at]; rfl, by simp (disch := omega) only [u1_ne, u1_at]; rfl⟩ (by
    intro x a hx ⟨R1, F1, h1, h2, h3⟩
    have L1 := CFr_L (by omega) F1 hL
    obtain ⟨f2, e2, R2, F2, b1, b2⟩ := c_passBox_67 a.2 g lo L1 R1 (rOK_sBs lo ro (by omega)) hx
    refine ⟨(a.1 ||| nI (sBx Λ (sBs Λ r x).1 x).2.1, f2), ?_, R2, CFr_trans F1 F2, ?_, ?_, ?_⟩
    · show x_st_passDay_p67_14 (a.2, g) a.1 (nI x) = x_st_passDay_p67_14 (f2, g) (a.1 ||| nI (sBx Λ (sBs Λ r x).1 x).2.1) (nI (x + 1))
      rw [e_st_passDay_p67_14, if_neg (by show ¬ a.2 34 5 ≤ nI x; rw [L1.1]; exact nI_ge hx (by omega)), e2, c_I, nI_1]
    · rw [h1, fa_or]; rfl
    · show f2 67 6 = _; rw [b1, h2, fa_or]; rfl
    · show f2 67 7 = _; rw [b2, h3, nI_add]; rfl)
  obtain ⟨st, f1⟩ := a1
  dsimp only at R1 F1 h1 h2 h3 e1
  have L1 := CFr_L (by omega) F1 hL
  have hst := sBs_st lo r (lB Λ)
  obtain ⟨f2, e2, R2, i2, i3⟩ := mu_inv (fun (f : Nat → Nat → Int32) i => x_st_passDay_p67_41 (f, g) st i) (fun n f => CRw Λ 67 (sRe Λ (sBs Λ r (lB Λ)).2.1 (sBs Λ r (lB Λ)).1 n) f ∧ (∀ p, p ≠ 71 → f p = f1 p) ∧ True) (lP Λ) f1 ⟨R1, fun _ _ => rfl, trivial⟩ (by
    intro p f hp ⟨R2, g1, _⟩
    have hP : f 34 9 = nI (lP Λ) := by rw [g1 34 (by omega)]; exact L1.2.1
    have hU : f 70 p = rU (sRe Λ (sBs Λ r (lB Λ)).2.1 (sBs Λ r (lB Λ)).1 p) p := R2.2.2.2.1 p hp
    have hT : f 71 p = rT (sRe Λ (sBs Λ r (lB Λ)).2.1 (sBs Λ r (lB Λ)).1 p) p := R2.2.2.2.2 p hp
    show ∃ f', x_st_passDay_p67_41 (f, g) st (nI p) = x_st_passDay_p67_41 (f', g) st (nI (p + 1)) ∧ _
    rw [e_st_passDay_p67_41, h1, c_hasBit _ (by omega) (by omega), c_I]
    simp (disch := omega) only [q_0, q_1, q_2, q_3, q_4, q_5, q_6, q_7, q_8, q_9, q_10, q_11, q_12, q_13, q_14, q_15, q_16, q_17, q_18, q_19, q_20, q_21, q_22, q_23, q_24, q_29, q_30, q_31, q_36, q_42, q_50, q_40, q_48, q_96, q_97, q_99, q_100, q_255, q_256, q_700, q_999, q_1160, q_1400, q_99999, q_m1, hP, q_leI, nI_add, tb_0, q_in, q_clamp, if_true, hU, hT]
    rw [if_neg (by omega)]
    by_cases c1 : rU (sRe Λ (sBs Λ r (lB Λ)).2.1 (sBs Λ r (lB Λ)).1 p) p = nN
    · rw [if_pos c1]
      by_cases c2 : (sBs Λ r (lB Λ)).2.1.testBit p = false
      · rw [if_pos c2]
        refine ⟨_, rfl, ?_, fun q hq => by rw [u1_p _ _ _ hq]; exact g1 q hq, trivial⟩
        have : sRe Λ (sBs Λ r (lB Λ)).2.1 (sBs Λ r (lB Λ)).1 (p + 1) = wT (sRe Λ (sBs Λ r (lB Λ)).2.1 (sBs Λ r (lB Λ)).1 p) p (if nI 0 < rT (sRe Λ (sBs Λ r (lB Λ)).2.1 (sBs Λ r (lB Λ)).1 p) p - nI 2 then rT (sRe Λ (sBs Λ r (lB Λ)).2.1 (sBs Λ r (lB Λ)).1 p) p - nI 2 else nI 0) := if_pos ⟨c1, c2⟩
        rw [this]
        exact CRw_uT R2 p _
      · rw [if_neg c2]
        have : sRe Λ (sBs Λ r (lB Λ)).2.1 (sBs Λ r (lB Λ)).1 (p + 1) = sRe Λ (sBs Λ r (lB Λ)).2.1 (sBs Λ r (lB Λ)).1 p := if_neg (fun k => c2 k.2)
        exact ⟨f, rfl, by rw [this]; exact R2, g1, trivial⟩
    · rw [if_neg c1]
      have : sRe Λ (sBs Λ r (lB Λ)).2.1 (sBs Λ r (lB Λ)).1 (p + 1) = sRe Λ (sBs Λ r (lB Λ)).2.1 (sBs Λ r (lB Λ)).1 p := if_neg (fun k => c1 k.1)
      exact ⟨f, rfl, by rw [this]; exact R2, g1, trivial⟩)
  have hP : f2 34 9 = nI (lP Λ) := by rw [i2 34 (by omega)]; exact L1.2.1
  refine ⟨en_u1 f2 67 1 (f2 67 1 + nI 1), ?_, ?_, ?_, ?_, ?_⟩
  · refine Eq.trans e1 ?_
    show x_st_passDay_p67_14 (f1, g) st (nI (lB Λ)) = _
    rw [e_st_passDay_p67_14, if_pos (q_le L1.1)]
    refine Eq.trans e2 ?_
    show x_st_passDay_p67_41 (f2, g) st (nI (lP Λ)) = _
    rw [e_st_passDay_p67_41, if_pos (q_le hP)]
    rfl
  · rw [R2.1]
    exact CRw_uD R2 _
  · exact CFr_trans F1 (CFr_trans (f' := f2) ⟨fun p h _ _ => i2 p (by omega), fun i _ _ _ => by rw [i2 67 (by omega)]⟩ (CFr_uS _ _ (by omega)))
  · rw [u1_ne _ _ (by omega), i2 67 (by omega)]; exact h2
  · rw [u1_ne _ _ (by omega), i2 67 (by omega)]; exact h3
theorem c_addWeight_73 {Λ : mu_Ld} {r : mu_Rw} (f : Nat → Nat → Int32) (g : Nat → Nat → Int64) (lo : lOK Λ) (hR : CRw Λ 73 r f) {x : Nat} (hx : x < lB Λ) (v : Int32) : x_st_addWeight_p73_0 (f, g) (nI x) v = rV (en_u1 f 74 x (sIn (rW r x + v) (nI 1) (nI 99)), g) := by
  have l1 := lo.1
  have hW : f 74 x = rW r x := hR.2.1 x hx
  rw [e_st_addWeight_p73_0]
  simp (disch := omega) only [q_0, q_1, q_2, q_3, q_4, q_5, q_6, q_7, q_8, q_9, q_10, q_11, q_12, q_13, q_14, q_15, q_16, q_17, q_18, q_19, q_20, q_21, q_22, q_23, q_24, q_29, q_30, q_31, q_36, q_42, q_50, q_40, q_48, q_96, q_97, q_99, q_100, q_255, q_256, q_700, q_999, q_1160, q_1400, q_99999, q_m1, q_in, q_clamp, if_true, hW, c_within, c_I]
  rfl
theorem c_tireOut_73 {Λ : mu_Ld} {r : mu_Rw} (f : Nat → Nat → Int32) (g : Nat → Nat → Int64) (lo : lOK Λ) (hR : CRw Λ 73 r f) {p : Nat} (hp : p < lP Λ) : ∃ f', x_st_tireOut_p73_0 (f, g) (nI p) = rV (f', g) ∧ CRw Λ 73 (sTi r p) f' ∧ ∀ q, q ≠ 77 → f' q = f q := by
  have l2 := lo.2.1
  have hT : f 77 p = rT r p := hR.2.2.2.2 p hp
  rw [e_st_tireOut_p73_0]
  simp (disch := omega) only [q_0, q_1, q_2, q_3, q_4, q_5, q_6, q_7, q_8, q_9, q_10, q_11, q_12, q_13, q_14, q_15, q_16, q_17, q_18, q_19, q_20, q_21, q_22, q_23, q_24, q_29, q_30, q_31, q_36, q_42, q_50, q_40, q_48, q_96, q_97, q_99, q_100, q_255, q_256, q_700, q_999, q_1160, q_1400, q_99999, q_m1, q_in, q_clamp, if_true, hT]
  unfold sTi
  by_cases c : nI 9 ≤ rT r p
  · rw [if_pos c, if_pos c]
    exact ⟨f, rfl, CRw_same hR p, fun _ _ => rfl⟩
  · rw [if_neg c, if_neg c]
    exact ⟨_, rfl, CRw_uT hR p _, fun q hq => u1_p _ _ _ hq⟩
theorem c_letFall_73 {Λ : mu_Ld} {r : mu_Rw} (f : Nat → Nat → Int32) (g : Nat → Nat → Int64) (lo : lOK Λ) (hL : CLd Λ f) (hR : CRw Λ 73 r f) {x : Nat} (hx : x < lB Λ) : ∃ f', x_st_letFall_p73_0 (f, g) (nI x) = rI (nI (sH Λ r (nI x))) (f', g) ∧ CRw Λ 73 (sLet Λ r x) f' ∧ CFr 73 f f' ∧ f' 73 6 = f 73 6 ||| nI (2 ^ x) ∧ f' 73 7 = f 73 7 := by
  have l1 := lo.1
  have l2 := lo.2.1
  have h8 := sH8 r lo (nI x)
  have hW : f 74 x = rW r x := hR.2.1 x hx
  rw [e_st_letFall_p73_0, c_bitsUnder_73 (r := r) (f, g) lo hL hR, c_I]
  simp (disch := omega) only [q_0, q_1, q_2, q_3, q_4, q_5, q_6, q_7, q_8, q_9, q_10, q_11, q_12, q_13, q_14, q_15, q_16, q_17, q_18, q_19, q_20, q_21, q_22, q_23, q_24, q_29, q_30, q_31, q_36, q_42, q_50, q_40, q_48, q_96, q_97, q_99, q_100, q_255, q_256, q_700, q_999, q_1160, q_1400, q_99999, q_m1, q_in, q_clamp, if_true, hW]
  obtain ⟨f', e, i1, i2, i3⟩ := mu_inv (fun (f : Nat → Nat → Int32) i => x_st_letFall_p73_26 (f, g) (nI x) (nI (sH Λ r (nI x))) i) (fun p f' => CRw Λ 73 (mu_up (fun p q => if (sH Λ r (nI x)).testBit p then wU q p nN else q) (wW r x (if nI 1 < rW r x / nI 2 then rW r x / nI 2 else nI 1)) p) f' ∧ (∀ q, q ≠ 74 → q ≠ 76 → f' q = f q) ∧ True) (lP Λ) (en_u1 f 74 x (if nI 1 < rW r x / nI 2 then rW r x / nI 2 else nI 1)) ⟨CRw_uW hR x _, fun q hq _ => u1_p _ _ _ hq, trivial⟩ (by
    intro p f1 hp ⟨i1, i3, _⟩
    have hP : f1 34 9 = nI (lP Λ) := by rw [i3 34 (by omega) (by omega)]; exact hL.2.1
    show ∃ f', x_st_letFall_p73_26 (f1, g) (nI x) (nI (sH Λ r (nI x))) (nI p) = x_st_letFall_p73_26 (f', g) (nI x) (nI (sH Λ r (nI x))) (nI (p + 1)) ∧ _
    rw [e_st_letFall_p73_26, c_hasBit _ (by omega) (by omega), c_I]
    simp (disch := omega) only [q_0, q_1, q_2, q_3, q_4, q_5, q_6, q_7, q_8, q_9, q_10, q_11, q_12, q_13, q_14, q_15, q_16, q_17, q_18, q_19, q_20, q_21, q_22, q_23, q_24, q_29, q_30, q_31, q_36, q_42, q_50, q_40, q_48, q_96, q_97, q_99, q_100, q_255, q_256, q_700, q_999, q_1160, q_1400, q_99999, q_m1, hP, q_leI, nI_add, tb_0, q_in, q_clamp, if_true]
    rw [if_neg (by omega)]
    simp only [mu_upS]
    cases hb2 : (sH Λ r (nI x)).testBit p
    · simp (decide := true) only [if_false, if_true]
      exact ⟨f1, rfl, i1, i3, trivial⟩
    · simp (decide := true) only [if_true, if_false]
      exact ⟨_, rfl, CRw_uU i1 p _, fun q h1 h3 => by rw [u1_p _ _ _ h3]; exact i3 q h1 h3, trivial⟩)
  have hP : f' 34 9 = nI (lP Λ) := by rw [i2 34 (by omega) (by omega)]; exact hL.2.1
  have hF : CFr 73 f f' := ⟨fun p h _ _ => i2 p (by omega) (by omega), fun i _ _ _ => by rw [i2 73 (by omega) (by omega)]⟩
  refine ⟨en_u1 f' 73 6 (f' 73 6 ||| nI (2 ^ x)), ?_, ?_, CFr_trans hF (CFr_uS _ _ (by omega)), ?_, ?_⟩
  · refine Eq.trans e ?_
    show x_st_letFall_p73_26 (f', g) (nI x) (nI (sH Λ r (nI x))) (nI (lP Λ)) = _
    rw [e_st_letFall_p73_26, if_pos (q_le hP)]
    simp (disch := omega) only [q_0, q_1, q_2, q_3, q_4, q_5, q_6, q_7, q_8, q_9, q_10, q_11, q_12, q_13, q_14, q_15, q_16, q_17, q_18, q_19, q_20, q_21, q_22, q_23, q_24, q_29, q_30, q_31, q_36, q_42, q_50, q_40, q_48, q_96, q_97, q_99, q_100, q_255, q_256, q_700, q_999, q_1160, q_1400, q_99999, q_m1, q_shl]
    rfl
  · exact CRw_of i1 (u1_ne _ _ (by omega)) (fun p h1 h2 => u1_p _ _ _ (by omega))
  · rw [u1_at, i2 73 (by omega) (by omega)]
  · rw [u1_ne _ _ (by omega), i2 73 (by omega) (by omega)]
theorem c_carryOn_73 {Λ : mu_Ld} {r : mu_Rw} (f : Nat → Nat → Int32) (g : Nat → Nat → Int64) (lo : lOK Λ) (hL : CLd Λ f) (hR : CRw Λ 73 r f) (ro : rOK Λ r) {x : Nat} (hx : x < lB Λ) : ∃ f', x_st_carryOn_p73_0 (f, g) (nI x) = rV (f', g) ∧ CRw Λ 73 (sCa Λ r x) f' ∧ CFr 73 f f' ∧ f' 73 6 = f 73 6 ∧ f' 73 7 = f 73 7 + nI 1 := by
  have l1 := lo.1
  have l2 := lo.2.1
  obtain ⟨s, hs, es⟩ := ro.2.1 x hx
  have hS : f 75 x = nI s := by rw [← es]; exact hR.2.2.1 x hx
  rw [e_st_carryOn_p73_0]
  simp (disch := omega) only [q_0, q_1, q_2, q_3, q_4, q_5, q_6, q_7, q_8, q_9, q_10, q_11, q_12, q_13, q_14, q_15, q_16, q_17, q_18, q_19, q_20, q_21, q_22, q_23, q_24, q_29, q_30, q_31, q_36, q_42, q_50, q_40, q_48, q_96, q_97, q_99, q_100, q_255, q_256, q_700, q_999, q_1160, q_1400, q_99999, q_m1, q_in, q_clamp, if_true, hS, c_nextPlace (f, g) lo hL hx hs, c_I]
  have hR1 : CRw Λ 73 (wS r x (sNx Λ x (rS r x))) (en_u1 f 75 x (sNx Λ x (nI s))) := by rw [es]; exact CRw_uS hR x _
  obtain ⟨f', e, i1, i2, i3⟩ := mu_inv (fun (f : Nat → Nat → Int32) i => x_st_carryOn_p73_22 (f, g) (nI x) i) (fun p f' => CRw Λ 73 (mu_up (fun p q => if (sH Λ r (nI x)).testBit p then sTi q p else q) (wS r x (sNx Λ x (rS r x))) p) f' ∧ (∀ q, q ≠ 75 → q ≠ 77 → f' q = f q) ∧ True) (lP Λ) (en_u1 f 75 x (sNx Λ x (nI s))) ⟨hR1, fun q hq _ => u1_p _ _ _ hq, trivial⟩ (by
    intro p f1 hp ⟨i1, i3, _⟩
    have hP : f1 34 9 = nI (lP Λ) := by rw [i3 34 (by omega) (by omega)]; exact hL.2.1
    have hU : f1 76 p = rU r p := by rw [i3 76 (by omega) (by omega)]; exact hR.2.2.2.1 p hp
    obtain ⟨f2, e2, R2, g2⟩ := c_tireOut_73 f1 g lo i1 hp
    show ∃ f', x_st_carryOn_p73_22 (f1, g) (nI x) (nI p) = x_st_carryOn_p73_22 (f', g) (nI x) (nI (p + 1)) ∧ _
    rw [e_st_carryOn_p73_22, e2, c_V]
    simp (disch := omega) only [q_0, q_1, q_2, q_3, q_4, q_5, q_6, q_7, q_8, q_9, q_10, q_11, q_12, q_13, q_14, q_15, q_16, q_17, q_18, q_19, q_20, q_21, q_22, q_23, q_24, q_29, q_30, q_31, q_36, q_42, q_50, q_40, q_48, q_96, q_97, q_99, q_100, q_255, q_256, q_700, q_999, q_1160, q_1400, q_99999, q_m1, hP, q_leI, nI_add, q_in, q_clamp, if_true, hU]
    rw [if_neg (by omega)]
    simp only [mu_upS, sH_tb r (nI x) hp]
    by_cases c : rU r p = nI x
    · rw [if_pos c]
      simp only [c, decide_true, if_true]
      exact ⟨f2, rfl, R2, fun q h1 h3 => by rw [g2 q h3]; exact i3 q h1 h3, trivial⟩
    · rw [if_neg c]
      simp only [c, decide_false, if_false, Bool.false_eq_true]
      exact ⟨f1, rfl, i1, i3, trivial⟩)
  have hP : f' 34 9 = nI (lP Λ) := by rw [i2 34 (by omega) (by omega)]; exact hL.2.1
  have hF : CFr 73 f f' := ⟨fun p h _ _ => i2 p (by omega) (by omega), fun i _ _ _ => by rw [i2 73 (by omega) (by omega)]⟩
  refine ⟨en_u1 f' 73 7 (f' 73 7 + nI 1), ?_, ?_, CFr_trans hF (CFr_uS _ _ (by omega)), ?_, ?_⟩
  · refine Eq.trans e ?_
    show x_st_carryOn_p73_22 (f', g) (nI x) (nI (lP Λ)) = _
    rw [e_st_carryOn_p73_22, if_pos (q_le hP)]
    rfl
  · exact CRw_of i1 (u1_ne _ _ (by omega)) (fun p h1 h2 => u1_p _ _ _ (by omega))
  · rw [u1_ne _ _ (by omega), i2 73 (by omega) (by omega)]
  · rw [u1_at, i2 73 (by omega) (by omega)]
theorem c_passBox_73 {Λ : mu_Ld} {r : mu_Rw} (f : Nat → Nat → Int32) (g : Nat → Nat → Int64) (lo : lOK Λ) (hL : CLd Λ f) (hR : CRw Λ 73 r f) (ro : rOK Λ r) {x : Nat} (hx : x < lB Λ) : ∃ f', x_st_passBox_p73_0 (f, g) (nI x) = rI (nI (sBx Λ r x).2.1) (f', g) ∧ CRw Λ 73 (sBx Λ r x).1 f' ∧ CFr 73 f f' ∧ f' 73 6 = f 73 6 ||| nI (sBx Λ r x).2.2.1 ∧ f' 73 7 = f 73 7 + nI (sBx Λ r x).2.2.2 := by
  have l1 := lo.1
  have l2 := lo.2.1
  have ro2 : rOK Λ (sW1 Λ r x) := rOK_sW1 ro x
  obtain ⟨f1, e1, g1, v1⟩ := c_survey_73 f g lo hL hR ro hx
  have F1 : CFr 73 f f1 := CFr_p (by omega) g1 (by omega)
  have L1 := CFr_L (by omega) F1 hL
  have R1 : CRw Λ 73 r f1 := CRw_of hR (by rw [g1 73 (by omega)]) (fun p h1 h2 => g1 p (by omega))
  -- the talk
  have A : ∃ f2, x_st_passBox_p73_0 (f, g) (nI x) = en_cV (x_st_addWeight_p73_0 (f2, g) (nI x) (sMo Λ r x)) (fun σ1 => en_cV (x_st_survey_p73_0 σ1 (nI x)) (fun σ2 => en_cI (x_st_valueOf_p73_0 σ2 (-5)) (fun r4 σ3 => if r4 = 1 then x_st_passBox_p73_82 σ3 (nI x) 1 else x_st_passBox_p73_82 σ3 (nI x) 0) (fun e σ => some (.inr e, σ))) (fun e σ => some (.inr e, σ))) (fun e σ => some (.inr e, σ)) ∧ ∀ p, p ≠ 46 → f2 p = f1 p := by
    rw [e_st_passBox_p73_0, e1, c_V, c_val_73_4, c_I, v1 4 (by omega)]
    have j : (if sV Λ r x 4 = 1 then x_st_passBox_p73_20 (f1, g) (nI x) 1 else x_st_passBox_p73_20 (f1, g) (nI x) (-1)) = x_st_passBox_p73_20 (f1, g) (nI x) (if sB Λ r x then nI 1 else nN) := by
      show (if tb (sB Λ r x) = 1 then _ else _) = _
      cases sB Λ r x
      · rw [if_neg (by decide), if_neg (by decide)]; rfl
      · rw [if_pos (by decide), if_pos rfl]; rfl
    rw [j, e_st_passBox_p73_20]
    unfold sMo
    have hK := L1.2.2.2.2.2.2.1
    cases hk : lK Λ with
    | none =>
      rw [hk] at hK
      have hK' : f1 44 0 = 0 := hK
      exact ⟨f1, by rw [if_pos hK'], fun _ _ => rfl⟩
    | some l =>
      rw [hk] at hK
      have hd : sDp l 0 := by have := lo.2.2.2.2.1; rw [hk] at this; exact this
      have hne : ¬ f1 44 0 = 0 := by rw [hK.1]; decide
      obtain ⟨f2, e2, g2⟩ := c_work_44_73 (sV Λ r x) (f1, g) l hK hd v1
      refine ⟨f2, ?_, g2⟩
      rw [if_neg hne, e2, c_I, c_within, c_I]
      rfl
  obtain ⟨f2, eA, gA⟩ := A
  have F2 : CFr 73 f1 f2 := CFr_p (by omega) gA (by omega)
  have L2 := CFr_L (by omega) F2 L1
  have R2 : CRw Λ 73 r f2 := CRw_of R1 (by rw [gA 73 (by omega)]) (fun p h1 h2 => gA p (by omega))
  have R3 : CRw Λ 73 (sW1 Λ r x) (en_u1 f2 74 x (sIn (rW r x + sMo Λ r x) (nI 1) (nI 99))) := CRw_uW R2 x _
  have F3 : CFr 73 f2 (en_u1 f2 74 x (sIn (rW r x + sMo Λ r x) (nI 1) (nI 99))) := CFr_u _ _ (by omega) (by omega)
  have z3 : ∀ i, (en_u1 f2 74 x (sIn (rW r x + sMo Λ r x) (nI 1) (nI 99))) 73 i = f 73 i := by
    intro i
    rw [u1_ne _ _ (by omega), gA 73 (by omega), g1 73 (by omega)]
  rw [eA, c_addWeight_73 f2 g lo R2 hx, c_V]
  generalize en_u1 f2 74 x (sIn (rW r x + sMo Λ r x) (nI 1) (nI 99)) = f3 at R3 F3 z3 ⊢
  have L3 := CFr_L (by omega) F3 L2
  obtain ⟨f4, e4, g4, v4⟩ := c_survey_73 f3 g lo L3 R3 ro2 hx
  have F4 : CFr 73 f3 f4 := CFr_p (by omega) g4 (by omega)
  have L4 := CFr_L (by omega) F4 L3
  have R4 : CRw Λ 73 (sW1 Λ r x) f4 := CRw_of R3 (by rw [g4 73 (by omega)]) (fun p h1 h2 => g4 p (by omega))
  have z4 : ∀ i, f4 73 i = f 73 i := fun i => by rw [g4 73 (by omega)]; exact z3 i
  have F04 : CFr 73 f f4 := CFr_trans F1 (CFr_trans F2 (CFr_trans F3 F4))
  rw [e4, c_V, c_val_73_4, c_I, v4 4 (by omega)]
  have j : (if sV Λ (sW1 Λ r x) x 4 = 1 then x_st_passBox_p73_82 (f4, g) (nI x) 1 else x_st_passBox_p73_82 (f4, g) (nI x) 0) = x_st_passBox_p73_102 (f4, g) (nI x) (tb (sB Λ (sW1 Λ r x) x)) (tb (sB Λ (sW1 Λ r x) x && decide (nI 5 < sLn Λ (sH Λ (sW1 Λ r x) (nI x))))) := by
    show (if tb (sB Λ (sW1 Λ r x) x) = 1 then _ else _) = _
    cases sB Λ (sW1 Λ r x) x
    · rw [if_neg (by decide), e_st_passBox_p73_82, if_pos rfl]; rfl
    · rw [if_pos (by decide), e_st_passBox_p73_82, if_neg (by decide), c_val_73_3, c_I, v4 3 (by omega)]
      show (if sLn Λ (sH Λ (sW1 Λ r x) (nI x)) ≤ 5 then _ else _) = _
      by_cases c : nI 5 < sLn Λ (sH Λ (sW1 Λ r x) (nI x))
      · rw [if_neg (by rw [Int32.not_le]; exact c), decide_eq_true c]; rfl
      · rw [if_pos (by rw [Int32.not_lt] at c; exact c), decide_eq_false c]; rfl
  rw [j, e_st_passBox_p73_102]
  -- the falling
  have B : ∃ f5, (if (f4, g).1 47 0 = 0 then if tb (sB Λ (sW1 Λ r x) x && decide (nI 5 < sLn Λ (sH Λ (sW1 Λ r x) (nI x)))) = 0 then if tb (sB Λ (sW1 Λ r x) x) = 0 then some (.inl (some (.int 0)), (f4, g)) else en_cV (x_st_carryOn_p73_0 (f4, g) (nI x)) (fun σ1 => some (.inl (some (.int 0)), σ1)) (fun e σ => some (.inr e, σ)) else en_cI (x_st_letFall_p73_0 (f4, g) (nI x)) (fun r3 σ2 => some (.inl (some (.int r3)), σ2)) (fun e σ => some (.inr e, σ)) else en_cI (x_ru_workOut_p47_78_0 (f4, g)) (fun r5 σ4 => if r5 ≤ 0 then if tb (sB Λ (sW1 Λ r x) x) = 0 then some (.inl (some (.int 0)), σ4) else en_cV (x_st_carryOn_p73_0 σ4 (nI x)) (fun σ6 => some (.inl (some (.int 0)), σ6)) (fun e σ => some (.inr e, σ)) else en_cI (x_st_letFall_p73_0 σ4 (nI x)) (fun r8 σ7 => some (.inl (some (.int r8)), σ7)) (fun e σ => some (.inr e, σ))) (fun e σ => some (.inr e, σ)) : Option en_O) = (if sFa Λ (sW1 Λ r x) x then en_cI (x_st_letFall_p73_0 (f5, g) (nI x)) (fun r3 σ2 => rI r3 σ2) (fun e σ => some (.inr e, σ)) else if sB Λ (sW1 Λ r x) x then en_cV (x_st_carryOn_p73_0 (f5, g) (nI x)) (fun σ1 => rI (nI 0) σ1) (fun e σ => some (.inr e, σ)) else rI (nI 0) (f5, g)) ∧ ∀ p, p ≠ 49 → f5 p = f4 p := by
    have hF := L4.2.2.2.2.2.2.2
    unfold sFa
    cases hk : lF Λ with
    | none =>
      rw [hk] at hF
      have hF' : f4 47 0 = 0 := hF
      refine ⟨f4, ?_, fun _ _ => rfl⟩
      rw [if_pos hF']
      cases sB Λ (sW1 Λ r x) x
      · rfl
      · cases decide (nI 5 < sLn Λ (sH Λ (sW1 Λ r x) (nI x))) <;> rfl
    | some l =>
      rw [hk] at hF
      have hd : sDp l 0 := by have := lo.2.2.2.2.2; rw [hk] at this; exact this
      have hne : ¬ f4 47 0 = 0 := by rw [hF.1]; decide
      obtain ⟨f5, e5, g5⟩ := c_work_47_73 (sV Λ (sW1 Λ r x) x) (f4, g) l hF hd v4
      refine ⟨f5, ?_, g5⟩
      rw [if_neg hne, e5, c_I]
      by_cases c : nI 0 < sE l (sV Λ (sW1 Λ r x) x)
      · rw [if_neg (by rw [Int32.not_le]; exact c)]
        simp only [c, decide_true, if_true]
        rfl
      · rw [if_pos (by rw [Int32.not_lt] at c; exact c)]
        simp only [c, decide_false, if_false, Bool.false_eq_true]
        cases sB Λ (sW1 Λ r x) x <;> rfl
  obtain ⟨f5, eB, gB⟩ := B
  have F5 : CFr 73 f4 f5 := CFr_p (by omega) gB (by omega)
  have L5 := CFr_L (by omega) F5 L4
  have R5 : CRw Λ 73 (sW1 Λ r x) f5 := CRw_of R4 (by rw [gB 73 (by omega)]) (fun p h1 h2 => gB p (by omega))
  have z5 : ∀ i, f5 73 i = f 73 i := fun i => by rw [gB 73 (by omega)]; exact z4 i
  have F05 : CFr 73 f f5 := CFr_trans F04 F5
  rw [eB]
  unfold sBx
  cases hfa : sFa Λ (sW1 Λ r x) x
  · simp only [Bool.false_eq_true, if_false]
    cases hbo : sB Λ (sW1 Λ r x) x
    · simp only [Bool.false_eq_true, if_false]
      refine ⟨f5, rfl, R5, F05, ?_, ?_⟩
      · rw [z5]; exact (Int32.or_zero).symm
      · rw [z5]; exact (Int32.add_zero _).symm
    · simp only [if_true]
      obtain ⟨f6, e6, R6, F6, a6, a7⟩ := c_carryOn_73 f5 g lo L5 R5 ro2 hx
      rw [e6, c_V]
      refine ⟨f6, rfl, R6, CFr_trans F05 F6, ?_, ?_⟩
      · rw [a6, z5]; exact (Int32.or_zero).symm
      · rw [a7, z5]
  · simp only [if_true]
    obtain ⟨f6, e6, R6, F6, a6, a7⟩ := c_letFall_73 f5 g lo L5 R5 hx
    rw [e6, c_I]
    refine ⟨f6, rfl, R6, CFr_trans F05 F6, ?_, ?_⟩
    · rw [a6, z5]
    · rw [a7, z5]; exact (Int32.add_zero _).symm
theorem c_passDay_73 {Λ : mu_Ld} {r : mu_Rw} (f : Nat → Nat → Int32) (g : Nat → Nat → Int64) (lo : lOK Λ) (hL : CLd Λ f) (hR : CRw Λ 73 r f) (ro : rOK Λ r) : ∃ f', x_st_passDay_p73_0 (f, g) = rV (f', g) ∧ CRw Λ 73 (sDy Λ r) f' ∧ CFr 73 f f' ∧ f' 73 6 = nI (sFe Λ r) ∧ f' 73 7 = nI (sCr Λ r) := by
  have l1 := lo.1
  have l2 := lo.2.1
  rw [e_st_passDay_p73_0]
  have F0 : CFr 73 f (en_u1 (en_u1 f 73 6 0) 73 7 0) := CFr_trans (CFr_uS _ _ (by omega)) (CFr_uS _ _ (by omega))
  obtain ⟨a1, e1, R1, F1, h1, h2, h3⟩ := mu_inv (fun (a : Int32 × (Nat → Nat → Int32)) i => x_st_passDay_p73_14 (a.2, g) a.1 i) (fun n a => CRw Λ 73 (sBs Λ r n).1 a.2 ∧ CFr 73 f a.2 ∧ a.1 = nI (sBs Λ r n).2.1 ∧ a.2 73 6 = nI (sBs Λ r n).2.2.1 ∧ a.2 73 7 = nI (sBs Λ r n).2.2.2) (lB Λ) (nI 0, en_u1 (en_u1 f 73 6 0) 73 7 0) ⟨CRw_of hR (by simp (disch := omega) only [u1_ne]) (fun p h1 h2 => by simp (disch := omega) only [u1_p]), F0, rfl, by simp (disch := omega) only [u1_ne, u1_at]; rfl, by simp (disch := omega) only [u1_ne, u1_at]; rfl⟩ (by
    intro x a hx ⟨R1, F1, h1, h2, h3⟩
    have L1 := CFr_L (by omega) F1 hL
    obtain ⟨f2, e2, R2, F2, b1, b2⟩ := c_passBox_73 a.2 g lo L1 R1 (rOK_sBs lo ro (by omega)) hx
    refine ⟨(a.1 ||| nI (sBx Λ (sBs Λ r x).1 x).2.1, f2), ?_, R2, CFr_trans F1 F2, ?_, ?_, ?_⟩
    · show x_st_passDay_p73_14 (a.2, g) a.1 (nI x) = x_st_passDay_p73_14 (f2, g) (a.1 ||| nI (sBx Λ (sBs Λ r x).1 x).2.1) (nI (x + 1))
      rw [e_st_passDay_p73_14, if_neg (by show ¬ a.2 34 5 ≤ nI x; rw [L1.1]; exact nI_ge hx (by omega)), e2, c_I, nI_1]
    · rw [h1, fa_or]; rfl
    · show f2 73 6 = _; rw [b1, h2, fa_or]; rfl
    · show f2 73 7 = _; rw [b2, h3, nI_add]; rfl)
  obtain ⟨st, f1⟩ := a1
  dsimp only at R1 F1 h1 h2 h3 e1
  have L1 := CFr_L (by omega) F1 hL
  have hst := sBs_st lo r (lB Λ)
  obtain ⟨f2, e2, R2, i2, i3⟩ := mu_inv (fun (f : Nat → Nat → Int32) i => x_st_passDay_p73_41 (f, g) st i) (fun n f => CRw Λ 73 (sRe Λ (sBs Λ r (lB Λ)).2.1 (sBs Λ r (lB Λ)).1 n) f ∧ (∀ p, p ≠ 77 → f p = f1 p) ∧ True) (lP Λ) f1 ⟨R1, fun _ _ => rfl, trivial⟩ (by
    intro p f hp ⟨R2, g1, _⟩
    have hP : f 34 9 = nI (lP Λ) := by rw [g1 34 (by omega)]; exact L1.2.1
    have hU : f 76 p = rU (sRe Λ (sBs Λ r (lB Λ)).2.1 (sBs Λ r (lB Λ)).1 p) p := R2.2.2.2.1 p hp
    have hT : f 77 p = rT (sRe Λ (sBs Λ r (lB Λ)).2.1 (sBs Λ r (lB Λ)).1 p) p := R2.2.2.2.2 p hp
    show ∃ f', x_st_passDay_p73_41 (f, g) st (nI p) = x_st_passDay_p73_41 (f', g) st (nI (p + 1)) ∧ _
    rw [e_st_passDay_p73_41, h1, c_hasBit _ (by omega) (by omega), c_I]
    simp (disch := omega) only [q_0, q_1, q_2, q_3, q_4, q_5, q_6, q_7, q_8, q_9, q_10, q_11, q_12, q_13, q_14, q_15, q_16, q_17, q_18, q_19, q_20, q_21, q_22, q_23, q_24, q_29, q_30, q_31, q_36, q_42, q_50, q_40, q_48, q_96, q_97, q_99, q_100, q_255, q_256, q_700, q_999, q_1160, q_1400, q_99999, q_m1, hP, q_leI, nI_add, tb_0, q_in, q_clamp, if_true, hU, hT]
    rw [if_neg (by omega)]
    by_cases c1 : rU (sRe Λ (sBs Λ r (lB Λ)).2.1 (sBs Λ r (lB Λ)).1 p) p = nN
    · rw [if_pos c1]
      by_cases c2 : (sBs Λ r (lB Λ)).2.1.testBit p = false
      · rw [if_pos c2]
        refine ⟨_, rfl, ?_, fun q hq => by rw [u1_p _ _ _ hq]; exact g1 q hq, trivial⟩
        have : sRe Λ (sBs Λ r (lB Λ)).2.1 (sBs Λ r (lB Λ)).1 (p + 1) = wT (sRe Λ (sBs Λ r (lB Λ)).2.1 (sBs Λ r (lB Λ)).1 p) p (if nI 0 < rT (sRe Λ (sBs Λ r (lB Λ)).2.1 (sBs Λ r (lB Λ)).1 p) p - nI 2 then rT (sRe Λ (sBs Λ r (lB Λ)).2.1 (sBs Λ r (lB Λ)).1 p) p - nI 2 else nI 0) := if_pos ⟨c1, c2⟩
        rw [this]
        exact CRw_uT R2 p _
      · rw [if_neg c2]
        have : sRe Λ (sBs Λ r (lB Λ)).2.1 (sBs Λ r (lB Λ)).1 (p + 1) = sRe Λ (sBs Λ r (lB Λ)).2.1 (sBs Λ r (lB Λ)).1 p := if_neg (fun k => c2 k.2)
        exact ⟨f, rfl, by rw [this]; exact R2, g1, trivial⟩
    · rw [if_neg c1]
      have : sRe Λ (sBs Λ r (lB Λ)).2.1 (sBs Λ r (lB Λ)).1 (p + 1) = sRe Λ (sBs Λ r (lB Λ)).2.1 (sBs Λ r (lB Λ)).1 p := if_neg (fun k => c1 k.1)
      exact ⟨f, rfl, by rw [this]; exact R2, g1, trivial⟩)
  have hP : f2 34 9 = nI (lP Λ) := by rw [i2 34 (by omega)]; exact L1.2.1
  refine ⟨en_u1 f2 73 1 (f2 73 1 + nI 1), ?_, ?_, ?_, ?_, ?_⟩
  · refine Eq.trans e1 ?_
    show x_st_passDay_p73_14 (f1, g) st (nI (lB Λ)) = _
    rw [e_st_passDay_p73_14, if_pos (q_le L1.1)]
    refine Eq.trans e2 ?_
    show x_st_passDay_p73_41 (f2, g) st (nI (lP Λ)) = _
    rw [e_st_passDay_p73_41, if_pos (q_le hP)]
    rfl
  · rw [R2.1]
    exact CRw_uD R2 _
  · exact CFr_trans F1 (CFr_trans (f' := f2) ⟨fun p h _ _ => i2 p (by omega), fun i _ _ _ => by rw [i2 73 (by omega)]⟩ (CFr_uS _ _ (by omega)))
  · rw [u1_ne _ _ (by omega), i2 73 (by omega)]; exact h2
  · rw [u1_ne _ _ (by omega), i2 73 (by omega)]; exact h3

