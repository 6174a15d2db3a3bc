/-! rain -/
def sWt (Λ : mu_Ld) (r : mu_Rw) : mu_Rw := sTs Λ (anN (2 ^ lP Λ - 1) (sH Λ r nN)) r
theorem wt_tb {Λ : mu_Ld} (r : mu_Rw) {p : Nat} (hp : p < lP Λ) : (anN (2 ^ lP Λ - 1) (sH Λ r nN)).testBit p = !decide (rU r p = nN) := by
  rw [anN_tb, Nat.testBit_two_pow_sub_one, sH_tb r nN hp, decide_eq_true hp, Bool.true_and]
theorem wt_lt (Λ : mu_Ld) (r : mu_Rw) (lo : lOK Λ) : anN (2 ^ lP Λ - 1) (sH Λ r nN) < 256 := by
  have h : 2 ^ lP Λ - 1 < 2 ^ 8 := by
    have := p256 lo.2.1
    have h0 : 0 < 2 ^ lP Λ := Nat.pow_pos (by omega)
    omega
  exact anN_lt h
theorem c_getWet {Λ : mu_Ld} {r : mu_Rw} (f : Nat → Nat → Int32) (g : Nat → Nat → Int64) (lo : lOK Λ) (hL : CLd Λ f) (hR : CRw Λ 73 r f) : ∃ f', x_st_getWet_p73_0 (f, g) = rV (f', g) ∧ CRw Λ 73 (sWt Λ r) f' ∧ CFr 73 f f' := by
  have l2 := lo.2.1
  rw [e_st_getWet_p73_0]
  obtain ⟨f', e, i1, i2⟩ := mu_inv (fun (f : Nat → Nat → Int32) i => x_st_getWet_p73_2 (f, g) i) (fun p f' => CRw Λ 73 (mu_up (fun p q => if (anN (2 ^ lP Λ - 1) (sH Λ r nN)).testBit p then sTi q p else q) r p) f' ∧ (∀ q, q ≠ 77 → f' q = f q)) (lP Λ) f ⟨hR, fun _ _ => rfl⟩ (by
    intro p f1 hp ⟨i1, i3⟩
    have hP : f1 34 9 = nI (lP Λ) := by rw [i3 34 (by omega)]; exact hL.2.1
    have hU : f1 76 p = rU r p := by rw [i3 76 (by omega)]; exact hR.2.2.2.1 p hp
    obtain ⟨f2, e2, R2, g2⟩ := c_tireOut_73 f1 g lo i1 hp
    show ∃ f', x_st_getWet_p73_2 (f1, g) (nI p) = x_st_getWet_p73_2 (f', g) (nI (p + 1)) ∧ _
    rw [e_st_getWet_p73_2, e2, c_V]
    simp (disch := omega) only [q_0, q_1, q_2, q_3, q_4, q_5, q_6, q_7, q_8, q_9, q_10, q_11, q_12, q_13, q_14, q_15, q_16, q_17, q_18, q_19, q_20, q_21, q_22, q_23, q_24, q_29, q_30, q_31, q_36, q_42, q_50, q_40, q_48, q_96, q_97, q_99, q_100, q_255, q_256, q_700, q_999, q_1160, q_1400, q_99999, q_m1, hP, q_leI, nI_add, q_in, q_clamp, if_true, hU, q_m1]
    rw [if_neg (by omega)]
    simp only [mu_upS, wt_tb r hp]
    by_cases c : rU r p = nN
    · rw [if_pos c]
      simp only [c, decide_true, Bool.not_true, if_false, Bool.false_eq_true]
      exact ⟨f1, rfl, i1, i3⟩
    · rw [if_neg c]
      simp only [c, decide_false, Bool.not_false, if_true]
      exact ⟨f2, rfl, R2, fun q h => by rw [g2 q h]; exact i3 q h⟩)
  have hP : f' 34 9 = nI (lP Λ) := by rw [i2 34 (by omega)]; exact hL.2.1
  refine ⟨f', ?_, i1, CFr_p (by omega) i2 (by omega)⟩
  refine Eq.trans e ?_
  show x_st_getWet_p73_2 (f', g) (nI (lP Λ)) = _
  rw [e_st_getWet_p73_2, if_pos (q_le hP)]
  rfl
theorem rOK_sWt {Λ : mu_Ld} {r : mu_Rw} (h : rOK Λ r) : rOK Λ (sWt Λ r) := rOK_sTs h _
def rnR (Λ : mu_Ld) (r : mu_Rw) (w n : Nat) : mu_Rw := mu_up (fun k q => sDy Λ (if w.testBit k then sWt Λ q else q)) r n
theorem rOK_rnR {Λ : mu_Ld} {r : mu_Rw} (lo : lOK Λ) (h : rOK Λ r) (w n : Nat) : rOK Λ (rnR Λ r w n) := mu_up_inv (fun _ q => rOK Λ q) r h n (fun k q _ hq => by
  show rOK Λ (sDy Λ (if w.testBit k then sWt Λ q else q))
  apply rOK_sDy lo
  split
  · exact rOK_sWt hq
  · exact hq)
def rnC (t : Int32) (w n : Nat) : Int32 := mu_up (fun k a => a * (if w.testBit k then t else nI 10 - t)) (nI 1) n
def rnV (Λ : mu_Ld) (r : mu_Rw) (x n : Nat) (t : Int32) (w : Nat) : Int32 := if sB Λ (rnR Λ r w n) x then rnC t w n else nI 0
theorem m_wet {Λ : mu_Ld} {r : mu_Rw} (f : Nat → Nat → Int32) (g : Nat → Nat → Int64) (lo : lOK Λ) (hL : MLd Λ f) (hR : MRw Λ 29 r f) (ro : rOK Λ r) (k : en_S → Option en_O) : ∃ f', en_cI (x_m_handsAt_0 (f, g) 29 (-1)) (fun r8 σ7 => en_cV (x_m_tires_0 σ7 29 ((((1 : Int32) <<< ((f 0 4) &&& 31)) - 1) &&& (r8 ^^^ (-1)))) k (fun e σ => some (.inr e, σ))) (fun e σ => some (.inr e, σ)) = k (f', g) ∧ MRw Λ 29 (sWt Λ r) f' ∧ MFr 29 f f' := by
  have l2 := lo.2.1
  have hlt := wt_lt Λ r lo
  have h0 : 0 < 2 ^ lP Λ := Nat.pow_pos (by omega)
  obtain ⟨f', e, R', g1, g2⟩ := m_tires (f, g) lo (b := 29) (by omega) hL hR ro (m := anN (2 ^ lP Λ - 1) (sH Λ r nN)) (by omega)
  refine ⟨f', ?_, R', ⟨fun p _ h _ _ => g1 p h, fun i _ _ _ => by rw [g1 0 (by omega)], g2⟩⟩
  rw [show x_m_handsAt_0 (f, g) 29 (-1) = _ from m_handsAt (b := 29) (f, g) lo (by omega) hL hR nN, c_I]
  rw [hL.2.1, show (1 : Int32) = nI 1 by decide, show (31 : Int32) = nI 31 by decide, q_shl (by omega), pk_sub (by omega), show (-nI 1 : Int32) = nN by decide, q_an, show x_m_tires_0 (f, g) 29 (nI (anN (2 ^ lP Λ - 1) (sH Λ r nN))) = _ from e, c_V]
theorem q_rain {A : mu_A} {f : Nat → Nat → Int32} (ok : AOK A) (hM : MRel A f) (hC : CRel A f) (v1 v2 v3 : Int32) : Qn f (fun σ => x_b_rain_0 σ v1 v2 v3) (fun σ => x_m_rain_0 σ v1 v2 v3) id := by
  have lo := ok.1
  have ro := ok.2.2.2.1
  have l1 := lo.1
  have l2 := lo.2.1
  have cB := hC.1.1
  have L := hC.1
  have R := hC.2.2.1
  rcases ok_bad v1 (n := lB (aL A)) (by omega) with b1 | ⟨x, hx, rfl⟩
  · refine Qn_err ok hM 1 (by omega) ?_ ?_
    · intro g
      show x_b_rain_0 (f, g) v1 v2 v3 = _
      rw [e_b_rain_0, c_checkBoxN f g cB b1, c_Vx]
    · intro f0 f2 g M0 h0 e0
      show x_m_rain_0 (f2, g) v1 v2 v3 = _
      rw [e_m_rain_0]
      dsimp only
      rw [← e0, m_isBoxN f0 g h0 M0.1.1 b1, c_I, if_pos (by decide)]
      rfl
  rcases ok_badR v2 (a := 1) (b := 5) (by omega) (by omega) with b2 | ⟨n, n1, n5, rfl⟩
  · refine Qn_err ok hM 2 (by omega) ?_ ?_
    · intro g
      show x_b_rain_0 (f, g) (nI x) v2 v3 = _
      rw [e_b_rain_0, c_checkBoxY f g cB (by omega) hx, c_V, show x_b_checkRange_0 (f, g) v2 1 5 = _ from c_checkRangeN (f, g) (a := 1) (b := 5) b2, c_Vx]
    · intro f0 f2 g M0 h0 e0
      show x_m_rain_0 (f2, g) (nI x) v2 v3 = _
      rw [e_m_rain_0]
      dsimp only
      rw [← e0, m_isBoxY f0 g h0 M0.1.1 (by omega) hx, c_I, if_neg (by decide), show x_m_within_0 (f0, g) v2 1 5 = _ from m_withinN (f0, g) (a := 1) (b := 5) b2, c_I, if_pos (by decide), show x_m_right_0 (f0, g) 0 2 = _ from m_rightN f0 g h0 (c := 2) (Or.inr rfl), c_I, if_pos (by decide)]
      rfl
  rcases ok_badR v3 (a := 0) (b := 10) (by omega) (by omega) with b3 | ⟨t, _, t10, rfl⟩
  · refine Qn_err ok hM 2 (by omega) ?_ ?_
    · intro g
      show x_b_rain_0 (f, g) (nI x) (nI n) v3 = _
      rw [e_b_rain_0, c_checkBoxY f g cB (by omega) hx, c_V, show x_b_checkRange_0 (f, g) (nI n) 1 5 = _ from c_checkRangeY (f, g) (a := 1) (b := 5) n1 n5 (by omega), c_V, show x_b_checkRange_0 (f, g) v3 0 10 = _ from c_checkRangeN (f, g) (a := 0) (b := 10) b3, c_Vx]
    · intro f0 f2 g M0 h0 e0
      show x_m_rain_0 (f2, g) (nI x) (nI n) v3 = _
      rw [e_m_rain_0]
      dsimp only
      rw [← e0, m_isBoxY f0 g h0 M0.1.1 (by omega) hx, c_I, if_neg (by decide), show x_m_within_0 (f0, g) (nI n) 1 5 = _ from m_withinY (f0, g) (a := 1) (b := 5) n1 n5 (by omega), c_I, if_neg (by decide), show x_m_within_0 (f0, g) v3 0 10 = _ from m_withinN (f0, g) (a := 0) (b := 10) b3, c_I, if_pos (by decide), show x_m_right_0 (f0, g) 0 2 = _ from m_rightN f0 g h0 (c := 2) (Or.inr rfl), c_I, if_pos (by decide)]
      rfl
  have h32 : 2 ^ n ≤ 32 := show 2 ^ n ≤ 2 ^ 5 from Nat.pow_le_pow_right (by omega) n5
  refine Qn_val ok hM rfl (mu_up (fun w a => a + rnV (aL A) (aR A) x n (nI t) w) (nI 0) (2 ^ n)) ?_ ?_
  · intro g
    show ∃ f', x_b_rain_0 (f, g) (nI x) (nI n) (nI t) = rI _ (f', g) ∧ _
    rw [e_b_rain_0, c_checkBoxY f g cB (by omega) hx, c_V, show x_b_checkRange_0 (f, g) (nI n) 1 5 = _ from c_checkRangeY (f, g) (a := 1) (b := 5) n1 n5 (by omega), c_V, show x_b_checkRange_0 (f, g) (nI t) 0 10 = _ from c_checkRangeY (f, g) (a := 0) (b := 10) (by omega) t10 (by omega), c_V]
    obtain ⟨a, e, i1, i2⟩ := mu_inv (fun (a : Int32 × (Nat → Nat → Int32)) i => x_b_rain_24 (a.2, g) (nI x) (nI n) (nI t) a.1 i) (fun w a => a.1 = mu_up (fun w a => a + rnV (aL A) (aR A) x n (nI t) w) (nI 0) w ∧ QC f a.2) (2 ^ n) (nI 0, f) ⟨rfl, QC_refl f⟩ (by
      intro w a hw ⟨i1, i2⟩
      have C1 := CRel_Q ok hC (fun p _ x1 x2 x3 x4 => i2 p x1 x2 x3 x4)
      obtain ⟨f1, e1, R1, g1, g2⟩ := c_copy73 a.2 g lo C1.2.2.1
      have L1 : CLd (aL A) f1 := CLd_of C1.1 (fun p _ _ _ => g1 p (by omega))
      obtain ⟨b, e2, R2, F2, c2⟩ := mu_inv (fun (b : Int32 × (Nat → Nat → Int32)) i => x_b_chanceBorne_17 (b.2, g) (nI x) (nI n) (nI t) (nI w) b.1 i) (fun k b => CRw (aL A) 73 (rnR (aL A) (aR A) w k) b.2 ∧ CFr 73 f1 b.2 ∧ b.1 = rnC (nI t) w k) n (nI 1, f1) ⟨R1, CFr_refl _ _, rfl⟩ (by
        intro k b hk ⟨R2, F2, c2⟩
        have L2 := CFr_L (by omega) F2 L1
        have rk := rOK_rnR lo ro w k
        have eR : rnR (aL A) (aR A) w (k + 1) = sDy (aL A) (if w.testBit k then sWt (aL A) (rnR (aL A) (aR A) w k) else rnR (aL A) (aR A) w k) := rfl
        have eC : rnC (nI t) w (k + 1) = rnC (nI t) w k * (if w.testBit k then nI t else nI 10 - nI t) := rfl
        show ∃ b' : Int32 × (Nat → Nat → Int32), x_b_chanceBorne_17 (b.2, g) (nI x) (nI n) (nI t) (nI w) b.1 (nI k) = x_b_chanceBorne_17 (b'.2, g) (nI x) (nI n) (nI t) (nI w) b'.1 (nI (k + 1)) ∧ _
        rw [e_b_chanceBorne_17, if_neg (nI_ge hk (by omega)), c_hasBit _ (by omega) (by omega), c_I, nI_1, eR, eC, c2]
        cases hb : w.testBit k
        · rw [if_pos (show tb false = 0 from rfl), if_pos (show tb false = 0 from rfl)]
          simp only [Bool.false_eq_true, if_false]
          obtain ⟨f3, e3, R3, F3, _, _⟩ := c_passDay_73 b.2 g lo L2 R2 rk
          rw [e3, c_V]
          exact ⟨(_, f3), rfl, R3, CFr_trans F2 F3, rfl⟩
        · rw [if_neg (by decide), if_neg (by decide)]
          simp only [if_true]
          obtain ⟨f4, e4, R4, F4⟩ := c_getWet b.2 g lo L2 R2
          obtain ⟨f3, e3, R3, F3, _, _⟩ := c_passDay_73 f4 g lo (CFr_L (by omega) F4 L2) R4 (rOK_sWt rk)
          rw [e4, c_V, e3, c_V]
          exact ⟨(_, f3), rfl, R3, CFr_trans F2 (CFr_trans F4 F3), rfl⟩)
      obtain ⟨ch, f2⟩ := b
      dsimp only at R2 F2 c2 e2
      have L2 := CFr_L (by omega) F2 L1
      have cb : x_b_chanceBorne_0 (a.2, g) (nI x) (nI n) (nI t) (nI w) = rI (rnV (aL A) (aR A) x n (nI t) w) (f2, g) := by
        rw [e_b_chanceBorne_0, e1, c_V]
        refine Eq.trans e2 ?_
        rw [e_b_chanceBorne_17, if_pos (Int32.le_refl _), c_isBorne_73 (f2, g) lo L2 R2 hx, c_I, c2]
        unfold rnV
        cases sB (aL A) (rnR (aL A) (aR A) w n) x <;> rfl
      refine ⟨(a.1 + rnV (aL A) (aR A) x n (nI t) w, f2), ?_, by show a.1 + _ = _; rw [i1]; rfl, QC_trans i2 (QC_trans (QC_copy g1) (QC_CFr F2))⟩
      show x_b_rain_24 (a.2, g) (nI x) (nI n) (nI t) a.1 (nI w) = x_b_rain_24 (f2, g) (nI x) (nI n) (nI t) (a.1 + rnV (aL A) (aR A) x n (nI t) w) (nI (w + 1))
      rw [e_b_rain_24, cb, c_I]
      simp (disch := omega) only [q_1, q_31, q_shl, q_leI, nI_add]
      rw [if_neg (by omega)])
    obtain ⟨s, f2⟩ := a
    dsimp only at i1 i2 e
    refine ⟨f2, ?_, i2⟩
    refine Eq.trans e ?_
    rw [e_b_rain_24]
    simp (disch := omega) only [q_1, q_31, q_shl]
    rw [if_pos (Int32.le_refl _), i1]
    rfl
  · intro f0 f2 g M0 h0 e0
    show ∃ f3, x_m_rain_0 (f2, g) (nI x) (nI n) (nI t) = rI _ (f3, g) ∧ _
    rw [e_m_rain_0]
    dsimp only
    rw [← e0, m_isBoxY f0 g h0 M0.1.1 (by omega) hx, c_I, if_neg (by decide), show x_m_within_0 (f0, g) (nI n) 1 5 = _ from m_withinY (f0, g) (a := 1) (b := 5) n1 n5 (by omega), c_I, if_neg (by decide), show x_m_within_0 (f0, g) (nI t) 0 10 = _ from m_withinY (f0, g) (a := 0) (b := 10) (by omega) t10 (by omega), c_I, if_neg (by decide), show x_m_right_0 (f0, g) 1 2 = _ from m_rightY f0 g h0 2, c_I, if_neg (by decide)]
    obtain ⟨a, e, i1, i2, i3⟩ := mu_inv (fun (a : Int32 × (Nat → Nat → Int32)) i => x_m_rain_53 (a.2, g) (nI x) (nI n) (nI t) a.1 i) (fun w a => a.1 = mu_up (fun w a => a + rnV (aL A) (aR A) x n (nI t) w) (nI 0) w ∧ QM f0 a.2 ∧ a.2 0 0 = nI 0) (2 ^ n) (nI 0, f0) ⟨rfl, QM_refl f0, h0⟩ (by
      intro w a hw ⟨i1, i2, i3⟩
      have M1 := MRel_Q ok M0 i2
      obtain ⟨f1, e1, R1, g1, g2⟩ := m_tries (a.2, g) lo M1.2.2.1
      have L1 : MLd (aL A) f1 := MLd_of M1.1 (fun i _ => by rw [g1 0 (by omega)]) (fun p _ _ => g1 p (by omega))
      obtain ⟨b, e2, R2, F2, c2⟩ := mu_inv (fun (b : Int32 × (Nat → Nat → Int32)) i => x_m_rain_71 (b.2, g) (nI x) (nI n) (nI t) a.1 (nI w) b.1 i) (fun k b => MRw (aL A) 29 (rnR (aL A) (aR A) w k) b.2 ∧ MFr 29 f1 b.2 ∧ b.1 = rnC (nI t) w k) n (nI 1, f1) ⟨R1, MFr_refl _ _, rfl⟩ (by
        intro k b hk ⟨R2, F2, c2⟩
        have L2 := MFr_L F2 L1
        have rk := rOK_rnR lo ro w k
        have eR : rnR (aL A) (aR A) w (k + 1) = sDy (aL A) (if w.testBit k then sWt (aL A) (rnR (aL A) (aR A) w k) else rnR (aL A) (aR A) w k) := rfl
        have eC : rnC (nI t) w (k + 1) = rnC (nI t) w k * (if w.testBit k then nI t else nI 10 - nI t) := rfl
        show ∃ b' : Int32 × (Nat → Nat → Int32), x_m_rain_71 (b.2, g) (nI x) (nI n) (nI t) a.1 (nI w) b.1 (nI k) = x_m_rain_71 (b'.2, g) (nI x) (nI n) (nI t) a.1 (nI w) b'.1 (nI (k + 1)) ∧ _
        rw [e_m_rain_71, if_neg (nI_ge hk (by omega)), eR, eC, c2]
        simp (disch := omega) only [q_1, q_31, q_bit1]
        cases hb : w.testBit k
        · simp only [Bool.false_eq_true, if_false]
          rw [e_m_rain_93, if_pos (by decide), if_pos (by decide)]
          obtain ⟨f3, e3, R3, F3, _, _⟩ := m_dayGoes (b.2, g) lo (b := 29) (by omega) L2 R2 rk
          rw [show x_m_dayGoes_0 (b.2, g) 29 = _ from e3, c_V, nI_1]
          exact ⟨(_, f3), rfl, R3, MFr_trans F2 F3, rfl⟩
        · simp only [if_true]
          rw [e_m_rain_93, if_neg (by decide), if_neg (by decide)]
          obtain ⟨f4, e4, R4, F4⟩ := m_wet b.2 g lo L2 R2 rk (fun σ9 => en_cV (x_m_dayGoes_0 σ9 29) (fun σ10 => x_m_rain_71 σ10 (nI x) (nI n) (nI t) a.1 (nI w) (rnC (nI t) w k * nI t) (nI k + 1)) (fun e σ => some (.inr e, σ)))
          obtain ⟨f3, e3, R3, F3, _, _⟩ := m_dayGoes (f4, g) lo (b := 29) (by omega) (MFr_L F4 L2) R4 (rOK_sWt rk)
          refine ⟨(rnC (nI t) w k * nI t, f3), ?_, R3, MFr_trans F2 (MFr_trans F4 F3), rfl⟩
          refine Eq.trans e4 ?_
          show en_cV (x_m_dayGoes_0 (f4, g) 29) _ _ = _
          rw [show x_m_dayGoes_0 (f4, g) 29 = _ from e3, c_V, nI_1])
      obtain ⟨ch, f5⟩ := b
      dsimp only at R2 F2 c2 e2
      have L2 := MFr_L F2 L1
      refine ⟨(a.1 + rnV (aL A) (aR A) x n (nI t) w, f5), ?_, by show a.1 + _ = _; rw [i1]; rfl, QM_trans i2 (QM_trans (QM_18 g1 g2) (QM_MFr F2)), by show f5 0 0 = _; rw [F2.2.1 0 (by omega) (by omega) (by omega), g1 0 (by omega)]; exact i3⟩
      show x_m_rain_53 (a.2, g) (nI x) (nI n) (nI t) a.1 (nI w) = x_m_rain_53 (f5, g) (nI x) (nI n) (nI t) (a.1 + rnV (aL A) (aR A) x n (nI t) w) (nI (w + 1))
      rw [e_m_rain_53, e1, c_V]
      simp (disch := omega) only [q_1, q_31, q_shl, q_leI]
      rw [if_neg (by omega)]
      refine Eq.trans e2 ?_
      rw [e_m_rain_71, if_pos (Int32.le_refl _), show x_m_isBorne_0 (f5, g) 29 (nI x) = _ from m_isBorne (b := 29) (f5, g) lo (by omega) L2 R2 hx, c_I, c2, nI_1]
      unfold rnV
      cases sB (aL A) (rnR (aL A) (aR A) w n) x <;> rfl)
    obtain ⟨s, f5⟩ := a
    dsimp only at i1 i2 i3 e
    refine ⟨f5, ?_, i3, i2⟩
    refine Eq.trans e ?_
    rw [e_m_rain_53]
    simp (disch := omega) only [q_1, q_31, q_shl]
    rw [if_pos (Int32.le_refl _), i1]
    rfl
