/-! questions by days: written by q1.py -/

theorem q_then {A : mu_A} {f : Nat → Nat → Int32} (ok : AOK A) (hM : MRel A f) (hC : CRel A f) (v1 v2 v3 : Int32) : Qn f (fun σ => x_b_then_0 σ v1 v2 v3) (fun σ => x_m_then_0 σ v1 v2 v3) (id) := by
  have lo := ok.1
  have go := ok.2.1
  have ro := ok.2.2.2.1
  have l1 := lo.1
  have l2 := lo.2.1
  have g8 := go.2.1
  have cB := hC.1.1
  have cP := hC.1.2.1
  have cT := hC.2.1.1
  have L := hC.1
  have R := hC.2.2.1
  rcases ok_bad v1 (n := lB (aL A)) (by omega) with bd0 | ⟨x, hx, rfl⟩
  · refine Qn_err ok hM 1 (by omega) ?_ ?_
    · intro g
      show x_b_then_0 (f, g) v1 v2 v3 = _
      rw [e_b_then_0, c_checkBoxN f g cB bd0, c_Vx]
    · intro f0 f2 g M0 h0 e0
      show x_m_then_0 (f2, g) v1 v2 v3 = _
      rw [e_m_then_0]
      dsimp only
      rw [← e0, m_isBoxN f0 g h0 M0.1.1 bd0, c_I, if_pos (by decide)]
      rfl
  rcases ok_badR v3 (a := 0) (b := 3) (by omega) (by omega) with bd1 | ⟨w, _, hw, rfl⟩
  · refine Qn_err ok hM 1 (by omega) ?_ ?_
    · intro g
      show x_b_then_0 (f, g) (nI x) v2 v3 = _
      rw [e_b_then_0, c_checkBoxY f g cB (by omega) hx, c_V, show x_b_checkWhat_0 (f, g) v3 3 = _ from c_checkWhatN (f, g) (b := 3) bd1, c_Vx]
    · intro f0 f2 g M0 h0 e0
      show x_m_then_0 (f2, g) (nI x) v2 v3 = _
      rw [e_m_then_0]
      dsimp only
      rw [← e0, m_isBoxY f0 g h0 M0.1.1 (by omega) hx, c_I, if_neg (by decide), show x_m_isWhat_0 (f0, g) v3 3 = _ from m_isWhatN f0 g (b := 3) h0 bd1, c_I, if_pos (by decide)]
      rfl
  rcases ok_badR v2 (a := 0) (b := 40) (by omega) (by omega) with bd2 | ⟨n, kn, hn, rfl⟩
  · refine Qn_err ok hM 2 (by omega) ?_ ?_
    · intro g
      show x_b_then_0 (f, g) (nI x) v2 (nI w) = _
      rw [e_b_then_0, c_checkBoxY f g cB (by omega) hx, c_V, show x_b_checkWhat_0 (f, g) (nI w) 3 = _ from c_checkWhatY (f, g) (b := 3) hw (by omega), c_V, show x_b_checkRange_0 (f, g) v2 0 40 = _ from c_checkRangeN (f, g) (a := 0) (b := 40) bd2, c_Vx]
    · intro f0 f2 g M0 h0 e0
      show x_m_then_0 (f2, g) (nI x) v2 (nI w) = _
      rw [e_m_then_0]
      dsimp only
      rw [← e0, m_isBoxY f0 g h0 M0.1.1 (by omega) hx, c_I, if_neg (by decide), show x_m_isWhat_0 (f0, g) (nI w) 3 = _ from m_isWhatY f0 g (b := 3) h0 hw (by omega), c_I, if_neg (by decide), show x_m_isDays_0 (f0, g) v2 0 2 = _ from m_isDaysN f0 g (a := 0) (w := 2) h0 bd2 (by omega), c_I, if_pos (by decide)]
      rfl
  refine Qn_val ok hM rfl (if w = 0 then rW (sDn (aL A) (aR A) n) x else if w = 1 then sTo (aL A) (sDn (aL A) (aR A) n) x else if w = 2 then nI (sH (aL A) (sDn (aL A) (aR A) n) (nI x)) else tb (sB (aL A) (sDn (aL A) (aR A) n) x)) ?_ ?_
  · intro g
    show ∃ f', x_b_then_0 (f, g) (nI x) (nI n) (nI w) = rI _ (f', g) ∧ _
    rw [e_b_then_0, c_checkBoxY f g cB (by omega) hx, c_V, show x_b_checkWhat_0 (f, g) (nI w) 3 = _ from c_checkWhatY (f, g) (b := 3) hw (by omega), c_V, show x_b_checkRange_0 (f, g) (nI n) 0 40 = _ from c_checkRangeY (f, g) (a := 0) (b := 40) kn hn (by omega), c_V]
    obtain ⟨f1, e1, L1, R1, Q1⟩ := c_lookAhead f g lo L R ro (n := n) (by omega)
    rw [e1, c_I]
    have ro1 := rOK_sDn lo ro n
    refine ⟨f1, ?_, Q1⟩
    match w, hw with
    | 0, _ =>
      have hW : f1 74 x = rW (sDn (aL A) (aR A) n) x := R1.2.1 x hx
      simp (disch := omega) only [q_0, q_1, q_2, q_3, q_4, q_5, q_6, q_7, q_8, q_9, q_10, q_11, q_12, q_13, q_14, q_15, q_16, q_17, q_18, q_19, q_20, q_21, q_22, q_23, q_24, q_29, q_30, q_31, q_36, q_42, q_50, q_40, q_48, q_96, q_97, q_99, q_100, q_255, q_256, q_700, q_999, q_1160, q_1400, q_99999, q_m1, q_in, q_clamp, if_true, hW]
      rfl
    | 1, _ => rw [if_neg (by decide), if_pos (by decide), c_townOf_73 (f1, g) lo L1 R1 ro1 hx, c_I]; rfl
    | 2, _ => rw [if_neg (by decide), if_neg (by decide), if_pos (by decide), c_bitsUnder_73 (f1, g) lo L1 R1, c_I]; rfl
    | 3, _ =>
      rw [if_neg (by decide), if_neg (by decide), if_neg (by decide), c_isBorne_73 (f1, g) lo L1 R1 hx, c_I]
      cases sB (aL A) (sDn (aL A) (aR A) n) x <;> rfl
  · intro f0 f2 g M0 h0 e0
    have ML := M0.1
    have MR := M0.2.2.1
    show ∃ f3, x_m_then_0 (f2, g) (nI x) (nI n) (nI w) = rI _ (f3, g) ∧ _
    rw [e_m_then_0]
    dsimp only
    rw [← e0, m_isBoxY f0 g h0 M0.1.1 (by omega) hx, c_I, if_neg (by decide), show x_m_isWhat_0 (f0, g) (nI w) 3 = _ from m_isWhatY f0 g (b := 3) h0 hw (by omega), c_I, if_neg (by decide), show x_m_isDays_0 (f0, g) (nI n) 0 2 = _ from m_isDaysY f0 g (a := 0) h0 kn hn _, c_I, if_neg (by decide)]
    obtain ⟨f1, e1, L1, R1, Q1, z1⟩ := m_goesTo f0 g lo ML MR ro (n := n) (by omega)
    rw [e1, c_V]
    have ro1 := rOK_sDn lo ro n
    refine ⟨f1, ?_, by rw [z1, h0], Q1⟩
    match w, hw with
    | 0, _ =>
      have hW : f1 18 (30 + x) = rW (sDn (aL A) (aR A) n) x := R1.2.1 x hx
      simp (disch := omega) only [q_0, q_1, q_2, q_3, q_4, q_5, q_6, q_7, q_8, q_9, q_10, q_11, q_12, q_13, q_14, q_15, q_16, q_17, q_18, q_19, q_20, q_21, q_22, q_23, q_24, q_29, q_30, q_31, q_36, q_42, q_50, q_40, q_48, q_96, q_97, q_99, q_100, q_255, q_256, q_700, q_999, q_1160, q_1400, q_99999, q_m1, nI_add, q_in, q_clamp, if_true, hW]
      rfl
    | 1, _ => rw [if_neg (by decide), if_pos (by decide), show x_m_townOf_0 (f1, g) 29 (nI x) = _ from m_townOf (f1, g) lo (by omega) L1 R1 ro1 hx, c_I]; rfl
    | 2, _ => rw [if_neg (by decide), if_neg (by decide), if_pos (by decide), show x_m_handsAt_0 (f1, g) 29 (nI x) = _ from m_handsAt (f1, g) lo (by omega) L1 R1 _, c_I]; rfl
    | 3, _ =>
      rw [if_neg (by decide), if_neg (by decide), if_neg (by decide), show x_m_isBorne_0 (f1, g) 29 (nI x) = _ from m_isBorne (f1, g) lo (by omega) L1 R1 hx, c_I]
      cases sB (aL A) (sDn (aL A) (aR A) n) x <;> rfl

theorem q_who {A : mu_A} {f : Nat → Nat → Int32} (ok : AOK A) (hM : MRel A f) (hC : CRel A f) (v1 v2 v3 : Int32) : Qn f (fun σ => x_b_who_0 σ v1 v2 v3) (fun σ => x_m_who_0 σ v1 v2 v3) (id) := by
  have lo := ok.1
  have go := ok.2.1
  have ro := ok.2.2.2.1
  have l1 := lo.1
  have l2 := lo.2.1
  have g8 := go.2.1
  have cB := hC.1.1
  have cP := hC.1.2.1
  have cT := hC.2.1.1
  have L := hC.1
  have R := hC.2.2.1
  rcases ok_bad v1 (n := lP (aL A)) (by omega) with bd0 | ⟨p, hp, rfl⟩
  · refine Qn_err ok hM 1 (by omega) ?_ ?_
    · intro g
      show x_b_who_0 (f, g) v1 v2 v3 = _
      rw [e_b_who_0, c_checkBearerN f g cP bd0, c_Vx]
    · intro f0 f2 g M0 h0 e0
      show x_m_who_0 (f2, g) v1 v2 v3 = _
      rw [e_m_who_0]
      dsimp only
      rw [← e0, m_isBearerN f0 g h0 M0.1.2.1 bd0, c_I, if_pos (by decide)]
      rfl
  rcases ok_badR v3 (a := 0) (b := 1) (by omega) (by omega) with bd1 | ⟨w, _, hw, rfl⟩
  · refine Qn_err ok hM 1 (by omega) ?_ ?_
    · intro g
      show x_b_who_0 (f, g) (nI p) v2 v3 = _
      rw [e_b_who_0, c_checkBearerY f g cP (by omega) hp, c_V, show x_b_checkWhat_0 (f, g) v3 1 = _ from c_checkWhatN (f, g) (b := 1) bd1, c_Vx]
    · intro f0 f2 g M0 h0 e0
      show x_m_who_0 (f2, g) (nI p) v2 v3 = _
      rw [e_m_who_0]
      dsimp only
      rw [← e0, m_isBearerY f0 g h0 M0.1.2.1 (by omega) hp, c_I, if_neg (by decide), show x_m_isWhat_0 (f0, g) v3 1 = _ from m_isWhatN f0 g (b := 1) h0 bd1, c_I, if_pos (by decide)]
      rfl
  rcases ok_badR v2 (a := 0) (b := 40) (by omega) (by omega) with bd2 | ⟨n, kn, hn, rfl⟩
  · refine Qn_err ok hM 2 (by omega) ?_ ?_
    · intro g
      show x_b_who_0 (f, g) (nI p) v2 (nI w) = _
      rw [e_b_who_0, c_checkBearerY f g cP (by omega) hp, c_V, show x_b_checkWhat_0 (f, g) (nI w) 1 = _ from c_checkWhatY (f, g) (b := 1) hw (by omega), c_V, show x_b_checkRange_0 (f, g) v2 0 40 = _ from c_checkRangeN (f, g) (a := 0) (b := 40) bd2, c_Vx]
    · intro f0 f2 g M0 h0 e0
      show x_m_who_0 (f2, g) (nI p) v2 (nI w) = _
      rw [e_m_who_0]
      dsimp only
      rw [← e0, m_isBearerY f0 g h0 M0.1.2.1 (by omega) hp, c_I, if_neg (by decide), show x_m_isWhat_0 (f0, g) (nI w) 1 = _ from m_isWhatY f0 g (b := 1) h0 hw (by omega), c_I, if_neg (by decide), show x_m_isDays_0 (f0, g) v2 0 2 = _ from m_isDaysN f0 g (a := 0) (w := 2) h0 bd2 (by omega), c_I, if_pos (by decide)]
      rfl
  refine Qn_val ok hM rfl (if w = 0 then rT (sDn (aL A) (aR A) n) p else rU (sDn (aL A) (aR A) n) p) ?_ ?_
  · intro g
    show ∃ f', x_b_who_0 (f, g) (nI p) (nI n) (nI w) = rI _ (f', g) ∧ _
    rw [e_b_who_0, c_checkBearerY f g cP (by omega) hp, c_V, show x_b_checkWhat_0 (f, g) (nI w) 1 = _ from c_checkWhatY (f, g) (b := 1) hw (by omega), c_V, show x_b_checkRange_0 (f, g) (nI n) 0 40 = _ from c_checkRangeY (f, g) (a := 0) (b := 40) kn hn (by omega), c_V]
    obtain ⟨f1, e1, L1, R1, Q1⟩ := c_lookAhead f g lo L R ro (n := n) (by omega)
    rw [e1, c_I]
    refine ⟨f1, ?_, Q1⟩
    match w, hw with
    | 0, _ =>
      have hW : f1 77 p = rT (sDn (aL A) (aR A) n) p := R1.2.2.2.2 p hp
      simp (disch := omega) only [q_0, q_1, q_2, q_3, q_4, q_5, q_6, q_7, q_8, q_9, q_10, q_11, q_12, q_13, q_14, q_15, q_16, q_17, q_18, q_19, q_20, q_21, q_22, q_23, q_24, q_29, q_30, q_31, q_36, q_42, q_50, q_40, q_48, q_96, q_97, q_99, q_100, q_255, q_256, q_700, q_999, q_1160, q_1400, q_99999, q_m1, q_in, q_clamp, if_true, hW]
      rfl
    | 1, _ =>
      have hW : f1 76 p = rU (sDn (aL A) (aR A) n) p := R1.2.2.2.1 p hp
      rw [if_neg (by decide)]
      simp (disch := omega) only [q_0, q_1, q_2, q_3, q_4, q_5, q_6, q_7, q_8, q_9, q_10, q_11, q_12, q_13, q_14, q_15, q_16, q_17, q_18, q_19, q_20, q_21, q_22, q_23, q_24, q_29, q_30, q_31, q_36, q_42, q_50, q_40, q_48, q_96, q_97, q_99, q_100, q_255, q_256, q_700, q_999, q_1160, q_1400, q_99999, q_m1, q_in, q_clamp, if_true, hW]
      rfl
  · intro f0 f2 g M0 h0 e0
    have ML := M0.1
    have MR := M0.2.2.1
    show ∃ f3, x_m_who_0 (f2, g) (nI p) (nI n) (nI w) = rI _ (f3, g) ∧ _
    rw [e_m_who_0]
    dsimp only
    rw [← e0, m_isBearerY f0 g h0 M0.1.2.1 (by omega) hp, c_I, if_neg (by decide), show x_m_isWhat_0 (f0, g) (nI w) 1 = _ from m_isWhatY f0 g (b := 1) h0 hw (by omega), c_I, if_neg (by decide), show x_m_isDays_0 (f0, g) (nI n) 0 2 = _ from m_isDaysY f0 g (a := 0) h0 kn hn _, c_I, if_neg (by decide)]
    obtain ⟨f1, e1, L1, R1, Q1, z1⟩ := m_goesTo f0 g lo ML MR ro (n := n) (by omega)
    rw [e1, c_V]
    refine ⟨f1, ?_, by rw [z1, h0], Q1⟩
    match w, hw with
    | 0, _ =>
      have hW : f1 18 (50 + p) = rT (sDn (aL A) (aR A) n) p := R1.2.2.2.2 p hp
      simp (disch := omega) only [q_0, q_1, q_2, q_3, q_4, q_5, q_6, q_7, q_8, q_9, q_10, q_11, q_12, q_13, q_14, q_15, q_16, q_17, q_18, q_19, q_20, q_21, q_22, q_23, q_24, q_29, q_30, q_31, q_36, q_42, q_50, q_40, q_48, q_96, q_97, q_99, q_100, q_255, q_256, q_700, q_999, q_1160, q_1400, q_99999, q_m1, nI_add, q_in, q_clamp, if_true, hW]
      rfl
    | 1, _ =>
      have hW : f1 18 (42 + p) = rU (sDn (aL A) (aR A) n) p := R1.2.2.2.1 p hp
      rw [if_neg (by decide)]
      simp (disch := omega) only [q_0, q_1, q_2, q_3, q_4, q_5, q_6, q_7, q_8, q_9, q_10, q_11, q_12, q_13, q_14, q_15, q_16, q_17, q_18, q_19, q_20, q_21, q_22, q_23, q_24, q_29, q_30, q_31, q_36, q_42, q_50, q_40, q_48, q_96, q_97, q_99, q_100, q_255, q_256, q_700, q_999, q_1160, q_1400, q_99999, q_m1, nI_add, q_in, q_clamp, if_true, hW]
      rfl

theorem q_total {A : mu_A} {f : Nat → Nat → Int32} (ok : AOK A) (hM : MRel A f) (hC : CRel A f) (v1 : Int32) : Qn f (fun σ => x_b_total_0 σ v1) (fun σ => x_m_total_0 σ v1) (fun e => if e = 2 then 1 else e) := by
  have lo := ok.1
  have go := ok.2.1
  have ro := ok.2.2.2.1
  have l1 := lo.1
  have l2 := lo.2.1
  have g8 := go.2.1
  have cB := hC.1.1
  have cP := hC.1.2.1
  have cT := hC.2.1.1
  have L := hC.1
  have R := hC.2.2.1
  rcases ok_badR v1 (a := 0) (b := 40) (by omega) (by omega) with bd0 | ⟨n, kn, hn, rfl⟩
  · refine Qn_err ok hM 2 (by omega) ?_ ?_
    · intro g
      show x_b_total_0 (f, g) v1 = _
      rw [e_b_total_0, show x_b_checkRange_0 (f, g) v1 0 40 = _ from c_checkRangeN (f, g) (a := 0) (b := 40) bd0, c_Vx]
    · intro f0 f2 g M0 h0 e0
      show x_m_total_0 (f2, g) v1 = _
      rw [e_m_total_0]
      dsimp only
      rw [← e0, show x_m_isDays_0 (f0, g) v1 0 1 = _ from m_isDaysN f0 g (a := 0) (w := 1) h0 bd0 (by omega), c_I, if_pos (by decide)]
      rfl
  refine Qn_val ok hM rfl (mu_up (fun x a => a + rW (sDn (aL A) (aR A) n) x) (nI 0) (lB (aL A))) ?_ ?_
  · intro g
    show ∃ f', x_b_total_0 (f, g) (nI n) = rI _ (f', g) ∧ _
    rw [e_b_total_0, show x_b_checkRange_0 (f, g) (nI n) 0 40 = _ from c_checkRangeY (f, g) (a := 0) (b := 40) kn hn (by omega), c_V]
    obtain ⟨f1, e1, L1, R1, Q1⟩ := c_lookAhead f g lo L R ro (n := n) (by omega)
    rw [e1, c_I]
    exact ⟨f1, by rw [c_weightOfAll_73 (f1, g) lo L1 R1, c_I]; rfl, Q1⟩
  · intro f0 f2 g M0 h0 e0
    have ML := M0.1
    have MR := M0.2.2.1
    show ∃ f3, x_m_total_0 (f2, g) (nI n) = rI _ (f3, g) ∧ _
    rw [e_m_total_0]
    dsimp only
    rw [← e0, show x_m_isDays_0 (f0, g) (nI n) 0 1 = _ from m_isDaysY f0 g (a := 0) h0 kn hn _, c_I, if_neg (by decide)]
    obtain ⟨f1, e1, L1, R1, Q1, z1⟩ := m_goesTo f0 g lo ML MR ro (n := n) (by omega)
    rw [e1, c_V]
    exact ⟨f1, by rw [show x_m_allWeight_0 (f1, g) 29 = _ from m_allWeight (b := 29) (f1, g) lo (by omega) L1 R1, c_I]; rfl, by rw [z1, h0], Q1⟩
