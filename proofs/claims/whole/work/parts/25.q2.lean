/-! questions by days, second: written by q2.py -/

theorem q_rests {A : mu_A} {f : Nat → Nat → Int32} (ok : AOK A) (hM : MRel A f) (hC : CRel A f) (v1 : Int32) : Qn f (fun σ => x_b_rests_0 σ v1) (fun σ => x_m_rests_0 σ v1) (id) := by
  have lo := ok.1
  have go := ok.2.1
  have ro := ok.2.2.2.1
  have l1 := lo.1
  have l2 := lo.2.1
  have g8 := go.2.1
  have cB := hC.1.1
  have cP := hC.1.2.1
  have cT := hC.2.1.1
  have L := hC.1
  have R := hC.2.2.1
  rcases ok_bad v1 (n := lB (aL A)) (by omega) with bd0 | ⟨x, hx, rfl⟩
  · refine Qn_err ok hM 1 (by omega) ?_ ?_
    · intro g
      show x_b_rests_0 (f, g) v1 = _
      rw [e_b_rests_0, c_checkBoxN f g cB bd0, c_Vx]
    · intro f0 f2 g M0 h0 e0
      show x_m_rests_0 (f2, g) v1 = _
      rw [e_m_rests_0]
      dsimp only
      rw [← e0, m_isBoxN f0 g h0 M0.1.1 bd0, c_I, if_pos (by decide)]
      rfl
  refine Qn_val ok hM rfl (mu_fd (fun k => sB (aL A) (sDn (aL A) (aR A) k) x == false) 41 0) ?_ ?_
  · intro g
    show ∃ f', x_b_rests_0 (f, g) (nI x) = rI _ (f', g) ∧ _
    rw [e_b_rests_0, c_checkBoxY f g cB (by omega) hx, c_V]
    obtain ⟨f1, e1, Q1⟩ := c_firstBorne f g lo L R ro hx false
    exact ⟨f1, by rw [show x_b_firstBorne_0 (f, g) (nI x) 0 = _ from e1, c_I]; rfl, Q1⟩
  · intro f0 f2 g M0 h0 e0
    have ML := M0.1
    have MR := M0.2.2.1
    show ∃ f3, x_m_rests_0 (f2, g) (nI x) = rI _ (f3, g) ∧ _
    rw [e_m_rests_0]
    dsimp only
    rw [← e0, m_isBoxY f0 g h0 M0.1.1 (by omega) hx, c_I, if_neg (by decide)]
    obtain ⟨f1, e1, Q1, z1⟩ := m_borneIn f0 g lo ML MR ro hx false
    exact ⟨f1, by rw [show x_m_borneIn_0 (f0, g) (nI x) 0 = _ from e1, c_I]; rfl, by rw [z1, h0], Q1⟩

theorem q_toWait {A : mu_A} {f : Nat → Nat → Int32} (ok : AOK A) (hM : MRel A f) (hC : CRel A f) (v1 : Int32) : Qn f (fun σ => x_b_toWait_0 σ v1) (fun σ => x_m_toWait_0 σ v1) (id) := by
  have lo := ok.1
  have go := ok.2.1
  have ro := ok.2.2.2.1
  have l1 := lo.1
  have l2 := lo.2.1
  have g8 := go.2.1
  have cB := hC.1.1
  have cP := hC.1.2.1
  have cT := hC.2.1.1
  have L := hC.1
  have R := hC.2.2.1
  rcases ok_bad v1 (n := lB (aL A)) (by omega) with bd0 | ⟨x, hx, rfl⟩
  · refine Qn_err ok hM 1 (by omega) ?_ ?_
    · intro g
      show x_b_toWait_0 (f, g) v1 = _
      rw [e_b_toWait_0, c_checkBoxN f g cB bd0, c_Vx]
    · intro f0 f2 g M0 h0 e0
      show x_m_toWait_0 (f2, g) v1 = _
      rw [e_m_toWait_0]
      dsimp only
      rw [← e0, m_isBoxN f0 g h0 M0.1.1 bd0, c_I, if_pos (by decide)]
      rfl
  refine Qn_val ok hM rfl (mu_fd (fun k => sB (aL A) (sDn (aL A) (aR A) k) x == true) 41 0) ?_ ?_
  · intro g
    show ∃ f', x_b_toWait_0 (f, g) (nI x) = rI _ (f', g) ∧ _
    rw [e_b_toWait_0, c_checkBoxY f g cB (by omega) hx, c_V]
    obtain ⟨f1, e1, Q1⟩ := c_firstBorne f g lo L R ro hx true
    exact ⟨f1, by rw [show x_b_firstBorne_0 (f, g) (nI x) 1 = _ from e1, c_I]; rfl, Q1⟩
  · intro f0 f2 g M0 h0 e0
    have ML := M0.1
    have MR := M0.2.2.1
    show ∃ f3, x_m_toWait_0 (f2, g) (nI x) = rI _ (f3, g) ∧ _
    rw [e_m_toWait_0]
    dsimp only
    rw [← e0, m_isBoxY f0 g h0 M0.1.1 (by omega) hx, c_I, if_neg (by decide)]
    obtain ⟨f1, e1, Q1, z1⟩ := m_borneIn f0 g lo ML MR ro hx true
    exact ⟨f1, by rw [show x_m_borneIn_0 (f0, g) (nI x) 1 = _ from e1, c_I]; rfl, by rw [z1, h0], Q1⟩

theorem q_fallen {A : mu_A} {f : Nat → Nat → Int32} (ok : AOK A) (hM : MRel A f) (hC : CRel A f) (v1 : Int32) : Qn f (fun σ => x_b_fallen_0 σ v1) (fun σ => x_m_fallen_0 σ v1) (id) := by
  have lo := ok.1
  have go := ok.2.1
  have ro := ok.2.2.2.1
  have l1 := lo.1
  have l2 := lo.2.1
  have g8 := go.2.1
  have cB := hC.1.1
  have cP := hC.1.2.1
  have cT := hC.2.1.1
  have L := hC.1
  have R := hC.2.2.1
  rcases ok_bad v1 (n := lB (aL A)) (by omega) with bd0 | ⟨x, hx, rfl⟩
  · refine Qn_err ok hM 1 (by omega) ?_ ?_
    · intro g
      show x_b_fallen_0 (f, g) v1 = _
      rw [e_b_fallen_0, c_checkBoxN f g cB bd0, c_Vx]
    · intro f0 f2 g M0 h0 e0
      show x_m_fallen_0 (f2, g) v1 = _
      rw [e_m_fallen_0]
      dsimp only
      rw [← e0, m_isBoxN f0 g h0 M0.1.1 bd0, c_I, if_pos (by decide)]
      rfl
  refine Qn_val ok hM rfl (mu_fd (fun k => (sFe (aL A) (sDn (aL A) (aR A) (k - 1))).testBit x) 40 1) ?_ ?_
  · intro g
    show ∃ f', x_b_fallen_0 (f, g) (nI x) = rI _ (f', g) ∧ _
    rw [e_b_fallen_0, c_checkBoxY f g cB (by omega) hx, c_V]
    obtain ⟨f1, e1, R1, g1, g2⟩ := c_copy73 f g lo R
    have L1 : CLd (aL A) f1 := CLd_of L (fun p _ _ _ => g1 p (by omega))
    obtain ⟨f2, e2, F2⟩ := mu_srch (fun (f : Nat → Nat → Int32) i => x_b_fallen_18 (f, g) (nI x) i) (fun f => (f, g)) (fun k f => CRw (aL A) 73 (sDn (aL A) (aR A) (k - 1)) f ∧ CFr 73 f1 f ∧ 1 ≤ k) (fun f => CFr 73 f1 f) (fun k => (sFe (aL A) (sDn (aL A) (aR A) (k - 1))).testBit x) 41 (by
      intro a _
      show x_b_fallen_18 (a, g) (nI x) (nI 41) = _
      rw [e_b_fallen_18, if_pos (by decide)]; rfl) (fun _ _ h => h.2.1) (by
      intro k a hk ⟨R2, F2, k1⟩
      have La := CFr_L (by omega) F2 L1
      obtain ⟨f3, e3, R3, F3, b1, _⟩ := c_passDay_73 a g lo La R2 (rOK_sDn lo ro (k - 1))
      have hfe : sFe (aL A) (sDn (aL A) (aR A) (k - 1)) < 64 := sBs_fe _ l1
      have e : x_b_fallen_18 (a, g) (nI x) (nI k) = if tb ((sFe (aL A) (sDn (aL A) (aR A) (k - 1))).testBit x) = 0 then x_b_fallen_18 (f3, g) (nI x) (nI k + 1) else rI (nI k) (f3, g) := by
        rw [e_b_fallen_18, show (40 : Int32) = nI 40 by decide, if_neg (by rw [q_ltI (by omega) (by omega)]; omega), e3, c_V]
        dsimp only
        rw [b1, c_hasBit _ (by omega) (by omega), c_I]
        rfl
      constructor
      · intro hp
        exact ⟨f3, by rw [e, hp, if_neg (by decide)], CFr_trans F2 F3⟩
      · intro hp
        refine ⟨f3, by rw [e, hp, if_pos (by decide), nI_1], ?_, CFr_trans F2 F3, by omega⟩
        rw [show k + 1 - 1 = (k - 1) + 1 by omega]; exact R3) 40 1 f1 (by omega) ⟨R1, CFr_refl _ _, by omega⟩
    refine ⟨f2, ?_, QC_trans (QC_copy g1) (QC_CFr F2)⟩
    rw [e1, c_V]; exact e2
  · intro f0 f2 g M0 h0 e0
    have ML := M0.1
    have MR := M0.2.2.1
    show ∃ f3, x_m_fallen_0 (f2, g) (nI x) = rI _ (f3, g) ∧ _
    rw [e_m_fallen_0]
    dsimp only
    rw [← e0, m_isBoxY f0 g h0 M0.1.1 (by omega) hx, c_I, if_neg (by decide)]
    obtain ⟨f1, e1, R1, g1, g2⟩ := m_tries (f0, g) lo MR
    have L1 : MLd (aL A) f1 := MLd_of ML (fun i _ => by rw [g1 0 (by omega)]) (fun p _ _ => g1 p (by omega))
    obtain ⟨f2, e2, F2⟩ := mu_srch (fun (f : Nat → Nat → Int32) i => x_m_fallen_21 (f, g) (nI x) i) (fun f => (f, g)) (fun k f => MRw (aL A) 29 (sDn (aL A) (aR A) (k - 1)) f ∧ MFr 29 f1 f ∧ 1 ≤ k) (fun f => MFr 29 f1 f) (fun k => (sFe (aL A) (sDn (aL A) (aR A) (k - 1))).testBit x) 41 (by
      intro a _
      show x_m_fallen_21 (a, g) (nI x) (nI 41) = _
      rw [e_m_fallen_21, if_pos (by decide)]; rfl) (fun _ _ h => h.2.1) (by
      intro k a hk ⟨R2, F2, k1⟩
      have La := MFr_L F2 L1
      obtain ⟨f3, e3, R3, F3, b1, _⟩ := m_dayGoes (a, g) lo (b := 29) (by omega) La R2 (rOK_sDn lo ro (k - 1))
      have hfe : sFe (aL A) (sDn (aL A) (aR A) (k - 1)) < 64 := sBs_fe _ l1
      have e : x_m_fallen_21 (a, g) (nI x) (nI k) = if (sFe (aL A) (sDn (aL A) (aR A) (k - 1))).testBit x = true then rI (nI k) (f3, g) else x_m_fallen_21 (f3, g) (nI x) (nI k + 1) := by
        rw [e_m_fallen_21, show (40 : Int32) = nI 40 by decide, if_neg (by rw [q_ltI (by omega) (by omega)]; omega), show x_m_dayGoes_0 (a, g) 29 = _ from e3, c_V]
        simp (disch := omega) only [q_31, q_1, b1, q_bit1]
        rfl
      constructor
      · intro hp
        exact ⟨f3, by rw [e, if_pos hp], MFr_trans F2 F3⟩
      · intro hp
        refine ⟨f3, by rw [e, if_neg (by rw [hp]; decide), nI_1], ?_, MFr_trans F2 F3, by omega⟩
        rw [show k + 1 - 1 = (k - 1) + 1 by omega]; exact R3) 40 1 f1 (by omega) ⟨R1, MFr_refl _ _, by omega⟩
    refine ⟨f2, ?_, ?_, QM_trans (QM_18 g1 g2) (QM_MFr F2)⟩
    · rw [e1, c_V]; exact e2
    · rw [F2.2.1 0 (by omega) (by omega) (by omega), g1 0 (by omega)]; exact h0

theorem q_meet {A : mu_A} {f : Nat → Nat → Int32} (ok : AOK A) (hM : MRel A f) (hC : CRel A f) (v1 v2 : Int32) : Qn f (fun σ => x_b_meet_0 σ v1 v2) (fun σ => x_m_meet_0 σ v1 v2) (id) := by
  have lo := ok.1
  have go := ok.2.1
  have ro := ok.2.2.2.1
  have l1 := lo.1
  have l2 := lo.2.1
  have g8 := go.2.1
  have cB := hC.1.1
  have cP := hC.1.2.1
  have cT := hC.2.1.1
  have L := hC.1
  have R := hC.2.2.1
  rcases ok_bad v1 (n := lB (aL A)) (by omega) with bd0 | ⟨x, hx, rfl⟩
  · refine Qn_err ok hM 1 (by omega) ?_ ?_
    · intro g
      show x_b_meet_0 (f, g) v1 v2 = _
      rw [e_b_meet_0, c_checkBoxN f g cB bd0, c_Vx]
    · intro f0 f2 g M0 h0 e0
      show x_m_meet_0 (f2, g) v1 v2 = _
      rw [e_m_meet_0]
      dsimp only
      rw [← e0, m_isBoxN f0 g h0 M0.1.1 bd0, c_I, if_pos (by decide)]
      rfl
  rcases ok_bad v2 (n := lB (aL A)) (by omega) with bd1 | ⟨y, hy, rfl⟩
  · refine Qn_err ok hM 1 (by omega) ?_ ?_
    · intro g
      show x_b_meet_0 (f, g) (nI x) v2 = _
      rw [e_b_meet_0, c_checkBoxY f g cB (by omega) hx, c_V, c_checkBoxN f g cB bd1, c_Vx]
    · intro f0 f2 g M0 h0 e0
      show x_m_meet_0 (f2, g) (nI x) v2 = _
      rw [e_m_meet_0]
      dsimp only
      rw [← e0, m_isBoxY f0 g h0 M0.1.1 (by omega) hx, c_I, if_neg (by decide), m_isBoxN f0 g h0 M0.1.1 bd1, c_I, if_pos (by decide)]
      rfl
  refine Qn_val ok hM rfl (if x = y then nN else mu_fd (fun k => decide (sTo (aL A) (sDn (aL A) (aR A) k) x = sTo (aL A) (sDn (aL A) (aR A) k) y)) 41 0) ?_ ?_
  · intro g
    show ∃ f', x_b_meet_0 (f, g) (nI x) (nI y) = rI _ (f', g) ∧ _
    rw [e_b_meet_0, c_checkBoxY f g cB (by omega) hx, c_V, c_checkBoxY f g cB (by omega) hy, c_V]
    by_cases hxy : x = y
    · rw [if_pos hxy, if_pos (by rw [hxy])]; exact ⟨f, rfl, QC_refl f⟩
    rw [if_neg hxy, if_neg (by rw [q_eqI (by omega) (by omega)]; exact hxy)]
    obtain ⟨f1, e1, R1, g1, g2⟩ := c_copy73 f g lo R
    have L1 : CLd (aL A) f1 := CLd_of L (fun p _ _ _ => g1 p (by omega))
    obtain ⟨f2, e2, F2⟩ := mu_srch (fun (f : Nat → Nat → Int32) i => x_b_meet_30 (f, g) (nI x) (nI y) i) (fun f => (f, g)) (fun k f => CRw (aL A) 73 (sDn (aL A) (aR A) k) f ∧ CFr 73 f1 f) (fun f => CFr 73 f1 f) (fun k => decide (sTo (aL A) (sDn (aL A) (aR A) k) x = sTo (aL A) (sDn (aL A) (aR A) k) y)) 41 (by
      intro a _
      show x_b_meet_30 (a, g) (nI x) (nI y) (nI 41) = _
      rw [e_b_meet_30, if_pos (by decide)]; rfl) (fun _ _ h => h.2) (by
      intro k a hk ⟨R2, F2⟩
      have La := CFr_L (by omega) F2 L1
      have rk := rOK_sDn lo ro k
      have e : x_b_meet_30 (a, g) (nI x) (nI y) (nI k) = if sTo (aL A) (sDn (aL A) (aR A) k) x = sTo (aL A) (sDn (aL A) (aR A) k) y then rI (nI k) (a, g) else en_cV (x_st_passDay_p73_0 (a, g)) (fun σ3 => x_b_meet_30 σ3 (nI x) (nI y) (nI k + 1)) (fun e σ => some (.inr e, σ)) := by
        rw [e_b_meet_30, show (40 : Int32) = nI 40 by decide, if_neg (by rw [q_ltI (by omega) (by omega)]; omega), c_townOf_73 (a, g) lo La R2 rk hx, c_I, c_townOf_73 (a, g) lo La R2 rk hy, c_I]
        rfl
      constructor
      · intro hp
        exact ⟨a, by rw [e, if_pos (by simpa using hp)], F2⟩
      · intro hp
        obtain ⟨f3, e3, R3, F3, _, _⟩ := c_passDay_73 a g lo La R2 rk
        exact ⟨f3, by rw [e, if_neg (by simpa using hp), e3, c_V, nI_1], R3, CFr_trans F2 F3⟩) 41 0 f1 (by omega) ⟨R1, CFr_refl _ _⟩
    refine ⟨f2, ?_, QC_trans (QC_copy g1) (QC_CFr F2)⟩
    rw [e1, c_V]; exact e2
  · intro f0 f2 g M0 h0 e0
    have ML := M0.1
    have MR := M0.2.2.1
    show ∃ f3, x_m_meet_0 (f2, g) (nI x) (nI y) = rI _ (f3, g) ∧ _
    rw [e_m_meet_0]
    dsimp only
    rw [← e0, m_isBoxY f0 g h0 M0.1.1 (by omega) hx, c_I, if_neg (by decide), m_isBoxY f0 g h0 M0.1.1 (by omega) hy, c_I, if_neg (by decide)]
    obtain ⟨f1, e1, R1, g1, g2⟩ := m_tries (f0, g) lo MR
    have L1 : MLd (aL A) f1 := MLd_of ML (fun i _ => by rw [g1 0 (by omega)]) (fun p _ _ => g1 p (by omega))
    rw [e1, c_V]
    by_cases hxy : x = y
    · rw [e_m_meet_29, if_neg (by decide), if_pos (by rw [hxy]), if_pos hxy]
      exact ⟨f1, rfl, by rw [g1 0 (by omega)]; exact h0, QM_18 g1 g2⟩
    rw [if_neg hxy]
    obtain ⟨f2, e2, F2⟩ := mu_srch (fun (f : Nat → Nat → Int32) i => x_m_meet_29 (f, g) (nI x) (nI y) i) (fun f => (f, g)) (fun k f => MRw (aL A) 29 (sDn (aL A) (aR A) k) f ∧ MFr 29 f1 f) (fun f => MFr 29 f1 f) (fun k => decide (sTo (aL A) (sDn (aL A) (aR A) k) x = sTo (aL A) (sDn (aL A) (aR A) k) y)) 41 (by
      intro a _
      show x_m_meet_29 (a, g) (nI x) (nI y) (nI 41) = _
      rw [e_m_meet_29, if_pos (by decide)]; rfl) (fun _ _ h => h.2) (by
      intro k a hk ⟨R2, F2⟩
      have La := MFr_L F2 L1
      have rk := rOK_sDn lo ro k
      have e : x_m_meet_29 (a, g) (nI x) (nI y) (nI k) = if sTo (aL A) (sDn (aL A) (aR A) k) x = sTo (aL A) (sDn (aL A) (aR A) k) y then rI (nI k) (a, g) else en_cV (x_m_dayGoes_0 (a, g) 29) (fun σ3 => x_m_meet_29 σ3 (nI x) (nI y) (nI k + 1)) (fun e σ => some (.inr e, σ)) := by
        rw [e_m_meet_29, show (40 : Int32) = nI 40 by decide, if_neg (by rw [q_ltI (by omega) (by omega)]; omega), if_neg (by rw [q_eqI (by omega) (by omega)]; exact hxy), show x_m_townOf_0 (a, g) 29 (nI x) = _ from m_townOf (b := 29) (a, g) lo (by omega) La R2 rk hx, c_I, show x_m_townOf_0 (a, g) 29 (nI y) = _ from m_townOf (b := 29) (a, g) lo (by omega) La R2 rk hy, c_I]
        rfl
      constructor
      · intro hp
        exact ⟨a, by rw [e, if_pos (by simpa using hp)], F2⟩
      · intro hp
        obtain ⟨f3, e3, R3, F3, _, _⟩ := m_dayGoes (a, g) lo (b := 29) (by omega) La R2 rk
        exact ⟨f3, by rw [e, if_neg (by simpa using hp), show x_m_dayGoes_0 (a, g) 29 = _ from e3, c_V, nI_1], R3, MFr_trans F2 F3⟩) 41 0 f1 (by omega) ⟨R1, MFr_refl _ _⟩
    refine ⟨f2, e2, ?_, QM_trans (QM_18 g1 g2) (QM_MFr F2)⟩
    rw [F2.2.1 0 (by omega) (by omega) (by omega), g1 0 (by omega)]; exact h0
