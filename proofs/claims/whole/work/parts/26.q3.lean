/-! questions by days, third: written by q3.py -/

theorem c_heaviest {Λ : mu_Ld} {r : mu_Rw} (f : Nat → Nat → Int32) (g : Nat → Nat → Int64) (lo : lOK Λ) (hL : CLd Λ f) (hR : CRw Λ 73 r f) : x_st_heaviest_p73_0 (f, g) = rI (aM (rW r) (nI 0) (lB Λ)).1 (f, g) := by
  have hB : f 34 5 = nI (lB Λ) := hL.1
  have l1 := lo.1
  rw [e_st_heaviest_p73_0]
  have h := mu_loop (fun (a : Int32 × Int32) i => x_st_heaviest_p73_6 (f, g) a.1 a.2 i) (fun p => aM (rW r) (nI 0) p) (lB Λ) (by
    intro x hx
    have hW : f 74 x = rW r x := hR.2.1 x hx
    have hS : aM (rW r) (nI 0) (x + 1) = if rW r x ≤ (aM (rW r) (nI 0) x).2 then aM (rW r) (nI 0) x else (nI x, rW r x) := rfl
    show x_st_heaviest_p73_6 (f, g) (aM (rW r) (nI 0) x).1 (aM (rW r) (nI 0) x).2 (nI x) = x_st_heaviest_p73_6 (f, g) (aM (rW r) (nI 0) (x + 1)).1 (aM (rW r) (nI 0) (x + 1)).2 (nI (x + 1))
    rw [hS, e_st_heaviest_p73_6]
    simp (disch := omega) only [q_0, q_1, q_2, q_3, q_4, q_5, q_6, q_7, q_8, q_9, q_10, q_11, q_12, q_13, q_14, q_15, q_16, q_17, q_18, q_19, q_20, q_21, q_22, q_23, q_24, q_29, q_30, q_31, q_36, q_42, q_50, q_40, q_48, q_96, q_97, q_99, q_100, q_255, q_256, q_700, q_999, q_1160, q_1400, q_99999, q_m1, hB, q_leI, nI_add, q_in, q_clamp, if_true, hW]
    rw [if_neg (by omega)]
    by_cases c : rW r x ≤ (aM (rW r) (nI 0) x).2
    · rw [if_pos c, if_pos c]
    · rw [if_neg c, if_neg c])
  refine Eq.trans h ?_
  show x_st_heaviest_p73_6 (f, g) (aM (rW r) (nI 0) (lB Λ)).1 (aM (rW r) (nI 0) (lB Λ)).2 (nI (lB Λ)) = _
  rw [e_st_heaviest_p73_6, if_pos (q_le hB)]
  rfl
theorem aM_nN (w : Nat → Int32) (z : Int32) {n : Nat} (h : ∀ x, x < n → ¬ w x ≤ z) {p : Nat} (hp : p ≤ n) (hn : n < 1000) : ((aM w z p).1 = nN) = (p = 0) := by
  by_cases h0 : p = 0
  · subst h0; exact propext ⟨fun _ => rfl, fun _ => rfl⟩
  · obtain ⟨b, hb, e⟩ := aM_pos w z h p (by omega) hp
    rw [e]
    show (nI b = nN) = _
    rw [q_nNe (by omega)]
    exact (eq_false h0).symm
theorem rW_pos {Λ : mu_Ld} {r : mu_Rw} (ro : rOK Λ r) : ∀ x, x < lB Λ → ¬ rW r x ≤ nI 0 := by
  intro x hx
  obtain ⟨w, h1, h2, e⟩ := ro.1 x hx
  rw [e, q_leI (by omega) (by omega)]
  omega
theorem rT_pos {Λ : mu_Ld} {r : mu_Rw} (ro : rOK Λ r) : ∀ p, p < lP Λ → ¬ rT r p ≤ nN := by
  intro p hp
  obtain ⟨w, h1, e⟩ := ro.2.2.2 p hp
  rw [e, Int32.not_le]
  have := q_nNlt (a := w) (by omega)
  rw [this]; trivial
theorem m_later66 {Λ : mu_Ld} {r : mu_Rw} (f : Nat → Nat → Int32) (g : Nat → Nat → Int64) (lo : lOK Λ) (hL : MLd Λ f) (hR : MRw Λ 29 r f) (ro : rOK Λ r) (w s : Int32) : x_m_later_66 (f, g) w s nN (nI 0) = rI (if w = 0 then (aM (rW r) (nI 0) (lB Λ)).1 else s) (f, g) := by
  have hB : f 0 3 = nI (lB Λ) := hL.1
  have l1 := lo.1
  have h := mu_loop (fun (a : Int32) i => x_m_later_66 (f, g) w s a i) (fun p => (aM (rW r) (nI 0) p).1) (lB Λ) (by
    intro x hx
    have hW : f 18 (30 + x) = rW r x := hR.2.1 x hx
    have hS : aM (rW r) (nI 0) (x + 1) = if rW r x ≤ (aM (rW r) (nI 0) x).2 then aM (rW r) (nI 0) x else (nI x, rW r x) := rfl
    show x_m_later_66 (f, g) w s (aM (rW r) (nI 0) x).1 (nI x) = x_m_later_66 (f, g) w s (aM (rW r) (nI 0) (x + 1)).1 (nI (x + 1))
    rw [e_m_later_66, if_neg (by show ¬ f 0 3 ≤ nI x; rw [hB]; exact nI_ge hx (by omega))]
    by_cases h0 : x = 0
    · rw [if_pos (by have := aM_nN (rW r) (nI 0) (rW_pos ro) (p := x) (by omega) (by omega); rw [show (-1 : Int32) = nN from rfl, this]; exact h0), hS, h0]
      rw [if_neg (show ¬ rW r 0 ≤ (aM (rW r) (nI 0) 0).2 from rW_pos ro 0 (by omega))]
      rfl
    · obtain ⟨b, hb, e⟩ := aM_pos (rW r) (nI 0) (rW_pos ro) x (by omega) (by omega)
      have hWb : f 18 (30 + b) = rW r b := hR.2.1 b (by omega)
      rw [if_neg (by have := aM_nN (rW r) (nI 0) (rW_pos ro) (p := x) (by omega) (by omega); rw [show (-1 : Int32) = nN from rfl, this]; exact h0), hS, e]
      simp (disch := omega) only [q_0, q_1, q_2, q_3, q_4, q_5, q_6, q_7, q_8, q_9, q_10, q_11, q_12, q_13, q_14, q_15, q_16, q_17, q_18, q_19, q_20, q_21, q_22, q_23, q_24, q_29, q_30, q_31, q_36, q_42, q_50, q_40, q_48, q_96, q_97, q_99, q_100, q_255, q_256, q_700, q_999, q_1160, q_1400, q_99999, q_m1, nI_add, q_in, q_clamp, if_true, hW, hWb]
      by_cases c : rW r x ≤ rW r b
      · rw [if_pos c, if_pos c]
      · rw [if_neg c, if_neg c])
  refine Eq.trans h ?_
  show x_m_later_66 (f, g) w s (aM (rW r) (nI 0) (lB Λ)).1 (nI (lB Λ)) = _
  rw [e_m_later_66, if_pos (q_le hB)]
  by_cases c : w = 0
  · rw [if_pos c, if_pos c]; rfl
  · rw [if_neg c, if_neg c]; rfl

theorem q_later {A : mu_A} {f : Nat → Nat → Int32} (ok : AOK A) (hM : MRel A f) (hC : CRel A f) (v1 v2 : Int32) : Qn f (fun σ => x_b_later_0 σ v1 v2) (fun σ => x_m_later_0 σ v1 v2) (id) := by
  have lo := ok.1
  have go := ok.2.1
  have ro := ok.2.2.2.1
  have l1 := lo.1
  have l2 := lo.2.1
  have g8 := go.2.1
  have cB := hC.1.1
  have cP := hC.1.2.1
  have cT := hC.2.1.1
  have L := hC.1
  have R := hC.2.2.1
  rcases ok_badR v2 (a := 0) (b := 1) (by omega) (by omega) with bd0 | ⟨w, _, hw, rfl⟩
  · refine Qn_err ok hM 1 (by omega) ?_ ?_
    · intro g
      show x_b_later_0 (f, g) v1 v2 = _
      rw [e_b_later_0, show x_b_checkWhat_0 (f, g) v2 1 = _ from c_checkWhatN (f, g) (b := 1) bd0, c_Vx]
    · intro f0 f2 g M0 h0 e0
      show x_m_later_0 (f2, g) v1 v2 = _
      rw [e_m_later_0]
      dsimp only
      rw [← e0, show x_m_isWhat_0 (f0, g) v2 1 = _ from m_isWhatN f0 g (b := 1) h0 bd0, c_I, if_pos (by decide)]
      rfl
  rcases ok_badR v1 (a := 0) (b := 40) (by omega) (by omega) with bd1 | ⟨n, kn, hn, rfl⟩
  · refine Qn_err ok hM 2 (by omega) ?_ ?_
    · intro g
      show x_b_later_0 (f, g) v1 (nI w) = _
      rw [e_b_later_0, show x_b_checkWhat_0 (f, g) (nI w) 1 = _ from c_checkWhatY (f, g) (b := 1) hw (by omega), c_V, show x_b_checkRange_0 (f, g) v1 0 40 = _ from c_checkRangeN (f, g) (a := 0) (b := 40) bd1, c_Vx]
    · intro f0 f2 g M0 h0 e0
      show x_m_later_0 (f2, g) v1 (nI w) = _
      rw [e_m_later_0]
      dsimp only
      rw [← e0, show x_m_isWhat_0 (f0, g) (nI w) 1 = _ from m_isWhatY f0 g (b := 1) h0 hw (by omega), c_I, if_neg (by decide), show x_m_isDays_0 (f0, g) v1 0 2 = _ from m_isDaysN f0 g (a := 0) (w := 2) h0 bd1 (by omega), c_I, if_pos (by decide)]
      rfl
  refine Qn_val ok hM rfl (if nI w = 0 then (aM (rW (sDn (aL A) (aR A) n)) (nI 0) (lB (aL A))).1 else nI (sCs (aL A) (aR A) n)) ?_ ?_
  · intro g
    show ∃ f', x_b_later_0 (f, g) (nI n) (nI w) = rI _ (f', g) ∧ _
    rw [e_b_later_0, show x_b_checkWhat_0 (f, g) (nI w) 1 = _ from c_checkWhatY (f, g) (b := 1) hw (by omega), c_V, show x_b_checkRange_0 (f, g) (nI n) 0 40 = _ from c_checkRangeY (f, g) (a := 0) (b := 40) kn hn (by omega), c_V]
    obtain ⟨f1, e1, L1, R1, Q1⟩ := c_lookAhead f g lo L R ro (n := n) (by omega)
    rw [e1, c_I]
    refine ⟨f1, ?_, Q1⟩
    by_cases c : nI w = 0
    · rw [if_pos c, if_pos c, c_heaviest f1 g lo L1 R1, c_I]; rfl
    · rw [if_neg c, if_neg c]; rfl
  · intro f0 f2 g M0 h0 e0
    have ML := M0.1
    have MR := M0.2.2.1
    show ∃ f3, x_m_later_0 (f2, g) (nI n) (nI w) = rI _ (f3, g) ∧ _
    rw [e_m_later_0]
    dsimp only
    rw [← e0, show x_m_isWhat_0 (f0, g) (nI w) 1 = _ from m_isWhatY f0 g (b := 1) h0 hw (by omega), c_I, if_neg (by decide), show x_m_isDays_0 (f0, g) (nI n) 0 2 = _ from m_isDaysY f0 g (a := 0) h0 kn hn _, c_I, if_neg (by decide)]
    obtain ⟨f1, e1, R1, g1, g2⟩ := m_tries (f0, g) lo MR
    have L1 : MLd (aL A) f1 := MLd_of ML (fun i _ => by rw [g1 0 (by omega)]) (fun p _ _ => g1 p (by omega))
    rw [e1, c_V]
    obtain ⟨a, e2, R2, F2, s2⟩ := mu_inv (fun (a : Int32 × (Nat → Nat → Int32)) i => x_m_later_35 (a.2, g) (nI n) (nI w) a.1 i) (fun k a => MRw (aL A) 29 (sDn (aL A) (aR A) k) a.2 ∧ MFr 29 f1 a.2 ∧ a.1 = nI (sCs (aL A) (aR A) k)) n (nI 0, f1) ⟨R1, MFr_refl _ _, rfl⟩ (by
      intro k a hk ⟨R2, F2, s2⟩
      obtain ⟨f3, e3, R3, F3, _, b3⟩ := m_dayGoes (a.2, g) lo (b := 29) (by omega) (MFr_L F2 L1) R2 (rOK_sDn lo ro k)
      refine ⟨(a.1 + f3 0 52, f3), ?_, R3, MFr_trans F2 F3, ?_⟩
      · show x_m_later_35 (a.2, g) (nI n) (nI w) a.1 (nI k) = x_m_later_35 (f3, g) (nI n) (nI w) (a.1 + f3 0 52) (nI (k + 1))
        rw [e_m_later_35, if_neg (nI_ge hk (by omega)), show x_m_dayGoes_0 (a.2, g) 29 = _ from e3, c_V, nI_1]
      · show a.1 + f3 0 52 = _
        rw [s2, b3, nI_add]; rfl)
    obtain ⟨s, f2⟩ := a
    dsimp only at R2 F2 s2 e2
    refine ⟨f2, ?_, by rw [F2.2.1 0 (by omega) (by omega) (by omega), g1 0 (by omega)]; exact h0, QM_trans (QM_18 g1 g2) (QM_MFr F2)⟩
    refine Eq.trans e2 ?_
    rw [e_m_later_35, if_pos (Int32.le_refl _), s2]
    exact m_later66 f2 g lo (MFr_L F2 L1) R2 (rOK_sDn lo ro n) _ _

theorem m_weariest26 {Λ : mu_Ld} {r : mu_Rw} (f : Nat → Nat → Int32) (g : Nat → Nat → Int64) (lo : lOK Λ) (hL : MLd Λ f) (hR : MRw Λ 29 r f) (ro : rOK Λ r) : x_m_weariest_26 (f, g) nN (nI 0) = rI (aM (rT r) nN (lP Λ)).1 (f, g) := by
  have hP : f 0 4 = nI (lP Λ) := hL.2.1
  have l2 := lo.2.1
  have h := mu_loop (fun (a : Int32) i => x_m_weariest_26 (f, g) a i) (fun p => (aM (rT r) nN p).1) (lP Λ) (by
    intro x hx
    have hW : f 18 (50 + x) = rT r x := hR.2.2.2.2 x hx
    have hS : aM (rT r) nN (x + 1) = if rT r x ≤ (aM (rT r) nN x).2 then aM (rT r) nN x else (nI x, rT r x) := rfl
    show x_m_weariest_26 (f, g) (aM (rT r) nN x).1 (nI x) = x_m_weariest_26 (f, g) (aM (rT r) nN (x + 1)).1 (nI (x + 1))
    rw [e_m_weariest_26, if_neg (by show ¬ f 0 4 ≤ nI x; rw [hP]; exact nI_ge hx (by omega))]
    by_cases h0 : x = 0
    · rw [if_pos (by have := aM_nN (rT r) nN (rT_pos ro) (p := x) (by omega) (by omega); rw [show (-1 : Int32) = nN from rfl, this]; exact h0), hS, h0]
      rw [if_neg (show ¬ rT r 0 ≤ (aM (rT r) nN 0).2 from rT_pos ro 0 (by omega))]
      rfl
    · obtain ⟨b, hb, e⟩ := aM_pos (rT r) nN (rT_pos ro) x (by omega) (by omega)
      have hWb : f 18 (50 + b) = rT r b := hR.2.2.2.2 b (by omega)
      rw [if_neg (by have := aM_nN (rT r) nN (rT_pos ro) (p := x) (by omega) (by omega); rw [show (-1 : Int32) = nN from rfl, this]; exact h0), hS, e]
      simp (disch := omega) only [q_0, q_1, q_2, q_3, q_4, q_5, q_6, q_7, q_8, q_9, q_10, q_11, q_12, q_13, q_14, q_15, q_16, q_17, q_18, q_19, q_20, q_21, q_22, q_23, q_24, q_29, q_30, q_31, q_36, q_42, q_50, q_40, q_48, q_96, q_97, q_99, q_100, q_255, q_256, q_700, q_999, q_1160, q_1400, q_99999, q_m1, nI_add, q_in, q_clamp, if_true, hW, hWb]
      by_cases c : rT r x ≤ rT r b
      · rw [if_pos c, if_pos c]
      · rw [if_neg c, if_neg c])
  refine Eq.trans h ?_
  show x_m_weariest_26 (f, g) (aM (rT r) nN (lP Λ)).1 (nI (lP Λ)) = _
  rw [e_m_weariest_26, if_pos (q_le hP)]
  rfl
theorem c_weariest20 {Λ : mu_Ld} {r : mu_Rw} (f : Nat → Nat → Int32) (g : Nat → Nat → Int64) (lo : lOK Λ) (hL : CLd Λ f) (hR : CRw Λ 73 r f) : x_b_weariest_20 (f, g) nN nN (nI 0) = rI (aM (rT r) nN (lP Λ)).1 (f, g) := by
  have hP : f 34 9 = nI (lP Λ) := hL.2.1
  have l2 := lo.2.1
  have h := mu_loop (fun (a : Int32 × Int32) i => x_b_weariest_20 (f, g) a.1 a.2 i) (fun p => aM (rT r) nN p) (lP Λ) (by
    intro x hx
    have hW : f 77 x = rT r x := hR.2.2.2.2 x hx
    have hS : aM (rT r) nN (x + 1) = if rT r x ≤ (aM (rT r) nN x).2 then aM (rT r) nN x else (nI x, rT r x) := rfl
    show x_b_weariest_20 (f, g) (aM (rT r) nN x).1 (aM (rT r) nN x).2 (nI x) = x_b_weariest_20 (f, g) (aM (rT r) nN (x + 1)).1 (aM (rT r) nN (x + 1)).2 (nI (x + 1))
    rw [hS, e_b_weariest_20]
    simp (disch := omega) only [q_0, q_1, q_2, q_3, q_4, q_5, q_6, q_7, q_8, q_9, q_10, q_11, q_12, q_13, q_14, q_15, q_16, q_17, q_18, q_19, q_20, q_21, q_22, q_23, q_24, q_29, q_30, q_31, q_36, q_42, q_50, q_40, q_48, q_96, q_97, q_99, q_100, q_255, q_256, q_700, q_999, q_1160, q_1400, q_99999, q_m1, hP, q_leI, nI_add, q_in, q_clamp, if_true, hW]
    rw [if_neg (by omega)]
    by_cases c : rT r x ≤ (aM (rT r) nN x).2
    · rw [if_pos c, if_pos c]
    · rw [if_neg c, if_neg c])
  refine Eq.trans h ?_
  show x_b_weariest_20 (f, g) (aM (rT r) nN (lP Λ)).1 (aM (rT r) nN (lP Λ)).2 (nI (lP Λ)) = _
  rw [e_b_weariest_20, if_pos (q_le hP)]
  rfl

theorem q_weariest {A : mu_A} {f : Nat → Nat → Int32} (ok : AOK A) (hM : MRel A f) (hC : CRel A f) (v1 : Int32) : Qn f (fun σ => x_b_weariest_0 σ v1) (fun σ => x_m_weariest_0 σ v1) (fun e => if e = 2 then 1 else e) := by
  have lo := ok.1
  have go := ok.2.1
  have ro := ok.2.2.2.1
  have l1 := lo.1
  have l2 := lo.2.1
  have g8 := go.2.1
  have cB := hC.1.1
  have cP := hC.1.2.1
  have cT := hC.2.1.1
  have L := hC.1
  have R := hC.2.2.1
  rcases ok_badR v1 (a := 0) (b := 40) (by omega) (by omega) with bd0 | ⟨n, kn, hn, rfl⟩
  · refine Qn_err ok hM 2 (by omega) ?_ ?_
    · intro g
      show x_b_weariest_0 (f, g) v1 = _
      rw [e_b_weariest_0, show x_b_checkRange_0 (f, g) v1 0 40 = _ from c_checkRangeN (f, g) (a := 0) (b := 40) bd0, c_Vx]
    · intro f0 f2 g M0 h0 e0
      show x_m_weariest_0 (f2, g) v1 = _
      rw [e_m_weariest_0]
      dsimp only
      rw [← e0, show x_m_isDays_0 (f0, g) v1 0 1 = _ from m_isDaysN f0 g (a := 0) (w := 1) h0 bd0 (by omega), c_I, if_pos (by decide)]
      rfl
  refine Qn_val ok hM rfl ((aM (rT (sDn (aL A) (aR A) n)) nN (lP (aL A))).1) ?_ ?_
  · intro g
    show ∃ f', x_b_weariest_0 (f, g) (nI n) = rI _ (f', g) ∧ _
    rw [e_b_weariest_0, show x_b_checkRange_0 (f, g) (nI n) 0 40 = _ from c_checkRangeY (f, g) (a := 0) (b := 40) kn hn (by omega), c_V]
    obtain ⟨f1, e1, L1, R1, Q1⟩ := c_lookAhead f g lo L R ro (n := n) (by omega)
    rw [e1, c_I]
    exact ⟨f1, c_weariest20 f1 g lo L1 R1, Q1⟩
  · intro f0 f2 g M0 h0 e0
    have ML := M0.1
    have MR := M0.2.2.1
    show ∃ f3, x_m_weariest_0 (f2, g) (nI n) = rI _ (f3, g) ∧ _
    rw [e_m_weariest_0]
    dsimp only
    rw [← e0, show x_m_isDays_0 (f0, g) (nI n) 0 1 = _ from m_isDaysY f0 g (a := 0) h0 kn hn _, c_I, if_neg (by decide)]
    obtain ⟨f1, e1, L1, R1, Q1, z1⟩ := m_goesTo f0 g lo ML MR ro (n := n) (by omega)
    rw [e1, c_V]
    exact ⟨f1, m_weariest26 f1 g lo L1 R1 (rOK_sDn lo ro n), by rw [z1, h0], Q1⟩

def sIn2 (Λ : mu_Ld) (r : mu_Rw) (t : Int32) : Nat := mu_mk (fun x => decide (sTo Λ r x = t)) (lB Λ)
theorem c_bitsIn {Λ : mu_Ld} {r : mu_Rw} (f : Nat → Nat → Int32) (g : Nat → Nat → Int64) (lo : lOK Λ) (hL : CLd Λ f) (hR : CRw Λ 73 r f) (ro : rOK Λ r) (t : Int32) : x_st_bitsIn_p73_0 (f, g) t = rI (nI (sIn2 Λ r t)) (f, g) := by
  have hB : f 34 5 = nI (lB Λ) := hL.1
  have l1 := lo.1
  rw [e_st_bitsIn_p73_0]
  have h := mu_loop (fun (a : Nat) i => x_st_bitsIn_p73_4 (f, g) t (nI a) i) (fun p => mu_mk (fun x => decide (sTo Λ r x = t)) p) (lB Λ) (by
    intro x hx
    show x_st_bitsIn_p73_4 (f, g) t (nI _) (nI x) = x_st_bitsIn_p73_4 (f, g) t (nI _) (nI (x + 1))
    rw [e_st_bitsIn_p73_4, c_townOf_73 (f, g) lo hL hR ro hx, c_I]
    simp (disch := omega) only [q_0, q_1, q_2, q_3, q_4, q_5, q_6, q_7, q_8, q_9, q_10, q_11, q_12, q_13, q_14, q_15, q_16, q_17, q_18, q_19, q_20, q_21, q_22, q_23, q_24, q_29, q_30, q_31, q_36, q_42, q_50, q_40, q_48, q_96, q_97, q_99, q_100, q_255, q_256, q_700, q_999, q_1160, q_1400, q_99999, q_m1, hB, q_leI, nI_add, q_shl, fa_or]
    rw [if_neg (by omega)]
    by_cases c : sTo Λ r x = t
    · rw [if_pos c, mu_mk_t (decide_eq_true c)]
    · rw [if_neg c, mu_mk_f (decide_eq_false c)])
  refine Eq.trans h ?_
  show x_st_bitsIn_p73_4 (f, g) t (nI _) (nI (lB Λ)) = _
  rw [e_st_bitsIn_p73_4, if_pos (q_le hB)]
  rfl
theorem m_calls43 {Λ : mu_Ld} {r : mu_Rw} (f : Nat → Nat → Int32) (g : Nat → Nat → Int64) (lo : lOK Λ) (hL : MLd Λ f) (hR : MRw Λ 29 r f) (ro : rOK Λ r) (t n k : Int32) (a : Nat) : x_m_calls_43 (f, g) t n (nI a) k (nI 0) = en_cV (x_m_dayGoes_0 (f, g) 29) (fun σ1 => x_m_calls_34 σ1 t n (nI (a ||| sIn2 Λ r t)) (k + 1)) (fun e σ => some (.inr e, σ)) := by
  have hB : f 0 3 = nI (lB Λ) := hL.1
  have l1 := lo.1
  have h := mu_loop (fun (a : Nat) i => x_m_calls_43 (f, g) t n (nI a) k i) (fun p => mu_up (fun x a => if decide (sTo Λ r x = t) then a ||| 2 ^ x else a) a p) (lB Λ) (by
    intro x hx
    show x_m_calls_43 (f, g) t n (nI _) k (nI x) = x_m_calls_43 (f, g) t n (nI _) k (nI (x + 1))
    rw [e_m_calls_43, show x_m_townOf_0 (f, g) 29 (nI x) = _ from m_townOf (b := 29) (f, g) lo (by omega) hL hR ro hx, c_I]
    simp (disch := omega) only [q_0, q_1, q_2, q_3, q_4, q_5, q_6, q_7, q_8, q_9, q_10, q_11, q_12, q_13, q_14, q_15, q_16, q_17, q_18, q_19, q_20, q_21, q_22, q_23, q_24, q_29, q_30, q_31, q_36, q_42, q_50, q_40, q_48, q_96, q_97, q_99, q_100, q_255, q_256, q_700, q_999, q_1160, q_1400, q_99999, q_m1, hB, q_leI, nI_add, q_shl, fa_or, Nat.or_zero, mu_upS]
    rw [if_neg (by omega)]
    by_cases c : sTo Λ r x = t
    · rw [if_pos c]; simp only [c, decide_true, if_true]
    · rw [if_neg c]; simp only [c, decide_false, if_false, Bool.false_eq_true])
  refine Eq.trans h ?_
  show x_m_calls_43 (f, g) t n (nI _) k (nI (lB Λ)) = _
  rw [or_mk, e_m_calls_43, if_pos (q_le hB)]
  rfl

theorem q_calls {A : mu_A} {f : Nat → Nat → Int32} (ok : AOK A) (hM : MRel A f) (hC : CRel A f) (v1 v2 : Int32) : Qn f (fun σ => x_b_calls_0 σ v1 v2) (fun σ => x_m_calls_0 σ v1 v2) (id) := by
  have lo := ok.1
  have go := ok.2.1
  have ro := ok.2.2.2.1
  have l1 := lo.1
  have l2 := lo.2.1
  have g8 := go.2.1
  have cB := hC.1.1
  have cP := hC.1.2.1
  have cT := hC.2.1.1
  have L := hC.1
  have R := hC.2.2.1
  rcases ok_bad v1 (n := (aG A).1) (by omega) with bd0 | ⟨t, ht, rfl⟩
  · refine Qn_err ok hM 1 (by omega) ?_ ?_
    · intro g
      show x_b_calls_0 (f, g) v1 v2 = _
      rw [e_b_calls_0, c_checkTownN f g cT bd0, c_Vx]
    · intro f0 f2 g M0 h0 e0
      show x_m_calls_0 (f2, g) v1 v2 = _
      rw [e_m_calls_0]
      dsimp only
      rw [← e0, m_isTownN f0 g h0 M0.2.1.1 bd0, c_I, if_pos (by decide)]
      rfl
  rcases ok_badR v2 (a := 0) (b := 40) (by omega) (by omega) with bd1 | ⟨n, kn, hn, rfl⟩
  · refine Qn_err ok hM 2 (by omega) ?_ ?_
    · intro g
      show x_b_calls_0 (f, g) (nI t) v2 = _
      rw [e_b_calls_0, c_checkTownY f g cT (by omega) ht, c_V, show x_b_checkRange_0 (f, g) v2 0 40 = _ from c_checkRangeN (f, g) (a := 0) (b := 40) bd1, c_Vx]
    · intro f0 f2 g M0 h0 e0
      show x_m_calls_0 (f2, g) (nI t) v2 = _
      rw [e_m_calls_0]
      dsimp only
      rw [← e0, m_isTownY f0 g h0 M0.2.1.1 (by omega) ht, c_I, if_neg (by decide), show x_m_isDays_0 (f0, g) v2 0 2 = _ from m_isDaysN f0 g (a := 0) (w := 2) h0 bd1 (by omega), c_I, if_pos (by decide)]
      rfl
  refine Qn_val ok hM rfl (nI (mu_up (fun k a => a ||| sIn2 (aL A) (sDn (aL A) (aR A) k) (nI t)) 0 (n + 1))) ?_ ?_
  · intro g
    show ∃ f', x_b_calls_0 (f, g) (nI t) (nI n) = rI _ (f', g) ∧ _
    rw [e_b_calls_0, c_checkTownY f g cT (by omega) ht, c_V, show x_b_checkRange_0 (f, g) (nI n) 0 40 = _ from c_checkRangeY (f, g) (a := 0) (b := 40) kn hn (by omega), c_V]
    obtain ⟨f1, e1, R1, g1, g2⟩ := c_copy73 f g lo R
    have L1 : CLd (aL A) f1 := CLd_of L (fun p _ _ _ => g1 p (by omega))
    rw [e1, c_V, c_bitsIn f1 g lo L1 R1 ro, c_I]
    obtain ⟨a, e2, R2, F2, s2⟩ := mu_invF (fun (a : Int32 × (Nat → Nat → Int32)) i => x_b_calls_35 (a.2, g) (nI t) (nI n) a.1 i) (fun k a => CRw (aL A) 73 (sDn (aL A) (aR A) (k - 1)) a.2 ∧ CFr 73 f1 a.2 ∧ a.1 = nI (mu_up (fun k a => a ||| sIn2 (aL A) (sDn (aL A) (aR A) k) (nI t)) 0 k)) 1 (n + 1) (by omega) (nI (sIn2 (aL A) (aR A) (nI t)), f1) ⟨R1, CFr_refl _ _, by show nI _ = nI (0 ||| _); rw [Nat.zero_or]; rfl⟩ (by
      intro k a k1 hk ⟨R2, F2, s2⟩
      have rk := rOK_sDn lo ro (k - 1)
      obtain ⟨f3, e3, R3, F3, _, _⟩ := c_passDay_73 a.2 g lo (CFr_L (by omega) F2 L1) R2 rk
      have F4 := CFr_trans F2 F3
      have R4 : CRw (aL A) 73 (sDn (aL A) (aR A) k) f3 := by rw [show k = (k - 1) + 1 by omega]; exact R3
      refine ⟨(a.1 ||| nI (sIn2 (aL A) (sDn (aL A) (aR A) k) (nI t)), f3), ?_, R4, F4, ?_⟩
      · show x_b_calls_35 (a.2, g) (nI t) (nI n) a.1 (nI k) = x_b_calls_35 (f3, g) (nI t) (nI n) (a.1 ||| nI (sIn2 (aL A) (sDn (aL A) (aR A) k) (nI t))) (nI (k + 1))
        rw [e_b_calls_35, if_neg (by rw [q_ltI (by omega) (by omega)]; omega), e3, c_V, c_bitsIn f3 g lo (CFr_L (by omega) F4 L1) R4 (rOK_sDn lo ro k), c_I, nI_1]
      · show a.1 ||| nI _ = _
        rw [s2, fa_or]; rfl)
    obtain ⟨s, f2⟩ := a
    dsimp only at R2 F2 s2 e2
    refine ⟨f2, ?_, QC_trans (QC_copy g1) (QC_CFr F2)⟩
    refine Eq.trans e2 ?_
    rw [e_b_calls_35, if_pos (by rw [q_ltI (by omega) (by omega)]; omega), s2]; rfl
  · intro f0 f2 g M0 h0 e0
    have ML := M0.1
    have MR := M0.2.2.1
    show ∃ f3, x_m_calls_0 (f2, g) (nI t) (nI n) = rI _ (f3, g) ∧ _
    rw [e_m_calls_0]
    dsimp only
    rw [← e0, m_isTownY f0 g h0 M0.2.1.1 (by omega) ht, c_I, if_neg (by decide), show x_m_isDays_0 (f0, g) (nI n) 0 2 = _ from m_isDaysY f0 g (a := 0) h0 kn hn _, c_I, if_neg (by decide)]
    obtain ⟨f1, e1, R1, g1, g2⟩ := m_tries (f0, g) lo MR
    have L1 : MLd (aL A) f1 := MLd_of ML (fun i _ => by rw [g1 0 (by omega)]) (fun p _ _ => g1 p (by omega))
    rw [e1, c_V]
    obtain ⟨a, e2, R2, F2⟩ := mu_inv (fun (a : Nat × (Nat → Nat → Int32)) i => x_m_calls_34 (a.2, g) (nI t) (nI n) (nI a.1) i) (fun k a => MRw (aL A) 29 (sDn (aL A) (aR A) k) a.2 ∧ MFr 29 f1 a.2 ∧ a.1 = mu_up (fun k a => a ||| sIn2 (aL A) (sDn (aL A) (aR A) k) (nI t)) 0 k) (n + 1) (0, f1) ⟨R1, MFr_refl _ _, rfl⟩ (by
      intro k a hk ⟨R2, F2, s2⟩
      have rk := rOK_sDn lo ro k
      have La := MFr_L F2 L1
      obtain ⟨f3, e3, R3, F3, _, b3⟩ := m_dayGoes (a.2, g) lo (b := 29) (by omega) La R2 rk
      refine ⟨(a.1 ||| sIn2 (aL A) (sDn (aL A) (aR A) k) (nI t), f3), ?_, R3, MFr_trans F2 F3, ?_⟩
      · show x_m_calls_34 (a.2, g) (nI t) (nI n) (nI a.1) (nI k) = x_m_calls_34 (f3, g) (nI t) (nI n) (nI (a.1 ||| sIn2 (aL A) (sDn (aL A) (aR A) k) (nI t))) (nI (k + 1))
        rw [e_m_calls_34, if_neg (by rw [q_ltI (by omega) (by omega)]; omega)]
        rw [show x_m_calls_43 (a.2, g) (nI t) (nI n) (nI a.1) (nI k) 0 = _ from m_calls43 a.2 g lo La R2 rk (nI t) (nI n) (nI k) a.1, show x_m_dayGoes_0 (a.2, g) 29 = _ from e3, c_V, nI_1]
      · show a.1 ||| _ = _
        rw [s2]; rfl)
    obtain ⟨s, f2⟩ := a
    dsimp only at R2 F2 e2
    obtain ⟨F2, s2⟩ := F2
    refine ⟨f2, ?_, by rw [F2.2.1 0 (by omega) (by omega) (by omega), g1 0 (by omega)]; exact h0, QM_trans (QM_18 g1 g2) (QM_MFr F2)⟩
    refine Eq.trans e2 ?_
    rw [e_m_calls_34, if_pos (by rw [q_ltI (by omega) (by omega)]; omega), s2]; rfl
