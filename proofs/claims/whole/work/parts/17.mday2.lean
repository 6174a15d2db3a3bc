/-! the model's day: a box, all boxes, the days -/
theorem sH_lt {Λ : mu_Ld} (r : mu_Rw) (v : Int32) : sH Λ r v < 2 ^ lP Λ := mu_mk_lt _ _
theorem MR21 {Λ : mu_Ld} {b : Nat} {r : mu_Rw} {f f' : Nat → Nat → Int32} (lo : lOK Λ) (hL : MLd Λ f) (hR : MRw Λ b r f) (e : ∀ p, p ≠ 20 → p ≠ 21 → f' p = f p) : MLd Λ f' ∧ MRw Λ b r f' :=
  ⟨MLd_of hL (fun i _ => by rw [e 0 (by omega) (by omega)]) (fun p _ _ => e p (by omega) (by omega)), MRw_of hR (fun i _ _ => by rw [e 18 (by omega) (by omega)]) lo⟩
theorem m_boxGoes {Λ : mu_Ld} {b : Nat} {r : mu_Rw} (σ : en_S) (lo : lOK Λ) (hb : b ≤ 29) (hL : MLd Λ σ.1) (hR : MRw Λ b r σ.1) (ro : rOK Λ r) {x : Nat} (hx : x < lB Λ) : ∃ f', x_m_boxGoes_0 σ (nI b) (nI x) = rV (f', σ.2) ∧ MRw Λ b (sBx Λ r x).1 f' ∧ MFr b σ.1 f' ∧ f' 0 51 = σ.1 0 51 ||| nI (sBx Λ r x).2.1 ∧ f' 0 50 = σ.1 0 50 ||| nI (sBx Λ r x).2.2.1 ∧ f' 0 52 = σ.1 0 52 + nI (sBx Λ r x).2.2.2 := by
  have l1 := lo.1
  have l2 := lo.2.1
  have A : ∃ f1, x_m_boxGoes_0 σ (nI b) (nI x) = x_m_boxGoes_45 (f1, σ.2) (nI b) (nI x) (sMo Λ r x) (nI x) (nI b) ∧ ∀ p, p ≠ 20 → p ≠ 21 → f1 p = σ.1 p := by
    have hK := hL.2.2.2.2.2.2.1
    rw [e_m_boxGoes_0]
    unfold sMo
    cases hk : lK Λ with
    | none =>
      rw [hk] at hK
      have hK' : σ.1 0 5 = -1 := hK
      refine ⟨σ.1, ?_, fun _ _ _ => rfl⟩
      rw [if_pos hK', m_isBorne σ lo hb hL hR hx, c_I]
      cases sB Λ r x
      · rw [if_pos (show tb false = 0 from rfl)]; rfl
      · rw [if_neg (by decide)]; rfl
    | some l =>
      rw [hk] at hK
      obtain ⟨k, hk1, hk2, hk3⟩ := hK
      have hd : sDp l 0 := by have := lo.2.2.2.2.1; rw [hk] at this; exact this
      obtain ⟨f1, e1, fr1⟩ := m_asks σ lo hb hL hR ro hx hk3 hd
      refine ⟨f1, ?_, fr1⟩
      have hne : ¬ σ.1 0 5 = -1 := by
        rw [hk1]
        intro h
        have := q_nNe (a := k) (by omega)
        rw [show (nN : Int32) = -1 from rfl, h] at this
        simp at this
      rw [if_neg hne, hk1, e1, c_I, m_bounded, c_I]
      rfl
  obtain ⟨f1, eA, frA⟩ := A
  obtain ⟨L1, R1⟩ := MR21 lo hL hR frA
  have R2 : MRw Λ b (sW1 Λ r x) (en_u1 f1 18 (b + 1 + x) (sIn (rW r x + sMo Λ r x) (nI 1) (nI 99))) := MRw_uW lo R1 hx _
  have F2 : MFr b f1 (en_u1 f1 18 (b + 1 + x) (sIn (rW r x + sMo Λ r x) (nI 1) (nI 99))) := MFr_u18 _ _ (by omega) (by omega)
  have L2 := MFr_L F2 L1
  have ro2 : rOK Λ (sW1 Λ r x) := rOK_sW1 ro x
  have B : ∃ f3, x_m_boxGoes_45 (f1, σ.2) (nI b) (nI x) (sMo Λ r x) (nI x) (nI b) = x_m_boxGoes_105 (f3, σ.2) (nI b) (nI x) (tb (sFa Λ (sW1 Λ r x) x)) ∧ ∀ p, p ≠ 20 → p ≠ 21 → f3 p = (en_u1 f1 18 (b + 1 + x) (sIn (rW r x + sMo Λ r x) (nI 1) (nI 99))) p := by
    rw [e_m_boxGoes_45, m_weighs (r := r) (f1, σ.2) lo hb R1 hx, c_V]
    generalize en_u1 f1 18 (b + 1 + x) (sIn (rW r x + sMo Λ r x) (nI 1) (nI 99)) = f2 at R2 F2 L2 ⊢
    have hF := L2.2.2.2.2.2.2.2
    unfold sFa
    cases hk : lF Λ with
    | none =>
      rw [hk] at hF
      have hF' : f2 0 6 = -1 := hF
      refine ⟨f2, ?_, fun _ _ _ => rfl⟩
      rw [if_pos hF', m_isBorne (r := sW1 Λ r x) (f2, σ.2) lo hb L2 R2 hx, c_I]
      cases sB Λ (sW1 Λ r x) x
      · rw [if_pos (show tb false = 0 from rfl)]; rfl
      · rw [if_neg (by decide), m_handsAt (r := sW1 Λ r x) (f2, σ.2) lo hb L2 R2, c_I, m_leanBy (f2, σ.2) lo L2 (sH_lt _ _), c_I]
        by_cases c : nI 5 < sLn Λ (sH Λ (sW1 Λ r x) (nI x))
        · rw [if_neg (by rw [Int32.not_le]; exact c)]
          simp only [c, decide_true, Bool.and_self]; rfl
        · rw [if_pos (by rw [Int32.not_lt] at c; exact c)]
          simp only [c, decide_false, Bool.and_false]; rfl
    | some l =>
      rw [hk] at hF
      obtain ⟨k, hk1, hk2, hk3⟩ := hF
      have hd : sDp l 0 := by have := lo.2.2.2.2.2; rw [hk] at this; exact this
      obtain ⟨f3, e3, fr3⟩ := m_asks (r := sW1 Λ r x) (f2, σ.2) lo hb L2 R2 ro2 hx hk3 hd
      refine ⟨f3, ?_, fr3⟩
      have hne : ¬ f2 0 6 = -1 := by
        rw [hk1]
        intro h
        have := q_nNe (a := k) (by omega)
        rw [show (nN : Int32) = -1 from rfl, h] at this
        simp at this
      rw [if_neg hne]
      dsimp only
      rw [hk1, e3, c_I]
      by_cases c : nI 0 < sE l (sV Λ (sW1 Λ r x) x)
      · rw [if_neg (by rw [Int32.not_le]; exact c), decide_eq_true c]; rfl
      · rw [if_pos (by rw [Int32.not_lt] at c; exact c), decide_eq_false c]; rfl
  obtain ⟨f3, eB, frB⟩ := B
  obtain ⟨L3, R3⟩ := MR21 lo L2 R2 frB
  have F3 : MFr b σ.1 f3 := MFr_trans (MFr_21 frA) (MFr_trans F2 (MFr_21 frB))
  have z : ∀ i, f3 0 i = σ.1 0 i := by
    intro i
    rw [frB 0 (by omega) (by omega), u1_ne _ _ (by omega), frA 0 (by omega) (by omega)]
  rw [eA, eB, e_m_boxGoes_105]
  unfold sBx
  cases hfa : sFa Λ (sW1 Λ r x) x
  · rw [if_pos (show tb false = 0 from rfl), if_neg (by decide), m_isBorne (r := sW1 Λ r x) (f3, σ.2) lo hb L3 R3 hx, c_I]
    cases hbo : sB Λ (sW1 Λ r x) x
    · rw [if_pos (show tb false = 0 from rfl), if_neg (by decide)]
      refine ⟨f3, rfl, R3, F3, ?_, ?_, ?_⟩
      · rw [z]; exact (Int32.or_zero).symm
      · rw [z]; exact (Int32.or_zero).symm
      · rw [z]; exact (Int32.add_zero _).symm
    · rw [if_neg (by decide), if_pos rfl]
      obtain ⟨s, hs, es⟩ := ro2.2.1 x hx
      have hS := R3.2.2.1 x hx
      rw [es] at hS
      have hR2 := L3.2.2.2.2.1 x hx
      have h6 := lo.2.2.1 x hx
      simp (disch := omega) only [q_0, q_1, q_2, q_3, q_4, q_5, q_6, q_7, q_8, q_9, q_10, q_11, q_12, q_13, q_14, q_15, q_16, q_17, q_18, q_19, q_20, q_21, q_22, q_23, q_24, q_29, q_30, q_31, q_36, q_42, q_50, q_40, q_48, q_96, q_97, q_99, q_100, q_255, q_256, q_700, q_999, q_1160, q_1400, q_99999, q_m1, nI_add, q_in, q_clamp, if_true, hS, hR2, q_eqI]
      rw [if_neg (by omega), pk_rem (by omega) (by omega) (by omega)]
      obtain ⟨s', hs', es', er⟩ := sNx_ok lo hx hs
      have R4 : MRw Λ b (wS (sW1 Λ r x) x (sNx Λ x (nI s))) (en_u1 f3 18 (b + 7 + x) (nI ((s + 1) % lR Λ x))) := by rw [es', er]; exact MRw_uS lo R3 hx _
      have F4 : MFr b f3 (en_u1 f3 18 (b + 7 + x) (nI ((s + 1) % lR Λ x))) := MFr_u18 _ _ (by omega) (by omega)
      have L4 := MFr_L F4 L3
      have ro4 : rOK Λ (wS (sW1 Λ r x) x (sNx Λ x (nI s))) := by rw [es']; exact rOK_wS ro2 hs'
      rw [m_handsAt (r := wS (sW1 Λ r x) x (sNx Λ x (nI s))) _ lo hb L4 R4, c_I]
      obtain ⟨f5, e5, R5, g5, g5'⟩ := m_tires (r := wS (sW1 Λ r x) x (sNx Λ x (nI s))) (en_u1 f3 18 (b + 7 + x) (nI ((s + 1) % lR Λ x)), σ.2) lo hb L4 R4 ro4 (m := sH Λ (wS (sW1 Λ r x) x (sNx Λ x (nI s))) (nI x)) (by have := sH8 (wS (sW1 Λ r x) x (sNx Λ x (nI s))) lo (nI x); omega)
      dsimp only at g5 g5'
      rw [e5, c_V]
      refine ⟨en_u1 f5 0 52 (f5 0 52 + nI 1), rfl, ?_, ?_, ?_, ?_, ?_⟩
      · have : sCa Λ (sW1 Λ r x) x = sTs Λ (sH Λ (wS (sW1 Λ r x) x (sNx Λ x (nI s))) (nI x)) (wS (sW1 Λ r x) x (sNx Λ x (nI s))) := by
          unfold sCa; rw [es]; rfl
        rw [this]
        exact MRw_of R5 (fun i _ _ => u1_ne _ _ (by omega)) lo
      · exact MFr_trans F3 (MFr_trans F4 (MFr_trans (f' := f5) ⟨fun p _ h _ _ => g5 p h, fun i _ _ _ => by rw [g5 0 (by omega)], g5'⟩ (MFr_u0 _ _ (by omega) (by omega))))
      · rw [u1_ne _ _ (by omega), g5 0 (by omega)]
        rw [u1_ne _ _ (by omega), z]; exact (Int32.or_zero).symm
      · rw [u1_ne _ _ (by omega), g5 0 (by omega)]
        rw [u1_ne _ _ (by omega), z]; exact (Int32.or_zero).symm
      · rw [u1_at, g5 0 (by omega)]
        rw [u1_ne _ _ (by omega), z]
  · rw [if_neg (by decide), if_pos rfl]
    obtain ⟨f6, e6, R6, F6, g1, g2, g3⟩ := m_letsFall (r := sW1 Λ r x) (f3, σ.2) lo hb L3 R3 hx
    rw [e6, c_V]
    refine ⟨f6, rfl, R6, MFr_trans F3 F6, ?_, ?_, ?_⟩
    · rw [g1, show (f3, σ.2).1 0 51 = σ.1 0 51 from z 51]
    · rw [g2, show (f3, σ.2).1 0 50 = σ.1 0 50 from z 50]
    · rw [g3, show (f3, σ.2).1 0 52 = σ.1 0 52 from z 52]; exact (Int32.add_zero _).symm
theorem m_dayGoes {Λ : mu_Ld} {b : Nat} {r : mu_Rw} (σ : en_S) (lo : lOK Λ) (hb : b ≤ 29) (hL : MLd Λ σ.1) (hR : MRw Λ b r σ.1) (ro : rOK Λ r) : ∃ f', x_m_dayGoes_0 σ (nI b) = rV (f', σ.2) ∧ MRw Λ b (sDy Λ r) f' ∧ MFr b σ.1 f' ∧ f' 0 50 = nI (sFe Λ r) ∧ f' 0 52 = nI (sCr Λ r) := by
  have l1 := lo.1
  have l2 := lo.2.1
  rw [e_m_dayGoes_0]
  have F0 : MFr b σ.1 (en_u1 (en_u1 (en_u1 σ.1 0 50 0) 0 51 0) 0 52 0) := MFr_trans (MFr_u0 _ _ (by omega) (by omega)) (MFr_trans (MFr_u0 _ _ (by omega) (by omega)) (MFr_u0 _ _ (by omega) (by omega)))
  obtain ⟨f1, e1, R1, F1, a1, a2, a3⟩ := mu_inv (fun (f : Nat → Nat → Int32) i => x_m_dayGoes_17 (f, σ.2) (nI b) i) (fun n f => MRw Λ b (sBs Λ r n).1 f ∧ MFr b σ.1 f ∧ f 0 51 = nI (sBs Λ r n).2.1 ∧ f 0 50 = nI (sBs Λ r n).2.2.1 ∧ f 0 52 = nI (sBs Λ r n).2.2.2) (lB Λ) (en_u1 (en_u1 (en_u1 σ.1 0 50 0) 0 51 0) 0 52 0) ⟨MRw_of hR (fun i _ _ => by simp (disch := omega) only [u1_ne]) lo, F0, by simp (disch := omega) only [u1_ne, u1_at]; rfl, by simp (disch := omega) only [u1_ne, u1_at]; rfl, by simp (disch := omega) only [u1_ne, u1_at]; rfl⟩ (by
    intro x f hx ⟨R1, F1, a1, a2, a3⟩
    have L1 := MFr_L F1 hL
    obtain ⟨f2, e2, R2, F2, b1, b2, b3⟩ := m_boxGoes (f, σ.2) lo hb L1 R1 (rOK_sBs lo ro (by omega)) hx
    dsimp only at b1 b2 b3
    refine ⟨f2, ?_, ?_, MFr_trans F1 F2, ?_, ?_, ?_⟩
    · show x_m_dayGoes_17 (f, σ.2) (nI b) (nI x) = x_m_dayGoes_17 (f2, σ.2) (nI b) (nI (x + 1))
      rw [e_m_dayGoes_17, if_neg (by show ¬ f 0 3 ≤ nI x; rw [L1.1]; exact nI_ge hx (by omega)), e2, c_V, nI_1]
    · exact R2
    · rw [b1, a1, fa_or]; rfl
    · rw [b2, a2, fa_or]; rfl
    · rw [b3, a3, nI_add]; rfl)
  have L1 := MFr_L F1 hL
  have ro1 := rOK_sBs lo ro (Nat.le_refl (lB Λ))
  have hst := sBs_st lo r (lB Λ)
  obtain ⟨f2, e2, R2, g1, g2⟩ := mu_inv (fun (f : Nat → Nat → Int32) i => x_m_dayGoes_39 (f, σ.2) (nI b) i) (fun n f => MRw Λ b (sRe Λ (sBs Λ r (lB Λ)).2.1 (sBs Λ r (lB Λ)).1 n) f ∧ (∀ p, p ≠ 18 → f p = f1 p) ∧ (∀ i, (i < b ∨ b + 29 ≤ i) → f 18 i = f1 18 i)) (lP Λ) f1 ⟨R1, fun _ _ => rfl, fun _ _ => rfl⟩ (by
    intro p f hp ⟨R2, g1, g2⟩
    have hP : f 0 4 = nI (lP Λ) := by rw [g1 0 (by omega)]; exact L1.2.1
    have h51 : f 0 51 = nI (sBs Λ r (lB Λ)).2.1 := by rw [g1 0 (by omega)]; exact a1
    have hU := R2.2.2.2.1 p hp
    have hT := R2.2.2.2.2 p hp
    show ∃ f', x_m_dayGoes_39 (f, σ.2) (nI b) (nI p) = x_m_dayGoes_39 (f', σ.2) (nI b) (nI (p + 1)) ∧ _
    rw [e_m_dayGoes_39]
    simp (disch := omega) only [q_0, q_1, q_2, q_3, q_4, q_5, q_6, q_7, q_8, q_9, q_10, q_11, q_12, q_13, q_14, q_15, q_16, q_17, q_18, q_19, q_20, q_21, q_22, q_23, q_24, q_29, q_30, q_31, q_36, q_42, q_50, q_40, q_48, q_96, q_97, q_99, q_100, q_255, q_256, q_700, q_999, q_1160, q_1400, q_99999, q_m1, hP, h51, q_leI, nI_add, q_bit0, q_in, q_clamp, if_true, hU, hT, m_greater, c_I, q_mx]
    rw [if_neg (by omega)]
    by_cases c1 : rU (sRe Λ (sBs Λ r (lB Λ)).2.1 (sBs Λ r (lB Λ)).1 p) p = nN
    · rw [if_pos c1]
      by_cases c2 : (sBs Λ r (lB Λ)).2.1.testBit p = false
      · rw [if_pos c2]
        refine ⟨_, rfl, ?_, fun q hq => by rw [u1_p _ _ _ hq]; exact g1 q hq, fun i hi => by rw [u1_ne _ _ (by omega)]; exact g2 i hi⟩
        have : sRe Λ (sBs Λ r (lB Λ)).2.1 (sBs Λ r (lB Λ)).1 (p + 1) = wT (sRe Λ (sBs Λ r (lB Λ)).2.1 (sBs Λ r (lB Λ)).1 p) p (if nI 0 < rT (sRe Λ (sBs Λ r (lB Λ)).2.1 (sBs Λ r (lB Λ)).1 p) p - nI 2 then rT (sRe Λ (sBs Λ r (lB Λ)).2.1 (sBs Λ r (lB Λ)).1 p) p - nI 2 else nI 0) := if_pos ⟨c1, c2⟩
        rw [this]
        exact MRw_uT lo R2 hp _
      · rw [if_neg c2]
        have : sRe Λ (sBs Λ r (lB Λ)).2.1 (sBs Λ r (lB Λ)).1 (p + 1) = sRe Λ (sBs Λ r (lB Λ)).2.1 (sBs Λ r (lB Λ)).1 p := if_neg (fun k => c2 k.2)
        exact ⟨f, rfl, by rw [this]; exact R2, g1, g2⟩
    · rw [if_neg c1]
      have : sRe Λ (sBs Λ r (lB Λ)).2.1 (sBs Λ r (lB Λ)).1 (p + 1) = sRe Λ (sBs Λ r (lB Λ)).2.1 (sBs Λ r (lB Λ)).1 p := if_neg (fun k => c1 k.1)
      exact ⟨f, rfl, by rw [this]; exact R2, g1, g2⟩)
  have hP : f2 0 4 = nI (lP Λ) := by rw [g1 0 (by omega)]; exact L1.2.1
  refine ⟨en_u1 f2 18 b (f2 18 b + nI 1), ?_, ?_, ?_, ?_, ?_⟩
  · refine Eq.trans e1 ?_
    show x_m_dayGoes_17 (f1, σ.2) (nI b) (nI (lB Λ)) = _
    rw [e_m_dayGoes_17, if_pos (q_le L1.1)]
    refine Eq.trans e2 ?_
    show x_m_dayGoes_39 (f2, σ.2) (nI b) (nI (lP Λ)) = _
    rw [e_m_dayGoes_39, if_pos (q_le hP)]
    simp (disch := omega) only [q_0, q_1, q_2, q_3, q_4, q_5, q_6, q_7, q_8, q_9, q_10, q_11, q_12, q_13, q_14, q_15, q_16, q_17, q_18, q_19, q_20, q_21, q_22, q_23, q_24, q_29, q_30, q_31, q_36, q_42, q_50, q_40, q_48, q_96, q_97, q_99, q_100, q_255, q_256, q_700, q_999, q_1160, q_1400, q_99999, q_m1, nI_add, Nat.add_zero, q_in, q_clamp, if_true]
    rfl
  · rw [R2.1]
    exact MRw_uD lo R2 _
  · exact MFr_trans F1 (MFr_trans (f' := f2) ⟨fun p _ h _ _ => g1 p h, fun i _ _ _ => by rw [g1 0 (by omega)], g2⟩ (MFr_u18 _ _ (by omega) (by omega)))
  · rw [u1_ne _ _ (by omega), g1 0 (by omega)]; exact a2
  · rw [u1_ne _ _ (by omega), g1 0 (by omega)]; exact a3
theorem m_tries {Λ : mu_Ld} {r : mu_Rw} (σ : en_S) (lo : lOK Λ) (hR : MRw Λ 0 r σ.1) : ∃ f', x_m_tries_0 σ = rV (f', σ.2) ∧ MRw Λ 29 r f' ∧ (∀ p, p ≠ 18 → f' p = σ.1 p) ∧ (∀ i, i < 29 → f' 18 i = σ.1 18 i) := by
  rw [e_m_tries_0]
  obtain ⟨f', e, i1, i2, i3⟩ := mu_inv (fun (f : Nat → Nat → Int32) i => x_m_tries_2 (f, σ.2) i) (fun n f => (∀ i, i < n → f 18 (29 + i) = σ.1 18 i) ∧ (∀ p, p ≠ 18 → f p = σ.1 p) ∧ (∀ i, i < 29 → f 18 i = σ.1 18 i)) 29 σ.1 ⟨fun i hi => absurd hi (by omega), fun _ _ => rfl, fun _ _ => rfl⟩ (by
    intro n f hn ⟨i1, i2, i3⟩
    show ∃ f', x_m_tries_2 (f, σ.2) (nI n) = x_m_tries_2 (f', σ.2) (nI (n + 1)) ∧ _
    rw [e_m_tries_2]
    simp (disch := omega) only [q_0, q_1, q_2, q_3, q_4, q_5, q_6, q_7, q_8, q_9, q_10, q_11, q_12, q_13, q_14, q_15, q_16, q_17, q_18, q_19, q_20, q_21, q_22, q_23, q_24, q_29, q_30, q_31, q_36, q_42, q_50, q_40, q_48, q_96, q_97, q_99, q_100, q_255, q_256, q_700, q_999, q_1160, q_1400, q_99999, q_m1, q_leI, nI_add, q_in, q_clamp, if_true]
    rw [if_neg (by omega)]
    refine ⟨_, rfl, fun i hi => ?_, fun p hp => by rw [u1_p _ _ _ hp]; exact i2 p hp, fun i hi => by rw [u1_ne _ _ (by omega)]; exact i3 i hi⟩
    rw [u1_if]
    by_cases c : i = n
    · rw [if_pos (by omega), i3 n hn, c]
    · rw [if_neg (by omega)]; exact i1 i (by omega))
  refine ⟨f', ?_, ?_, i2, i3⟩
  · refine Eq.trans e ?_
    show x_m_tries_2 (f', σ.2) (nI 29) = _
    rw [e_m_tries_2, if_pos (by decide)]
    rfl
  · have l1 := lo.1
    have l2 := lo.2.1
    obtain ⟨h1, h2, h3, h4, h5⟩ := hR
    refine ⟨?_, fun x hx => ?_, fun x hx => ?_, fun x hx => ?_, fun x hx => ?_⟩
    · rw [show 29 = 29 + 0 from rfl, i1 0 (by omega)]; exact h1
    · rw [Nat.add_assoc, i1 _ (by omega), ← h2 x hx, Nat.add_assoc, Nat.zero_add]
    · rw [Nat.add_assoc, i1 _ (by omega), ← h3 x hx, Nat.add_assoc, Nat.zero_add]
    · rw [Nat.add_assoc, i1 _ (by omega), ← h4 x hx, Nat.add_assoc, Nat.zero_add]
    · rw [Nat.add_assoc, i1 _ (by omega), ← h5 x hx, Nat.add_assoc, Nat.zero_add]
