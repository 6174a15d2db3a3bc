/-! acts, fifth: undo, image, restore -/
theorem AOK_I {A : mu_A} (ok : AOK A) : AOK (uI A (some (aR A, aP A, aS A))) :=
  ⟨ok.1, ok.2.1, ok.2.2.1, ok.2.2.2.1, ok.2.2.2.2.1, ok.2.2.2.2.2.1, fun z hz => by cases hz; exact ⟨ok.2.2.2.1, ok.2.2.2.2.1, ok.2.2.2.2.2.1⟩, ok.2.2.2.2.2.2.2⟩
def aU (A : mu_A) : mu_A := uR (uP A ((aP A).1 - 1, (aP A).2)) ((aP A).2 ((aP A).1 - 1))
theorem q_undo {A : mu_A} {f : Nat → Nat → Int32} (ok : AOK A) (hM : MRel A f) (hC : CRel A f) : Mt A f (fun σ => x_b_undo_0 σ) (fun σ => x_m_undo_0 σ) id := by
  have lo := ok.1
  have l1 := lo.1
  have l2 := lo.2.1
  have hps := ok.2.2.2.2.1
  have h40 := hps.1
  have h79 : f 79 0 = nI (aP A).1 := hC.2.2.2.1.1
  by_cases c : (aP A).1 = 0
  · refine Qn_Mt ok hM hC (Qn_val ok hM rfl nN ?_ ?_)
    · intro g
      refine ⟨f, ?_, QC_refl f⟩
      show x_b_undo_0 (f, g) = _
      rw [e_b_undo_0, e_ps_takeBack_p79_67_0, if_neg (by show ¬ (1 : Int32) ≤ f 79 0; rw [h79, c]; decide), r_I, c_I, if_pos (by decide)]
      rfl
    · intro f0 f2 g M0 h0 e0
      refine ⟨f0, ?_, h0, QM_refl f0⟩
      show x_m_undo_0 (f2, g) = _
      have h47 : f2 0 47 = nI (aP A).1 := by
        have := M0.2.2.2.1.1
        rw [e0, u1_ne _ _ (by omega)] at this
        exact this
      rw [e_m_undo_0, if_pos (by show f2 0 47 = 0; rw [h47, c]; rfl), e0]
      rfl
  · have p1 : psOK (aL A) ((aP A).1 - 1, (aP A).2) := ⟨by show (aP A).1 - 1 ≤ 40; omega, fun k hk => hps.2 k (by have : k < (aP A).1 - 1 := hk; omega)⟩
    have ok' : AOK (aU A) := AOK_R (AOK_P ok p1) (r := (aP A).2 ((aP A).1 - 1)) (hps.2 ((aP A).1 - 1) (by omega))
    refine Mt_val (A' := aU A) ok ok' hM rfl (nI ((aP A).1 - 1)) ?_ ?_
    · intro g
      show ∃ f1, x_b_undo_0 (f, g) = rI _ (f1, g) ∧ _
      have e1 : f 79 0 - 1 = nI ((aP A).1 - 1) := by rw [h79, show (1 : Int32) = nI 1 by decide, pk_sub (by omega)]
      have e2 : (f 79 0 - 1) * 29 = nI (((aP A).1 - 1) * 29) := by rw [e1, show (29 : Int32) = nI 29 by decide, pk_mul]
      generalize hb : ((aP A).1 - 1) * 29 = b at e2
      have hb2 : b + 29 ≤ 1160 := by omega
      have x1 : nI b + 1 = nI (b + 1) := by rw [show (1 : Int32) = nI 1 by decide, nI_add]
      have x7 : nI b + 7 = nI (b + 7) := by rw [show (7 : Int32) = nI 7 by decide, nI_add]
      have x13 : nI b + 13 = nI (b + 13) := by rw [show (13 : Int32) = nI 13 by decide, nI_add]
      have x21 : nI b + 21 = nI (b + 21) := by rw [show (21 : Int32) = nI 21 by decide, nI_add]
      have c1 : (¬ nI b + 1 < 0 ∧ ¬ (0 : Int32) < 0 ∧ ¬ (6 : Int32) < 0 ∧ (nI b + 1).toNatClampNeg + 6 ≤ 1160 ∧ 0 + 6 ≤ 6) := by
        rw [x1, q_clamp (by omega)]
        exact ⟨nI_pos (by omega), by decide, by decide, by omega, by decide⟩
      have c7 : (¬ nI b + 7 < 0 ∧ ¬ (0 : Int32) < 0 ∧ ¬ (6 : Int32) < 0 ∧ (nI b + 7).toNatClampNeg + 6 ≤ 1160 ∧ 0 + 6 ≤ 6) := by
        rw [x7, q_clamp (by omega)]
        exact ⟨nI_pos (by omega), by decide, by decide, by omega, by decide⟩
      have c13 : (¬ nI b + 13 < 0 ∧ ¬ (0 : Int32) < 0 ∧ ¬ (8 : Int32) < 0 ∧ (nI b + 13).toNatClampNeg + 8 ≤ 1160 ∧ 0 + 8 ≤ 8) := by
        rw [x13, q_clamp (by omega)]
        exact ⟨nI_pos (by omega), by decide, by decide, by omega, by decide⟩
      have c21 : (¬ nI b + 21 < 0 ∧ ¬ (0 : Int32) < 0 ∧ ¬ (8 : Int32) < 0 ∧ (nI b + 21).toNatClampNeg + 8 ≤ 1160 ∧ 0 + 8 ≤ 8) := by
        rw [x21, q_clamp (by omega)]
        exact ⟨nI_pos (by omega), by decide, by decide, by omega, by decide⟩
      rw [e_b_undo_0, e_ps_takeBack_p79_67_0, if_pos (by show (1 : Int32) ≤ f 79 0; rw [h79, show (1 : Int32) = nI 1 by decide]; exact nI_le (by omega) (by omega)), show ((f, g).1 79 0 - 1) * 29 = nI b from e2, e_st_readFrom_p67_80_0]
      rw [if_pos (by rw [q_in (by omega) (by omega)]; trivial), if_pos c1, if_pos c7, if_pos c13, if_pos c21]
      rw [x1, x7, x13, x21, q_clamp (n := b) (by omega), q_clamp (n := b + 1) (by omega), q_clamp (n := b + 7) (by omega), q_clamp (n := b + 13) (by omega), q_clamp (n := b + 21) (by omega), r_V, c_V, r_I, c_I, if_neg (by decide)]
      dsimp only
      rw [e1]
      obtain ⟨h1, h2, h3, h4, h5, h6, h7, h8, h9⟩ := hC
      have hrow := h4.2 ((aP A).1 - 1) (by omega)
      rw [Nat.mul_comm, hb] at hrow
      obtain ⟨w1, w2, w3, w4, w5⟩ := hrow
      refine ⟨_, congrArg (fun v => rI v _) (?_ : _ = nI ((aP A).1 - 1)), ?_, ?_⟩
      · simp (disch := omega) only [uf_ne, u1_ne, u1_at]
      · intro q hq
        simp (disch := omega) only [uf_ne, u1_p]
      · refine ⟨CLd_of h1 (fun p _ _ _ => by simp (disch := omega) only [uf_ne, u1_p]), CGd_of h2 (fun p _ _ => by simp (disch := omega) only [uf_ne, u1_p]), ⟨?_, fun x hx => ?_, fun x hx => ?_, fun x hx => ?_, fun x hx => ?_⟩, ⟨?_, fun k hk => ?_⟩, cSn_of h5 (fun p _ _ => by simp (disch := omega) only [uf_ne, u1_p]), CIm_of lo h6 (by simp (disch := omega) only [uf_ne, u1_ne]) (fun p _ _ => by simp (disch := omega) only [uf_ne, u1_p]), CTp_of h7 (by simp (disch := omega) only [uf_ne, u1_ne]) (by simp (disch := omega) only [uf_ne, u1_p]), fun i hi => by simp (disch := omega) only [uf_ne, u1_ne]; exact h8 i hi, by simp (disch := omega) only [uf_ne, u1_ne]; exact h9⟩
        · simp (disch := omega) only [uf_ne, u1_at, u1_p]; exact w1
        · have hx' : x < lB (aL A) := hx
          show en_uf _ _ _ 68 x = _
          simp (disch := omega) only [uf_ne, uf_at, pk_cpy_in, u1_p]
          rw [Nat.sub_zero]; exact w2 x hx
        · have hx' : x < lB (aL A) := hx
          show en_uf _ _ _ 69 x = _
          simp (disch := omega) only [uf_ne, uf_at, pk_cpy_in, u1_p]
          rw [Nat.sub_zero]; exact w3 x hx
        · have hx' : x < lP (aL A) := hx
          show en_uf _ _ _ 70 x = _
          simp (disch := omega) only [uf_ne, uf_at, pk_cpy_in, u1_p]
          rw [Nat.sub_zero]; exact w4 x hx
        · have hx' : x < lP (aL A) := hx
          show en_uf _ _ _ 71 x = _
          simp (disch := omega) only [uf_ne, uf_at, pk_cpy_in, u1_p]
          rw [Nat.sub_zero]; exact w5 x hx
        · simp (disch := omega) only [uf_ne, u1_ne, u1_at]; rfl
        · have hk' : k < (aP A).1 - 1 := hk
          exact pRw_of lo (h4.2 k (by omega)) (fun i _ _ => by simp (disch := omega) only [uf_ne, u1_ne])
    · intro f0 f2 g M0 h0 e0
      show ∃ f3, x_m_undo_0 (f2, g) = rI _ (f3, g) ∧ _
      have h47 : f2 0 47 = nI (aP A).1 := by
        have := M0.2.2.2.1.1
        rw [e0, u1_ne _ _ (by omega)] at this
        exact this
      have e1 : f2 0 47 - 1 = nI ((aP A).1 - 1) := by rw [h47, show (1 : Int32) = nI 1 by decide, pk_sub (by omega)]
      rw [e_m_undo_0, if_neg (by show ¬ f2 0 47 = 0; rw [h47]; exact nI_ne0 (by omega) (by omega))]
      dsimp only
      rw [← e0, e1]
      obtain ⟨f3, e3, i1, i2, i3⟩ := mu_inv (fun (f : Nat → Nat → Int32) i => x_m_undo_26 (f, g) i) (fun k f' => (∀ i, i < k → f' 18 i = f0 19 (29 * ((aP A).1 - 1) + i)) ∧ (∀ p, p ≠ 18 → p ≠ 0 → f' p = f0 p) ∧ f' 0 = en_u1 f0 0 47 (nI ((aP A).1 - 1)) 0) 29 (en_u1 f0 0 47 (nI ((aP A).1 - 1))) ⟨fun i hi => absurd hi (by omega), fun p _ h => u1_p _ _ _ h, rfl⟩ (by
        intro k f1 hk ⟨i1, i2, i3⟩
        have h47' : f1 0 47 = nI ((aP A).1 - 1) := by rw [i3, u1_at]
        show ∃ f', x_m_undo_26 (f1, g) (nI k) = x_m_undo_26 (f', g) (nI (k + 1)) ∧ _
        rw [e_m_undo_26]
        simp (disch := omega) only [q_0, q_1, q_2, q_3, q_4, q_5, q_6, q_7, q_8, q_9, q_10, q_11, q_12, q_13, q_14, q_15, q_16, q_17, q_18, q_19, q_20, q_21, q_22, q_23, q_24, q_29, q_30, q_31, q_36, q_42, q_50, q_40, q_48, q_96, q_97, q_99, q_100, q_255, q_256, q_700, q_999, q_1160, q_1400, q_99999, q_m1, h47', q_leI, nI_add, pk_mul, q_in, q_clamp, if_true]
        rw [if_neg (by omega)]
        refine ⟨_, rfl, fun i hi => ?_, fun p h1 h2 => by rw [u1_p _ _ _ h1]; exact i2 p h1 h2, by rw [u1_p _ _ _ (by omega)]; exact i3⟩
        rw [u1_if]
        by_cases c2 : i = k
        · rw [if_pos c2, i2 19 (by omega) (by omega), c2]
        · rw [if_neg c2]; exact i1 i (by omega))
      have h47' : f3 0 47 = nI ((aP A).1 - 1) := by rw [i3, u1_at]
      have z : ∀ i, i ≠ 47 → f3 0 i = f0 0 i := fun i hi => by rw [i3, u1_ne _ _ (by omega)]
      refine ⟨f3, ?_, by rw [z 0 (by omega)]; exact h0, ?_, fun q hq => i2 q (by omega) (by omega)⟩
      · refine Eq.trans e3 ?_
        show x_m_undo_26 (f3, g) (nI 29) = _
        rw [e_m_undo_26, if_pos (by decide)]
        show rI (f3 0 47) (f3, g) = _
        rw [h47']
      · obtain ⟨h1, h2, h3, h4, h5, h6, h7, h8, h9⟩ := M0
        refine ⟨MLd_of h1 (fun j _ => z j (by omega)) (fun p _ _ => i2 p (by omega) (by omega)), MGd_of h2 (z 1 (by omega)) (z 2 (by omega)) (i2 1 (by omega) (by omega)), ?_, ⟨h47', fun k hk => ?_⟩, mSn_of h5 (z 55 (by omega)) (i2 24 (by omega) (by omega)), MIm_of lo h6 (fun i _ _ => z i (by omega)) (fun p _ _ => i2 p (by omega) (by omega)), MTp_of h7 (z 14 (by omega)) (i2 7 (by omega) (by omega)), by rw [i2 8 (by omega) (by omega)]; exact h8, by rw [z 16 (by omega)]; exact h9⟩
        · refine pRw_mv (P' := 18) (b' := 0) lo (h4.2 ((aP A).1 - 1) (by omega)) (fun i hi => ?_)
          rw [Nat.zero_add, i1 i hi]
        · have hk' : k < (aP A).1 - 1 := hk
          exact pRw_of lo (h4.2 k (by omega)) (fun i _ _ => by rw [i2 19 (by omega) (by omega)])
theorem q_image {A : mu_A} {f : Nat → Nat → Int32} (ok : AOK A) (hM : MRel A f) (hC : CRel A f) : MtV A f (fun σ => x_b_image_0 σ) (fun σ => x_m_image_0 σ) := by
  have lo := ok.1
  have l1 := lo.1
  have l2 := lo.2.1
  have hps := ok.2.2.2.2.1
  have h40 := hps.1
  have s8 := ok.2.2.2.2.2.1.1
  refine ⟨uI A (some (aR A, aP A, aS A)), AOK_I ok, fun g => ?_, fun f2 g h2 => ?_⟩
  · obtain ⟨h1, h2, h3, h4, h5, h6, h7, h8, h9⟩ := hC
    show ∃ f1, x_b_image_0 (f, g) = rV (f1, g) ∧ _
    have e79 : f 79 0 * 29 = nI ((aP A).1 * 29) := by rw [h4.1, show (29 : Int32) = nI 29 by decide, pk_mul]
    rw [e_b_image_0, e_st_copyFrom_p85_67_0, r_V, c_V, e_ps_copyFrom_p91_79_0]
    simp (disch := omega) only [uf_ne, u1_p, e79, q_clamp]
    rw [if_pos ⟨by decide, by decide, nI_pos (by omega), by omega, by omega⟩, r_V, c_V, e_se_copyFrom_p93_81_0, r_V, c_V]
    refine ⟨_, rfl, ?_, ?_⟩
    · intro q hq
      simp (disch := omega) only [uf_ne, u1_p]
    · obtain ⟨w1, w2, w3, w4, w5⟩ := h3
      refine ⟨CLd_of h1 (fun p _ _ _ => by simp (disch := omega) only [uf_ne, u1_p]), CGd_of h2 (fun p _ _ => by simp (disch := omega) only [uf_ne, u1_p]), CRw_of ⟨w1, w2, w3, w4, w5⟩ (by simp (disch := omega) only [uf_ne, u1_ne]) (fun p _ _ => by simp (disch := omega) only [uf_ne, u1_p]), hPs_of lo h4 (by simp (disch := omega) only [uf_ne, u1_ne]) (by simp (disch := omega) only [uf_ne, u1_p]), cSn_of h5 (fun p _ _ => by simp (disch := omega) only [uf_ne, u1_p]), ⟨u1_at _ _ _ _, ⟨?_, fun x hx => ?_, fun x hx => ?_, fun x hx => ?_, fun x hx => ?_⟩, ⟨?_, fun k hk => ?_⟩, ⟨?_, fun k hk => ?_⟩⟩, CTp_of h7 (by simp (disch := omega) only [uf_ne, u1_ne]) (by simp (disch := omega) only [uf_ne, u1_p]), fun i hi => by simp (disch := omega) only [uf_ne, u1_ne]; exact h8 i hi, by simp (disch := omega) only [uf_ne, u1_ne]; exact h9⟩
      · simp (disch := omega) only [uf_ne, u1_ne, u1_at]; exact w1
      · have hx' : x < lB (aL A) := hx
        show en_u1 _ 31 11 _ 86 x = _
        simp (disch := omega) only [uf_ne, uf_at, u1_p, sb_cpy0]; exact w2 x hx
      · have hx' : x < lB (aL A) := hx
        show en_u1 _ 31 11 _ 87 x = _
        simp (disch := omega) only [uf_ne, uf_at, u1_p, sb_cpy0]; exact w3 x hx
      · have hx' : x < lP (aL A) := hx
        show en_u1 _ 31 11 _ 88 x = _
        simp (disch := omega) only [uf_ne, uf_at, u1_p, sb_cpy0]; exact w4 x hx
      · have hx' : x < lP (aL A) := hx
        show en_u1 _ 31 11 _ 89 x = _
        simp (disch := omega) only [uf_ne, uf_at, u1_p, sb_cpy0]; exact w5 x hx
      · simp (disch := omega) only [uf_ne, u1_ne, u1_at]; exact h4.1
      · have hk' : k < (aP A).1 := hk
        refine pRw_mv lo (h4.2 k hk) (fun i hi => ?_)
        simp (disch := omega) only [uf_ne, uf_at, u1_p, sb_cpy0]
      · simp (disch := omega) only [uf_ne, u1_ne, u1_at, u1_p]; exact h5.1
      · have hk' : k < (aS A).1 := hk
        show en_u1 _ 31 11 _ 94 k = _ ∧ en_u1 _ 31 11 _ 95 k = _ ∧ en_u1 _ 31 11 _ 96 k = _
        simp (disch := omega) only [uf_ne, uf_at, u1_p, sb_cpy0]
        exact h5.2 k hk
  · have M2 := MRel_Q ok (MRel_hi ok hM h2) (QM_u0 f2 (i := 0) 0 (by omega))
    show ∃ f3, x_m_image_0 (f2, g) = rV (f3, g) ∧ _
    have x47 : f2 0 47 = en_u1 f2 0 0 0 0 47 := by rw [u1_ne _ _ (by omega)]
    have x55 : f2 0 55 = en_u1 f2 0 0 0 0 55 := by rw [u1_ne _ _ (by omega)]
    have xhi : ∀ p, 30 ≤ p → en_u1 f2 0 0 0 p = f2 p := fun p hp => u1_p _ _ _ (by omega)
    rw [e_m_image_0]
    dsimp only
    rw [x47, x55]
    generalize en_u1 f2 0 0 0 = f0 at M2 xhi ⊢
    obtain ⟨h1, h2, h3, h4, h5, h6, h7, h8, h9⟩ := M2
    obtain ⟨f3, e3, i1, i2⟩ := mu_inv (fun (f : Nat → Nat → Int32) i => x_m_image_28 (f, g) i) (fun k f' => (∀ i, i < k → f' 27 i = f0 18 i) ∧ (∀ p, p ≠ 27 → f' p = en_u1 (en_u1 (en_u1 f0 0 60 1) 0 61 (f0 0 47)) 0 62 (f0 0 55) p)) 29 (en_u1 (en_u1 (en_u1 f0 0 60 1) 0 61 (f0 0 47)) 0 62 (f0 0 55)) ⟨fun i hi => absurd hi (by omega), fun p _ => rfl⟩ (by
      intro k f1 hk ⟨i1, i2⟩
      show ∃ f', x_m_image_28 (f1, g) (nI k) = x_m_image_28 (f', g) (nI (k + 1)) ∧ _
      rw [e_m_image_28]
      simp (disch := omega) only [q_0, q_1, q_2, q_3, q_4, q_5, q_6, q_7, q_8, q_9, q_10, q_11, q_12, q_13, q_14, q_15, q_16, q_17, q_18, q_19, q_20, q_21, q_22, q_23, q_24, q_29, q_30, q_31, q_36, q_42, q_50, q_40, q_48, q_96, q_97, q_99, q_100, q_255, q_256, q_700, q_999, q_1160, q_1400, q_99999, q_m1, q_leI, nI_add, q_in, q_clamp, if_true]
      rw [if_neg (by omega)]
      refine ⟨_, rfl, fun i hi => ?_, fun p hp => by rw [u1_p _ _ _ hp]; exact i2 p hp⟩
      rw [u1_if]
      by_cases c2 : i = k
      · rw [if_pos c2, i2 18 (by omega), c2]; simp (disch := omega) only [u1_p]
      · rw [if_neg c2]; exact i1 i (by omega))
    obtain ⟨f4, e4, j1, j2⟩ := m_copies_19_28 f3 g
    obtain ⟨f5, e5, k1, k2⟩ := m_copies_24_29 f4 g
    have z : ∀ p, p ≠ 27 → p ≠ 28 → p ≠ 29 → f5 p = en_u1 (en_u1 (en_u1 f0 0 60 1) 0 61 (f0 0 47)) 0 62 (f0 0 55) p := fun p a b c => by rw [k2 p c, j2 p b, i2 p a]
    have z0 : ∀ i, i ≠ 60 → i ≠ 61 → i ≠ 62 → f5 0 i = f0 0 i := fun i a b c => by rw [z 0 (by omega) (by omega) (by omega)]; simp (disch := omega) only [u1_ne]
    have zp : ∀ p, p ≠ 0 → p ≠ 27 → p ≠ 28 → p ≠ 29 → f5 p = f0 p := fun p a b c d => by rw [z p b c d]; simp (disch := omega) only [u1_p]
    refine ⟨f5, ?_, ?_, fun p hp => by rw [zp p (by omega) (by omega) (by omega) (by omega)]; exact xhi p hp⟩
    · refine Eq.trans e3 ?_
      show x_m_image_28 (f3, g) (nI 29) = _
      rw [e_m_image_28, if_pos (by decide), e4, c_V, e5, c_V]
      rfl
    · refine ⟨MLd_of h1 (fun j _ => z0 j (by omega) (by omega) (by omega)) (fun p _ _ => zp p (by omega) (by omega) (by omega) (by omega)), MGd_of h2 (z0 1 (by omega) (by omega) (by omega)) (z0 2 (by omega) (by omega) (by omega)) (zp 1 (by omega) (by omega) (by omega) (by omega)), MRw_of h3 (fun j _ _ => by rw [zp 18 (by omega) (by omega) (by omega) (by omega)]) lo, hPs_of lo h4 (z0 47 (by omega) (by omega) (by omega)) (zp 19 (by omega) (by omega) (by omega) (by omega)), mSn_of h5 (z0 55 (by omega) (by omega) (by omega)) (zp 24 (by omega) (by omega) (by omega) (by omega)), ⟨?_, ?_, ⟨?_, fun k hk => ?_⟩, ⟨?_, fun k hk => ?_⟩⟩, MTp_of h7 (z0 14 (by omega) (by omega) (by omega)) (zp 7 (by omega) (by omega) (by omega) (by omega)), by rw [zp 8 (by omega) (by omega) (by omega) (by omega)]; exact h8, by rw [z0 16 (by omega) (by omega) (by omega)]; exact h9⟩
      · rw [z 0 (by omega) (by omega) (by omega)]; simp (disch := omega) only [u1_ne, u1_at]; rfl
      · refine pRw_mv (P := 18) (b := 0) lo h3 (fun i hi => ?_)
        rw [Nat.zero_add, k2 27 (by omega), j2 27 (by omega), i1 i hi]
      · rw [z 0 (by omega) (by omega) (by omega)]; simp (disch := omega) only [u1_ne, u1_at]; exact h4.1
      · have hk' : k < (aP A).1 := hk
        refine pRw_mv lo (h4.2 k hk) (fun i hi => ?_)
        rw [k2 28 (by omega), j1 _ (by omega), i2 19 (by omega)]; simp (disch := omega) only [u1_p]
      · rw [z 0 (by omega) (by omega) (by omega)]; simp (disch := omega) only [u1_at]; exact h5.1
      · have hk' : k < (aS A).1 := hk
        have q : ∀ i, i < 24 → f5 29 i = f0 24 i := fun i hi => by rw [k1 i hi, j2 24 (by omega), i2 24 (by omega)]; simp (disch := omega) only [u1_p]
        rw [q _ (by omega), q _ (by omega), q _ (by omega)]
        exact h5.2 k hk
