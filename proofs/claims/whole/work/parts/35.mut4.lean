/-! acts, fourth: undo, see, forget, fault, feed; written by mut4.py -/

theorem m_copies_19_28 (f : Nat → Nat → Int32) (g : Nat → Nat → Int64) : ∃ f', x_m_copies_p19_28_0 (f, g) = rV (f', g) ∧ (∀ i, i < 1160 → f' 28 i = f 19 i) ∧ (∀ p, p ≠ 28 → f' p = f p) := by
  rw [e_m_copies_p19_28_0]
  obtain ⟨f', e, i1, i2⟩ := mu_inv (fun (f : Nat → Nat → Int32) i => x_m_copies_p19_28_2 (f, g) i) (fun k f' => (∀ i, i < k → f' 28 i = f 19 i) ∧ (∀ p, p ≠ 28 → f' p = f p)) 1160 f ⟨fun i hi => absurd hi (by omega), fun _ _ => rfl⟩ (by
    intro k f1 hk ⟨i1, i2⟩
    show ∃ f', x_m_copies_p19_28_2 (f1, g) (nI k) = x_m_copies_p19_28_2 (f', g) (nI (k + 1)) ∧ _
    rw [e_m_copies_p19_28_2, show (1160 : Int32) = nI 1160 by decide, if_neg (nI_ge hk (by omega)), nI_1]
    simp (disch := omega) only [q_in, q_clamp, if_true]
    refine ⟨_, rfl, fun i hi => ?_, fun p hp => by rw [u1_p _ _ _ hp]; exact i2 p hp⟩
    rw [u1_if]
    by_cases c : i = k
    · rw [if_pos c, i2 19 (by omega), c]
    · rw [if_neg c]; exact i1 i (by omega))
  refine ⟨f', ?_, i1, i2⟩
  refine Eq.trans e ?_
  show x_m_copies_p19_28_2 (f', g) (nI 1160) = _
  rw [e_m_copies_p19_28_2, if_pos (by decide)]
  rfl

theorem m_copies_24_29 (f : Nat → Nat → Int32) (g : Nat → Nat → Int64) : ∃ f', x_m_copies_p24_29_0 (f, g) = rV (f', g) ∧ (∀ i, i < 24 → f' 29 i = f 24 i) ∧ (∀ p, p ≠ 29 → f' p = f p) := by
  rw [e_m_copies_p24_29_0]
  obtain ⟨f', e, i1, i2⟩ := mu_inv (fun (f : Nat → Nat → Int32) i => x_m_copies_p24_29_2 (f, g) i) (fun k f' => (∀ i, i < k → f' 29 i = f 24 i) ∧ (∀ p, p ≠ 29 → f' p = f p)) 24 f ⟨fun i hi => absurd hi (by omega), fun _ _ => rfl⟩ (by
    intro k f1 hk ⟨i1, i2⟩
    show ∃ f', x_m_copies_p24_29_2 (f1, g) (nI k) = x_m_copies_p24_29_2 (f', g) (nI (k + 1)) ∧ _
    rw [e_m_copies_p24_29_2, show (24 : Int32) = nI 24 by decide, if_neg (nI_ge hk (by omega)), nI_1]
    simp (disch := omega) only [q_in, q_clamp, if_true]
    refine ⟨_, rfl, fun i hi => ?_, fun p hp => by rw [u1_p _ _ _ hp]; exact i2 p hp⟩
    rw [u1_if]
    by_cases c : i = k
    · rw [if_pos c, i2 24 (by omega), c]
    · rw [if_neg c]; exact i1 i (by omega))
  refine ⟨f', ?_, i1, i2⟩
  refine Eq.trans e ?_
  show x_m_copies_p24_29_2 (f', g) (nI 24) = _
  rw [e_m_copies_p24_29_2, if_pos (by decide)]
  rfl

theorem m_copies_28_19 (f : Nat → Nat → Int32) (g : Nat → Nat → Int64) : ∃ f', x_m_copies_p28_19_0 (f, g) = rV (f', g) ∧ (∀ i, i < 1160 → f' 19 i = f 28 i) ∧ (∀ p, p ≠ 19 → f' p = f p) := by
  rw [e_m_copies_p28_19_0]
  obtain ⟨f', e, i1, i2⟩ := mu_inv (fun (f : Nat → Nat → Int32) i => x_m_copies_p28_19_2 (f, g) i) (fun k f' => (∀ i, i < k → f' 19 i = f 28 i) ∧ (∀ p, p ≠ 19 → f' p = f p)) 1160 f ⟨fun i hi => absurd hi (by omega), fun _ _ => rfl⟩ (by
    intro k f1 hk ⟨i1, i2⟩
    show ∃ f', x_m_copies_p28_19_2 (f1, g) (nI k) = x_m_copies_p28_19_2 (f', g) (nI (k + 1)) ∧ _
    rw [e_m_copies_p28_19_2, show (1160 : Int32) = nI 1160 by decide, if_neg (nI_ge hk (by omega)), nI_1]
    simp (disch := omega) only [q_in, q_clamp, if_true]
    refine ⟨_, rfl, fun i hi => ?_, fun p hp => by rw [u1_p _ _ _ hp]; exact i2 p hp⟩
    rw [u1_if]
    by_cases c : i = k
    · rw [if_pos c, i2 28 (by omega), c]
    · rw [if_neg c]; exact i1 i (by omega))
  refine ⟨f', ?_, i1, i2⟩
  refine Eq.trans e ?_
  show x_m_copies_p28_19_2 (f', g) (nI 1160) = _
  rw [e_m_copies_p28_19_2, if_pos (by decide)]
  rfl

theorem m_copies_29_24 (f : Nat → Nat → Int32) (g : Nat → Nat → Int64) : ∃ f', x_m_copies_p29_24_0 (f, g) = rV (f', g) ∧ (∀ i, i < 24 → f' 24 i = f 29 i) ∧ (∀ p, p ≠ 24 → f' p = f p) := by
  rw [e_m_copies_p29_24_0]
  obtain ⟨f', e, i1, i2⟩ := mu_inv (fun (f : Nat → Nat → Int32) i => x_m_copies_p29_24_2 (f, g) i) (fun k f' => (∀ i, i < k → f' 24 i = f 29 i) ∧ (∀ p, p ≠ 24 → f' p = f p)) 24 f ⟨fun i hi => absurd hi (by omega), fun _ _ => rfl⟩ (by
    intro k f1 hk ⟨i1, i2⟩
    show ∃ f', x_m_copies_p29_24_2 (f1, g) (nI k) = x_m_copies_p29_24_2 (f', g) (nI (k + 1)) ∧ _
    rw [e_m_copies_p29_24_2, show (24 : Int32) = nI 24 by decide, if_neg (nI_ge hk (by omega)), nI_1]
    simp (disch := omega) only [q_in, q_clamp, if_true]
    refine ⟨_, rfl, fun i hi => ?_, fun p hp => by rw [u1_p _ _ _ hp]; exact i2 p hp⟩
    rw [u1_if]
    by_cases c : i = k
    · rw [if_pos c, i2 29 (by omega), c]
    · rw [if_neg c]; exact i1 i (by omega))
  refine ⟨f', ?_, i1, i2⟩
  refine Eq.trans e ?_
  show x_m_copies_p29_24_2 (f', g) (nI 24) = _
  rw [e_m_copies_p29_24_2, if_pos (by decide)]
  rfl

theorem m_copies_9_1 (f : Nat → Nat → Int32) (g : Nat → Nat → Int64) : ∃ f', x_m_copies_p9_1_0 (f, g) = rV (f', g) ∧ (∀ i, i < 64 → f' 1 i = f 9 i) ∧ (∀ p, p ≠ 1 → f' p = f p) := by
  rw [e_m_copies_p9_1_0]
  obtain ⟨f', e, i1, i2⟩ := mu_inv (fun (f : Nat → Nat → Int32) i => x_m_copies_p9_1_2 (f, g) i) (fun k f' => (∀ i, i < k → f' 1 i = f 9 i) ∧ (∀ p, p ≠ 1 → f' p = f p)) 64 f ⟨fun i hi => absurd hi (by omega), fun _ _ => rfl⟩ (by
    intro k f1 hk ⟨i1, i2⟩
    show ∃ f', x_m_copies_p9_1_2 (f1, g) (nI k) = x_m_copies_p9_1_2 (f', g) (nI (k + 1)) ∧ _
    rw [e_m_copies_p9_1_2, show (64 : Int32) = nI 64 by decide, if_neg (nI_ge hk (by omega)), nI_1]
    simp (disch := omega) only [q_in, q_clamp, if_true]
    refine ⟨_, rfl, fun i hi => ?_, fun p hp => by rw [u1_p _ _ _ hp]; exact i2 p hp⟩
    rw [u1_if]
    by_cases c : i = k
    · rw [if_pos c, i2 9 (by omega), c]
    · rw [if_neg c]; exact i1 i (by omega))
  refine ⟨f', ?_, i1, i2⟩
  refine Eq.trans e ?_
  show x_m_copies_p9_1_2 (f', g) (nI 64) = _
  rw [e_m_copies_p9_1_2, if_pos (by decide)]
  rfl

theorem m_copies_10_2 (f : Nat → Nat → Int32) (g : Nat → Nat → Int64) : ∃ f', x_m_copies_p10_2_0 (f, g) = rV (f', g) ∧ (∀ i, i < 36 → f' 2 i = f 10 i) ∧ (∀ p, p ≠ 2 → f' p = f p) := by
  rw [e_m_copies_p10_2_0]
  obtain ⟨f', e, i1, i2⟩ := mu_inv (fun (f : Nat → Nat → Int32) i => x_m_copies_p10_2_2 (f, g) i) (fun k f' => (∀ i, i < k → f' 2 i = f 10 i) ∧ (∀ p, p ≠ 2 → f' p = f p)) 36 f ⟨fun i hi => absurd hi (by omega), fun _ _ => rfl⟩ (by
    intro k f1 hk ⟨i1, i2⟩
    show ∃ f', x_m_copies_p10_2_2 (f1, g) (nI k) = x_m_copies_p10_2_2 (f', g) (nI (k + 1)) ∧ _
    rw [e_m_copies_p10_2_2, show (36 : Int32) = nI 36 by decide, if_neg (nI_ge hk (by omega)), nI_1]
    simp (disch := omega) only [q_in, q_clamp, if_true]
    refine ⟨_, rfl, fun i hi => ?_, fun p hp => by rw [u1_p _ _ _ hp]; exact i2 p hp⟩
    rw [u1_if]
    by_cases c : i = k
    · rw [if_pos c, i2 10 (by omega), c]
    · rw [if_neg c]; exact i1 i (by omega))
  refine ⟨f', ?_, i1, i2⟩
  refine Eq.trans e ?_
  show x_m_copies_p10_2_2 (f', g) (nI 36) = _
  rw [e_m_copies_p10_2_2, if_pos (by decide)]
  rfl

theorem m_copies_11_3 (f : Nat → Nat → Int32) (g : Nat → Nat → Int64) : ∃ f', x_m_copies_p11_3_0 (f, g) = rV (f', g) ∧ (∀ i, i < 6 → f' 3 i = f 11 i) ∧ (∀ p, p ≠ 3 → f' p = f p) := by
  rw [e_m_copies_p11_3_0]
  obtain ⟨f', e, i1, i2⟩ := mu_inv (fun (f : Nat → Nat → Int32) i => x_m_copies_p11_3_2 (f, g) i) (fun k f' => (∀ i, i < k → f' 3 i = f 11 i) ∧ (∀ p, p ≠ 3 → f' p = f p)) 6 f ⟨fun i hi => absurd hi (by omega), fun _ _ => rfl⟩ (by
    intro k f1 hk ⟨i1, i2⟩
    show ∃ f', x_m_copies_p11_3_2 (f1, g) (nI k) = x_m_copies_p11_3_2 (f', g) (nI (k + 1)) ∧ _
    rw [e_m_copies_p11_3_2, show (6 : Int32) = nI 6 by decide, if_neg (nI_ge hk (by omega)), nI_1]
    simp (disch := omega) only [q_in, q_clamp, if_true]
    refine ⟨_, rfl, fun i hi => ?_, fun p hp => by rw [u1_p _ _ _ hp]; exact i2 p hp⟩
    rw [u1_if]
    by_cases c : i = k
    · rw [if_pos c, i2 11 (by omega), c]
    · rw [if_neg c]; exact i1 i (by omega))
  refine ⟨f', ?_, i1, i2⟩
  refine Eq.trans e ?_
  show x_m_copies_p11_3_2 (f', g) (nI 6) = _
  rw [e_m_copies_p11_3_2, if_pos (by decide)]
  rfl

theorem m_copies_12_4 (f : Nat → Nat → Int32) (g : Nat → Nat → Int64) : ∃ f', x_m_copies_p12_4_0 (f, g) = rV (f', g) ∧ (∀ i, i < 8 → f' 4 i = f 12 i) ∧ (∀ p, p ≠ 4 → f' p = f p) := by
  rw [e_m_copies_p12_4_0]
  obtain ⟨f', e, i1, i2⟩ := mu_inv (fun (f : Nat → Nat → Int32) i => x_m_copies_p12_4_2 (f, g) i) (fun k f' => (∀ i, i < k → f' 4 i = f 12 i) ∧ (∀ p, p ≠ 4 → f' p = f p)) 8 f ⟨fun i hi => absurd hi (by omega), fun _ _ => rfl⟩ (by
    intro k f1 hk ⟨i1, i2⟩
    show ∃ f', x_m_copies_p12_4_2 (f1, g) (nI k) = x_m_copies_p12_4_2 (f', g) (nI (k + 1)) ∧ _
    rw [e_m_copies_p12_4_2, show (8 : Int32) = nI 8 by decide, if_neg (nI_ge hk (by omega)), nI_1]
    simp (disch := omega) only [q_in, q_clamp, if_true]
    refine ⟨_, rfl, fun i hi => ?_, fun p hp => by rw [u1_p _ _ _ hp]; exact i2 p hp⟩
    rw [u1_if]
    by_cases c : i = k
    · rw [if_pos c, i2 12 (by omega), c]
    · rw [if_neg c]; exact i1 i (by omega))
  refine ⟨f', ?_, i1, i2⟩
  refine Eq.trans e ?_
  show x_m_copies_p12_4_2 (f', g) (nI 8) = _
  rw [e_m_copies_p12_4_2, if_pos (by decide)]
  rfl

theorem m_copies_13_5 (f : Nat → Nat → Int32) (g : Nat → Nat → Int64) : ∃ f', x_m_copies_p13_5_0 (f, g) = rV (f', g) ∧ (∀ i, i < 8 → f' 5 i = f 13 i) ∧ (∀ p, p ≠ 5 → f' p = f p) := by
  rw [e_m_copies_p13_5_0]
  obtain ⟨f', e, i1, i2⟩ := mu_inv (fun (f : Nat → Nat → Int32) i => x_m_copies_p13_5_2 (f, g) i) (fun k f' => (∀ i, i < k → f' 5 i = f 13 i) ∧ (∀ p, p ≠ 5 → f' p = f p)) 8 f ⟨fun i hi => absurd hi (by omega), fun _ _ => rfl⟩ (by
    intro k f1 hk ⟨i1, i2⟩
    show ∃ f', x_m_copies_p13_5_2 (f1, g) (nI k) = x_m_copies_p13_5_2 (f', g) (nI (k + 1)) ∧ _
    rw [e_m_copies_p13_5_2, show (8 : Int32) = nI 8 by decide, if_neg (nI_ge hk (by omega)), nI_1]
    simp (disch := omega) only [q_in, q_clamp, if_true]
    refine ⟨_, rfl, fun i hi => ?_, fun p hp => by rw [u1_p _ _ _ hp]; exact i2 p hp⟩
    rw [u1_if]
    by_cases c : i = k
    · rw [if_pos c, i2 13 (by omega), c]
    · rw [if_neg c]; exact i1 i (by omega))
  refine ⟨f', ?_, i1, i2⟩
  refine Eq.trans e ?_
  show x_m_copies_p13_5_2 (f', g) (nI 8) = _
  rw [e_m_copies_p13_5_2, if_pos (by decide)]
  rfl

theorem m_copies_15_6 (f : Nat → Nat → Int32) (g : Nat → Nat → Int64) : ∃ f', x_m_copies_p15_6_0 (f, g) = rV (f', g) ∧ (∀ i, i < 1400 → f' 6 i = f 15 i) ∧ (∀ p, p ≠ 6 → f' p = f p) := by
  rw [e_m_copies_p15_6_0]
  obtain ⟨f', e, i1, i2⟩ := mu_inv (fun (f : Nat → Nat → Int32) i => x_m_copies_p15_6_2 (f, g) i) (fun k f' => (∀ i, i < k → f' 6 i = f 15 i) ∧ (∀ p, p ≠ 6 → f' p = f p)) 1400 f ⟨fun i hi => absurd hi (by omega), fun _ _ => rfl⟩ (by
    intro k f1 hk ⟨i1, i2⟩
    show ∃ f', x_m_copies_p15_6_2 (f1, g) (nI k) = x_m_copies_p15_6_2 (f', g) (nI (k + 1)) ∧ _
    rw [e_m_copies_p15_6_2, show (1400 : Int32) = nI 1400 by decide, if_neg (nI_ge hk (by omega)), nI_1]
    simp (disch := omega) only [q_in, q_clamp, if_true]
    refine ⟨_, rfl, fun i hi => ?_, fun p hp => by rw [u1_p _ _ _ hp]; exact i2 p hp⟩
    rw [u1_if]
    by_cases c : i = k
    · rw [if_pos c, i2 15 (by omega), c]
    · rw [if_neg c]; exact i1 i (by omega))
  refine ⟨f', ?_, i1, i2⟩
  refine Eq.trans e ?_
  show x_m_copies_p15_6_2 (f', g) (nI 1400) = _
  rw [e_m_copies_p15_6_2, if_pos (by decide)]
  rfl

def MtV (A : mu_A) (f : Nat → Nat → Int32) (b : en_S → Option en_O) (m : en_S → Option en_O) : Prop := ∃ A' : mu_A, AOK A' ∧ (∀ g, ∃ f1, b (f, g) = rV (f1, g) ∧ (∀ p, p < 31 → f1 p = f p) ∧ CRel A' f1) ∧ ∀ f2 g, (∀ p, p < 30 → f2 p = f p) → ∃ f3, m (f2, g) = rV (f3, g) ∧ MRel A' f3 ∧ ∀ p, 30 ≤ p → f3 p = f2 p
theorem q_fault {A : mu_A} {f : Nat → Nat → Int32} (ok : AOK A) (hM : MRel A f) (hC : CRel A f) : Mt A f (fun σ => x_b_fault_0 σ) (fun σ => x_m_fault_0 σ) id := by
  refine Qn_Mt ok hM hC (Qn_val ok hM rfl (aX A) ?_ ?_)
  · intro g
    refine ⟨f, ?_, QC_refl f⟩
    show x_b_fault_0 (f, g) = _
    rw [e_b_fault_0]
    show rI (f 31 2) (f, g) = _
    rw [hC.2.2.2.2.2.2.2.2]
  · intro f0 f2 g M0 h0 e0
    refine ⟨f0, ?_, h0, QM_refl f0⟩
    show x_m_fault_0 (f2, g) = _
    have h16 : f2 0 16 = aX A := by
      have := M0.2.2.2.2.2.2.2.2
      rw [e0, u1_ne _ _ (by omega)] at this
      exact this
    rw [e_m_fault_0, e0]
    show rI (f2 0 16) (en_u1 f2 0 0 0, g) = _
    rw [h16]
theorem q_forget {A : mu_A} {f : Nat → Nat → Int32} (ok : AOK A) (hM : MRel A f) (hC : CRel A f) : MtV A f (fun σ => x_b_forget_0 σ) (fun σ => x_m_forget_0 σ) := by
  have lo := ok.1
  refine ⟨uS A (0, (aS A).2), AOK_S ok ⟨Nat.zero_le 8, fun k hk => absurd hk (Nat.not_lt_zero k)⟩, fun g => ?_, fun f2 g h2 => ?_⟩
  · refine ⟨en_u1 f 81 0 0, e_b_forget_0 (f, g), fun p hp => u1_p _ _ _ (by omega), ?_⟩
    obtain ⟨h1, h2, h3, h4, h5, h6, h7, h8, h9⟩ := hC
    exact ⟨CLd_of h1 (fun p _ _ _ => u1_p _ _ _ (by omega)), CGd_of h2 (fun p _ _ => u1_p _ _ _ (by omega)), CRw_of h3 (u1_ne _ _ (by omega)) (fun p _ _ => u1_p _ _ _ (by omega)), hPs_of lo h4 (u1_ne _ _ (by omega)) (u1_p _ _ _ (by omega)), ⟨u1_at _ _ _ _, fun k hk => absurd hk (Nat.not_lt_zero k)⟩, CIm_of lo h6 (u1_ne _ _ (by omega)) (fun p _ _ => u1_p _ _ _ (by omega)), CTp_of h7 (u1_ne _ _ (by omega)) (u1_p _ _ _ (by omega)), fun i hi => by rw [u1_ne _ _ (by omega)]; exact h8 i hi, by rw [u1_ne _ _ (by omega)]; exact h9⟩
  · have M2 := MRel_Q ok (MRel_hi ok hM h2) (QM_u0 f2 (i := 0) 0 (by omega))
    refine ⟨en_u1 (en_u1 f2 0 0 0) 0 55 0, e_m_forget_0 (f2, g), ?_, fun p hp => by rw [u1_p _ _ _ (by omega), u1_p _ _ _ (by omega)]⟩
    generalize en_u1 f2 0 0 0 = f0 at M2 ⊢
    obtain ⟨h1, h2, h3, h4, h5, h6, h7, h8, h9⟩ := M2
    exact ⟨MLd_of h1 (fun j _ => u1_ne _ _ (by omega)) (fun p _ _ => u1_p _ _ _ (by omega)), MGd_of h2 (u1_ne _ _ (by omega)) (u1_ne _ _ (by omega)) (u1_p _ _ _ (by omega)), MRw_of h3 (fun j _ _ => u1_ne _ _ (by omega)) lo, hPs_of lo h4 (u1_ne _ _ (by omega)) (u1_p _ _ _ (by omega)), ⟨u1_at _ _ _ _, fun k hk => absurd hk (Nat.not_lt_zero k)⟩, MIm_of lo h6 (fun i _ _ => u1_ne _ _ (by omega)) (fun p _ _ => u1_p _ _ _ (by omega)), MTp_of h7 (u1_ne _ _ (by omega)) (u1_p _ _ _ (by omega)), fun i hi => by rw [u1_ne _ _ (by omega)]; exact h8 i hi, by rw [u1_ne _ _ (by omega)]; exact h9⟩
def snA (sn : mu_Sn) (x d w : Nat) : mu_Sn := (sn.1 + 1, (fun k => if k = sn.1 then x else sn.2.1 k), (fun k => if k = sn.1 then d else sn.2.2.1 k), (fun k => if k = sn.1 then w else sn.2.2.2 k))
theorem snA_ok {Λ : mu_Ld} {sn : mu_Sn} (h : snOK Λ sn) (h8 : sn.1 < 8) {x d w : Nat} (hx : x < lB Λ) (hd : d ≤ 12) (h1 : 1 ≤ w) (h2 : w ≤ 99) : snOK Λ (snA sn x d w) := by
  refine ⟨h8, fun k hk => ?_⟩
  have hk' : k < sn.1 + 1 := hk
  show (if k = sn.1 then x else sn.2.1 k) < lB Λ ∧ (if k = sn.1 then d else sn.2.2.1 k) ≤ 12 ∧ 1 ≤ (if k = sn.1 then w else sn.2.2.2 k) ∧ (if k = sn.1 then w else sn.2.2.2 k) ≤ 99
  by_cases c : k = sn.1
  · simp only [c, if_true]; exact ⟨hx, hd, h1, h2⟩
  · simp only [c, if_false]; exact h.2 k (by omega)
theorem q_see {A : mu_A} {f : Nat → Nat → Int32} (ok : AOK A) (hM : MRel A f) (hC : CRel A f) (v1 v2 v3 : Int32) : Mt A f (fun σ => x_b_see_0 σ v1 v2 v3) (fun σ => x_m_see_0 σ v1 v2 v3) id := by
  have lo := ok.1
  have l1 := lo.1
  have l2 := lo.2.1
  have cB := hC.1.1
  have sn := ok.2.2.2.2.2.1
  have s8 := sn.1
  have hS : f 81 0 = nI (aS A).1 := hC.2.2.2.2.1.1
  rcases ok_bad v1 (n := lB (aL A)) (by omega) with b1 | ⟨x, hx, rfl⟩
  · refine Mt_err ok hM hC 1 (by omega) ?_ ?_
    · intro g
      show x_b_see_0 (f, g) v1 v2 v3 = _
      rw [e_b_see_0, c_checkBoxN f g cB b1, c_Vx]
    · intro f0 f2 g M0 h0 e0
      show x_m_see_0 (f2, g) v1 v2 v3 = _
      rw [e_m_see_0]
      dsimp only
      rw [← e0, m_isBoxN f0 g h0 M0.1.1 b1, c_I, if_pos (by decide)]
      rfl
  have cR : ∀ g, (∀ σ : en_S, σ = (f, g) → x_b_see_0 σ (nI x) v2 v3 = x_b_see_38 (f, g)) → ∃ f1, x_b_see_0 (f, g) (nI x) v2 v3 = rI nN (f1, g) ∧ (∀ p, p < 31 → f1 p = f p) ∧ CRel (aRf A 2) f1 := by
    intro g h
    rw [h (f, g) rfl, e_b_see_38]
    exact ⟨_, rfl, fun q hq => u1_p _ _ _ (by omega), CRel_F ok hC (i := 2) (by omega)⟩
  have mR : ∀ (f0 : Nat → Nat → Int32) (g : Nat → Nat → Int64), MRel A f0 → f0 0 0 = nI 0 → ∃ f3, en_cI (x_m_refuses_0 (f0, g) 2) (fun r4 σ3 => some (.inl (some (.int r4)), σ3)) (fun e σ => some (.inr e, σ)) = rI nN (f3, g) ∧ f3 0 0 = nI 0 ∧ MRel (aRf A 2) f3 ∧ ∀ p, 30 ≤ p → f3 p = f0 p := by
    intro f0 g M0 h0
    rw [show x_m_refuses_0 (f0, g) 2 = _ from m_refuses f0 g (i := 2) (by omega), c_I]
    exact ⟨_, rfl, by rw [u1_ne _ _ (by omega)]; exact h0, MRel_F ok M0 (by omega), fun q hq => u1_p _ _ _ (by omega)⟩
  by_cases cs : (aS A).1 = 8
  · refine Mt_val (A' := aRf A 2) ok (AOK_F ok _) hM rfl nN ?_ ?_
    · intro g
      refine cR g (fun σ hσ => ?_)
      subst hσ
      rw [e_b_see_0, c_checkBoxY f g cB (by omega) hx, c_V, if_pos (by show (8 : Int32) ≤ f 81 0; rw [hS, cs]; decide)]
    · intro f0 f2 g M0 h0 e0
      show ∃ f3, x_m_see_0 (f2, g) (nI x) v2 v3 = rI nN (f3, g) ∧ _
      rw [e_m_see_0]
      dsimp only
      rw [← e0, m_isBoxY f0 g h0 M0.1.1 (by omega) hx, c_I, if_neg (by decide), if_pos (by show f0 0 55 = 8; rw [M0.2.2.2.2.1.1, cs]; decide)]
      exact mR f0 g M0 h0
  have cs8 : (aS A).1 < 8 := by omega
  have c8 : ∀ g : Nat → Nat → Int64, ¬ (8 : Int32) ≤ (f, g).1 81 0 := by
    intro g
    show ¬ (8 : Int32) ≤ f 81 0
    rw [hS]
    exact nI_ge (a := (aS A).1) (b := 8) cs8 (by omega)
  have m8 : ∀ (f0 : Nat → Nat → Int32) (g : Nat → Nat → Int64), MRel A f0 → ¬ (f0, g).1 0 55 = 8 := by
    intro f0 g M0
    show ¬ f0 0 55 = 8
    rw [M0.2.2.2.2.1.1, show (8 : Int32) = nI 8 by decide, q_eqI (by omega) (by omega)]
    exact cs
  rcases ok_badR v2 (a := 0) (b := 12) (by omega) (by omega) with b2 | ⟨d, _, hd, rfl⟩
  · refine Mt_val (A' := aRf A 2) ok (AOK_F ok _) hM rfl nN ?_ ?_
    · intro g
      refine cR g (fun σ hσ => ?_)
      subst hσ
      rw [e_b_see_0, c_checkBoxY f g cB (by omega) hx, c_V, if_neg (c8 g)]
      by_cases c : v2 < 0
      · rw [if_pos c]
      · rw [if_neg c, if_pos (show (12 : Int32) < v2 from b2.resolve_left c)]
    · intro f0 f2 g M0 h0 e0
      show ∃ f3, x_m_see_0 (f2, g) (nI x) v2 v3 = rI nN (f3, g) ∧ _
      rw [e_m_see_0]
      dsimp only
      rw [← e0, m_isBoxY f0 g h0 M0.1.1 (by omega) hx, c_I, if_neg (by decide), if_neg (m8 f0 g M0), show x_m_within_0 (f0, g) v2 0 12 = _ from m_withinN (f0, g) (a := 0) (b := 12) b2, c_I, if_pos (by decide)]
      exact mR f0 g M0 h0
  rcases ok_badR v3 (a := 1) (b := 99) (by omega) (by omega) with b3 | ⟨w, hw1, hw2, rfl⟩
  · refine Mt_val (A' := aRf A 2) ok (AOK_F ok _) hM rfl nN ?_ ?_
    · intro g
      refine cR g (fun σ hσ => ?_)
      subst hσ
      rw [e_b_see_0, c_checkBoxY f g cB (by omega) hx, c_V, if_neg (c8 g), if_neg (nI_pos (by omega)), if_neg (show ¬ (12 : Int32) < nI d from nI_nlt (a := 12) (b := d) hd (by omega))]
      by_cases c : v3 < 1
      · rw [if_pos c]
      · rw [if_neg c, if_neg (by rw [Int32.not_le]; exact b3.resolve_left c)]
    · intro f0 f2 g M0 h0 e0
      show ∃ f3, x_m_see_0 (f2, g) (nI x) (nI d) v3 = rI nN (f3, g) ∧ _
      rw [e_m_see_0]
      dsimp only
      rw [← e0, m_isBoxY f0 g h0 M0.1.1 (by omega) hx, c_I, if_neg (by decide), if_neg (m8 f0 g M0), show x_m_within_0 (f0, g) (nI d) 0 12 = _ from m_withinY (f0, g) (a := 0) (b := 12) (by omega) hd (by omega), c_I, if_neg (by decide), show x_m_within_0 (f0, g) v3 1 99 = _ from m_withinN (f0, g) (a := 1) (b := 99) b3, c_I, if_pos (by decide)]
      exact mR f0 g M0 h0
  refine Mt_val (A' := uS A (snA (aS A) x d w)) ok (AOK_S ok (snA_ok sn cs8 hx hd hw1 hw2)) hM rfl (nI ((aS A).1 + 1)) ?_ ?_
  · intro g
    show ∃ f1, x_b_see_0 (f, g) (nI x) (nI d) (nI w) = rI _ (f1, g) ∧ _
    rw [e_b_see_0, c_checkBoxY f g cB (by omega) hx, c_V, if_neg (c8 g), if_neg (nI_pos (by omega)), if_neg (show ¬ (12 : Int32) < nI d from nI_nlt (a := 12) (b := d) hd (by omega)), if_neg (show ¬ nI w < 1 from nI_nlt (a := w) (b := 1) hw1 (by omega)), if_pos (show nI w ≤ 99 from nI_le (a := w) (b := 99) hw2 (by omega)), e_se_add_p81_0, if_neg (c8 g)]
    simp (disch := omega) only [hS, q_in, q_clamp, if_true, q_1, nI_add]
    refine ⟨_, rfl, ?_, ?_⟩
    · intro q hq
      simp (disch := omega) only [u1_p]
    · obtain ⟨h1, h2, h3, h4, h5, h6, h7, h8, h9⟩ := hC
      refine ⟨CLd_of h1 (fun p _ _ _ => by simp (disch := omega) only [u1_p]), CGd_of h2 (fun p _ _ => by simp (disch := omega) only [u1_p]), CRw_of h3 (by simp (disch := omega) only [u1_ne]) (fun p _ _ => by simp (disch := omega) only [u1_p]), hPs_of lo h4 (by simp (disch := omega) only [u1_ne]) (by simp (disch := omega) only [u1_p]), ⟨u1_at _ _ _ _, fun k hk => ?_⟩, CIm_of lo h6 (by simp (disch := omega) only [u1_ne]) (fun p _ _ => by simp (disch := omega) only [u1_p]), CTp_of h7 (by simp (disch := omega) only [u1_ne]) (by simp (disch := omega) only [u1_p]), fun i hi => by simp (disch := omega) only [u1_ne]; exact h8 i hi, by simp (disch := omega) only [u1_ne]; exact h9⟩
      have hk' : k < (aS A).1 + 1 := hk
      show en_u1 _ 81 0 _ 82 k = nI (if k = (aS A).1 then x else (aS A).2.1 k) ∧ en_u1 _ 81 0 _ 83 k = nI (if k = (aS A).1 then d else (aS A).2.2.1 k) ∧ en_u1 _ 81 0 _ 84 k = nI (if k = (aS A).1 then w else (aS A).2.2.2 k)
      by_cases c : k = (aS A).1
      · subst c
        simp (disch := omega) only [u1_ne, u1_at, if_true, and_self]
      · simp (disch := omega) only [u1_ne, c, if_false]
        exact h5.2 k (by omega)
  · intro f0 f2 g M0 h0 e0
    have hS0 : f0 0 55 = nI (aS A).1 := M0.2.2.2.2.1.1
    show ∃ f3, x_m_see_0 (f2, g) (nI x) (nI d) (nI w) = rI _ (f3, g) ∧ _
    rw [e_m_see_0]
    dsimp only
    rw [← e0, m_isBoxY f0 g h0 M0.1.1 (by omega) hx, c_I, if_neg (by decide), if_neg (m8 f0 g M0), show x_m_within_0 (f0, g) (nI d) 0 12 = _ from m_withinY (f0, g) (a := 0) (b := 12) (by omega) hd (by omega), c_I, if_neg (by decide), show x_m_within_0 (f0, g) (nI w) 1 99 = _ from m_withinY (f0, g) (a := 1) (b := 99) hw1 hw2 (by omega), c_I, if_neg (by decide)]
    simp (disch := omega) only [hS0, q_1, q_2, q_3, nI_add, pk_mul, q_in, q_clamp, if_true]
    refine ⟨_, rfl, by simp (disch := omega) only [u1_ne]; exact h0, ?_, fun q hq => by simp (disch := omega) only [u1_p]⟩
    obtain ⟨h1, h2, h3, h4, h5, h6, h7, h8, h9⟩ := M0
    refine ⟨MLd_of h1 (fun j _ => by simp (disch := omega) only [u1_ne]) (fun p _ _ => by simp (disch := omega) only [u1_p]), MGd_of h2 (by simp (disch := omega) only [u1_ne]) (by simp (disch := omega) only [u1_ne]) (by simp (disch := omega) only [u1_p]), MRw_of h3 (fun j _ _ => by simp (disch := omega) only [u1_ne]) lo, hPs_of lo h4 (by simp (disch := omega) only [u1_ne]) (by simp (disch := omega) only [u1_p]), ⟨u1_at _ _ _ _, fun k hk => ?_⟩, MIm_of lo h6 (fun i _ _ => by simp (disch := omega) only [u1_ne]) (fun p _ _ => by simp (disch := omega) only [u1_p]), MTp_of h7 (by simp (disch := omega) only [u1_ne]) (by simp (disch := omega) only [u1_p]), fun i hi => by simp (disch := omega) only [u1_ne]; exact h8 i hi, by simp (disch := omega) only [u1_ne]; exact h9⟩
    have hk' : k < (aS A).1 + 1 := hk
    show en_u1 _ 0 55 _ 24 (3 * k) = nI (if k = (aS A).1 then x else (aS A).2.1 k) ∧ en_u1 _ 0 55 _ 24 (3 * k + 1) = nI (if k = (aS A).1 then d else (aS A).2.2.1 k) ∧ en_u1 _ 0 55 _ 24 (3 * k + 2) = nI (if k = (aS A).1 then w else (aS A).2.2.2 k)
    by_cases c : k = (aS A).1
    · subst c
      simp (disch := omega) only [u1_ne, u1_at, if_true, and_self]
    · simp (disch := omega) only [u1_ne, c, if_false]
      exact h5.2 k (by omega)
