/-! the model's methods that only look -/
/-- a rule of the model: its code from a place on -/
def mCd (f : Nat → Nat → Int32) : Nat → List Int32 → Prop
  | a, [] => a < 1400 ∧ f 6 a = nI 0
  | a, s :: l => if -8 < s then (a + 1 < 1400 ∧ ((0 ≤ s ∧ f 6 a = nI 1 ∧ f 6 (a + 1) = s) ∨ (s < 0 ∧ f 6 a = nI 2 ∧ f 6 (a + 1) = -1 - s)) ∧ mCd f (a + 2) l)
    else (a < 1400 ∧ f 6 a = (if s = -8 then nI 3 else if s = -9 then nI 5 else if s = -10 then nI 4 else -5 - s) ∧ mCd f (a + 1) l)
def mRl (f : Nat → Nat → Int32) (a : Int32) : Option (List Int32) → Prop
  | none => a = nN
  | some l => ∃ k, a = nI k ∧ k < 1400 ∧ mCd f k l
/-- the model's land -/
def MLd (Λ : mu_Ld) (f : Nat → Nat → Int32) : Prop := f 0 3 = nI (lB Λ) ∧ f 0 4 = nI (lP Λ) ∧ (∀ p, p < lP Λ → f 4 p = lS Λ p) ∧ (∀ p, p < lP Λ → f 5 p = lH Λ p) ∧ (∀ x, x < lB Λ → f 3 x = nI (lR Λ x)) ∧ (∀ x, x < lB Λ → ∀ k, k < lR Λ x → f 2 (6 * x + k) = lT Λ (6 * x + k)) ∧ mRl f (f 0 5) (lK Λ) ∧ mRl f (f 0 6) (lF Λ)
/-- a row of the model -/
def MRw (Λ : mu_Ld) (b : Nat) (r : mu_Rw) (f : Nat → Nat → Int32) : Prop := f 18 b = rD r ∧ (∀ x, x < lB Λ → f 18 (b + 1 + x) = rW r x) ∧ (∀ x, x < lB Λ → f 18 (b + 7 + x) = rS r x) ∧ (∀ p, p < lP Λ → f 18 (b + 13 + p) = rU r p) ∧ (∀ p, p < lP Λ → f 18 (b + 21 + p) = rT r p)
theorem m_greater (σ : en_S) (a b : Int32) : x_m_greater_0 σ a b = rI (if a ≤ b then b else a) σ := by
  rw [e_m_greater_0]; split <;> rfl
theorem m_lesser (σ : en_S) (a b : Int32) : x_m_lesser_0 σ a b = rI (if b ≤ a then b else a) σ := by
  rw [e_m_lesser_0]; split <;> rfl
theorem m_bounded (σ : en_S) (v a b : Int32) : x_m_bounded_0 σ v a b = rI (sIn v a b) σ := by
  rw [e_m_bounded_0]; unfold sIn
  split
  · split <;> rfl
  · rfl
theorem q_mx (a b : Int32) : (if a ≤ b then b else a) = (if a < b then b else a) := by
  by_cases h : a < b
  · rw [if_pos h, if_pos (Int32.le_of_lt h)]
  · rw [if_neg h]
    by_cases h2 : a ≤ b
    · rw [if_pos h2]
      rcases Int32.lt_or_eq_of_le h2 with h3 | h3
      · exact absurd h3 h
      · exact h3.symm
    · rw [if_neg h2]
theorem q_mn (a b : Int32) : (if b ≤ a then b else a) = (if b < a then b else a) := by
  by_cases h : b < a
  · rw [if_pos h, if_pos (Int32.le_of_lt h)]
  · rw [if_neg h]
    by_cases h2 : b ≤ a
    · rw [if_pos h2]
      rcases Int32.lt_or_eq_of_le h2 with h3 | h3
      · exact absurd h3 h
      · exact h3
    · rw [if_neg h2]
theorem m_within (σ : en_S) (v a b : Int32) : x_m_within_0 σ v a b = rI (tb (decide (¬ v < a ∧ ¬ b < v))) σ := by
  rw [e_m_within_0]
  by_cases h1 : v < a
  · rw [if_pos h1, decide_eq_false (fun k => k.1 h1)]; rfl
  · rw [if_neg h1]
    by_cases h2 : b < v
    · rw [if_pos h2, decide_eq_false (fun k => k.2 h2)]; rfl
    · rw [if_neg h2, decide_eq_true ⟨h1, h2⟩]; rfl
theorem m_bits (σ : en_S) {m : Nat} (hm : m < 2147483648) : x_m_bits_0 σ (nI m) = rI (nI (mu_bc m)) σ := by
  rw [e_m_bits_0]
  have h := mu_loop (fun a i => x_m_bits_4 σ (nI m) (nI a) i) (fun p => mu_up (fun p a => a + (m.testBit p).toNat) 0 p) 8 (by
    intro p hp
    show x_m_bits_4 σ (nI m) (nI _) (nI p) = _
    rw [e_m_bits_4]
    simp (disch := omega) only [q_0, q_1, q_2, q_3, q_4, q_5, q_6, q_7, q_8, q_9, q_10, q_11, q_12, q_13, q_14, q_15, q_16, q_17, q_18, q_19, q_20, q_21, q_22, q_23, q_24, q_29, q_30, q_31, q_36, q_42, q_50, q_40, q_48, q_96, q_97, q_99, q_100, q_255, q_256, q_700, q_999, q_1160, q_1400, q_99999, q_m1, q_leI, q_bit, nI_add]
    rw [if_neg (by omega)]
    rfl)
  refine Eq.trans h ?_
  show x_m_bits_4 σ (nI m) (nI _) (nI 8) = _
  rw [e_m_bits_4, if_pos (by decide)]
  rfl
theorem m_handsAt {Λ : mu_Ld} {b : Nat} {r : mu_Rw} (σ : en_S) (lo : lOK Λ) (hb : b ≤ 29) (hL : MLd Λ σ.1) (hR : MRw Λ b r σ.1) (v : Int32) : x_m_handsAt_0 σ (nI b) v = rI (nI (sH Λ r v)) σ := by
  have hP := hL.2.1
  have hp8 := lo.2.1
  rw [e_m_handsAt_0]
  have h := mu_loop (fun a i => x_m_handsAt_5 σ (nI b) v (nI a) i) (fun p => mu_mk (fun p => decide (rU r p = v)) p) (lP Λ) (by
    intro p hp
    show x_m_handsAt_5 σ (nI b) v (nI _) (nI p) = x_m_handsAt_5 σ (nI b) v (nI _) (nI (p + 1))
    have hU := hR.2.2.2.1 p hp
    rw [e_m_handsAt_5, hP]
    simp (disch := omega) only [q_0, q_1, q_2, q_3, q_4, q_5, q_6, q_7, q_8, q_9, q_10, q_11, q_12, q_13, q_14, q_15, q_16, q_17, q_18, q_19, q_20, q_21, q_22, q_23, q_24, q_29, q_30, q_31, q_36, q_42, q_50, q_40, q_48, q_96, q_97, q_99, q_100, q_255, q_256, q_700, q_999, q_1160, q_1400, q_99999, q_m1, q_leI, nI_add, q_in, q_clamp, if_true, hU, q_shl, fa_or, Nat.or_zero]
    rw [if_neg (by omega)]
    by_cases e : rU r p = v
    · rw [if_pos e, mu_mk_t (decide_eq_true e)]
    · rw [if_neg e, mu_mk_f (decide_eq_false e)])
  refine Eq.trans h ?_
  show x_m_handsAt_5 σ (nI b) v (nI _) (nI (lP Λ)) = _
  rw [e_m_handsAt_5, hP, if_pos (Int32.le_refl _)]
  rfl
theorem sH8 {Λ : mu_Ld} (r : mu_Rw) (lo : lOK Λ) (v : Int32) : sH Λ r v < 256 := mu_mk8 _ lo.2.1
theorem sH_tb {Λ : mu_Ld} (r : mu_Rw) (v : Int32) {p : Nat} (hp : p < lP Λ) : (sH Λ r v).testBit p = decide (rU r p = v) := by
  unfold sH; rw [mu_mk_tb]; simp [hp]
theorem m_mightOf {Λ : mu_Ld} {b : Nat} {r : mu_Rw} (σ : en_S) (lo : lOK Λ) (hb : b ≤ 29) (hL : MLd Λ σ.1) (hR : MRw Λ b r σ.1) {p : Nat} (hp : p < lP Λ) : x_m_mightOf_0 σ (nI b) (nI p) = rI (sM Λ r p) σ := by
  have hp8 := lo.2.1
  have hT := hR.2.2.2.2 p hp
  have hS := hL.2.2.1 p hp
  rw [e_m_mightOf_0]
  simp (disch := omega) only [q_0, q_1, q_2, q_3, q_4, q_5, q_6, q_7, q_8, q_9, q_10, q_11, q_12, q_13, q_14, q_15, q_16, q_17, q_18, q_19, q_20, q_21, q_22, q_23, q_24, q_29, q_30, q_31, q_36, q_42, q_50, q_40, q_48, q_96, q_97, q_99, q_100, q_255, q_256, q_700, q_999, q_1160, q_1400, q_99999, q_m1, nI_add, q_in, q_clamp, if_true, hT, hS, m_greater, c_I, q_mx]
  rfl
theorem m_mightBy {Λ : mu_Ld} {b : Nat} {r : mu_Rw} (σ : en_S) (lo : lOK Λ) (hb : b ≤ 29) (hL : MLd Λ σ.1) (hR : MRw Λ b r σ.1) {m : Nat} (hm : m < 2147483648) : x_m_mightBy_0 σ (nI b) (nI m) = rI (sMt Λ r m) σ := by
  have hP := hL.2.1
  have hp8 := lo.2.1
  rw [e_m_mightBy_0]
  have h := mu_loop (fun a i => x_m_mightBy_5 σ (nI b) (nI m) a i) (fun p => mu_up (fun p a => if m.testBit p then a + sM Λ r p else a) (nI 0) p) (lP Λ) (by
    intro p hp
    show x_m_mightBy_5 σ (nI b) (nI m) _ (nI p) = x_m_mightBy_5 σ (nI b) (nI m) _ (nI (p + 1))
    rw [e_m_mightBy_5, hP]
    simp (disch := omega) only [q_0, q_1, q_2, q_3, q_4, q_5, q_6, q_7, q_8, q_9, q_10, q_11, q_12, q_13, q_14, q_15, q_16, q_17, q_18, q_19, q_20, q_21, q_22, q_23, q_24, q_29, q_30, q_31, q_36, q_42, q_50, q_40, q_48, q_96, q_97, q_99, q_100, q_255, q_256, q_700, q_999, q_1160, q_1400, q_99999, q_m1, q_leI, nI_add, q_bit1, m_mightOf σ lo hb hL hR hp, c_I]
    rw [if_neg (by omega), mu_upS]
    cases m.testBit p
    · rw [if_neg (by decide), if_neg (by decide)]
      show x_m_mightBy_5 σ (nI b) (nI m) (_ + 0) (nI (p + 1)) = _
      rw [Int32.add_zero]
    · rw [if_pos rfl, if_pos rfl])
  refine Eq.trans h ?_
  show x_m_mightBy_5 σ (nI b) (nI m) _ (nI (lP Λ)) = _
  rw [e_m_mightBy_5, hP, if_pos (Int32.le_refl _)]
  rfl
theorem m_canBear {Λ : mu_Ld} {b : Nat} {r : mu_Rw} (σ : en_S) (lo : lOK Λ) (hb : b ≤ 29) (hL : MLd Λ σ.1) (hR : MRw Λ b r σ.1) {x m : Nat} (hx : x < lB Λ) (hm : m < 2147483648) : x_m_canBear_0 σ (nI b) (nI x) (nI m) = rI (tb (sBr Λ r x m)) σ := by
  have hb6 := lo.1
  have hW := hR.2.1 x hx
  rw [e_m_canBear_0, m_mightBy σ lo hb hL hR hm]
  simp (disch := omega) only [q_0, q_1, q_2, q_3, q_4, q_5, q_6, q_7, q_8, q_9, q_10, q_11, q_12, q_13, q_14, q_15, q_16, q_17, q_18, q_19, q_20, q_21, q_22, q_23, q_24, q_29, q_30, q_31, q_36, q_42, q_50, q_40, q_48, q_96, q_97, q_99, q_100, q_255, q_256, q_700, q_999, q_1160, q_1400, q_99999, q_m1, nI_add, q_in, q_clamp, q_eqI, if_true, hW, c_I]
  unfold sBr
  by_cases h0 : m = 0
  · rw [if_pos h0, decide_eq_false (fun k => k.1 h0)]; rfl
  · rw [if_neg h0]
    by_cases h1 : sMt Λ r m < rW r x
    · rw [if_pos h1, decide_eq_false (fun k => k.2 h1)]; rfl
    · rw [if_neg h1, decide_eq_true ⟨h0, h1⟩]; rfl
theorem m_isBorne {Λ : mu_Ld} {b : Nat} {r : mu_Rw} (σ : en_S) (lo : lOK Λ) (hb : b ≤ 29) (hL : MLd Λ σ.1) (hR : MRw Λ b r σ.1) {x : Nat} (hx : x < lB Λ) : x_m_isBorne_0 σ (nI b) (nI x) = rI (tb (sB Λ r x)) σ := by
  rw [e_m_isBorne_0, m_handsAt σ lo hb hL hR, c_I, m_canBear σ lo hb hL hR hx (Nat.lt_trans (sH8 r lo _) (by omega)), c_I, q_0, q_1]
  rw [if_pos (by rw [tb_01]; trivial)]
  rfl
theorem sSt_10 {Λ : mu_Ld} (lo : lOK Λ) (m : Nat) : ∀ n, n ≤ lP Λ → (sSt Λ m (nI 10) n = sSt Λ m (nI 9) n ∨ (sSt Λ m (nI 10) n = nI 10 ∧ ∀ p, p < n → m.testBit p = false)) := by
  intro n
  induction n with
  | zero => intro _; exact Or.inr ⟨rfl, fun p hp => absurd hp (by omega)⟩
  | succ n ih =>
    intro hn
    obtain ⟨h, h1, h9, e⟩ := lo.2.2.2.1 n (by omega)
    simp only [sSt, mu_upS] at ih ⊢
    cases ht : m.testBit n
    · rw [if_neg (by decide), if_neg (by decide)]
      rcases ih (by omega) with i | ⟨i, j⟩
      · exact Or.inl i
      · refine Or.inr ⟨i, fun p hp => ?_⟩
        by_cases hq : p = n
        · rw [hq, ht]
        · exact j p (by omega)
    · rw [if_pos rfl, if_pos rfl]
      left
      rcases ih (by omega) with i | ⟨i, j⟩
      · rw [i]
      · have k : mu_up (fun p a => if m.testBit p then (if lH Λ p < a then lH Λ p else a) else a) (nI 9) n = nI 9 := by
          have := mu_up_inv (g := fun p a => if m.testBit p then (if lH Λ p < a then lH Λ p else a) else a) (fun _ a => a = nI 9) (nI 9) rfl n (by
            intro p a hp ha
            rw [j p hp, if_neg (by decide)]; exact ha)
          exact this
        rw [i, k, e]
        simp (disch := omega) only [q_ltI]
        rw [if_pos (by omega)]
        by_cases h8 : h < 9
        · rw [if_pos h8]
        · rw [if_neg h8, show h = 9 by omega]
theorem m_leanBy {Λ : mu_Ld} (σ : en_S) (lo : lOK Λ) (hL : MLd Λ σ.1) {m : Nat} (hm : m < 2 ^ lP Λ) : x_m_leanBy_0 σ (nI m) = rI (sLn Λ m) σ := by
  have hP := hL.2.1
  have hp8 := lo.2.1
  have hm2 : m < 2147483648 := mu_lt31 hm (by omega)
  rw [e_m_leanBy_0]
  have h := mu_loop (fun (a : Int32 × Int32) i => x_m_leanBy_8 σ (nI m) a.1 a.2 i) (fun p => (sTl Λ m p, sSt Λ m (nI 10) p)) (lP Λ) (by
    intro p hp
    have hH := hL.2.2.2.1 p hp
    show x_m_leanBy_8 σ (nI m) (sTl Λ m p) (sSt Λ m (nI 10) p) (nI p) = x_m_leanBy_8 σ (nI m) (sTl Λ m (p + 1)) (sSt Λ m (nI 10) (p + 1)) (nI (p + 1))
    rw [e_m_leanBy_8, hP]
    simp (disch := omega) only [q_0, q_1, q_2, q_3, q_4, q_5, q_6, q_7, q_8, q_9, q_10, q_11, q_12, q_13, q_14, q_15, q_16, q_17, q_18, q_19, q_20, q_21, q_22, q_23, q_24, q_29, q_30, q_31, q_36, q_42, q_50, q_40, q_48, q_96, q_97, q_99, q_100, q_255, q_256, q_700, q_999, q_1160, q_1400, q_99999, q_m1, q_leI, nI_add, q_bit0, q_in, q_clamp, if_true, hH, m_greater, m_lesser, c_I, q_mx, q_mn]
    rw [if_neg (by omega)]
    simp only [sTl, sSt, mu_upS]
    cases m.testBit p
    · rw [if_pos rfl, if_neg (by decide), if_neg (by decide)]
    · rw [if_neg (by decide), if_pos rfl, if_pos rfl]
      rfl)
  refine Eq.trans h ?_
  show x_m_leanBy_8 σ (nI m) (sTl Λ m (lP Λ)) (sSt Λ m (nI 10) (lP Λ)) (nI (lP Λ)) = _
  rw [e_m_leanBy_8, hP, if_pos (Int32.le_refl _)]
  simp (disch := omega) only [q_0, q_1, q_2, q_3, q_4, q_5, q_6, q_7, q_8, q_9, q_10, q_11, q_12, q_13, q_14, q_15, q_16, q_17, q_18, q_19, q_20, q_21, q_22, q_23, q_24, q_29, q_30, q_31, q_36, q_42, q_50, q_40, q_48, q_96, q_97, q_99, q_100, q_255, q_256, q_700, q_999, q_1160, q_1400, q_99999, q_m1, q_eqI]
  unfold sLn
  by_cases h0 : m = 0
  · rw [if_pos h0, if_pos h0]; rfl
  · rw [if_neg h0, if_neg h0]
    rcases sSt_10 lo m (lP Λ) (Nat.le_refl _) with i | ⟨_, j⟩
    · rw [i]; rfl
    · exfalso
      apply h0
      apply Nat.eq_of_testBit_eq
      intro q
      rw [Nat.zero_testBit]
      by_cases hq : q < lP Λ
      · exact j q hq
      · exact Nat.testBit_lt_two_pow (Nat.lt_of_lt_of_le hm (Nat.pow_le_pow_right (by omega) (by omega)))
theorem m_townOf {Λ : mu_Ld} {b : Nat} {r : mu_Rw} (σ : en_S) (lo : lOK Λ) (hb : b ≤ 29) (hL : MLd Λ σ.1) (hR : MRw Λ b r σ.1) (ro : rOK Λ r) {x : Nat} (hx : x < lB Λ) : x_m_townOf_0 σ (nI b) (nI x) = rI (sTo Λ r x) σ := by
  have hb6 := lo.1
  have hS := hR.2.2.1 x hx
  obtain ⟨s, hs, e⟩ := ro.2.1 x hx
  have h6 := (lo.2.2.1 x hx).2
  have hT := hL.2.2.2.2.2.1 x hx s hs
  unfold sTo
  rw [e] at hS ⊢
  rw [e_m_townOf_0]
  simp (disch := omega) only [q_0, q_1, q_2, q_3, q_4, q_5, q_6, q_7, q_8, q_9, q_10, q_11, q_12, q_13, q_14, q_15, q_16, q_17, q_18, q_19, q_20, q_21, q_22, q_23, q_24, q_29, q_30, q_31, q_36, q_42, q_50, q_40, q_48, q_96, q_97, q_99, q_100, q_255, q_256, q_700, q_999, q_1160, q_1400, q_99999, q_m1, nI_add, pk_mul, q_in, q_clamp, if_true, hS, hT]
  rfl
theorem m_allWeight {Λ : mu_Ld} {b : Nat} {r : mu_Rw} (σ : en_S) (lo : lOK Λ) (hb : b ≤ 29) (hL : MLd Λ σ.1) (hR : MRw Λ b r σ.1) : x_m_allWeight_0 σ (nI b) = rI (mu_up (fun x a => a + rW r x) (nI 0) (lB Λ)) σ := by
  have hB := hL.1
  have hb6 := lo.1
  rw [e_m_allWeight_0]
  have h := mu_loop (fun a i => x_m_allWeight_4 σ (nI b) a i) (fun p => mu_up (fun x a => a + rW r x) (nI 0) p) (lB Λ) (by
    intro x hx
    show x_m_allWeight_4 σ (nI b) _ (nI x) = x_m_allWeight_4 σ (nI b) _ (nI (x + 1))
    have hW := hR.2.1 x hx
    rw [e_m_allWeight_4, hB]
    simp (disch := omega) only [q_0, q_1, q_2, q_3, q_4, q_5, q_6, q_7, q_8, q_9, q_10, q_11, q_12, q_13, q_14, q_15, q_16, q_17, q_18, q_19, q_20, q_21, q_22, q_23, q_24, q_29, q_30, q_31, q_36, q_42, q_50, q_40, q_48, q_96, q_97, q_99, q_100, q_255, q_256, q_700, q_999, q_1160, q_1400, q_99999, q_m1, q_leI, nI_add, q_in, q_clamp, if_true, hW]
    rw [if_neg (by omega), mu_upS])
  refine Eq.trans h ?_
  show x_m_allWeight_4 σ (nI b) _ (nI (lB Λ)) = _
  rw [e_m_allWeight_4, hB, if_pos (Int32.le_refl _)]
  rfl
theorem m_borneOnes {Λ : mu_Ld} {b : Nat} {r : mu_Rw} (σ : en_S) (lo : lOK Λ) (hb : b ≤ 29) (hL : MLd Λ σ.1) (hR : MRw Λ b r σ.1) : x_m_borneOnes_0 σ (nI b) = rI (nI (mu_mk (fun x => sB Λ r x) (lB Λ))) σ := by
  have hB := hL.1
  have hb6 := lo.1
  rw [e_m_borneOnes_0]
  have h := mu_loop (fun a i => x_m_borneOnes_4 σ (nI b) (nI a) i) (fun p => mu_mk (fun x => sB Λ r x) p) (lB Λ) (by
    intro x hx
    show x_m_borneOnes_4 σ (nI b) (nI _) (nI x) = x_m_borneOnes_4 σ (nI b) (nI _) (nI (x + 1))
    rw [e_m_borneOnes_4, hB]
    simp (disch := omega) only [q_0, q_1, q_2, q_3, q_4, q_5, q_6, q_7, q_8, q_9, q_10, q_11, q_12, q_13, q_14, q_15, q_16, q_17, q_18, q_19, q_20, q_21, q_22, q_23, q_24, q_29, q_30, q_31, q_36, q_42, q_50, q_40, q_48, q_96, q_97, q_99, q_100, q_255, q_256, q_700, q_999, q_1160, q_1400, q_99999, q_m1, q_leI, nI_add, m_isBorne σ lo hb hL hR hx, c_I, q_shl, fa_or, Nat.or_zero, tb_0]
    rw [if_neg (by omega)]
    by_cases e : sB Λ r x = true
    · rw [if_neg (by rw [e]; decide), mu_mk_t e]
    · have e2 : sB Λ r x = false := by simpa using e
      rw [if_pos e2, mu_mk_f e2])
  refine Eq.trans h ?_
  show x_m_borneOnes_4 σ (nI b) (nI _) (nI (lB Λ)) = _
  rw [e_m_borneOnes_4, hB, if_pos (Int32.le_refl _)]
  rfl
