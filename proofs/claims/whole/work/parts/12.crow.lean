/-! the class's methods that only look -/
def cRl (f : Nat → Nat → Int32) (q : Nat) : Option (List Int32) → Prop
  | none => f q 0 = nI 0
  | some l => f q 0 = nI 1 ∧ f q 1 = nI l.length ∧ l.length ≤ 700 ∧ ∀ i, i < l.length → f (q + 1) i = l.getD i 0
def CLd (Λ : mu_Ld) (f : Nat → Nat → Int32) : Prop := f 34 5 = nI (lB Λ) ∧ f 34 9 = nI (lP Λ) ∧ (∀ p, p < lP Λ → f 41 p = lS Λ p) ∧ (∀ p, p < lP Λ → f 42 p = lH Λ p) ∧ (∀ x, x < lB Λ → f 39 x = nI (lR Λ x)) ∧ (∀ x, x < lB Λ → ∀ k, k < lR Λ x → f 40 (6 * x + k) = lT Λ (6 * x + k)) ∧ cRl f 44 (lK Λ) ∧ cRl f 47 (lF Λ)
def CRw (Λ : mu_Ld) (S : Nat) (r : mu_Rw) (f : Nat → Nat → Int32) : Prop := f S 1 = rD r ∧ (∀ x, x < lB Λ → f (S + 1) x = rW r x) ∧ (∀ x, x < lB Λ → f (S + 2) x = rS r x) ∧ (∀ p, p < lP Λ → f (S + 3) p = rU r p) ∧ (∀ p, p < lP Λ → f (S + 4) p = rT r p)
theorem c_hasBit (σ : en_S) {m p : Nat} (hm : m < 2147483648) (hp : p < 31) : x_b_hasBit_0 σ (nI m) (nI p) = rI (tb (m.testBit p)) σ := by
  rw [e_b_hasBit_0]
  simp (disch := omega) only [q_0, q_1, q_2, q_3, q_4, q_5, q_6, q_7, q_8, q_9, q_10, q_11, q_12, q_13, q_14, q_15, q_16, q_17, q_18, q_19, q_20, q_21, q_22, q_23, q_24, q_29, q_30, q_31, q_36, q_42, q_50, q_40, q_48, q_96, q_97, q_99, q_100, q_255, q_256, q_700, q_999, q_1160, q_1400, q_99999, q_m1, q_bit1]
  cases m.testBit p
  · rw [if_neg (by decide)]; rfl
  · rw [if_pos rfl]; rfl
theorem c_within (σ : en_S) (v a b : Int32) : x_b_within_0 σ v a b = rI (sIn v a b) σ := by
  rw [e_b_within_0]; unfold sIn
  split
  · split <;> rfl
  · rfl
theorem c_bitCount (σ : en_S) {m : Nat} (hm : m < 256) : x_ji_bitCount_0 σ (nI m) = rI (nI (mu_bc m)) σ := by
  have h : ∀ k : Fin 256, ∀ σ : en_S, x_ji_bitCount_0 σ (nI k.val) = rI (nI (mu_bc k.val)) σ := by
    intro k σ
    rw [e_ji_bitCount_0]
    unfold rI
    congr 4
    revert k
    decide +kernel
  exact h ⟨m, hm⟩ σ
theorem c_townAt {Λ : mu_Ld} (σ : en_S) (lo : lOK Λ) (hL : CLd Λ σ.1) {x s : Nat} (hx : x < lB Λ) (hs : s < lR Λ x) : x_ld_townAt_p34_0 σ (nI x) (nI s) = rI (lT Λ (6 * x + s)) σ := by
  have hb6 := lo.1
  have h6 := (lo.2.2.1 x hx).2
  have hT := hL.2.2.2.2.2.1 x hx s hs
  rw [e_ld_townAt_p34_0]
  rw [Nat.mul_comm] at hT
  simp (disch := omega) only [q_0, q_1, q_2, q_3, q_4, q_5, q_6, q_7, q_8, q_9, q_10, q_11, q_12, q_13, q_14, q_15, q_16, q_17, q_18, q_19, q_20, q_21, q_22, q_23, q_24, q_29, q_30, q_31, q_36, q_42, q_50, q_40, q_48, q_96, q_97, q_99, q_100, q_255, q_256, q_700, q_999, q_1160, q_1400, q_99999, q_m1, nI_add, pk_mul, q_in, q_clamp, if_true, hT, q_ltI, q_leI]
  rw [if_neg (by omega), if_neg (by omega), Nat.mul_comm]
  rfl
theorem c_nextPlace {Λ : mu_Ld} (σ : en_S) (lo : lOK Λ) (hL : CLd Λ σ.1) {x s : Nat} (hx : x < lB Λ) (hs : s < lR Λ x) : x_ld_nextPlace_p34_0 σ (nI x) (nI s) = rI (sNx Λ x (nI s)) σ := by
  have hb6 := lo.1
  have h6 := (lo.2.2.1 x hx).2
  have hR := hL.2.2.2.2.1 x hx
  rw [e_ld_nextPlace_p34_0]
  unfold sNx
  simp (disch := omega) only [q_0, q_1, q_2, q_3, q_4, q_5, q_6, q_7, q_8, q_9, q_10, q_11, q_12, q_13, q_14, q_15, q_16, q_17, q_18, q_19, q_20, q_21, q_22, q_23, q_24, q_29, q_30, q_31, q_36, q_42, q_50, q_40, q_48, q_96, q_97, q_99, q_100, q_255, q_256, q_700, q_999, q_1160, q_1400, q_99999, q_m1, nI_add, q_in, q_clamp, if_true, hR, q_leI, q_ltI]
  by_cases h : s + 1 < lR Λ x
  · rw [if_pos h, if_neg (by omega)]; rfl
  · rw [if_neg h, if_pos (by omega)]; rfl
theorem sTl_sSt {Λ : mu_Ld} (lo : lOK Λ) (m : Nat) : ∀ n, n ≤ lP Λ → (∃ a b, sTl Λ m n = nI a ∧ sSt Λ m (nI 9) n = nI b ∧ a ≤ 9 ∧ b ≤ 9 ∧ (b ≤ a ∨ (a = 0 ∧ b = 9 ∧ ∀ p, p < n → m.testBit p = false))) := by
  intro n
  induction n with
  | zero => intro _; exact ⟨0, 9, rfl, rfl, by omega, by omega, Or.inr ⟨rfl, rfl, fun p hp => absurd hp (by omega)⟩⟩
  | succ n ih =>
    intro hn
    obtain ⟨a, b, ea, eb, ha, hb, hab⟩ := ih (by omega)
    obtain ⟨h, h1, h9, e⟩ := lo.2.2.2.1 n (by omega)
    simp only [sTl, sSt, mu_upS] at ea eb ⊢
    rw [ea, eb, e]
    cases ht : m.testBit n
    · rw [if_neg (by decide), if_neg (by decide)]
      refine ⟨a, b, rfl, rfl, ha, hb, ?_⟩
      rcases hab with i | ⟨i, j, k⟩
      · exact Or.inl i
      · refine Or.inr ⟨i, j, fun p hp => ?_⟩
        by_cases hq : p = n
        · rw [hq, ht]
        · exact k p (by omega)
    · rw [if_pos rfl, if_pos rfl]
      simp (disch := omega) only [q_ltI]
      refine ⟨if a < h then h else a, if h < b then h else b, ?_, ?_, ?_, ?_, Or.inl ?_⟩
      · split <;> rfl
      · split <;> rfl
      · split <;> omega
      · split <;> omega
      · rcases hab with i | ⟨i, j, k⟩ <;> split <;> split <;> omega
theorem sLn_max {Λ : mu_Ld} (lo : lOK Λ) {m : Nat} (hm : m < 2 ^ lP Λ) : (if nI 0 < sTl Λ m (lP Λ) - sSt Λ m (nI 9) (lP Λ) then sTl Λ m (lP Λ) - sSt Λ m (nI 9) (lP Λ) else nI 0) = sLn Λ m := by
  obtain ⟨a, b, ea, eb, ha, hb, hab⟩ := sTl_sSt lo m (lP Λ) (Nat.le_refl _)
  unfold sLn
  rw [ea, eb]
  rcases hab with i | ⟨i, j, k⟩
  · rw [pk_sub i]
    simp (disch := omega) only [q_ltI]
    by_cases h0 : m = 0
    · subst h0
      have h1 : sTl Λ 0 (lP Λ) = nI 0 := by
        have := mu_up_inv (g := fun p a => if (0 : Nat).testBit p then (if a < lH Λ p then lH Λ p else a) else a) (fun _ a => a = nI 0) (nI 0) rfl (lP Λ) (by
          intro p a hp ha
          rw [Nat.zero_testBit, if_neg (by decide)]; exact ha)
        exact this
      rw [h1] at ea
      have e0 : (nI 0 = nI a) = (0 = a) := q_eqI (by omega) (by omega)
      rw [e0] at ea
      rw [if_neg (by omega), if_pos rfl]
    · rw [if_neg h0]
      by_cases h : 0 < a - b
      · rw [if_pos h]
      · rw [if_neg h, show a - b = 0 by omega]
  · have h0 : m = 0 := by
      apply Nat.eq_of_testBit_eq
      intro q
      rw [Nat.zero_testBit]
      by_cases hq : q < lP Λ
      · exact k q hq
      · exact Nat.testBit_lt_two_pow (Nat.lt_of_lt_of_le hm (Nat.pow_le_pow_right (by omega) (by omega)))
    rw [if_pos h0, i, j]
    decide
theorem c_leanOf {Λ : mu_Ld} (σ : en_S) (lo : lOK Λ) (hL : CLd Λ σ.1) {m : Nat} (hm : m < 2 ^ lP Λ) : x_ld_leanOf_p34_0 σ (nI m) = rI (sLn Λ m) σ := by
  have hP := hL.2.1
  have hp8 := lo.2.1
  have hm2 : m < 2147483648 := mu_lt31 hm (by omega)
  rw [e_ld_leanOf_p34_0]
  have h := mu_loop (fun (a : Int32 × Int32) i => x_ld_leanOf_p34_8 σ (nI m) a.1 a.2 i) (fun p => (sTl Λ m p, sSt Λ m (nI 9) p)) (lP Λ) (by
    intro p hp
    have hH := hL.2.2.2.1 p hp
    show x_ld_leanOf_p34_8 σ (nI m) (sTl Λ m p) (sSt Λ m (nI 9) p) (nI p) = x_ld_leanOf_p34_8 σ (nI m) (sTl Λ m (p + 1)) (sSt Λ m (nI 9) (p + 1)) (nI (p + 1))
    rw [e_ld_leanOf_p34_8, hP, c_hasBit σ hm2 (by omega)]
    simp (disch := omega) only [q_0, q_1, q_2, q_3, q_4, q_5, q_6, q_7, q_8, q_9, q_10, q_11, q_12, q_13, q_14, q_15, q_16, q_17, q_18, q_19, q_20, q_21, q_22, q_23, q_24, q_29, q_30, q_31, q_36, q_42, q_50, q_40, q_48, q_96, q_97, q_99, q_100, q_255, q_256, q_700, q_999, q_1160, q_1400, q_99999, q_m1, q_leI, nI_add, q_in, q_clamp, if_true, hH, c_I, tb_0]
    rw [if_neg (by omega)]
    simp only [sTl, sSt, mu_upS]
    cases m.testBit p
    · rw [if_pos rfl, if_neg (by decide), if_neg (by decide)]
    · rw [if_neg (by decide), if_pos rfl, if_pos rfl]
      rfl)
  refine Eq.trans h ?_
  show x_ld_leanOf_p34_8 σ (nI m) (sTl Λ m (lP Λ)) (sSt Λ m (nI 9) (lP Λ)) (nI (lP Λ)) = _
  rw [e_ld_leanOf_p34_8, hP, if_pos (Int32.le_refl _), q_0, sLn_max lo hm]
  rfl
theorem c_bitsUnder_67 {Λ : mu_Ld} {r : mu_Rw} (σ : en_S) (lo : lOK Λ) (hL : CLd Λ σ.1) (hR : CRw Λ 67 r σ.1) (v : Int32) : x_st_bitsUnder_p67_0 σ v = rI (nI (sH Λ r v)) σ := by
  have hP := hL.2.1
  have hp8 := lo.2.1
  rw [e_st_bitsUnder_p67_0]
  have h := mu_loop (fun a i => x_st_bitsUnder_p67_4 σ v (nI a) i) (fun p => mu_mk (fun p => decide (rU r p = v)) p) (lP Λ) (by
    intro p hp
    show x_st_bitsUnder_p67_4 σ v (nI _) (nI p) = x_st_bitsUnder_p67_4 σ v (nI _) (nI (p + 1))
    have hU : σ.1 70 p = rU r p := hR.2.2.2.1 p hp
    rw [e_st_bitsUnder_p67_4, hP]
    simp (disch := omega) only [q_0, q_1, q_2, q_3, q_4, q_5, q_6, q_7, q_8, q_9, q_10, q_11, q_12, q_13, q_14, q_15, q_16, q_17, q_18, q_19, q_20, q_21, q_22, q_23, q_24, q_29, q_30, q_31, q_36, q_42, q_50, q_40, q_48, q_96, q_97, q_99, q_100, q_255, q_256, q_700, q_999, q_1160, q_1400, q_99999, q_m1, q_leI, nI_add, q_in, q_clamp, if_true, hU, q_shl, fa_or]
    rw [if_neg (by omega)]
    by_cases e : rU r p = v
    · rw [if_pos e, mu_mk_t (decide_eq_true e)]
    · rw [if_neg e, mu_mk_f (decide_eq_false e)])
  refine Eq.trans h ?_
  show x_st_bitsUnder_p67_4 σ v (nI _) (nI (lP Λ)) = _
  rw [e_st_bitsUnder_p67_4, hP, if_pos (Int32.le_refl _)]
  rfl
theorem c_mightOf_67 {Λ : mu_Ld} {r : mu_Rw} (σ : en_S) (lo : lOK Λ) (hL : CLd Λ σ.1) (hR : CRw Λ 67 r σ.1) {p : Nat} (hp : p < lP Λ) : x_st_mightOf_p67_0 σ (nI p) = rI (sM Λ r p) σ := by
  have hp8 := lo.2.1
  have hT : σ.1 71 p = rT r p := hR.2.2.2.2 p hp
  have hS := hL.2.2.1 p hp
  rw [e_st_mightOf_p67_0]
  simp (disch := omega) only [q_0, q_1, q_2, q_3, q_4, q_5, q_6, q_7, q_8, q_9, q_10, q_11, q_12, q_13, q_14, q_15, q_16, q_17, q_18, q_19, q_20, q_21, q_22, q_23, q_24, q_29, q_30, q_31, q_36, q_42, q_50, q_40, q_48, q_96, q_97, q_99, q_100, q_255, q_256, q_700, q_999, q_1160, q_1400, q_99999, q_m1, nI_add, q_in, q_clamp, if_true, hT, hS]
  rfl
theorem c_mightOfAll_67 {Λ : mu_Ld} {r : mu_Rw} (σ : en_S) (lo : lOK Λ) (hL : CLd Λ σ.1) (hR : CRw Λ 67 r σ.1) {m : Nat} (hm : m < 2147483648) : x_st_mightOfAll_p67_0 σ (nI m) = rI (sMt Λ r m) σ := by
  have hP := hL.2.1
  have hp8 := lo.2.1
  rw [e_st_mightOfAll_p67_0]
  have h := mu_loop (fun a i => x_st_mightOfAll_p67_4 σ (nI m) a i) (fun p => mu_up (fun p a => if m.testBit p then a + sM Λ r p else a) (nI 0) p) (lP Λ) (by
    intro p hp
    show x_st_mightOfAll_p67_4 σ (nI m) _ (nI p) = x_st_mightOfAll_p67_4 σ (nI m) _ (nI (p + 1))
    rw [e_st_mightOfAll_p67_4, hP, c_hasBit σ hm (by omega)]
    simp (disch := omega) only [q_0, q_1, q_2, q_3, q_4, q_5, q_6, q_7, q_8, q_9, q_10, q_11, q_12, q_13, q_14, q_15, q_16, q_17, q_18, q_19, q_20, q_21, q_22, q_23, q_24, q_29, q_30, q_31, q_36, q_42, q_50, q_40, q_48, q_96, q_97, q_99, q_100, q_255, q_256, q_700, q_999, q_1160, q_1400, q_99999, q_m1, q_leI, nI_add, tb_0, c_mightOf_67 σ lo hL hR hp, c_I]
    rw [if_neg (by omega), mu_upS]
    cases m.testBit p
    · rw [if_pos rfl, if_neg (by decide)]
    · rw [if_neg (by decide), if_pos rfl])
  refine Eq.trans h ?_
  show x_st_mightOfAll_p67_4 σ (nI m) _ (nI (lP Λ)) = _
  rw [e_st_mightOfAll_p67_4, hP, if_pos (Int32.le_refl _)]
  rfl
theorem c_isBorneBy_67 {Λ : mu_Ld} {r : mu_Rw} (σ : en_S) (lo : lOK Λ) (hL : CLd Λ σ.1) (hR : CRw Λ 67 r σ.1) {x m : Nat} (hx : x < lB Λ) (hm : m < 2147483648) : x_st_isBorneBy_p67_0 σ (nI x) (nI m) = rI (tb (sBr Λ r x m)) σ := by
  have hb6 := lo.1
  have hW : σ.1 68 x = rW r x := hR.2.1 x hx
  rw [e_st_isBorneBy_p67_0, c_mightOfAll_67 σ lo hL hR hm]
  simp (disch := omega) only [q_0, q_1, q_2, q_3, q_4, q_5, q_6, q_7, q_8, q_9, q_10, q_11, q_12, q_13, q_14, q_15, q_16, q_17, q_18, q_19, q_20, q_21, q_22, q_23, q_24, q_29, q_30, q_31, q_36, q_42, q_50, q_40, q_48, q_96, q_97, q_99, q_100, q_255, q_256, q_700, q_999, q_1160, q_1400, q_99999, q_m1, nI_add, q_in, q_clamp, q_eqI, if_true, hW, c_I]
  unfold sBr
  by_cases h0 : m = 0
  · rw [if_pos h0, decide_eq_false (fun k => k.1 h0)]; rfl
  · rw [if_neg h0]
    by_cases h1 : sMt Λ r m < rW r x
    · rw [if_pos h1, decide_eq_false (fun k => k.2 h1)]; rfl
    · rw [if_neg h1, decide_eq_true ⟨h0, h1⟩]; rfl
theorem c_isBorne_67 {Λ : mu_Ld} {r : mu_Rw} (σ : en_S) (lo : lOK Λ) (hL : CLd Λ σ.1) (hR : CRw Λ 67 r σ.1) {x : Nat} (hx : x < lB Λ) : x_st_isBorne_p67_0 σ (nI x) = rI (tb (sB Λ r x)) σ := by
  rw [e_st_isBorne_p67_0, c_bitsUnder_67 σ lo hL hR, c_I, c_isBorneBy_67 σ lo hL hR hx (Nat.lt_trans (sH8 r lo _) (by omega)), c_I, q_0, q_1]
  rw [if_pos (by rw [tb_01]; trivial)]
  rfl
theorem c_townOf_67 {Λ : mu_Ld} {r : mu_Rw} (σ : en_S) (lo : lOK Λ) (hL : CLd Λ σ.1) (hR : CRw Λ 67 r σ.1) (ro : rOK Λ r) {x : Nat} (hx : x < lB Λ) : x_st_townOf_p67_0 σ (nI x) = rI (sTo Λ r x) σ := by
  have hb6 := lo.1
  have hS : σ.1 69 x = rS r x := hR.2.2.1 x hx
  obtain ⟨s, hs, e⟩ := ro.2.1 x hx
  have h6 := (lo.2.2.1 x hx).2
  unfold sTo
  rw [e] at hS ⊢
  rw [e_st_townOf_p67_0]
  simp (disch := omega) only [q_0, q_1, q_2, q_3, q_4, q_5, q_6, q_7, q_8, q_9, q_10, q_11, q_12, q_13, q_14, q_15, q_16, q_17, q_18, q_19, q_20, q_21, q_22, q_23, q_24, q_29, q_30, q_31, q_36, q_42, q_50, q_40, q_48, q_96, q_97, q_99, q_100, q_255, q_256, q_700, q_999, q_1160, q_1400, q_99999, q_m1, q_in, q_clamp, if_true, hS, c_townAt σ lo hL hx hs, c_I]
  rfl
theorem c_weightOfAll_67 {Λ : mu_Ld} {r : mu_Rw} (σ : en_S) (lo : lOK Λ) (hL : CLd Λ σ.1) (hR : CRw Λ 67 r σ.1) : x_st_weightOfAll_p67_0 σ = rI (mu_up (fun x a => a + rW r x) (nI 0) (lB Λ)) σ := by
  have hB := hL.1
  have hb6 := lo.1
  rw [e_st_weightOfAll_p67_0]
  have h := mu_loop (fun a i => x_st_weightOfAll_p67_4 σ a i) (fun p => mu_up (fun x a => a + rW r x) (nI 0) p) (lB Λ) (by
    intro x hx
    show x_st_weightOfAll_p67_4 σ _ (nI x) = x_st_weightOfAll_p67_4 σ _ (nI (x + 1))
    have hW : σ.1 68 x = rW r x := hR.2.1 x hx
    rw [e_st_weightOfAll_p67_4, hB]
    simp (disch := omega) only [q_0, q_1, q_2, q_3, q_4, q_5, q_6, q_7, q_8, q_9, q_10, q_11, q_12, q_13, q_14, q_15, q_16, q_17, q_18, q_19, q_20, q_21, q_22, q_23, q_24, q_29, q_30, q_31, q_36, q_42, q_50, q_40, q_48, q_96, q_97, q_99, q_100, q_255, q_256, q_700, q_999, q_1160, q_1400, q_99999, q_m1, q_leI, nI_add, q_in, q_clamp, if_true, hW]
    rw [if_neg (by omega), mu_upS])
  refine Eq.trans h ?_
  show x_st_weightOfAll_p67_4 σ _ (nI (lB Λ)) = _
  rw [e_st_weightOfAll_p67_4, hB, if_pos (Int32.le_refl _)]
  rfl
theorem c_borneBits_67 {Λ : mu_Ld} {r : mu_Rw} (σ : en_S) (lo : lOK Λ) (hL : CLd Λ σ.1) (hR : CRw Λ 67 r σ.1) : x_st_borneBits_p67_0 σ = rI (nI (mu_mk (fun x => sB Λ r x) (lB Λ))) σ := by
  have hB := hL.1
  have hb6 := lo.1
  rw [e_st_borneBits_p67_0]
  have h := mu_loop (fun a i => x_st_borneBits_p67_4 σ (nI a) i) (fun p => mu_mk (fun x => sB Λ r x) p) (lB Λ) (by
    intro x hx
    show x_st_borneBits_p67_4 σ (nI _) (nI x) = x_st_borneBits_p67_4 σ (nI _) (nI (x + 1))
    rw [e_st_borneBits_p67_4, hB]
    simp (disch := omega) only [q_0, q_1, q_2, q_3, q_4, q_5, q_6, q_7, q_8, q_9, q_10, q_11, q_12, q_13, q_14, q_15, q_16, q_17, q_18, q_19, q_20, q_21, q_22, q_23, q_24, q_29, q_30, q_31, q_36, q_42, q_50, q_40, q_48, q_96, q_97, q_99, q_100, q_255, q_256, q_700, q_999, q_1160, q_1400, q_99999, q_m1, q_leI, nI_add, c_isBorne_67 σ lo hL hR hx, c_I, q_shl, fa_or, tb_0]
    rw [if_neg (by omega)]
    by_cases e : sB Λ r x = true
    · rw [if_neg (by rw [e]; decide), mu_mk_t e]
    · have e2 : sB Λ r x = false := by simpa using e
      rw [if_pos e2, mu_mk_f e2])
  refine Eq.trans h ?_
  show x_st_borneBits_p67_4 σ (nI _) (nI (lB Λ)) = _
  rw [e_st_borneBits_p67_4, hB, if_pos (Int32.le_refl _)]
  rfl
theorem c_bitsUnder_73 {Λ : mu_Ld} {r : mu_Rw} (σ : en_S) (lo : lOK Λ) (hL : CLd Λ σ.1) (hR : CRw Λ 73 r σ.1) (v : Int32) : x_st_bitsUnder_p73_0 σ v = rI (nI (sH Λ r v)) σ := by
  have hP := hL.2.1
  have hp8 := lo.2.1
  rw [e_st_bitsUnder_p73_0]
  have h := mu_loop (fun a i => x_st_bitsUnder_p73_4 σ v (nI a) i) (fun p => mu_mk (fun p => decide (rU r p = v)) p) (lP Λ) (by
    intro p hp
    show x_st_bitsUnder_p73_4 σ v (nI _) (nI p) = x_st_bitsUnder_p73_4 σ v (nI _) (nI (p + 1))
    have hU : σ.1 76 p = rU r p := hR.2.2.2.1 p hp
    rw [e_st_bitsUnder_p73_4, hP]
    simp (disch := omega) only [q_0, q_1, q_2, q_3, q_4, q_5, q_6, q_7, q_8, q_9, q_10, q_11, q_12, q_13, q_14, q_15, q_16, q_17, q_18, q_19, q_20, q_21, q_22, q_23, q_24, q_29, q_30, q_31, q_36, q_42, q_50, q_40, q_48, q_96, q_97, q_99, q_100, q_255, q_256, q_700, q_999, q_1160, q_1400, q_99999, q_m1, q_leI, nI_add, q_in, q_clamp, if_true, hU, q_shl, fa_or]
    rw [if_neg (by omega)]
    by_cases e : rU r p = v
    · rw [if_pos e, mu_mk_t (decide_eq_true e)]
    · rw [if_neg e, mu_mk_f (decide_eq_false e)])
  refine Eq.trans h ?_
  show x_st_bitsUnder_p73_4 σ v (nI _) (nI (lP Λ)) = _
  rw [e_st_bitsUnder_p73_4, hP, if_pos (Int32.le_refl _)]
  rfl
theorem c_mightOf_73 {Λ : mu_Ld} {r : mu_Rw} (σ : en_S) (lo : lOK Λ) (hL : CLd Λ σ.1) (hR : CRw Λ 73 r σ.1) {p : Nat} (hp : p < lP Λ) : x_st_mightOf_p73_0 σ (nI p) = rI (sM Λ r p) σ := by
  have hp8 := lo.2.1
  have hT : σ.1 77 p = rT r p := hR.2.2.2.2 p hp
  have hS := hL.2.2.1 p hp
  rw [e_st_mightOf_p73_0]
  simp (disch := omega) only [q_0, q_1, q_2, q_3, q_4, q_5, q_6, q_7, q_8, q_9, q_10, q_11, q_12, q_13, q_14, q_15, q_16, q_17, q_18, q_19, q_20, q_21, q_22, q_23, q_24, q_29, q_30, q_31, q_36, q_42, q_50, q_40, q_48, q_96, q_97, q_99, q_100, q_255, q_256, q_700, q_999, q_1160, q_1400, q_99999, q_m1, nI_add, q_in, q_clamp, if_true, hT, hS]
  rfl
theorem c_mightOfAll_73 {Λ : mu_Ld} {r : mu_Rw} (σ : en_S) (lo : lOK Λ) (hL : CLd Λ σ.1) (hR : CRw Λ 73 r σ.1) {m : Nat} (hm : m < 2147483648) : x_st_mightOfAll_p73_0 σ (nI m) = rI (sMt Λ r m) σ := by
  have hP := hL.2.1
  have hp8 := lo.2.1
  rw [e_st_mightOfAll_p73_0]
  have h := mu_loop (fun a i => x_st_mightOfAll_p73_4 σ (nI m) a i) (fun p => mu_up (fun p a => if m.testBit p then a + sM Λ r p else a) (nI 0) p) (lP Λ) (by
    intro p hp
    show x_st_mightOfAll_p73_4 σ (nI m) _ (nI p) = x_st_mightOfAll_p73_4 σ (nI m) _ (nI (p + 1))
    rw [e_st_mightOfAll_p73_4, hP, c_hasBit σ hm (by omega)]
    simp (disch := omega) only [q_0, q_1, q_2, q_3, q_4, q_5, q_6, q_7, q_8, q_9, q_10, q_11, q_12, q_13, q_14, q_15, q_16, q_17, q_18, q_19, q_20, q_21, q_22, q_23, q_24, q_29, q_30, q_31, q_36, q_42, q_50, q_40, q_48, q_96, q_97, q_99, q_100, q_255, q_256, q_700, q_999, q_1160, q_1400, q_99999, q_m1, q_leI, nI_add, tb_0, c_mightOf_73 σ lo hL hR hp, c_I]
    rw [if_neg (by omega), mu_upS]
    cases m.testBit p
    · rw [if_pos rfl, if_neg (by decide)]
    · rw [if_neg (by decide), if_pos rfl])
  refine Eq.trans h ?_
  show x_st_mightOfAll_p73_4 σ (nI m) _ (nI (lP Λ)) = _
  rw [e_st_mightOfAll_p73_4, hP, if_pos (Int32.le_refl _)]
  rfl
theorem c_isBorneBy_73 {Λ : mu_Ld} {r : mu_Rw} (σ : en_S) (lo : lOK Λ) (hL : CLd Λ σ.1) (hR : CRw Λ 73 r σ.1) {x m : Nat} (hx : x < lB Λ) (hm : m < 2147483648) : x_st_isBorneBy_p73_0 σ (nI x) (nI m) = rI (tb (sBr Λ r x m)) σ := by
  have hb6 := lo.1
  have hW : σ.1 74 x = rW r x := hR.2.1 x hx
  rw [e_st_isBorneBy_p73_0, c_mightOfAll_73 σ lo hL hR hm]
  simp (disch := omega) only [q_0, q_1, q_2, q_3, q_4, q_5, q_6, q_7, q_8, q_9, q_10, q_11, q_12, q_13, q_14, q_15, q_16, q_17, q_18, q_19, q_20, q_21, q_22, q_23, q_24, q_29, q_30, q_31, q_36, q_42, q_50, q_40, q_48, q_96, q_97, q_99, q_100, q_255, q_256, q_700, q_999, q_1160, q_1400, q_99999, q_m1, nI_add, q_in, q_clamp, q_eqI, if_true, hW, c_I]
  unfold sBr
  by_cases h0 : m = 0
  · rw [if_pos h0, decide_eq_false (fun k => k.1 h0)]; rfl
  · rw [if_neg h0]
    by_cases h1 : sMt Λ r m < rW r x
    · rw [if_pos h1, decide_eq_false (fun k => k.2 h1)]; rfl
    · rw [if_neg h1, decide_eq_true ⟨h0, h1⟩]; rfl
theorem c_isBorne_73 {Λ : mu_Ld} {r : mu_Rw} (σ : en_S) (lo : lOK Λ) (hL : CLd Λ σ.1) (hR : CRw Λ 73 r σ.1) {x : Nat} (hx : x < lB Λ) : x_st_isBorne_p73_0 σ (nI x) = rI (tb (sB Λ r x)) σ := by
  rw [e_st_isBorne_p73_0, c_bitsUnder_73 σ lo hL hR, c_I, c_isBorneBy_73 σ lo hL hR hx (Nat.lt_trans (sH8 r lo _) (by omega)), c_I, q_0, q_1]
  rw [if_pos (by rw [tb_01]; trivial)]
  rfl
theorem c_townOf_73 {Λ : mu_Ld} {r : mu_Rw} (σ : en_S) (lo : lOK Λ) (hL : CLd Λ σ.1) (hR : CRw Λ 73 r σ.1) (ro : rOK Λ r) {x : Nat} (hx : x < lB Λ) : x_st_townOf_p73_0 σ (nI x) = rI (sTo Λ r x) σ := by
  have hb6 := lo.1
  have hS : σ.1 75 x = rS r x := hR.2.2.1 x hx
  obtain ⟨s, hs, e⟩ := ro.2.1 x hx
  have h6 := (lo.2.2.1 x hx).2
  unfold sTo
  rw [e] at hS ⊢
  rw [e_st_townOf_p73_0]
  simp (disch := omega) only [q_0, q_1, q_2, q_3, q_4, q_5, q_6, q_7, q_8, q_9, q_10, q_11, q_12, q_13, q_14, q_15, q_16, q_17, q_18, q_19, q_20, q_21, q_22, q_23, q_24, q_29, q_30, q_31, q_36, q_42, q_50, q_40, q_48, q_96, q_97, q_99, q_100, q_255, q_256, q_700, q_999, q_1160, q_1400, q_99999, q_m1, q_in, q_clamp, if_true, hS, c_townAt σ lo hL hx hs, c_I]
  rfl
theorem c_weightOfAll_73 {Λ : mu_Ld} {r : mu_Rw} (σ : en_S) (lo : lOK Λ) (hL : CLd Λ σ.1) (hR : CRw Λ 73 r σ.1) : x_st_weightOfAll_p73_0 σ = rI (mu_up (fun x a => a + rW r x) (nI 0) (lB Λ)) σ := by
  have hB := hL.1
  have hb6 := lo.1
  rw [e_st_weightOfAll_p73_0]
  have h := mu_loop (fun a i => x_st_weightOfAll_p73_4 σ a i) (fun p => mu_up (fun x a => a + rW r x) (nI 0) p) (lB Λ) (by
    intro x hx
    show x_st_weightOfAll_p73_4 σ _ (nI x) = x_st_weightOfAll_p73_4 σ _ (nI (x + 1))
    have hW : σ.1 74 x = rW r x := hR.2.1 x hx
    rw [e_st_weightOfAll_p73_4, hB]
    simp (disch := omega) only [q_0, q_1, q_2, q_3, q_4, q_5, q_6, q_7, q_8, q_9, q_10, q_11, q_12, q_13, q_14, q_15, q_16, q_17, q_18, q_19, q_20, q_21, q_22, q_23, q_24, q_29, q_30, q_31, q_36, q_42, q_50, q_40, q_48, q_96, q_97, q_99, q_100, q_255, q_256, q_700, q_999, q_1160, q_1400, q_99999, q_m1, q_leI, nI_add, q_in, q_clamp, if_true, hW]
    rw [if_neg (by omega), mu_upS])
  refine Eq.trans h ?_
  show x_st_weightOfAll_p73_4 σ _ (nI (lB Λ)) = _
  rw [e_st_weightOfAll_p73_4, hB, if_pos (Int32.le_refl _)]
  rfl
theorem c_borneBits_73 {Λ : mu_Ld} {r : mu_Rw} (σ : en_S) (lo : lOK Λ) (hL : CLd Λ σ.1) (hR : CRw Λ 73 r σ.1) : x_st_borneBits_p73_0 σ = rI (nI (mu_mk (fun x => sB Λ r x) (lB Λ))) σ := by
  have hB := hL.1
  have hb6 := lo.1
  rw [e_st_borneBits_p73_0]
  have h := mu_loop (fun a i => x_st_borneBits_p73_4 σ (nI a) i) (fun p => mu_mk (fun x => sB Λ r x) p) (lB Λ) (by
    intro x hx
    show x_st_borneBits_p73_4 σ (nI _) (nI x) = x_st_borneBits_p73_4 σ (nI _) (nI (x + 1))
    rw [e_st_borneBits_p73_4, hB]
    simp (disch := omega) only [q_0, q_1, q_2, q_3, q_4, q_5, q_6, q_7, q_8, q_9, q_10, q_11, q_12, q_13, q_14, q_15, q_16, q_17, q_18, q_19, q_20, q_21, q_22, q_23, q_24, q_29, q_30, q_31, q_36, q_42, q_50, q_40, q_48, q_96, q_97, q_99, q_100, q_255, q_256, q_700, q_999, q_1160, q_1400, q_99999, q_m1, q_leI, nI_add, c_isBorne_73 σ lo hL hR hx, c_I, q_shl, fa_or, tb_0]
    rw [if_neg (by omega)]
    by_cases e : sB Λ r x = true
    · rw [if_neg (by rw [e]; decide), mu_mk_t e]
    · have e2 : sB Λ r x = false := by simpa using e
      rw [if_pos e2, mu_mk_f e2])
  refine Eq.trans h ?_
  show x_st_borneBits_p73_4 σ (nI _) (nI (lB Λ)) = _
  rw [e_st_borneBits_p73_4, hB, if_pos (Int32.le_refl _)]
  rfl

