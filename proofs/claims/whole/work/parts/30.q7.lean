/-! questions of now, fourth: box, bearer, count -/
theorem badR_ne {a b j : Nat} {v : Int32} (h : badR a b v) (h1 : a ≤ j) (h2 : j ≤ b) (hb : b < 2147483648) : ¬ v = nI j := by
  intro e
  subst e
  rcases h with h | h
  · rw [q_ltI (by omega) (by omega)] at h; omega
  · rw [q_ltI (by omega) (by omega)] at h; omega
def sNd (Λ : mu_Ld) (r : mu_Rw) (x : Nat) : Nat := if sB Λ r x then mu_mk (fun p => (sH Λ r (nI x)).testBit p && !sBr Λ r x (anN (sH Λ r (nI x)) (2 ^ p))) (lP Λ) else 0
theorem c_needed {Λ : mu_Ld} {r : mu_Rw} (f : Nat → Nat → Int32) (g : Nat → Nat → Int64) (lo : lOK Λ) (hL : CLd Λ f) (hR : CRw Λ 67 r f) {x : Nat} (hx : x < lB Λ) : x_st_neededBits_p67_0 (f, g) (nI x) = rI (nI (sNd Λ r x)) (f, g) := by
  have l1 := lo.1
  have l2 := lo.2.1
  have h8 := sH8 r lo (nI x)
  have hP : f 34 9 = nI (lP Λ) := hL.2.1
  rw [e_st_neededBits_p67_0, c_bitsUnder_67 (f, g) lo hL hR, c_I, c_isBorneBy_67 (f, g) lo hL hR hx (by omega), c_I]
  unfold sNd sB
  cases hb : sBr Λ r x (sH Λ r (nI x))
  · rw [if_pos (show tb false = 0 from rfl), if_neg (by decide)]; rfl
  rw [if_neg (by decide), if_pos rfl]
  have h := mu_loop (fun (a : Nat) i => x_st_neededBits_p67_22 (f, g) (nI x) (nI (sH Λ r (nI x))) (nI a) i) (fun p => mu_mk (fun p => (sH Λ r (nI x)).testBit p && !sBr Λ r x (anN (sH Λ r (nI x)) (2 ^ p))) p) (lP Λ) (by
    intro p hp
    have hm : anN (sH Λ r (nI x)) (2 ^ p) < 2 ^ 8 := anN_lt h8
    show x_st_neededBits_p67_22 (f, g) (nI x) (nI (sH Λ r (nI x))) (nI _) (nI p) = x_st_neededBits_p67_22 (f, g) (nI x) (nI (sH Λ r (nI x))) (nI _) (nI (p + 1))
    rw [e_st_neededBits_p67_22, c_hasBit (f, g) (by omega) (by omega), c_I]
    simp (disch := omega) only [q_0, q_1, q_2, q_3, q_4, q_5, q_6, q_7, q_8, q_9, q_10, q_11, q_12, q_13, q_14, q_15, q_16, q_17, q_18, q_19, q_20, q_21, q_22, q_23, q_24, q_29, q_30, q_31, q_36, q_42, q_50, q_40, q_48, q_96, q_97, q_99, q_100, q_255, q_256, q_700, q_999, q_1160, q_1400, q_99999, q_m1, hP, q_leI, nI_add, q_shl, q_an, fa_or, c_isBorneBy_67 (f, g) lo hL hR hx (Nat.lt_trans hm (by omega)), c_I, tb_0]
    rw [if_neg (by omega)]
    cases h1 : (sH Λ r (nI x)).testBit p
    · rw [if_pos rfl, mu_mk_f (P := fun p => (sH Λ r (nI x)).testBit p && !sBr Λ r x (anN (sH Λ r (nI x)) (2 ^ p))) (by rw [h1]; rfl)]
    · rw [if_neg (by decide)]
      cases h2 : sBr Λ r x (anN (sH Λ r (nI x)) (2 ^ p))
      · rw [if_pos rfl, mu_mk_t (P := fun p => (sH Λ r (nI x)).testBit p && !sBr Λ r x (anN (sH Λ r (nI x)) (2 ^ p))) (by rw [h1, h2]; rfl)]
      · rw [if_neg (by decide), mu_mk_f (P := fun p => (sH Λ r (nI x)).testBit p && !sBr Λ r x (anN (sH Λ r (nI x)) (2 ^ p))) (by rw [h1, h2]; rfl)])
  refine Eq.trans h ?_
  show x_st_neededBits_p67_22 (f, g) (nI x) (nI (sH Λ r (nI x))) (nI _) (nI (lP Λ)) = _
  rw [e_st_neededBits_p67_22, if_pos (q_le hP)]
  rfl
theorem m_needed {Λ : mu_Ld} {r : mu_Rw} (f : Nat → Nat → Int32) (g : Nat → Nat → Int64) (lo : lOK Λ) (hL : MLd Λ f) (hR : MRw Λ 0 r f) {x : Nat} (hx : x < lB Λ) : x_m_neededFor_0 (f, g) (nI x) = rI (nI (sNd Λ r x)) (f, g) := by
  have l1 := lo.1
  have l2 := lo.2.1
  have h8 := sH8 r lo (nI x)
  have hP : f 0 4 = nI (lP Λ) := hL.2.1
  rw [e_m_neededFor_0, show x_m_handsAt_0 (f, g) 0 (nI x) = _ from m_handsAt (b := 0) (f, g) lo (by omega) hL hR _, c_I]
  unfold sNd
  cases hb : sB Λ r x
  · rw [if_neg (by decide), e_m_neededFor_12, show x_m_isBorne_0 (f, g) 0 (nI x) = _ from m_isBorne (b := 0) (f, g) lo (by omega) hL hR hx, c_I, hb, if_pos (show tb false = 0 from rfl)]
    by_cases c : (f, g).1 0 4 ≤ 0
    · rw [if_pos c]; rfl
    · rw [if_neg c]; rfl
  rw [if_pos rfl]
  have h := mu_loop (fun (a : Nat) i => x_m_neededFor_12 (f, g) (nI x) (nI (sH Λ r (nI x))) (nI a) i) (fun p => mu_mk (fun p => (sH Λ r (nI x)).testBit p && !sBr Λ r x (anN (sH Λ r (nI x)) (2 ^ p))) p) (lP Λ) (by
    intro p hp
    have hm : anN (sH Λ r (nI x)) (2 ^ p) < 2 ^ 8 := anN_lt h8
    show x_m_neededFor_12 (f, g) (nI x) (nI (sH Λ r (nI x))) (nI _) (nI p) = x_m_neededFor_12 (f, g) (nI x) (nI (sH Λ r (nI x))) (nI _) (nI (p + 1))
    rw [e_m_neededFor_12, show x_m_isBorne_0 (f, g) 0 (nI x) = _ from m_isBorne (b := 0) (f, g) lo (by omega) hL hR hx, c_I, hb]
    simp (disch := omega) only [q_0, q_1, q_2, q_3, q_4, q_5, q_6, q_7, q_8, q_9, q_10, q_11, q_12, q_13, q_14, q_15, q_16, q_17, q_18, q_19, q_20, q_21, q_22, q_23, q_24, q_29, q_30, q_31, q_36, q_42, q_50, q_40, q_48, q_96, q_97, q_99, q_100, q_255, q_256, q_700, q_999, q_1160, q_1400, q_99999, q_m1, hP, q_leI, nI_add, q_shl, q_an, fa_or, Nat.or_zero, q_bit1, m_canBear (b := 0) (f, g) lo (by omega) hL hR hx (Nat.lt_trans hm (by omega)), c_I, tb_0]
    rw [if_neg (by omega), if_neg (by decide)]
    cases h1 : (sH Λ r (nI x)).testBit p
    · rw [if_neg (by decide), mu_mk_f (P := fun p => (sH Λ r (nI x)).testBit p && !sBr Λ r x (anN (sH Λ r (nI x)) (2 ^ p))) (by rw [h1]; rfl)]
    · rw [if_pos rfl]
      cases h2 : sBr Λ r x (anN (sH Λ r (nI x)) (2 ^ p))
      · rw [if_pos rfl, mu_mk_t (P := fun p => (sH Λ r (nI x)).testBit p && !sBr Λ r x (anN (sH Λ r (nI x)) (2 ^ p))) (by rw [h1, h2]; rfl)]
      · rw [if_neg (by decide), mu_mk_f (P := fun p => (sH Λ r (nI x)).testBit p && !sBr Λ r x (anN (sH Λ r (nI x)) (2 ^ p))) (by rw [h1, h2]; rfl)])
  refine Eq.trans h ?_
  show x_m_neededFor_12 (f, g) (nI x) (nI (sH Λ r (nI x))) (nI _) (nI (lP Λ)) = _
  rw [e_m_neededFor_12, if_pos (q_le hP)]
  rfl
theorem q_box {A : mu_A} {f : Nat → Nat → Int32} (ok : AOK A) (hM : MRel A f) (hC : CRel A f) (v1 v2 : Int32) : Qn f (fun σ => x_b_box_0 σ v1 v2) (fun σ => x_m_box_0 σ v1 v2) id := by
  have lo := ok.1
  have ro := ok.2.2.2.1
  have l1 := lo.1
  have l2 := lo.2.1
  have cB := hC.1.1
  have L := hC.1
  have R := hC.2.2.1
  rcases ok_bad v1 (n := lB (aL A)) (by omega) with b1 | ⟨x, hx, rfl⟩
  · refine Qn_err ok hM 1 (by omega) ?_ ?_
    · intro g
      show x_b_box_0 (f, g) v1 v2 = _
      rw [e_b_box_0, c_checkBoxN f g cB b1, c_Vx]
    · intro f0 f2 g M0 h0 e0
      show x_m_box_0 (f2, g) v1 v2 = _
      rw [e_m_box_0]
      dsimp only
      rw [← e0, m_isBoxN f0 g h0 M0.1.1 b1, c_I, if_pos (by decide)]
      rfl
  rcases ok_badR v2 (a := 0) (b := 6) (by omega) (by omega) with b2 | ⟨w, _, hw, rfl⟩
  · refine Qn_err ok hM 1 (by omega) ?_ ?_
    · intro g
      show x_b_box_0 (f, g) (nI x) v2 = _
      rw [e_b_box_0, c_checkBoxY f g cB (by omega) hx, c_V]
      have k : ∀ j, j ≤ 6 → ¬ v2 = nI j := fun j hj => badR_ne b2 (by omega) hj (by omega)
      rw [if_neg (show ¬ v2 = 0 from k 0 (by omega)), if_neg (show ¬ v2 = 1 from k 1 (by omega)), if_neg (show ¬ v2 = 2 from k 2 (by omega)), if_neg (show ¬ v2 = 3 from k 3 (by omega)), if_neg (show ¬ v2 = 4 from k 4 (by omega)), if_neg (show ¬ v2 = 5 from k 5 (by omega)), if_neg (show ¬ v2 = 6 from k 6 (by omega))]
    · intro f0 f2 g M0 h0 e0
      show x_m_box_0 (f2, g) (nI x) v2 = _
      rw [e_m_box_0]
      dsimp only
      rw [← e0, m_isBoxY f0 g h0 M0.1.1 (by omega) hx, c_I, if_neg (by decide), show x_m_isWhat_0 (f0, g) v2 6 = _ from m_isWhatN f0 g (b := 6) h0 b2, c_I, if_pos (by decide)]
      rfl
  have h8 := sH8 (aR A) lo (nI x)
  have hlt := sH_lt (Λ := aL A) (aR A) (nI x)
  refine Qn_val ok hM rfl (match w with
    | 0 => rW (aR A) x
    | 1 => sTo (aL A) (aR A) x
    | 2 => nI (sH (aL A) (aR A) (nI x))
    | 3 => sLn (aL A) (sH (aL A) (aR A) (nI x))
    | 4 => sMt (aL A) (aR A) (sH (aL A) (aR A) (nI x)) - rW (aR A) x
    | 5 => nI (lR (aL A) x)
    | _ => nI (sNd (aL A) (aR A) x)) ?_ ?_
  · intro g
    show ∃ f', x_b_box_0 (f, g) (nI x) (nI w) = rI _ (f', g) ∧ _
    refine ⟨f, ?_, QC_refl f⟩
    have hW : f 68 x = rW (aR A) x := R.2.1 x hx
    have hRl : f 39 x = nI (lR (aL A) x) := L.2.2.2.2.1 x hx
    rw [e_b_box_0, c_checkBoxY f g cB (by omega) hx, c_V]
    match w, hw with
    | 0, _ => simp (disch := omega) only [q_0, q_1, q_2, q_3, q_4, q_5, q_6, q_7, q_8, q_9, q_10, q_11, q_12, q_13, q_14, q_15, q_16, q_17, q_18, q_19, q_20, q_21, q_22, q_23, q_24, q_29, q_30, q_31, q_36, q_42, q_50, q_40, q_48, q_96, q_97, q_99, q_100, q_255, q_256, q_700, q_999, q_1160, q_1400, q_99999, q_m1, q_in, q_clamp, if_true, hW]; rfl
    | 1, _ => rw [if_neg (by decide), if_pos (by decide), c_townOf_67 (f, g) lo L R ro hx, c_I]; rfl
    | 2, _ => rw [if_neg (by decide), if_neg (by decide), if_pos (by decide), c_bitsUnder_67 (f, g) lo L R, c_I]; rfl
    | 3, _ => rw [if_neg (by decide), if_neg (by decide), if_neg (by decide), if_pos (by decide), c_bitsUnder_67 (f, g) lo L R, c_I, c_leanOf (f, g) lo L hlt, c_I]; rfl
    | 4, _ =>
      rw [if_neg (by decide), if_neg (by decide), if_neg (by decide), if_neg (by decide), if_pos (by decide), c_bitsUnder_67 (f, g) lo L R, c_I, c_mightOfAll_67 (f, g) lo L R (by omega), c_I]
      simp (disch := omega) only [q_in, q_clamp, if_true, hW]; rfl
    | 5, _ =>
      rw [if_neg (by decide), if_neg (by decide), if_neg (by decide), if_neg (by decide), if_neg (by decide), if_pos (by decide)]
      simp (disch := omega) only [q_in, q_clamp, if_true, hRl]; rfl
    | 6, _ => rw [if_neg (by decide), if_neg (by decide), if_neg (by decide), if_neg (by decide), if_neg (by decide), if_neg (by decide), if_pos (by decide), c_needed f g lo L R hx, c_I]; rfl
  · intro f0 f2 g M0 h0 e0
    have ML := M0.1
    have MR := M0.2.2.1
    show ∃ f3, x_m_box_0 (f2, g) (nI x) (nI w) = rI _ (f3, g) ∧ _
    rw [e_m_box_0]
    dsimp only
    rw [← e0, m_isBoxY f0 g h0 M0.1.1 (by omega) hx, c_I, if_neg (by decide), show x_m_isWhat_0 (f0, g) (nI w) 6 = _ from m_isWhatY f0 g (b := 6) h0 hw (by omega), c_I, if_neg (by decide), show x_m_handsAt_0 (f0, g) 0 (nI x) = _ from m_handsAt (b := 0) (f0, g) lo (by omega) ML MR _, c_I]
    refine ⟨f0, ?_, h0, QM_refl f0⟩
    have hW : f0 18 (0 + 1 + x) = rW (aR A) x := MR.2.1 x hx
    rw [Nat.zero_add] at hW
    have hRl : f0 3 x = nI (lR (aL A) x) := ML.2.2.2.2.1 x hx
    match w, hw with
    | 0, _ => simp (disch := omega) only [q_0, q_1, q_2, q_3, q_4, q_5, q_6, q_7, q_8, q_9, q_10, q_11, q_12, q_13, q_14, q_15, q_16, q_17, q_18, q_19, q_20, q_21, q_22, q_23, q_24, q_29, q_30, q_31, q_36, q_42, q_50, q_40, q_48, q_96, q_97, q_99, q_100, q_255, q_256, q_700, q_999, q_1160, q_1400, q_99999, q_m1, nI_add, q_in, q_clamp, if_true, hW]; rfl
    | 1, _ => rw [if_neg (by decide), if_pos (by decide), show x_m_townOf_0 (f0, g) 0 (nI x) = _ from m_townOf (b := 0) (f0, g) lo (by omega) ML MR ro hx, c_I]; rfl
    | 2, _ => rw [if_neg (by decide), if_neg (by decide), if_pos (by decide)]; rfl
    | 3, _ => rw [if_neg (by decide), if_neg (by decide), if_neg (by decide), if_pos (by decide), m_leanBy (f0, g) lo ML hlt, c_I]; rfl
    | 4, _ =>
      rw [if_neg (by decide), if_neg (by decide), if_neg (by decide), if_neg (by decide), if_pos (by decide), show x_m_mightBy_0 (f0, g) 0 (nI (sH (aL A) (aR A) (nI x))) = _ from m_mightBy (b := 0) (f0, g) lo (by omega) ML MR (by omega), c_I]
      simp (disch := omega) only [q_0, q_1, q_2, q_3, q_4, q_5, q_6, q_7, q_8, q_9, q_10, q_11, q_12, q_13, q_14, q_15, q_16, q_17, q_18, q_19, q_20, q_21, q_22, q_23, q_24, q_29, q_30, q_31, q_36, q_42, q_50, q_40, q_48, q_96, q_97, q_99, q_100, q_255, q_256, q_700, q_999, q_1160, q_1400, q_99999, q_m1, nI_add, q_in, q_clamp, if_true, hW]; rfl
    | 5, _ =>
      rw [if_neg (by decide), if_neg (by decide), if_neg (by decide), if_neg (by decide), if_neg (by decide), if_pos (by decide)]
      simp (disch := omega) only [q_in, q_clamp, if_true, hRl]; rfl
    | 6, _ => rw [if_neg (by decide), if_neg (by decide), if_neg (by decide), if_neg (by decide), if_neg (by decide), if_neg (by decide), m_needed f0 g lo ML MR hx, c_I]; rfl
theorem bc_hands {Λ : mu_Ld} {r : mu_Rw} (lo : lOK Λ) {p : Nat} (hp : p < lP Λ) : ¬ mu_bc (sH Λ r (rU r p)) = 0 := by
  rw [mu_bc0 (sH8 r lo _)]
  intro h
  have := sH_tb (Λ := Λ) r (rU r p) hp
  rw [h, Nat.zero_testBit, decide_eq_true rfl] at this
  cases this
def sLd (Λ : mu_Ld) (r : mu_Rw) (p : Nat) : Int32 := if rU r p = nN then nI 0 else rW r (rU r p).toNatClampNeg / nI (mu_bc (sH Λ r (rU r p)))
theorem c_load {Λ : mu_Ld} {r : mu_Rw} (f : Nat → Nat → Int32) (g : Nat → Nat → Int64) (lo : lOK Λ) (hL : CLd Λ f) (hR : CRw Λ 67 r f) (ro : rOK Λ r) {p : Nat} (hp : p < lP Λ) : x_st_loadOf_p67_0 (f, g) (nI p) = rI (sLd Λ r p) (f, g) := by
  have l1 := lo.1
  have l2 := lo.2.1
  have h8 := sH8 r lo (rU r p)
  have hb := mu_bc_le (sH Λ r (rU r p))
  have hz := bc_hands (r := r) lo hp
  have hU : f 70 p = rU r p := hR.2.2.2.1 p hp
  rw [e_st_loadOf_p67_0]
  unfold sLd
  rcases ro.2.2.1 p hp with c | ⟨y, hy, c⟩
  · have hb0 : x_ld_hasBox_p34_0 (f, g) nN = rI 0 (f, g) := c_hasBoxN f g hL.1 (Or.inl (by decide))
    simp (disch := omega) only [q_0, q_1, q_2, q_3, q_4, q_5, q_6, q_7, q_8, q_9, q_10, q_11, q_12, q_13, q_14, q_15, q_16, q_17, q_18, q_19, q_20, q_21, q_22, q_23, q_24, q_29, q_30, q_31, q_36, q_42, q_50, q_40, q_48, q_96, q_97, q_99, q_100, q_255, q_256, q_700, q_999, q_1160, q_1400, q_99999, q_m1, q_in, q_clamp, if_true, hU, q_m1, c, hb0, c_I]; rfl
  · have hW : f 68 y = rW r y := hR.2.1 y hy
    have hb1 : x_ld_hasBox_p34_0 (f, g) (nI y) = rI 1 (f, g) := c_hasBoxY f g hL.1 (by omega) hy
    have n10 : ¬ (1 : Nat) = 0 := by decide
    rw [c] at hz hb h8
    simp (disch := omega) only [q_0, q_1, q_2, q_3, q_4, q_5, q_6, q_7, q_8, q_9, q_10, q_11, q_12, q_13, q_14, q_15, q_16, q_17, q_18, q_19, q_20, q_21, q_22, q_23, q_24, q_29, q_30, q_31, q_36, q_42, q_50, q_40, q_48, q_96, q_97, q_99, q_100, q_255, q_256, q_700, q_999, q_1160, q_1400, q_99999, q_m1, q_in, q_clamp, if_true, hU, q_m1, c, q_nNe, if_false, hb1, n10, c_bitsUnder_67 (f, g) lo hL hR, c_I, c_bitCount (f, g) h8, q_eqI, hz, hW]
    rfl
theorem m_load {Λ : mu_Ld} {r : mu_Rw} (f : Nat → Nat → Int32) (g : Nat → Nat → Int64) (lo : lOK Λ) (hL : MLd Λ f) (hR : MRw Λ 0 r f) (ro : rOK Λ r) {p : Nat} (hp : p < lP Λ) : (if f 18 (13 + p) = -1 then rI (nI 0) (f, g) else if en_in (1 + f 18 (13 + p)) 58 then en_cI (x_m_handsAt_0 (f, g) 0 (f 18 (13 + p))) (fun r6 σ5 => en_cI (x_m_bits_0 σ5 r6) (fun r8 σ7 => if r8 = 0 then none else some (.inl (some (.int ((f 18 (1 + f 18 (13 + p)).toNatClampNeg) / r8))), σ7)) (fun e σ => some (.inr e, σ))) (fun e σ => some (.inr e, σ)) else none : Option en_O) = rI (sLd Λ r p) (f, g) := by
  have l1 := lo.1
  have l2 := lo.2.1
  have h8 := sH8 r lo (rU r p)
  have hb := mu_bc_le (sH Λ r (rU r p))
  have hz := bc_hands (r := r) lo hp
  have hU : f 18 (0 + 13 + p) = rU r p := hR.2.2.2.1 p hp
  rw [Nat.zero_add] at hU
  unfold sLd
  rcases ro.2.2.1 p hp with c | ⟨y, hy, c⟩
  · simp only [hU, c, q_1, q_m1, if_true]
  · have hW : f 18 (0 + 1 + y) = rW r y := hR.2.1 y hy
    rw [Nat.zero_add] at hW
    rw [c] at hz hb h8 hU
    simp (disch := omega) only [q_0, q_1, q_2, q_3, q_4, q_5, q_6, q_7, q_8, q_9, q_10, q_11, q_12, q_13, q_14, q_15, q_16, q_17, q_18, q_19, q_20, q_21, q_22, q_23, q_24, q_29, q_30, q_31, q_36, q_42, q_50, q_40, q_48, q_96, q_97, q_99, q_100, q_255, q_256, q_700, q_999, q_1160, q_1400, q_99999, q_m1, nI_add, q_in, q_clamp, if_true, hU, q_m1, c, q_nNe, if_false, m_handsAt (b := 0) (f, g) lo (by omega) hL hR, c_I, m_bits (f, g) (show sH Λ r (nI y) < 2147483648 by omega), q_eqI, hz, hW]
    rfl
theorem q_bearer {A : mu_A} {f : Nat → Nat → Int32} (ok : AOK A) (hM : MRel A f) (hC : CRel A f) (v1 v2 : Int32) : Qn f (fun σ => x_b_bearer_0 σ v1 v2) (fun σ => x_m_bearer_0 σ v1 v2) id := by
  have lo := ok.1
  have ro := ok.2.2.2.1
  have l1 := lo.1
  have l2 := lo.2.1
  have cP := hC.1.2.1
  have L := hC.1
  have R := hC.2.2.1
  rcases ok_bad v1 (n := lP (aL A)) (by omega) with b1 | ⟨p, hp, rfl⟩
  · refine Qn_err ok hM 1 (by omega) ?_ ?_
    · intro g
      show x_b_bearer_0 (f, g) v1 v2 = _
      rw [e_b_bearer_0, c_checkBearerN f g cP b1, c_Vx]
    · intro f0 f2 g M0 h0 e0
      show x_m_bearer_0 (f2, g) v1 v2 = _
      rw [e_m_bearer_0]
      dsimp only
      rw [← e0, m_isBearerN f0 g h0 M0.1.2.1 b1, c_I, if_pos (by decide)]
      rfl
  rcases ok_badR v2 (a := 0) (b := 5) (by omega) (by omega) with b2 | ⟨w, _, hw, rfl⟩
  · refine Qn_err ok hM 1 (by omega) ?_ ?_
    · intro g
      show x_b_bearer_0 (f, g) (nI p) v2 = _
      rw [e_b_bearer_0, c_checkBearerY f g cP (by omega) hp, c_V]
      have k : ∀ j, j ≤ 5 → ¬ v2 = nI j := fun j hj => badR_ne b2 (by omega) hj (by omega)
      rw [if_neg (show ¬ v2 = 0 from k 0 (by omega)), if_neg (show ¬ v2 = 1 from k 1 (by omega)), if_neg (show ¬ v2 = 2 from k 2 (by omega)), if_neg (show ¬ v2 = 3 from k 3 (by omega)), if_neg (show ¬ v2 = 4 from k 4 (by omega)), if_neg (show ¬ v2 = 5 from k 5 (by omega))]
    · intro f0 f2 g M0 h0 e0
      show x_m_bearer_0 (f2, g) (nI p) v2 = _
      rw [e_m_bearer_0]
      dsimp only
      rw [← e0, m_isBearerY f0 g h0 M0.1.2.1 (by omega) hp, c_I, if_neg (by decide), show x_m_isWhat_0 (f0, g) v2 5 = _ from m_isWhatN f0 g (b := 5) h0 b2, c_I, if_pos (by decide)]
      rfl
  refine Qn_val ok hM rfl (match w with
    | 0 => lS (aL A) p
    | 1 => lH (aL A) p
    | 2 => rU (aR A) p
    | 3 => rT (aR A) p
    | 4 => sM (aL A) (aR A) p
    | _ => sLd (aL A) (aR A) p) ?_ ?_
  · intro g
    show ∃ f', x_b_bearer_0 (f, g) (nI p) (nI w) = rI _ (f', g) ∧ _
    refine ⟨f, ?_, QC_refl f⟩
    have hS : f 41 p = lS (aL A) p := L.2.2.1 p hp
    have hH : f 42 p = lH (aL A) p := L.2.2.2.1 p hp
    have hU : f 70 p = rU (aR A) p := R.2.2.2.1 p hp
    have hT : f 71 p = rT (aR A) p := R.2.2.2.2 p hp
    rw [e_b_bearer_0, c_checkBearerY f g cP (by omega) hp, c_V]
    match w, hw with
    | 0, _ => rw [if_pos (by decide)]; simp (disch := omega) only [q_in, q_clamp, if_true, hS]; rfl
    | 1, _ => rw [if_neg (by decide), if_pos (by decide)]; simp (disch := omega) only [q_in, q_clamp, if_true, hH]; rfl
    | 2, _ => rw [if_neg (by decide), if_neg (by decide), if_pos (by decide)]; simp (disch := omega) only [q_in, q_clamp, if_true, hU]; rfl
    | 3, _ => rw [if_neg (by decide), if_neg (by decide), if_neg (by decide), if_pos (by decide)]; simp (disch := omega) only [q_in, q_clamp, if_true, hT]; rfl
    | 4, _ => rw [if_neg (by decide), if_neg (by decide), if_neg (by decide), if_neg (by decide), if_pos (by decide), c_mightOf_67 (f, g) lo L R hp, c_I]; rfl
    | 5, _ => rw [if_neg (by decide), if_neg (by decide), if_neg (by decide), if_neg (by decide), if_neg (by decide), if_pos (by decide), c_load f g lo L R ro hp, c_I]; rfl
  · intro f0 f2 g M0 h0 e0
    have ML := M0.1
    have MR := M0.2.2.1
    show ∃ f3, x_m_bearer_0 (f2, g) (nI p) (nI w) = rI _ (f3, g) ∧ _
    rw [e_m_bearer_0]
    dsimp only
    rw [← e0, m_isBearerY f0 g h0 M0.1.2.1 (by omega) hp, c_I, if_neg (by decide), show x_m_isWhat_0 (f0, g) (nI w) 5 = _ from m_isWhatY f0 g (b := 5) h0 hw (by omega), c_I, if_neg (by decide)]
    refine ⟨f0, ?_, h0, QM_refl f0⟩
    have hS : f0 4 p = lS (aL A) p := ML.2.2.1 p hp
    have hH : f0 5 p = lH (aL A) p := ML.2.2.2.1 p hp
    have hU : f0 18 (0 + 13 + p) = rU (aR A) p := MR.2.2.2.1 p hp
    have hT : f0 18 (0 + 21 + p) = rT (aR A) p := MR.2.2.2.2 p hp
    rw [Nat.zero_add] at hU hT
    have e13 : (13 : Int32) + nI p = nI (13 + p) := by rw [show (13 : Int32) = nI 13 by decide, nI_add]
    have e21 : (21 : Int32) + nI p = nI (21 + p) := by rw [show (21 : Int32) = nI 21 by decide, nI_add]
    match w, hw with
    | 0, _ => simp (disch := omega) only [e13, q_in, q_clamp, if_true]; rw [if_pos (by decide), hS]; rfl
    | 1, _ => simp (disch := omega) only [e13, q_in, q_clamp, if_true]; rw [if_neg (by decide), if_pos (by decide), hH]; rfl
    | 2, _ => simp (disch := omega) only [e13, q_in, q_clamp, if_true]; rw [if_neg (by decide), if_neg (by decide), if_pos (by decide), hU]; rfl
    | 3, _ => simp (disch := omega) only [e13, e21, q_in, q_clamp, if_true]; rw [if_neg (by decide), if_neg (by decide), if_neg (by decide), if_pos (by decide), hT]; rfl
    | 4, _ => simp (disch := omega) only [e13, q_in, q_clamp, if_true]; rw [if_neg (by decide), if_neg (by decide), if_neg (by decide), if_neg (by decide), if_pos (by decide), show x_m_mightOf_0 (f0, g) 0 (nI p) = _ from m_mightOf (b := 0) (f0, g) lo (by omega) ML MR hp, c_I]; rfl
    | 5, _ =>
      simp (disch := omega) only [e13, q_in, q_clamp, if_true]
      rw [if_neg (by decide), if_neg (by decide), if_neg (by decide), if_neg (by decide), if_neg (by decide)]
      exact m_load f0 g lo ML MR ro hp
