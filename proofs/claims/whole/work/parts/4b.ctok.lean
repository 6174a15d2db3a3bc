/-! the class goes from token to token -/
theorem c_skip {X : mu_X} (xo : XOK X) (g : Nat → Nat → Int64) : ∀ p, ∀ f, CT0 X f → f 66 3 = nI p → p ≤ X.1 → ∃ f', x_rd_nextToken_8 (f, g) = x_rd_nextToken_60 (f', g) ∧ f' 66 3 = nI (tS X p) ∧ CN f f' := by
  have n7 := xo.1
  refine rn_ind (P := fun i => tBl (X.2 i)) (n := X.1) (fun p => ∀ f, CT0 X f → f 66 3 = nI p → p ≤ X.1 → ∃ f', x_rd_nextToken_8 (f, g) = x_rd_nextToken_60 (f', g) ∧ f' 66 3 = nI (tS X p) ∧ CN f f') ?_ ?_
  · intro p h f h0 h3 hp
    have hn := h0.1
    refine ⟨f, ?_, ?_, CN_refl f⟩
    · rw [e_rd_nextToken_8]
      by_cases c : p < X.1
      · have hb : X.2 p < 256 := xo.2 p c
        have h32 := h0.2 p c
        have nb : ¬ (X.2 p = 32 ∨ X.2 p = 10) := fun k => h ⟨c, decide_eq_true k⟩
        simp (disch := omega) only [q_0, q_1, q_2, q_3, q_4, q_5, q_6, q_7, q_8, q_9, q_10, q_11, q_12, q_13, q_14, q_15, q_16, q_17, q_18, q_19, q_20, q_21, q_22, q_23, q_24, q_29, q_30, q_31, q_36, q_42, q_50, q_40, q_48, q_96, q_97, q_99, q_100, q_255, q_256, q_700, q_999, q_1160, q_1400, q_99999, q_m1, z_25, z_26, z_27, z_28, z_32, z_33, z_34, z_35, z_41, z_43, z_45, z_47, z_57, z_58, z_59, z_60, z_61, z_64, z_95, z_122, z_950, z_9999, hn, h3, q_leI, q_in, q_clamp, if_true, h32, sb_eq]
        rw [if_neg (by omega), if_neg (by omega), if_neg (by omega)]
      · rw [if_pos (by show f 66 2 ≤ f 66 3; rw [hn, h3]; exact nI_le (by omega) (by omega))]
    · rw [h3]; unfold tS; rw [rn_f h]
  · intro p h1 h2 ih f h0 h3 hp
    have hn := h0.1
    have hb : X.2 p < 256 := xo.2 p h1
    have h32 := h0.2 p h1
    have nb : X.2 p = 32 ∨ X.2 p = 10 := by
      have h2' : tBl (X.2 p) = true := h2
      unfold tBl at h2'
      exact of_decide_eq_true h2'
    have F1 : CN f (en_u1 f 66 3 (nI (p + 1))) := CN_u f _ (by omega)
    obtain ⟨f', e1, e2, e3⟩ := ih (en_u1 f 66 3 (nI (p + 1))) (CN_0 h0 F1) (u1_at _ _ _ _) (by omega)
    refine ⟨f', ?_, ?_, CN_trans F1 e3⟩
    · rw [← e1, e_rd_nextToken_8]
      simp (disch := omega) only [q_0, q_1, q_2, q_3, q_4, q_5, q_6, q_7, q_8, q_9, q_10, q_11, q_12, q_13, q_14, q_15, q_16, q_17, q_18, q_19, q_20, q_21, q_22, q_23, q_24, q_29, q_30, q_31, q_36, q_42, q_50, q_40, q_48, q_96, q_97, q_99, q_100, q_255, q_256, q_700, q_999, q_1160, q_1400, q_99999, q_m1, z_25, z_26, z_27, z_28, z_32, z_33, z_34, z_35, z_41, z_43, z_45, z_47, z_57, z_58, z_59, z_60, z_61, z_64, z_95, z_122, z_950, z_9999, hn, h3, q_leI, q_in, q_clamp, if_true, h32, sb_eq, nI_add]
      rw [if_neg (by omega)]
      by_cases c : X.2 p = 32
      · rw [if_pos c]
      · rw [if_neg c, if_pos (by omega)]
    · rw [e2]; unfold tS; rw [rn_t (P := fun i => tBl (X.2 i)) h1 h2]
theorem c_lets {X : mu_X} (xo : XOK X) (g : Nat → Nat → Int64) : ∀ p, ∀ f, CT0 X f → f 66 4 = nI p → p ≤ X.1 → ∃ f', x_rd_nextToken_112 (f, g) = rV (f', g) ∧ f' 66 4 = nI (rn (fun i => tLe (X.2 i)) X.1 p) ∧ ∀ q i, (q ≠ 66 ∨ i ≠ 4) → f' q i = f q i := by
  have n7 := xo.1
  refine rn_ind (P := fun i => tLe (X.2 i)) (n := X.1) (fun p => ∀ f, CT0 X f → f 66 4 = nI p → p ≤ X.1 → ∃ f', x_rd_nextToken_112 (f, g) = rV (f', g) ∧ f' 66 4 = nI (rn (fun i => tLe (X.2 i)) X.1 p) ∧ ∀ q i, (q ≠ 66 ∨ i ≠ 4) → f' q i = f q i) ?_ ?_
  · intro p h f h0 h4 hp
    have hn := h0.1
    refine ⟨f, ?_, by rw [h4, rn_f h], fun _ _ _ => rfl⟩
    rw [e_rd_nextToken_112]
    by_cases c : p < X.1
    · have hb : X.2 p < 256 := xo.2 p c
      have h32 := h0.2 p c
      have nb : tLe (X.2 p) = false := by
        cases hq : tLe (X.2 p) with
        | false => rfl
        | true => exact absurd ⟨c, hq⟩ h
      simp (disch := omega) only [q_0, q_1, q_2, q_3, q_4, q_5, q_6, q_7, q_8, q_9, q_10, q_11, q_12, q_13, q_14, q_15, q_16, q_17, q_18, q_19, q_20, q_21, q_22, q_23, q_24, q_29, q_30, q_31, q_36, q_42, q_50, q_40, q_48, q_96, q_97, q_99, q_100, q_255, q_256, q_700, q_999, q_1160, q_1400, q_99999, q_m1, z_25, z_26, z_27, z_28, z_32, z_33, z_34, z_35, z_41, z_43, z_45, z_47, z_57, z_58, z_59, z_60, z_61, z_64, z_95, z_122, z_950, z_9999, hn, h4, q_leI, q_in, q_clamp, if_true, h32, c_isLetter, c_I, nb, tb_0]
      rw [if_neg (by omega)]
      rfl
    · rw [if_pos (by show f 66 2 ≤ f 66 4; rw [hn, h4]; exact nI_le (by omega) (by omega))]
      rfl
  · intro p h1 h2 ih f h0 h4 hp
    have hn := h0.1
    have hb : X.2 p < 256 := xo.2 p h1
    have h32 := h0.2 p h1
    have h2' : tLe (X.2 p) = true := h2
    have F1 : CN f (en_u1 f 66 4 (nI (p + 1))) := CN_u f _ (by omega)
    obtain ⟨f', e1, e2, e3⟩ := ih (en_u1 f 66 4 (nI (p + 1))) (CN_0 h0 F1) (u1_at _ _ _ _) (by omega)
    refine ⟨f', ?_, ?_, fun q i a => by rw [e3 q i a, u1_ne _ _ (by omega)]⟩
    · rw [← e1, e_rd_nextToken_112]
      simp (disch := omega) only [q_0, q_1, q_2, q_3, q_4, q_5, q_6, q_7, q_8, q_9, q_10, q_11, q_12, q_13, q_14, q_15, q_16, q_17, q_18, q_19, q_20, q_21, q_22, q_23, q_24, q_29, q_30, q_31, q_36, q_42, q_50, q_40, q_48, q_96, q_97, q_99, q_100, q_255, q_256, q_700, q_999, q_1160, q_1400, q_99999, q_m1, z_25, z_26, z_27, z_28, z_32, z_33, z_34, z_35, z_41, z_43, z_45, z_47, z_57, z_58, z_59, z_60, z_61, z_64, z_95, z_122, z_950, z_9999, hn, h4, q_leI, q_in, q_clamp, if_true, h32, c_isLetter, c_I, h2', tb_0, nI_add]
      rw [if_neg (by omega), if_neg (by decide)]
    · rw [e2, rn_t (P := fun i => tLe (X.2 i)) h1 h2]
theorem c_digs {X : mu_X} (xo : XOK X) (g : Nat → Nat → Int64) (s : Nat) : ∀ p, ∀ f, CT0 X f → f 66 4 = nI p → s ≤ p → p ≤ X.1 → f 66 6 = nI (dVl X.2 s (p - s)) → ∃ f', x_rd_nextToken_171 (f, g) = rV (f', g) ∧ f' 66 4 = nI (rn (fun i => tDi (X.2 i)) X.1 p) ∧ f' 66 6 = nI (dVl X.2 s (rn (fun i => tDi (X.2 i)) X.1 p - s)) ∧ ∀ q i, (q ≠ 66 ∨ (i ≠ 4 ∧ i ≠ 6)) → f' q i = f q i := by
  have n7 := xo.1
  refine rn_ind (P := fun i => tDi (X.2 i)) (n := X.1) (fun p => ∀ f, CT0 X f → f 66 4 = nI p → s ≤ p → p ≤ X.1 → f 66 6 = nI (dVl X.2 s (p - s)) → ∃ f', x_rd_nextToken_171 (f, g) = rV (f', g) ∧ f' 66 4 = nI (rn (fun i => tDi (X.2 i)) X.1 p) ∧ f' 66 6 = nI (dVl X.2 s (rn (fun i => tDi (X.2 i)) X.1 p - s)) ∧ ∀ q i, (q ≠ 66 ∨ (i ≠ 4 ∧ i ≠ 6)) → f' q i = f q i) ?_ ?_
  · intro p h f h0 h4 hs hp h6
    have hn := h0.1
    refine ⟨f, ?_, by rw [h4, rn_f h], by rw [h6, rn_f h], fun _ _ _ => rfl⟩
    rw [e_rd_nextToken_171]
    by_cases c : p < X.1
    · have hb : X.2 p < 256 := xo.2 p c
      have h32 := h0.2 p c
      have nb : tDi (X.2 p) = false := by
        cases hq : tDi (X.2 p) with
        | false => rfl
        | true => exact absurd ⟨c, hq⟩ h
      simp (disch := omega) only [q_0, q_1, q_2, q_3, q_4, q_5, q_6, q_7, q_8, q_9, q_10, q_11, q_12, q_13, q_14, q_15, q_16, q_17, q_18, q_19, q_20, q_21, q_22, q_23, q_24, q_29, q_30, q_31, q_36, q_42, q_50, q_40, q_48, q_96, q_97, q_99, q_100, q_255, q_256, q_700, q_999, q_1160, q_1400, q_99999, q_m1, z_25, z_26, z_27, z_28, z_32, z_33, z_34, z_35, z_41, z_43, z_45, z_47, z_57, z_58, z_59, z_60, z_61, z_64, z_95, z_122, z_950, z_9999, hn, h4, q_leI, q_in, q_clamp, if_true, h32, c_isDigit, c_I, nb, tb_0]
      rw [if_neg (by omega)]
      rfl
    · rw [if_pos (by show f 66 2 ≤ f 66 4; rw [hn, h4]; exact nI_le (by omega) (by omega))]
      rfl
  · intro p h1 h2 ih f h0 h4 hs hp h6
    have hn := h0.1
    have hb : X.2 p < 256 := xo.2 p h1
    have h32 := h0.2 p h1
    have h2' : tDi (X.2 p) = true := h2
    have hd : 48 ≤ X.2 p ∧ X.2 p ≤ 57 := by
      have h3 := h2'
      unfold tDi at h3
      exact of_decide_eq_true h3
    have hsb : sb (X.2 p) = nI (X.2 p) := (sb_all _ hb).1 (by omega)
    have ev : dVl X.2 s (p + 1 - s) = dVl X.2 s (p - s) * 10 + X.2 p - 48 := by
      rw [show p + 1 - s = (p - s) + 1 by omega]
      show 10 * dVl X.2 s (p - s) + (X.2 (s + (p - s)) - 48) = _
      rw [show s + (p - s) = p by omega]
      omega
    have F1 : CN f (en_u1 (en_u1 f 66 6 (nI (dVl X.2 s (p + 1 - s)))) 66 4 (nI (p + 1))) := CN_trans (CN_u f _ (by omega)) (CN_u _ _ (by omega))
    obtain ⟨f', e1, e2, e3, e4⟩ := ih (en_u1 (en_u1 f 66 6 (nI (dVl X.2 s (p + 1 - s)))) 66 4 (nI (p + 1))) (CN_0 h0 F1) (u1_at _ _ _ _) (by omega) (by omega) (by rw [u1_ne _ _ (by omega), u1_at])
    refine ⟨f', ?_, ?_, ?_, fun q i a => by rw [e4 q i a, u1_ne _ _ (by omega), u1_ne _ _ (by omega)]⟩
    · rw [← e1, e_rd_nextToken_171]
      simp (disch := omega) only [q_0, q_1, q_2, q_3, q_4, q_5, q_6, q_7, q_8, q_9, q_10, q_11, q_12, q_13, q_14, q_15, q_16, q_17, q_18, q_19, q_20, q_21, q_22, q_23, q_24, q_29, q_30, q_31, q_36, q_42, q_50, q_40, q_48, q_96, q_97, q_99, q_100, q_255, q_256, q_700, q_999, q_1160, q_1400, q_99999, q_m1, z_25, z_26, z_27, z_28, z_32, z_33, z_34, z_35, z_41, z_43, z_45, z_47, z_57, z_58, z_59, z_60, z_61, z_64, z_95, z_122, z_950, z_9999, hn, h4, h6, q_leI, q_in, q_clamp, if_true, h32, c_isDigit, c_I, h2', tb_0, nI_add, pk_mul]
      rw [if_neg (by omega), if_neg (by decide), hsb, nI_add, pk_sub (by omega), ev]
    · rw [e2, rn_t (P := fun i => tDi (X.2 i)) h1 h2]
    · rw [e3, rn_t (P := fun i => tDi (X.2 i)) h1 h2]
theorem c_next {X : mu_X} (xo : XOK X) (f : Nat → Nat → Int32) (g : Nat → Nat → Int64) {c : Nat} (hc : c ≤ X.1) (h0 : CT0 X f) (h4 : f 66 4 = nI c) : ∃ f', x_rd_nextToken_0 (f, g) = rV (f', g) ∧ CT X c f' ∧ CN f f' := by
  have n7 := xo.1
  rw [e_rd_nextToken_0]
  have F1 : CN f (en_u1 f 66 3 (nI c)) := CN_u f _ (by omega)
  obtain ⟨f1, e1, e2, e3⟩ := c_skip xo g c (en_u1 f 66 3 (nI c)) (CN_0 h0 F1) (u1_at _ _ _ _) hc
  have F2 := CN_trans F1 e3
  have C2 := CN_0 h0 F2
  show ∃ f', x_rd_nextToken_8 (en_u1 f 66 3 (f 66 4), g) = rV (f', g) ∧ CT X c f' ∧ CN f f'
  rw [h4, e1, e_rd_nextToken_60]
  have hn := C2.1
  have sl := tS_le hc
  by_cases k0 : tK X c = 0
  · have k0' := (tK_0 X c).mp k0
    have he : tE X c = tS X c := by unfold tE; rw [if_pos k0]
    rw [if_neg (by show ¬ f1 66 3 < f1 66 2; rw [hn, e2]; exact nI_nlt (by omega) (by omega))]
    refine ⟨_, rfl, ⟨CT0_of C2 (by rw [u1_ne _ _ (by omega), u1_ne _ _ (by omega), u1_ne _ _ (by omega)]) (fun i => by rw [u1_ne _ _ (by omega), u1_ne _ _ (by omega), u1_ne _ _ (by omega)]), ?_, ?_, ?_, ?_⟩, CN_trans F2 (CN_trans (CN_u _ _ (by omega)) (CN_trans (CN_u _ _ (by omega)) (CN_u _ _ (by omega))))⟩
    · rw [u1_ne _ _ (by omega), u1_ne _ _ (by omega), u1_ne _ _ (by omega)]; exact e2
    · rw [u1_ne _ _ (by omega), u1_ne _ _ (by omega), u1_at, he]; exact e2
    · rw [u1_at, k0]; rfl
    · rw [u1_ne _ _ (by omega), u1_at]; unfold tNm; rw [if_neg (by omega)]; rfl
  · have hs := tK_pos k0
    have hb : X.2 (tS X c) < 256 := xo.2 _ hs
    have h32 := C2.2 _ hs
    rw [if_pos (by show f1 66 3 < f1 66 2; rw [hn, e2]; exact nI_lt hs (by omega))]
    simp (disch := omega) only [q_0, q_1, q_2, q_3, q_4, q_5, q_6, q_7, q_8, q_9, q_10, q_11, q_12, q_13, q_14, q_15, q_16, q_17, q_18, q_19, q_20, q_21, q_22, q_23, q_24, q_29, q_30, q_31, q_36, q_42, q_50, q_40, q_48, q_96, q_97, q_99, q_100, q_255, q_256, q_700, q_999, q_1160, q_1400, q_99999, q_m1, z_25, z_26, z_27, z_28, z_32, z_33, z_34, z_35, z_41, z_43, z_45, z_47, z_57, z_58, z_59, z_60, z_61, z_64, z_95, z_122, z_950, z_9999, e2, q_in, q_clamp, if_true, h32, c_isLetter, c_I, tb_0]
    have G1 : CN f1 (en_u1 (en_u1 f1 66 4 (nI (tS X c))) 66 6 (nI 0)) := CN_trans (CN_u _ _ (by omega)) (CN_u _ _ (by omega))
    cases kl : tLe (X.2 (tS X c)) with
    | true =>
      have k1 : tK X c = 1 := by unfold tK; rw [if_neg (by omega), if_pos kl]
      have he : tE X c = rn (fun i => tLe (X.2 i)) X.1 (tS X c) := by unfold tE; rw [if_neg (by omega), if_pos k1]
      rw [if_neg (by decide)]
      obtain ⟨f2, a1, a2, a3⟩ := c_lets xo g (tS X c) (en_u1 (en_u1 (en_u1 f1 66 4 (nI (tS X c))) 66 6 (nI 0)) 66 5 (nI 1)) (CN_0 C2 (CN_trans G1 (CN_u _ _ (by omega)))) (by rw [u1_ne _ _ (by omega), u1_ne _ _ (by omega), u1_at]) (by omega)
      have G2 : CN f1 f2 := fun q i a => by rw [a3 q i (by omega), u1_ne _ _ (by omega), u1_ne _ _ (by omega), u1_ne _ _ (by omega)]
      refine ⟨f2, a1, ⟨CN_0 C2 G2, ?_, by rw [a2, he], ?_, ?_⟩, CN_trans F2 G2⟩
      · rw [a3 66 3 (by omega), u1_ne _ _ (by omega), u1_ne _ _ (by omega), u1_ne _ _ (by omega), e2]
      · rw [a3 66 5 (by omega), u1_at, k1]
      · rw [a3 66 6 (by omega), u1_ne _ _ (by omega), u1_at]; unfold tNm; rw [if_neg (by omega)]
    | false =>
      rw [if_pos rfl]
      have q3 : en_u1 (en_u1 f1 66 4 (nI (tS X c))) 66 6 (nI 0) 66 3 = nI (tS X c) := by rw [u1_ne _ _ (by omega), u1_ne _ _ (by omega), e2]
      have q32 : en_u1 (en_u1 f1 66 4 (nI (tS X c))) 66 6 (nI 0) 32 (tS X c) = sb (X.2 (tS X c)) := by rw [u1_ne _ _ (by omega), u1_ne _ _ (by omega), h32]
      have q4 : en_u1 (en_u1 f1 66 4 (nI (tS X c))) 66 6 (nI 0) 66 4 = nI (tS X c) := by rw [u1_ne _ _ (by omega), u1_at]
      simp (disch := omega) only [q_0, q_1, q_2, q_3, q_4, q_5, q_6, q_7, q_8, q_9, q_10, q_11, q_12, q_13, q_14, q_15, q_16, q_17, q_18, q_19, q_20, q_21, q_22, q_23, q_24, q_29, q_30, q_31, q_36, q_42, q_50, q_40, q_48, q_96, q_97, q_99, q_100, q_255, q_256, q_700, q_999, q_1160, q_1400, q_99999, q_m1, z_25, z_26, z_27, z_28, z_32, z_33, z_34, z_35, z_41, z_43, z_45, z_47, z_57, z_58, z_59, z_60, z_61, z_64, z_95, z_122, z_950, z_9999, q3, q32, q4, q_in, q_clamp, if_true, c_isDigit, c_I, tb_0]
      cases kd : tDi (X.2 (tS X c)) with
      | true =>
        have k2 : tK X c = 2 := by unfold tK; rw [if_neg (by omega), if_neg (by rw [kl]; decide), if_pos kd]
        have he : tE X c = rn (fun i => tDi (X.2 i)) X.1 (tS X c) := by unfold tE; rw [if_neg (by omega), if_neg (by omega), if_pos k2]
        rw [if_neg (by decide)]
        obtain ⟨f2, a1, a2, a3, a4⟩ := c_digs xo g (tS X c) (tS X c) (en_u1 (en_u1 (en_u1 f1 66 4 (nI (tS X c))) 66 6 (nI 0)) 66 5 (nI 2)) (CN_0 C2 (CN_trans G1 (CN_u _ _ (by omega)))) (by rw [u1_ne _ _ (by omega), q4]) (by omega) (by omega) (by rw [u1_ne _ _ (by omega), u1_at, Nat.sub_self]; rfl)
        have G2 : CN f1 f2 := fun q i a => by rw [a4 q i (by omega), u1_ne _ _ (by omega), u1_ne _ _ (by omega), u1_ne _ _ (by omega)]
        refine ⟨f2, a1, ⟨CN_0 C2 G2, ?_, by rw [a2, he], ?_, ?_⟩, CN_trans F2 G2⟩
        · rw [a4 66 3 (by omega), u1_ne _ _ (by omega), q3]
        · rw [a4 66 5 (by omega), u1_at, k2]
        · rw [a3]; unfold tNm tLn; rw [if_pos k2, he]
      | false =>
        rw [if_pos rfl]
        have ixf := sb_ixF _ hb
        have fin : ∀ v, tK X c = v → v ≠ 0 → v ≠ 1 → v ≠ 2 → ∃ f', rV (en_u1 (en_u1 (en_u1 (en_u1 f1 66 4 (nI (tS X c))) 66 6 (nI 0)) 66 5 (nI v)) 66 4 (nI (tS X c) + nI 1), g) = rV (f', g) ∧ CT X c f' ∧ CN f f' := by
          intro v kv v0 v1 v2
          have he : tE X c = tS X c + 1 := by unfold tE; rw [if_neg (by omega), if_neg (by omega), if_neg (by omega)]
          have G2 : CN f1 (en_u1 (en_u1 (en_u1 (en_u1 f1 66 4 (nI (tS X c))) 66 6 (nI 0)) 66 5 (nI v)) 66 4 (nI (tS X c) + nI 1)) := CN_trans G1 (CN_trans (CN_u _ _ (by omega)) (CN_u _ _ (by omega)))
          refine ⟨_, rfl, ⟨CN_0 C2 G2, ?_, ?_, ?_, ?_⟩, CN_trans F2 G2⟩
          · rw [u1_ne _ _ (by omega), u1_ne _ _ (by omega), q3]
          · rw [u1_at, he, nI_add]
          · rw [u1_ne _ _ (by omega), u1_at, kv]
          · rw [u1_ne _ _ (by omega), u1_ne _ _ (by omega), u1_at]; unfold tNm; rw [if_neg (by omega)]
        cases ks : tSg (X.2 (tS X c)) with
        | true =>
          have k3 : tK X c = 3 := by unfold tK; rw [if_neg (by omega), if_neg (by rw [kl]; decide), if_neg (by rw [kd]; decide), if_pos ks]
          have hx : ¬ en_ixF ((((sb (X.2 (tS X c))) &&& 255).toUInt32 % 65536).toInt32) [59, 40, 41, 43, 45, 42, 47, 60, 61] 0 < 0 := fun k => by rw [ixf.mp k] at ks; cases ks
          simp (disch := omega) only [q_0, q_1, q_2, q_3, q_4, q_5, q_6, q_7, q_8, q_9, q_10, q_11, q_12, q_13, q_14, q_15, q_16, q_17, q_18, q_19, q_20, q_21, q_22, q_23, q_24, q_29, q_30, q_31, q_36, q_42, q_50, q_40, q_48, q_96, q_97, q_99, q_100, q_255, q_256, q_700, q_999, q_1160, q_1400, q_99999, q_m1, z_25, z_26, z_27, z_28, z_32, z_33, z_34, z_35, z_41, z_43, z_45, z_47, z_57, z_58, z_59, z_60, z_61, z_64, z_95, z_122, z_950, z_9999] at hx
          rw [if_neg hx]
          exact fin 3 k3 (by omega) (by omega) (by omega)
        | false =>
          have k4 : tK X c = 4 := by unfold tK; rw [if_neg (by omega), if_neg (by rw [kl]; decide), if_neg (by rw [kd]; decide), if_neg (by rw [ks]; decide)]
          have hx := ixf.mpr ks
          simp (disch := omega) only [q_0, q_1, q_2, q_3, q_4, q_5, q_6, q_7, q_8, q_9, q_10, q_11, q_12, q_13, q_14, q_15, q_16, q_17, q_18, q_19, q_20, q_21, q_22, q_23, q_24, q_29, q_30, q_31, q_36, q_42, q_50, q_40, q_48, q_96, q_97, q_99, q_100, q_255, q_256, q_700, q_999, q_1160, q_1400, q_99999, q_m1, z_25, z_26, z_27, z_28, z_32, z_33, z_34, z_35, z_41, z_43, z_45, z_47, z_57, z_58, z_59, z_60, z_61, z_64, z_95, z_122, z_950, z_9999] at hx
          rw [if_pos hx]
          exact fin 4 k4 (by omega) (by omega) (by omega)
/-! what the class sees of the token -/
theorem c_isSign {X : mu_X} (xo : XOK X) (f : Nat → Nat → Int32) (g : Nat → Nat → Int64) {c : Nat} (h : CT X c f) {v : Nat} (hv : v < 128) : x_rd_isSign_0 (f, g) (nI v) = rI (tb (sg X c v)) (f, g) := by
  have n7 := xo.1
  have k4 := tK_4 X c
  obtain ⟨h0, h3, h4, h5, h6⟩ := h
  rw [e_rd_isSign_0]
  simp (disch := omega) only [q_0, q_1, q_2, q_3, q_4, q_5, q_6, q_7, q_8, q_9, q_10, q_11, q_12, q_13, q_14, q_15, q_16, q_17, q_18, q_19, q_20, q_21, q_22, q_23, q_24, q_29, q_30, q_31, q_36, q_42, q_50, q_40, q_48, q_96, q_97, q_99, q_100, q_255, q_256, q_700, q_999, q_1160, q_1400, q_99999, q_m1, z_25, z_26, z_27, z_28, z_32, z_33, z_34, z_35, z_41, z_43, z_45, z_47, z_57, z_58, z_59, z_60, z_61, z_64, z_95, z_122, z_950, z_9999, h5, h3, q_eqI]
  by_cases k : tK X c = 3
  · have hs := tK_pos (X := X) (c := c) (by omega)
    have hb := xo.2 _ hs
    have h32 := h0.2 _ hs
    rw [if_pos k]
    simp (disch := omega) only [q_in, q_clamp, if_true, h32, sb_eq]
    unfold sg
    by_cases q : X.2 (tS X c) = v
    · rw [if_pos q, decide_eq_true ⟨k, q⟩]; rfl
    · rw [if_neg q, decide_eq_false (fun z => q z.2)]; rfl
  · rw [if_neg k]
    unfold sg
    rw [decide_eq_false (fun z => k z.1)]; rfl
theorem c_isWordG {X : mu_X} (xo : XOK X) (f : Nat → Nat → Int32) (g : Nat → Nat → Int64) {c : Nat} (h : CT X c f) {x0 : en_S → Option en_O} {x28 : en_S → Int32 → Option en_O} {Q m : Nat} {l : List Int32} {M : Int32} (j : Nat) (hj : j < 17) (hm : m = (wl j).length) (hM : M = nI m) (hl : ∀ i, i < m → l.getD i 0 &&& 255 = nI ((wl j).getD i 0)) (hQ : 1000 ≤ Q)
    (e0 : ∀ σ : en_S, x0 σ = if σ.1 66 5 = 1 then if (σ.1 66 4) - (σ.1 66 3) = M then x28 σ 0 else some (.inl (some (.int 0)), σ) else some (.inl (some (.int 0)), σ))
    (e28 : ∀ (σ : en_S) (v2 : Int32), x28 σ v2 = if M ≤ v2 then some (.inl (some (.int 1)), σ) else if en_in ((σ.1 66 3) + v2) 700 then if 1000 ≤ Q ∧ en_small [.int (σ.1 32 (((σ.1 66 3) + v2).toNatClampNeg))] = true ∧ en_in v2 m then if σ.1 32 (((σ.1 66 3) + v2).toNatClampNeg) = l.getD v2.toNatClampNeg 0 &&& 255 then x28 σ (v2 + 1) else some (.inl (some (.int 0)), σ) else none else none) : x0 (f, g) = rI (tb (decide (kW X c = j))) (f, g) := by
  have n7 := xo.1
  have k4 := tK_4 X c
  obtain ⟨h0, h3, h4, h5, h6⟩ := h
  obtain ⟨o1, o2, o3⟩ := wl_ok j hj
  have eg := tE_ge X c
  have iff := kW_iff X c hj
  have no : ¬ kW X c = j → rI (tb (decide (kW X c = j))) (f, g) = some (.inl (some (.int 0)), (f, g)) := fun k => by rw [decide_eq_false k]; rfl
  rw [e0]
  simp (disch := omega) only [h5, h4, h3, q_1, q_eqI]
  by_cases k : tK X c = 1
  · rw [if_pos k]
    have hs := tK_pos (X := X) (c := c) (by omega)
    have hw := tW_le k
    by_cases q : tLn X c = m
    · have q' : tE X c - tS X c = m := q
      have el : ∀ i, i < m → tS X c + i < X.1 := fun i hi => (hw i (by omega)).1
      have q1 : nI (tE X c) - nI (tS X c) = M := by rw [pk_sub eg, q', hM]
      rw [if_pos q1]
      have key : ∀ k i, i + k = m → (∀ z, z < i → X.2 (tS X c + z) = (wl j).getD z 0) → x28 (f, g) (nI i) = rI (tb (decide (kW X c = j))) (f, g) := by
        intro k
        induction k with
        | zero =>
          intro i hi ha
          rw [e28, hM, if_pos (nI_le (by omega) (by omega)), decide_eq_true (iff.mpr ⟨by assumption, by omega, fun z hz => ha z (by omega)⟩)]
          rfl
        | succ k ih =>
          intro i hi ha
          have hi' := el i (by omega)
          have hb := xo.2 _ hi'
          have h32 := h0.2 _ hi'
          have o3i := o3 i (by omega)
          rw [e28, hM, if_neg (nI_ge (by omega) (by omega))]
          simp (disch := omega) only [h3, nI_add, q_in, q_clamp, if_true, h32, hl, sb_eq, nI_1]
          rw [if_pos ⟨hQ, rfl, trivial⟩]
          by_cases w : X.2 (tS X c + i) = (wl j).getD i 0
          · rw [if_pos w]
            exact ih (i + 1) (by omega) (fun z hz => by
              by_cases y : z = i
              · rw [y]; exact w
              · exact ha z (by omega))
          · rw [if_neg w, no (fun e => w ((iff.mp e).2.2 i (by omega)))]
      exact key m 0 (by omega) (fun z hz => absurd hz (Nat.not_lt_zero z))
    · have q1 : ¬ nI (tE X c) - nI (tS X c) = M := by
        have := tE_le (X := X) (c := c)
        rw [pk_sub eg, hM]
        have z1 : tE X c ≤ X.1 := by
          unfold tE
          rw [if_neg (by omega), if_pos k]
          exact rn_le _ (by omega)
        rw [q_eqI (by omega) (by omega)]
        exact q
      rw [if_neg q1, no (fun e => q (by rw [(iff.mp e).2.1, hm]))]
  · rw [if_neg k, no (fun e => k (iff.mp e).1)]
theorem c_w7 {X : mu_X} (xo : XOK X) (f : Nat → Nat → Int32) (g : Nat → Nat → Int64) {c : Nat} (h : CT X c f) : x_rd_isWord_p1001_0 (f, g) = rI (tb (decide (kW X c = 7))) (f, g) := c_isWordG xo f g h (m := 5) 7 (by decide) rfl (by decide) (by decide) (by decide : 1000 ≤ 1001) e_rd_isWord_p1001_0 e_rd_isWord_p1001_28
theorem c_w8 {X : mu_X} (xo : XOK X) (f : Nat → Nat → Int32) (g : Nat → Nat → Int64) {c : Nat} (h : CT X c f) : x_rd_isWord_p1002_0 (f, g) = rI (tb (decide (kW X c = 8))) (f, g) := c_isWordG xo f g h (m := 4) 8 (by decide) rfl (by decide) (by decide) (by decide : 1000 ≤ 1002) e_rd_isWord_p1002_0 e_rd_isWord_p1002_28
theorem c_w9 {X : mu_X} (xo : XOK X) (f : Nat → Nat → Int32) (g : Nat → Nat → Int64) {c : Nat} (h : CT X c f) : x_rd_isWord_p1003_0 (f, g) = rI (tb (decide (kW X c = 9))) (f, g) := c_isWordG xo f g h (m := 3) 9 (by decide) rfl (by decide) (by decide) (by decide : 1000 ≤ 1003) e_rd_isWord_p1003_0 e_rd_isWord_p1003_28
theorem c_w10 {X : mu_X} (xo : XOK X) (f : Nat → Nat → Int32) (g : Nat → Nat → Int64) {c : Nat} (h : CT X c f) : x_rd_isWord_p1004_0 (f, g) = rI (tb (decide (kW X c = 10))) (f, g) := c_isWordG xo f g h (m := 6) 10 (by decide) rfl (by decide) (by decide) (by decide : 1000 ≤ 1004) e_rd_isWord_p1004_0 e_rd_isWord_p1004_28
theorem c_w12 {X : mu_X} (xo : XOK X) (f : Nat → Nat → Int32) (g : Nat → Nat → Int64) {c : Nat} (h : CT X c f) : x_rd_isWord_p1005_0 (f, g) = rI (tb (decide (kW X c = 12))) (f, g) := c_isWordG xo f g h (m := 4) 12 (by decide) rfl (by decide) (by decide) (by decide : 1000 ≤ 1005) e_rd_isWord_p1005_0 e_rd_isWord_p1005_28
theorem c_w13 {X : mu_X} (xo : XOK X) (f : Nat → Nat → Int32) (g : Nat → Nat → Int64) {c : Nat} (h : CT X c f) : x_rd_isWord_p1006_0 (f, g) = rI (tb (decide (kW X c = 13))) (f, g) := c_isWordG xo f g h (m := 5) 13 (by decide) rfl (by decide) (by decide) (by decide : 1000 ≤ 1006) e_rd_isWord_p1006_0 e_rd_isWord_p1006_28
theorem c_w11 {X : mu_X} (xo : XOK X) (f : Nat → Nat → Int32) (g : Nat → Nat → Int64) {c : Nat} (h : CT X c f) : x_rd_isWord_p1007_0 (f, g) = rI (tb (decide (kW X c = 11))) (f, g) := c_isWordG xo f g h (m := 5) 11 (by decide) rfl (by decide) (by decide) (by decide : 1000 ≤ 1007) e_rd_isWord_p1007_0 e_rd_isWord_p1007_28
theorem c_w15 {X : mu_X} (xo : XOK X) (f : Nat → Nat → Int32) (g : Nat → Nat → Int64) {c : Nat} (h : CT X c f) : x_rd_isWord_p1008_0 (f, g) = rI (tb (decide (kW X c = 15))) (f, g) := c_isWordG xo f g h (m := 2) 15 (by decide) rfl (by decide) (by decide) (by decide : 1000 ≤ 1008) e_rd_isWord_p1008_0 e_rd_isWord_p1008_28
theorem c_w14 {X : mu_X} (xo : XOK X) (f : Nat → Nat → Int32) (g : Nat → Nat → Int64) {c : Nat} (h : CT X c f) : x_rd_isWord_p1009_0 (f, g) = rI (tb (decide (kW X c = 14))) (f, g) := c_isWordG xo f g h (m := 3) 14 (by decide) rfl (by decide) (by decide) (by decide : 1000 ≤ 1009) e_rd_isWord_p1009_0 e_rd_isWord_p1009_28
theorem c_w16 {X : mu_X} (xo : XOK X) (f : Nat → Nat → Int32) (g : Nat → Nat → Int64) {c : Nat} (h : CT X c f) : x_rd_isWord_p1010_0 (f, g) = rI (tb (decide (kW X c = 16))) (f, g) := c_isWordG xo f g h (m := 3) 16 (by decide) rfl (by decide) (by decide) (by decide : 1000 ≤ 1010) e_rd_isWord_p1010_0 e_rd_isWord_p1010_28
theorem c_w0 {X : mu_X} (xo : XOK X) (f : Nat → Nat → Int32) (g : Nat → Nat → Int64) {c : Nat} (h : CT X c f) : x_rd_isWord_p1011_0 (f, g) = rI (tb (decide (kW X c = 0))) (f, g) := c_isWordG xo f g h (m := 6) 0 (by decide) rfl (by decide) (by decide) (by decide : 1000 ≤ 1011) e_rd_isWord_p1011_0 e_rd_isWord_p1011_28
theorem c_w1 {X : mu_X} (xo : XOK X) (f : Nat → Nat → Int32) (g : Nat → Nat → Int64) {c : Nat} (h : CT X c f) : x_rd_isWord_p1012_0 (f, g) = rI (tb (decide (kW X c = 1))) (f, g) := c_isWordG xo f g h (m := 5) 1 (by decide) rfl (by decide) (by decide) (by decide : 1000 ≤ 1012) e_rd_isWord_p1012_0 e_rd_isWord_p1012_28
theorem c_w2 {X : mu_X} (xo : XOK X) (f : Nat → Nat → Int32) (g : Nat → Nat → Int64) {c : Nat} (h : CT X c f) : x_rd_isWord_p1013_0 (f, g) = rI (tb (decide (kW X c = 2))) (f, g) := c_isWordG xo f g h (m := 5) 2 (by decide) rfl (by decide) (by decide) (by decide : 1000 ≤ 1013) e_rd_isWord_p1013_0 e_rd_isWord_p1013_28
theorem c_w3 {X : mu_X} (xo : XOK X) (f : Nat → Nat → Int32) (g : Nat → Nat → Int64) {c : Nat} (h : CT X c f) : x_rd_isWord_p1014_0 (f, g) = rI (tb (decide (kW X c = 3))) (f, g) := c_isWordG xo f g h (m := 4) 3 (by decide) rfl (by decide) (by decide) (by decide : 1000 ≤ 1014) e_rd_isWord_p1014_0 e_rd_isWord_p1014_28
theorem c_w4 {X : mu_X} (xo : XOK X) (f : Nat → Nat → Int32) (g : Nat → Nat → Int64) {c : Nat} (h : CT X c f) : x_rd_isWord_p1015_0 (f, g) = rI (tb (decide (kW X c = 4))) (f, g) := c_isWordG xo f g h (m := 5) 4 (by decide) rfl (by decide) (by decide) (by decide : 1000 ≤ 1015) e_rd_isWord_p1015_0 e_rd_isWord_p1015_28
theorem c_w5 {X : mu_X} (xo : XOK X) (f : Nat → Nat → Int32) (g : Nat → Nat → Int64) {c : Nat} (h : CT X c f) : x_rd_isWord_p1016_0 (f, g) = rI (tb (decide (kW X c = 5))) (f, g) := c_isWordG xo f g h (m := 4) 5 (by decide) rfl (by decide) (by decide) (by decide : 1000 ≤ 1016) e_rd_isWord_p1016_0 e_rd_isWord_p1016_28
theorem c_w6 {X : mu_X} (xo : XOK X) (f : Nat → Nat → Int32) (g : Nat → Nat → Int64) {c : Nat} (h : CT X c f) : x_rd_isWord_p1017_0 (f, g) = rI (tb (decide (kW X c = 6))) (f, g) := c_isWordG xo f g h (m := 3) 6 (by decide) rfl (by decide) (by decide) (by decide : 1000 ≤ 1017) e_rd_isWord_p1017_0 e_rd_isWord_p1017_28
