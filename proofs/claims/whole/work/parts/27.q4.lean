/-! questions of now: written by q4.py -/

theorem q_toSlander {A : mu_A} {f : Nat → Nat → Int32} (ok : AOK A) (hM : MRel A f) (hC : CRel A f) (v1 : Int32) : Qn f (fun σ => x_b_toSlander_0 σ v1) (fun σ => x_m_toSlander_0 σ v1) (id) := by
  have lo := ok.1
  have go := ok.2.1
  have ro := ok.2.2.2.1
  have l1 := lo.1
  have l2 := lo.2.1
  have g8 := go.2.1
  have cB := hC.1.1
  have cP := hC.1.2.1
  have cT := hC.2.1.1
  have L := hC.1
  have R := hC.2.2.1
  rcases ok_bad v1 (n := lB (aL A)) (by omega) with bd0 | ⟨x, hx, rfl⟩
  · refine Qn_err ok hM 1 (by omega) ?_ ?_
    · intro g
      show x_b_toSlander_0 (f, g) v1 = _
      rw [e_b_toSlander_0, c_checkBoxN f g cB bd0, c_Vx]
    · intro f0 f2 g M0 h0 e0
      show x_m_toSlander_0 (f2, g) v1 = _
      rw [e_m_toSlander_0]
      dsimp only
      rw [← e0, m_isBoxN f0 g h0 M0.1.1 bd0, c_I, if_pos (by decide)]
      rfl
  refine Qn_val ok hM rfl (if nI 1 ≤ sMt (aL A) (aR A) (sH (aL A) (aR A) (nI x)) then (if nI 0 < rW (aR A) x - sMt (aL A) (aR A) (sH (aL A) (aR A) (nI x)) then rW (aR A) x - sMt (aL A) (aR A) (sH (aL A) (aR A) (nI x)) else nI 0) else nN) ?_ ?_
  · intro g
    show ∃ f', x_b_toSlander_0 (f, g) (nI x) = rI _ (f', g) ∧ _
    rw [e_b_toSlander_0, c_checkBoxY f g cB (by omega) hx, c_V]
    have h8 := sH8 (aR A) lo (nI x)
    have hW : f 68 x = rW (aR A) x := R.2.1 x hx
    refine ⟨f, ?_, QC_refl f⟩
    rw [c_bitsUnder_67 (f, g) lo L R, c_I, c_mightOfAll_67 (f, g) lo L R (by omega), c_I]
    simp (disch := omega) only [q_0, q_1, q_2, q_3, q_4, q_5, q_6, q_7, q_8, q_9, q_10, q_11, q_12, q_13, q_14, q_15, q_16, q_17, q_18, q_19, q_20, q_21, q_22, q_23, q_24, q_29, q_30, q_31, q_36, q_42, q_50, q_40, q_48, q_96, q_97, q_99, q_100, q_255, q_256, q_700, q_999, q_1160, q_1400, q_99999, q_m1, q_in, q_clamp, if_true, hW]
    by_cases c : nI 1 ≤ sMt (aL A) (aR A) (sH (aL A) (aR A) (nI x))
    · rw [if_pos c, if_pos c]; rfl
    · rw [if_neg c, if_neg c]; rfl
  · intro f0 f2 g M0 h0 e0
    have ML := M0.1
    have MR := M0.2.2.1
    show ∃ f3, x_m_toSlander_0 (f2, g) (nI x) = rI _ (f3, g) ∧ _
    rw [e_m_toSlander_0]
    dsimp only
    rw [← e0, m_isBoxY f0 g h0 M0.1.1 (by omega) hx, c_I, if_neg (by decide)]
    have h8 := sH8 (aR A) lo (nI x)
    have hW : f0 18 (0 + 1 + x) = rW (aR A) x := MR.2.1 x hx
    rw [Nat.zero_add] at hW
    refine ⟨f0, ?_, h0, QM_refl f0⟩
    rw [show x_m_handsAt_0 (f0, g) 0 (nI x) = _ from m_handsAt (b := 0) (f0, g) lo (by omega) ML MR _, c_I, show x_m_mightBy_0 (f0, g) 0 (nI (sH (aL A) (aR A) (nI x))) = _ from m_mightBy (b := 0) (f0, g) lo (by omega) ML MR (by omega), c_I]
    simp (disch := omega) only [q_0, q_1, q_2, q_3, q_4, q_5, q_6, q_7, q_8, q_9, q_10, q_11, q_12, q_13, q_14, q_15, q_16, q_17, q_18, q_19, q_20, q_21, q_22, q_23, q_24, q_29, q_30, q_31, q_36, q_42, q_50, q_40, q_48, q_96, q_97, q_99, q_100, q_255, q_256, q_700, q_999, q_1160, q_1400, q_99999, q_m1, nI_add, q_in, q_clamp, if_true, hW, m_greater, c_I, q_mx]
    by_cases c : nI 1 ≤ sMt (aL A) (aR A) (sH (aL A) (aR A) (nI x))
    · rw [if_pos c, if_pos c]; rfl
    · rw [if_neg c, if_neg c]; rfl

theorem q_alone {A : mu_A} {f : Nat → Nat → Int32} (ok : AOK A) (hM : MRel A f) (hC : CRel A f) (v1 : Int32) : Qn f (fun σ => x_b_alone_0 σ v1) (fun σ => x_m_alone_0 σ v1) (id) := by
  have lo := ok.1
  have go := ok.2.1
  have ro := ok.2.2.2.1
  have l1 := lo.1
  have l2 := lo.2.1
  have g8 := go.2.1
  have cB := hC.1.1
  have cP := hC.1.2.1
  have cT := hC.2.1.1
  have L := hC.1
  have R := hC.2.2.1
  rcases ok_bad v1 (n := lB (aL A)) (by omega) with bd0 | ⟨x, hx, rfl⟩
  · refine Qn_err ok hM 1 (by omega) ?_ ?_
    · intro g
      show x_b_alone_0 (f, g) v1 = _
      rw [e_b_alone_0, c_checkBoxN f g cB bd0, c_Vx]
    · intro f0 f2 g M0 h0 e0
      show x_m_alone_0 (f2, g) v1 = _
      rw [e_m_alone_0]
      dsimp only
      rw [← e0, m_isBoxN f0 g h0 M0.1.1 bd0, c_I, if_pos (by decide)]
      rfl
  refine Qn_val ok hM rfl (nI (mu_mk (fun p => sBr (aL A) (aR A) x (2 ^ p)) (lP (aL A)))) ?_ ?_
  · intro g
    show ∃ f', x_b_alone_0 (f, g) (nI x) = rI _ (f', g) ∧ _
    rw [e_b_alone_0, c_checkBoxY f g cB (by omega) hx, c_V]
    refine ⟨f, ?_, QC_refl f⟩
    have h := mu_loop (fun (a : Nat) i => x_b_alone_9 (f, g) (nI x) (nI a) i) (fun p => mu_mk (fun p => sBr (aL A) (aR A) x (2 ^ p)) p) (lP (aL A)) (by
      intro p hp
      have h2 : 2 ^ p < 2 ^ 31 := Nat.pow_lt_pow_right (by omega) (by omega)
      show x_b_alone_9 (f, g) (nI x) (nI _) (nI p) = x_b_alone_9 (f, g) (nI x) (nI _) (nI (p + 1))
      rw [e_b_alone_9]
      simp (disch := omega) only [q_0, q_1, q_2, q_3, q_4, q_5, q_6, q_7, q_8, q_9, q_10, q_11, q_12, q_13, q_14, q_15, q_16, q_17, q_18, q_19, q_20, q_21, q_22, q_23, q_24, q_29, q_30, q_31, q_36, q_42, q_50, q_40, q_48, q_96, q_97, q_99, q_100, q_255, q_256, q_700, q_999, q_1160, q_1400, q_99999, q_m1, cP, q_leI, nI_add, q_shl, fa_or, c_isBorneBy_67 (f, g) lo L R hx (m := 2 ^ p) (by omega), c_I, tb_0]
      rw [if_neg (by omega)]
      cases hb : sBr (aL A) (aR A) x (2 ^ p)
      · rw [if_pos rfl, mu_mk_f (P := fun p => sBr (aL A) (aR A) x (2 ^ p)) hb]
      · rw [if_neg (by decide), mu_mk_t (P := fun p => sBr (aL A) (aR A) x (2 ^ p)) hb])
    refine Eq.trans h ?_
    show x_b_alone_9 (f, g) (nI x) (nI _) (nI (lP (aL A))) = _
    rw [e_b_alone_9, if_pos (q_le cP)]; rfl
  · intro f0 f2 g M0 h0 e0
    have ML := M0.1
    have MR := M0.2.2.1
    show ∃ f3, x_m_alone_0 (f2, g) (nI x) = rI _ (f3, g) ∧ _
    rw [e_m_alone_0]
    dsimp only
    rw [← e0, m_isBoxY f0 g h0 M0.1.1 (by omega) hx, c_I, if_neg (by decide)]
    refine ⟨f0, ?_, h0, QM_refl f0⟩
    have hP : f0 0 4 = nI (lP (aL A)) := ML.2.1
    have h := mu_loop (fun (a : Nat) i => x_m_alone_19 (f0, g) (nI x) (nI a) i) (fun p => mu_mk (fun p => sBr (aL A) (aR A) x (2 ^ p)) p) (lP (aL A)) (by
      intro p hp
      have h2 : 2 ^ p < 2 ^ 31 := Nat.pow_lt_pow_right (by omega) (by omega)
      show x_m_alone_19 (f0, g) (nI x) (nI _) (nI p) = x_m_alone_19 (f0, g) (nI x) (nI _) (nI (p + 1))
      rw [e_m_alone_19]
      simp (disch := omega) only [q_0, q_1, q_2, q_3, q_4, q_5, q_6, q_7, q_8, q_9, q_10, q_11, q_12, q_13, q_14, q_15, q_16, q_17, q_18, q_19, q_20, q_21, q_22, q_23, q_24, q_29, q_30, q_31, q_36, q_42, q_50, q_40, q_48, q_96, q_97, q_99, q_100, q_255, q_256, q_700, q_999, q_1160, q_1400, q_99999, q_m1, hP, q_leI, nI_add, q_shl, fa_or, Nat.or_zero, m_canBear (b := 0) (f0, g) lo (by omega) ML MR hx (m := 2 ^ p) (by omega), c_I, tb_0]
      rw [if_neg (by omega)]
      cases hb : sBr (aL A) (aR A) x (2 ^ p)
      · rw [if_pos rfl, mu_mk_f (P := fun p => sBr (aL A) (aR A) x (2 ^ p)) hb]
      · rw [if_neg (by decide), mu_mk_t (P := fun p => sBr (aL A) (aR A) x (2 ^ p)) hb])
    refine Eq.trans h ?_
    show x_m_alone_19 (f0, g) (nI x) (nI _) (nI (lP (aL A))) = _
    rw [e_m_alone_19, if_pos (q_le hP)]; rfl

def iD (u s : Nat → Int32) (n : Nat) : Int32 × Int32 := mu_up (fun p q => if u p = nN then (if s p ≤ q.2 then q else (nI p, s p)) else q) (nN, nN) n
theorem iD_c (u s : Nat → Int32) {n : Nat} (h : ∀ p, p < n → ¬ s p ≤ nN) : ∀ p, p ≤ n → iD u s p = (nN, nN) ∨ ∃ b, b < p ∧ iD u s p = (nI b, s b) := by
  intro p
  induction p with
  | zero => intro _; exact Or.inl rfl
  | succ p ih =>
    intro hp
    have e : iD u s (p + 1) = if u p = nN then (if s p ≤ (iD u s p).2 then iD u s p else (nI p, s p)) else iD u s p := rfl
    rw [e]
    by_cases c : u p = nN
    · rw [if_pos c]
      rcases ih (by omega) with i | ⟨b, hb, i⟩
      · rw [i, if_neg (h p (by omega))]; exact Or.inr ⟨p, by omega, rfl⟩
      · rw [i]
        by_cases c2 : s p ≤ s b
        · rw [if_pos c2]; exact Or.inr ⟨b, by omega, rfl⟩
        · rw [if_neg c2]; exact Or.inr ⟨p, by omega, rfl⟩
    · rw [if_neg c]
      rcases ih (by omega) with i | ⟨b, hb, i⟩
      · exact Or.inl i
      · exact Or.inr ⟨b, by omega, i⟩
theorem sM_nn (Λ : mu_Ld) (r : mu_Rw) (p : Nat) : ¬ sM Λ r p ≤ nN := by
  unfold sM
  rw [Int32.not_le]
  split
  · rename_i h
    exact Int32.lt_trans (by decide) h
  · decide

theorem q_idle {A : mu_A} {f : Nat → Nat → Int32} (ok : AOK A) (hM : MRel A f) (hC : CRel A f) (v1 : Int32) : Qn f (fun σ => x_b_idle_0 σ v1) (fun σ => x_m_idle_0 σ v1) (id) := by
  have lo := ok.1
  have go := ok.2.1
  have ro := ok.2.2.2.1
  have l1 := lo.1
  have l2 := lo.2.1
  have g8 := go.2.1
  have cB := hC.1.1
  have cP := hC.1.2.1
  have cT := hC.2.1.1
  have L := hC.1
  have R := hC.2.2.1
  rcases ok_badR v1 (a := 0) (b := 1) (by omega) (by omega) with bd0 | ⟨w, _, hw, rfl⟩
  · refine Qn_err ok hM 1 (by omega) ?_ ?_
    · intro g
      show x_b_idle_0 (f, g) v1 = _
      rw [e_b_idle_0, show x_b_checkWhat_0 (f, g) v1 1 = _ from c_checkWhatN (f, g) (b := 1) bd0, c_Vx]
    · intro f0 f2 g M0 h0 e0
      show x_m_idle_0 (f2, g) v1 = _
      rw [e_m_idle_0]
      dsimp only
      rw [← e0, show x_m_isWhat_0 (f0, g) v1 1 = _ from m_isWhatN f0 g (b := 1) h0 bd0, c_I, if_pos (by decide)]
      rfl
  refine Qn_val ok hM rfl ((iD (rU (aR A)) (if w = 0 then sM (aL A) (aR A) else lH (aL A)) (lP (aL A))).1) ?_ ?_
  · intro g
    show ∃ f', x_b_idle_0 (f, g) (nI w) = rI _ (f', g) ∧ _
    rw [e_b_idle_0, show x_b_checkWhat_0 (f, g) (nI w) 1 = _ from c_checkWhatY (f, g) (b := 1) hw (by omega), c_V]
    refine ⟨f, ?_, QC_refl f⟩
    have h := mu_loop (fun (a : Int32 × Int32) i => x_b_idle_12 (f, g) (nI w) a.1 a.2 i) (fun p => iD (rU (aR A)) (if w = 0 then sM (aL A) (aR A) else lH (aL A)) p) (lP (aL A)) (by
      intro p hp
      have hU : f 70 p = rU (aR A) p := R.2.2.2.1 p hp
      have hH : f 42 p = lH (aL A) p := L.2.2.2.1 p hp
      have hS : iD (rU (aR A)) (if w = 0 then sM (aL A) (aR A) else lH (aL A)) (p + 1) = if rU (aR A) p = nN then (if (if w = 0 then sM (aL A) (aR A) else lH (aL A)) p ≤ (iD (rU (aR A)) (if w = 0 then sM (aL A) (aR A) else lH (aL A)) p).2 then iD (rU (aR A)) (if w = 0 then sM (aL A) (aR A) else lH (aL A)) p else (nI p, (if w = 0 then sM (aL A) (aR A) else lH (aL A)) p)) else iD (rU (aR A)) (if w = 0 then sM (aL A) (aR A) else lH (aL A)) p := rfl
      show x_b_idle_12 (f, g) (nI w) (iD _ _ p).1 (iD _ _ p).2 (nI p) = x_b_idle_12 (f, g) (nI w) (iD _ _ (p + 1)).1 (iD _ _ (p + 1)).2 (nI (p + 1))
      rw [hS]
      generalize iD (rU (aR A)) (if w = 0 then sM (aL A) (aR A) else lH (aL A)) p = q
      rw [e_b_idle_12, c_mightOf_67 (f, g) lo L R hp, c_I]
      simp (disch := omega) only [q_0, q_1, q_2, q_3, q_4, q_5, q_6, q_7, q_8, q_9, q_10, q_11, q_12, q_13, q_14, q_15, q_16, q_17, q_18, q_19, q_20, q_21, q_22, q_23, q_24, q_29, q_30, q_31, q_36, q_42, q_50, q_40, q_48, q_96, q_97, q_99, q_100, q_255, q_256, q_700, q_999, q_1160, q_1400, q_99999, q_m1, cP, q_leI, nI_add, q_in, q_clamp, if_true, hU, hH, q_eqI]
      rw [if_neg (by omega)]
      by_cases c0 : w = 0
      · simp only [c0, if_true]
        by_cases c : rU (aR A) p = nN
        · simp only [c, if_true]
          by_cases c2 : sM (aL A) (aR A) p ≤ q.2
          · simp only [c2, if_true]
          · simp only [c2, if_false]
        · simp only [c, if_false]
      · simp only [c0, if_false]
        by_cases c : rU (aR A) p = nN
        · simp only [c, if_true]
          by_cases c2 : lH (aL A) p ≤ q.2
          · simp only [c2, if_true]
          · simp only [c2, if_false]
        · simp only [c, if_false])
    refine Eq.trans h ?_
    show x_b_idle_12 (f, g) (nI w) (iD _ _ (lP (aL A))).1 (iD _ _ (lP (aL A))).2 (nI (lP (aL A))) = _
    rw [e_b_idle_12, if_pos (q_le cP)]; rfl
  · intro f0 f2 g M0 h0 e0
    have ML := M0.1
    have MR := M0.2.2.1
    show ∃ f3, x_m_idle_0 (f2, g) (nI w) = rI _ (f3, g) ∧ _
    rw [e_m_idle_0]
    dsimp only
    rw [← e0, show x_m_isWhat_0 (f0, g) (nI w) 1 = _ from m_isWhatY f0 g (b := 1) h0 hw (by omega), c_I, if_neg (by decide)]
    refine ⟨f0, ?_, h0, QM_refl f0⟩
    have hP : f0 0 4 = nI (lP (aL A)) := ML.2.1
    have hs : ∀ p, p < lP (aL A) → ¬ (if w = 0 then sM (aL A) (aR A) else lH (aL A)) p ≤ nN := by
      intro p hp
      by_cases c0 : w = 0
      · rw [if_pos c0]; exact sM_nn _ _ _
      · rw [if_neg c0]
        obtain ⟨h, h1, h2, e⟩ := lo.2.2.2.1 p hp
        rw [e, Int32.not_le, q_nNlt (by omega)]; trivial
    have h := mu_loop (fun (a : Int32) i => x_m_idle_20 (f0, g) (nI w) a i) (fun p => (iD (rU (aR A)) (if w = 0 then sM (aL A) (aR A) else lH (aL A)) p).1) (lP (aL A)) (by
      intro p hp
      have hU : f0 18 (0 + 13 + p) = rU (aR A) p := MR.2.2.2.1 p hp
      rw [Nat.zero_add] at hU
      have hH : f0 5 p = lH (aL A) p := ML.2.2.2.1 p hp
      have hS : iD (rU (aR A)) (if w = 0 then sM (aL A) (aR A) else lH (aL A)) (p + 1) = if rU (aR A) p = nN then (if (if w = 0 then sM (aL A) (aR A) else lH (aL A)) p ≤ (iD (rU (aR A)) (if w = 0 then sM (aL A) (aR A) else lH (aL A)) p).2 then iD (rU (aR A)) (if w = 0 then sM (aL A) (aR A) else lH (aL A)) p else (nI p, (if w = 0 then sM (aL A) (aR A) else lH (aL A)) p)) else iD (rU (aR A)) (if w = 0 then sM (aL A) (aR A) else lH (aL A)) p := rfl
      show x_m_idle_20 (f0, g) (nI w) (iD _ _ p).1 (nI p) = x_m_idle_20 (f0, g) (nI w) (iD _ _ (p + 1)).1 (nI (p + 1))
      rw [hS, e_m_idle_20]
      simp (disch := omega) only [q_0, q_1, q_2, q_3, q_4, q_5, q_6, q_7, q_8, q_9, q_10, q_11, q_12, q_13, q_14, q_15, q_16, q_17, q_18, q_19, q_20, q_21, q_22, q_23, q_24, q_29, q_30, q_31, q_36, q_42, q_50, q_40, q_48, q_96, q_97, q_99, q_100, q_255, q_256, q_700, q_999, q_1160, q_1400, q_99999, q_m1, hP, q_leI, nI_add, q_in, q_clamp, if_true, hU, hH, q_m1]
      rw [if_neg (by omega)]
      by_cases c : rU (aR A) p = nN
      · simp only [c, if_true]
        rcases iD_c (rU (aR A)) (if w = 0 then sM (aL A) (aR A) else lH (aL A)) hs p (by omega) with i | ⟨b, hb, i⟩
        · rw [i, if_pos rfl, if_neg (hs p hp)]
        · have hHb : f0 5 b = lH (aL A) b := ML.2.2.2.1 b (by omega)
          rw [i]
          simp (disch := omega) only [q_nNe, if_false, q_in, q_clamp, if_true, hHb, m_mightOf (b := 0) (f0, g) lo (by omega) ML MR hp, m_mightOf (b := 0) (f0, g) lo (by omega) ML MR (show b < lP (aL A) by omega), c_I, q_eqI]
          by_cases c0 : w = 0
          · simp only [c0, if_true]
            by_cases c2 : sM (aL A) (aR A) p ≤ sM (aL A) (aR A) b
            · simp only [c2, if_true]
            · simp only [c2, if_false]
          · simp only [c0, if_false]
            by_cases c2 : lH (aL A) p ≤ lH (aL A) b
            · simp only [c2, if_true]
            · simp only [c2, if_false]
      · simp only [c, if_false])
    refine Eq.trans h ?_
    show x_m_idle_20 (f0, g) (nI w) (iD _ _ (lP (aL A))).1 (nI (lP (aL A))) = _
    rw [e_m_idle_20, if_pos (q_le hP)]; rfl
