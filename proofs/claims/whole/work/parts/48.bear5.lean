/-! toBear: the model's rows, the question -/
theorem sub_tk {P its tk : Nat} (h : its < 2 ^ P) (h2 : its &&& tk = 0) : anN its (anN (2 ^ P - 1) tk) = 0 := by
  apply Nat.eq_of_testBit_eq
  intro i
  have e := congrArg (fun z => Nat.testBit z i) h2
  have e' : (its.testBit i && tk.testBit i) = false := by
    have e1 : (its &&& tk).testBit i = (0 : Nat).testBit i := e
    rw [Nat.testBit_and, Nat.zero_testBit] at e1
    exact e1
  rw [anN_tb, anN_tb, Nat.zero_testBit, Nat.testBit_two_pow_sub_one]
  by_cases hi : i < P
  · rw [decide_eq_true hi]
    revert e'
    cases its.testBit i <;> cases tk.testBit i <;> decide
  · rw [Nat.testBit_lt_two_pow (Nat.lt_of_lt_of_le h (Nat.pow_le_pow_right (by omega) (by omega)))]
    rfl
theorem tk_sub {P m tk : Nat} (h : anN m (anN (2 ^ P - 1) tk) = 0) : m &&& tk = 0 := by
  apply Nat.eq_of_testBit_eq
  intro i
  have e := anN_tb m (anN (2 ^ P - 1) tk) i
  rw [h, Nat.zero_testBit, anN_tb] at e
  rw [Nat.testBit_and, Nat.zero_testBit]
  revert e
  cases m.testBit i <;> cases (2 ^ P - 1).testBit i <;> cases tk.testBit i <;> decide
theorem m_row {Λ : mu_Ld} {r : mu_Rw} (f : Nat → Nat → Int32) (g : Nat → Nat → Int64) (lo : lOK Λ) (hL : MLd Λ f) (hR : MRw Λ 0 r f) (hT : TM Λ r 0 f) {x tk w m : Nat} (hx : x < lB Λ) (ht : tk < 2 ^ lP Λ) (hw : tF Λ r (lB Λ - x) (anN (2 ^ lP Λ - 1) tk) = some w) (hm : tL Λ r x (anN (2 ^ lP Λ - 1) tk) = some m) (v1 : Int32) : x_m_toBear_198 (f, g) v1 (nI tk) (nI 1) (nI x) = x_m_toBear_190 (f, g) v1 (nI (tk ||| m)) (nI m) (nI (x + 1)) := by
  have l1 := lo.1
  have l2 := lo.2.1
  have p8 := p256 l2
  have h0 : 0 < 2 ^ lP Λ := Nat.pow_pos (by omega)
  have hfr : anN (2 ^ lP Λ - 1) tk < 2 ^ lP Λ := anN_lt (by omega)
  obtain ⟨m0, m1, ⟨w', hw', hmw⟩, hmin⟩ := tL_c hm
  have ew : w' = w := by rw [hw] at hw'; exact (Option.some.inj hw').symm
  rw [ew] at hmw
  have hmP : m < 2 ^ lP Λ := sub_lt m1 hfr
  have hw8 := dM_lt (by omega) hw
  have T1 : TM Λ r (x + 1) f := fun y y1 y2 tk htk => hT y (by omega) y2 tk htk
  have hFx := m_fewestOf f g lo hL (fun y y1 y2 tk htk => hT y (by omega) y2 tk htk : TM Λ r x f) (by omega) ht
  rw [hw] at hFx
  have stepF : ∀ its, its < 2 ^ lP Λ → x_m_fewestOf_0 (f, g) (nI (x + 1)) (nI (tk ||| its)) = rI (dM (tF Λ r (lB Λ - (x + 1)) (anN (anN (2 ^ lP Λ - 1) tk) its))) (f, g) := by
    intro its hi
    rw [← an_or]
    exact m_fewestOf f g lo hL T1 (by omega) (Nat.or_lt_two_pow ht hi)
  have key : ∀ d its, its + d = m → 1 ≤ its → x_m_toBear_198 (f, g) v1 (nI tk) (nI its) (nI x) = x_m_toBear_190 (f, g) v1 (nI (tk ||| m)) (nI m) (nI (x + 1)) := by
    intro d
    induction d with
    | zero =>
      intro its hi h1
      obtain rfl : its = m := by omega
      have hand := tk_sub m1
      have hbr : sBr Λ r x its = true := by
        cases hb : sBr Λ r x its
        · unfold tW at hmw; rw [hb] at hmw; cases hmw
        · rfl
      have hc : ∃ c, tF Λ r (lB Λ - (x + 1)) (anN (anN (2 ^ lP Λ - 1) tk) its) = some c ∧ c + mu_bc its = w := by
        unfold tW at hmw
        rw [hbr] at hmw
        cases hq : tF Λ r (lB Λ - (x + 1)) (anN (anN (2 ^ lP Λ - 1) tk) its) with
        | none => rw [hq] at hmw; cases hmw
        | some c =>
          rw [hq] at hmw
          exact ⟨c, rfl, Option.some.inj hmw⟩
      obtain ⟨c, hc1, hc2⟩ := hc
      have hF := stepF its hmP
      rw [hc1] at hF
      rw [e_m_toBear_198, fa_and, hand, if_pos (by decide), show x_m_canBear_0 (f, g) 0 (nI x) (nI its) = _ from m_canBear (b := 0) (f, g) lo (by omega) hL hR hx (by omega), c_I, hbr, if_neg (by decide), m_bits _ (by omega), c_I, nI_1, fa_or, hF, c_I, hFx, c_I]
      rw [if_pos]
      show nI (mu_bc its) + nI c = nI w
      rw [nI_add, Nat.add_comm, hc2]
    | succ d ih =>
      intro its hi h1
      have hiP : its < 2 ^ lP Λ := by omega
      have nx := ih (its + 1) (by omega) (by omega)
      have hfalse := hmin its h1 (by omega)
      rw [e_m_toBear_198, fa_and, nI_1]
      by_cases ca : its &&& tk = 0
      · have hs := sub_tk hiP ca
        rw [ca, if_pos (by decide), show x_m_canBear_0 (f, g) 0 (nI x) (nI its) = _ from m_canBear (b := 0) (f, g) lo (by omega) hL hR hx (by omega), c_I]
        have hne : ¬ tW Λ r x (anN (2 ^ lP Λ - 1) tk) its = some w := by
          intro e
          unfold tP at hfalse
          rw [hs, hw, e] at hfalse
          simp at hfalse
        cases hb : sBr Λ r x its
        · rw [if_pos (show tb false = 0 from rfl)]
          exact nx
        · rw [if_neg (by decide), m_bits _ (by omega), c_I, nI_1, fa_or, stepF its hiP, c_I, hFx, c_I]
          have hbc := mu_bc_le its
          rw [if_neg]
          · exact nx
          · have hW : tW Λ r x (anN (2 ^ lP Λ - 1) tk) its = (match tF Λ r (lB Λ - (x + 1)) (anN (anN (2 ^ lP Λ - 1) tk) its) with | none => none | some c => some (c + mu_bc its)) := by unfold tW; rw [hb]; rfl
            rw [hW] at hne
            cases hq : tF Λ r (lB Λ - (x + 1)) (anN (anN (2 ^ lP Λ - 1) tk) its) with
            | none =>
              show ¬ nI (mu_bc its) + nI 99999 = nI w
              rw [nI_add, q_eqI (by omega) (by omega)]; omega
            | some c =>
              have hc := dM_lt (anN_lt (n := 8) (by omega)) hq
              rw [hq] at hne
              show ¬ nI (mu_bc its) + nI c = nI w
              rw [nI_add, q_eqI (by omega) (by omega)]
              intro e
              exact hne (by show some (c + mu_bc its) = some w; rw [show c + mu_bc its = w by omega])
      · have hlt : its &&& tk ≤ its := Nat.and_le_left
        rw [if_neg (by show ¬ nI (its &&& tk) = nI 0; rw [q_eqI (by omega) (by omega)]; exact ca)]
        exact nx
  exact key (m - 1) 1 (by omega) (Nat.le_refl 1)
theorem m_rows {Λ : mu_Ld} {r : mu_Rw} (f : Nat → Nat → Int32) (g : Nat → Nat → Int64) (lo : lOK Λ) (hL : MLd Λ f) (hR : MRw Λ 0 r f) (hT : TM Λ r 0 f) {i w : Nat} (hi : i < lB Λ) (hw : tF Λ r (lB Λ) (2 ^ lP Λ - 1) = some w) : x_m_toBear_190 (f, g) (nI i) (nI 0) (nI 0) (nI 0) = rI (pV (pF Λ r (i + 1))) (f, g) := by
  have l1 := lo.1
  have l2 := lo.2.1
  have p8 := p256 l2
  have key : ∀ k x tk b w, x + k = i + 1 → tk < 2 ^ lP Λ → pF Λ r x = some (anN (2 ^ lP Λ - 1) tk, b) → tF Λ r (lB Λ - x) (anN (2 ^ lP Λ - 1) tk) = some w → x_m_toBear_190 (f, g) (nI i) (nI tk) (nI b) (nI x) = rI (pV (pF Λ r (i + 1))) (f, g) := by
    intro k
    induction k with
    | zero =>
      intro x tk b w hx ht hp hw
      rw [e_m_toBear_190, if_pos (nI_lt (by omega) (by omega)), ← hx, Nat.add_zero, hp]
      rfl
    | succ k ih =>
      intro x tk b w hx ht hp hw
      obtain ⟨m, hm⟩ := tL_ex (show x < lB Λ by omega) hw
      obtain ⟨m0, m1, ⟨w', hw', hmw⟩, _⟩ := tL_c hm
      have hfr : anN (2 ^ lP Λ - 1) tk < 2 ^ lP Λ := anN_lt (by have : 0 < 2 ^ lP Λ := Nat.pow_pos (by omega); omega)
      have hmP : m < 2 ^ lP Λ := sub_lt m1 hfr
      have hS := pF_S Λ r x
      rw [hp] at hS
      have hS' : pF Λ r (x + 1) = (match tL Λ r x (anN (2 ^ lP Λ - 1) tk) with | none => none | some m => some (anN (anN (2 ^ lP Λ - 1) tk) m, m)) := hS
      have hS2 : pF Λ r (x + 1) = some (anN (anN (2 ^ lP Λ - 1) tk) m, m) := by rw [hS', hm]
      rw [← an_or] at hS2
      have hc : ∃ c, tF Λ r (lB Λ - (x + 1)) (anN (2 ^ lP Λ - 1) (tk ||| m)) = some c := by
        rw [an_or]
        unfold tW at hmw
        cases hb : sBr Λ r x m
        · rw [hb] at hmw; cases hmw
        · rw [hb] at hmw
          cases hq : tF Λ r (lB Λ - (x + 1)) (anN (anN (2 ^ lP Λ - 1) tk) m) with
          | none => rw [hq] at hmw; cases hmw
          | some c => exact ⟨c, rfl⟩
      obtain ⟨c, hc⟩ := hc
      rw [e_m_toBear_190, if_neg (nI_nlt (by omega) (by omega)), show x_m_toBear_198 (f, g) (nI i) (nI tk) 1 (nI x) = _ from m_row f g lo hL hR hT (by omega) ht hw hm (nI i)]
      exact ih (x + 1) (tk ||| m) m c (by omega) (Nat.or_lt_two_pow ht hmP) hS2 hc
  have ha : anN (2 ^ lP Λ - 1) 0 = 2 ^ lP Λ - 1 := anN_0 _
  exact key (i + 1) 0 0 0 w (by omega) (Nat.pow_pos (by omega)) (by rw [ha]; rfl) (by rw [ha]; exact hw)
theorem pF_no {Λ : mu_Ld} {r : mu_Rw} (h : tF Λ r (lB Λ) (2 ^ lP Λ - 1) = none) (i : Nat) : pF Λ r (i + 1) = none := by
  have h1 : pF Λ r 1 = none := by
    show (match tL Λ r 0 (2 ^ lP Λ - 1) with | none => none | some m => some (anN (2 ^ lP Λ - 1) m, m)) = none
    cases hl : tL Λ r 0 (2 ^ lP Λ - 1) with
    | none => rfl
    | some m =>
      obtain ⟨_, _, ⟨w, hw, _⟩, _⟩ := tL_c hl
      rw [Nat.sub_zero, h] at hw; cases hw
  have := pF_none h1 i
  rw [Nat.add_comm] at this
  exact this
theorem QC_98 {f f' : Nat → Nat → Int32} (h : ∀ p, p ≠ 98 → p ≠ 99 → f' p = f p) : QC f f' := fun p _ _ _ d => h p (by omega) (by omega)
theorem QM_22 {f f' : Nat → Nat → Int32} (h : ∀ p, p ≠ 22 → f' p = f p) : QM f f' := ⟨fun p _ _ _ _ a _ _ _ => h p a, fun i _ _ _ _ _ => by rw [h 0 (by omega)], fun i _ => by rw [h 18 (by omega)]⟩
theorem q_toBear {A : mu_A} {f : Nat → Nat → Int32} (ok : AOK A) (hM : MRel A f) (hC : CRel A f) (v1 : Int32) : Qn f (fun σ => x_b_toBear_0 σ v1) (fun σ => x_m_toBear_0 σ v1) id := by
  have lo := ok.1
  have l1 := lo.1
  have l2 := lo.2.1
  have p8 := p256 l2
  have hp0 : 0 < 2 ^ lP (aL A) := Nat.pow_pos (by omega)
  have cB := hC.1.1
  have L := hC.1
  have R := hC.2.2.1
  have ha : anN (2 ^ lP (aL A) - 1) 0 = 2 ^ lP (aL A) - 1 := anN_0 _
  -- the model behind its check
  have mod : ∀ (f0 : Nat → Nat → Int32) (g : Nat → Nat → Int64) (v : Int32), MRel A f0 → f0 0 0 = nI 0 → (v = nN ∨ ∃ i, i < lB (aL A) ∧ v = nI i) → ∃ f3, x_m_toBear_40 (f0, g) v (f0 0 3 - 1) = rI (if v = nN then dI (tF (aL A) (aR A) (lB (aL A)) (2 ^ lP (aL A) - 1)) else pV (pF (aL A) (aR A) (v.toNatClampNeg + 1))) (f3, g) ∧ f3 0 0 = nI 0 ∧ QM f0 f3 := by
    intro f0 g v M0 h0 hv
    obtain ⟨f3, e3, t3, g3⟩ := m_bearTable f0 g lo M0.1 M0.2.2.1 v
    have L3 : MLd (aL A) f3 := MLd_of M0.1 (fun i _ => by rw [g3 0 (by omega)]) (fun p _ _ => g3 p (by omega))
    have R3 : MRw (aL A) 0 (aR A) f3 := MRw_of M0.2.2.1 (fun i _ _ => by rw [g3 18 (by omega)]) lo
    refine ⟨f3, ?_, by rw [g3 0 (by omega)]; exact h0, QM_22 g3⟩
    have hF := m_fewestOf f3 g lo L3 t3 (by omega) hp0
    rw [ha, Nat.sub_zero] at hF
    rw [M0.1.1, pmI_s, e3, e_m_toBear_40, if_pos (by decide), show x_m_fewestOf_0 (f3, g) 0 0 = _ from hF, c_I]
    cases hw : tF (aL A) (aR A) (lB (aL A)) (2 ^ lP (aL A) - 1) with
    | none =>
      rw [if_neg (by decide)]
      by_cases c : v = nN
      · rw [if_pos c]; rfl
      · rw [if_neg c, pF_no hw]; rfl
    | some w =>
      have hw8 := dM_lt (by omega) hw
      rw [hw] at hF
      rw [if_pos (show dM (some w) < 99999 from nI_lt (a := w) (b := 99999) (by omega) (by omega))]
      by_cases c : v = nN
      · rw [if_pos (show v = -1 from c), if_pos c, show x_m_fewestOf_0 (f3, g) 0 0 = _ from hF, c_I]; rfl
      · obtain ⟨i, hi, e⟩ := hv.resolve_left c
        rw [if_neg (show ¬ v = -1 from c), if_neg c, e, q_clamp (n := i) (by omega)]
        exact m_rows f3 g lo L3 R3 t3 hi hw
  by_cases c : v1 = nN
  · subst c
    refine Qn_val ok hM rfl (dI (tF (aL A) (aR A) (lB (aL A)) (2 ^ lP (aL A) - 1))) ?_ ?_
    · intro g
      show ∃ f', x_b_toBear_0 (f, g) nN = rI _ (f', g) ∧ _
      obtain ⟨f1, e1, t1, g1⟩ := c_workOut f g lo L R
      have L1 : CLd (aL A) f1 := CLd_of L (fun p _ _ _ => g1 p (by omega) (by omega))
      have h99 := t1.2 0 (Nat.le_refl 0) (by omega) (2 ^ lP (aL A) - 1) (by omega) (Or.inr rfl)
      rw [Nat.zero_mul, Nat.zero_add, Nat.sub_zero] at h99
      refine ⟨f1, ?_, QC_98 g1⟩
      rw [e_b_toBear_0, if_pos (by decide), e1, c_V, if_pos (by decide), e_sh_fewestOfAll_0, c_shall f1 g lo L1, c_I]
      simp (disch := omega) only [q_in, q_clamp, if_true, h99]
      rfl
    · intro f0 f2 g M0 h0 e0
      show ∃ f3, x_m_toBear_0 (f2, g) nN = rI _ (f3, g) ∧ _
      obtain ⟨f3, e3, z3, q3⟩ := mod f0 g nN M0 h0 (Or.inl rfl)
      rw [if_pos rfl] at e3
      refine ⟨f3, ?_, z3, q3⟩
      have h3 : f2 0 3 = nI (lB (aL A)) := by rw [← M0.1.1, e0, u1_ne _ _ (by omega)]
      rw [e_m_toBear_0, if_neg (by decide), if_neg (by show ¬ f2 0 3 ≤ nN; rw [h3, Int32.not_le, q_nNlt (by omega)]; trivial)]
      dsimp only
      rw [← e0, show x_m_right_0 (f0, g) 1 1 = _ from m_rightY f0 g h0 1, c_I, if_neg (by decide)]
      exact e3
  rcases ok_bad v1 (n := lB (aL A)) (by omega) with b1 | ⟨i, hi, rfl⟩
  · refine Qn_err ok hM 1 (by omega) ?_ ?_
    · intro g
      show x_b_toBear_0 (f, g) v1 = _
      rw [e_b_toBear_0, if_neg (show ¬ v1 = -1 from c), c_checkBoxN f g cB b1, c_Vx]
    · intro f0 f2 g M0 h0 e0
      show x_m_toBear_0 (f2, g) v1 = _
      have h3 : f2 0 3 = nI (lB (aL A)) := by rw [← M0.1.1, e0, u1_ne _ _ (by omega)]
      rw [e_m_toBear_0]
      dsimp only
      by_cases d : v1 < -1
      · rw [if_pos d, ← e0, show x_m_right_0 (f0, g) 0 1 = _ from m_rightN f0 g h0 (c := 1) (Or.inl rfl), c_I, if_pos (by decide)]; rfl
      · have hle : f2 0 3 ≤ v1 := by
          rw [h3]
          refine b1.resolve_left (fun k => ?_)
          rw [Int32.lt_iff_toInt_lt] at k d
          have a1 : (0 : Int32).toInt = 0 := by decide
          have a2 : (-1 : Int32).toInt = -1 := by decide
          rw [a1] at k
          rw [a2] at d
          have e1 : v1.toInt = -1 := by omega
          exact c (by rw [i32_of v1 _ e1]; decide)
        rw [if_neg d, if_pos hle, ← e0, show x_m_right_0 (f0, g) 0 1 = _ from m_rightN f0 g h0 (c := 1) (Or.inl rfl), c_I, if_pos (by decide)]; rfl
  · refine Qn_val ok hM rfl (pV (pF (aL A) (aR A) (i + 1))) ?_ ?_
    · intro g
      show ∃ f', x_b_toBear_0 (f, g) (nI i) = rI _ (f', g) ∧ _
      obtain ⟨f1, e1, t1, g1⟩ := c_workOut f g lo L R
      have L1 : CLd (aL A) f1 := CLd_of L (fun p _ _ _ => g1 p (by omega) (by omega))
      have R1 : CRw (aL A) 67 (aR A) f1 := CRw_of R (by rw [g1 67 (by omega) (by omega)]) (fun p _ _ => g1 p (by omega) (by omega))
      refine ⟨f1, ?_, QC_98 g1⟩
      rw [e_b_toBear_0, if_neg (show ¬ nI i = -1 from c), c_checkBoxY f g cB (by omega) hi, c_V, e1, c_V, if_neg (show ¬ nI i = -1 from c), c_rowAt f1 g lo L1 R1 t1 hi, c_I]
      rfl
    · intro f0 f2 g M0 h0 e0
      show ∃ f3, x_m_toBear_0 (f2, g) (nI i) = rI _ (f3, g) ∧ _
      obtain ⟨f3, e3, z3, q3⟩ := mod f0 g (nI i) M0 h0 (Or.inr ⟨i, hi, rfl⟩)
      rw [if_neg c, q_clamp (n := i) (by omega)] at e3
      refine ⟨f3, ?_, z3, q3⟩
      have h3 : f2 0 3 = nI (lB (aL A)) := by rw [← M0.1.1, e0, u1_ne _ _ (by omega)]
      have hnl : ¬ nI i < -1 := by
        rw [Int32.not_lt]
        have := q_nNlt (a := i) (by omega)
        exact Int32.le_of_lt (show nN < nI i by rw [this]; trivial)
      rw [e_m_toBear_0, if_neg hnl, if_neg (by show ¬ f2 0 3 ≤ nI i; rw [h3]; exact nI_ge hi (by omega))]
      dsimp only
      rw [← e0, show x_m_right_0 (f0, g) 1 1 = _ from m_rightY f0 g h0 1, c_I, if_neg (by decide)]
      exact e3
