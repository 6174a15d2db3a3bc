/-! toBear: the model -/
/-- what the model has laid out, from box x on -/
def TM (Λ : mu_Ld) (r : mu_Rw) (x : Nat) (f : Nat → Nat → Int32) : Prop := ∀ y, x ≤ y → y < lB Λ → ∀ tk, tk < 2 ^ lP Λ → f 22 (256 * y + tk) = dM (tF Λ r (lB Λ - y) (anN (2 ^ lP Λ - 1) tk))
theorem m_fewestOf {Λ : mu_Ld} {r : mu_Rw} (f : Nat → Nat → Int32) (g : Nat → Nat → Int64) (lo : lOK Λ) (hL : MLd Λ f) {x tk : Nat} (hT : TM Λ r x f) (hx : x ≤ lB Λ) (ht : tk < 2 ^ lP Λ) : x_m_fewestOf_0 (f, g) (nI x) (nI tk) = rI (dM (tF Λ r (lB Λ - x) (anN (2 ^ lP Λ - 1) tk))) (f, g) := by
  have l1 := lo.1
  have l2 := lo.2.1
  have p8 := p256 l2
  have hB : f 0 3 = nI (lB Λ) := hL.1
  rw [e_m_fewestOf_0]
  by_cases c : x = lB Λ
  · rw [if_pos (by show nI x = f 0 3; rw [hB, c]), c, Nat.sub_self]; rfl
  · have h22 := hT x (Nat.le_refl _) (by omega) tk ht
    rw [if_neg (by show ¬ nI x = f 0 3; rw [hB, q_eqI (by omega) (by omega)]; exact c)]
    simp (disch := omega) only [q_0, q_1, q_2, q_3, q_4, q_5, q_6, q_7, q_8, q_9, q_10, q_11, q_12, q_13, q_14, q_15, q_16, q_17, q_18, q_19, q_20, q_21, q_22, q_23, q_24, q_29, q_30, q_31, q_36, q_42, q_50, q_40, q_48, q_96, q_97, q_99, q_100, q_255, q_256, q_700, q_999, q_1160, q_1400, q_99999, q_m1, q_in, q_clamp, if_true, nI_add, pk_mul, h22]
    rfl
theorem an_or {P : Nat} (tk m : Nat) : anN (2 ^ P - 1) (tk ||| m) = anN (anN (2 ^ P - 1) tk) m := by
  apply Nat.eq_of_testBit_eq
  intro i
  rw [anN_tb, anN_tb, anN_tb, Nat.testBit_or]
  cases (2 ^ P - 1).testBit i <;> cases tk.testBit i <;> cases m.testBit i <;> rfl
theorem dM_lt {Λ : mu_Ld} {r : mu_Rw} {j fr c : Nat} (hf : fr < 256) (h : tF Λ r j fr = some c) : c ≤ 8 := by
  have := (tF_rg Λ r j fr c hf h).2
  have := mu_bc_le fr
  omega
theorem m_best {Λ : mu_Ld} {r : mu_Rw} (f : Nat → Nat → Int32) (g : Nat → Nat → Int64) (lo : lOK Λ) (hL : MLd Λ f) (hR : MRw Λ 0 r f) {x tk : Nat} (hT : TM Λ r (x + 1) f) (hx : x < lB Λ) (ht : tk < 2 ^ lP Λ) (v1 : Int32) : x_m_toBear_79 (f, g) v1 (nI x) (nI tk) (nI (anN (2 ^ lP Λ - 1) tk)) (nI 99999) (nI (anN (2 ^ lP Λ - 1) tk)) = x_m_toBear_46 (en_u1 f 22 (256 * x + tk) (dM (tF Λ r (lB Λ - x) (anN (2 ^ lP Λ - 1) tk))), g) v1 (nI x) (nI (tk + 1)) := by
  have l1 := lo.1
  have l2 := lo.2.1
  have p8 := p256 l2
  have h0 : 0 < 2 ^ lP Λ := Nat.pow_pos (by omega)
  have hfr : anN (2 ^ lP Λ - 1) tk < 2 ^ lP Λ := anN_lt (by omega)
  generalize hfe : anN (2 ^ lP Λ - 1) tk = fr at hfr
  have fin : ∀ a : Option Nat, x_m_toBear_79 (f, g) v1 (nI x) (nI tk) (nI fr) (dM a) (nI 0) = x_m_toBear_46 (en_u1 f 22 (256 * x + tk) (dM a), g) v1 (nI x) (nI (tk + 1)) := by
    intro a
    rw [e_m_toBear_79, if_pos (by decide)]
    simp (disch := omega) only [q_0, q_1, q_2, q_3, q_4, q_5, q_6, q_7, q_8, q_9, q_10, q_11, q_12, q_13, q_14, q_15, q_16, q_17, q_18, q_19, q_20, q_21, q_22, q_23, q_24, q_29, q_30, q_31, q_36, q_42, q_50, q_40, q_48, q_96, q_97, q_99, q_100, q_255, q_256, q_700, q_999, q_1160, q_1400, q_99999, q_m1, q_in, q_clamp, if_true, nI_add, pk_mul]
  have key : ∀ n m a, m ≤ n → anN m fr = 0 → (∀ b, a = some b → b ≤ 16) → x_m_toBear_79 (f, g) v1 (nI x) (nI tk) (nI fr) (dM a) (nI m) = x_m_toBear_46 (en_u1 f 22 (256 * x + tk) (dM (sbF fr (fun m a => tA (tW Λ r x fr m) a) n m a)), g) v1 (nI x) (nI (tk + 1)) := by
    intro n
    induction n with
    | zero =>
      intro m a hm _ _
      obtain rfl : m = 0 := by omega
      exact fin a
    | succ n ih =>
      intro m a hm hs ha
      show _ = x_m_toBear_46 (en_u1 f 22 (256 * x + tk) (dM (if m = 0 then a else sbF fr (fun m a => tA (tW Λ r x fr m) a) n ((m - 1) &&& fr) (tA (tW Λ r x fr m) a))), g) v1 (nI x) (nI (tk + 1))
      by_cases m0 : m = 0
      · rw [if_pos m0, m0]; exact fin a
      · have hm256 : m < 2 ^ lP Λ := sub_lt hs hfr
        have hand : (m - 1) &&& fr ≤ m - 1 := Nat.and_le_left
        have ha' : ∀ b, tA (tW Λ r x fr m) a = some b → b ≤ 16 := by
          intro b hb
          cases hw : tW Λ r x fr m with
          | none => rw [hw] at hb; exact ha b hb
          | some d =>
            have hd := tW_rg (by omega) hw
            rw [hw] at hb
            cases a with
            | none =>
              have e : d = b := Option.some.inj hb
              omega
            | some b' =>
              have hb' : (if d < b' then some d else some b') = some b := hb
              by_cases q : d < b'
              · rw [if_pos q] at hb'
                have e : d = b := Option.some.inj hb'
                omega
              · rw [if_neg q] at hb'
                exact ha b hb'
        rw [if_neg m0, ← ih _ _ (by omega) (sb_sub hs m) ha', e_m_toBear_79, if_neg (nI_nle (by omega) (by omega)), show x_m_canBear_0 (f, g) 0 (nI x) (nI m) = _ from m_canBear (b := 0) (f, g) lo (by omega) hL hR hx (by omega), c_I]
        rw [show (1 : Int32) = nI 1 by decide, pk_sub (by omega), fa_and]
        have hor : tk ||| m < 2 ^ lP Λ := Nat.or_lt_two_pow ht hm256
        have hF := m_fewestOf f g lo hL hT (by omega) hor
        rw [an_or, hfe] at hF
        have hbc := mu_bc_le m
        cases hb : sBr Λ r x m
        · rw [if_pos (show tb false = 0 from rfl)]
          have : tW Λ r x fr m = none := by unfold tW; rw [hb]; rfl
          rw [this]; rfl
        · rw [if_neg (by decide), m_bits _ (by omega), c_I, nI_add, fa_or, hF, c_I, m_lesser, c_I]
          have hW : tW Λ r x fr m = (match tF Λ r (lB Λ - (x + 1)) (anN fr m) with | none => none | some c => some (c + mu_bc m)) := by unfold tW; rw [hb]; rfl
          rw [hW]
          cases hq : tF Λ r (lB Λ - (x + 1)) (anN fr m) with
          | none =>
            show x_m_toBear_79 (f, g) v1 (nI x) (nI tk) (nI fr) (if nI (mu_bc m) + nI 99999 ≤ dM a then nI (mu_bc m) + nI 99999 else dM a) (nI ((m - 1) &&& fr)) = x_m_toBear_79 (f, g) v1 (nI x) (nI tk) (nI fr) (dM a) (nI ((m - 1) &&& fr))
            have h1 := bc_pos m0 (by omega)
            rw [nI_add, if_neg]
            cases a with
            | none => exact nI_ge (a := 99999) (b := mu_bc m + 99999) (by omega) (by omega)
            | some b => have := ha b rfl; exact nI_ge (a := b) (b := mu_bc m + 99999) (by omega) (by omega)
          | some c =>
            have hc := dM_lt (anN_lt (n := 8) (by omega)) hq
            show x_m_toBear_79 (f, g) v1 (nI x) (nI tk) (nI fr) (if nI (mu_bc m) + nI c ≤ dM a then nI (mu_bc m) + nI c else dM a) (nI ((m - 1) &&& fr)) = x_m_toBear_79 (f, g) v1 (nI x) (nI tk) (nI fr) (dM (tA (some (c + mu_bc m)) a)) (nI ((m - 1) &&& fr))
            rw [nI_add, Nat.add_comm (mu_bc m) c]
            cases a with
            | none => rw [if_pos (show nI (c + mu_bc m) ≤ dM none from nI_le (by omega) (by omega))]; rfl
            | some b =>
              have hb' := ha b rfl
              show x_m_toBear_79 (f, g) v1 (nI x) (nI tk) (nI fr) (if nI (c + mu_bc m) ≤ nI b then nI (c + mu_bc m) else nI b) _ = x_m_toBear_79 (f, g) v1 (nI x) (nI tk) (nI fr) (dM (if c + mu_bc m < b then some (c + mu_bc m) else some b)) _
              by_cases q : c + mu_bc m < b
              · rw [if_pos (nI_le (by omega) (by omega)), if_pos q]; rfl
              · rw [if_neg q]
                by_cases q2 : c + mu_bc m ≤ b
                · rw [if_pos (nI_le q2 (by omega)), show c + mu_bc m = b by omega]; rfl
                · rw [if_neg (nI_ge (by omega) (by omega))]; rfl
  rw [tF_S r hx]
  exact key 256 fr none (by omega) (anN_self fr) (by intro b h; cases h)
theorem m_bearTable {Λ : mu_Ld} {r : mu_Rw} (f : Nat → Nat → Int32) (g : Nat → Nat → Int64) (lo : lOK Λ) (hL : MLd Λ f) (hR : MRw Λ 0 r f) (v1 : Int32) : ∃ f', x_m_toBear_40 (f, g) v1 (pmI (lB Λ)) = x_m_toBear_40 (f', g) v1 nN ∧ TM Λ r 0 f' ∧ ∀ p, p ≠ 22 → f' p = f p := by
  have l1 := lo.1
  have l2 := lo.2.1
  have p8 := p256 l2
  have h0 : 0 < 2 ^ lP Λ := Nat.pow_pos (by omega)
  have Lf : ∀ f', (∀ p, p ≠ 22 → f' p = f p) → MLd Λ f' ∧ MRw Λ 0 r f' := fun f' h => ⟨MLd_of hL (fun i _ => by rw [h 0 (by omega)]) (fun p _ _ => h p (by omega)), MRw_of hR (fun i _ _ => by rw [h 18 (by omega)]) lo⟩
  have down : ∀ x, x ≤ lB Λ → ∀ f1, TM Λ r x f1 → (∀ p, p ≠ 22 → f1 p = f p) → ∃ f', x_m_toBear_40 (f1, g) v1 (pmI x) = x_m_toBear_40 (f', g) v1 nN ∧ TM Λ r 0 f' ∧ ∀ p, p ≠ 22 → f' p = f p := by
    intro x
    induction x with
    | zero => intro _ f1 h1 h2; exact ⟨f1, rfl, h1, h2⟩
    | succ x ih =>
      intro hx f1 h1 h2
      obtain ⟨f2, e2, j1, j2, j3⟩ := mu_inv (fun (f' : Nat → Nat → Int32) i => x_m_toBear_46 (f', g) v1 (nI x) i) (fun n f' => TM Λ r (x + 1) f' ∧ (∀ k, k < n → f' 22 (256 * x + k) = dM (tF Λ r (lB Λ - x) (anN (2 ^ lP Λ - 1) k))) ∧ ∀ p, p ≠ 22 → f' p = f p) (2 ^ lP Λ) f1 ⟨h1, fun k a => absurd a (Nat.not_lt_zero k), h2⟩ (by
        intro n f2 hn ⟨j1, j2, j3⟩
        obtain ⟨L2, R2⟩ := Lf f2 j3
        have hP : f2 0 4 = nI (lP Λ) := L2.2.1
        refine ⟨en_u1 f2 22 (256 * x + n) (dM (tF Λ r (lB Λ - x) (anN (2 ^ lP Λ - 1) n))), ?_, fun y y1 y2 tk htk => ?_, fun k hk => ?_, fun p hp => by rw [u1_p _ _ _ hp]; exact j3 p hp⟩
        · show x_m_toBear_46 (f2, g) v1 (nI x) (nI n) = _
          rw [e_m_toBear_46]
          simp (disch := omega) only [q_0, q_1, q_2, q_3, q_4, q_5, q_6, q_7, q_8, q_9, q_10, q_11, q_12, q_13, q_14, q_15, q_16, q_17, q_18, q_19, q_20, q_21, q_22, q_23, q_24, q_29, q_30, q_31, q_36, q_42, q_50, q_40, q_48, q_96, q_97, q_99, q_100, q_255, q_256, q_700, q_999, q_1160, q_1400, q_99999, q_m1, hP, q_shl, q_leI, pk_sub, q_m1, q_an]
          rw [if_neg (by omega)]
          exact m_best f2 g lo L2 R2 j1 (by omega) hn v1
        · rw [u1_ne _ _ (by omega)]; exact j1 y y1 y2 tk htk
        · rw [u1_if]
          by_cases c : k = n
          · rw [if_pos (by omega), c]
          · rw [if_neg (by omega)]; exact j2 k (by omega))
      have T2 : TM Λ r x f2 := by
        intro y y1 y2 tk htk
        by_cases c : y = x
        · subst c; exact j2 tk htk
        · exact j1 y (by omega) y2 tk htk
      obtain ⟨L2, R2⟩ := Lf f2 j3
      have hP : f2 0 4 = nI (lP Λ) := L2.2.1
      obtain ⟨f3, e3, t3, g3⟩ := ih (by omega) f2 T2 j3
      refine ⟨f3, ?_, t3, g3⟩
      show x_m_toBear_40 (f1, g) v1 (nI x) = _
      rw [e_m_toBear_40, if_neg (nI_pos (by omega))]
      refine Eq.trans e2 ?_
      show x_m_toBear_46 (f2, g) v1 (nI x) (nI (2 ^ lP Λ)) = _
      rw [e_m_toBear_46, pmI_a]
      simp (disch := omega) only [q_1, q_31, hP, q_shl]
      rw [if_pos (Int32.le_refl _)]
      exact e3
  exact down (lB Λ) (Nat.le_refl _) f (fun y y1 y2 => absurd y1 (by omega)) (fun _ _ => rfl)
