/-! questions of now, second: written by q5.py -/

theorem q_ahead {A : mu_A} {f : Nat → Nat → Int32} (ok : AOK A) (hM : MRel A f) (hC : CRel A f) (v1 v2 : Int32) : Qn f (fun σ => x_b_ahead_0 σ v1 v2) (fun σ => x_m_ahead_0 σ v1 v2) (id) := by
  have lo := ok.1
  have go := ok.2.1
  have ro := ok.2.2.2.1
  have l1 := lo.1
  have l2 := lo.2.1
  have g8 := go.2.1
  have cB := hC.1.1
  have cP := hC.1.2.1
  have cT := hC.2.1.1
  have L := hC.1
  have R := hC.2.2.1
  rcases ok_bad v1 (n := lB (aL A)) (by omega) with bd0 | ⟨x, hx, rfl⟩
  · refine Qn_err ok hM 1 (by omega) ?_ ?_
    · intro g
      show x_b_ahead_0 (f, g) v1 v2 = _
      rw [e_b_ahead_0, c_checkBoxN f g cB bd0, c_Vx]
    · intro f0 f2 g M0 h0 e0
      show x_m_ahead_0 (f2, g) v1 v2 = _
      rw [e_m_ahead_0]
      dsimp only
      rw [← e0, m_isBoxN f0 g h0 M0.1.1 bd0, c_I, if_pos (by decide)]
      rfl
  rcases ok_bad v2 (n := (aG A).1) (by omega) with bd1 | ⟨t, ht, rfl⟩
  · refine Qn_err ok hM 1 (by omega) ?_ ?_
    · intro g
      show x_b_ahead_0 (f, g) (nI x) v2 = _
      rw [e_b_ahead_0, c_checkBoxY f g cB (by omega) hx, c_V, c_checkTownN f g cT bd1, c_Vx]
    · intro f0 f2 g M0 h0 e0
      show x_m_ahead_0 (f2, g) (nI x) v2 = _
      rw [e_m_ahead_0]
      dsimp only
      rw [← e0, m_isBoxY f0 g h0 M0.1.1 (by omega) hx, c_I, if_neg (by decide), m_isTownN f0 g h0 M0.2.1.1 bd1, c_I, if_pos (by decide)]
      rfl
  refine Qn_val ok hM rfl (mu_fd (fun k => decide (lT (aL A) (6 * x + ((rS (aR A) x).toNatClampNeg + k) % lR (aL A) x) = nI t)) (lR (aL A) x) 0) ?_ ?_
  · intro g
    show ∃ f', x_b_ahead_0 (f, g) (nI x) (nI t) = rI _ (f', g) ∧ _
    rw [e_b_ahead_0, c_checkBoxY f g cB (by omega) hx, c_V, c_checkTownY f g cT (by omega) ht, c_V]
    have h6 := lo.2.2.1 x hx
    obtain ⟨s, hs, es⟩ := ro.2.1 x hx
    have hS : f 69 x = rS (aR A) x := R.2.2.1 x hx
    have hR : f 39 x = nI (lR (aL A) x) := L.2.2.2.2.1 x hx
    rw [es, q_clamp (n := s) (by omega)]
    have key := mu_srch (fun (a : Int32) i => x_b_ahead_23 (f, g) (nI x) (nI t) a i) (fun _ => (f, g)) (fun k a => a = nI ((s + k) % lR (aL A) x)) (fun _ => True) (fun k => decide (lT (aL A) (6 * x + (s + k) % lR (aL A) x) = nI t)) (lR (aL A) x) (by
      intro a _
      show x_b_ahead_23 (f, g) (nI x) (nI t) a (nI (lR (aL A) x)) = _
      rw [e_b_ahead_23]
      simp (disch := omega) only [q_0, q_1, q_2, q_3, q_4, q_5, q_6, q_7, q_8, q_9, q_10, q_11, q_12, q_13, q_14, q_15, q_16, q_17, q_18, q_19, q_20, q_21, q_22, q_23, q_24, q_29, q_30, q_31, q_36, q_42, q_50, q_40, q_48, q_96, q_97, q_99, q_100, q_255, q_256, q_700, q_999, q_1160, q_1400, q_99999, q_m1, q_in, q_clamp, if_true, hR]
      rw [if_pos (Int32.le_refl _)]; rfl) (fun _ _ _ => trivial) (by
      intro k a hk ha
      have hm : (s + k) % lR (aL A) x < lR (aL A) x := Nat.mod_lt _ (by omega)
      have e : x_b_ahead_23 (f, g) (nI x) (nI t) a (nI k) = if lT (aL A) (6 * x + (s + k) % lR (aL A) x) = nI t then rI (nI k) (f, g) else x_b_ahead_23 (f, g) (nI x) (nI t) (nI ((s + (k + 1)) % lR (aL A) x)) (nI (k + 1)) := by
        obtain ⟨s', _, e2, e3⟩ := sNx_ok lo hx hm
        rw [ha, e_b_ahead_23, c_townAt (f, g) lo L hx hm, c_I, c_nextPlace (f, g) lo L hx hm, c_I, e2, e3]
        simp (disch := omega) only [q_0, q_1, q_2, q_3, q_4, q_5, q_6, q_7, q_8, q_9, q_10, q_11, q_12, q_13, q_14, q_15, q_16, q_17, q_18, q_19, q_20, q_21, q_22, q_23, q_24, q_29, q_30, q_31, q_36, q_42, q_50, q_40, q_48, q_96, q_97, q_99, q_100, q_255, q_256, q_700, q_999, q_1160, q_1400, q_99999, q_m1, q_in, q_clamp, if_true, hR, q_leI, nI_add]
        rw [if_neg (by omega), Nat.mod_add_mod]
        rfl
      constructor
      · intro hp
        exact ⟨a, by rw [e, if_pos (by simpa using hp)], trivial⟩
      · intro hp
        exact ⟨_, by rw [e, if_neg (by simpa using hp)], rfl⟩) (lR (aL A) x) 0 (nI s) (by omega) (by rw [Nat.add_zero, Nat.mod_eq_of_lt hs])
    obtain ⟨a', e, _⟩ := key
    refine ⟨f, ?_, QC_refl f⟩
    simp (disch := omega) only [q_in, q_clamp, if_true, hS, es]
    exact e
  · intro f0 f2 g M0 h0 e0
    have ML := M0.1
    have MR := M0.2.2.1
    show ∃ f3, x_m_ahead_0 (f2, g) (nI x) (nI t) = rI _ (f3, g) ∧ _
    rw [e_m_ahead_0]
    dsimp only
    rw [← e0, m_isBoxY f0 g h0 M0.1.1 (by omega) hx, c_I, if_neg (by decide), m_isTownY f0 g h0 M0.2.1.1 (by omega) ht, c_I, if_neg (by decide)]
    have h6 := lo.2.2.1 x hx
    obtain ⟨s, hs, es⟩ := ro.2.1 x hx
    have hS : f0 18 (0 + 7 + x) = rS (aR A) x := MR.2.2.1 x hx
    rw [Nat.zero_add, es] at hS
    have hR : f0 3 x = nI (lR (aL A) x) := ML.2.2.2.2.1 x hx
    rw [es, q_clamp (n := s) (by omega)]
    have key := mu_srch (fun (_ : Unit) i => x_m_ahead_25 (f0, g) (nI x) (nI t) i) (fun _ => (f0, g)) (fun k a => True) (fun _ => True) (fun k => decide (lT (aL A) (6 * x + (s + k) % lR (aL A) x) = nI t)) (lR (aL A) x) (by
      intro a _
      show x_m_ahead_25 (f0, g) (nI x) (nI t) (nI (lR (aL A) x)) = _
      rw [e_m_ahead_25]
      simp (disch := omega) only [q_0, q_1, q_2, q_3, q_4, q_5, q_6, q_7, q_8, q_9, q_10, q_11, q_12, q_13, q_14, q_15, q_16, q_17, q_18, q_19, q_20, q_21, q_22, q_23, q_24, q_29, q_30, q_31, q_36, q_42, q_50, q_40, q_48, q_96, q_97, q_99, q_100, q_255, q_256, q_700, q_999, q_1160, q_1400, q_99999, q_m1, q_in, q_clamp, if_true, hR]
      rw [if_pos (Int32.le_refl _)]; rfl) (fun _ _ _ => trivial) (by
      intro k a hk ha
      have hm : (s + k) % lR (aL A) x < lR (aL A) x := Nat.mod_lt _ (by omega)
      have hT := ML.2.2.2.2.2.1 x hx _ hm
      have e : x_m_ahead_25 (f0, g) (nI x) (nI t) (nI k) = if lT (aL A) (6 * x + (s + k) % lR (aL A) x) = nI t then rI (nI k) (f0, g) else x_m_ahead_25 (f0, g) (nI x) (nI t) (nI (k + 1)) := by
        rw [e_m_ahead_25]
        simp (disch := omega) only [q_0, q_1, q_2, q_3, q_4, q_5, q_6, q_7, q_8, q_9, q_10, q_11, q_12, q_13, q_14, q_15, q_16, q_17, q_18, q_19, q_20, q_21, q_22, q_23, q_24, q_29, q_30, q_31, q_36, q_42, q_50, q_40, q_48, q_96, q_97, q_99, q_100, q_255, q_256, q_700, q_999, q_1160, q_1400, q_99999, q_m1, q_in, q_clamp, if_true, hR, q_leI, nI_add, hS, q_eqI, pk_rem, pk_mul, hT]
        rw [if_neg (by omega), if_neg (by omega)]
        rfl
      constructor
      · intro hp
        exact ⟨a, by rw [e, if_pos (by simpa using hp)], trivial⟩
      · intro hp
        exact ⟨a, by rw [e, if_neg (by simpa using hp)], trivial⟩) (lR (aL A) x) 0 () (by omega) trivial
    obtain ⟨a', e, _⟩ := key
    exact ⟨f0, e, h0, QM_refl f0⟩

theorem q_onRoutes {A : mu_A} {f : Nat → Nat → Int32} (ok : AOK A) (hM : MRel A f) (hC : CRel A f) (v1 : Int32) : Qn f (fun σ => x_b_onRoutes_0 σ v1) (fun σ => x_m_onRoutes_0 σ v1) (id) := by
  have lo := ok.1
  have go := ok.2.1
  have ro := ok.2.2.2.1
  have l1 := lo.1
  have l2 := lo.2.1
  have g8 := go.2.1
  have cB := hC.1.1
  have cP := hC.1.2.1
  have cT := hC.2.1.1
  have L := hC.1
  have R := hC.2.2.1
  rcases ok_bad v1 (n := (aG A).1) (by omega) with bd0 | ⟨t, ht, rfl⟩
  · refine Qn_err ok hM 1 (by omega) ?_ ?_
    · intro g
      show x_b_onRoutes_0 (f, g) v1 = _
      rw [e_b_onRoutes_0, c_checkTownN f g cT bd0, c_Vx]
    · intro f0 f2 g M0 h0 e0
      show x_m_onRoutes_0 (f2, g) v1 = _
      rw [e_m_onRoutes_0]
      dsimp only
      rw [← e0, m_isTownN f0 g h0 M0.2.1.1 bd0, c_I, if_pos (by decide)]
      rfl
  refine Qn_val ok hM rfl (nI (mu_up (fun x a => mu_up (fun k a => if lT (aL A) (6 * x + k) = nI t then a ||| 2 ^ x else a) a (lR (aL A) x)) 0 (lB (aL A)))) ?_ ?_
  · intro g
    show ∃ f', x_b_onRoutes_0 (f, g) (nI t) = rI _ (f', g) ∧ _
    rw [e_b_onRoutes_0, c_checkTownY f g cT (by omega) ht, c_V]
    refine ⟨f, ?_, QC_refl f⟩
    have h := mu_loop (fun (a : Nat) i => x_b_onRoutes_9 (f, g) (nI t) (nI a) i) (fun p => mu_up (fun x a => mu_up (fun k a => if lT (aL A) (6 * x + k) = nI t then a ||| 2 ^ x else a) a (lR (aL A) x)) 0 p) (lB (aL A)) (by
      intro x hx
      have h6 := lo.2.2.1 x hx
      have hR : f 39 x = nI (lR (aL A) x) := L.2.2.2.2.1 x hx
      simp only [mu_upS]
      generalize mu_up (fun x a => mu_up (fun k a => if lT (aL A) (6 * x + k) = nI t then a ||| 2 ^ x else a) a (lR (aL A) x)) 0 x = a0
      have h := mu_loop (fun (a : Nat) i => x_b_onRoutes_23 (f, g) (nI t) (nI a) (nI x) i) (fun k => mu_up (fun k a => if lT (aL A) (6 * x + k) = nI t then a ||| 2 ^ x else a) a0 k) (lR (aL A) x) (by
        intro k hk
        show x_b_onRoutes_23 (f, g) (nI t) (nI _) (nI x) (nI k) = x_b_onRoutes_23 (f, g) (nI t) (nI _) (nI x) (nI (k + 1))
        rw [e_b_onRoutes_23, c_townAt (f, g) lo L hx hk, c_I]
        simp (disch := omega) only [q_0, q_1, q_2, q_3, q_4, q_5, q_6, q_7, q_8, q_9, q_10, q_11, q_12, q_13, q_14, q_15, q_16, q_17, q_18, q_19, q_20, q_21, q_22, q_23, q_24, q_29, q_30, q_31, q_36, q_42, q_50, q_40, q_48, q_96, q_97, q_99, q_100, q_255, q_256, q_700, q_999, q_1160, q_1400, q_99999, q_m1, q_in, q_clamp, if_true, hR, q_leI, nI_add, q_shl, fa_or, mu_upS]
        rw [if_neg (by omega)]
        by_cases c : lT (aL A) (6 * x + k) = nI t
        · rw [if_pos c, if_pos c]
        · rw [if_neg c, if_neg c])
      rw [e_b_onRoutes_9, if_neg (by show ¬ f 34 5 ≤ nI x; rw [cB]; exact nI_ge hx (by omega))]
      refine Eq.trans h ?_
      show x_b_onRoutes_23 (f, g) (nI t) (nI _) (nI x) (nI (lR (aL A) x)) = _
      rw [e_b_onRoutes_23]
      simp (disch := omega) only [q_0, q_1, q_2, q_3, q_4, q_5, q_6, q_7, q_8, q_9, q_10, q_11, q_12, q_13, q_14, q_15, q_16, q_17, q_18, q_19, q_20, q_21, q_22, q_23, q_24, q_29, q_30, q_31, q_36, q_42, q_50, q_40, q_48, q_96, q_97, q_99, q_100, q_255, q_256, q_700, q_999, q_1160, q_1400, q_99999, q_m1, q_in, q_clamp, if_true, hR, nI_add]
      rw [if_pos (Int32.le_refl _)])
    refine Eq.trans h ?_
    show x_b_onRoutes_9 (f, g) (nI t) (nI _) (nI (lB (aL A))) = _
    rw [e_b_onRoutes_9, if_pos (q_le cB)]; rfl
  · intro f0 f2 g M0 h0 e0
    have ML := M0.1
    have MR := M0.2.2.1
    show ∃ f3, x_m_onRoutes_0 (f2, g) (nI t) = rI _ (f3, g) ∧ _
    rw [e_m_onRoutes_0]
    dsimp only
    rw [← e0, m_isTownY f0 g h0 M0.2.1.1 (by omega) ht, c_I, if_neg (by decide)]
    refine ⟨f0, ?_, h0, QM_refl f0⟩
    have hB : f0 0 3 = nI (lB (aL A)) := ML.1
    have h := mu_loop (fun (a : Nat) i => x_m_onRoutes_19 (f0, g) (nI t) (nI a) i) (fun p => mu_up (fun x a => mu_up (fun k a => if lT (aL A) (6 * x + k) = nI t then a ||| 2 ^ x else a) a (lR (aL A) x)) 0 p) (lB (aL A)) (by
      intro x hx
      have h6 := lo.2.2.1 x hx
      have hR : f0 3 x = nI (lR (aL A) x) := ML.2.2.2.2.1 x hx
      simp only [mu_upS]
      generalize mu_up (fun x a => mu_up (fun k a => if lT (aL A) (6 * x + k) = nI t then a ||| 2 ^ x else a) a (lR (aL A) x)) 0 x = a0
      have h := mu_loop (fun (a : Nat) i => x_m_onRoutes_30 (f0, g) (nI t) (nI a) (nI x) i) (fun k => mu_up (fun k a => if lT (aL A) (6 * x + k) = nI t then a ||| 2 ^ x else a) a0 k) (lR (aL A) x) (by
        intro k hk
        have hT := ML.2.2.2.2.2.1 x hx k hk
        show x_m_onRoutes_30 (f0, g) (nI t) (nI _) (nI x) (nI k) = x_m_onRoutes_30 (f0, g) (nI t) (nI _) (nI x) (nI (k + 1))
        rw [e_m_onRoutes_30]
        simp (disch := omega) only [q_0, q_1, q_2, q_3, q_4, q_5, q_6, q_7, q_8, q_9, q_10, q_11, q_12, q_13, q_14, q_15, q_16, q_17, q_18, q_19, q_20, q_21, q_22, q_23, q_24, q_29, q_30, q_31, q_36, q_42, q_50, q_40, q_48, q_96, q_97, q_99, q_100, q_255, q_256, q_700, q_999, q_1160, q_1400, q_99999, q_m1, q_in, q_clamp, if_true, hR, q_leI, nI_add, pk_mul, hT, q_shl, fa_or, Nat.or_zero, mu_upS]
        rw [if_neg (by omega)]
        by_cases c : lT (aL A) (6 * x + k) = nI t
        · rw [if_pos c, if_pos c]
        · rw [if_neg c, if_neg c])
      rw [e_m_onRoutes_19, if_neg (by show ¬ f0 0 3 ≤ nI x; rw [hB]; exact nI_ge hx (by omega))]
      refine Eq.trans h ?_
      show x_m_onRoutes_30 (f0, g) (nI t) (nI _) (nI x) (nI (lR (aL A) x)) = _
      rw [e_m_onRoutes_30]
      simp (disch := omega) only [q_0, q_1, q_2, q_3, q_4, q_5, q_6, q_7, q_8, q_9, q_10, q_11, q_12, q_13, q_14, q_15, q_16, q_17, q_18, q_19, q_20, q_21, q_22, q_23, q_24, q_29, q_30, q_31, q_36, q_42, q_50, q_40, q_48, q_96, q_97, q_99, q_100, q_255, q_256, q_700, q_999, q_1160, q_1400, q_99999, q_m1, q_in, q_clamp, if_true, hR, nI_add]
      rw [if_pos (Int32.le_refl _)])
    refine Eq.trans h ?_
    show x_m_onRoutes_19 (f0, g) (nI t) (nI _) (nI (lB (aL A))) = _
    rw [e_m_onRoutes_19, if_pos (q_le hB)]; rfl

theorem sLn_nat {Λ : mu_Ld} (lo : lOK Λ) {m : Nat} (hm : m < 2 ^ lP Λ) : ∃ l, l ≤ 9 ∧ sLn Λ m = nI l := by
  obtain ⟨a, b, ea, eb, ha, hb, hab⟩ := sTl_sSt lo m (lP Λ) (Nat.le_refl _)
  rw [← sLn_max lo hm, ea, eb]
  by_cases c : b ≤ a
  · rw [pk_sub c]
    split
    · exact ⟨a - b, by omega, rfl⟩
    · exact ⟨0, by omega, rfl⟩
  · rw [if_neg (by rw [Int32.not_lt]; exact Int32.le_of_lt (pk_sneg (by omega) (by omega)))]
    exact ⟨0, by omega, rfl⟩
def cW (Λ : mu_Ld) (m : Nat) : Int32 := sLn Λ m * nI 10 + nI (mu_bc m)
def cQ (Λ : mu_Ld) (r : mu_Rw) (x n : Nat) : Int32 × Int32 := mu_up (fun k q => if k = 0 then q else if sBr Λ r x k = true ∧ (q.1 = nN ∨ cW Λ k < q.2) then (nI k, cW Λ k) else q) (nN, nN) n
theorem cQ_c (Λ : mu_Ld) (r : mu_Rw) (x : Nat) : ∀ n, cQ Λ r x n = (nN, nN) ∨ ∃ b, 0 < b ∧ b < n ∧ cQ Λ r x n = (nI b, cW Λ b) := by
  intro n
  induction n with
  | zero => exact Or.inl rfl
  | succ n ih =>
    have e : cQ Λ r x (n + 1) = if n = 0 then cQ Λ r x n else if sBr Λ r x n = true ∧ ((cQ Λ r x n).1 = nN ∨ cW Λ n < (cQ Λ r x n).2) then (nI n, cW Λ n) else cQ Λ r x n := rfl
    have old : cQ Λ r x n = (nN, nN) ∨ ∃ b, 0 < b ∧ b < n + 1 ∧ cQ Λ r x n = (nI b, cW Λ b) := by
      rcases ih with i | ⟨b, h1, h2, i⟩
      · exact Or.inl i
      · exact Or.inr ⟨b, h1, by omega, i⟩
    rw [e]
    by_cases c : n = 0
    · rw [if_pos c]; exact old
    · rw [if_neg c]
      split
      · exact Or.inr ⟨n, by omega, by omega, rfl⟩
      · exact old
theorem p256 {n : Nat} (h : n ≤ 8) : 2 ^ n ≤ 256 := show 2 ^ n ≤ 2 ^ 8 from Nat.pow_le_pow_right (by omega) h

theorem q_crew {A : mu_A} {f : Nat → Nat → Int32} (ok : AOK A) (hM : MRel A f) (hC : CRel A f) (v1 : Int32) : Qn f (fun σ => x_b_crew_0 σ v1) (fun σ => x_m_crew_0 σ v1) (id) := by
  have lo := ok.1
  have go := ok.2.1
  have ro := ok.2.2.2.1
  have l1 := lo.1
  have l2 := lo.2.1
  have g8 := go.2.1
  have cB := hC.1.1
  have cP := hC.1.2.1
  have cT := hC.2.1.1
  have L := hC.1
  have R := hC.2.2.1
  rcases ok_bad v1 (n := lB (aL A)) (by omega) with bd0 | ⟨x, hx, rfl⟩
  · refine Qn_err ok hM 1 (by omega) ?_ ?_
    · intro g
      show x_b_crew_0 (f, g) v1 = _
      rw [e_b_crew_0, c_checkBoxN f g cB bd0, c_Vx]
    · intro f0 f2 g M0 h0 e0
      show x_m_crew_0 (f2, g) v1 = _
      rw [e_m_crew_0]
      dsimp only
      rw [← e0, m_isBoxN f0 g h0 M0.1.1 bd0, c_I, if_pos (by decide)]
      rfl
  refine Qn_val ok hM rfl ((cQ (aL A) (aR A) x (2 ^ lP (aL A))).1) ?_ ?_
  · intro g
    show ∃ f', x_b_crew_0 (f, g) (nI x) = rI _ (f', g) ∧ _
    rw [e_b_crew_0, c_checkBoxY f g cB (by omega) hx, c_V]
    refine ⟨f, ?_, QC_refl f⟩
    have hp := p256 l2
    have hp0 : 0 < 2 ^ lP (aL A) := Nat.pow_pos (by omega)
    obtain ⟨a, e, ha⟩ := mu_invF (fun (a : Int32 × Int32) i => x_st_bestCrew_p67_7 (f, g) (nI x) a.1 a.2 i) (fun k a => a = cQ (aL A) (aR A) x k) 1 (2 ^ lP (aL A)) (by omega) (nN, nN) rfl (by
      intro k a k1 hk ha
      refine ⟨cQ (aL A) (aR A) x (k + 1), ?_, rfl⟩
      have eS : cQ (aL A) (aR A) x (k + 1) = if k = 0 then cQ (aL A) (aR A) x k else if sBr (aL A) (aR A) x k = true ∧ ((cQ (aL A) (aR A) x k).1 = nN ∨ cW (aL A) k < (cQ (aL A) (aR A) x k).2) then (nI k, cW (aL A) k) else cQ (aL A) (aR A) x k := rfl
      rw [ha, eS, if_neg (by omega)]
      generalize cQ (aL A) (aR A) x k = q
      show x_st_bestCrew_p67_7 (f, g) (nI x) q.1 q.2 (nI k) = _
      rw [e_st_bestCrew_p67_7, c_leanOf (f, g) lo L hk, c_I, c_bitCount (f, g) (by omega), c_I]
      simp (disch := omega) only [q_0, q_1, q_2, q_3, q_4, q_5, q_6, q_7, q_8, q_9, q_10, q_11, q_12, q_13, q_14, q_15, q_16, q_17, q_18, q_19, q_20, q_21, q_22, q_23, q_24, q_29, q_30, q_31, q_36, q_42, q_50, q_40, q_48, q_96, q_97, q_99, q_100, q_255, q_256, q_700, q_999, q_1160, q_1400, q_99999, q_m1, cP, q_shl, q_leI, nI_add, c_isBorneBy_67 (f, g) lo L R hx (m := k) (by omega), c_I, tb_0, q_m1]
      rw [if_neg (by omega)]
      rw [show sLn (aL A) k * nI 10 + nI (mu_bc k) = cW (aL A) k from rfl]
      by_cases c1 : q.1 = nN
      · rw [if_pos c1]
        cases hb : sBr (aL A) (aR A) x k
        · rw [if_pos rfl, if_neg (by rintro ⟨h, _⟩; cases h)]
        · rw [if_neg (by decide), if_pos ⟨rfl, Or.inl c1⟩]
      · rw [if_neg c1]
        by_cases c2 : cW (aL A) k < q.2
        · rw [if_neg (by rw [Int32.not_le]; exact c2)]
          cases hb : sBr (aL A) (aR A) x k
          · rw [if_pos rfl, if_neg (by rintro ⟨h, _⟩; cases h)]
          · rw [if_neg (by decide), if_pos ⟨rfl, Or.inr c2⟩]
        · rw [if_pos (by rw [Int32.not_lt] at c2; exact c2), if_neg (by rintro ⟨_, h | h⟩; exact c1 h; exact c2 h)])
    rw [show x_st_bestCrew_p67_0 (f, g) (nI x) = _ from (e_st_bestCrew_p67_0 (f, g) (nI x)).trans e, ha, e_st_bestCrew_p67_7]
    simp (disch := omega) only [q_0, q_1, q_2, q_3, q_4, q_5, q_6, q_7, q_8, q_9, q_10, q_11, q_12, q_13, q_14, q_15, q_16, q_17, q_18, q_19, q_20, q_21, q_22, q_23, q_24, q_29, q_30, q_31, q_36, q_42, q_50, q_40, q_48, q_96, q_97, q_99, q_100, q_255, q_256, q_700, q_999, q_1160, q_1400, q_99999, q_m1, cP, q_shl]
    rw [if_pos (Int32.le_refl _)]; rfl
  · intro f0 f2 g M0 h0 e0
    have ML := M0.1
    have MR := M0.2.2.1
    show ∃ f3, x_m_crew_0 (f2, g) (nI x) = rI _ (f3, g) ∧ _
    rw [e_m_crew_0]
    dsimp only
    rw [← e0, m_isBoxY f0 g h0 M0.1.1 (by omega) hx, c_I, if_neg (by decide)]
    refine ⟨f0, ?_, h0, QM_refl f0⟩
    have hP : f0 0 4 = nI (lP (aL A)) := ML.2.1
    have hp := p256 l2
    have hp0 : 0 < 2 ^ lP (aL A) := Nat.pow_pos (by omega)
    obtain ⟨a, e, ha⟩ := mu_invF (fun (a : Int32) i => x_m_crew_19 (f0, g) (nI x) a i) (fun k a => a = (cQ (aL A) (aR A) x k).1) 1 (2 ^ lP (aL A)) (by omega) nN rfl (by
      intro k a k1 hk ha
      refine ⟨(cQ (aL A) (aR A) x (k + 1)).1, ?_, rfl⟩
      have eS : cQ (aL A) (aR A) x (k + 1) = if k = 0 then cQ (aL A) (aR A) x k else if sBr (aL A) (aR A) x k = true ∧ ((cQ (aL A) (aR A) x k).1 = nN ∨ cW (aL A) k < (cQ (aL A) (aR A) x k).2) then (nI k, cW (aL A) k) else cQ (aL A) (aR A) x k := rfl
      rw [ha, eS, if_neg (by omega)]
      show x_m_crew_19 (f0, g) (nI x) (cQ (aL A) (aR A) x k).1 (nI k) = _
      rw [e_m_crew_19, show x_m_canBear_0 (f0, g) 0 (nI x) (nI k) = _ from m_canBear (b := 0) (f0, g) lo (by omega) ML MR hx (by omega), c_I]
      simp (disch := omega) only [q_0, q_1, q_2, q_3, q_4, q_5, q_6, q_7, q_8, q_9, q_10, q_11, q_12, q_13, q_14, q_15, q_16, q_17, q_18, q_19, q_20, q_21, q_22, q_23, q_24, q_29, q_30, q_31, q_36, q_42, q_50, q_40, q_48, q_96, q_97, q_99, q_100, q_255, q_256, q_700, q_999, q_1160, q_1400, q_99999, q_m1, hP, q_shl, q_leI, nI_add, tb_0, q_m1]
      rw [if_neg (by omega)]
      cases hb : sBr (aL A) (aR A) x k
      · rw [if_pos rfl, if_neg (by rintro ⟨h, _⟩; cases h)]
      · rw [if_neg (by decide)]
        rcases cQ_c (aL A) (aR A) x k with i | ⟨b, b1, b2, i⟩
        · rw [i, if_pos rfl, if_pos ⟨rfl, Or.inl rfl⟩]
        · rw [i, if_neg (by rw [q_nNe (by omega)]; exact id)]
          obtain ⟨lk, hlk, elk⟩ := sLn_nat lo hk
          obtain ⟨lb, hlb, elb⟩ := sLn_nat lo (m := b) (Nat.lt_trans b2 hk)
          have k8 := mu_bc_le k
          have b8 := mu_bc_le b
          simp only [m_leanBy (f0, g) lo ML hk, m_leanBy (f0, g) lo ML (Nat.lt_trans b2 hk), c_I, m_bits (f0, g) (show k < 2147483648 by omega), m_bits (f0, g) (show b < 2147483648 by omega), elk, elb]
          have ek : cW (aL A) k = nI (lk * 10 + mu_bc k) := by unfold cW; rw [elk, pk_mul, nI_add]
          have eb : cW (aL A) b = nI (lb * 10 + mu_bc b) := by unfold cW; rw [elb, pk_mul, nI_add]
          simp (disch := omega) only [q_ltI, q_eqI, q_leI, q_nNe, ek, eb, true_and, false_or]
          by_cases c1 : lk < lb
          · rw [if_pos c1, if_pos (by omega)]
          · rw [if_neg c1]
            by_cases c2 : lk = lb
            · rw [if_pos c2]
              by_cases c3 : mu_bc b ≤ mu_bc k
              · rw [if_pos c3, if_neg (by omega)]
              · rw [if_neg c3, if_pos (by omega)]
            · rw [if_neg c2, if_neg (by omega)])
    refine Eq.trans e ?_
    show x_m_crew_19 (f0, g) (nI x) a (nI (2 ^ lP (aL A))) = _
    rw [ha, e_m_crew_19]
    simp (disch := omega) only [q_0, q_1, q_2, q_3, q_4, q_5, q_6, q_7, q_8, q_9, q_10, q_11, q_12, q_13, q_14, q_15, q_16, q_17, q_18, q_19, q_20, q_21, q_22, q_23, q_24, q_29, q_30, q_31, q_36, q_42, q_50, q_40, q_48, q_96, q_97, q_99, q_100, q_255, q_256, q_700, q_999, q_1160, q_1400, q_99999, q_m1, hP, q_shl]
    rw [if_pos (Int32.le_refl _)]; rfl
