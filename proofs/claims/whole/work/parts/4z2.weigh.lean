/-! weighed -/
noncomputable def gI (A : mu_A) (i : Nat) : Bool := gB A (i / 99) (i % 99 + 1)
noncomputable def cFw (A : mu_A) (i : Nat) : Nat := gS A (i / 99) + gC A (i / 99) (i % 99)
theorem cFw_S (A : mu_A) (i : Nat) : cFw A (i + 1) = cFw A i + (gI A i).toNat := by
  unfold cFw gI
  by_cases c : i % 99 = 98
  · rw [show (i + 1) / 99 = i / 99 + 1 by omega, show (i + 1) % 99 = 0 by omega, c]
    show gS A (i / 99) + gC A (i / 99) 99 + 0 = gS A (i / 99) + gC A (i / 99) 98 + (gB A (i / 99) (98 + 1)).toNat
    have : gC A (i / 99) 99 = gC A (i / 99) 98 + (gB A (i / 99) (98 + 1)).toNat := rfl
    rw [this]; omega
  · rw [show (i + 1) / 99 = i / 99 by omega, show (i + 1) % 99 = i % 99 + 1 by omega]
    have : gC A (i / 99) (i % 99 + 1) = gC A (i / 99) (i % 99) + (gB A (i / 99) (i % 99 + 1)).toNat := rfl
    rw [this]; omega
theorem cFw_end (A : mu_A) (n : Nat) : cFw A (99 * n) = gS A n := by
  unfold cFw
  rw [show 99 * n / 99 = n by omega, show 99 * n % 99 = 0 by omega]
  rfl
theorem bool_le (b : Bool) : b.toNat ≤ 1 := by cases b <;> decide
theorem cFw_le (A : mu_A) : ∀ i, cFw A i ≤ i := by
  intro i
  induction i with
  | zero => exact Nat.le_refl 0
  | succ i ih =>
    rw [cFw_S]
    have := bool_le (gI A i)
    omega
noncomputable def bFw (A : mu_A) : Nat → Nat → Int32
  | 0, _ => nN
  | n + 1, i => if gI A i = true then nI (100 * (i / 99) + (i % 99 + 1)) else bFw A n (i + 1)
theorem m_w45 {A : mu_A} (f0 : Nat → Nat → Int32) (g : Nat → Nat → Int64) (ok : AOK A) (hM : MRel A f0) (v1 : Int32) : ∀ n i f v3, i + n = 99 * lB (aL A) → QM f0 f → f 0 0 = nI 0 → (v3 = nN ∨ ∃ z, z < 1000 ∧ v3 = nI z) → ∃ f', x_m_weighed_45 (f, g) v1 (nI (cFw A i)) v3 (nI i) = rI (if v1 = 0 then nI (gS A (lB (aL A))) else if v3 = nN then bFw A n i else v3) (f', g) ∧ QM f0 f' ∧ f' 0 0 = nI 0 := by
  have lo := ok.1
  have l1 := lo.1
  have h99 : ∀ f, QM f0 f → (99 : Int32) * f 0 3 = nI (99 * lB (aL A)) := fun f q => by
    have : f 0 3 = nI (lB (aL A)) := (MRel_Q ok hM q).1.1
    rw [this, q_99, pk_mul]
  intro n
  induction n with
  | zero =>
    intro i f v3 hi q z hv
    refine ⟨f, ?_, q, z⟩
    have hi' : i = 99 * lB (aL A) := by omega
    rw [e_m_weighed_45, if_pos (show (99 : Int32) * f 0 3 ≤ nI i by rw [h99 f q, hi']; exact Int32.le_refl _), hi', cFw_end]
    by_cases c : v1 = 0
    · rw [if_pos c, if_pos c]; rfl
    · rw [if_neg c, if_neg c]
      by_cases d : v3 = nN
      · rw [if_pos d, d]; rfl
      · rw [if_neg d]; rfl
  | succ n ih =>
    intro i f v3 hi q z hv
    have M := MRel_Q ok hM q
    obtain ⟨f1, e1, _, q1, z1⟩ := m_isGuess f g ok M (i := i) (by omega)
    have q2 := QM_trans q q1
    have cs := cFw_S A i
    have e1' : x_m_isGuess_0 (f, g) (nI i) = rI (tb (gI A i)) (f1, g) := e1
    rw [e_m_weighed_45, if_neg (show ¬ (99 : Int32) * f 0 3 ≤ nI i by rw [h99 f q]; exact nI_ge (by omega) (by omega)), e1', c_I]
    cases hg : gI A i with
    | false =>
      rw [hg] at cs
      have cs' : cFw A (i + 1) = cFw A i := cs
      obtain ⟨f2, e2, q3, z3⟩ := ih (i + 1) f1 v3 (by omega) q2 (by rw [z1]; exact z) hv
      refine ⟨f2, ?_, q3, z3⟩
      have bs : bFw A (n + 1) i = bFw A n (i + 1) := by rw [bFw, if_neg (by rw [hg]; decide)]
      rw [if_pos (show tb false = 0 from rfl), nI_1, ← cs', e2, bs]
    | true =>
      rw [hg] at cs
      have cs' : cFw A (i + 1) = cFw A i + 1 := cs
      rw [if_neg (by decide)]
      by_cases d : v3 = nN
      · have dv : nI i / nI 99 = nI (i / 99) := pk_div (by omega) (by omega) (by omega)
        have rm : nI i - nI (i / 99 * 99) = nI (i % 99) := by rw [← pk_mul, ← dv, pk_rem (by omega) (by omega) (by omega)]
        obtain ⟨f2, e2, q3, z3⟩ := ih (i + 1) f1 (nI (i / 99 * 100 + i % 99 + 1)) (by omega) q2 (by rw [z1]; exact z) (Or.inr ⟨_, by omega, rfl⟩)
        refine ⟨f2, ?_, q3, z3⟩
        rw [if_pos (show v3 = -1 from d), if_pos d, bFw, if_pos hg]
        simp only [q_99, q_100, q_1, dv, pk_mul, rm, nI_add]
        rw [← cs', e2]
        have hne : ¬ nI (i / 99 * 100 + i % 99 + 1) = nN := by rw [q_nNe (by omega)]; exact id
        rw [if_neg hne, show i / 99 * 100 + i % 99 + 1 = 100 * (i / 99) + (i % 99 + 1) by omega]
      · obtain ⟨f2, e2, q3, z3⟩ := ih (i + 1) f1 v3 (by omega) q2 (by rw [z1]; exact z) hv
        refine ⟨f2, ?_, q3, z3⟩
        rw [if_neg (show ¬ v3 = -1 from d), nI_1, nI_1, ← cs', e2, if_neg d, if_neg d]
theorem c_first {A : mu_A} (f : Nat → Nat → Int32) (g : Nat → Nat → Int64) (ok : AOK A) (hB : f 34 5 = nI (lB (aL A))) (t : TA A (lB (aL A)) f) : x_sc_firstOne_0 (f, g) = rI (bFw A (99 * lB (aL A)) 0) (f, g) := by
  have l1 := ok.1.1
  have key : ∀ n i, i + (n + 1) = 99 * lB (aL A) → x_sc_firstOne_18 (f, g) (nI (i / 99)) (nI (i % 99 + 1)) = rI (bFw A (n + 1) i) (f, g) := by
    intro n
    induction n with
    | zero =>
      intro i hi
      have h101 := t.1 (i / 99) (by omega) (i % 99 + 1) (by omega) (by omega)
      have hb : f 101 (i / 99 * 100 + (i % 99 + 1)) = tb (gI A i) := h101
      rw [e_sc_firstOne_18, if_neg (show ¬ (99 : Int32) < nI (i % 99 + 1) by rw [q_99]; exact nI_nlt (by omega) (by omega))]
      simp (disch := omega) only [q_100, q_1, pk_mul, nI_add, q_in, q_clamp, if_true, hb, tb_1]
      rw [bFw]
      cases hg : gI A i with
      | true => rw [if_pos rfl, if_pos rfl]; rfl
      | false =>
        rw [if_neg (by decide), if_neg (by decide), e_sc_firstOne_18, if_pos (show (99 : Int32) < nI (i % 99 + 1 + 1) by rw [q_99]; exact nI_lt (by omega) (by omega)), nI_1, e_sc_firstOne_2, if_pos (show f 34 5 ≤ nI (i / 99 + 1) by rw [hB]; exact nI_le (by omega) (by omega))]
        rfl
    | succ n ih =>
      intro i hi
      have h101 := t.1 (i / 99) (by omega) (i % 99 + 1) (by omega) (by omega)
      have hb : f 101 (i / 99 * 100 + (i % 99 + 1)) = tb (gI A i) := h101
      rw [e_sc_firstOne_18, if_neg (show ¬ (99 : Int32) < nI (i % 99 + 1) by rw [q_99]; exact nI_nlt (by omega) (by omega))]
      simp (disch := omega) only [q_100, q_1, pk_mul, nI_add, q_in, q_clamp, if_true, hb, tb_1]
      rw [bFw]
      cases hg : gI A i with
      | true => rw [if_pos rfl, if_pos rfl]; rfl
      | false =>
        rw [if_neg (by decide), if_neg (by decide), ← ih (i + 1) (by omega)]
        by_cases c : i % 99 = 98
        · rw [show (i + 1) / 99 = i / 99 + 1 by omega, show (i + 1) % 99 = 0 by omega, e_sc_firstOne_18, if_pos (show (99 : Int32) < nI (i % 99 + 1 + 1) by rw [q_99]; exact nI_lt (by omega) (by omega)), nI_1, e_sc_firstOne_2, if_neg (show ¬ f 34 5 ≤ nI (i / 99 + 1) by rw [hB]; exact nI_ge (by omega) (by omega))]
          rfl
        · rw [show (i + 1) / 99 = i / 99 by omega, show (i + 1) % 99 = i % 99 + 1 by omega]
  rw [e_sc_firstOne_0, e_sc_firstOne_2]
  by_cases z : lB (aL A) = 0
  · rw [if_pos (show f 34 5 ≤ 0 by rw [hB, z]; exact Int32.le_refl _), z]
    rfl
  · rw [if_neg (show ¬ f 34 5 ≤ 0 by rw [hB]; exact nI_nle (by omega) (by omega))]
    have := key (99 * lB (aL A) - 1) 0 (by omega)
    rw [show 99 * lB (aL A) - 1 + 1 = 99 * lB (aL A) by omega] at this
    exact this
noncomputable def allB (A : mu_A) : Bool := @decide (∀ y, y < lB (aL A) → agW A y (wN A y)) (Classical.propDecidable _)
theorem allB_iff (A : mu_A) : allB A = true ↔ ∀ y, y < lB (aL A) → agW A y (wN A y) := by
  unfold allB
  exact @decide_eq_true_iff _ (Classical.propDecidable _)
theorem q_weighed {A : mu_A} {f : Nat → Nat → Int32} (ok : AOK A) (hM : MRel A f) (hC : CRel A f) (v1 : Int32) : Qn f (fun σ => x_b_weighed_0 σ v1) (fun σ => x_m_weighed_0 σ v1) id := by
  have lo := ok.1
  have l1 := lo.1
  rcases ok_badR v1 (a := 0) (b := 2) (by omega) (by omega) with bd0 | ⟨w, _, hw, rfl⟩
  · refine Qn_err ok hM 1 (by omega) ?_ ?_
    · intro g
      show x_b_weighed_0 (f, g) v1 = _
      rw [e_b_weighed_0, show x_b_checkWhat_0 (f, g) v1 2 = _ from c_checkWhatN (f, g) (b := 2) bd0, c_Vx]
    · intro f0 f2 g M0 h0 e0
      show x_m_weighed_0 (f2, g) v1 = _
      rw [e_m_weighed_0]
      dsimp only
      rw [← e0, show x_m_isWhat_0 (f0, g) v1 2 = _ from m_isWhatN f0 g (b := 2) h0 bd0, c_I, if_pos (by decide)]
      rfl
  · by_cases w2 : w = 2
    · subst w2
      refine Qn_val ok hM rfl (tb (allB A)) ?_ ?_
      · intro g
        show ∃ f', x_b_weighed_0 (f, g) (nI 2) = rI _ (f', g) ∧ _
        obtain ⟨f1, m, e1, m64, m1, m2, fr1⟩ := c_unmet f g ok hC
        refine ⟨f1, ?_, fun p a b c d => fr1 p a b c⟩
        rw [e_b_weighed_0, show x_b_checkWhat_0 (f, g) (nI 2) 2 = _ from c_checkWhatY (f, g) (b := 2) (by omega) (by omega), c_V, if_pos (by decide), e1, c_I]
        cases ha : allB A with
        | true =>
          have hall := (allB_iff A).mp ha
          have m0 : m = 0 := Nat.eq_of_testBit_eq (fun y => by
            rw [Nat.zero_testBit]
            by_cases d : y < lB (aL A)
            · exact (m1 y d).mpr (hall y d)
            · exact m2 y (by omega))
          rw [m0, if_pos (show nI 0 = 0 from rfl)]; rfl
        | false =>
          have mn : ¬ nI m = 0 := fun z => by
            have z' : m = 0 := (nI_eq (by omega) (by omega)).mp (show nI m = nI 0 from z)
            have : allB A = true := (allB_iff A).mpr (fun y hy => (m1 y hy).mp (by rw [z', Nat.zero_testBit]))
            rw [ha] at this
            cases this
          rw [if_neg mn]; rfl
      · intro f0 f2 g M0 h0 e0
        show ∃ f3, x_m_weighed_0 (f2, g) (nI 2) = rI _ (f3, g) ∧ _
        obtain ⟨f1, e1, R1, g1, g2⟩ := m_tries (f0, g) lo M0.2.2.1
        have q1 : QM f0 f1 := QM_18 g1 g2
        obtain ⟨f3, b, w2', w3, w4, w5, w6⟩ := m_isSeen f1 g ok (MRel_Q ok M0 q1) R1 ok.2.2.2.1
        have bg : b = allB A := by
          cases hb : allB A with
          | true => exact w3.mpr ((al_now ok).mpr ((allB_iff A).mp hb))
          | false =>
            cases hb2 : b with
            | false => rfl
            | true =>
              have := (allB_iff A).mpr ((al_now ok).mp (w3.mp hb2))
              rw [hb] at this
              cases this
        refine ⟨f3, ?_, by rw [w6, g1 0 (by omega)]; exact h0, QM_trans q1 w5⟩
        rw [e_m_weighed_0]
        dsimp only
        rw [← e0, show x_m_isWhat_0 (f0, g) (nI 2) 2 = _ from m_isWhatY f0 g (b := 2) h0 (by omega) (by omega), c_I, if_neg (by decide), if_pos (by decide), e1, c_V]
        show en_cI (x_m_isSeen_0 (f1, g)) _ _ = _
        rw [w2', c_I, ← bg]
        cases b
        · rw [if_pos (show tb false = 0 from rfl)]; rfl
        · rw [if_neg (by decide)]; rfl
    · refine Qn_val ok hM rfl (if w = 0 then nI (gS A (lB (aL A))) else bFw A (99 * lB (aL A)) 0) ?_ ?_
      · intro g
        show ∃ f', x_b_weighed_0 (f, g) (nI w) = rI _ (f', g) ∧ _
        obtain ⟨f1, e1, t1, F1⟩ := c_tryAll f g ok hC
        have hB : f1 34 5 = nI (lB (aL A)) := (FS_C ok hC F1).1.1
        refine ⟨f1, ?_, FS_QC F1⟩
        rw [e_b_weighed_0, show x_b_checkWhat_0 (f, g) (nI w) 2 = _ from c_checkWhatY (f, g) (b := 2) hw (by omega), c_V, if_neg (show ¬ nI w = 2 by rw [q_2, q_eqI (by omega) (by omega)]; exact w2), e1, c_V]
        by_cases w0 : w = 0
        · rw [if_pos (show nI w = 0 by rw [w0]; rfl), if_pos w0]
          show rI (f1 100 6) (f1, g) = _
          rw [t1.2.2]
        · rw [if_neg (show ¬ nI w = 0 from nI_ne0 (by omega) (by omega)), if_neg w0, c_first f1 g ok hB t1, c_I]
          rfl
      · intro f0 f2 g M0 h0 e0
        show ∃ f3, x_m_weighed_0 (f2, g) (nI w) = rI _ (f3, g) ∧ _
        obtain ⟨f3, e3, q3, z3⟩ := m_w45 f0 g ok M0 (nI w) (99 * lB (aL A)) 0 f0 nN (by omega) (QM_refl f0) h0 (Or.inl rfl)
        refine ⟨f3, ?_, z3, q3⟩
        rw [e_m_weighed_0]
        dsimp only
        rw [← e0, show x_m_isWhat_0 (f0, g) (nI w) 2 = _ from m_isWhatY f0 g (b := 2) h0 hw (by omega), c_I, if_neg (by decide), if_neg (show ¬ nI w = 2 by rw [q_2, q_eqI (by omega) (by omega)]; exact w2)]
        have e3' : x_m_weighed_45 (f0, g) (nI w) (nI 0) nN (nI 0) = _ := e3
        refine Eq.trans e3' ?_
        rw [if_pos (show nN = nN from rfl)]
        by_cases w0 : w = 0
        · rw [if_pos (show nI w = 0 by rw [w0]; rfl), if_pos w0]
        · rw [if_neg (show ¬ nI w = 0 from nI_ne0 (by omega) (by omega)), if_neg w0]
