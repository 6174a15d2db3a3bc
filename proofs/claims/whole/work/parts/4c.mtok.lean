/-! the model goes from token to token -/
theorem u2_at (g : Nat → Nat → Int64) (p i : Nat) (v : Int64) : en_u2 g p i v p i = v := by
  unfold en_u2 vp_updL; rw [if_pos rfl, if_pos rfl]
theorem u2_p (g : Nat → Nat → Int64) {p q : Nat} (i : Nat) (v : Int64) (h : q ≠ p) : en_u2 g p i v q = g q := by
  unfold en_u2; rw [if_neg h]
theorem l_sh {a d : Nat} (ha : a < 2 ^ 25) (hd : d < 32) : (lN a <<< ((5 : Int32).toInt64 &&& 63)) ||| lN d = lN (32 * a + d) := by
  have e : ((5 : Int32).toInt64 &&& 63) = lN 5 := by decide
  rw [e]
  apply Int64.toBitVec_inj.mp
  apply BitVec.eq_of_toNat_eq
  have h0 : ((BitVec.ofNat 64 5).smod 64).toNat = 5 := by decide
  have h1 : (lN a <<< lN 5).toBitVec = BitVec.ofNat 64 a <<< 5 := by
    show BitVec.ofNat 64 a <<< ((BitVec.ofNat 64 5).smod 64).toNat = _
    rw [h0]
  have h2 : (lN a <<< lN 5 ||| lN d).toBitVec = (BitVec.ofNat 64 a <<< 5) ||| BitVec.ofNat 64 d := by rw [← h1]; rfl
  have h3 : (lN (32 * a + d)).toBitVec = BitVec.ofNat 64 (32 * a + d) := rfl
  rw [h2, h3, BitVec.toNat_or, BitVec.toNat_shiftLeft, BitVec.toNat_ofNat, BitVec.toNat_ofNat, BitVec.toNat_ofNat, Nat.mod_eq_of_lt (show a < 2 ^ 64 by omega), Nat.mod_eq_of_lt (show d < 2 ^ 64 by omega), Nat.mod_eq_of_lt (show 32 * a + d < 2 ^ 64 by omega), Nat.mod_eq_of_lt (show a <<< 5 < 2 ^ 64 by rw [Nat.shiftLeft_eq]; omega), ← Nat.shiftLeft_add_eq_or_of_lt (show d < 2 ^ 5 by omega), Nat.shiftLeft_eq]
  omega
def MT0 (X : mu_X) (f : Nat → Nat → Int32) : Prop := f 0 18 = nI X.1 ∧ ∀ i, i < X.1 → f 7 i = nI (X.2 i)
def MT (X : mu_X) (c : Nat) (f : Nat → Nat → Int32) (g : Nat → Nat → Int64) : Prop := MT0 X f ∧ f 0 19 = nI (tE X c) ∧ f 0 20 = nI (tK X c) ∧ f 0 21 = nI (tS X c) ∧ f 0 22 = nI (tLn X c) ∧ f 0 23 = nI (tV X c) ∧ f 0 24 = nI (btA X (tS X c)) ∧ (tK X c = 1 → g 0 25 = lN (dW X.2 (tS X c) (if tLn X c < 6 then tLn X c else 6)))
/-- the model's reader goes on: what stays -/
def MN (f f' : Nat → Nat → Int32) : Prop := ∀ p i, (p ≠ 0 ∨ i < 19 ∨ 24 < i) → f' p i = f p i
theorem MN_refl (f : Nat → Nat → Int32) : MN f f := fun _ _ _ => rfl
theorem MN_trans {f f' f'' : Nat → Nat → Int32} (h : MN f f') (h' : MN f' f'') : MN f f'' := fun p i a => (h' p i a).trans (h p i a)
theorem MN_u (f : Nat → Nat → Int32) {i : Nat} (v : Int32) (h : 19 ≤ i ∧ i ≤ 24) : MN f (en_u1 f 0 i v) := fun p j a => u1_ne _ _ (by omega)
theorem MN_0 {X : mu_X} {f f' : Nat → Nat → Int32} (h : MT0 X f) (n : MN f f') : MT0 X f' := ⟨by rw [n 0 18 (by omega)]; exact h.1, fun i hi => by rw [n 7 i (by omega)]; exact h.2 i hi⟩
theorem MT_of {X : mu_X} {c : Nat} {f f' : Nat → Nat → Int32} {g : Nat → Nat → Int64} (h : MT X c f g) (e : ∀ i, 18 ≤ i → i ≤ 24 → f' 0 i = f 0 i) (e2 : ∀ i, f' 7 i = f 7 i) : MT X c f' g := by
  obtain ⟨h0, h1, h2, h3, h4, h5, h6, h7⟩ := h
  exact ⟨⟨by rw [e 18 (by omega) (by omega)]; exact h0.1, fun i hi => by rw [e2]; exact h0.2 i hi⟩, by rw [e 19 (by omega) (by omega)]; exact h1, by rw [e 20 (by omega) (by omega)]; exact h2, by rw [e 21 (by omega) (by omega)]; exact h3, by rw [e 22 (by omega) (by omega)]; exact h4, by rw [e 23 (by omega) (by omega)]; exact h5, by rw [e 24 (by omega) (by omega)]; exact h6, h7⟩
theorem btA_lt {X : mu_X} (xo : XOK X) (p : Nat) : btA X p < 256 := by
  unfold btA
  split
  · rename_i h; exact xo.2 p h
  · omega
theorem m_byteAt {X : mu_X} (xo : XOK X) (f : Nat → Nat → Int32) (g : Nat → Nat → Int64) (h : MT0 X f) {p : Nat} (hp : p ≤ 700) : x_m_byteAt_0 (f, g) (nI p) = rI (nI (btA X p)) (f, g) := by
  have n7 := xo.1
  have hn := h.1
  rw [e_m_byteAt_0]
  unfold btA
  by_cases c : p < X.1
  · have h7 := h.2 p c
    rw [if_neg (by show ¬ f 0 18 ≤ nI p; rw [hn]; exact nI_ge c (by omega)), if_pos c]
    simp (disch := omega) only [q_in, q_clamp, if_true, h7]
    rfl
  · rw [if_pos (by show f 0 18 ≤ nI p; rw [hn]; exact nI_le (by omega) (by omega)), if_neg c]
    rfl
theorem m_isLetter (σ : en_S) {b : Nat} (hb : b < 256) : x_m_isLetter_0 σ (nI b) = rI (tb (tLe b)) σ := by
  rw [e_m_isLetter_0]
  simp (disch := omega) only [q_0, q_1, q_2, q_3, q_4, q_5, q_6, q_7, q_8, q_9, q_10, q_11, q_12, q_13, q_14, q_15, q_16, q_17, q_18, q_19, q_20, q_21, q_22, q_23, q_24, q_29, q_30, q_31, q_36, q_42, q_50, q_40, q_48, q_96, q_97, q_99, q_100, q_255, q_256, q_700, q_999, q_1160, q_1400, q_99999, q_m1, z_25, z_26, z_27, z_28, z_32, z_33, z_34, z_35, z_41, z_43, z_45, z_47, z_57, z_58, z_59, z_60, z_61, z_64, z_95, z_122, z_950, z_9999, q_ltI]
  unfold tLe
  by_cases c1 : b < 97
  · rw [if_pos c1, decide_eq_false (by omega)]; rfl
  · rw [if_neg c1]
    by_cases c2 : 122 < b
    · rw [if_pos c2, decide_eq_false (by omega)]; rfl
    · rw [if_neg c2, decide_eq_true (by omega)]; rfl
theorem m_isDigit (σ : en_S) {b : Nat} (hb : b < 256) : x_m_isDigit_0 σ (nI b) = rI (tb (tDi b)) σ := by
  rw [e_m_isDigit_0]
  simp (disch := omega) only [q_0, q_1, q_2, q_3, q_4, q_5, q_6, q_7, q_8, q_9, q_10, q_11, q_12, q_13, q_14, q_15, q_16, q_17, q_18, q_19, q_20, q_21, q_22, q_23, q_24, q_29, q_30, q_31, q_36, q_42, q_50, q_40, q_48, q_96, q_97, q_99, q_100, q_255, q_256, q_700, q_999, q_1160, q_1400, q_99999, q_m1, z_25, z_26, z_27, z_28, z_32, z_33, z_34, z_35, z_41, z_43, z_45, z_47, z_57, z_58, z_59, z_60, z_61, z_64, z_95, z_122, z_950, z_9999, q_ltI]
  unfold tDi
  by_cases c1 : b < 48
  · rw [if_pos c1, decide_eq_false (by omega)]; rfl
  · rw [if_neg c1]
    by_cases c2 : 57 < b
    · rw [if_pos c2, decide_eq_false (by omega)]; rfl
    · rw [if_neg c2, decide_eq_true (by omega)]; rfl
theorem m_skip {X : mu_X} (xo : XOK X) (g : Nat → Nat → Int64) : ∀ p, ∀ f, MT0 X f → f 0 19 = nI p → p ≤ X.1 → ∃ f', x_m_goes_0 (f, g) = x_m_goes_50 (f', g) ∧ f' 0 19 = nI (tS X p) ∧ MN f f' := by
  have n7 := xo.1
  refine rn_ind (P := fun i => tBl (X.2 i)) (n := X.1) (fun p => ∀ f, MT0 X f → f 0 19 = nI p → p ≤ X.1 → ∃ f', x_m_goes_0 (f, g) = x_m_goes_50 (f', g) ∧ f' 0 19 = nI (tS X p) ∧ MN f f') ?_ ?_
  · intro p h f h0 h3 hp
    have hn := h0.1
    refine ⟨f, ?_, ?_, MN_refl f⟩
    · rw [e_m_goes_0]
      by_cases c : p < X.1
      · have hb : X.2 p < 256 := xo.2 p c
        have nb : ¬ (X.2 p = 32 ∨ X.2 p = 10) := fun k => h ⟨c, decide_eq_true k⟩
        have hbt : btA X p = X.2 p := if_pos c
        have by1 := m_byteAt xo f g h0 (p := p) (by omega)
        rw [if_neg (by show ¬ f 0 18 ≤ f 0 19; rw [hn, h3]; exact nI_ge c (by omega))]
        simp (disch := omega) only [q_0, q_1, q_2, q_3, q_4, q_5, q_6, q_7, q_8, q_9, q_10, q_11, q_12, q_13, q_14, q_15, q_16, q_17, q_18, q_19, q_20, q_21, q_22, q_23, q_24, q_29, q_30, q_31, q_36, q_42, q_50, q_40, q_48, q_96, q_97, q_99, q_100, q_255, q_256, q_700, q_999, q_1160, q_1400, q_99999, q_m1, z_25, z_26, z_27, z_28, z_32, z_33, z_34, z_35, z_41, z_43, z_45, z_47, z_57, z_58, z_59, z_60, z_61, z_64, z_95, z_122, z_950, z_9999, h3, by1, c_I, hbt, q_eqI]
        rw [if_neg (by omega), if_neg (by omega)]
      · rw [if_pos (by show f 0 18 ≤ f 0 19; rw [hn, h3]; exact nI_le (by omega) (by omega))]
    · rw [h3]; unfold tS; rw [rn_f h]
  · intro p h1 h2 ih f h0 h3 hp
    have hn := h0.1
    have hb : X.2 p < 256 := xo.2 p h1
    have nb : X.2 p = 32 ∨ X.2 p = 10 := by
      have h2' : tBl (X.2 p) = true := h2
      unfold tBl at h2'
      exact of_decide_eq_true h2'
    have hbt : btA X p = X.2 p := if_pos h1
    have by1 := m_byteAt xo f g h0 (p := p) (by omega)
    have F1 : MN f (en_u1 f 0 19 (nI (p + 1))) := MN_u f _ (by omega)
    obtain ⟨f', e1, e2, e3⟩ := ih (en_u1 f 0 19 (nI (p + 1))) (MN_0 h0 F1) (u1_at _ _ _ _) (by omega)
    refine ⟨f', ?_, ?_, MN_trans F1 e3⟩
    · rw [← e1, e_m_goes_0]
      rw [if_neg (by show ¬ f 0 18 ≤ f 0 19; rw [hn, h3]; exact nI_ge h1 (by omega))]
      simp (disch := omega) only [q_0, q_1, q_2, q_3, q_4, q_5, q_6, q_7, q_8, q_9, q_10, q_11, q_12, q_13, q_14, q_15, q_16, q_17, q_18, q_19, q_20, q_21, q_22, q_23, q_24, q_29, q_30, q_31, q_36, q_42, q_50, q_40, q_48, q_96, q_97, q_99, q_100, q_255, q_256, q_700, q_999, q_1160, q_1400, q_99999, q_m1, z_25, z_26, z_27, z_28, z_32, z_33, z_34, z_35, z_41, z_43, z_45, z_47, z_57, z_58, z_59, z_60, z_61, z_64, z_95, z_122, z_950, z_9999, h3, by1, c_I, hbt, q_eqI, nI_add]
      by_cases c : X.2 p = 32
      · rw [if_pos c]
      · rw [if_neg c, if_pos (by omega)]
    · rw [e2]; unfold tS; rw [rn_t (P := fun i => tBl (X.2 i)) h1 h2]
theorem m_lets {X : mu_X} (xo : XOK X) (s : Nat) : ∀ p, ∀ f g, MT0 X f → f 0 19 = nI p → f 0 21 = nI s → s ≤ p → p ≤ X.1 → (∀ i, s ≤ i → i < p → tLe (X.2 i) = true) → g 0 25 = lN (dW X.2 s (if p - s < 6 then p - s else 6)) → ∃ f' g', x_m_goes_108 (f, g) = rV (f', g') ∧ f' 0 19 = nI (rn (fun i => tLe (X.2 i)) X.1 p) ∧ f' 0 20 = nI 1 ∧ f' 0 22 = nI (rn (fun i => tLe (X.2 i)) X.1 p - s) ∧ g' 0 25 = lN (dW X.2 s (if rn (fun i => tLe (X.2 i)) X.1 p - s < 6 then rn (fun i => tLe (X.2 i)) X.1 p - s else 6)) ∧ (∀ q i, (q ≠ 0 ∨ (i ≠ 19 ∧ i ≠ 20 ∧ i ≠ 22)) → f' q i = f q i) ∧ ∀ q, q ≠ 0 → g' q = g q := by
  have n7 := xo.1
  refine rn_ind (P := fun i => tLe (X.2 i)) (n := X.1) (fun p => ∀ f g, MT0 X f → f 0 19 = nI p → f 0 21 = nI s → s ≤ p → p ≤ X.1 → (∀ i, s ≤ i → i < p → tLe (X.2 i) = true) → g 0 25 = lN (dW X.2 s (if p - s < 6 then p - s else 6)) → ∃ f' g', x_m_goes_108 (f, g) = rV (f', g') ∧ f' 0 19 = nI (rn (fun i => tLe (X.2 i)) X.1 p) ∧ f' 0 20 = nI 1 ∧ f' 0 22 = nI (rn (fun i => tLe (X.2 i)) X.1 p - s) ∧ g' 0 25 = lN (dW X.2 s (if rn (fun i => tLe (X.2 i)) X.1 p - s < 6 then rn (fun i => tLe (X.2 i)) X.1 p - s else 6)) ∧ (∀ q i, (q ≠ 0 ∨ (i ≠ 19 ∧ i ≠ 20 ∧ i ≠ 22)) → f' q i = f q i) ∧ ∀ q, q ≠ 0 → g' q = g q) ?_ ?_
  · intro p h f g h0 h3 h21 hs hp hlo h25
    have by1 := m_byteAt xo f g h0 (p := p) (by omega)
    have hb := btA_lt xo p
    have nb : tLe (btA X p) = false := by
      unfold btA
      by_cases c : p < X.1
      · rw [if_pos c]
        cases hq : tLe (X.2 p) with
        | false => rfl
        | true => exact absurd ⟨c, hq⟩ h
      · rw [if_neg c]; rfl
    rw [rn_f h, e_m_goes_108]
    simp (disch := omega) only [q_0, q_1, q_2, q_3, q_4, q_5, q_6, q_7, q_8, q_9, q_10, q_11, q_12, q_13, q_14, q_15, q_16, q_17, q_18, q_19, q_20, q_21, q_22, q_23, q_24, q_29, q_30, q_31, q_36, q_42, q_50, q_40, q_48, q_96, q_97, q_99, q_100, q_255, q_256, q_700, q_999, q_1160, q_1400, q_99999, q_m1, z_25, z_26, z_27, z_28, z_32, z_33, z_34, z_35, z_41, z_43, z_45, z_47, z_57, z_58, z_59, z_60, z_61, z_64, z_95, z_122, z_950, z_9999, h3, h21, by1, c_I, m_isLetter, nb, tb_0]
    rw [if_pos trivial, pk_sub hs]
    refine ⟨_, _, rfl, ?_, ?_, u1_at _ _ _ _, h25, fun q i a => ?_, fun _ _ => rfl⟩
    · rw [u1_ne _ _ (by omega), u1_ne _ _ (by omega), h3]
    · rw [u1_ne _ _ (by omega), u1_at]
    · rw [u1_ne _ _ (by omega), u1_ne _ _ (by omega)]
  · intro p h1 h2 ih f g h0 h3 h21 hs hp hlo h25
    have by1 := m_byteAt xo f g h0 (p := p) (by omega)
    have hb := xo.2 p h1
    have hbt : btA X p = X.2 p := if_pos h1
    have h2' : tLe (X.2 p) = true := h2
    have hd := le_di h2'
    have F1 : MN f (en_u1 f 0 19 (nI (p + 1))) := MN_u f _ (by omega)
    have lo' : ∀ i, s ≤ i → i < p + 1 → tLe (X.2 i) = true := fun i a b => by
      by_cases c : i = p
      · rw [c]; exact h2'
      · exact hlo i a (by omega)
    rw [rn_t (P := fun i => tLe (X.2 i)) h1 h2, e_m_goes_108]
    simp (disch := omega) only [q_0, q_1, q_2, q_3, q_4, q_5, q_6, q_7, q_8, q_9, q_10, q_11, q_12, q_13, q_14, q_15, q_16, q_17, q_18, q_19, q_20, q_21, q_22, q_23, q_24, q_29, q_30, q_31, q_36, q_42, q_50, q_40, q_48, q_96, q_97, q_99, q_100, q_255, q_256, q_700, q_999, q_1160, q_1400, q_99999, q_m1, z_25, z_26, z_27, z_28, z_32, z_33, z_34, z_35, z_41, z_43, z_45, z_47, z_57, z_58, z_59, z_60, z_61, z_64, z_95, z_122, z_950, z_9999, h3, h21, by1, c_I, hbt, m_isLetter, h2', tb_0, nI_add, pk_sub, q_leI]
    rw [if_neg (by decide)]
    by_cases c6 : 6 ≤ p - s
    · rw [if_pos c6]
      rw [if_neg (by omega)] at h25
      obtain ⟨f', g', e1, e2, e3, e4, e5, e6, e7⟩ := ih (en_u1 f 0 19 (nI (p + 1))) g (MN_0 h0 F1) (u1_at _ _ _ _) (by rw [u1_ne _ _ (by omega)]; exact h21) (by omega) (by omega) lo' (by rw [if_neg (by omega)]; exact h25)
      exact ⟨f', g', e1, e2, e3, e4, e5, fun q i a => by rw [e6 q i a, u1_ne _ _ (by omega)], e7⟩
    · rw [if_neg c6]
      rw [if_pos (by omega)] at h25
      have ew : dW X.2 s (p + 1 - s) = 32 * dW X.2 s (p - s) + (X.2 p - 96) := by
        rw [show p + 1 - s = (p - s) + 1 by omega]
        show 32 * dF (fun i => X.2 (s + i) - 96) (p - s) + (X.2 (s + (p - s)) - 96) = _
        rw [show s + (p - s) = p by omega]
        rfl
      have wl : dW X.2 s (p - s) < 32 ^ (p - s) := dF_lt _ (fun i hi => by
        have := le_di (hlo (s + i) (by omega) (by omega))
        show X.2 (s + i) - 96 < 32
        omega)
      have wl2 : 32 ^ (p - s) ≤ 32 ^ 5 := Nat.pow_le_pow_right (by omega) (by omega)
      have w25 : dW X.2 s (p - s) < 2 ^ 25 := by omega
      have eg : (g 0 25 <<< ((5 : Int32).toInt64 &&& 63)) ||| ((nI (X.2 p) - nI 96).toInt64) = lN (dW X.2 s (p + 1 - s)) := by
        rw [h25, pk_sub (by omega), nI_l (by omega), l_sh w25 (by omega), ew]
      obtain ⟨f', g', e1, e2, e3, e4, e5, e6, e7⟩ := ih (en_u1 f 0 19 (nI (p + 1))) (en_u2 g 0 25 (lN (dW X.2 s (p + 1 - s)))) (MN_0 h0 F1) (u1_at _ _ _ _) (by rw [u1_ne _ _ (by omega)]; exact h21) (by omega) (by omega) lo' (by
        rw [u2_at]
        by_cases z : p + 1 - s < 6
        · rw [if_pos z]
        · rw [if_neg z, show p + 1 - s = 6 by omega])
      refine ⟨f', g', ?_, e2, e3, e4, e5, fun q i a => by rw [e6 q i a, u1_ne _ _ (by omega)], fun q hq => by rw [e7 q hq, u2_p _ _ _ hq]⟩
      rw [← e1]
      have eg' := eg
      simp (disch := omega) only [q_0, q_1, q_2, q_3, q_4, q_5, q_6, q_7, q_8, q_9, q_10, q_11, q_12, q_13, q_14, q_15, q_16, q_17, q_18, q_19, q_20, q_21, q_22, q_23, q_24, q_29, q_30, q_31, q_36, q_42, q_50, q_40, q_48, q_96, q_97, q_99, q_100, q_255, q_256, q_700, q_999, q_1160, q_1400, q_99999, q_m1, z_25, z_26, z_27, z_28, z_32, z_33, z_34, z_35, z_41, z_43, z_45, z_47, z_57, z_58, z_59, z_60, z_61, z_64, z_95, z_122, z_950, z_9999, pk_sub] at eg'
      rw [eg']
theorem m_digs {X : mu_X} (xo : XOK X) (g : Nat → Nat → Int64) (s : Nat) : ∀ p, ∀ f, MT0 X f → f 0 19 = nI p → f 0 21 = nI s → s ≤ p → p ≤ X.1 → f 0 23 = nI (dVl X.2 s (if p - s < 4 then p - s else 4)) → ∃ f', x_m_goes_187 (f, g) = rV (f', g) ∧ f' 0 19 = nI (rn (fun i => tDi (X.2 i)) X.1 p) ∧ f' 0 20 = nI 2 ∧ f' 0 22 = nI (rn (fun i => tDi (X.2 i)) X.1 p - s) ∧ f' 0 23 = nI (dVl X.2 s (if rn (fun i => tDi (X.2 i)) X.1 p - s < 4 then rn (fun i => tDi (X.2 i)) X.1 p - s else 4)) ∧ ∀ q i, (q ≠ 0 ∨ (i ≠ 19 ∧ i ≠ 20 ∧ i ≠ 22 ∧ i ≠ 23)) → f' q i = f q i := by
  have n7 := xo.1
  refine rn_ind (P := fun i => tDi (X.2 i)) (n := X.1) (fun p => ∀ f, MT0 X f → f 0 19 = nI p → f 0 21 = nI s → s ≤ p → p ≤ X.1 → f 0 23 = nI (dVl X.2 s (if p - s < 4 then p - s else 4)) → ∃ f', x_m_goes_187 (f, g) = rV (f', g) ∧ f' 0 19 = nI (rn (fun i => tDi (X.2 i)) X.1 p) ∧ f' 0 20 = nI 2 ∧ f' 0 22 = nI (rn (fun i => tDi (X.2 i)) X.1 p - s) ∧ f' 0 23 = nI (dVl X.2 s (if rn (fun i => tDi (X.2 i)) X.1 p - s < 4 then rn (fun i => tDi (X.2 i)) X.1 p - s else 4)) ∧ ∀ q i, (q ≠ 0 ∨ (i ≠ 19 ∧ i ≠ 20 ∧ i ≠ 22 ∧ i ≠ 23)) → f' q i = f q i) ?_ ?_
  · intro p h f h0 h3 h21 hs hp h23
    have by1 := m_byteAt xo f g h0 (p := p) (by omega)
    have hb := btA_lt xo p
    have nb : tDi (btA X p) = false := by
      unfold btA
      by_cases c : p < X.1
      · rw [if_pos c]
        cases hq : tDi (X.2 p) with
        | false => rfl
        | true => exact absurd ⟨c, hq⟩ h
      · rw [if_neg c]; rfl
    rw [rn_f h, e_m_goes_187]
    simp (disch := omega) only [q_0, q_1, q_2, q_3, q_4, q_5, q_6, q_7, q_8, q_9, q_10, q_11, q_12, q_13, q_14, q_15, q_16, q_17, q_18, q_19, q_20, q_21, q_22, q_23, q_24, q_29, q_30, q_31, q_36, q_42, q_50, q_40, q_48, q_96, q_97, q_99, q_100, q_255, q_256, q_700, q_999, q_1160, q_1400, q_99999, q_m1, z_25, z_26, z_27, z_28, z_32, z_33, z_34, z_35, z_41, z_43, z_45, z_47, z_57, z_58, z_59, z_60, z_61, z_64, z_95, z_122, z_950, z_9999, h3, h21, by1, c_I, m_isDigit, nb, tb_0]
    rw [if_pos trivial, pk_sub hs]
    refine ⟨_, rfl, ?_, ?_, u1_at _ _ _ _, ?_, fun q i a => ?_⟩
    · rw [u1_ne _ _ (by omega), u1_ne _ _ (by omega), h3]
    · rw [u1_ne _ _ (by omega), u1_at]
    · rw [u1_ne _ _ (by omega), u1_ne _ _ (by omega), h23]
    · rw [u1_ne _ _ (by omega), u1_ne _ _ (by omega)]
  · intro p h1 h2 ih f h0 h3 h21 hs hp h23
    have by1 := m_byteAt xo f g h0 (p := p) (by omega)
    have hb := xo.2 p h1
    have hbt : btA X p = X.2 p := if_pos h1
    have h2' : tDi (X.2 p) = true := h2
    have hd : 48 ≤ X.2 p ∧ X.2 p ≤ 57 := by
      have h3 := h2'
      unfold tDi at h3
      exact of_decide_eq_true h3
    have F1 : MN f (en_u1 f 0 19 (nI (p + 1))) := MN_u f _ (by omega)
    rw [rn_t (P := fun i => tDi (X.2 i)) h1 h2, e_m_goes_187]
    simp (disch := omega) only [q_0, q_1, q_2, q_3, q_4, q_5, q_6, q_7, q_8, q_9, q_10, q_11, q_12, q_13, q_14, q_15, q_16, q_17, q_18, q_19, q_20, q_21, q_22, q_23, q_24, q_29, q_30, q_31, q_36, q_42, q_50, q_40, q_48, q_96, q_97, q_99, q_100, q_255, q_256, q_700, q_999, q_1160, q_1400, q_99999, q_m1, z_25, z_26, z_27, z_28, z_32, z_33, z_34, z_35, z_41, z_43, z_45, z_47, z_57, z_58, z_59, z_60, z_61, z_64, z_95, z_122, z_950, z_9999, h3, h21, by1, c_I, hbt, m_isDigit, h2', tb_0, nI_add, pk_sub, q_leI]
    rw [if_neg (by decide)]
    by_cases c4 : 4 ≤ p - s
    · rw [if_pos c4]
      rw [if_neg (by omega)] at h23
      obtain ⟨f', e1, e2, e3, e4, e5, e6⟩ := ih (en_u1 f 0 19 (nI (p + 1))) (MN_0 h0 F1) (u1_at _ _ _ _) (by rw [u1_ne _ _ (by omega)]; exact h21) (by omega) (by omega) (by rw [if_neg (by omega), u1_ne _ _ (by omega)]; exact h23)
      exact ⟨f', e1, e2, e3, e4, e5, fun q i a => by rw [e6 q i a, u1_ne _ _ (by omega)]⟩
    · rw [if_neg c4]
      rw [if_pos (by omega)] at h23
      have ev : dVl X.2 s (p + 1 - s) = 10 * dVl X.2 s (p - s) + X.2 p - 48 := by
        rw [show p + 1 - s = (p - s) + 1 by omega]
        show 10 * dVl X.2 s (p - s) + (X.2 (s + (p - s)) - 48) = _
        rw [show s + (p - s) = p by omega]
        omega
      have F2 : MN f (en_u1 (en_u1 f 0 23 (nI (dVl X.2 s (p + 1 - s)))) 0 19 (nI (p + 1))) := MN_trans (MN_u f _ (by omega)) (MN_u _ _ (by omega))
      obtain ⟨f', e1, e2, e3, e4, e5, e6⟩ := ih (en_u1 (en_u1 f 0 23 (nI (dVl X.2 s (p + 1 - s)))) 0 19 (nI (p + 1))) (MN_0 h0 F2) (u1_at _ _ _ _) (by rw [u1_ne _ _ (by omega), u1_ne _ _ (by omega)]; exact h21) (by omega) (by omega) (by
        rw [u1_ne _ _ (by omega), u1_at]
        by_cases z : p + 1 - s < 4
        · rw [if_pos z]
        · rw [if_neg z, show p + 1 - s = 4 by omega])
      refine ⟨f', ?_, e2, e3, e4, e5, fun q i a => by rw [e6 q i a, u1_ne _ _ (by omega), u1_ne _ _ (by omega)]⟩
      rw [← e1, h23]
      simp (disch := omega) only [pk_mul, nI_add, pk_sub]
      rw [ev]
