/-! rules: the model's reckoning and the class's -/
theorem i32_of (s : Int32) (k : Int) (h : s.toInt = k) : s = Int32.ofInt k := by rw [← h, Int32.ofInt_toInt]
theorem rs_cases {s : Int32} (h1 : ¬ -8 < s) (h2 : ¬ s = -8) (h3 : -17 < s) : s = -9 ∨ s = -10 ∨ s = -11 ∨ s = -12 ∨ s = -13 ∨ s = -14 ∨ s = -15 ∨ s = -16 := by
  rw [Int32.lt_iff_toInt_lt] at h1 h3
  have a : (-8 : Int32).toInt = -8 := by decide
  have b : (-17 : Int32).toInt = -17 := by decide
  have c : s.toInt ≠ -8 := fun e => h2 (by rw [i32_of s _ e]; decide)
  rw [a] at h1
  rw [b] at h3
  have d : s.toInt = -9 ∨ s.toInt = -10 ∨ s.toInt = -11 ∨ s.toInt = -12 ∨ s.toInt = -13 ∨ s.toInt = -14 ∨ s.toInt = -15 ∨ s.toInt = -16 := by omega
  rcases d with d | d | d | d | d | d | d | d <;> rw [i32_of s _ d] <;> decide
theorem rs_val {s : Int32} (h1 : -8 < s) (h2 : s < 0) : ∃ j, j < 7 ∧ -1 - s = nI j := by
  rw [Int32.lt_iff_toInt_lt] at h1 h2
  have a : (-8 : Int32).toInt = -8 := by decide
  have b : (0 : Int32).toInt = 0 := by decide
  rw [a] at h1
  rw [b] at h2
  have d : s.toInt = -1 ∨ s.toInt = -2 ∨ s.toInt = -3 ∨ s.toInt = -4 ∨ s.toInt = -5 ∨ s.toInt = -6 ∨ s.toInt = -7 := by omega
  rcases d with d | d | d | d | d | d | d <;> rw [i32_of s _ d]
  · exact ⟨0, by omega, by decide⟩
  · exact ⟨1, by omega, by decide⟩
  · exact ⟨2, by omega, by decide⟩
  · exact ⟨3, by omega, by decide⟩
  · exact ⟨4, by omega, by decide⟩
  · exact ⟨5, by omega, by decide⟩
  · exact ⟨6, by omega, by decide⟩
theorem m_works (σ : en_S) {s : Int32} (h : s = -9 ∨ s = -10 ∨ s = -11 ∨ s = -12 ∨ s = -13 ∨ s = -14 ∨ s = -15 ∨ s = -16) (a b : Int32) : x_m_works_0 σ (if s = -9 then nI 5 else if s = -10 then nI 4 else -5 - s) a b = rI (sJn s a b) σ := by
  rw [e_m_works_0]
  rcases h with h | h | h | h | h | h | h | h <;> subst h <;> simp (decide := true) only [sJn, if_true, if_false] <;> unfold rI <;> (repeat' split) <;> first | rfl | contradiction
theorem c_join (σ : en_S) {s : Int32} (h : s = -9 ∨ s = -10 ∨ s = -11 ∨ s = -12 ∨ s = -13 ∨ s = -14 ∨ s = -15 ∨ s = -16) (a b : Int32) : x_ru_join_0 σ s a b = rI (sJn s a b) σ := by
  rw [e_ru_join_0]
  rcases h with h | h | h | h | h | h | h | h <;> subst h <;> simp (decide := true) only [sJn, if_true, if_false] <;> unfold rI <;> (repeat' split) <;> first | rfl | contradiction
/-- what waits, its last first -/
def stk (f : Nat → Nat → Int32) (P : Nat) : List Int32 → Prop
  | [] => True
  | a :: q => f P q.length = a ∧ stk f P q
theorem stk_u1 {f : Nat → Nat → Int32} {P : Nat} {q : List Int32} {i : Nat} {v : Int32} (h : stk f P q) (hi : q.length ≤ i) : stk (en_u1 f P i v) P q := by
  induction q with
  | nil => trivial
  | cons a q ih =>
    simp only [List.length_cons] at hi
    exact ⟨by rw [u1_i _ _ _ (by omega)]; exact h.1, ih h.2 (by omega)⟩
theorem stk_push {f : Nat → Nat → Int32} {P : Nat} {q : List Int32} {v : Int32} (h : stk f P q) : stk (en_u1 f P q.length v) P (v :: q) := ⟨u1_at _ _ _ _, stk_u1 h (Nat.le_refl _)⟩
theorem mCd_congr {f f' : Nat → Nat → Int32} (e : f' 6 = f 6) : ∀ (l : List Int32) (k : Nat), mCd f k l → mCd f' k l := by
  intro l
  induction l with
  | nil => intro k h; simp only [mCd] at h ⊢; rw [e]; exact h
  | cons s l ih =>
    intro k h
    simp only [mCd] at h ⊢
    rw [e]
    by_cases c : -8 < s
    · rw [if_pos c] at h ⊢
      exact ⟨h.1, h.2.1, ih _ h.2.2⟩
    · rw [if_neg c] at h ⊢
      exact ⟨h.1, h.2.1, ih _ h.2.2⟩
theorem i_not {s : Int32} (h : 0 ≤ s) : ¬ s < 0 := by rw [Int32.not_lt]; exact h
theorem m_reckons4 (V : Nat → Int32) : ∀ (l : List Int32) (k : Nat) (σ : en_S) (q : List Int32), mCd σ.1 k l → sDp l q.length → stk σ.1 21 q → (∀ i, i < 7 → σ.1 20 i = V i) → ∃ f', x_m_reckons_4 σ (nI q.length) (nI k) = rI ((sEv V l q).headD 0) (f', σ.2) ∧ ∀ p, p ≠ 21 → f' p = σ.1 p := by
  intro l
  induction l with
  | nil =>
    intro k σ q hC hd hs hV
    simp only [mCd] at hC
    simp only [sDp] at hd
    match q, hd, hs with
    | [a], _, hs =>
      refine ⟨σ.1, ?_, fun _ _ => rfl⟩
      rw [e_m_reckons_4]
      simp (disch := omega) only [q_in, q_clamp, if_true, hC.2]
      have h0 : σ.1 21 0 = a := hs.1
      rw [if_pos (by decide), h0]
      rfl
  | cons s l ih =>
    intro k σ q hC hd hs hV
    simp only [mCd] at hC
    simp only [sDp] at hd
    by_cases c : -8 < s
    · rw [if_pos c] at hC hd
      obtain ⟨hk, hC1, hC2⟩ := hC
      have ev : sEv V (s :: l) q = sEv V l ((if 0 ≤ s then s else V (-1 - s).toNatClampNeg) :: q) := by simp only [sEv, sSp]; rw [if_pos c]
      rw [ev]
      have go : ∀ v : Int32, v = (if 0 ≤ s then s else V (-1 - s).toNatClampNeg) → ∃ f', x_m_reckons_4 (en_u1 σ.1 21 q.length v, σ.2) (nI (q.length + 1)) (nI (k + 2)) = rI ((sEv V l ((if 0 ≤ s then s else V (-1 - s).toNatClampNeg) :: q)).headD 0) (f', σ.2) ∧ ∀ p, p ≠ 21 → f' p = σ.1 p := by
        intro v hv
        rw [← hv]
        obtain ⟨f', e, fr⟩ := ih (k + 2) (en_u1 σ.1 21 q.length v, σ.2) (v :: q) (mCd_congr (u1_p _ _ _ (by omega)) _ _ hC2) hd.2.2 (stk_push hs) (fun i hi => by
          show en_u1 σ.1 21 q.length v 20 i = V i
          rw [u1_ne _ _ (by omega)]; exact hV i hi)
        exact ⟨f', e, fun p hp => (fr p hp).trans (u1_p _ _ _ hp)⟩
      rcases hC1 with ⟨h0, h1, h2⟩ | ⟨h0, h1, h2⟩
      · obtain ⟨f', e, fr⟩ := go s (by rw [if_pos h0])
        refine ⟨f', ?_, fr⟩
        rw [e_m_reckons_4]
        simp (disch := omega) only [q_0, q_1, q_2, q_3, q_4, q_5, q_6, q_7, q_8, q_9, q_10, q_11, q_12, q_13, q_14, q_15, q_16, q_17, q_18, q_19, q_20, q_21, q_22, q_23, q_24, q_29, q_30, q_31, q_36, q_42, q_50, q_40, q_48, q_96, q_97, q_99, q_100, q_255, q_256, q_700, q_999, q_1160, q_1400, q_99999, q_m1, q_in, q_clamp, if_true, h1, q_eqI, nI_add]
        simp (decide := true) only [if_false, if_true]
        rw [e_m_reckons_36]
        simp (disch := omega) only [q_0, q_1, q_2, q_3, q_4, q_5, q_6, q_7, q_8, q_9, q_10, q_11, q_12, q_13, q_14, q_15, q_16, q_17, q_18, q_19, q_20, q_21, q_22, q_23, q_24, q_29, q_30, q_31, q_36, q_42, q_50, q_40, q_48, q_96, q_97, q_99, q_100, q_255, q_256, q_700, q_999, q_1160, q_1400, q_99999, q_m1, q_in, q_clamp, if_true, h2, nI_add]
        exact e
      · have hn : ¬ 0 ≤ s := by rw [Int32.not_le]; exact h0
        obtain ⟨j, hj, ej⟩ := rs_val c h0
        obtain ⟨f', e, fr⟩ := go (V j) (by rw [if_neg hn, ej, q_clamp (by omega)])
        refine ⟨f', ?_, fr⟩
        have h20 := hV j hj
        rw [ej] at h2
        rw [e_m_reckons_4]
        simp (disch := omega) only [q_0, q_1, q_2, q_3, q_4, q_5, q_6, q_7, q_8, q_9, q_10, q_11, q_12, q_13, q_14, q_15, q_16, q_17, q_18, q_19, q_20, q_21, q_22, q_23, q_24, q_29, q_30, q_31, q_36, q_42, q_50, q_40, q_48, q_96, q_97, q_99, q_100, q_255, q_256, q_700, q_999, q_1160, q_1400, q_99999, q_m1, q_in, q_clamp, if_true, h1, q_eqI, nI_add]
        simp (decide := true) only [if_false, if_true]
        rw [e_m_reckons_36]
        simp (disch := omega) only [q_0, q_1, q_2, q_3, q_4, q_5, q_6, q_7, q_8, q_9, q_10, q_11, q_12, q_13, q_14, q_15, q_16, q_17, q_18, q_19, q_20, q_21, q_22, q_23, q_24, q_29, q_30, q_31, q_36, q_42, q_50, q_40, q_48, q_96, q_97, q_99, q_100, q_255, q_256, q_700, q_999, q_1160, q_1400, q_99999, q_m1, q_in, q_clamp, if_true, h2, h20, nI_add, q_eqI]
        simp (decide := true) only [if_false, if_true]
        exact e
    · rw [if_neg c] at hC hd
      obtain ⟨hk, hC1, hC2⟩ := hC
      by_cases c8 : s = -8
      · rw [if_pos c8] at hC1 hd
        match q, hd, hs with
        | a :: q, hd, hs =>
          have ev : sEv V (s :: l) (a :: q) = sEv V l ((if a = 0 then 1 else 0) :: q) := by simp only [sEv, sSp]; rw [if_neg c, if_pos c8]
          rw [ev]
          have hl : q.length < 950 ∨ 950 ≤ q.length := by omega
          have h0 : σ.1 21 q.length = a := hs.1
          have go : ∀ v : Int32, v = (if a = 0 then 1 else 0) → ∃ f', x_m_reckons_4 (en_u1 σ.1 21 q.length v, σ.2) (nI (q.length + 1)) (nI (k + 1)) = rI ((sEv V l ((if a = 0 then 1 else 0) :: q)).headD 0) (f', σ.2) ∧ ∀ p, p ≠ 21 → f' p = σ.1 p := by
            intro v hv
            rw [← hv]
            obtain ⟨f', e, fr⟩ := ih (k + 1) (en_u1 σ.1 21 q.length v, σ.2) (v :: q) (mCd_congr (u1_p _ _ _ (by omega)) _ _ hC2) hd.2.2 (stk_push hs.2) (fun i hi => by
              show en_u1 σ.1 21 q.length v 20 i = V i
              rw [u1_ne _ _ (by omega)]; exact hV i hi)
            exact ⟨f', e, fun p hp => (fr p hp).trans (u1_p _ _ _ hp)⟩
          have h48 : q.length + 1 ≤ 48 := hd.2.1
          rw [e_m_reckons_4]
          simp (disch := omega) only [q_1, q_2, q_3, q_in, q_clamp, if_true, hC1, q_eqI, nI_add, List.length_cons]
          rw [show nI (q.length + 1) - nI 1 = nI q.length from nI_pred _]
          by_cases a0 : a = 0
          · obtain ⟨f', e, fr⟩ := go 1 (by rw [if_pos a0])
            refine ⟨f', ?_, fr⟩
            simp (decide := true) (disch := omega) only [q_in, q_clamp, if_true, if_false, h0, a0] at e ⊢
            exact e
          · obtain ⟨f', e, fr⟩ := go 0 (by rw [if_neg a0])
            refine ⟨f', ?_, fr⟩
            simp (decide := true) (disch := omega) only [q_in, q_clamp, if_true, if_false, h0, a0] at e ⊢
            exact e
      · rw [if_neg c8] at hC1 hd
        have hc := rs_cases c c8 hd.2.2.1
        match q, hd, hs with
        | b :: a :: q, hd, hs =>
          have ev : sEv V (s :: l) (b :: a :: q) = sEv V l (sJn s a b :: q) := by simp only [sEv, sSp]; rw [if_neg c, if_neg c8]
          rw [ev]
          have hb : σ.1 21 (q.length + 1) = b := hs.1
          have ha : σ.1 21 q.length = a := hs.2.1
          have h48 : q.length + 2 ≤ 48 := hd.2.1
          obtain ⟨f', e, fr⟩ := ih (k + 1) (en_u1 σ.1 21 q.length (sJn s a b), σ.2) (sJn s a b :: q) (mCd_congr (u1_p _ _ _ (by omega)) _ _ hC2) hd.2.2.2 (stk_push hs.2.2) (fun i hi => by
            show en_u1 σ.1 21 q.length (sJn s a b) 20 i = V i
            rw [u1_ne _ _ (by omega)]; exact hV i hi)
          refine ⟨f', ?_, fun p hp => (fr p hp).trans (u1_p _ _ _ hp)⟩
          have hw := m_works σ hc a b
          have hne : ∀ j, j < 4 → ¬ (if s = -9 then nI 5 else if s = -10 then nI 4 else -5 - s) = nI j := by
            intro j hj
            match j, hj with
            | 0, _ => rcases hc with h | h | h | h | h | h | h | h <;> subst h <;> decide
            | 1, _ => rcases hc with h | h | h | h | h | h | h | h <;> subst h <;> decide
            | 2, _ => rcases hc with h | h | h | h | h | h | h | h <;> subst h <;> decide
            | 3, _ => rcases hc with h | h | h | h | h | h | h | h <;> subst h <;> decide
          rw [e_m_reckons_4]
          simp (disch := omega) only [q_in, q_clamp, if_true, hC1, List.length_cons, q_0]
          rw [if_neg (hne 0 (by omega)), q_1, if_neg (hne 1 (by omega)), q_2, if_neg (hne 2 (by omega)), q_3, if_neg (hne 3 (by omega))]
          rw [show (nI 1) = (1 : Int32) from rfl]
          rw [show nI (q.length + 1 + 1) + (-1) = nI (q.length + 1) from pk_m1 _, nI_pred]
          simp (disch := omega) only [q_in, q_clamp, if_true, ha, hb]
          rw [hw, c_I]
          simp (disch := omega) only [q_1, nI_add]
          exact e
