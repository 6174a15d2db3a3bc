/-! look: the model -/
def QN (f f' : Nat → Nat → Int32) : Prop := QM f f' ∧ f' 26 = f 26
theorem QN_refl (f : Nat → Nat → Int32) : QN f f := ⟨QM_refl f, rfl⟩
theorem QN_trans {f f' f'' : Nat → Nat → Int32} (h : QN f f') (h' : QN f' f'') : QN f f'' := ⟨QM_trans h.1 h'.1, Eq.trans h'.2 h.2⟩
theorem QN_u18 (f : Nat → Nat → Int32) {i : Nat} (v : Int32) (h : 29 ≤ i) : QN f (en_u1 f 18 i v) := ⟨QM_u18 f v h, u1_p _ _ _ (by omega)⟩
theorem QN_MFr {f f' : Nat → Nat → Int32} (h : MFr 29 f f') : QN f f' := ⟨QM_MFr h, h.1 26 (by omega) (by omega) (by omega) (by omega)⟩
theorem QN_18 {f f' : Nat → Nat → Int32} (h : ∀ p, p ≠ 18 → f' p = f p) (h' : ∀ i, i < 29 → f' 18 i = f 18 i) : QN f f' := ⟨QM_18 h h', h 26 (by omega)⟩
theorem m_isSeenN {A : mu_A} {r : mu_Rw} (f : Nat → Nat → Int32) (g : Nat → Nat → Int64) (ok : AOK A) (hM : MRel A f) (hR : MRw (aL A) 29 r f) (ro : rOK (aL A) r) : ∃ f' b, x_m_isSeen_0 (f, g) = rI (tb b) (f', g) ∧ (b = true ↔ alA A r) ∧ (b = true → ∀ x, x < lB (aL A) → f' 25 x = rW (sDn (aL A) r 5) x) ∧ QN f f' ∧ f' 0 0 = f 0 0 := by
  have lo := ok.1
  have so := ok.2.2.2.2.2.1
  rw [e_m_isSeen_0]
  have key : ∀ j k f1, k + j = 13 → MRw (aL A) 29 (sDn (aL A) r k) f1 → QN f f1 → f1 0 0 = f 0 0 → (∀ i, i < (aS A).1 → (aS A).2.2.1 i < k → rW (sDn (aL A) r ((aS A).2.2.1 i)) ((aS A).2.1 i) = nI ((aS A).2.2.2 i)) → (5 < k → ∀ x, x < lB (aL A) → f1 25 x = rW (sDn (aL A) r 5) x) → ∃ f' b, x_m_isSeen_2 (f1, g) (nI k) = rI (tb b) (f', g) ∧ (b = true ↔ alA A r) ∧ (b = true → ∀ x, x < lB (aL A) → f' 25 x = rW (sDn (aL A) r 5) x) ∧ QN f f' ∧ f' 0 0 = f 0 0 := by
    intro j
    induction j with
    | zero =>
      intro k f1 hk R1 q1 z1 hb h5
      refine ⟨f1, true, ?_, ⟨fun _ i hi => hb i hi (by have := (so.2 i hi).2.1; omega), fun _ => rfl⟩, fun _ => h5 (by omega), q1, z1⟩
      rw [e_m_isSeen_2, if_pos (show (12 : Int32) < nI k by rw [q_12]; exact nI_lt (by omega) (by omega))]
      rfl
    | succ j ih =>
      intro k f1 hk R1 q1 z1 hb h5
      have M1 := MRel_Q ok hM q1.1
      have ten := m_seen10 f1 g ok M1 R1 (k := k) (by omega)
      have h55 : f1 0 55 = nI (aS A).1 := M1.2.2.2.2.1.1
      rw [e_m_isSeen_2, if_neg (show ¬ (12 : Int32) < nI k by rw [q_12]; exact nI_nlt (by omega) (by omega))]
      by_cases all : ∀ i, i < (aS A).1 → (aS A).2.2.1 i = k → rW (sDn (aL A) r k) ((aS A).2.1 i) = nI ((aS A).2.2.2 i)
      · have go : ∀ f2, MRw (aL A) 29 (sDn (aL A) r k) f2 → QN f f2 → f2 0 0 = f 0 0 → (5 < k + 1 → ∀ x, x < lB (aL A) → f2 25 x = rW (sDn (aL A) r 5) x) → ∃ f' b, en_cV (x_m_dayGoes_0 (f2, g) 29) (fun σ1 => x_m_isSeen_2 σ1 (nI k + 1)) (fun e σ => some (.inr e, σ)) = rI (tb b) (f', g) ∧ (b = true ↔ alA A r) ∧ (b = true → ∀ x, x < lB (aL A) → f' 25 x = rW (sDn (aL A) r 5) x) ∧ QN f f' ∧ f' 0 0 = f 0 0 := by
          intro f2 R2 q2 z2 h25
          have M2 := MRel_Q ok hM q2.1
          obtain ⟨f3, e3, R3, F3, _, _⟩ := m_dayGoes (f2, g) lo (Nat.le_refl 29) M2.1 R2 (rOK_sDn lo ro k)
          have q3 := QN_trans q2 (QN_MFr F3)
          obtain ⟨f', b, w1, w2, w3, w4, w5⟩ := ih (k + 1) f3 (by omega) R3 q3 (by rw [F3.2.1 0 (by omega) (by omega) (by omega)]; exact z2) (fun i hi hd => by
            by_cases e : (aS A).2.2.1 i = k
            · rw [e]; exact all i hi e
            · exact hb i hi (by omega)) (fun h x hx => by
            have e25 : f3 25 = f2 25 := F3.1 25 (by omega) (by omega) (by omega) (by omega)
            rw [e25]; exact h25 h x hx)
          refine ⟨f', b, ?_, w2, w3, w4, w5⟩
          rw [show x_m_dayGoes_0 (f2, g) 29 = _ from e3, c_V, nI_1]
          exact w1
        rw [show x_m_isSeen_10 (f1, g) (nI k) 0 = _ from ten.1 all, e_m_isSeen_10, if_pos (q_le h55)]
        by_cases k5 : k = 5
        · rw [if_pos (show nI k = 5 by rw [k5]; rfl)]
          obtain ⟨f2, e2, h2, g2⟩ := m_seen76 f1 g ok M1 R1 (nI k)
          rw [e2]
          have q2 : QN f1 f2 := ⟨⟨fun p _ _ _ _ _ _ a7 _ => g2 p (by omega), fun i _ _ _ _ _ => by rw [g2 0 (by omega)], fun i _ => by rw [g2 18 (by omega)]⟩, g2 26 (by omega)⟩
          refine go f2 (MRw_of R1 (fun i _ _ => by rw [g2 18 (by omega)]) lo) (QN_trans q1 q2) (by rw [g2 0 (by omega)]; exact z1) (fun _ x hx => ?_)
          have := h2 x hx
          rw [k5] at this
          exact this
        · rw [if_neg (show ¬ nI k = 5 by rw [q_5, q_eqI (by omega) (by omega)]; exact k5)]
          exact go f1 R1 q1 z1 (fun h => h5 (by omega))
      · rw [show x_m_isSeen_10 (f1, g) (nI k) 0 = _ from ten.2 all]
        refine ⟨f1, false, rfl, ⟨fun h => (by cases h), fun h => ?_⟩, fun h => (by cases h), q1, z1⟩
        refine absurd (fun i hi e => ?_) all
        have := h i hi
        rw [e] at this
        exact this
  exact key 13 0 f rfl hR (QN_refl f) rfl (fun i _ h => absurd h (Nat.not_lt_zero _)) (fun h => absurd h (by omega))
theorem m_isGuessN {A : mu_A} (f : Nat → Nat → Int32) (g : Nat → Nat → Int64) (ok : AOK A) (hM : MRel A f) {i : Nat} (hi : i < 99 * lB (aL A)) : ∃ f', x_m_isGuess_0 (f, g) (nI i) = rI (tb (gB A (i / 99) (i % 99 + 1))) (f', g) ∧ (gB A (i / 99) (i % 99 + 1) = true → ∀ y, y < lB (aL A) → f' 25 y = lat A y (if y = i / 99 then i % 99 + 1 else wN A y)) ∧ QN f f' ∧ f' 0 0 = f 0 0 := by
  have lo := ok.1
  have l1 := lo.1
  obtain ⟨x, hx0⟩ : ∃ x, x = i / 99 := ⟨_, rfl⟩
  obtain ⟨w, hw0⟩ : ∃ w, w = i % 99 + 1 := ⟨_, rfl⟩
  have hx : x < lB (aL A) := by omega
  have w1 : 1 ≤ w := by omega
  have w9 : w ≤ 99 := by omega
  obtain ⟨n1, n2, n3⟩ := wN_ok ok hx
  have hR := hM.2.2.1
  have hw18 : f 18 (1 + x) = nI (wN A x) := by
    have := hR.2.1 x hx
    rw [show 0 + 1 + x = 1 + x by omega] at this
    rw [this, n3]
  have dv : nI i / nI 99 = nI x := by rw [pk_div (by omega) (by omega) (by omega), hx0]
  have rm : nI i - nI x * nI 99 = nI (i % 99) := by rw [← dv, pk_rem (by omega) (by omega) (by omega)]
  have hw1 : i % 99 + 1 = w := hw0.symm
  rw [e_m_isGuess_0]
  simp (disch := omega) only [q_99, q_1, q_30, dv, rm, nI_add, q_in, q_clamp, if_true, hw18, hw1, q_eqI]
  rw [← hx0]
  by_cases c : wN A x = w
  · rw [if_pos c]
    have gf : gB A x w = false := by
      cases hb : gB A x w with
      | false => rfl
      | true => exact absurd c.symm ((gB_iff A x w).mp hb).2.1
    rw [gf]
    exact ⟨f, rfl, fun h => (by cases h), QN_refl f, rfl⟩
  · rw [if_neg c]
    obtain ⟨f1, e1, R1, g1, g2⟩ := m_tries (f, g) lo hR
    have ro2 := rOK_wW ok.2.2.2.1 w1 w9 (x := x)
    have q1 : QN f f1 := QN_18 g1 g2
    have q2 : QN f (en_u1 f1 18 (30 + x) (nI w)) := QN_trans q1 (QN_u18 _ _ (by omega))
    have M2 := MRel_Q ok hM q2.1
    have R2 : MRw (aL A) 29 (wW (aR A) x (nI w)) (en_u1 f1 18 (30 + x) (nI w)) := by
      have := MRw_uW lo R1 hx (nI w)
      rw [show 29 + 1 + x = 30 + x by omega] at this
      exact this
    obtain ⟨f3, b, w2, w3, w4, w5, w6⟩ := m_isSeenN _ g ok M2 R2 ro2
    have bg : b = gB A x w := by
      cases hb : gB A x w with
      | true => exact w3.mpr ((al_guess ok hx).mpr ((gB_iff A x w).mp hb)).2
      | false =>
        cases hb2 : b with
        | false => rfl
        | true =>
          have := (gB_iff A x w).mpr ((al_guess ok hx).mp ⟨fun e => c e.symm, w3.mp hb2⟩)
          rw [hb] at this
          cases this
    refine ⟨f3, ?_, fun h y hy => ?_, QN_trans q2 w5, by rw [w6, u1_ne _ _ (by omega), g1 0 (by omega)]⟩
    · rw [e1, c_V]
      show en_cI (x_m_isSeen_0 (en_u1 f1 18 (30 + x) (nI w), g)) _ _ = _
      rw [w2, c_I, ← bg, if_pos (by cases b <;> decide)]
      rfl
    · rw [w4 (by rw [bg]; exact h) y hy]
      by_cases e : y = x
      · rw [if_pos e, e]
        exact lc_w lo hx (lc_refl _ _ _) 5
      · rw [if_neg e]
        exact lc_w lo hy (lc_trans (lc_oth e (aR A) (nI w)) (lc_same (aR A) (wN_ok ok hy).2.2)) 5
/-- what is laid out of all guesses up to one -/
def rowsL (A : mu_A) (i : Nat) (f : Nat → Nat → Int32) : Prop := ∃ V : Nat → Nat → Nat, (∀ a, a < cFw A i → ∀ x, x < lB (aL A) → f 26 (6 * a + x) = nI (V a x) ∧ 1 ≤ V a x ∧ V a x ≤ 99) ∧ ∀ x, x < lB (aL A) → ∀ v, v ≤ 99 → ((∃ a, a < cFw A i ∧ V a x = v) ↔ ∃ j, j < i ∧ gI A j = true ∧ latI A j x = nI v)
theorem rowsL_n {A : mu_A} {i : Nat} {f f' : Nat → Nat → Int32} (h : rowsL A i f) (e : f' 26 = f 26) (hg : gI A i = false) : rowsL A (i + 1) f' := by
  obtain ⟨V, h1, h2⟩ := h
  have cs : cFw A (i + 1) = cFw A i := by
    rw [cFw_S, hg]; rfl
  refine ⟨V, fun a ha x hx => ?_, fun x hx v hv => ?_⟩
  · rw [cs] at ha
    rw [e]; exact h1 a ha x hx
  · rw [cs, h2 x hx v hv]
    constructor
    · intro ⟨j, j1, j2, j3⟩
      exact ⟨j, by omega, j2, j3⟩
    · intro ⟨j, j1, j2, j3⟩
      by_cases c : j = i
      · rw [c, hg] at j2; cases j2
      · exact ⟨j, by omega, j2, j3⟩
theorem rowsL_y {A : mu_A} {i : Nat} {f f' : Nat → Nat → Int32} (ok : AOK A) (h : rowsL A i f) (e : ∀ j, j < 6 * cFw A i → f' 26 j = f 26 j) (hg : gI A i = true) (hn : ∀ x, x < lB (aL A) → f' 26 (6 * cFw A i + x) = latI A i x) : rowsL A (i + 1) f' := by
  obtain ⟨V, h1, h2⟩ := h
  have l1 := ok.1.1
  have cs : cFw A (i + 1) = cFw A i + 1 := by
    rw [cFw_S, hg]; rfl
  have ex : ∀ x, ∃ v, x < lB (aL A) → 1 ≤ v ∧ v ≤ 99 ∧ latI A i x = nI v := fun x => by
    by_cases c : x < lB (aL A)
    · obtain ⟨v, a⟩ := latI_ok ok (i := i) c
      exact ⟨v, fun _ => a⟩
    · exact ⟨0, fun z => absurd z c⟩
  have W1 : ∀ x, x < lB (aL A) → 1 ≤ Classical.choose (ex x) ∧ Classical.choose (ex x) ≤ 99 ∧ latI A i x = nI (Classical.choose (ex x)) := fun x hx => Classical.choose_spec (ex x) hx
  obtain ⟨W, hW⟩ : ∃ W : Nat → Nat, ∀ x, x < lB (aL A) → 1 ≤ W x ∧ W x ≤ 99 ∧ latI A i x = nI (W x) := ⟨fun x => Classical.choose (ex x), W1⟩
  refine ⟨fun a x => if a = cFw A i then W x else V a x, fun a ha x hx => ?_, fun x hx v hv => ?_⟩
  · show f' 26 (6 * a + x) = nI (if a = cFw A i then W x else V a x) ∧ 1 ≤ (if a = cFw A i then W x else V a x) ∧ (if a = cFw A i then W x else V a x) ≤ 99
    obtain ⟨w1, w2, w3⟩ := hW x hx
    by_cases c : a = cFw A i
    · rw [if_pos c, c, hn x hx]
      exact ⟨w3, w1, w2⟩
    · rw [if_neg c]
      have ha' : a < cFw A i := by omega
      rw [e (6 * a + x) (by omega)]
      exact h1 a ha' x hx
  · obtain ⟨w1, w2, w3⟩ := hW x hx
    have h2x := h2 x hx v hv
    constructor
    · intro ⟨a, a1, a2⟩
      have a2' : (if a = cFw A i then W x else V a x) = v := a2
      by_cases c : a = cFw A i
      · rw [if_pos c] at a2'
        exact ⟨i, by omega, hg, by rw [w3, a2']⟩
      · rw [if_neg c] at a2'
        obtain ⟨j, j1, j2, j3⟩ := h2x.mp ⟨a, by omega, a2'⟩
        exact ⟨j, by omega, j2, j3⟩
    · intro ⟨j, j1, j2, j3⟩
      by_cases c : j = i
      · refine ⟨cFw A i, by omega, ?_⟩
        show (if cFw A i = cFw A i then W x else V (cFw A i) x) = v
        rw [if_pos rfl]
        rw [c, w3] at j3
        exact (nI_eq (by omega) (by omega)).mp j3
      · obtain ⟨a, a1, a2⟩ := h2x.mpr ⟨j, by omega, j2, j3⟩
        refine ⟨a, by omega, ?_⟩
        show (if a = cFw A i then W x else V a x) = v
        rw [if_neg (by omega)]
        exact a2
theorem rowsL_0 (A : mu_A) (f : Nat → Nat → Int32) : rowsL A 0 f := by
  have c0 : cFw A 0 = 0 := Nat.le_zero.mp (cFw_le A 0)
  refine ⟨fun _ _ => 0, fun a ha => ?_, fun x hx v hv => ?_⟩
  · rw [c0] at ha; exact absurd ha (Nat.not_lt_zero a)
  · constructor
    · intro ⟨a, a1, _⟩
      rw [c0] at a1; exact absurd a1 (Nat.not_lt_zero a)
    · intro ⟨j, j1, _⟩
      exact absurd j1 (Nat.not_lt_zero j)
theorem m_look45 {A : mu_A} (f : Nat → Nat → Int32) (g : Nat → Nat → Int64) (hB : f 0 3 = nI (lB (aL A))) (l1 : lB (aL A) ≤ 6) (v1 : Int32) {c i : Nat} (hc : c < 594) : ∃ f', x_m_look_45 (f, g) v1 (nI c) (nI i) 0 = x_m_look_20 (f', g) v1 (nI (c + 1)) (nI (i + 1)) ∧ (∀ x, x < lB (aL A) → f' 26 (6 * c + x) = f 25 x) ∧ (∀ j, j < 6 * c → f' 26 j = f 26 j) ∧ ∀ p, p ≠ 26 → f' p = f p := by
  obtain ⟨f', e1, h1, h2, h3⟩ := mu_inv (fun (f' : Nat → Nat → Int32) j => x_m_look_45 (f', g) v1 (nI c) (nI i) j) (fun n f' => (∀ x, x < n → f' 26 (6 * c + x) = f 25 x) ∧ (∀ j, j < 6 * c → f' 26 j = f 26 j) ∧ ∀ p, p ≠ 26 → f' p = f p) (lB (aL A)) f ⟨fun x hx => absurd hx (Nat.not_lt_zero x), fun _ _ => rfl, fun _ _ => rfl⟩ (by
    intro n a hn ⟨h1, h2, h3⟩
    have ha : a 0 3 = nI (lB (aL A)) := by rw [h3 0 (by omega)]; exact hB
    refine ⟨en_u1 a 26 (6 * c + n) (a 25 n), ?_, fun x hx => ?_, fun j hj => by rw [u1_ne _ _ (by omega)]; exact h2 j hj, fun p hp => by rw [u1_p _ _ _ hp, h3 p hp]⟩
    · show x_m_look_45 (a, g) v1 (nI c) (nI i) (nI n) = x_m_look_45 (en_u1 a 26 (6 * c + n) (a 25 n), g) v1 (nI c) (nI i) (nI (n + 1))
      rw [e_m_look_45, if_neg (show ¬ a 0 3 ≤ nI n by rw [ha]; exact nI_ge hn (by omega))]
      simp (disch := omega) only [q_6, pk_mul, nI_add, q_in, q_clamp, if_true, nI_1]
    · by_cases e : x = n
      · rw [e, u1_at, h3 25 (by omega)]
      · rw [u1_ne _ _ (by omega)]; exact h1 x (by omega))
  refine ⟨f', ?_, h1, h2, h3⟩
  refine Eq.trans e1 ?_
  show x_m_look_45 (f', g) v1 (nI c) (nI i) (nI (lB (aL A))) = _
  rw [e_m_look_45, if_pos (q_le (by show f' 0 3 = _; rw [h3 0 (by omega)]; exact hB)), nI_1, nI_1]
theorem m_look20 {A : mu_A} (f0 : Nat → Nat → Int32) (g : Nat → Nat → Int64) (ok : AOK A) (hM : MRel A f0) (v1 : Int32) : ∀ n i f, i + n = 99 * lB (aL A) → QM f0 f → f 0 0 = nI 0 → rowsL A i f → ∃ f', x_m_look_20 (f, g) v1 (nI (cFw A i)) (nI i) = x_m_look_96 (f', g) v1 (nI (cFw A (99 * lB (aL A)))) (-1) 0 0 ∧ QM f0 f' ∧ f' 0 0 = nI 0 ∧ rowsL A (99 * lB (aL A)) f' := by
  have lo := ok.1
  have l1 := lo.1
  have h99 : ∀ f, QM f0 f → (99 : Int32) * f 0 3 = nI (99 * lB (aL A)) := fun f q => by
    have : f 0 3 = nI (lB (aL A)) := (MRel_Q ok hM q).1.1
    rw [this, q_99, pk_mul]
  intro n
  induction n with
  | zero =>
    intro i f hi q z hr
    have hi' : i = 99 * lB (aL A) := by omega
    refine ⟨f, ?_, q, z, by rw [← hi']; exact hr⟩
    rw [e_m_look_20, if_pos (show (99 : Int32) * f 0 3 ≤ nI i by rw [h99 f q, hi']; exact Int32.le_refl _), hi']
  | succ n ih =>
    intro i f hi q z hr
    have M := MRel_Q ok hM q
    obtain ⟨f1, e1, h25, q1, z1⟩ := m_isGuessN f g ok M (i := i) (by omega)
    have q2 := QM_trans q q1.1
    have cs := cFw_S A i
    have cl := cFw_le A i
    have e1' : x_m_isGuess_0 (f, g) (nI i) = rI (tb (gI A i)) (f1, g) := e1
    rw [e_m_look_20, if_neg (show ¬ (99 : Int32) * f 0 3 ≤ nI i by rw [h99 f q]; exact nI_ge (by omega) (by omega)), e1', c_I]
    cases hg : gI A i with
    | false =>
      rw [hg] at cs
      have cs' : cFw A (i + 1) = cFw A i := cs
      obtain ⟨f2, e2, q3, z3, r3⟩ := ih (i + 1) f1 (by omega) q2 (by rw [z1]; exact z) (rowsL_n hr q1.2 hg)
      refine ⟨f2, ?_, q3, z3, r3⟩
      rw [if_pos (show tb false = 0 from rfl), nI_1, ← cs', e2]
    | true =>
      rw [hg] at cs
      have cs' : cFw A (i + 1) = cFw A i + 1 := cs
      have h25' : ∀ y, y < lB (aL A) → f1 25 y = latI A i y := h25 hg
      have hB1 : f1 0 3 = nI (lB (aL A)) := (MRel_Q ok hM q2).1.1
      obtain ⟨f2, e2, p1, p2, p3⟩ := m_look45 f1 g hB1 l1 v1 (c := cFw A i) (i := i) (by omega)
      have q3 : QM f1 f2 := ⟨fun p _ _ _ _ _ _ _ a8 => p3 p a8, fun k _ _ _ _ _ => by rw [p3 0 (by omega)], fun k _ => by rw [p3 18 (by omega)]⟩
      obtain ⟨f3, e3, q4, z4, r4⟩ := ih (i + 1) f2 (by omega) (QM_trans q2 q3) (by rw [p3 0 (by omega), z1]; exact z) (rowsL_y ok hr (fun j hj => by rw [p2 j hj, q1.2]) hg (fun x hx => by rw [p1 x hx]; exact h25' x hx))
      refine ⟨f3, ?_, q4, z4, r4⟩
      rw [if_neg (by decide), e2, ← cs', e3]
/-! counting the unlike ones -/
theorem m_look123 (f : Nat → Nat → Int32) (g : Nat → Nat → Int64) (v1 v3 v4 : Int32) {x m s a : Nat} (U : Nat → Nat) (hm : m ≤ 594) (hx : x < 6) (ha : a < m) (hU : ∀ j, j < m → f 26 (6 * j + x) = nI (U j) ∧ U j ≤ 99) : x_m_look_123 (f, g) v1 (nI m) v3 v4 (nI x) (nI s) (nI a) 1 0 = x_m_look_111 (f, g) v1 (nI m) v3 v4 (nI x) (nI (s + (nbB U a a).toNat)) (nI (a + 1)) := by
  have fin : x_m_look_123 (f, g) v1 (nI m) v3 v4 (nI x) (nI s) (nI a) (tb (nbB U a a)) (nI a) = x_m_look_111 (f, g) v1 (nI m) v3 v4 (nI x) (nI (s + (nbB U a a).toNat)) (nI (a + 1)) := by
    rw [e_m_look_123, if_pos (Int32.le_refl _)]
    cases nbB U a a with
    | false =>
      rw [if_pos (show tb false = 0 from rfl)]
      show x_m_look_111 (f, g) v1 (nI m) v3 v4 (nI x) (nI s + nI 0) (nI a + 1) = x_m_look_111 (f, g) v1 (nI m) v3 v4 (nI x) (nI (s + 0)) (nI (a + 1))
      rw [nI_add, nI_1]
    | true =>
      rw [if_neg (by decide)]
      show x_m_look_111 (f, g) v1 (nI m) v3 v4 (nI x) (nI s + 1) (nI a + 1) = x_m_look_111 (f, g) v1 (nI m) v3 v4 (nI x) (nI (s + 1)) (nI (a + 1))
      simp only [nI_1]
  have key : ∀ n b, b + n = a → x_m_look_123 (f, g) v1 (nI m) v3 v4 (nI x) (nI s) (nI a) (tb (nbB U a b)) (nI b) = x_m_look_111 (f, g) v1 (nI m) v3 v4 (nI x) (nI (s + (nbB U a a).toNat)) (nI (a + 1)) := by
    intro n
    induction n with
    | zero =>
      intro b hb
      have hb' : b = a := by omega
      rw [hb']; exact fin
    | succ n ih =>
      intro b hb
      obtain ⟨ua, _⟩ := hU a ha
      obtain ⟨ub, _⟩ := hU b (by omega)
      cases hq : nbB U a b with
      | false =>
        have fa : nbB U a a = false := by
          have := nbB_f U hq (n + 1)
          rw [hb] at this
          exact this
        rw [fa, e_m_look_123, if_neg (show ¬ nI a ≤ nI b from nI_ge (by omega) (by omega)), if_pos (show tb false = 0 from rfl), if_pos (show tb false = 0 from rfl)]
        show x_m_look_111 (f, g) v1 (nI m) v3 v4 (nI x) (nI s + nI 0) (nI a + 1) = x_m_look_111 (f, g) v1 (nI m) v3 v4 (nI x) (nI (s + 0)) (nI (a + 1))
        rw [nI_add, nI_1]
      | true =>
        have st : x_m_look_123 (f, g) v1 (nI m) v3 v4 (nI x) (nI s) (nI a) (tb true) (nI b) = if U a = U b then x_m_look_123 (f, g) v1 (nI m) v3 v4 (nI x) (nI s) (nI a) 0 (nI (b + 1)) else x_m_look_123 (f, g) v1 (nI m) v3 v4 (nI x) (nI s) (nI a) 1 (nI (b + 1)) := by
          have ua9 := (hU a ha).2
          have ub9 := (hU b (by omega)).2
          rw [e_m_look_123, if_neg (show ¬ nI a ≤ nI b from nI_ge (by omega) (by omega)), if_neg (by decide)]
          simp (disch := omega) only [q_6, pk_mul, nI_add, q_in, q_clamp, if_true, ua, ub, q_eqI, nI_1]
        rw [st]
        have ns := nbB_S U a b
        rw [hq] at ns
        have i2 := ih (b + 1) (by omega)
        by_cases c : U a = U b
        · rw [if_pos c]
          have ns' : nbB U a (b + 1) = false := by rw [ns, decide_eq_false (fun z => z c)]; rfl
          rw [ns'] at i2
          exact i2
        · rw [if_neg c]
          have ns' : nbB U a (b + 1) = true := by rw [ns, decide_eq_true c]; rfl
          rw [ns'] at i2
          exact i2
  exact key a 0 (by omega)
theorem m_look111 (f : Nat → Nat → Int32) (g : Nat → Nat → Int64) (v1 v3 v4 : Int32) {x m : Nat} (U : Nat → Nat) (hm : m ≤ 594) (hx : x < 6) (hU : ∀ j, j < m → f 26 (6 * j + x) = nI (U j) ∧ U j ≤ 99) : x_m_look_111 (f, g) v1 (nI m) v3 v4 (nI x) 0 0 = if v4 < nI (foS U m) then x_m_look_96 (f, g) v1 (nI m) (nI x) (nI (foS U m)) (nI (x + 1)) else x_m_look_96 (f, g) v1 (nI m) v3 v4 (nI (x + 1)) := by
  have key : ∀ a, a ≤ m → x_m_look_111 (f, g) v1 (nI m) v3 v4 (nI x) 0 0 = x_m_look_111 (f, g) v1 (nI m) v3 v4 (nI x) (nI (foS U a)) (nI a) := by
    intro a
    induction a with
    | zero => intro _; rfl
    | succ a ih =>
      intro ha
      rw [ih (by omega), e_m_look_111, if_neg (show ¬ nI m ≤ nI a from nI_ge (by omega) (by omega)), m_look123 f g v1 v3 v4 (s := foS U a) (a := a) U hm hx (by omega) hU, foS_S]
  rw [key m (Nat.le_refl _), e_m_look_111, if_pos (Int32.le_refl _), nI_1]
theorem rowsL_u {A : mu_A} {f : Nat → Nat → Int32} (h : rowsL A (99 * lB (aL A)) f) {x : Nat} (hx : x < lB (aL A)) : ∃ U : Nat → Nat, (∀ j, j < cFw A (99 * lB (aL A)) → f 26 (6 * j + x) = nI (U j) ∧ U j ≤ 99) ∧ foS U (cFw A (99 * lB (aL A))) = uSl A x := by
  obtain ⟨V, h1, h2⟩ := h
  refine ⟨fun a => V a x, fun j hj => ⟨(h1 j hj x hx).1, (h1 j hj x hx).2.2⟩, ?_⟩
  rw [foS_im (fun a => V a x) (cFw A (99 * lB (aL A))) (fun a ha => ⟨(h1 a ha x hx).2.1, (h1 a ha x hx).2.2⟩)]
  unfold uSl
  refine sumV_eq 99 (fun v v1 v9 => bool_eq ?_)
  rw [imB_iff, mkA_iff]
  exact h2 x hx v v9
theorem m_look96 {A : mu_A} (f : Nat → Nat → Int32) (g : Nat → Nat → Int64) (ok : AOK A) (hB : f 0 3 = nI (lB (aL A))) (hr : rowsL A (99 * lB (aL A)) f) (v1 : Int32) : x_m_look_96 (f, g) v1 (nI (cFw A (99 * lB (aL A)))) (-1) 0 0 = rI (if v1 = 0 then (bst A (lB (aL A))).1 else nI (bst A (lB (aL A))).2) (f, g) := by
  have l1 := ok.1.1
  have cl := cFw_le A (99 * lB (aL A))
  have key : ∀ x, x ≤ lB (aL A) → x_m_look_96 (f, g) v1 (nI (cFw A (99 * lB (aL A)))) (-1) 0 0 = x_m_look_96 (f, g) v1 (nI (cFw A (99 * lB (aL A)))) (bst A x).1 (nI (bst A x).2) (nI x) := by
    intro x
    induction x with
    | zero => intro _; rfl
    | succ x ih =>
      intro hx
      obtain ⟨U, u1, u2⟩ := rowsL_u hr (x := x) (by omega)
      have bl := bst_le A x
      have ul : uSl A x ≤ 99 := sumV_le (mkA A x) 99
      rw [ih (by omega), e_m_look_96, if_neg (show ¬ f 0 3 ≤ nI x by rw [hB]; exact nI_ge (by omega) (by omega)), m_look111 f g v1 (bst A x).1 (nI (bst A x).2) U (by omega) (by omega) u1, u2, bst_S]
      by_cases c : (bst A x).2 < uSl A x
      · rw [if_pos c, if_pos (nI_lt c (by omega))]
      · rw [if_neg c, if_neg (show ¬ nI (bst A x).2 < nI (uSl A x) from nI_nlt (by omega) (by omega))]
  rw [key _ (Nat.le_refl _), e_m_look_96, if_pos (q_le hB)]
  by_cases c : v1 = 0
  · rw [if_pos c, if_pos c]; rfl
  · rw [if_neg c, if_neg c]; rfl
theorem q_look {A : mu_A} {f : Nat → Nat → Int32} (ok : AOK A) (hM : MRel A f) (hC : CRel A f) (v1 : Int32) : Qn f (fun σ => x_b_look_0 σ v1) (fun σ => x_m_look_0 σ v1) id := by
  have lo := ok.1
  have l1 := lo.1
  rcases ok_badR v1 (a := 0) (b := 1) (by omega) (by omega) with bd0 | ⟨w, _, hw, rfl⟩
  · refine Qn_err ok hM 1 (by omega) ?_ ?_
    · intro g
      show x_b_look_0 (f, g) v1 = _
      rw [e_b_look_0, show x_b_checkWhat_0 (f, g) v1 1 = _ from c_checkWhatN (f, g) (b := 1) bd0, c_Vx]
    · intro f0 f2 g M0 h0 e0
      show x_m_look_0 (f2, g) v1 = _
      rw [e_m_look_0]
      dsimp only
      rw [← e0, show x_m_isWhat_0 (f0, g) v1 1 = _ from m_isWhatN f0 g (b := 1) h0 bd0, c_I, if_pos (by decide)]
      rfl
  · refine Qn_val ok hM rfl (if nI w = 0 then (bst A (lB (aL A))).1 else nI (bst A (lB (aL A))).2) ?_ ?_
    · intro g
      show ∃ f', x_b_look_0 (f, g) (nI w) = rI _ (f', g) ∧ _
      obtain ⟨f1, e1, t1, F1⟩ := c_tryAll f g ok hC
      obtain ⟨f2, e2, b1, b2, F2⟩ := c_compare f1 g ok (FS_C ok hC F1) t1
      refine ⟨f2, ?_, fun p a b c d => by rw [FS_QC F2 p a b c d]; exact FS_QC F1 p a b c d⟩
      rw [e_b_look_0, show x_b_checkWhat_0 (f, g) (nI w) 1 = _ from c_checkWhatY (f, g) (b := 1) hw (by omega), c_V, e1, c_V, e2, c_V]
      by_cases w0 : nI w = 0
      · rw [if_pos w0, if_pos w0]
        show rI (f2 100 7) (f2, g) = _
        rw [b1]
      · rw [if_neg w0, if_neg w0]
        show rI (f2 100 8) (f2, g) = _
        rw [b2]
    · intro f0 f2 g M0 h0 e0
      show ∃ f3, x_m_look_0 (f2, g) (nI w) = rI _ (f3, g) ∧ _
      obtain ⟨f3, e3, q3, z3, r3⟩ := m_look20 f0 g ok M0 (nI w) (99 * lB (aL A)) 0 f0 (by omega) (QM_refl f0) h0 (rowsL_0 A f0)
      refine ⟨f3, ?_, z3, q3⟩
      rw [e_m_look_0]
      dsimp only
      rw [← e0, show x_m_isWhat_0 (f0, g) (nI w) 1 = _ from m_isWhatY f0 g (b := 1) h0 hw (by omega), c_I, if_neg (by decide)]
      have c0 : cFw A 0 = 0 := Nat.le_zero.mp (cFw_le A 0)
      rw [c0] at e3
      have e3' : x_m_look_20 (f0, g) (nI w) 0 0 = _ := e3
      refine Eq.trans e3' ?_
      exact m_look96 f3 g ok (MRel_Q ok M0 q3).1.1 r3 (nI w)
