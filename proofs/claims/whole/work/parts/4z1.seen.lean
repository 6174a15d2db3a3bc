/-! what was seen: the model -/
def alA (A : mu_A) (r : mu_Rw) : Prop := ∀ i, i < (aS A).1 → rW (sDn (aL A) r ((aS A).2.2.1 i)) ((aS A).2.1 i) = nI ((aS A).2.2.2 i)
theorem m_seen10 {A : mu_A} {r : mu_Rw} (f : Nat → Nat → Int32) (g : Nat → Nat → Int64) (ok : AOK A) (hM : MRel A f) (hR : MRw (aL A) 29 r f) {k : Nat} (hk : k ≤ 12) : ((∀ i, i < (aS A).1 → (aS A).2.2.1 i = k → rW r ((aS A).2.1 i) = nI ((aS A).2.2.2 i)) → x_m_isSeen_10 (f, g) (nI k) (nI 0) = x_m_isSeen_10 (f, g) (nI k) (nI (aS A).1)) ∧ (¬ (∀ i, i < (aS A).1 → (aS A).2.2.1 i = k → rW r ((aS A).2.1 i) = nI ((aS A).2.2.2 i)) → x_m_isSeen_10 (f, g) (nI k) (nI 0) = rI (nI 0) (f, g)) := by
  have lo := ok.1
  have l1 := lo.1
  have so := ok.2.2.2.2.2.1
  have s8 := so.1
  have hS := hM.2.2.2.2.1
  have h55 : f 0 55 = nI (aS A).1 := hS.1
  have step : ∀ i, i < (aS A).1 → x_m_isSeen_10 (f, g) (nI k) (nI i) = if (aS A).2.2.1 i = k then (if rW r ((aS A).2.1 i) = nI ((aS A).2.2.2 i) then x_m_isSeen_10 (f, g) (nI k) (nI (i + 1)) else rI (nI 0) (f, g)) else x_m_isSeen_10 (f, g) (nI k) (nI (i + 1)) := by
    intro i hi
    obtain ⟨b1, b2, b3⟩ := hS.2 i hi
    obtain ⟨o1, o2, o3, o4⟩ := so.2 i hi
    have hw : f 18 (30 + (aS A).2.1 i) = rW r ((aS A).2.1 i) := by
      have := hR.2.1 ((aS A).2.1 i) o1
      rw [show 29 + 1 + (aS A).2.1 i = 30 + (aS A).2.1 i by omega] at this
      exact this
    rw [e_m_isSeen_10, if_neg (show ¬ f 0 55 ≤ nI i by rw [h55]; exact nI_ge hi (by omega))]
    simp (disch := omega) only [q_0, q_1, q_2, q_3, q_4, q_5, q_6, q_7, q_8, q_9, q_10, q_11, q_12, q_13, q_14, q_15, q_16, q_17, q_18, q_19, q_20, q_21, q_22, q_23, q_24, q_29, q_30, q_31, q_36, q_42, q_50, q_40, q_48, q_96, q_97, q_99, q_100, q_255, q_256, q_700, q_999, q_1160, q_1400, q_99999, q_m1, pk_mul, nI_add, q_in, q_clamp, if_true, b1, b2, b3, q_eqI, hw]
    rfl
  constructor
  · intro h
    have key : ∀ n, n ≤ (aS A).1 → x_m_isSeen_10 (f, g) (nI k) (nI 0) = x_m_isSeen_10 (f, g) (nI k) (nI n) := by
      intro n
      induction n with
      | zero => intro _; rfl
      | succ n ih =>
        intro hn
        rw [ih (by omega), step n (by omega)]
        by_cases c : (aS A).2.2.1 n = k
        · rw [if_pos c, if_pos (h n (by omega) c)]
        · rw [if_neg c]
    exact key _ (Nat.le_refl _)
  · intro h
    have key : ∀ j n, n + j = (aS A).1 → (∀ i, i < n → (aS A).2.2.1 i = k → rW r ((aS A).2.1 i) = nI ((aS A).2.2.2 i)) → x_m_isSeen_10 (f, g) (nI k) (nI n) = rI (nI 0) (f, g) := by
      intro j
      induction j with
      | zero =>
        intro n hn hb
        exact absurd (fun i hi => hb i (by omega)) h
      | succ j ih =>
        intro n hn hb
        rw [step n (by omega)]
        by_cases c : (aS A).2.2.1 n = k
        · rw [if_pos c]
          by_cases d : rW r ((aS A).2.1 n) = nI ((aS A).2.2.2 n)
          · rw [if_pos d]
            refine ih (n + 1) (by omega) (fun i hi e => ?_)
            by_cases z : i = n
            · rw [z]; exact d
            · exact hb i (by omega) e
          · rw [if_neg d]
        · rw [if_neg c]
          refine ih (n + 1) (by omega) (fun i hi e => ?_)
          by_cases z : i = n
          · rw [z] at e; exact absurd e c
          · exact hb i (by omega) e
    exact key (aS A).1 0 (by omega) (fun i hi => absurd hi (Nat.not_lt_zero i))
theorem m_seen76 {A : mu_A} {r : mu_Rw} (f : Nat → Nat → Int32) (g : Nat → Nat → Int64) (ok : AOK A) (hM : MRel A f) (hR : MRw (aL A) 29 r f) (v : Int32) : ∃ f', x_m_isSeen_76 (f, g) v 0 = en_cV (x_m_dayGoes_0 (f', g) 29) (fun σ1 => x_m_isSeen_2 σ1 (v + 1)) (fun e σ => some (.inr e, σ)) ∧ (∀ x, x < lB (aL A) → f' 25 x = rW r x) ∧ ∀ p, p ≠ 25 → f' p = f p := by
  have lo := ok.1
  have l1 := lo.1
  have h3 : f 0 3 = nI (lB (aL A)) := hM.1.1
  obtain ⟨f', e1, h1, h2⟩ := mu_inv (fun (f' : Nat → Nat → Int32) i => x_m_isSeen_76 (f', g) v i) (fun n f' => (∀ x, x < n → f' 25 x = rW r x) ∧ ∀ p, p ≠ 25 → f' p = f p) (lB (aL A)) f ⟨fun i hi => absurd hi (Nat.not_lt_zero i), fun _ _ => rfl⟩ (by
    intro n a hn ⟨h1, h2⟩
    have ha : a 0 3 = nI (lB (aL A)) := by rw [h2 0 (by omega)]; exact h3
    have hw : a 18 (30 + n) = rW r n := by
      rw [h2 18 (by omega)]
      have := hR.2.1 n hn
      rw [show 29 + 1 + n = 30 + n by omega] at this
      exact this
    refine ⟨en_u1 a 25 n (rW r n), ?_, fun x hx => ?_, fun p hp => by rw [u1_p _ _ _ hp, h2 p hp]⟩
    · show x_m_isSeen_76 (a, g) v (nI n) = x_m_isSeen_76 (en_u1 a 25 n (rW r n), g) v (nI (n + 1))
      rw [e_m_isSeen_76, if_neg (show ¬ a 0 3 ≤ nI n by rw [ha]; exact nI_ge hn (by omega))]
      simp (disch := omega) only [q_30, nI_add, q_in, q_clamp, if_true, hw, nI_1]
    · rw [u1_if]
      by_cases e : x = n
      · rw [if_pos e, e]
      · rw [if_neg e]; exact h1 x (by omega))
  refine ⟨f', ?_, h1, h2⟩
  refine Eq.trans e1 ?_
  show x_m_isSeen_76 (f', g) v (nI (lB (aL A))) = _
  rw [e_m_isSeen_76, if_pos (q_le (by show f' 0 3 = _; rw [h2 0 (by omega)]; exact h3))]
theorem m_isSeen {A : mu_A} {r : mu_Rw} (f : Nat → Nat → Int32) (g : Nat → Nat → Int64) (ok : AOK A) (hM : MRel A f) (hR : MRw (aL A) 29 r f) (ro : rOK (aL A) r) : ∃ f' b, x_m_isSeen_0 (f, g) = rI (tb b) (f', g) ∧ (b = true ↔ alA A r) ∧ (b = true → ∀ x, x < lB (aL A) → f' 25 x = rW (sDn (aL A) r 5) x) ∧ QM f f' ∧ f' 0 0 = f 0 0 := by
  have lo := ok.1
  have so := ok.2.2.2.2.2.1
  rw [e_m_isSeen_0]
  have key : ∀ j k f1, k + j = 13 → MRw (aL A) 29 (sDn (aL A) r k) f1 → QM f f1 → f1 0 0 = f 0 0 → (∀ i, i < (aS A).1 → (aS A).2.2.1 i < k → rW (sDn (aL A) r ((aS A).2.2.1 i)) ((aS A).2.1 i) = nI ((aS A).2.2.2 i)) → (5 < k → ∀ x, x < lB (aL A) → f1 25 x = rW (sDn (aL A) r 5) x) → ∃ f' b, x_m_isSeen_2 (f1, g) (nI k) = rI (tb b) (f', g) ∧ (b = true ↔ alA A r) ∧ (b = true → ∀ x, x < lB (aL A) → f' 25 x = rW (sDn (aL A) r 5) x) ∧ QM f f' ∧ f' 0 0 = f 0 0 := by
    intro j
    induction j with
    | zero =>
      intro k f1 hk R1 q1 z1 hb h5
      refine ⟨f1, true, ?_, ⟨fun _ i hi => hb i hi (by have := (so.2 i hi).2.1; omega), fun _ => rfl⟩, fun _ => h5 (by omega), q1, z1⟩
      rw [e_m_isSeen_2, if_pos (show (12 : Int32) < nI k by rw [q_12]; exact nI_lt (by omega) (by omega))]
      rfl
    | succ j ih =>
      intro k f1 hk R1 q1 z1 hb h5
      have M1 := MRel_Q ok hM q1
      have ten := m_seen10 f1 g ok M1 R1 (k := k) (by omega)
      have h55 : f1 0 55 = nI (aS A).1 := M1.2.2.2.2.1.1
      rw [e_m_isSeen_2, if_neg (show ¬ (12 : Int32) < nI k by rw [q_12]; exact nI_nlt (by omega) (by omega))]
      by_cases all : ∀ i, i < (aS A).1 → (aS A).2.2.1 i = k → rW (sDn (aL A) r k) ((aS A).2.1 i) = nI ((aS A).2.2.2 i)
      · have go : ∀ f2, MRw (aL A) 29 (sDn (aL A) r k) f2 → QM f f2 → f2 0 0 = f 0 0 → (5 < k + 1 → ∀ x, x < lB (aL A) → f2 25 x = rW (sDn (aL A) r 5) x) → ∃ f' b, en_cV (x_m_dayGoes_0 (f2, g) 29) (fun σ1 => x_m_isSeen_2 σ1 (nI k + 1)) (fun e σ => some (.inr e, σ)) = rI (tb b) (f', g) ∧ (b = true ↔ alA A r) ∧ (b = true → ∀ x, x < lB (aL A) → f' 25 x = rW (sDn (aL A) r 5) x) ∧ QM f f' ∧ f' 0 0 = f 0 0 := by
          intro f2 R2 q2 z2 h25
          have M2 := MRel_Q ok hM q2
          obtain ⟨f3, e3, R3, F3, _, _⟩ := m_dayGoes (f2, g) lo (Nat.le_refl 29) M2.1 R2 (rOK_sDn lo ro k)
          have q3 := QM_trans q2 (QM_MFr F3)
          obtain ⟨f', b, w1, w2, w3, w4, w5⟩ := ih (k + 1) f3 (by omega) R3 q3 (by rw [F3.2.1 0 (by omega) (by omega) (by omega)]; exact z2) (fun i hi hd => by
            by_cases e : (aS A).2.2.1 i = k
            · rw [e]; exact all i hi e
            · exact hb i hi (by omega)) (fun h x hx => by
            have e25 : f3 25 = f2 25 := F3.1 25 (by omega) (by omega) (by omega) (by omega)
            rw [e25]; exact h25 h x hx)
          refine ⟨f', b, ?_, w2, w3, w4, w5⟩
          rw [show x_m_dayGoes_0 (f2, g) 29 = _ from e3, c_V, nI_1]
          exact w1
        rw [show x_m_isSeen_10 (f1, g) (nI k) 0 = _ from ten.1 all, e_m_isSeen_10, if_pos (q_le h55)]
        by_cases k5 : k = 5
        · rw [if_pos (show nI k = 5 by rw [k5]; rfl)]
          obtain ⟨f2, e2, h2, g2⟩ := m_seen76 f1 g ok M1 R1 (nI k)
          rw [e2]
          have q2 : QM f1 f2 := ⟨fun p _ _ _ _ _ _ a7 _ => g2 p (by omega), fun i _ _ _ _ _ => by rw [g2 0 (by omega)], fun i _ => by rw [g2 18 (by omega)]⟩
          refine go f2 (MRw_of R1 (fun i _ _ => by rw [g2 18 (by omega)]) lo) (QM_trans q1 q2) (by rw [g2 0 (by omega)]; exact z1) (fun _ x hx => ?_)
          have := h2 x hx
          rw [k5] at this
          exact this
        · rw [if_neg (show ¬ nI k = 5 by rw [q_5, q_eqI (by omega) (by omega)]; exact k5)]
          exact go f1 R1 q1 z1 (fun h => h5 (by omega))
      · rw [show x_m_isSeen_10 (f1, g) (nI k) 0 = _ from ten.2 all]
        refine ⟨f1, false, rfl, ⟨fun h => (by cases h), fun h => ?_⟩, fun h => (by cases h), q1, z1⟩
        refine absurd (fun i hi e => ?_) all
        have := h i hi
        rw [e] at this
        exact this
  exact key 13 0 f rfl hR (QM_refl f) rfl (fun i _ h => absurd h (Nat.not_lt_zero _)) (fun h => absurd h (by omega))
/-- all boxes against each box alone -/
theorem lc_same {Λ : mu_Ld} {x : Nat} (r : mu_Rw) {v : Int32} (h : rW r x = v) : lc Λ x r (wW r x v) := by
  refine ⟨rfl, ?_, rfl, fun _ _ => ⟨rfl, fun _ => rfl⟩⟩
  show rW r x = upd (rW r) x v x
  rw [upd_if, if_pos rfl, h]
theorem wWx (r : mu_Rw) (x : Nat) (v : Int32) : rW (wW r x v) x = v := by
  show upd (rW r) x v x = v
  rw [upd_if, if_pos rfl]
theorem alA_iff {A : mu_A} (ok : AOK A) (r' : mu_Rw) (W : Nat → Nat) (hW : ∀ y, y < lB (aL A) → lc (aL A) y r' (wW (aR A) y (nI (W y)))) : alA A r' ↔ ∀ y, y < lB (aL A) → agW A y (W y) := by
  have lo := ok.1
  have so := ok.2.2.2.2.2.1
  constructor
  · intro h y hy i hi e
    show rW (soN (aL A) y (wW (aR A) y (nI (W y))) ((aS A).2.2.1 i)) y = nI ((aS A).2.2.2 i)
    rw [← lc_w lo hy (hW y hy)]
    have := h i hi
    rw [e] at this
    exact this
  · intro h i hi
    have o1 := (so.2 i hi).1
    rw [lc_w lo o1 (hW _ o1)]
    exact h _ o1 i hi rfl
theorem al_now {A : mu_A} (ok : AOK A) : alA A (aR A) ↔ ∀ y, y < lB (aL A) → agW A y (wN A y) := alA_iff ok (aR A) (wN A) (fun y hy => lc_same (aR A) (wN_ok ok hy).2.2)
theorem al_guess {A : mu_A} (ok : AOK A) {x w : Nat} (hx : x < lB (aL A)) : (w ≠ wN A x ∧ alA A (wW (aR A) x (nI w))) ↔ gOs A x w := by
  have h := alA_iff ok (wW (aR A) x (nI w)) (updN (wN A) x w) (fun y hy => by
    by_cases e : y = x
    · rw [e, updN_at]; exact lc_refl _ _ _
    · rw [updN_ne _ _ e]
      exact lc_trans (lc_oth e (aR A) (nI w)) (lc_same (aR A) (wN_ok ok hy).2.2))
  unfold gOs
  constructor
  · intro ⟨h1, h2⟩
    have h3 := h.mp h2
    refine ⟨fun y hy e => ?_, h1, ?_⟩
    · have := h3 y hy
      rw [updN_ne _ _ e] at this
      exact this
    · have := h3 x hx
      rw [updN_at] at this
      exact this
  · intro ⟨h1, h2, h3⟩
    refine ⟨h2, h.mpr (fun y hy => ?_)⟩
    by_cases e : y = x
    · rw [e, updN_at]; exact h3
    · rw [updN_ne _ _ e]; exact h1 y hy e
/-- the weight of a box behind five days, by a weight now -/
noncomputable def lat (A : mu_A) (x w : Nat) : Int32 := rW (soN (aL A) x (wW (aR A) x (nI w)) 5) x
theorem lat_ok {A : mu_A} (ok : AOK A) {x w : Nat} (hx : x < lB (aL A)) (w1 : 1 ≤ w) (w9 : w ≤ 99) : ∃ v, 1 ≤ v ∧ v ≤ 99 ∧ lat A x w = nI v := (rOK_soN ok.1 hx (rOK_wW ok.2.2.2.1 w1 w9 (x := x)) 5).1 x hx
theorem m_isGuess {A : mu_A} (f : Nat → Nat → Int32) (g : Nat → Nat → Int64) (ok : AOK A) (hM : MRel A f) {i : Nat} (hi : i < 99 * lB (aL A)) : ∃ f', x_m_isGuess_0 (f, g) (nI i) = rI (tb (gB A (i / 99) (i % 99 + 1))) (f', g) ∧ (gB A (i / 99) (i % 99 + 1) = true → ∀ y, y < lB (aL A) → f' 25 y = lat A y (if y = i / 99 then i % 99 + 1 else wN A y)) ∧ QM f f' ∧ f' 0 0 = f 0 0 := by
  have lo := ok.1
  have l1 := lo.1
  obtain ⟨x, hx0⟩ : ∃ x, x = i / 99 := ⟨_, rfl⟩
  obtain ⟨w, hw0⟩ : ∃ w, w = i % 99 + 1 := ⟨_, rfl⟩
  have hx : x < lB (aL A) := by omega
  have w1 : 1 ≤ w := by omega
  have w9 : w ≤ 99 := by omega
  obtain ⟨n1, n2, n3⟩ := wN_ok ok hx
  have hR := hM.2.2.1
  have hw18 : f 18 (1 + x) = nI (wN A x) := by
    have := hR.2.1 x hx
    rw [show 0 + 1 + x = 1 + x by omega] at this
    rw [this, n3]
  have dv : nI i / nI 99 = nI x := by rw [pk_div (by omega) (by omega) (by omega), hx0]
  have rm : nI i - nI x * nI 99 = nI (i % 99) := by rw [← dv, pk_rem (by omega) (by omega) (by omega)]
  have hw1 : i % 99 + 1 = w := hw0.symm
  rw [e_m_isGuess_0]
  simp (disch := omega) only [q_99, q_1, q_30, dv, rm, nI_add, q_in, q_clamp, if_true, hw18, hw1, q_eqI]
  rw [← hx0]
  by_cases c : wN A x = w
  · rw [if_pos c]
    have gf : gB A x w = false := by
      cases hb : gB A x w with
      | false => rfl
      | true => exact absurd c.symm ((gB_iff A x w).mp hb).2.1
    rw [gf]
    exact ⟨f, rfl, fun h => (by cases h), QM_refl f, rfl⟩
  · rw [if_neg c]
    obtain ⟨f1, e1, R1, g1, g2⟩ := m_tries (f, g) lo hR
    have ro2 := rOK_wW ok.2.2.2.1 w1 w9 (x := x)
    have q1 : QM f f1 := QM_18 g1 g2
    have q2 : QM f (en_u1 f1 18 (30 + x) (nI w)) := QM_trans q1 (QM_u18 _ _ (by omega))
    have M2 := MRel_Q ok hM q2
    have R2 : MRw (aL A) 29 (wW (aR A) x (nI w)) (en_u1 f1 18 (30 + x) (nI w)) := by
      have := MRw_uW lo R1 hx (nI w)
      rw [show 29 + 1 + x = 30 + x by omega] at this
      exact this
    obtain ⟨f3, b, w2, w3, w4, w5, w6⟩ := m_isSeen _ g ok M2 R2 ro2
    have bg : b = gB A x w := by
      cases hb : gB A x w with
      | true => exact w3.mpr ((al_guess ok hx).mpr ((gB_iff A x w).mp hb)).2
      | false =>
        cases hb2 : b with
        | false => rfl
        | true =>
          have := (gB_iff A x w).mpr ((al_guess ok hx).mp ⟨fun e => c e.symm, w3.mp hb2⟩)
          rw [hb] at this
          cases this
    refine ⟨f3, ?_, fun h y hy => ?_, QM_trans q2 w5, by rw [w6, u1_ne _ _ (by omega), g1 0 (by omega)]⟩
    · rw [e1, c_V]
      show en_cI (x_m_isSeen_0 (en_u1 f1 18 (30 + x) (nI w), g)) _ _ = _
      rw [w2, c_I, ← bg, if_pos (by cases b <;> decide)]
      rfl
    · rw [w4 (by rw [bg]; exact h) y hy]
      by_cases e : y = x
      · rw [if_pos e, e]
        exact lc_w lo hx (lc_refl _ _ _) 5
      · rw [if_neg e]
        exact lc_w lo hy (lc_trans (lc_oth e (aR A) (nI w)) (lc_same (aR A) (wN_ok ok hy).2.2)) 5
