/-! what was seen: the class tries all -/
/-- frames of the trying -/
def FS (f f' : Nat → Nat → Int32) : Prop := ∀ p, (p < 73 ∨ 78 < p) → p ≠ 46 → p ≠ 49 → p ≠ 100 → p ≠ 101 → p ≠ 102 → p ≠ 103 → f' p = f p
theorem FS_QC {f f' : Nat → Nat → Int32} (h : FS f f') : QC f f' := fun p a b c d => h p a b c (by omega) (by omega) (by omega) (by omega)
theorem FS_C {A : mu_A} {f f' : Nat → Nat → Int32} (ok : AOK A) (hC : CRel A f) (h : FS f f') : CRel A f' := CRel_Q ok hC (fun p _ a b c d => h p a b c (by omega) (by omega) (by omega) (by omega))
/-- that a box goes as it was seen, with a weight -/
def agW (A : mu_A) (x w : Nat) : Prop := agP (aS A) x (fun d => rW (soN (aL A) x (wW (aR A) x (nI w)) d) x)
def wN (A : mu_A) (x : Nat) : Nat := (rW (aR A) x).toNatClampNeg
theorem wN_ok {A : mu_A} (ok : AOK A) {x : Nat} (hx : x < lB (aL A)) : 1 ≤ wN A x ∧ wN A x ≤ 99 ∧ rW (aR A) x = nI (wN A x) := by
  obtain ⟨w, h1, h2, e⟩ := ok.2.2.2.1.1 x hx
  unfold wN
  rw [e, q_clamp (by omega)]
  exact ⟨h1, h2, rfl⟩
theorem c_unmet {A : mu_A} (f : Nat → Nat → Int32) (g : Nat → Nat → Int64) (ok : AOK A) (hC : CRel A f) : ∃ f' m, x_sc_unmetBits_0 (f, g) = rI (nI m) (f', g) ∧ m < 64 ∧ (∀ x, x < lB (aL A) → (m.testBit x = false ↔ agW A x (wN A x))) ∧ (∀ x, lB (aL A) ≤ x → m.testBit x = false) ∧ ∀ p, (p < 73 ∨ 78 < p) → p ≠ 46 → p ≠ 49 → f' p = f p := by
  have lo := ok.1
  have l1 := lo.1
  rw [e_sc_unmetBits_0]
  obtain ⟨a, e, h1, h2, h3, h4⟩ := mu_inv (fun (a : Nat × (Nat → Nat → Int32)) i => x_sc_unmetBits_4 (a.2, g) (nI a.1) i) (fun n a => a.1 < 2 ^ n ∧ (∀ x, x < n → (a.1.testBit x = false ↔ agW A x (wN A x))) ∧ (∀ x, n ≤ x → a.1.testBit x = false) ∧ ∀ p, (p < 73 ∨ 78 < p) → p ≠ 46 → p ≠ 49 → a.2 p = f p) (lB (aL A)) (0, f) ⟨Nat.zero_lt_one, fun x hx => absurd hx (Nat.not_lt_zero x), fun x _ => Nat.zero_testBit x, fun _ _ _ _ => rfl⟩ (by
    intro n a hn ⟨h1, h2, h3, h4⟩
    have C1 := CRel_Q ok hC (fun p _ x1 x2 x3 _ => h4 p x1 x2 x3)
    obtain ⟨w1, w2, w3⟩ := wN_ok ok hn
    obtain ⟨f2, b, e2, b2, fr2⟩ := c_agreesWith a.2 g ok C1 hn w1 w2
    have hB : a.2 34 5 = nI (lB (aL A)) := C1.1.1
    have hW : a.2 68 n = nI (wN A n) := by rw [← w3]; exact C1.2.2.1.2.1 n hn
    have fr : ∀ p, (p < 73 ∨ 78 < p) → p ≠ 46 → p ≠ 49 → f2 p = f p := fun p x1 x2 x3 => by rw [fr2 p x1 x2 x3, h4 p x1 x2 x3]
    have st : x_sc_unmetBits_4 (a.2, g) (nI a.1) (nI n) = if tb b = 0 then x_sc_unmetBits_4 (f2, g) (nI (a.1 ||| 2 ^ n)) (nI (n + 1)) else x_sc_unmetBits_4 (f2, g) (nI a.1) (nI (n + 1)) := by
      rw [e_sc_unmetBits_4, if_neg (by show ¬ a.2 34 5 ≤ nI n; rw [hB]; exact nI_ge hn (by omega))]
      simp (disch := omega) only [q_in, q_clamp, if_true, hW, e2, c_I, q_1, q_31, q_shl, fa_or, nI_add]
    cases hb : b
    · refine ⟨(a.1 ||| 2 ^ n, f2), by show x_sc_unmetBits_4 (a.2, g) (nI a.1) (nI n) = _; rw [st, hb, if_pos (show tb false = 0 from rfl)], Nat.or_lt_two_pow (Nat.lt_of_lt_of_le h1 (Nat.pow_le_pow_right (by omega) (by omega))) (Nat.pow_lt_pow_right (by omega) (by omega)), fun x hx => ?_, fun x hx => ?_, fr⟩
      · show (a.1 ||| 2 ^ n).testBit x = false ↔ _
        rw [Nat.testBit_or, Nat.testBit_two_pow]
        by_cases c : x = n
        · subst c
          rw [decide_eq_true rfl, Bool.or_true]
          rw [hb] at b2
          exact ⟨fun k => (by cases k), fun k => absurd (b2.mpr k) (by decide)⟩
        · rw [decide_eq_false (fun k => c k.symm), Bool.or_false]
          exact h2 x (by omega)
      · show (a.1 ||| 2 ^ n).testBit x = false
        rw [Nat.testBit_or, Nat.testBit_two_pow, h3 x (by omega), decide_eq_false (by omega)]; rfl
    · refine ⟨(a.1, f2), by show x_sc_unmetBits_4 (a.2, g) (nI a.1) (nI n) = _; rw [st, hb, if_neg (by decide)], Nat.lt_of_lt_of_le h1 (Nat.pow_le_pow_right (by omega) (by omega)), fun x hx => ?_, fun x hx => h3 x (by omega), fr⟩
      by_cases c : x = n
      · subst c
        rw [hb] at b2
        exact ⟨fun _ => b2.mp rfl, fun _ => h3 x (Nat.le_refl x)⟩
      · exact h2 x (by omega))
  obtain ⟨m, f'⟩ := a
  dsimp only at h1 h2 h3 h4 e
  have hB : f' 34 5 = nI (lB (aL A)) := by rw [h4 34 (by omega) (by omega) (by omega)]; exact hC.1.1
  refine ⟨f', m, ?_, Nat.lt_of_lt_of_le h1 (show 2 ^ lB (aL A) ≤ 2 ^ 6 from Nat.pow_le_pow_right (by omega) l1), h2, h3, h4⟩
  refine Eq.trans e ?_
  rw [e_sc_unmetBits_4, if_pos (q_le hB)]
  rfl
/-- a right guess -/
def gOs (A : mu_A) (x w : Nat) : Prop := (∀ y, y < lB (aL A) → y ≠ x → agW A y (wN A y)) ∧ w ≠ wN A x ∧ agW A x w
theorem open_iff {A : mu_A} {m : Nat} (h : ∀ x, x < lB (aL A) → (m.testBit x = false ↔ agW A x (wN A x))) (h' : ∀ x, lB (aL A) ≤ x → m.testBit x = false) (x : Nat) : anN m (2 ^ x) = 0 ↔ ∀ y, y < lB (aL A) → y ≠ x → agW A y (wN A y) := by
  constructor
  · intro e y hy hne
    rw [← h y hy]
    have := anN_tb m (2 ^ x) y
    rw [e, Nat.zero_testBit, Nat.testBit_two_pow, decide_eq_false (fun k => hne k.symm)] at this
    revert this
    cases m.testBit y <;> decide
  · intro k
    apply Nat.eq_of_testBit_eq
    intro y
    rw [anN_tb, Nat.zero_testBit, Nat.testBit_two_pow]
    by_cases c : y = x
    · rw [decide_eq_true c.symm]; cases m.testBit y <;> rfl
    · by_cases d : y < lB (aL A)
      · rw [(h y d).mpr (k y d c)]; rfl
      · rw [h' y (by omega)]; rfl
