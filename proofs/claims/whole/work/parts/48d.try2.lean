/-! what was seen: all guesses of the class -/
noncomputable def gB (A : mu_A) (x w : Nat) : Bool := @decide (gOs A x w) (Classical.propDecidable _)
theorem gB_iff (A : mu_A) (x w : Nat) : gB A x w = true ↔ gOs A x w := by
  unfold gB
  exact @decide_eq_true_iff _ (Classical.propDecidable _)
noncomputable def gC (A : mu_A) (x n : Nat) : Nat := mu_up (fun w a => a + (gB A x (w + 1)).toNat) 0 n
noncomputable def gS (A : mu_A) (n : Nat) : Nat := mu_up (fun x a => a + gC A x 99) 0 n
theorem gC_le (A : mu_A) (x : Nat) : ∀ n, gC A x n ≤ n := by
  intro n
  induction n with
  | zero => exact Nat.le_refl 0
  | succ n ih =>
    have e : gC A x (n + 1) = gC A x n + (gB A x (n + 1)).toNat := rfl
    rw [e]
    cases gB A x (n + 1)
    · show gC A x n + 0 ≤ _; omega
    · show gC A x n + 1 ≤ _; omega
theorem gS_le (A : mu_A) : ∀ n, gS A n ≤ 99 * n := by
  intro n
  induction n with
  | zero => exact Nat.le_refl 0
  | succ n ih =>
    have e : gS A (n + 1) = gS A n + gC A n 99 := rfl
    have := gC_le A n 99
    rw [e]; omega
/-- one weight of one box -/
theorem c_tryStep {A : mu_A} (f : Nat → Nat → Int32) (g : Nat → Nat → Int64) (ok : AOK A) (hC : CRel A f) {m x w o : Nat} (hx : x < lB (aL A)) (w1 : 1 ≤ w) (w2 : w ≤ 99) (ho : o ≤ 1) (hop : o = 1 ↔ ∀ y, y < lB (aL A) → y ≠ x → agW A y (wN A y)) {c : Nat} (h102 : f 102 x = nI c) : ∃ f', x_sc_tryAll_52 (f, g) (nI m) (nI x) (nI o) (nI w) = x_sc_tryAll_52 (f', g) (nI m) (nI x) (nI o) (nI (w + 1)) ∧ f' 101 (x * 100 + w) = nI (gB A x w).toNat ∧ f' 102 x = nI (c + (gB A x w).toNat) ∧ (∀ i, i ≠ x * 100 + w → f' 101 i = f 101 i) ∧ (∀ i, i ≠ x → f' 102 i = f 102 i) ∧ f' 100 = f 100 ∧ FS f f' := by
  have l1 := ok.1.1
  obtain ⟨n1, n2, n3⟩ := wN_ok ok hx
  have hW : f 68 x = nI (wN A x) := by rw [← n3]; exact hC.2.2.1.2.1 x hx
  -- behind the trying
  have fin : ∀ (f2 : Nat → Nat → Int32) (b : Bool), f2 102 x = nI c → x_sc_tryAll_92 (f2, g) (nI m) (nI x) (nI o) (nI w) (tb b) = x_sc_tryAll_52 (en_u1 (en_u1 f2 101 (x * 100 + w) (nI b.toNat)) 102 x (nI (c + b.toNat)), g) (nI m) (nI x) (nI o) (nI (w + 1)) := by
    intro f2 b h2
    rw [e_sc_tryAll_92]
    simp (disch := omega) only [q_0, q_1, q_2, q_3, q_4, q_5, q_6, q_7, q_8, q_9, q_10, q_11, q_12, q_13, q_14, q_15, q_16, q_17, q_18, q_19, q_20, q_21, q_22, q_23, q_24, q_29, q_30, q_31, q_36, q_42, q_50, q_40, q_48, q_96, q_97, q_99, q_100, q_255, q_256, q_700, q_999, q_1160, q_1400, q_99999, q_m1, q_in, q_clamp, if_true, nI_add, pk_mul, h2, tb_0]
    cases b
    · rfl
    · rfl
  have go : ∃ f2 b, x_sc_tryAll_52 (f, g) (nI m) (nI x) (nI o) (nI w) = x_sc_tryAll_92 (f2, g) (nI m) (nI x) (nI o) (nI w) (tb b) ∧ b = gB A x w ∧ ∀ p, (p < 73 ∨ 78 < p) → p ≠ 46 → p ≠ 49 → f2 p = f p := by
    rw [e_sc_tryAll_52]
    simp (disch := omega) only [q_0, q_1, q_2, q_3, q_4, q_5, q_6, q_7, q_8, q_9, q_10, q_11, q_12, q_13, q_14, q_15, q_16, q_17, q_18, q_19, q_20, q_21, q_22, q_23, q_24, q_29, q_30, q_31, q_36, q_42, q_50, q_40, q_48, q_96, q_97, q_99, q_100, q_255, q_256, q_700, q_999, q_1160, q_1400, q_99999, q_m1, q_ltI, q_eqI, q_in, q_clamp, if_true, hW]
    rw [if_neg (by omega)]
    by_cases c0 : o = 0
    · rw [if_pos c0]
      refine ⟨f, false, rfl, ?_, fun _ _ _ _ => rfl⟩
      cases hb : gB A x w
      · rfl
      · have := (gB_iff A x w).mp hb
        have := hop.mpr this.1
        omega
    · rw [if_neg c0]
      by_cases c1 : w = wN A x
      · rw [if_pos c1]
        refine ⟨f, false, rfl, ?_, fun _ _ _ _ => rfl⟩
        cases hb : gB A x w
        · rfl
        · exact absurd c1 ((gB_iff A x w).mp hb).2.1
      · rw [if_neg c1]
        obtain ⟨f2, b, e2, b2, fr2⟩ := c_agreesWith f g ok hC hx w1 w2
        refine ⟨f2, b, ?_, ?_, fr2⟩
        · rw [e2, c_I]
          cases b <;> rfl
        · cases hb : gB A x w
          · cases hb2 : b
            · rfl
            · rw [hb2] at b2
              have := (gB_iff A x w).mpr ⟨hop.mp (by omega), c1, b2.mp rfl⟩
              rw [hb] at this; cases this
          · exact b2.mpr ((gB_iff A x w).mp hb).2.2
  obtain ⟨f2, b, e2, eb, fr2⟩ := go
  rw [e2, fin f2 b (by rw [fr2 102 (by omega) (by omega) (by omega)]; exact h102), eb]
  refine ⟨_, rfl, ?_, u1_at _ _ _ _, fun i hi => ?_, fun i hi => ?_, ?_, fun p a1 a2 a3 a4 a5 a6 a7 => ?_⟩
  · rw [u1_ne _ _ (by omega), u1_at]
  · rw [u1_ne _ _ (by omega), u1_ne _ _ (by omega), fr2 101 (by omega) (by omega) (by omega)]
  · rw [u1_ne _ _ (by omega), u1_ne _ _ (by omega), fr2 102 (by omega) (by omega) (by omega)]
  · rw [u1_p _ _ _ (by omega), u1_p _ _ _ (by omega), fr2 100 (by omega) (by omega) (by omega)]
  · rw [u1_p _ _ _ (by omega), u1_p _ _ _ (by omega), fr2 p a1 a2 a3]
/-- what stands when all was tried up to a box -/
def TA (A : mu_A) (n : Nat) (f : Nat → Nat → Int32) : Prop := (∀ x, x < n → ∀ w, 1 ≤ w → w ≤ 99 → f 101 (x * 100 + w) = nI (gB A x w).toNat) ∧ (∀ x, x < n → f 102 x = nI (gC A x 99)) ∧ f 100 6 = nI (gS A n)
theorem c_tryAll {A : mu_A} (f : Nat → Nat → Int32) (g : Nat → Nat → Int64) (ok : AOK A) (hC : CRel A f) : ∃ f', x_sc_tryAll_0 (f, g) = rV (f', g) ∧ TA A (lB (aL A)) f' ∧ FS f f' := by
  have lo := ok.1
  have l1 := lo.1
  obtain ⟨f1, m, e1, m64, m1, m2, fr1⟩ := c_unmet f g ok hC
  rw [e_sc_tryAll_0, e1, c_I]
  have F1 : FS f (en_u1 f1 100 6 0) := fun p a1 a2 a3 a4 a5 a6 a7 => by rw [u1_p _ _ _ a4, fr1 p a1 a2 a3]
  obtain ⟨f2, e2, t2, F2⟩ := mu_inv (fun (f' : Nat → Nat → Int32) i => x_sc_tryAll_12 (f', g) (nI m) i) (fun n f' => TA A n f' ∧ FS f f') (lB (aL A)) (en_u1 f1 100 6 0) ⟨⟨fun x hx => absurd hx (Nat.not_lt_zero x), fun x hx => absurd hx (Nat.not_lt_zero x), u1_at _ _ _ _⟩, F1⟩ (by
    intro x f2 hx ⟨t2, F2⟩
    have C2 := FS_C ok hC F2
    have hB : f2 34 5 = nI (lB (aL A)) := C2.1.1
    have inner : ∀ o, o ≤ 1 → (o = 1 ↔ ∀ y, y < lB (aL A) → y ≠ x → agW A y (wN A y)) → ∃ f3, x_sc_tryAll_52 (en_u1 f2 102 x 0, g) (nI m) (nI x) (nI o) (nI 1) = x_sc_tryAll_12 (f3, g) (nI m) (nI (x + 1)) ∧ TA A (x + 1) f3 ∧ FS f f3 := by
      intro o ho hop
      obtain ⟨f3, e3, a1, a2, a3, a4, a5, a6⟩ := mu_invF (fun (f' : Nat → Nat → Int32) i => x_sc_tryAll_52 (f', g) (nI m) (nI x) (nI o) i) (fun w f' => (∀ v, 1 ≤ v → v < w → f' 101 (x * 100 + v) = nI (gB A x v).toNat) ∧ f' 102 x = nI (gC A x (w - 1)) ∧ (∀ y, y < x → ∀ v, 1 ≤ v → v ≤ 99 → f' 101 (y * 100 + v) = nI (gB A y v).toNat) ∧ (∀ y, y < x → f' 102 y = nI (gC A y 99)) ∧ f' 100 6 = nI (gS A x) ∧ FS f f') 1 100 (by omega) (en_u1 f2 102 x 0) ⟨fun v v1 v2 => absurd v1 (by omega), u1_at _ _ _ _, fun y hy v v1 v2 => by rw [u1_ne _ _ (by omega)]; exact t2.1 y hy v v1 v2, fun y hy => by rw [u1_ne _ _ (by omega)]; exact t2.2.1 y hy, by rw [u1_ne _ _ (by omega)]; exact t2.2.2, fun p b1 b2 b3 b4 b5 b6 b7 => by rw [u1_p _ _ _ b6]; exact F2 p b1 b2 b3 b4 b5 b6 b7⟩ (by
        intro w f3 w1 w2 ⟨a1, a2, a3, a4, a5, a6⟩
        obtain ⟨f4, e4, c1, c2, c3, c4, c5, c6⟩ := c_tryStep f3 g ok (FS_C ok hC a6) (m := m) hx w1 (by omega) ho hop a2
        refine ⟨f4, e4, fun v v1 v2 => ?_, ?_, fun y hy v v1 v2 => by rw [c3 _ (by omega)]; exact a3 y hy v v1 v2, fun y hy => by rw [c4 y (by omega)]; exact a4 y hy, by rw [c5]; exact a5, fun p b1 b2 b3 b4 b5 b6 b7 => by rw [c6 p b1 b2 b3 b4 b5 b6 b7]; exact a6 p b1 b2 b3 b4 b5 b6 b7⟩
        · by_cases c : v = w
          · rw [c]; exact c1
          · rw [c3 _ (by omega)]; exact a1 v v1 (by omega)
        · rw [c2]
          obtain ⟨k, rfl⟩ : ∃ k, w = k + 1 := ⟨w - 1, by omega⟩
          rfl)
      refine ⟨en_u1 f3 100 6 (nI (gS A (x + 1))), ?_, ⟨fun y hy v v1 v2 => ?_, fun y hy => ?_, u1_at _ _ _ _⟩, fun p b1 b2 b3 b4 b5 b6 b7 => by rw [u1_p _ _ _ b4]; exact a6 p b1 b2 b3 b4 b5 b6 b7⟩
      · refine Eq.trans e3 ?_
        show x_sc_tryAll_52 (f3, g) (nI m) (nI x) (nI o) (nI 100) = _
        have a2' : f3 102 x = nI (gC A x 99) := a2
        rw [e_sc_tryAll_52, if_pos (by decide)]
        simp (disch := omega) only [q_in, q_clamp, if_true, a5, a2', nI_add, nI_1]
        rfl
      · rw [u1_ne _ _ (by omega)]
        by_cases c : y = x
        · rw [c]; exact a1 v v1 (by omega)
        · exact a3 y (by omega) v v1 v2
      · rw [u1_ne _ _ (by omega)]
        by_cases c : y = x
        · rw [c]; exact a2
        · exact a4 y (by omega)
    have hop := open_iff m1 m2 x
    have ha : anN m (2 ^ x) < 2 ^ 6 := anN_lt m64
    have st : x_sc_tryAll_12 (f2, g) (nI m) (nI x) = if anN m (2 ^ x) = 0 then x_sc_tryAll_52 (en_u1 f2 102 x 0, g) (nI m) (nI x) (nI 1) (nI 1) else x_sc_tryAll_52 (en_u1 f2 102 x 0, g) (nI m) (nI x) (nI 0) (nI 1) := by
      rw [e_sc_tryAll_12, if_neg (by show ¬ f2 34 5 ≤ nI x; rw [hB]; exact nI_ge hx (by omega))]
      simp (disch := omega) only [q_0, q_1, q_2, q_3, q_4, q_5, q_6, q_7, q_8, q_9, q_10, q_11, q_12, q_13, q_14, q_15, q_16, q_17, q_18, q_19, q_20, q_21, q_22, q_23, q_24, q_29, q_30, q_31, q_36, q_42, q_50, q_40, q_48, q_96, q_97, q_99, q_100, q_255, q_256, q_700, q_999, q_1160, q_1400, q_99999, q_m1, q_shl, q_m1, q_an, q_eqI, q_in, q_clamp, if_true]
    by_cases c : anN m (2 ^ x) = 0
    · obtain ⟨f3, e3, t3, F3⟩ := inner 1 (by omega) ⟨fun _ => hop.mp c, fun _ => rfl⟩
      exact ⟨f3, by show x_sc_tryAll_12 (f2, g) (nI m) (nI x) = _; rw [st, if_pos c]; exact e3, t3, F3⟩
    · obtain ⟨f3, e3, t3, F3⟩ := inner 0 (by omega) ⟨fun k => by omega, fun k => absurd (hop.mpr k) c⟩
      exact ⟨f3, by show x_sc_tryAll_12 (f2, g) (nI m) (nI x) = _; rw [st, if_neg c]; exact e3, t3, F3⟩)
  have hB : f2 34 5 = nI (lB (aL A)) := (FS_C ok hC F2).1.1
  refine ⟨f2, ?_, t2, F2⟩
  refine Eq.trans e2 ?_
  show x_sc_tryAll_12 (f2, g) (nI m) (nI (lB (aL A))) = _
  rw [e_sc_tryAll_12, if_pos (q_le hB)]
  rfl
