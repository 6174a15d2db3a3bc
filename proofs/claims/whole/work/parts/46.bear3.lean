/-! toBear: rows, and the model -/
def mu_fo (P : Nat → Bool) : Nat → Nat → Option Nat
  | 0, _ => none
  | n + 1, k => if P k then some k else mu_fo P n (k + 1)
theorem fo_c (P : Nat → Bool) : ∀ n k m, mu_fo P n k = some m → k ≤ m ∧ m < k + n ∧ P m = true ∧ ∀ j, k ≤ j → j < m → P j = false := by
  intro n
  induction n with
  | zero => intro k m h; cases h
  | succ n ih =>
    intro k m h
    have h' : (if P k then some k else mu_fo P n (k + 1)) = some m := h
    cases hp : P k
    · rw [hp, if_neg (by decide)] at h'
      obtain ⟨a, b, c, d⟩ := ih (k + 1) m h'
      refine ⟨by omega, by omega, c, fun j j1 j2 => ?_⟩
      by_cases e : j = k
      · rw [e, hp]
      · exact d j (by omega) j2
    · rw [hp, if_pos rfl] at h'
      have e : k = m := Option.some.inj h'
      subst e
      exact ⟨Nat.le_refl _, by omega, hp, fun j j1 j2 => absurd j1 (by omega)⟩
theorem fo_ex (P : Nat → Bool) : ∀ n k j, k ≤ j → j < k + n → P j = true → ∃ m, mu_fo P n k = some m := by
  intro n
  induction n with
  | zero => intro k j a b; exact absurd b (by omega)
  | succ n ih =>
    intro k j a b c
    show ∃ m, (if P k then some k else mu_fo P n (k + 1)) = some m
    cases hp : P k
    · rw [if_neg (by decide)]
      by_cases e : k = j
      · rw [e, c] at hp; cases hp
      · exact ih (k + 1) j (by omega) (by omega) c
    · rw [if_pos rfl]; exact ⟨k, rfl⟩
/-- whether some are a right choice for a box -/
def tP (Λ : mu_Ld) (r : mu_Rw) (x fr m : Nat) : Bool := decide (anN m fr = 0) && (tF Λ r (lB Λ - x) fr).isSome && decide (tW Λ r x fr m = tF Λ r (lB Λ - x) fr)
def tL (Λ : mu_Ld) (r : mu_Rw) (x fr : Nat) : Option Nat := mu_fo (tP Λ r x fr) fr 1
theorem tP_ex {Λ : mu_Ld} {r : mu_Rw} {x fr w : Nat} (hx : x < lB Λ) (h : tF Λ r (lB Λ - x) fr = some w) : ∃ m, m ≠ 0 ∧ anN m fr = 0 ∧ tW Λ r x fr m = some w := by
  have key := sbF_inv fr (fun m a => tA (tW Λ r x fr m) a) (fun a => ∀ w, a = some w → ∃ m, m ≠ 0 ∧ anN m fr = 0 ∧ tW Λ r x fr m = some w) (by
    intro m a hm0 hm hi
    show ∀ w, tA (tW Λ r x fr m) a = some w → _
    cases ht : tW Λ r x fr m with
    | none => exact hi
    | some d =>
      cases a with
      | none =>
        intro w e
        have e' : d = w := Option.some.inj e
        exact ⟨m, hm0, hm, by rw [ht, e']⟩
      | some b =>
        intro w e
        have e' : (if d < b then some d else some b) = some w := e
        by_cases q : d < b
        · rw [if_pos q] at e'
          have e2 : d = w := Option.some.inj e'
          exact ⟨m, hm0, hm, by rw [ht, e2]⟩
        · rw [if_neg q] at e'
          exact hi w e') 256 fr none (anN_self fr) (by intro w e; cases e)
  rw [tF_S r hx] at h
  exact key w h
theorem tL_ex {Λ : mu_Ld} {r : mu_Rw} {x fr w : Nat} (hx : x < lB Λ) (h : tF Λ r (lB Λ - x) fr = some w) : ∃ m, tL Λ r x fr = some m := by
  obtain ⟨m, m0, m1, m2⟩ := tP_ex hx h
  have := sub_le m1
  refine fo_ex _ fr 1 m (by omega) (by omega) ?_
  unfold tP
  rw [m1, h, m2]
  simp
theorem tL_c {Λ : mu_Ld} {r : mu_Rw} {x fr m : Nat} (h : tL Λ r x fr = some m) : m ≠ 0 ∧ anN m fr = 0 ∧ (∃ w, tF Λ r (lB Λ - x) fr = some w ∧ tW Λ r x fr m = some w) ∧ ∀ j, 1 ≤ j → j < m → tP Λ r x fr j = false := by
  obtain ⟨a, b, c, d⟩ := fo_c _ _ _ _ h
  unfold tP at c
  rw [Bool.and_eq_true, Bool.and_eq_true, decide_eq_true_eq, decide_eq_true_eq] at c
  obtain ⟨⟨c1, c2⟩, c3⟩ := c
  obtain ⟨w, hw⟩ := Option.isSome_iff_exists.mp c2
  exact ⟨by omega, c1, ⟨w, hw, by rw [c3, hw]⟩, d⟩
/-- box by box: who is free still, and who bears the last -/
def pF (Λ : mu_Ld) (r : mu_Rw) (n : Nat) : Option (Nat × Nat) := mu_up (fun x q => match q with
  | none => none
  | some z => match tL Λ r x z.1 with
    | none => none
    | some m => some (anN z.1 m, m)) (some (2 ^ lP Λ - 1, 0)) n
theorem pF_S (Λ : mu_Ld) (r : mu_Rw) (n : Nat) : pF Λ r (n + 1) = (match pF Λ r n with
  | none => none
  | some z => match tL Λ r n z.1 with
    | none => none
    | some m => some (anN z.1 m, m)) := rfl
def pV (q : Option (Nat × Nat)) : Int32 := match q with
  | none => nN
  | some z => nI z.2
theorem pF_none {Λ : mu_Ld} {r : mu_Rw} {x : Nat} (h : pF Λ r x = none) : ∀ k, pF Λ r (x + k) = none := by
  intro k
  induction k with
  | zero => exact h
  | succ k ih => rw [← Nat.add_assoc, pF_S, ih]
theorem c_leastBits {Λ : mu_Ld} {r : mu_Rw} (f : Nat → Nat → Int32) (g : Nat → Nat → Int64) (lo : lOK Λ) (hR : CRw Λ 67 r f) (hT : TC Λ r 0 f) {x fr : Nat} (hx : x < lB Λ) (hf : fr < 2 ^ lP Λ) (hor : 1 ≤ x ∨ fr = 2 ^ lP Λ - 1) : x_sh_leastBits_0 (f, g) (nI x) (nI fr) = rI (dI (tL Λ r x fr)) (f, g) := by
  have l1 := lo.1
  have l2 := lo.2.1
  have p8 := p256 l2
  have T1 : TC Λ r (x + 1) f := ⟨hT.1, fun y y1 y2 fr hf h => hT.2 y (by omega) y2 fr hf h⟩
  have h99 := hT.2 x (by omega) (by omega) fr hf hor
  rw [e_sh_leastBits_0]
  simp (disch := omega) only [q_0, q_1, q_2, q_3, q_4, q_5, q_6, q_7, q_8, q_9, q_10, q_11, q_12, q_13, q_14, q_15, q_16, q_17, q_18, q_19, q_20, q_21, q_22, q_23, q_24, q_29, q_30, q_31, q_36, q_42, q_50, q_40, q_48, q_96, q_97, q_99, q_100, q_255, q_256, q_700, q_999, q_1160, q_1400, q_99999, q_m1, q_in, q_clamp, if_true, nI_add, pk_mul, h99, q_m1]
  cases ht : tF Λ r (lB Λ - x) fr with
  | none =>
    rw [if_pos (show dI none = nN from rfl)]
    cases hl : tL Λ r x fr with
    | none => rfl
    | some m =>
      obtain ⟨_, _, ⟨w, hw, _⟩, _⟩ := tL_c hl
      rw [ht] at hw; cases hw
  | some w =>
    have hw8 := (tF_rg Λ r _ _ w (by omega) ht).2
    have := mu_bc_le fr
    rw [if_neg (by show ¬ nI w = nN; rw [q_nNe (by omega)]; exact id)]
    have key : ∀ n k, k + n = fr + 1 → 1 ≤ k → x_sh_leastBits_23 (f, g) (nI x) (nI fr) (nI w) (nI k) = rI (dI (mu_fo (tP Λ r x fr) n k)) (f, g) := by
      intro n
      induction n with
      | zero =>
        intro k hk k1
        rw [e_sh_leastBits_23, if_pos (nI_lt (by omega) (by omega))]
        rfl
      | succ n ih =>
        intro k hk k1
        show _ = rI (dI (if tP Λ r x fr k then some k else mu_fo (tP Λ r x fr) n (k + 1))) (f, g)
        rw [e_sh_leastBits_23, if_neg (nI_nlt (by omega) (by omega)), show (-1 : Int32) = nN from rfl, q_an, nI_1, ih (k + 1) (by omega) (by omega)]
        have ha : anN k fr < 2 ^ 8 := anN_lt (by omega)
        by_cases c : anN k fr = 0
        · rw [if_pos (by rw [c]; rfl), c_manyWith f g lo hR T1 hx hf (by omega) c, c_I]
          have hP : tP Λ r x fr k = decide (tW Λ r x fr k = some w) := by
            unfold tP
            rw [ht, decide_eq_true c]; rfl
          rw [hP]
          cases hq : tW Λ r x fr k with
          | none =>
            rw [if_neg (by show ¬ nN = nI w; rw [q_nNe2 (by omega)]; exact id), if_neg (by simp)]
            exact ih (k + 1) (by omega) (by omega)
          | some d =>
            have hd := tW_rg (by omega) hq
            by_cases e : d = w
            · rw [if_pos (by rw [e]; rfl), if_pos (by rw [e]; simp)]; rfl
            · rw [if_neg (by show ¬ nI d = nI w; rw [q_eqI (by omega) (by omega)]; exact e), if_neg (by simp [e])]
              exact ih (k + 1) (by omega) (by omega)
        · rw [if_neg (by show ¬ nI (anN k fr) = nI 0; rw [q_eqI (by omega) (by omega)]; exact c)]
          have hP : tP Λ r x fr k = false := by
            unfold tP
            rw [decide_eq_false c]; rfl
          rw [hP, if_neg (by decide)]
    exact key fr 1 (by omega) (by omega)
theorem c_rowAt {Λ : mu_Ld} {r : mu_Rw} (f : Nat → Nat → Int32) (g : Nat → Nat → Int64) (lo : lOK Λ) (hL : CLd Λ f) (hR : CRw Λ 67 r f) (hT : TC Λ r 0 f) {i : Nat} (hi : i < lB Λ) : x_sh_rowAt_0 (f, g) (nI i) = rI (pV (pF Λ r (i + 1))) (f, g) := by
  have l1 := lo.1
  have l2 := lo.2.1
  have p8 := p256 l2
  have h0 : 0 < 2 ^ lP Λ := Nat.pow_pos (by omega)
  rw [e_sh_rowAt_0, c_shall f g lo hL, c_I]
  have key : ∀ k x fr b, x + k = i + 1 → fr < 2 ^ lP Λ → (1 ≤ x ∨ fr = 2 ^ lP Λ - 1) → pF Λ r x = some (fr, b) → ∀ v, (k = 0 → v = nI b) → x_sh_rowAt_10 (f, g) (nI i) (nI fr) v (nI x) = rI (pV (pF Λ r (i + 1))) (f, g) := by
    intro k
    induction k with
    | zero =>
      intro x fr b hx hf hor hp v hv
      rw [e_sh_rowAt_10, if_pos (nI_lt (by omega) (by omega)), hv rfl, ← hx, Nat.add_zero, hp]
      rfl
    | succ k ih =>
      intro x fr b hx hf hor hp v hv
      rw [e_sh_rowAt_10, if_neg (nI_nlt (by omega) (by omega)), c_leastBits f g lo hR hT (by omega) hf hor, c_I]
      have hS := pF_S Λ r x
      rw [hp] at hS
      have hS' : pF Λ r (x + 1) = (match tL Λ r x fr with | none => none | some m => some (anN fr m, m)) := hS
      cases hl : tL Λ r x fr with
      | none =>
        rw [hl] at hS'
        have := pF_none hS' k
        rw [show x + 1 + k = i + 1 by omega] at this
        rw [if_pos (show dI none = -1 from rfl), this]; rfl
      | some m =>
        rw [hl] at hS'
        obtain ⟨m0, m1, _, _⟩ := tL_c hl
        have hm : m < 2 ^ lP Λ := sub_lt m1 hf
        rw [if_neg (by show ¬ nI m = nN; rw [q_nNe (by omega)]; exact id), nI_1]
        show x_sh_rowAt_10 (f, g) (nI i) (nI fr &&& (nI m ^^^ nN)) (nI m) (nI (x + 1)) = _
        rw [q_an]
        exact ih (x + 1) (anN fr m) m (by omega) (anN_lt hf) (Or.inl (by omega)) hS' (nI m) (fun _ => rfl)
  exact key (i + 1) 0 (2 ^ lP Λ - 1) 0 (by omega) (by omega) (Or.inr rfl) rfl _ (by omega)
