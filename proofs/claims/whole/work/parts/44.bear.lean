/-! toBear: who could bear which -/
/-- a fold over the parts of a mask, from the whole down -/
def sbF {α : Type} (fr : Nat) (h : Nat → α → α) : Nat → Nat → α → α
  | 0, _, a => a
  | n + 1, m, a => if m = 0 then a else sbF fr h n ((m - 1) &&& fr) (h m a)
theorem sb_sub {m fr : Nat} (h : anN m fr = 0) (m' : Nat) : anN ((m' - 1) &&& fr) fr = 0 := by
  apply Nat.eq_of_testBit_eq
  intro i
  rw [anN_tb, Nat.testBit_and, Nat.zero_testBit]
  cases (m' - 1).testBit i <;> cases fr.testBit i <;> rfl
theorem anN_self (m : Nat) : anN m m = 0 := by
  apply Nat.eq_of_testBit_eq
  intro i
  rw [anN_tb, Nat.zero_testBit]
  cases m.testBit i <;> rfl
theorem bit_sum (a b : Bool) (h : (a && !b) = false) : a.toNat + (b && !a).toNat = b.toNat := by
  revert h
  cases a <;> cases b <;> decide
theorem bc_an {m fr : Nat} (h : anN m fr = 0) : mu_bc m + mu_bc (anN fr m) = mu_bc fr := by
  have k : ∀ i, (m.testBit i).toNat + ((anN fr m).testBit i).toNat = (fr.testBit i).toNat := by
    intro i
    rw [anN_tb]
    apply bit_sum
    have := anN_tb m fr i
    rw [h, Nat.zero_testBit] at this
    exact this.symm
  have k0 := k 0; have k1 := k 1; have k2 := k 2; have k3 := k 3
  have k4 := k 4; have k5 := k 5; have k6 := k 6; have k7 := k 7
  simp only [mu_bc, mu_up]
  omega
/-- the fewest: from box x on (j boxes are left), by those of a mask -/
def tF (Λ : mu_Ld) (r : mu_Rw) : Nat → Nat → Option Nat
  | 0, _ => some 0
  | j + 1, fr => sbF fr (fun m a => if sBr Λ r (lB Λ - (j + 1)) m then (match tF Λ r j (anN fr m) with
      | none => a
      | some c => match a with
        | none => some (c + mu_bc m)
        | some b => if c + mu_bc m < b then some (c + mu_bc m) else a) else a) 256 fr none
theorem sbF_inv {α : Type} (fr : Nat) (h : Nat → α → α) (I : α → Prop) (hs : ∀ m a, m ≠ 0 → anN m fr = 0 → I a → I (h m a)) : ∀ n m a, anN m fr = 0 → I a → I (sbF fr h n m a) := by
  intro n
  induction n with
  | zero => intro m a _ hi; exact hi
  | succ n ih =>
    intro m a hm hi
    show I (if m = 0 then a else sbF fr h n ((m - 1) &&& fr) (h m a))
    by_cases c : m = 0
    · rw [if_pos c]; exact hi
    · rw [if_neg c]; exact ih _ _ (sb_sub hm m) (hs m a c hm hi)
theorem bc_pos {m : Nat} (h : m ≠ 0) (hm : m < 256) : 1 ≤ mu_bc m := by
  have := mu_bc0 hm
  have h2 : ¬ mu_bc m = 0 := by rw [this]; exact h
  omega
theorem sub_lt {m fr n : Nat} (h : anN m fr = 0) (hf : fr < 2 ^ n) : m < 2 ^ n := by
  have e : m = m &&& fr := by
    apply Nat.eq_of_testBit_eq
    intro i
    have := anN_tb m fr i
    rw [h, Nat.zero_testBit] at this
    rw [Nat.testBit_and]
    revert this
    cases m.testBit i <;> cases fr.testBit i <;> decide
  rw [e]
  exact Nat.lt_of_le_of_lt Nat.and_le_right hf
theorem sub_le {m fr : Nat} (h : anN m fr = 0) : m ≤ fr := by
  have e : m = m &&& fr := by
    apply Nat.eq_of_testBit_eq
    intro i
    have := anN_tb m fr i
    rw [h, Nat.zero_testBit] at this
    rw [Nat.testBit_and]
    revert this
    cases m.testBit i <;> cases fr.testBit i <;> decide
  rw [e]
  exact Nat.and_le_right
/-- at least one for each box, at most all -/
theorem tF_rg (Λ : mu_Ld) (r : mu_Rw) : ∀ j fr c, fr < 256 → tF Λ r j fr = some c → j ≤ c ∧ c ≤ mu_bc fr := by
  intro j
  induction j with
  | zero => intro fr c _ h; cases h; exact ⟨Nat.le_refl 0, Nat.zero_le _⟩
  | succ j ih =>
    intro fr c hf h
    have key := sbF_inv fr (fun m a => if sBr Λ r (lB Λ - (j + 1)) m then (match tF Λ r j (anN fr m) with
      | none => a
      | some c => match a with
        | none => some (c + mu_bc m)
        | some b => if c + mu_bc m < b then some (c + mu_bc m) else a) else a) (fun a => ∀ c, a = some c → j + 1 ≤ c ∧ c ≤ mu_bc fr) (by
      intro m a hm0 hm hi
      have hm256 : m < 2 ^ 8 := sub_lt hm hf
      have hb := bc_pos hm0 hm256
      have hs := bc_an hm
      by_cases k : sBr Λ r (lB Λ - (j + 1)) m = true
      · rw [if_pos k]
        cases ht : tF Λ r j (anN fr m) with
        | none => exact hi
        | some d =>
          obtain ⟨i1, i2⟩ := ih (anN fr m) d (anN_lt (n := 8) hf) ht
          cases a with
          | none =>
            intro c e
            have e' : d + mu_bc m = c := Option.some.inj e
            omega
          | some b =>
            intro c e
            have e' : (if d + mu_bc m < b then some (d + mu_bc m) else some b) = some c := e
            by_cases q : d + mu_bc m < b
            · rw [if_pos q] at e'
              have e2 : d + mu_bc m = c := Option.some.inj e'
              omega
            · rw [if_neg q] at e'
              exact hi c e'
      · rw [if_neg k]; exact hi) 256 fr none (anN_self fr) (by intro c e; cases e)
    exact key c h
