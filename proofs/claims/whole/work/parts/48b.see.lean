/-! what was seen: the class, one box alone -/
def agD (sn : mu_Sn) (x d : Nat) (v : Int32) (n : Nat) : Bool := mu_up (fun i a => a && decide (sn.2.1 i = x → sn.2.2.1 i = d → nI (sn.2.2.2 i) = v)) true n
theorem agD_iff (sn : mu_Sn) (x d : Nat) (v : Int32) : ∀ n, (agD sn x d v n = true ↔ ∀ i, i < n → sn.2.1 i = x → sn.2.2.1 i = d → nI (sn.2.2.2 i) = v) := by
  intro n
  induction n with
  | zero => exact ⟨fun _ i hi => absurd hi (Nat.not_lt_zero i), fun _ => rfl⟩
  | succ n ih =>
    have e : agD sn x d v (n + 1) = (agD sn x d v n && decide (sn.2.1 n = x → sn.2.2.1 n = d → nI (sn.2.2.2 n) = v)) := rfl
    rw [e, Bool.and_eq_true, ih, decide_eq_true_eq]
    constructor
    · intro h i hi
      by_cases c : i = n
      · rw [c]; exact h.2
      · exact h.1 i (by omega)
    · intro h
      exact ⟨fun i hi => h i (by omega), h n (Nat.lt_succ_self n)⟩
theorem c_agrees {sn : mu_Sn} {Λ : mu_Ld} (f : Nat → Nat → Int32) (g : Nat → Nat → Int64) (hs : cSn 81 sn f) (so : snOK Λ sn) (lo : lOK Λ) {x d : Nat} (hx : x < 1000) (hd : d < 1000) (v : Int32) : x_se_agrees_p81_0 (f, g) (nI x) (nI d) v = rI (tb (agD sn x d v sn.1)) (f, g) := by
  have l1 := lo.1
  have s8 := so.1
  have h81 : f 81 0 = nI sn.1 := hs.1
  rw [e_se_agrees_p81_0]
  -- from the place where it stands
  have key : ∀ k i, i + k = sn.1 → agD sn x d v i = true → x_se_agrees_p81_3 (f, g) (nI x) (nI d) v (nI i) = rI (tb (agD sn x d v sn.1)) (f, g) := by
    intro k
    induction k with
    | zero =>
      intro i hi ha
      rw [Nat.add_zero] at hi
      rw [hi] at ha
      rw [e_se_agrees_p81_3, if_pos (by show f 81 0 ≤ nI i; rw [h81, hi]; exact Int32.le_refl _), ha]
      rfl
    | succ k ih =>
      intro i hi ha
      obtain ⟨b1, b2, b3⟩ := hs.2 i (by omega)
      obtain ⟨o1, o2, o3, o4⟩ := so.2 i (by omega)
      have b1' : f 82 i = nI (sn.2.1 i) := b1
      have b2' : f 83 i = nI (sn.2.2.1 i) := b2
      have b3' : f 84 i = nI (sn.2.2.2 i) := b3
      have e : agD sn x d v (i + 1) = (agD sn x d v i && decide (sn.2.1 i = x → sn.2.2.1 i = d → nI (sn.2.2.2 i) = v)) := rfl
      rw [e_se_agrees_p81_3, if_neg (by show ¬ f 81 0 ≤ nI i; rw [h81]; exact nI_ge (by omega) (by omega))]
      simp (disch := omega) only [q_in, q_clamp, if_true, b1', b2', b3', q_eqI, nI_1]
      by_cases c1 : sn.2.1 i = x
      · rw [if_pos c1]
        by_cases c2 : sn.2.2.1 i = d
        · rw [if_pos c2]
          by_cases c3 : nI (sn.2.2.2 i) = v
          · rw [if_pos c3]
            exact ih (i + 1) (by omega) (by rw [e, ha, decide_eq_true (fun _ _ => c3)]; rfl)
          · rw [if_neg c3]
            have : agD sn x d v sn.1 = false := by
              cases hq : agD sn x d v sn.1
              · rfl
              · exact absurd ((agD_iff sn x d v sn.1).mp hq i (by omega) c1 c2) c3
            rw [this]; rfl
        · rw [if_neg c2]
          exact ih (i + 1) (by omega) (by rw [e, ha, decide_eq_true (fun _ k2 => absurd k2 c2)]; rfl)
      · rw [if_neg c1]
        exact ih (i + 1) (by omega) (by rw [e, ha, decide_eq_true (fun k1 _ => absurd k1 c1)]; rfl)
  exact key sn.1 0 (by omega) rfl
/-- the last day behind which a box was seen -/
def lsD (sn : mu_Sn) (x n : Nat) : Option Nat := mu_up (fun i a => if sn.2.1 i = x then (match a with
  | none => some (sn.2.2.1 i)
  | some d => some (if d < sn.2.2.1 i then sn.2.2.1 i else d)) else a) none n
theorem lsD_S (sn : mu_Sn) (x n : Nat) : lsD sn x (n + 1) = (if sn.2.1 n = x then (match lsD sn x n with
  | none => some (sn.2.2.1 n)
  | some d => some (if d < sn.2.2.1 n then sn.2.2.1 n else d)) else lsD sn x n) := rfl
theorem lsD_c {Λ : mu_Ld} {sn : mu_Sn} (so : snOK Λ sn) (x : Nat) : ∀ n, n ≤ sn.1 → (lsD sn x n = none ∧ ∀ i, i < n → ¬ sn.2.1 i = x) ∨ ∃ d, lsD sn x n = some d ∧ d ≤ 12 ∧ ∀ i, i < n → sn.2.1 i = x → sn.2.2.1 i ≤ d := by
  intro n
  induction n with
  | zero => intro _; exact Or.inl ⟨rfl, fun i hi => absurd hi (Nat.not_lt_zero i)⟩
  | succ n ih =>
    intro hn
    have o := so.2 n (by omega)
    rw [lsD_S]
    by_cases c : sn.2.1 n = x
    · rw [if_pos c]
      rcases ih (by omega) with ⟨i1, i2⟩ | ⟨d, i1, i2, i3⟩
      · rw [i1]
        refine Or.inr ⟨sn.2.2.1 n, rfl, o.2.1, fun i hi k => ?_⟩
        by_cases e : i = n
        · rw [e]; exact Nat.le_refl _
        · exact absurd k (i2 i (by omega))
      · rw [i1]
        refine Or.inr ⟨if d < sn.2.2.1 n then sn.2.2.1 n else d, rfl, ?_, fun i hi k => ?_⟩
        · split <;> omega
        · by_cases e : i = n
          · rw [e]; split <;> omega
          · have := i3 i (by omega) k
            split <;> omega
    · rw [if_neg c]
      rcases ih (by omega) with ⟨i1, i2⟩ | ⟨d, i1, i2, i3⟩
      · refine Or.inl ⟨i1, fun i hi => ?_⟩
        by_cases e : i = n
        · rw [e]; exact c
        · exact i2 i (by omega)
      · refine Or.inr ⟨d, i1, i2, fun i hi k => ?_⟩
        by_cases e : i = n
        · rw [e] at k; exact absurd k c
        · exact i3 i (by omega) k
theorem c_lastDay {sn : mu_Sn} {Λ : mu_Ld} (f : Nat → Nat → Int32) (g : Nat → Nat → Int64) (hs : cSn 81 sn f) (so : snOK Λ sn) (lo : lOK Λ) {x : Nat} (hx : x < 1000) : x_se_lastDayOf_p81_0 (f, g) (nI x) = rI (dI (lsD sn x sn.1)) (f, g) := by
  have l1 := lo.1
  have s8 := so.1
  have h81 : f 81 0 = nI sn.1 := hs.1
  rw [e_se_lastDayOf_p81_0]
  have h := mu_loop (fun (a : Option Nat) i => x_se_lastDayOf_p81_4 (f, g) (nI x) (dI a) i) (fun n => lsD sn x n) sn.1 (by
    intro i hi
    obtain ⟨b1, b2, b3⟩ := hs.2 i hi
    obtain ⟨o1, o2, o3, o4⟩ := so.2 i hi
    have b1' : f 82 i = nI (sn.2.1 i) := b1
    have b2' : f 83 i = nI (sn.2.2.1 i) := b2
    show x_se_lastDayOf_p81_4 (f, g) (nI x) (dI (lsD sn x i)) (nI i) = x_se_lastDayOf_p81_4 (f, g) (nI x) (dI (lsD sn x (i + 1))) (nI (i + 1))
    rw [lsD_S, e_se_lastDayOf_p81_4, if_neg (by show ¬ f 81 0 ≤ nI i; rw [h81]; exact nI_ge hi (by omega))]
    simp (disch := omega) only [q_in, q_clamp, if_true, b1', b2', q_eqI, nI_1]
    by_cases c1 : sn.2.1 i = x
    · rw [if_pos c1, if_pos c1]
      rcases lsD_c so x i (by omega) with ⟨i1, _⟩ | ⟨d, i1, i2, _⟩
      · rw [i1]
        have : (dI none < nI (sn.2.2.1 i)) = True := q_nNlt (by omega)
        simp only [this, if_true]; rfl
      · rw [i1]
        show x_se_lastDayOf_p81_4 (f, g) (nI x) (if nI d < nI (sn.2.2.1 i) then nI (sn.2.2.1 i) else nI d) _ = x_se_lastDayOf_p81_4 (f, g) (nI x) (nI (if d < sn.2.2.1 i then sn.2.2.1 i else d)) _
        by_cases c2 : d < sn.2.2.1 i
        · rw [if_pos (nI_lt c2 (by omega)), if_pos c2]
        · rw [if_neg (nI_nlt (by omega) (by omega)), if_neg c2]
    · rw [if_neg c1, if_neg c1])
  refine Eq.trans h ?_
  show x_se_lastDayOf_p81_4 (f, g) (nI x) (dI _) (nI sn.1) = _
  rw [e_se_lastDayOf_p81_4, if_pos (q_le h81)]
  rfl
/-- all that was seen of a box is so, by its weights day by day -/
def agP (sn : mu_Sn) (x : Nat) (V : Nat → Int32) : Prop := ∀ i, i < sn.1 → sn.2.1 i = x → V (sn.2.2.1 i) = nI (sn.2.2.2 i)
theorem rOK_so {Λ : mu_Ld} (lo : lOK Λ) {x : Nat} (hx : x < lB Λ) {r : mu_Rw} (h : rOK Λ r) : rOK Λ (so Λ x r) := rOK_wD (rOK_sBx lo h hx) _
theorem rOK_soN {Λ : mu_Ld} (lo : lOK Λ) {x : Nat} (hx : x < lB Λ) {r : mu_Rw} (h : rOK Λ r) (n : Nat) : rOK Λ (soN Λ x r n) := mu_up_inv (fun _ q => rOK Λ q) r h n (fun _ _ _ hq => rOK_so lo hx hq)
theorem c_solo {Λ : mu_Ld} {r : mu_Rw} (f : Nat → Nat → Int32) (g : Nat → Nat → Int64) (lo : lOK Λ) (hL : CLd Λ f) (hR : CRw Λ 73 r f) (ro : rOK Λ r) {x : Nat} (hx : x < lB Λ) (k : en_S → Option en_O) : ∃ f', en_cI (x_st_passBox_p73_0 (f, g) (nI x)) (fun _ σ5 => k (en_u1 σ5.1 73 1 (σ5.1 73 1 + 1), σ5.2)) (fun e σ => some (.inr e, σ)) = k (f', g) ∧ CRw Λ 73 (so Λ x r) f' ∧ CFr 73 f f' := by
  obtain ⟨f1, e1, R1, F1, _, _⟩ := c_passBox_73 f g lo hL hR ro hx
  refine ⟨en_u1 f1 73 1 (f1 73 1 + nI 1), by rw [e1, c_I]; rfl, ?_, CFr_trans F1 (CFr_uS _ _ (by omega))⟩
  rw [R1.1]
  exact CRw_uD R1 _
theorem c_agreesWith {A : mu_A} (f : Nat → Nat → Int32) (g : Nat → Nat → Int64) (ok : AOK A) (hC : CRel A f) {x w : Nat} (hx : x < lB (aL A)) (w1 : 1 ≤ w) (w2 : w ≤ 99) : ∃ f' b, x_sc_agreesWith_0 (f, g) (nI x) (nI w) = rI (tb b) (f', g) ∧ (b = true ↔ agP (aS A) x (fun d => rW (soN (aL A) x (wW (aR A) x (nI w)) d) x)) ∧ ∀ p, (p < 73 ∨ 78 < p) → p ≠ 46 → p ≠ 49 → f' p = f p := by
  have lo := ok.1
  have ro := ok.2.2.2.1
  have l1 := lo.1
  have so8 := ok.2.2.2.2.2.1
  have hS := hC.2.2.2.2.1
  rw [e_sc_agreesWith_0, c_lastDay f g hS so8 lo (by omega), c_I]
  rcases lsD_c so8 x (aS A).1 (Nat.le_refl _) with ⟨i1, i2⟩ | ⟨d, i1, i2, i3⟩
  · rw [i1, if_pos (show dI none = -1 from rfl)]
    exact ⟨f, true, rfl, ⟨fun _ i hi k => absurd k (i2 i hi), fun _ => rfl⟩, fun _ _ _ _ => rfl⟩
  · rw [i1, if_neg (by show ¬ nI d = nN; rw [q_nNe (by omega)]; exact id)]
    obtain ⟨f1, e1, R1, g1, g2⟩ := c_copy73 f g lo hC.2.2.1
    rw [e1, c_V]
    simp (disch := omega) only [q_in, q_clamp, if_true]
    have R2 : CRw (aL A) 73 (wW (aR A) x (nI w)) (en_u1 f1 74 x (nI w)) := CRw_uW R1 x _
    have ro2 := rOK_wW ro w1 w2 (x := x)
    have fr2 : ∀ p, (p < 73 ∨ 78 < p) → p ≠ 46 → p ≠ 49 → en_u1 f1 74 x (nI w) p = f p := fun p a _ _ => by rw [u1_p _ _ _ (by omega), g1 p (by omega)]
    generalize wW (aR A) x (nI w) = r0 at R2 ro2
    generalize en_u1 f1 74 x (nI w) = f2 at R2 fr2
    have key : ∀ k n f2, n + k = d → CRw (aL A) 73 (soN (aL A) x r0 n) f2 → (∀ p, (p < 73 ∨ 78 < p) → p ≠ 46 → p ≠ 49 → f2 p = f p) → (∀ i, i < (aS A).1 → (aS A).2.1 i = x → (aS A).2.2.1 i < n → rW (soN (aL A) x r0 ((aS A).2.2.1 i)) x = nI ((aS A).2.2.2 i)) → ∃ f' b, x_sc_agreesWith_40 (f2, g) (nI x) (nI d) (nI n) = rI (tb b) (f', g) ∧ (b = true ↔ agP (aS A) x (fun d => rW (soN (aL A) x r0 d) x)) ∧ ∀ p, (p < 73 ∨ 78 < p) → p ≠ 46 → p ≠ 49 → f' p = f p := by
      intro k
      induction k with
      | zero =>
        intro n f2 hn R2 fr2 hbe
        rw [Nat.add_zero] at hn
        subst hn
        have hW : f2 74 x = rW (soN (aL A) x r0 n) x := R2.2.1 x hx
        have S2 : cSn 81 (aS A) f2 := cSn_of hS (fun p a b => fr2 p (by omega) (by omega) (by omega))
        rw [e_sc_agreesWith_40, if_pos (Int32.le_refl _)]
        simp (disch := omega) only [q_in, q_clamp, if_true, hW]
        rw [c_agrees f2 g S2 so8 lo (by omega) (by omega), c_I, if_pos (by cases agD (aS A) x n (rW (soN (aL A) x r0 n) x) (aS A).1 <;> decide)]
        refine ⟨f2, _, rfl, ?_, fr2⟩
        rw [agD_iff]
        constructor
        · intro h i hi hb
          by_cases c : (aS A).2.2.1 i = n
          · have := h i hi hb c
            show rW (soN (aL A) x r0 ((aS A).2.2.1 i)) x = _
            rw [c]; exact this.symm
          · exact hbe i hi hb (by have := i3 i hi hb; omega)
        · intro h i hi hb hc
          have := h i hi hb
          have this' : rW (soN (aL A) x r0 ((aS A).2.2.1 i)) x = nI ((aS A).2.2.2 i) := this
          rw [hc] at this'
          exact this'.symm
      | succ k ih =>
        intro n f2 hn R2 fr2 hbe
        have hW : f2 74 x = rW (soN (aL A) x r0 n) x := R2.2.1 x hx
        have S2 : cSn 81 (aS A) f2 := cSn_of hS (fun p a b => fr2 p (by omega) (by omega) (by omega))
        have L2 : CLd (aL A) f2 := CLd_of hC.1 (fun p a b c => fr2 p (by omega) c (by omega))
        rw [e_sc_agreesWith_40, if_neg (nI_ge (by omega) (by omega))]
        simp (disch := omega) only [q_in, q_clamp, if_true, hW]
        rw [c_agrees f2 g S2 so8 lo (by omega) (by omega), c_I]
        cases hq : agD (aS A) x n (rW (soN (aL A) x r0 n) x) (aS A).1
        · rw [if_pos (show tb false = 0 from rfl)]
          refine ⟨f2, false, rfl, ⟨fun h => (by cases h), fun h => ?_⟩, fr2⟩
          rw [← hq, agD_iff]
          intro i hi hb hc
          have := h i hi hb
          have this' : rW (soN (aL A) x r0 ((aS A).2.2.1 i)) x = nI ((aS A).2.2.2 i) := this
          rw [hc] at this'
          exact this'.symm
        · rw [if_neg (by decide)]
          obtain ⟨f3, e3, R3, F3⟩ := c_solo f2 g lo L2 R2 (rOK_soN lo hx ro2 n) hx (fun τ => x_sc_agreesWith_40 τ (nI x) (nI d) (nI n + 1))
          have hh := (agD_iff (aS A) x n (rW (soN (aL A) x r0 n) x) (aS A).1).mp hq
          obtain ⟨f', b, e4, b4, fr4⟩ := ih (n + 1) f3 (by omega) R3 (fun p a b c => by rw [F3.1 p (by omega) b c]; exact fr2 p a b c) (fun i hi hb hl => by
            by_cases c : (aS A).2.2.1 i = n
            · rw [c]; exact (hh i hi hb c).symm
            · exact hbe i hi hb (by omega))
          refine ⟨f', b, ?_, b4, fr4⟩
          refine Eq.trans e3 ?_
          show x_sc_agreesWith_40 (f3, g) (nI x) (nI d) (nI n + 1) = _
          rw [nI_1]
          exact e4
    exact key d 0 f2 (by omega) R2 fr2 (fun i _ _ h => absurd h (Nat.not_lt_zero _))
