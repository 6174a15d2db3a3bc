/-! toBear: the class -/
def tW (Λ : mu_Ld) (r : mu_Rw) (x fr m : Nat) : Option Nat := if sBr Λ r x m then (match tF Λ r (lB Λ - (x + 1)) (anN fr m) with
  | none => none
  | some c => some (c + mu_bc m)) else none
def tA (o a : Option Nat) : Option Nat := match o with
  | none => a
  | some c => match a with
    | none => some c
    | some b => if c < b then some c else a
theorem sbF_congr {α : Type} (fr : Nat) (h h' : Nat → α → α) (e : ∀ m a, h m a = h' m a) : ∀ n m a, sbF fr h n m a = sbF fr h' n m a := by
  intro n
  induction n with
  | zero => intro m a; rfl
  | succ n ih =>
    intro m a
    show (if m = 0 then a else sbF fr h n ((m - 1) &&& fr) (h m a)) = (if m = 0 then a else sbF fr h' n ((m - 1) &&& fr) (h' m a))
    rw [e, ih]
theorem tF_S {Λ : mu_Ld} (r : mu_Rw) {x : Nat} (hx : x < lB Λ) (fr : Nat) : tF Λ r (lB Λ - x) fr = sbF fr (fun m a => tA (tW Λ r x fr m) a) 256 fr none := by
  obtain ⟨j, hj⟩ : ∃ j, lB Λ - x = j + 1 := ⟨lB Λ - x - 1, by omega⟩
  rw [hj]
  show sbF fr _ 256 fr none = _
  apply sbF_congr
  intro m a
  unfold tW tA
  rw [show lB Λ - (j + 1) = x by omega, show lB Λ - (x + 1) = j by omega]
  cases sBr Λ r x m
  · rfl
  · cases tF Λ r j (anN fr m) with
    | none => rfl
    | some c => rfl
theorem tW_rg {Λ : mu_Ld} {r : mu_Rw} {x fr m c : Nat} (hf : fr < 256) (h : tW Λ r x fr m = some c) : c ≤ 16 := by
  unfold tW at h
  cases hb : sBr Λ r x m
  · rw [hb] at h; cases h
  · rw [hb] at h
    have h' : (match tF Λ r (lB Λ - (x + 1)) (anN fr m) with | none => none | some c => some (c + mu_bc m)) = some c := h
    cases ht : tF Λ r (lB Λ - (x + 1)) (anN fr m) with
    | none => rw [ht] at h'; cases h'
    | some d =>
      rw [ht] at h'
      have e : d + mu_bc m = c := Option.some.inj h'
      have := (tF_rg Λ r _ _ d (anN_lt (n := 8) hf) ht).2
      have := mu_bc_le (anN fr m)
      have := mu_bc_le m
      omega
/-- what the class has laid out: who is strong enough; from box x on -/
def TC (Λ : mu_Ld) (r : mu_Rw) (x : Nat) (f : Nat → Nat → Int32) : Prop := (∀ m, m < 2 ^ lP Λ → f 98 m = sMt Λ r m) ∧ ∀ y, x ≤ y → y ≤ lB Λ → ∀ fr, fr < 2 ^ lP Λ → (1 ≤ y ∨ fr = 2 ^ lP Λ - 1) → f 99 (y * 256 + fr) = dI (tF Λ r (lB Λ - y) fr)
theorem c_manyWith {Λ : mu_Ld} {r : mu_Rw} (f : Nat → Nat → Int32) (g : Nat → Nat → Int64) (lo : lOK Λ) (hR : CRw Λ 67 r f) {x fr m : Nat} (hT : TC Λ r (x + 1) f) (hx : x < lB Λ) (hf : fr < 2 ^ lP Λ) (hm0 : m ≠ 0) (hm : anN m fr = 0) : x_sh_manyWith_0 (f, g) (nI x) (nI fr) (nI m) = rI (dI (tW Λ r x fr m)) (f, g) := by
  have l1 := lo.1
  have l2 := lo.2.1
  have p8 := p256 l2
  have hmP : m < 2 ^ lP Λ := sub_lt hm hf
  have hW : f 68 x = rW r x := hR.2.1 x hx
  have h98 := hT.1 m hmP
  have hal : anN fr m < 2 ^ lP Λ := anN_lt hf
  have h99 := hT.2 (x + 1) (Nat.le_refl _) (by omega) (anN fr m) hal (Or.inl (by omega))
  rw [e_sh_manyWith_0]
  simp (disch := omega) only [q_0, q_1, q_2, q_3, q_4, q_5, q_6, q_7, q_8, q_9, q_10, q_11, q_12, q_13, q_14, q_15, q_16, q_17, q_18, q_19, q_20, q_21, q_22, q_23, q_24, q_29, q_30, q_31, q_36, q_42, q_50, q_40, q_48, q_96, q_97, q_99, q_100, q_255, q_256, q_700, q_999, q_1160, q_1400, q_99999, q_m1, q_in, q_clamp, if_true, hW, h98, q_an, nI_add, pk_mul, h99, q_m1]
  unfold tW
  have hbr : sBr Λ r x m = !decide (sMt Λ r m < rW r x) := by
    unfold sBr
    by_cases c : sMt Λ r m < rW r x
    · rw [decide_eq_false (fun k => k.2 c), decide_eq_true c]; rfl
    · rw [decide_eq_true ⟨hm0, c⟩, decide_eq_false c]; rfl
  by_cases c : sMt Λ r m < rW r x
  · rw [if_neg (by rw [Int32.not_le]; exact c), hbr, decide_eq_true c]; rfl
  · rw [if_pos (by rw [← Int32.not_lt]; exact c), hbr, decide_eq_false c]
    show _ = rI (dI (match tF Λ r (lB Λ - (x + 1)) (anN fr m) with | none => none | some c => some (c + mu_bc m))) (f, g)
    cases ht : tF Λ r (lB Λ - (x + 1)) (anN fr m) with
    | none => rw [if_pos (show dI none = nN from rfl)]; rfl
    | some d =>
      have h2 := (tF_rg Λ r _ _ d (by omega) ht).2
      have h3 := mu_bc_le (anN fr m)
      rw [if_neg (by show ¬ nI d = nN; rw [q_nNe (by omega)]; exact id), c_bitCount (f, g) (by omega), c_I]
      show rI (nI d + nI (mu_bc m)) (f, g) = _
      rw [nI_add]; rfl
theorem c_fewestOf {Λ : mu_Ld} {r : mu_Rw} (f : Nat → Nat → Int32) (g : Nat → Nat → Int64) (lo : lOK Λ) (hL : CLd Λ f) (hR : CRw Λ 67 r f) {x fr : Nat} (hT : TC Λ r (x + 1) f) (hx : x < lB Λ) (hf : fr < 2 ^ lP Λ) : x_sh_fewestOf_0 (f, g) (nI x) (nI fr) = rI (dI (tF Λ r (lB Λ - x) fr)) (f, g) := by
  have l1 := lo.1
  have l2 := lo.2.1
  have p8 := p256 l2
  have hB : f 34 5 = nI (lB Λ) := hL.1
  have hb8 := mu_bc_le fr
  rw [e_sh_fewestOf_0, c_bitCount (f, g) (by omega), c_I]
  by_cases c : lB Λ - x ≤ mu_bc fr
  · rw [if_pos (by show f 34 5 - nI x ≤ nI (mu_bc fr); rw [hB, pk_sub (by omega)]; exact nI_le c (by omega))]
    have key : ∀ n m a, m ≤ n → anN m fr = 0 → (∀ b, a = some b → b ≤ 16) → x_sh_fewestOf_26 (f, g) (nI x) (nI fr) (dI a) (nI m) = rI (dI (sbF fr (fun m a => tA (tW Λ r x fr m) a) n m a)) (f, g) := by
      intro n
      induction n with
      | zero =>
        intro m a hm _ _
        obtain rfl : m = 0 := by omega
        rw [e_sh_fewestOf_26, if_pos (by decide)]
        rfl
      | succ n ih =>
        intro m a hm hs ha
        show _ = rI (dI (if m = 0 then a else sbF fr (fun m a => tA (tW Λ r x fr m) a) n ((m - 1) &&& fr) (tA (tW Λ r x fr m) a))) (f, g)
        by_cases m0 : m = 0
        · rw [if_pos m0, m0, e_sh_fewestOf_26, if_pos (by decide)]
          rfl
        · have hm256 : m < 2 ^ lP Λ := sub_lt hs hf
          have hand : (m - 1) &&& fr ≤ m - 1 := Nat.and_le_left
          have ha' : ∀ b, tA (tW Λ r x fr m) a = some b → b ≤ 16 := by
            intro b hb
            cases hw : tW Λ r x fr m with
            | none => rw [hw] at hb; exact ha b hb
            | some d =>
              have hd := tW_rg (by omega) hw
              rw [hw] at hb
              cases a with
              | none =>
                have e : d = b := Option.some.inj hb
                omega
              | some b' =>
                have hb' : (if d < b' then some d else some b') = some b := hb
                by_cases q : d < b'
                · rw [if_pos q] at hb'
                  have e : d = b := Option.some.inj hb'
                  omega
                · rw [if_neg q] at hb'
                  exact ha b hb'
          rw [if_neg m0, ← ih _ _ (by omega) (sb_sub hs m) ha', e_sh_fewestOf_26, if_neg (nI_nle (by omega) (by omega)), c_manyWith f g lo hR hT hx hf m0 hs, c_I]
          rw [show (1 : Int32) = nI 1 by decide, pk_sub (by omega), fa_and]
          cases hw : tW Λ r x fr m with
          | none => rw [if_pos (show dI none = -nI 1 from rfl)]; rfl
          | some d =>
            have hd := tW_rg (by omega) hw
            rw [if_neg (by show ¬ nI d = nN; rw [q_nNe (by omega)]; exact id)]
            cases a with
            | none => rw [if_pos (show dI none = -nI 1 from rfl)]; rfl
            | some b' =>
              have hb' := ha b' rfl
              rw [if_neg (by show ¬ nI b' = nN; rw [q_nNe (by omega)]; exact id)]
              show (if nI b' ≤ nI d then _ else _) = x_sh_fewestOf_26 (f, g) (nI x) (nI fr) (dI (if d < b' then some d else some b')) _
              by_cases q : d < b'
              · rw [if_neg (nI_ge q (by omega)), if_pos q]
              · rw [if_pos (nI_le (by omega) (by omega)), if_neg q]
    rw [tF_S r hx]
    exact key 256 fr none (by omega) (anN_self fr) (by intro b h; cases h)
  · rw [if_neg (by show ¬ f 34 5 - nI x ≤ nI (mu_bc fr); rw [hB, pk_sub (by omega)]; exact nI_ge (by omega) (by omega))]
    have : tF Λ r (lB Λ - x) fr = none := by
      cases ht : tF Λ r (lB Λ - x) fr with
      | none => rfl
      | some d =>
        have := tF_rg Λ r _ _ d (by omega) ht
        omega
    rw [this]; rfl
theorem TC_of {Λ : mu_Ld} {r : mu_Rw} {x : Nat} {f f' : Nat → Nat → Int32} (h : TC Λ r x f) (e : ∀ p, p = 98 ∨ p = 99 → f' p = f p) : TC Λ r x f' := ⟨by rw [e 98 (by omega)]; exact h.1, by rw [e 99 (by omega)]; exact h.2⟩
def pmI (x : Nat) : Int32 := match x with
  | 0 => nN
  | k + 1 => nI k
theorem pmI_s (x : Nat) : nI x - 1 = pmI x := by
  cases x with
  | zero => decide
  | succ k => exact nI_pred k
theorem pmI_a (x : Nat) : nI x + (-1) = pmI x := by
  cases x with
  | zero => decide
  | succ k => exact pk_m1 k
theorem c_shall {Λ : mu_Ld} (f : Nat → Nat → Int32) (g : Nat → Nat → Int64) (lo : lOK Λ) (hL : CLd Λ f) : x_sh_everyone_0 (f, g) = rI (nI (2 ^ lP Λ - 1)) (f, g) := by
  have l2 := lo.2.1
  have h0 : 0 < 2 ^ lP Λ := Nat.pow_pos (by omega)
  have hP : f 34 9 = nI (lP Λ) := hL.2.1
  rw [e_sh_everyone_0]
  show rI (((1 : Int32) <<< (f 34 9 &&& 31)) - 1) (f, g) = _
  rw [hP, show (1 : Int32) = nI 1 by decide, show (31 : Int32) = nI 31 by decide, q_shl (by omega), pk_sub (by omega)]
theorem c_workOut {Λ : mu_Ld} {r : mu_Rw} (f : Nat → Nat → Int32) (g : Nat → Nat → Int64) (lo : lOK Λ) (hL : CLd Λ f) (hR : CRw Λ 67 r f) : ∃ f', x_sh_workOut_0 (f, g) = rV (f', g) ∧ TC Λ r 0 f' ∧ ∀ p, p ≠ 98 → p ≠ 99 → f' p = f p := by
  have l1 := lo.1
  have l2 := lo.2.1
  have p8 := p256 l2
  have h0 : 0 < 2 ^ lP Λ := Nat.pow_pos (by omega)
  have Lf : ∀ f', (∀ p, p ≠ 98 → p ≠ 99 → f' p = f p) → CLd Λ f' ∧ CRw Λ 67 r f' := fun f' h => ⟨CLd_of hL (fun p _ _ _ => h p (by omega) (by omega)), CRw_of hR (by rw [h 67 (by omega) (by omega)]) (fun p _ _ => h p (by omega) (by omega))⟩
  rw [e_sh_workOut_0, c_shall f g lo hL, c_I]
  obtain ⟨f1, e1, i1, i2, i3⟩ := mu_inv (fun (f' : Nat → Nat → Int32) i => x_sh_workOut_18 (f', g) (nI (2 ^ lP Λ - 1)) (nI (lB Λ)) i) (fun m f' => (∀ k, k < m → f' 98 k = sMt Λ r k) ∧ (∀ k, k < m → f' 99 (lB Λ * 256 + k) = nI 0) ∧ ∀ p, p ≠ 98 → p ≠ 99 → f' p = f p) (2 ^ lP Λ) f ⟨fun k h => absurd h (Nat.not_lt_zero k), fun k h => absurd h (Nat.not_lt_zero k), fun _ _ _ => rfl⟩ (by
    intro m f1 hm ⟨i1, i2, i3⟩
    obtain ⟨L1, R1⟩ := Lf f1 i3
    show ∃ f', x_sh_workOut_18 (f1, g) (nI (2 ^ lP Λ - 1)) (nI (lB Λ)) (nI m) = x_sh_workOut_18 (f', g) (nI (2 ^ lP Λ - 1)) (nI (lB Λ)) (nI (m + 1)) ∧ _
    rw [e_sh_workOut_18, if_neg (nI_nlt (by omega) (by omega)), c_mightOfAll_67 (f1, g) lo L1 R1 (by omega), c_I]
    simp (disch := omega) only [q_0, q_1, q_2, q_3, q_4, q_5, q_6, q_7, q_8, q_9, q_10, q_11, q_12, q_13, q_14, q_15, q_16, q_17, q_18, q_19, q_20, q_21, q_22, q_23, q_24, q_29, q_30, q_31, q_36, q_42, q_50, q_40, q_48, q_96, q_97, q_99, q_100, q_255, q_256, q_700, q_999, q_1160, q_1400, q_99999, q_m1, q_in, q_clamp, if_true, nI_add, pk_mul]
    refine ⟨_, rfl, fun k hk => ?_, fun k hk => ?_, fun p a b => by rw [u1_p _ _ _ b, u1_p _ _ _ a]; exact i3 p a b⟩
    · rw [u1_ne _ _ (by omega), u1_if]
      by_cases c : k = m
      · rw [if_pos c, c]
      · rw [if_neg c]; exact i1 k (by omega)
    · rw [u1_if]
      by_cases c : k = m
      · rw [if_pos (by omega)]
      · rw [if_neg (by omega), u1_ne _ _ (by omega)]; exact i2 k (by omega))
  have hB1 : (f, g).1 34 5 = nI (lB Λ) := hL.1
  have down : ∀ x, x ≤ lB Λ → ∀ f1, TC Λ r x f1 → (∀ p, p ≠ 98 → p ≠ 99 → f1 p = f p) → ∃ f', x_sh_workOut_60 (f1, g) (nI (2 ^ lP Λ - 1)) (pmI x) = rV (f', g) ∧ TC Λ r 0 f' ∧ ∀ p, p ≠ 98 → p ≠ 99 → f' p = f p := by
    intro x
    induction x with
    | zero =>
      intro _ f1 h1 h2
      refine ⟨f1, ?_, h1, h2⟩
      rw [e_sh_workOut_60, if_pos (by decide)]; rfl
    | succ x ih =>
      intro hx f1 h1 h2
      have st : ∀ (s : Nat), (s = 0 ∨ (x = 0 ∧ s = 2 ^ lP Λ - 1)) → (1 ≤ x → s = 0) → ∃ f', x_sh_workOut_75 (f1, g) (nI (2 ^ lP Λ - 1)) (nI x) (nI s) = rV (f', g) ∧ TC Λ r 0 f' ∧ ∀ p, p ≠ 98 → p ≠ 99 → f' p = f p := by
        intro s hs hs1
        obtain ⟨f2, e2, j1, j2, j3, j4⟩ := mu_invF (fun (f' : Nat → Nat → Int32) i => x_sh_workOut_75 (f', g) (nI (2 ^ lP Λ - 1)) (nI x) i) (fun n f' => TC Λ r (x + 1) f' ∧ (∀ k, s ≤ k → k < n → f' 99 (x * 256 + k) = dI (tF Λ r (lB Λ - x) k)) ∧ (∀ p, p ≠ 98 → p ≠ 99 → f' p = f p) ∧ True) s (2 ^ lP Λ) (by omega) f1 ⟨h1, fun k a b => absurd a (by omega), h2, trivial⟩ (by
          intro n f2 hn1 hn ⟨j1, j2, j3, _⟩
          obtain ⟨L2, R2⟩ := Lf f2 j3
          show ∃ f', x_sh_workOut_75 (f2, g) (nI (2 ^ lP Λ - 1)) (nI x) (nI n) = x_sh_workOut_75 (f', g) (nI (2 ^ lP Λ - 1)) (nI x) (nI (n + 1)) ∧ _
          rw [e_sh_workOut_75, if_neg (nI_nlt (by omega) (by omega)), c_fewestOf f2 g lo L2 R2 j1 (by omega) hn, c_I]
          simp (disch := omega) only [q_0, q_1, q_2, q_3, q_4, q_5, q_6, q_7, q_8, q_9, q_10, q_11, q_12, q_13, q_14, q_15, q_16, q_17, q_18, q_19, q_20, q_21, q_22, q_23, q_24, q_29, q_30, q_31, q_36, q_42, q_50, q_40, q_48, q_96, q_97, q_99, q_100, q_255, q_256, q_700, q_999, q_1160, q_1400, q_99999, q_m1, q_in, q_clamp, if_true, nI_add, pk_mul]
          refine ⟨_, rfl, ⟨fun m hm => ?_, fun y y1 y2 fr hf hor => ?_⟩, fun k k1 k2 => ?_, fun p a b => by rw [u1_p _ _ _ b]; exact j3 p a b, trivial⟩
          · rw [u1_ne _ _ (by omega)]; exact j1.1 m hm
          · rw [u1_ne _ _ (by omega)]; exact j1.2 y y1 y2 fr hf hor
          · rw [u1_if]
            by_cases c : k = n
            · rw [if_pos (by omega), c]
            · rw [if_neg (by omega)]; exact j2 k k1 (by omega))
        have T2 : TC Λ r x f2 := by
          refine ⟨j1.1, fun y y1 y2 fr hf hor => ?_⟩
          by_cases c : y = x
          · subst c
            exact j2 fr (by omega) hf
          · exact j1.2 y (by omega) y2 fr hf hor
        obtain ⟨f3, e3, t3, g3⟩ := ih (by omega) f2 T2 j3
        refine ⟨f3, ?_, t3, g3⟩
        refine Eq.trans e2 ?_
        show x_sh_workOut_75 (f2, g) (nI (2 ^ lP Λ - 1)) (nI x) (nI (2 ^ lP Λ)) = _
        rw [e_sh_workOut_75, if_pos (nI_lt (by omega) (by omega)), pmI_a]
        exact e3
      show ∃ f', x_sh_workOut_60 (f1, g) (nI (2 ^ lP Λ - 1)) (nI x) = rV (f', g) ∧ _
      rw [e_sh_workOut_60, if_neg (nI_pos (by omega))]
      by_cases c : x = 0
      · rw [if_pos (by rw [c]; rfl)]
        exact st (2 ^ lP Λ - 1) (Or.inr ⟨c, rfl⟩) (by omega)
      · rw [if_neg (nI_ne0 (by omega) (by omega))]
        exact st 0 (Or.inl rfl) (fun _ => rfl)
  have T1 : TC Λ r (lB Λ) f1 := by
    refine ⟨i1, fun y y1 y2 fr hf _ => ?_⟩
    have : y = lB Λ := by omega
    subst this
    rw [i2 fr hf, Nat.sub_self]; rfl
  obtain ⟨f2, e2, t2, g2⟩ := down (lB Λ) (Nat.le_refl _) f1 T1 i3
  refine ⟨f2, ?_, t2, g2⟩
  rw [hB1]
  refine Eq.trans e1 ?_
  show x_sh_workOut_18 (f1, g) (nI (2 ^ lP Λ - 1)) (nI (lB Λ)) (nI (2 ^ lP Λ)) = _
  rw [e_sh_workOut_18, if_pos (nI_lt (by omega) (by omega)), pmI_s]
  exact e2
