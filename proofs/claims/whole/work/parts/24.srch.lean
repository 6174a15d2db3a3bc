/-! searches by days -/
theorem mu_invF {α : Type} (L : α → Int32 → Option en_O) (I : Nat → α → Prop) (s n : Nat) (hsn : s ≤ n) (a : α) (h0 : I s a) (hs : ∀ p a, s ≤ p → p < n → I p a → ∃ a', L a (nI p) = L a' (nI (p + 1)) ∧ I (p + 1) a') : ∃ a', L a (nI s) = L a' (nI n) ∧ I n a' := by
  have key : ∀ k, s + k ≤ n → ∃ a', L a (nI s) = L a' (nI (s + k)) ∧ I (s + k) a' := by
    intro k
    induction k with
    | zero => intro _; exact ⟨a, rfl, h0⟩
    | succ k ih =>
      intro hk
      obtain ⟨a1, e1, i1⟩ := ih (by omega)
      obtain ⟨a2, e2, i2⟩ := hs (s + k) a1 (by omega) (by omega) i1
      exact ⟨a2, e1.trans e2, i2⟩
  have := key (n - s) (by omega)
  rw [show s + (n - s) = n by omega] at this
  exact this
def mu_fd (P : Nat → Bool) : Nat → Nat → Int32
  | 0, _ => nN
  | n + 1, k => if P k then nI k else mu_fd P n (k + 1)
theorem mu_srch {α : Type} (L : α → Int32 → Option en_O) (mk : α → en_S) (I : Nat → α → Prop) (J : α → Prop) (P : Nat → Bool) (N : Nat) (hend : ∀ a, I N a → L a (nI N) = rI nN (mk a)) (hJ : ∀ k a, I k a → J a) (hstep : ∀ k a, k < N → I k a → (P k = true → ∃ a', L a (nI k) = rI (nI k) (mk a') ∧ J a') ∧ (P k = false → ∃ a', L a (nI k) = L a' (nI (k + 1)) ∧ I (k + 1) a')) : ∀ n k a, k + n = N → I k a → ∃ a', L a (nI k) = rI (mu_fd P n k) (mk a') ∧ J a' := by
  intro n
  induction n with
  | zero =>
    intro k a hk hi
    obtain rfl : k = N := by omega
    exact ⟨a, hend a hi, hJ _ a hi⟩
  | succ n ih =>
    intro k a hk hi
    cases hp : P k with
    | true =>
      obtain ⟨a', e, j⟩ := (hstep k a (by omega) hi).1 hp
      exact ⟨a', by rw [e, mu_fd, if_pos hp], j⟩
    | false =>
      obtain ⟨a', e, j⟩ := (hstep k a (by omega) hi).2 hp
      obtain ⟨a2, e2, j2⟩ := ih (k + 1) a' (by omega) j
      exact ⟨a2, by rw [e, e2, mu_fd, if_neg (by rw [hp]; decide)], j2⟩
def aM (w : Nat → Int32) (z : Int32) (n : Nat) : Int32 × Int32 := mu_up (fun x q => if w x ≤ q.2 then q else (nI x, w x)) (nN, z) n
theorem aM_pos (w : Nat → Int32) (z : Int32) {n : Nat} (h : ∀ x, x < n → ¬ w x ≤ z) : ∀ p, 0 < p → p ≤ n → ∃ b, b < p ∧ aM w z p = (nI b, w b) := by
  intro p
  induction p with
  | zero => intro h; omega
  | succ p ih =>
    intro _ hp
    by_cases h0 : p = 0
    · subst h0
      refine ⟨0, by omega, ?_⟩
      show (if w 0 ≤ z then _ else _) = _
      rw [if_neg (h 0 (by omega))]
    · obtain ⟨b, hb, e⟩ := ih (by omega) (by omega)
      have : aM w z (p + 1) = if w p ≤ (aM w z p).2 then aM w z p else (nI p, w p) := rfl
      rw [this, e]
      by_cases c : w p ≤ w b
      · rw [if_pos c]; exact ⟨b, by omega, rfl⟩
      · rw [if_neg c]; exact ⟨p, by omega, rfl⟩
theorem or_mk (P : Nat → Bool) (a : Nat) (n : Nat) : mu_up (fun x a => if P x then a ||| 2 ^ x else a) a n = a ||| mu_mk P n := by
  induction n with
  | zero => exact (Nat.or_zero a).symm
  | succ n ih =>
    rw [mu_upS, ih]
    cases h : P n
    · rw [if_neg (by decide), mu_mk_f h]
    · rw [if_pos rfl, mu_mk_t h, Nat.or_assoc]
theorem QC_copy {f f' : Nat → Nat → Int32} (h : ∀ p, (p < 73 ∨ 77 < p) → f' p = f p) : QC f f' := fun p a _ _ _ => h p (by omega)
theorem m_borneIn {Λ : mu_Ld} {r : mu_Rw} (f : Nat → Nat → Int32) (g : Nat → Nat → Int64) (lo : lOK Λ) (hL : MLd Λ f) (hR : MRw Λ 0 r f) (ro : rOK Λ r) {x : Nat} (hx : x < lB Λ) (w : Bool) : ∃ f', x_m_borneIn_0 (f, g) (nI x) (tb w) = rI (mu_fd (fun k => sB Λ (sDn Λ r k) x == w) 41 0) (f', g) ∧ QM f f' ∧ f' 0 0 = f 0 0 := by
  obtain ⟨f1, e1, R1, g1, g2⟩ := m_tries (f, g) lo hR
  have L1 : MLd Λ f1 := MLd_of hL (fun i _ => by rw [g1 0 (by omega)]) (fun p _ _ => g1 p (by omega))
  obtain ⟨f2, e2, F2⟩ := mu_srch (fun (f : Nat → Nat → Int32) i => x_m_borneIn_6 (f, g) (nI x) (tb w) i) (fun f => (f, g)) (fun k f => MRw Λ 29 (sDn Λ r k) f ∧ MFr 29 f1 f) (fun f => MFr 29 f1 f) (fun k => sB Λ (sDn Λ r k) x == w) 41 (by
    intro a _
    show x_m_borneIn_6 (a, g) (nI x) (tb w) (nI 41) = _
    rw [e_m_borneIn_6, if_pos (by decide)]; rfl) (fun _ _ h => h.2) (by
    intro k a hk ⟨R2, F2⟩
    have La := MFr_L F2 L1
    have hb := m_isBorne (a, g) lo (b := 29) (by omega) La R2 hx
    have e : x_m_borneIn_6 (a, g) (nI x) (tb w) (nI k) = if tb (sB Λ (sDn Λ r k) x) = tb w then rI (nI k) (a, g) else en_cV (x_m_dayGoes_0 (a, g) 29) (fun σ3 => x_m_borneIn_6 σ3 (nI x) (tb w) (nI k + 1)) (fun e σ => some (.inr e, σ)) := by
      rw [e_m_borneIn_6, show (40 : Int32) = nI 40 by decide, if_neg (by rw [q_ltI (by omega) (by omega)]; omega), show x_m_isBorne_0 (a, g) 29 (nI x) = _ from hb, c_I]
      rfl
    constructor
    · intro hp
      have : sB Λ (sDn Λ r k) x = w := by simpa using hp
      exact ⟨a, by rw [e, if_pos (by rw [this])], F2⟩
    · intro hp
      obtain ⟨f3, e3, R3, F3, _, _⟩ := m_dayGoes (a, g) lo (b := 29) (by omega) La R2 (rOK_sDn lo ro k)
      refine ⟨f3, ?_, R3, MFr_trans F2 F3⟩
      rw [e, if_neg (by intro h; revert hp h; cases sB Λ (sDn Λ r k) x <;> cases w <;> decide), show x_m_dayGoes_0 (a, g) 29 = _ from e3, c_V, nI_1]) 41 0 f1 (by omega) ⟨R1, MFr_refl _ _⟩
  refine ⟨f2, ?_, QM_trans (QM_18 g1 g2) (QM_MFr F2), ?_⟩
  · rw [e_m_borneIn_0, e1, c_V]; exact e2
  · rw [F2.2.1 0 (by omega) (by omega) (by omega), g1 0 (by omega)]
theorem c_firstBorne {Λ : mu_Ld} {r : mu_Rw} (f : Nat → Nat → Int32) (g : Nat → Nat → Int64) (lo : lOK Λ) (hL : CLd Λ f) (hR : CRw Λ 67 r f) (ro : rOK Λ r) {x : Nat} (hx : x < lB Λ) (w : Bool) : ∃ f', x_b_firstBorne_0 (f, g) (nI x) (tb w) = rI (mu_fd (fun k => sB Λ (sDn Λ r k) x == w) 41 0) (f', g) ∧ QC f f' := by
  obtain ⟨f1, e1, R1, g1, g2⟩ := c_copy73 f g lo hR
  have L1 : CLd Λ f1 := CLd_of hL (fun p _ _ _ => g1 p (by omega))
  obtain ⟨f2, e2, F2⟩ := mu_srch (fun (f : Nat → Nat → Int32) i => x_b_firstBorne_13 (f, g) (nI x) (tb w) i) (fun f => (f, g)) (fun k f => CRw Λ 73 (sDn Λ r k) f ∧ CFr 73 f1 f) (fun f => CFr 73 f1 f) (fun k => sB Λ (sDn Λ r k) x == w) 41 (by
    intro a _
    show x_b_firstBorne_13 (a, g) (nI x) (tb w) (nI 41) = _
    rw [e_b_firstBorne_13, if_pos (by decide)]; rfl) (fun _ _ h => h.2) (by
    intro k a hk ⟨R2, F2⟩
    have La := CFr_L (by omega) F2 L1
    have hb := c_isBorne_73 (a, g) lo La R2 hx
    have e : x_b_firstBorne_13 (a, g) (nI x) (tb w) (nI k) = if tb (sB Λ (sDn Λ r k) x) = tb w then rI (nI k) (a, g) else en_cV (x_st_passDay_p73_0 (a, g)) (fun σ3 => x_b_firstBorne_13 σ3 (nI x) (tb w) (nI k + 1)) (fun e σ => some (.inr e, σ)) := by
      rw [e_b_firstBorne_13, show (40 : Int32) = nI 40 by decide, if_neg (by rw [q_ltI (by omega) (by omega)]; omega), hb, c_I]
      rfl
    constructor
    · intro hp
      have : sB Λ (sDn Λ r k) x = w := by simpa using hp
      exact ⟨a, by rw [e, if_pos (by rw [this])], F2⟩
    · intro hp
      obtain ⟨f3, e3, R3, F3, _, _⟩ := c_passDay_73 a g lo La R2 (rOK_sDn lo ro k)
      refine ⟨f3, ?_, R3, CFr_trans F2 F3⟩
      rw [e, if_neg (by intro h; revert hp h; cases sB Λ (sDn Λ r k) x <;> cases w <;> decide), e3, c_V, nI_1]) 41 0 f1 (by omega) ⟨R1, CFr_refl _ _⟩
  refine ⟨f2, ?_, QC_trans (QC_copy g1) (QC_CFr F2)⟩
  rw [e_b_firstBorne_0, e1, c_V]; exact e2
