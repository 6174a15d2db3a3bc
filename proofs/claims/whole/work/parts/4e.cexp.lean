/-! expressions: outcomes, and the class's small steps -/
abbrev mu_O : Type := (Nat × List Int32) ⊕ (Nat × Nat)
/-- steps that lie in a rule from a place on -/
def Sto (f : Nat → Nat → Int32) (R : Nat) : Nat → List Int32 → Prop
  | _, [] => True
  | m, s :: l => f (R + 1) m = s ∧ Sto f R (m + 1) l
theorem Sto_app {f : Nat → Nat → Int32} {R : Nat} : ∀ (l l' : List Int32) (m : Nat), Sto f R m (l ++ l') ↔ Sto f R m l ∧ Sto f R (m + l.length) l' := by
  intro l
  induction l with
  | nil => intro l' m; exact ⟨fun h => ⟨trivial, h⟩, fun h => h.2⟩
  | cons s l ih =>
    intro l' m
    have e : m + (s :: l).length = m + 1 + l.length := by simp only [List.length_cons]; omega
    rw [e]
    show f (R + 1) m = s ∧ Sto f R (m + 1) (l ++ l') ↔ (f (R + 1) m = s ∧ Sto f R (m + 1) l) ∧ _
    rw [ih l' (m + 1)]
    exact ⟨fun h => ⟨⟨h.1, h.2.1⟩, h.2.2⟩, fun h => ⟨h.1.1, h.1.2, h.2⟩⟩
theorem Sto_of {f f' : Nat → Nat → Int32} {R : Nat} : ∀ (l : List Int32) (m : Nat), (∀ i, m ≤ i → i < m + l.length → f' (R + 1) i = f (R + 1) i) → Sto f R m l → Sto f' R m l := by
  intro l
  induction l with
  | nil => intro _ _ _; trivial
  | cons s l ih =>
    intro m h k
    simp only [List.length_cons] at h
    exact ⟨by rw [h m (by omega) (by omega)]; exact k.1, ih (m + 1) (fun i a b => h i (by omega) (by omega)) k.2⟩
theorem Sto_get {f : Nat → Nat → Int32} {R : Nat} : ∀ (l : List Int32) (m : Nat), Sto f R m l → ∀ i, i < l.length → f (R + 1) (m + i) = l.getD i 0 := by
  intro l
  induction l with
  | nil => intro m _ i hi; exact absurd hi (Nat.not_lt_zero i)
  | cons s l ih =>
    intro m h i hi
    cases i with
    | zero => exact h.1
    | succ i =>
      simp only [List.length_cons] at hi
      have := ih (m + 1) h.2 i (by omega)
      rw [show m + (i + 1) = m + 1 + i by omega, this]
      rfl
/-- what reading an expression leaves of the class -/
def CX (R : Nat) (f f' : Nat → Nat → Int32) : Prop := ∀ p i, (p ≠ 66 ∨ i < 3 ∨ (6 < i ∧ i ≠ 9 ∧ i ≠ 10)) → (p ≠ R ∨ i ≠ 1) → p ≠ R + 1 → f' p i = f p i
theorem CX_refl (R : Nat) (f : Nat → Nat → Int32) : CX R f f := fun _ _ _ _ _ => rfl
theorem CX_trans {R : Nat} {f f' f'' : Nat → Nat → Int32} (h : CX R f f') (h' : CX R f' f'') : CX R f f'' := fun p i a b c => (h' p i a b c).trans (h p i a b c)
theorem CX_CN {R : Nat} {f f' : Nat → Nat → Int32} (h : CN f f') : CX R f f' := fun p i a _ _ => h p i (by omega)
def COk (X : mu_X) (R m c' : Nat) (l : List Int32) (f f' : Nat → Nat → Int32) : Prop := CT X c' f' ∧ f' 66 9 = nI 0 ∧ f' 66 10 = f 66 10 ∧ f' R 1 = nI (m + l.length) ∧ Sto f' R m l ∧ (∀ i, i < m → f' (R + 1) i = f (R + 1) i) ∧ CX R f f'
def CBad (R k q : Nat) (f f' : Nat → Nat → Int32) : Prop := (1 ≤ k ∧ k ≤ 5) ∧ f' 66 9 = nI k ∧ f' 66 10 = nI q ∧ (∃ m, m ≤ 700 ∧ f' R 1 = nI m) ∧ CX R f f'
def CRes (X : mu_X) (R m : Nat) (o : mu_O) (f f' : Nat → Nat → Int32) : Prop := match o with
  | .inl z => COk X R m z.1 z.2 f f'
  | .inr z => CBad R z.1 z.2 f f'
def rR (R : Nat) : Prop := R = 60 ∨ R = 63
def CRun (X : mu_X) (R c : Nat) (x : en_S → Option en_O) (o : mu_O) : Prop := ∀ f g m, CT X c f → f 66 9 = nI 0 → f R 1 = nI m → m ≤ c → ∃ f', x (f, g) = rV (f', g) ∧ CRes X R m o f f'
theorem COk_trans {X : mu_X} {R m c1 c2 : Nat} {l l' : List Int32} {f f1 f2 : Nat → Nat → Int32} (h : COk X R m c1 l f f1) (h' : COk X R (m + l.length) c2 l' f1 f2) : COk X R m c2 (l ++ l') f f2 := by
  obtain ⟨a1, a2, a3, a4, a5, a6, a7⟩ := h
  obtain ⟨b1, b2, b3, b4, b5, b6, b7⟩ := h'
  refine ⟨b1, b2, b3.trans a3, ?_, (Sto_app l l' m).mpr ⟨Sto_of l m (fun i x y => b6 i y) a5, b5⟩, fun i hi => (b6 i (by omega)).trans (a6 i hi), CX_trans a7 b7⟩
  rw [b4, List.length_append, Nat.add_assoc]
theorem CBad_trans {X : mu_X} {R m c1 k q : Nat} {l : List Int32} {f f1 f2 : Nat → Nat → Int32} (h : COk X R m c1 l f f1) (h' : CBad R k q f1 f2) : CBad R k q f f2 := ⟨h'.1, h'.2.1, h'.2.2.1, h'.2.2.2.1, CX_trans h.2.2.2.2.2.2 h'.2.2.2.2⟩
/-- nothing but the token changes -/
theorem COk_next {X : mu_X} (xo : XOK X) {R m c : Nat} (hR : rR R) (f : Nat → Nat → Int32) (g : Nat → Nat → Int64) (hc : c ≤ X.1) (h : CT X c f) (h9 : f 66 9 = nI 0) (h1 : f R 1 = nI m) : ∃ f', x_rd_nextToken_0 (f, g) = rV (f', g) ∧ COk X R m (tE X c) [] f f' := by
  obtain ⟨f', e1, e2, e3⟩ := c_next xo f g (tE_le hc) h.1 h.2.2.1
  have hne : R ≠ 66 := by rcases hR with h | h <;> omega
  have hne1 : R + 1 ≠ 66 := by rcases hR with h | h <;> omega
  exact ⟨f', e1, e2, by rw [e3 66 9 (by omega)]; exact h9, e3 66 10 (by omega), by rw [e3 R 1 (by omega)]; exact h1, trivial, fun i _ => e3 (R + 1) i (by omega), CX_CN e3⟩
theorem c_rdRefuse (f : Nat → Nat → Int32) (g : Nat → Nat → Int64) (v : Int32) : x_rd_refuse_0 (f, g) v = rV (en_u1 (en_u1 f 66 9 v) 66 10 (f 66 3), g) := e_rd_refuse_0 _ _
theorem CBad_refuse {X : mu_X} {R m c k : Nat} (hR : rR R) (f : Nat → Nat → Int32) (h : CT X c f) (h1 : f R 1 = nI m) (hm : m ≤ 700) (hk : 1 ≤ k ∧ k ≤ 5) : CBad R k (tS X c) f (en_u1 (en_u1 f 66 9 (nI k)) 66 10 (f 66 3)) := by
  have hne : R ≠ 66 := by rcases hR with h | h <;> omega
  refine ⟨hk, ?_, ?_, ⟨m, hm, ?_⟩, fun p i a _ _ => ?_⟩
  · rw [u1_ne _ _ (by omega), u1_at]
  · rw [u1_at]; exact h.2.1
  · rw [u1_ne _ _ (by omega), u1_ne _ _ (by omega)]; exact h1
  · rw [u1_ne _ _ (by omega), u1_ne _ _ (by omega)]
/-- a step is added -/
def addE (xa : Nat → en_S → Int32 → Option en_O) : Prop := ∀ R, rR R → ∀ (σ : en_S) (v1 : Int32), xa R σ v1 = if (700 : Int32) ≤ σ.1 R 1 then some (.inl none, σ) else if en_in (σ.1 R 1) 700 then some (.inl none, (en_u1 (en_u1 σ.1 (R + 1) ((σ.1 R 1).toNatClampNeg) v1) R 1 ((σ.1 R 1) + 1), σ.2)) else none
noncomputable def xAdd (R : Nat) : en_S → Int32 → Option en_O := if R = 60 then x_ru_add_p60_0 else x_ru_add_p63_0
theorem xAdd_E : addE xAdd := by
  intro R hR σ v1
  rcases hR with h | h
  · subst h; exact e_ru_add_p60_0 σ v1
  · subst h; exact e_ru_add_p63_0 σ v1
theorem c_add {X : mu_X} {R m c : Nat} (hR : rR R) (f : Nat → Nat → Int32) (g : Nat → Nat → Int64) (h : CT X c f) (h9 : f 66 9 = nI 0) (h1 : f R 1 = nI m) (hm : m < 700) (v : Int32) : ∃ f', xAdd R (f, g) v = rV (f', g) ∧ COk X R m c [v] f f' := by
  have hne : R ≠ 66 ∧ R + 1 ≠ 66 ∧ R ≠ 32 ∧ R + 1 ≠ 32 := by rcases hR with h | h <;> omega
  rw [xAdd_E R hR, if_neg (by show ¬ (700 : Int32) ≤ f R 1; rw [h1, q_700]; exact nI_ge hm (by omega))]
  simp (disch := omega) only [h1, q_in, q_clamp, if_true, nI_1]
  refine ⟨_, rfl, CT_of h (fun i _ _ => by rw [u1_ne _ _ (by omega), u1_ne _ _ (by omega)]) (fun i => by rw [u1_ne _ _ (by omega), u1_ne _ _ (by omega)]), ?_, ?_, u1_at _ _ _ _, ⟨?_, trivial⟩, fun i hi => ?_, fun p i a b d => ?_⟩
  · rw [u1_ne _ _ (by omega), u1_ne _ _ (by omega)]; exact h9
  · rw [u1_ne _ _ (by omega), u1_ne _ _ (by omega)]
  · rw [u1_ne _ _ (by omega), u1_at]
  · rw [u1_ne _ _ (by omega), u1_ne _ _ (by omega)]
  · rw [u1_ne _ _ (by omega), u1_ne _ _ (by omega)]
/-- also behind a fault -/
theorem c_addB {R k q : Nat} (hR : rR R) (f0 f : Nat → Nat → Int32) (g : Nat → Nat → Int64) (h : CBad R k q f0 f) (v : Int32) : ∃ f', xAdd R (f, g) v = rV (f', g) ∧ CBad R k q f0 f' := by
  have hne : R ≠ 66 ∧ R + 1 ≠ 66 := by rcases hR with h | h <;> omega
  obtain ⟨h0, h9, h10, ⟨m, hm, h1⟩, hx⟩ := h
  rw [xAdd_E R hR]
  by_cases c : m < 700
  · rw [if_neg (by show ¬ (700 : Int32) ≤ f R 1; rw [h1, q_700]; exact nI_ge c (by omega))]
    simp (disch := omega) only [h1, q_in, q_clamp, if_true, nI_1]
    refine ⟨_, rfl, h0, ?_, ?_, ⟨m + 1, by omega, u1_at _ _ _ _⟩, CX_trans hx (fun p i a b d => ?_)⟩
    · rw [u1_ne _ _ (by omega), u1_ne _ _ (by omega)]; exact h9
    · rw [u1_ne _ _ (by omega), u1_ne _ _ (by omega)]; exact h10
    · rw [u1_ne _ _ (by omega), u1_ne _ _ (by omega)]
  · rw [if_pos (by show (700 : Int32) ≤ f R 1; rw [h1, q_700]; exact nI_le (by omega) (by omega))]
    exact ⟨f, rfl, h0, h9, h10, ⟨m, hm, h1⟩, hx⟩
theorem bad9 {R k q : Nat} {f0 f : Nat → Nat → Int32} (h : CBad R k q f0 f) : ¬ f 66 9 = nI 0 := by
  rw [h.2.1, q_eqI (by have := h.1; omega) (by omega)]
  have := h.1
  omega
/-- which value a word is -/
def vS (k : Nat) : Int32 := if k < 7 then -1 - nI k else 0
theorem c_value {X : mu_X} (xo : XOK X) (f : Nat → Nat → Int32) (g : Nat → Nat → Int64) {c : Nat} (h : CT X c f) : x_rd_valueStep_0 (f, g) = rI (vS (kW X c)) (f, g) := by
  rw [e_rd_valueStep_0]
  simp only [c_w0 xo f g h, c_w1 xo f g h, c_w2 xo f g h, c_w3 xo f g h, c_w4 xo f g h, c_w5 xo f g h, c_w6 xo f g h, c_I, q_0, tb_0, decide_eq_false_iff_not]
  by_cases k0 : kW X c = 0
  · rw [if_neg (by omega), k0]; rfl
  rw [if_pos k0]
  by_cases k1 : kW X c = 1
  · rw [if_neg (by omega), k1]; rfl
  rw [if_pos k1]
  by_cases k2 : kW X c = 2
  · rw [if_neg (by omega), k2]; rfl
  rw [if_pos k2]
  by_cases k3 : kW X c = 3
  · rw [if_neg (by omega), k3]; rfl
  rw [if_pos k3]
  by_cases k4 : kW X c = 4
  · rw [if_neg (by omega), k4]; rfl
  rw [if_pos k4]
  by_cases k5 : kW X c = 5
  · rw [if_neg (by omega), k5]; rfl
  rw [if_pos k5]
  by_cases k6 : kW X c = 6
  · rw [if_neg (by omega), k6]; rfl
  rw [if_pos k6]
  unfold vS
  rw [if_neg (by omega)]
  rfl
/-- what an outcome is worth: how long, how deep, and what doesn't follow -/
def fol (X : mu_X) (s c : Nat) : Prop := (s ≤ 6 → sg X c 42 = false ∧ sg X c 47 = false) ∧ (s ≤ 5 → sg X c 43 = false ∧ sg X c 45 = false) ∧ (s ≤ 2 → kW X c ≠ 14) ∧ (s ≤ 1 → kW X c ≠ 15)
def OOk (X : mu_X) (s B c : Nat) (o : mu_O) : Prop := match o with
  | .inl z => z.1 ≤ X.1 ∧ z.2.length + c ≤ z.1 ∧ (∀ rest n, n + B ≤ 48 → sDp rest (n + 1) → sDp (z.2 ++ rest) n) ∧ fol X s z.1
  | .inr z => (1 ≤ z.1 ∧ z.1 ≤ 5) ∧ z.2 ≤ 700
