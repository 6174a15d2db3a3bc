/-! lines: what has been told so far -/
abbrev mu_Dr : Type := Option Nat × Bool × mu_Ld × mu_Gd × (Nat → Int32) × (Nat → Int32)
def oTo (D : mu_Dr) : Option Nat := D.1
def oAn (D : mu_Dr) : Bool := D.2.1
def oLd (D : mu_Dr) : mu_Ld := D.2.2.1
def oGd (D : mu_Dr) : mu_Gd := D.2.2.2.1
def oWt (D : mu_Dr) : Nat → Int32 := D.2.2.2.2.1
def oHd (D : mu_Dr) : Nat → Int32 := D.2.2.2.2.2
def DOK (D : mu_Dr) : Prop := lOK (oLd D) ∧ gOK (oGd D) ∧ tOK (oLd D) (oGd D) ∧ (∀ x, x < lB (oLd D) → ∃ w, 1 ≤ w ∧ w ≤ 99 ∧ oWt D x = nI w) ∧ (∀ p, p < lP (oLd D) → oHd D p = nN ∨ ∃ x, x < lB (oLd D) ∧ oHd D p = nI x) ∧ (oAn D = false → lB (oLd D) = 0 ∧ (oGd D).2.1 = 0) ∧ (oGd D).1 = (oTo D).getD 4
def cRq (f : Nat → Nat → Int32) (q : Nat) : Option (List Int32) → Prop
  | none => f q 0 = nI 0 ∧ f q 1 = nI 0
  | some l => f q 0 = nI 1 ∧ f q 1 = nI l.length ∧ l.length ≤ 700 ∧ ∀ i, i < l.length → f (q + 1) i = l.getD i 0
theorem cRq_of {f f' : Nat → Nat → Int32} {q : Nat} (e : ∀ p i, (p = q ∨ p = q + 1) → f' p i = f p i) : ∀ o, cRq f q o → cRq f' q o := by
  intro o h
  cases o with
  | none => exact ⟨by rw [e q 0 (Or.inl rfl)]; exact h.1, by rw [e q 1 (Or.inl rfl)]; exact h.2⟩
  | some l => exact ⟨by rw [e q 0 (Or.inl rfl)]; exact h.1, by rw [e q 1 (Or.inl rfl)]; exact h.2.1, h.2.2.1, fun i hi => by rw [e (q + 1) i (Or.inr rfl)]; exact h.2.2.2 i hi⟩
def CDr (D : mu_Dr) (f : Nat → Nat → Int32) : Prop := f 66 7 = tb (oTo D).isSome ∧ f 66 8 = tb (oAn D) ∧ f 50 0 = nI (oGd D).1 ∧ f 50 1 = nI (oGd D).2.1 ∧ (∀ i, i < (oGd D).2.1 → f 51 i = nI ((oGd D).2.2.1 i) ∧ f 52 i = nI ((oGd D).2.2.2.1 i) ∧ f 53 i = nI ((oGd D).2.2.2.2 i)) ∧ f 50 5 = nI (lB (oLd D)) ∧ f 50 9 = nI (lP (oLd D)) ∧ (∀ x, x < lB (oLd D) → f 54 x = oWt D x ∧ f 55 x = nI (lR (oLd D) x)) ∧ (∀ x, x < lB (oLd D) → ∀ k, k < lR (oLd D) x → f 56 (6 * x + k) = lT (oLd D) (6 * x + k)) ∧ (∀ p, p < lP (oLd D) → f 57 p = lS (oLd D) p ∧ f 58 p = lH (oLd D) p ∧ f 59 p = oHd D p) ∧ cRq f 60 (lK (oLd D)) ∧ cRq f 63 (lF (oLd D))
def CDm (D : mu_Dr) (p i : Nat) : Prop := (p = 66 ∧ (i = 7 ∨ i = 8)) ∨ p = 50 ∨ ((p = 51 ∨ p = 52 ∨ p = 53) ∧ i < (oGd D).2.1) ∨ ((p = 54 ∨ p = 55) ∧ i < lB (oLd D)) ∨ (p = 56 ∧ i < 6 * lB (oLd D)) ∨ ((p = 57 ∨ p = 58 ∨ p = 59) ∧ i < lP (oLd D)) ∨ (60 ≤ p ∧ p ≤ 65)
theorem CDr_of {D : mu_Dr} {f f' : Nat → Nat → Int32} (lo : lOK (oLd D)) (h : CDr D f) (e : ∀ p i, CDm D p i → f' p i = f p i) : CDr D f' := by
  obtain ⟨h1, h2, h3, h4, h5, h6, h7, h8, h9, h10, h11, h12⟩ := h
  unfold CDm at e
  refine ⟨?_, ?_, ?_, ?_, fun i hi => ?_, ?_, ?_, fun x hx => ?_, fun x hx k hk => ?_, fun p hp => ?_, ?_, ?_⟩
  · rw [e 66 7 (by omega)]; exact h1
  · rw [e 66 8 (by omega)]; exact h2
  · rw [e 50 0 (by omega)]; exact h3
  · rw [e 50 1 (by omega)]; exact h4
  · rw [e 51 i (by omega), e 52 i (by omega), e 53 i (by omega)]; exact h5 i hi
  · rw [e 50 5 (by omega)]; exact h6
  · rw [e 50 9 (by omega)]; exact h7
  · rw [e 54 x (by omega), e 55 x (by omega)]; exact h8 x hx
  · have := (lo.2.2.1 x hx).2
    rw [e 56 (6 * x + k) (by omega)]; exact h9 x hx k hk
  · rw [e 57 p (by omega), e 58 p (by omega), e 59 p (by omega)]; exact h10 p hp
  · exact cRq_of (fun p i a => e p i (by omega)) _ h11
  · exact cRq_of (fun p i a => e p i (by omega)) _ h12
def mRq (f : Nat → Nat → Int32) (a : Int32) (t : Nat) : Option (List Int32) → Prop
  | none => a = nN
  | some l => ∃ k, a = nI k ∧ k + eL l < t ∧ Em f k l ∧ f 15 (k + eL l) = nI 0
theorem mRq_of {f f' : Nat → Nat → Int32} {a : Int32} {t t' : Nat} (ht : t ≤ t') (e : ∀ i, i < t → f' 15 i = f 15 i) : ∀ o, mRq f a t o → mRq f' a t' o := by
  intro o h
  cases o with
  | none => exact h
  | some l =>
    obtain ⟨k, k1, k2, k3, k4⟩ := h
    exact ⟨k, k1, by omega, Em_of l k (fun i i1 i2 => e i (by omega)) k3, by rw [e _ k2]; exact k4⟩
def dTo (o : Option Nat) : Int32 := match o with
  | none => nN
  | some n => nI n
def MG9 (G : mu_Gd) (f : Nat → Nat → Int32) : Prop := (∀ i, i < G.2.1 → f 9 (8 * G.2.2.1 i + G.2.2.2.1 i) = nI (G.2.2.2.2 i) ∧ f 9 (8 * G.2.2.2.1 i + G.2.2.1 i) = nI (G.2.2.2.2 i)) ∧ ∀ a b, a < 8 → b < 8 → f 9 (8 * a + b) = nN ∨ ∃ i, i < G.2.1 ∧ gE G i a b
def MDr (D : mu_Dr) (t : Nat) (f : Nat → Nat → Int32) : Prop := f 0 27 = dTo (oTo D) ∧ f 0 26 = tb (oAn D) ∧ f 0 28 = nI (oGd D).2.1 ∧ f 0 29 = nI (lB (oLd D)) ∧ f 0 30 = nI (lP (oLd D)) ∧ f 0 33 = nI t ∧ mRq f (f 0 31) t (lK (oLd D)) ∧ mRq f (f 0 32) t (lF (oLd D)) ∧ MG9 (oGd D) f ∧ f 14 0 = nI 0 ∧ (∀ x, x < lB (oLd D) → f 14 (1 + x) = oWt D x ∧ f 14 (7 + x) = nI 0 ∧ f 11 x = nI (lR (oLd D) x)) ∧ (∀ x, x < lB (oLd D) → ∀ k, k < lR (oLd D) x → f 10 (6 * x + k) = lT (oLd D) (6 * x + k)) ∧ (∀ p, p < lP (oLd D) → f 12 p = lS (oLd D) p ∧ f 13 p = lH (oLd D) p ∧ f 14 (13 + p) = oHd D p ∧ f 14 (21 + p) = nI 0)
def MDm (D : mu_Dr) (t p i : Nat) : Prop := (p = 0 ∧ 26 ≤ i ∧ i ≤ 33) ∨ p = 9 ∨ (p = 10 ∧ i < 6 * lB (oLd D)) ∨ (p = 11 ∧ i < lB (oLd D)) ∨ ((p = 12 ∨ p = 13) ∧ i < lP (oLd D)) ∨ (p = 14 ∧ (i = 0 ∨ (1 ≤ i ∧ i < 1 + lB (oLd D)) ∨ (7 ≤ i ∧ i < 7 + lB (oLd D)) ∨ (13 ≤ i ∧ i < 13 + lP (oLd D)) ∨ (21 ≤ i ∧ i < 21 + lP (oLd D)))) ∨ (p = 15 ∧ i < t)
theorem MDr_of {D : mu_Dr} {t : Nat} {f f' : Nat → Nat → Int32} (lo : lOK (oLd D)) (h : MDr D t f) (e : ∀ p i, MDm D t p i → f' p i = f p i) : MDr D t f' := by
  obtain ⟨h1, h2, h3, h4, h5, h6, h7, h8, h9, h10, h11, h12, h13⟩ := h
  unfold MDm at e
  refine ⟨?_, ?_, ?_, ?_, ?_, ?_, ?_, ?_, ⟨fun i hi => ?_, fun a b ha hb => ?_⟩, ?_, fun x hx => ?_, fun x hx k hk => ?_, fun p hp => ?_⟩
  · rw [e 0 27 (by omega)]; exact h1
  · rw [e 0 26 (by omega)]; exact h2
  · rw [e 0 28 (by omega)]; exact h3
  · rw [e 0 29 (by omega)]; exact h4
  · rw [e 0 30 (by omega)]; exact h5
  · rw [e 0 33 (by omega)]; exact h6
  · rw [e 0 31 (by omega)]; exact mRq_of (Nat.le_refl _) (fun i hi => e 15 i (by omega)) _ h7
  · rw [e 0 32 (by omega)]; exact mRq_of (Nat.le_refl _) (fun i hi => e 15 i (by omega)) _ h8
  · rw [e 9 _ (by omega), e 9 _ (by omega)]; exact h9.1 i hi
  · rw [e 9 _ (by omega)]; exact h9.2 a b ha hb
  · rw [e 14 0 (by omega)]; exact h10
  · rw [e 14 (1 + x) (by omega), e 14 (7 + x) (by omega), e 11 x (by omega)]; exact h11 x hx
  · have := (lo.2.2.1 x hx).2
    rw [e 10 (6 * x + k) (by omega)]; exact h12 x hx k hk
  · rw [e 12 p (by omega), e 13 p (by omega), e 14 (13 + p) (by omega), e 14 (21 + p) (by omega)]; exact h13 p hp
def CS (X : mu_X) (c : Nat) (D : mu_Dr) (f : Nat → Nat → Int32) : Prop := CT X c f ∧ f 66 9 = nI 0 ∧ f 66 10 = nN ∧ CDr D f
def MS (X : mu_X) (c : Nat) (D : mu_Dr) (t : Nat) (f : Nat → Nat → Int32) (g : Nat → Nat → Int64) : Prop := MT X c f g ∧ f 0 15 = nI 0 ∧ f 0 16 = nN ∧ MDr D t f ∧ t ≤ 2 * c
def CF (f f' : Nat → Nat → Int32) : Prop := ∀ p i, (p < 50 ∨ 66 < p) → f' p i = f p i
def MF (f f' : Nat → Nat → Int32) : Prop := ∀ p i, (p ≠ 0 ∨ i < 15 ∨ i = 17 ∨ i = 18 ∨ 35 < i) → (p < 9 ∨ 17 < p) → f' p i = f p i
theorem CF_refl (f : Nat → Nat → Int32) : CF f f := fun _ _ _ => rfl
theorem CF_trans {f f' f'' : Nat → Nat → Int32} (h : CF f f') (h' : CF f' f'') : CF f f'' := fun p i a => (h' p i a).trans (h p i a)
theorem CF_CN {f f' : Nat → Nat → Int32} (h : CN f f') : CF f f' := fun p i a => h p i (by omega)
theorem CF_u (f : Nat → Nat → Int32) {q i : Nat} (v : Int32) (h : 50 ≤ q ∧ q ≤ 66) : CF f (en_u1 f q i v) := fun p j a => u1_ne _ _ (by omega)
theorem MF_refl (f : Nat → Nat → Int32) : MF f f := fun _ _ _ _ => rfl
theorem MF_trans {f f' f'' : Nat → Nat → Int32} (h : MF f f') (h' : MF f' f'') : MF f f'' := fun p i a b => (h' p i a b).trans (h p i a b)
theorem MF_MN {f f' : Nat → Nat → Int32} (h : MN f f') : MF f f' := fun p i a b => h p i (by omega)
theorem MF_MX {f f' : Nat → Nat → Int32} (h : MX f f') : MF f f' := fun p i a b => h p i (by omega) (by omega) (by omega) (by omega)
theorem MF_u0 (f : Nat → Nat → Int32) {i : Nat} (v : Int32) (h : (15 ≤ i ∧ i ≤ 16) ∨ (19 ≤ i ∧ i ≤ 35)) : MF f (en_u1 f 0 i v) := fun p j a b => u1_ne _ _ (by omega)
theorem MF_u (f : Nat → Nat → Int32) {q i : Nat} (v : Int32) (h : 9 ≤ q ∧ q ≤ 17) : MF f (en_u1 f q i v) := fun p j a b => u1_ne _ _ (by omega)
abbrev mu_P : Type := (Nat × mu_Dr) ⊕ (Nat × Nat)
def POk (X : mu_X) (c : Nat) (o : mu_P) : Prop := match o with
  | .inl z => z.1 ≤ X.1 ∧ c < z.1 ∧ DOK z.2
  | .inr z => (1 ≤ z.1 ∧ z.1 ≤ 5) ∧ z.2 ≤ 700
def CFt (k q : Nat) (f f' : Nat → Nat → Int32) : Prop := f' 66 9 = nI k ∧ f' 66 10 = nI q ∧ CF f f'
def MFt (k q : Nat) (f : Nat → Nat → Int32) (g : Nat → Nat → Int64) (f' : Nat → Nat → Int32) (g' : Nat → Nat → Int64) : Prop := f' 0 15 = nI k ∧ f' 0 16 = nI q ∧ MF f f' ∧ ∀ q, q ≠ 0 → g' q = g q
def PC (X : mu_X) (o : mu_P) (f f' : Nat → Nat → Int32) : Prop := match o with
  | .inl z => CS X z.1 z.2 f' ∧ CF f f'
  | .inr z => CFt z.1 z.2 f f'
def PM (X : mu_X) (o : mu_P) (f : Nat → Nat → Int32) (g : Nat → Nat → Int64) (f' : Nat → Nat → Int32) (g' : Nat → Nat → Int64) : Prop := match o with
  | .inl z => (∃ t, MS X z.1 z.2 t f' g') ∧ MF f f' ∧ ∀ q, q ≠ 0 → g' q = g q
  | .inr z => MFt z.1 z.2 f g f' g'
def Pl (X : mu_X) (c : Nat) (D : mu_Dr) : Prop := ∃ o, POk X c o ∧ (∀ f g, CS X c D f → ∃ f', x_rd_readLine_0 (f, g) = rV (f', g) ∧ PC X o f f') ∧ ∀ f g t, MS X c D t f g → ∃ f' g', x_m_line_0 (f, g) = x_m_line_249 (f', g') ∧ PM X o f g f' g'
/-- faults at the token -/
theorem CFt_ref {X : mu_X} {c k : Nat} {f : Nat → Nat → Int32} (h : CT X c f) : CFt k (tS X c) f (en_u1 (en_u1 f 66 9 (nI k)) 66 10 (f 66 3)) :=
  ⟨by rw [u1_ne _ _ (by omega), u1_at], by rw [u1_at]; exact h.2.1, CF_trans (CF_u _ _ (by omega)) (CF_u _ _ (by omega))⟩
theorem CFt_of {k q : Nat} {f f1 f2 : Nat → Nat → Int32} (h : CFt k q f1 f2) (c : CF f f1) : CFt k q f f2 := ⟨h.1, h.2.1, CF_trans c h.2.2⟩
theorem CFt_u {k q : Nat} {f f1 : Nat → Nat → Int32} (h : CFt k q f f1) {p i : Nat} (v : Int32) (hp : 50 ≤ p ∧ p ≤ 65) : CFt k q f (en_u1 f1 p i v) := ⟨by rw [u1_ne _ _ (by omega)]; exact h.1, by rw [u1_ne _ _ (by omega)]; exact h.2.1, CF_trans h.2.2 (CF_u _ _ (by omega))⟩
theorem CFt_9 {k q : Nat} {f f1 : Nat → Nat → Int32} (h : CFt k q f f1) (hk : 1 ≤ k ∧ k ≤ 5) : ¬ f1 66 9 = nI 0 := by
  rw [h.1, q_eqI (by omega) (by omega)]; omega
theorem MFt_wr {X : mu_X} {c k : Nat} {f : Nat → Nat → Int32} {g : Nat → Nat → Int64} (h : MT X c f g) : MFt k (tS X c) f g (en_u1 (en_u1 f 0 15 (nI k)) 0 16 (f 0 21)) g :=
  ⟨by rw [u1_ne _ _ (by omega), u1_at], by rw [u1_at]; exact h.2.2.2.1, MF_trans (MF_u0 _ _ (by omega)) (MF_u0 _ _ (by omega)), fun _ _ => rfl⟩
theorem MFt_of {k q : Nat} {f f1 f2 : Nat → Nat → Int32} {g g1 g2 : Nat → Nat → Int64} (h : MFt k q f1 g1 f2 g2) (m : MF f f1) (hg : ∀ q, q ≠ 0 → g1 q = g q) : MFt k q f g f2 g2 := ⟨h.1, h.2.1, MF_trans m h.2.2.1, fun q hq => (h.2.2.2 q hq).trans (hg q hq)⟩
/-- from token to token -/
theorem CS_next {X : mu_X} (xo : XOK X) {c : Nat} {D : mu_Dr} (lo : lOK (oLd D)) (hc : c ≤ X.1) (f : Nat → Nat → Int32) (g : Nat → Nat → Int64) (h : CS X c D f) : ∃ f', x_rd_nextToken_0 (f, g) = rV (f', g) ∧ CS X (tE X c) D f' ∧ CN f f' := by
  obtain ⟨h1, h2, h3, h4⟩ := h
  obtain ⟨f', a1, a2, a3⟩ := c_next xo f g (tE_le hc) h1.1 h1.2.2.1
  exact ⟨f', a1, ⟨a2, by rw [a3 66 9 (by omega)]; exact h2, by rw [a3 66 10 (by omega)]; exact h3, CDr_of lo h4 (fun p i hd => a3 p i (by unfold CDm at hd; omega))⟩, a3⟩
theorem CS_CN {X : mu_X} {c c' : Nat} {D : mu_Dr} (lo : lOK (oLd D)) {f f' : Nat → Nat → Int32} (h : CS X c D f) (hT : CT X c' f') (a3 : CN f f') : CS X c' D f' := ⟨hT, by rw [a3 66 9 (by omega)]; exact h.2.1, by rw [a3 66 10 (by omega)]; exact h.2.2.1, CDr_of lo h.2.2.2 (fun p i hd => a3 p i (by unfold CDm at hd; omega))⟩
theorem MS_MN {X : mu_X} {c c' t : Nat} {D : mu_Dr} (lo : lOK (oLd D)) {f f' : Nat → Nat → Int32} {g g' : Nat → Nat → Int64} (h : MS X c D t f g) (hT : MT X c' f' g') (a3 : MN f f') (hc : c ≤ c') : MS X c' D t f' g' := ⟨hT, by rw [a3 0 15 (by omega)]; exact h.2.1, by rw [a3 0 16 (by omega)]; exact h.2.2.1, MDr_of lo h.2.2.2.1 (fun p i hd => a3 p i (by unfold MDm at hd; omega)), by have := h.2.2.2.2; omega⟩
theorem MS_go {X : mu_X} (xo : XOK X) {c t : Nat} {D : mu_Dr} (lo : lOK (oLd D)) (hc : c ≤ X.1) (f : Nat → Nat → Int32) (g : Nat → Nat → Int64) (h : MS X c D t f g) : ∃ f' g', x_m_goes_0 (f, g) = rV (f', g') ∧ MS X (tE X c) D t f' g' ∧ MN f f' ∧ ∀ q, q ≠ 0 → g' q = g q := by
  obtain ⟨f', g', a1, a2, a3, a4⟩ := m_goes xo f g (tE_le hc) h.1.1 h.1.2.1
  exact ⟨f', g', a1, MS_MN lo h a2 a3 (tE_c X c), a3, a4⟩
/-- how a line begins in the model -/
theorem m_begY {X : mu_X} (xo : XOK X) {c t : Nat} {D : mu_Dr} (lo : lOK (oLd D)) (hc : c ≤ X.1) (f : Nat → Nat → Int32) (g : Nat → Nat → Int64) (h : MS X c D t f g) : ∃ f' g', x_m_begins_0 (f, g) 0 0 0 = rI 1 (f', g') ∧ MS X (tE X c) D t f' g' ∧ MN f f' ∧ ∀ q, q ≠ 0 → g' q = g q := by
  obtain ⟨f', g', a1, a2, a3, a4⟩ := MS_go xo lo hc f g h
  refine ⟨f', g', ?_, a2, a3, a4⟩
  rw [e_m_begins_0, if_pos rfl, if_pos rfl, e_m_begins_18, if_pos rfl, m_good1 f g h.2.1, c_I, if_neg (by decide), a1, c_V]
  rfl
theorem m_beg2 (f : Nat → Nat → Int32) (g : Nat → Nat → Int64) (h15 : f 0 15 = nI 0) : x_m_begins_0 (f, g) 1 0 0 = rI 0 (en_u1 (en_u1 f 0 15 (nI 2)) 0 16 (f 0 21), g) := by
  rw [e_m_begins_0, if_neg i10, show x_m_wrong_0 (f, g) 2 = _ from m_wrong f g h15 (nI 2), c_V, if_pos rfl, e_m_begins_18, if_pos rfl, m_good0 _ g (k := 2) (by omega) (by rw [u1_ne _ _ (by omega), u1_at]), c_I, if_pos (by decide)]
  rfl
theorem m_beg5 (f : Nat → Nat → Int32) (g : Nat → Nat → Int64) (h15 : f 0 15 = nI 0) : x_m_begins_0 (f, g) 0 0 1 = rI 0 (en_u1 (en_u1 f 0 15 (nI 5)) 0 16 (f 0 21), g) := by
  rw [e_m_begins_0, if_pos rfl, if_pos rfl, e_m_begins_18, if_neg i10, show x_m_wrong_0 (f, g) 5 = _ from m_wrong f g h15 (nI 5), c_V, m_good0 _ g (k := 5) (by omega) (by rw [u1_ne _ _ (by omega), u1_at]), c_I, if_pos (by decide)]
  rfl
theorem m_beg4 (f : Nat → Nat → Int32) (g : Nat → Nat → Int64) (h15 : f 0 15 = nI 0) (v3 : Int32) : x_m_begins_0 (f, g) 0 1 v3 = rI 0 (en_u1 (en_u1 f 0 15 (nI 4)) 0 16 (f 0 21), g) := by
  have q : en_u1 (en_u1 f 0 15 (nI 4)) 0 16 (f 0 21) 0 15 = nI 4 := by rw [u1_ne _ _ (by omega), u1_at]
  rw [e_m_begins_0, if_pos rfl, if_neg i10, show x_m_wrong_0 (f, g) 4 = _ from m_wrong f g h15 (nI 4), c_V, e_m_begins_18]
  by_cases c : v3 = 0
  · rw [if_pos c, m_good0 _ g (k := 4) (by omega) q, c_I, if_pos (by decide)]; rfl
  · have w : x_m_wrong_0 (en_u1 (en_u1 f 0 15 (nI 4)) 0 16 (f 0 21), g) 5 = rV (en_u1 (en_u1 f 0 15 (nI 4)) 0 16 (f 0 21), g) := by
      rw [e_m_wrong_0, if_neg (show ¬ en_u1 (en_u1 f 0 15 (nI 4)) 0 16 (f 0 21) 0 15 = 0 by rw [q]; decide)]; rfl
    rw [if_neg c, w, c_V, m_good0 _ g (k := 4) (by omega) q, c_I, if_pos (by decide)]; rfl
theorem m_towns {D : mu_Dr} (ok : DOK D) (f : Nat → Nat → Int32) (g : Nat → Nat → Int64) (h : f 0 27 = dTo (oTo D)) : x_m_townsNow_0 (f, g) = rI (nI (oGd D).1) (f, g) := by
  have g1 := ok.2.2.2.2.2.2
  have g2 := ok.2.1
  rw [e_m_townsNow_0]
  cases hq : oTo D with
  | none =>
    rw [hq] at h g1
    rw [if_pos (show f 0 27 = -1 from h), g1]; rfl
  | some n =>
    rw [hq] at h g1
    have g1' : (oGd D).1 = n := g1
    have : ¬ nI n = nN := by rw [q_nNe (by have := g2.2.1; omega)]; exact id
    rw [if_neg (show ¬ f 0 27 = -1 by rw [h]; exact this), g1']
    show rI (f 0 27) (f, g) = _
    rw [show f 0 27 = nI n from h]
