/-! what both sides hold -/
abbrev mu_Ps : Type := Nat × (Nat → mu_Rw)
abbrev mu_Sn : Type := Nat × (Nat → Nat) × (Nat → Nat) × (Nat → Nat)
abbrev mu_Gd : Type := Nat × Nat × (Nat → Nat) × (Nat → Nat) × (Nat → Nat)
abbrev mu_A : Type := mu_Ld × mu_Gd × mu_Rw × mu_Ps × mu_Sn × Option (mu_Rw × mu_Ps × mu_Sn) × (Nat × (Nat → Nat)) × (Nat → Int32) × Int32
def aL (A : mu_A) : mu_Ld := A.1
def aG (A : mu_A) : mu_Gd := A.2.1
def aR (A : mu_A) : mu_Rw := A.2.2.1
def aP (A : mu_A) : mu_Ps := A.2.2.2.1
def aS (A : mu_A) : mu_Sn := A.2.2.2.2.1
def aI (A : mu_A) : Option (mu_Rw × mu_Ps × mu_Sn) := A.2.2.2.2.2.1
def aT (A : mu_A) : Nat × (Nat → Nat) := A.2.2.2.2.2.2.1
def aF (A : mu_A) : Nat → Int32 := A.2.2.2.2.2.2.2.1
def aX (A : mu_A) : Int32 := A.2.2.2.2.2.2.2.2
def gE (G : mu_Gd) (i a b : Nat) : Prop := (G.2.2.1 i = a ∧ G.2.2.2.1 i = b) ∨ (G.2.2.1 i = b ∧ G.2.2.2.1 i = a)
/-- rows kept in a place, from b on -/
def pRw (Λ : mu_Ld) (P b : Nat) (r : mu_Rw) (f : Nat → Nat → Int32) : Prop := f P b = rD r ∧ (∀ x, x < lB Λ → f P (b + 1 + x) = rW r x) ∧ (∀ x, x < lB Λ → f P (b + 7 + x) = rS r x) ∧ (∀ p, p < lP Λ → f P (b + 13 + p) = rU r p) ∧ (∀ p, p < lP Λ → f P (b + 21 + p) = rT r p)
def hPs (Λ : mu_Ld) (P q i : Nat) (ps : mu_Ps) (f : Nat → Nat → Int32) : Prop := f q i = nI ps.1 ∧ ∀ k, k < ps.1 → pRw Λ P (29 * k) (ps.2 k) f
def mSn (P i : Nat) (sn : mu_Sn) (f : Nat → Nat → Int32) : Prop := f 0 i = nI sn.1 ∧ ∀ k, k < sn.1 → f P (3 * k) = nI (sn.2.1 k) ∧ f P (3 * k + 1) = nI (sn.2.2.1 k) ∧ f P (3 * k + 2) = nI (sn.2.2.2 k)
def cSn (q : Nat) (sn : mu_Sn) (f : Nat → Nat → Int32) : Prop := f q 0 = nI sn.1 ∧ ∀ k, k < sn.1 → f (q + 1) k = nI (sn.2.1 k) ∧ f (q + 2) k = nI (sn.2.2.1 k) ∧ f (q + 3) k = nI (sn.2.2.2 k)
def MGd (G : mu_Gd) (f : Nat → Nat → Int32) : Prop := f 0 1 = nI G.1 ∧ f 0 2 = nI G.2.1 ∧ (∀ i, i < G.2.1 → f 1 (8 * G.2.2.1 i + G.2.2.2.1 i) = nI (G.2.2.2.2 i) ∧ f 1 (8 * G.2.2.2.1 i + G.2.2.1 i) = nI (G.2.2.2.2 i)) ∧ ∀ a b, a < 8 → b < 8 → f 1 (8 * a + b) = nN ∨ ∃ i, i < G.2.1 ∧ gE G i a b
def CGd (G : mu_Gd) (f : Nat → Nat → Int32) : Prop := f 34 0 = nI G.1 ∧ f 34 1 = nI G.2.1 ∧ ∀ i, i < G.2.1 → f 35 i = nI (G.2.2.1 i) ∧ f 36 i = nI (G.2.2.2.1 i) ∧ f 37 i = nI (G.2.2.2.2 i)
def MIm (Λ : mu_Ld) (o : Option (mu_Rw × mu_Ps × mu_Sn)) (f : Nat → Nat → Int32) : Prop := match o with
  | none => f 0 60 = nI 0
  | some z => f 0 60 = nI 1 ∧ pRw Λ 27 0 z.1 f ∧ hPs Λ 28 0 61 z.2.1 f ∧ mSn 29 62 z.2.2 f
def CIm (Λ : mu_Ld) (o : Option (mu_Rw × mu_Ps × mu_Sn)) (f : Nat → Nat → Int32) : Prop := match o with
  | none => f 31 11 = nI 0
  | some z => f 31 11 = nI 1 ∧ CRw Λ 85 z.1 f ∧ hPs Λ 92 91 0 z.2.1 f ∧ cSn 93 z.2.2 f
def MTp (t : Nat × (Nat → Nat)) (f : Nat → Nat → Int32) : Prop := f 0 14 = nI t.1 ∧ ∀ i, i < t.1 → f 7 i = nI (t.2 i)
def CTp (t : Nat × (Nat → Nat)) (f : Nat → Nat → Int32) : Prop := f 31 1 = nI t.1 ∧ ∀ i, i < t.1 → f 32 i = (nI (t.2 i)).toInt8.toInt32
def MRel (A : mu_A) (f : Nat → Nat → Int32) : Prop := MLd (aL A) f ∧ MGd (aG A) f ∧ MRw (aL A) 0 (aR A) f ∧ hPs (aL A) 19 0 47 (aP A) f ∧ mSn 24 55 (aS A) f ∧ MIm (aL A) (aI A) f ∧ MTp (aT A) f ∧ (∀ i, i < 3 → f 8 i = aF A i) ∧ f 0 16 = aX A
def CRel (A : mu_A) (f : Nat → Nat → Int32) : Prop := CLd (aL A) f ∧ CGd (aG A) f ∧ CRw (aL A) 67 (aR A) f ∧ hPs (aL A) 80 79 0 (aP A) f ∧ cSn 81 (aS A) f ∧ CIm (aL A) (aI A) f ∧ CTp (aT A) f ∧ (∀ i, i < 3 → f 33 i = aF A i) ∧ f 31 2 = aX A
def gOK (G : mu_Gd) : Prop := 2 ≤ G.1 ∧ G.1 ≤ 8 ∧ G.2.1 ≤ 14 ∧ (∀ i, i < G.2.1 → G.2.2.1 i < G.1 ∧ G.2.2.2.1 i < G.1 ∧ G.2.2.1 i ≠ G.2.2.2.1 i ∧ G.2.2.2.2 i ≤ 9) ∧ (∀ i j, i < G.2.1 → j < G.2.1 → gE G i (G.2.2.1 j) (G.2.2.2.1 j) → i = j)
def psOK (Λ : mu_Ld) (ps : mu_Ps) : Prop := ps.1 ≤ 40 ∧ ∀ k, k < ps.1 → rOK Λ (ps.2 k)
def snOK (Λ : mu_Ld) (sn : mu_Sn) : Prop := sn.1 ≤ 8 ∧ ∀ k, k < sn.1 → sn.2.1 k < lB Λ ∧ sn.2.2.1 k ≤ 12 ∧ 1 ≤ sn.2.2.2 k ∧ sn.2.2.2 k ≤ 99
/-- the towns of routes are towns -/
def tOK (Λ : mu_Ld) (G : mu_Gd) : Prop := ∀ x, x < lB Λ → ∀ k, k < lR Λ x → ∃ t, t < G.1 ∧ lT Λ (6 * x + k) = nI t
def AOK (A : mu_A) : Prop := lOK (aL A) ∧ gOK (aG A) ∧ tOK (aL A) (aG A) ∧ rOK (aL A) (aR A) ∧ psOK (aL A) (aP A) ∧ snOK (aL A) (aS A) ∧ (∀ z, aI A = some z → rOK (aL A) z.1 ∧ psOK (aL A) z.2.1 ∧ snOK (aL A) z.2.2) ∧ (aT A).1 ≤ 700 ∧ (∀ i, i < (aT A).1 → (aT A).2 i < 256)
theorem pRw_of {Λ : mu_Ld} {P b : Nat} {r : mu_Rw} {f f' : Nat → Nat → Int32} (lo : lOK Λ) (h : pRw Λ P b r f) (e : ∀ i, b ≤ i → i < b + 29 → f' P i = f P i) : pRw Λ P b r f' := by
  have l1 := lo.1
  have l2 := lo.2.1
  obtain ⟨h1, h2, h3, h4, h5⟩ := h
  refine ⟨?_, fun x hx => ?_, fun x hx => ?_, fun x hx => ?_, fun x hx => ?_⟩
  · rw [e b (by omega) (by omega)]; exact h1
  · rw [e _ (by omega) (by omega)]; exact h2 x hx
  · rw [e _ (by omega) (by omega)]; exact h3 x hx
  · rw [e _ (by omega) (by omega)]; exact h4 x hx
  · rw [e _ (by omega) (by omega)]; exact h5 x hx
theorem hPs_of {Λ : mu_Ld} {P q i : Nat} {ps : mu_Ps} {f f' : Nat → Nat → Int32} (lo : lOK Λ) (h : hPs Λ P q i ps f) (e1 : f' q i = f q i) (e : f' P = f P) : hPs Λ P q i ps f' :=
  ⟨by rw [e1]; exact h.1, fun k hk => pRw_of lo (h.2 k hk) (fun i _ _ => by rw [e])⟩
theorem mSn_of {P i : Nat} {sn : mu_Sn} {f f' : Nat → Nat → Int32} (h : mSn P i sn f) (e1 : f' 0 i = f 0 i) (e : f' P = f P) : mSn P i sn f' :=
  ⟨by rw [e1]; exact h.1, by rw [e]; exact h.2⟩
theorem cSn_of {q : Nat} {sn : mu_Sn} {f f' : Nat → Nat → Int32} (h : cSn q sn f) (e : ∀ p, q ≤ p → p ≤ q + 3 → f' p = f p) : cSn q sn f' :=
  ⟨by rw [e q (by omega) (by omega)]; exact h.1, by rw [e (q + 1) (by omega) (by omega), e (q + 2) (by omega) (by omega), e (q + 3) (by omega) (by omega)]; exact h.2⟩
theorem MGd_of {G : mu_Gd} {f f' : Nat → Nat → Int32} (h : MGd G f) (e1 : f' 0 1 = f 0 1) (e2 : f' 0 2 = f 0 2) (e : f' 1 = f 1) : MGd G f' :=
  ⟨by rw [e1]; exact h.1, by rw [e2]; exact h.2.1, by rw [e]; exact h.2.2⟩
theorem CGd_of {G : mu_Gd} {f f' : Nat → Nat → Int32} (h : CGd G f) (e : ∀ p, 34 ≤ p → p ≤ 37 → f' p = f p) : CGd G f' :=
  ⟨by rw [e 34 (by omega) (by omega)]; exact h.1, by rw [e 34 (by omega) (by omega)]; exact h.2.1, by rw [e 35 (by omega) (by omega), e 36 (by omega) (by omega), e 37 (by omega) (by omega)]; exact h.2.2⟩
theorem MIm_of {Λ : mu_Ld} {o : Option (mu_Rw × mu_Ps × mu_Sn)} {f f' : Nat → Nat → Int32} (lo : lOK Λ) (h : MIm Λ o f) (e0 : ∀ i, 60 ≤ i → i ≤ 62 → f' 0 i = f 0 i) (e : ∀ p, 27 ≤ p → p ≤ 29 → f' p = f p) : MIm Λ o f' := by
  cases o with
  | none => show f' 0 60 = nI 0; rw [e0 60 (by omega) (by omega)]; exact h
  | some z =>
    obtain ⟨h1, h2, h3, h4⟩ := h
    exact ⟨by rw [e0 60 (by omega) (by omega)]; exact h1, pRw_of lo h2 (fun i _ _ => by rw [e 27 (by omega) (by omega)]), hPs_of lo h3 (e0 61 (by omega) (by omega)) (e 28 (by omega) (by omega)), mSn_of h4 (e0 62 (by omega) (by omega)) (e 29 (by omega) (by omega))⟩
theorem CIm_of {Λ : mu_Ld} {o : Option (mu_Rw × mu_Ps × mu_Sn)} {f f' : Nat → Nat → Int32} (lo : lOK Λ) (h : CIm Λ o f) (e0 : f' 31 11 = f 31 11) (e : ∀ p, 85 ≤ p → p ≤ 96 → f' p = f p) : CIm Λ o f' := by
  cases o with
  | none => show f' 31 11 = nI 0; rw [e0]; exact h
  | some z =>
    obtain ⟨h1, h2, h3, h4⟩ := h
    exact ⟨by rw [e0]; exact h1, CRw_of h2 (by rw [e 85 (by omega) (by omega)]) (fun p _ _ => e p (by omega) (by omega)), hPs_of lo h3 (by rw [e 91 (by omega) (by omega)]) (e 92 (by omega) (by omega)), cSn_of h4 (fun p _ _ => e p (by omega) (by omega))⟩
theorem MTp_of {t : Nat × (Nat → Nat)} {f f' : Nat → Nat → Int32} (h : MTp t f) (e0 : f' 0 14 = f 0 14) (e : f' 7 = f 7) : MTp t f' := ⟨by rw [e0]; exact h.1, by rw [e]; exact h.2⟩
theorem CTp_of {t : Nat × (Nat → Nat)} {f f' : Nat → Nat → Int32} (h : CTp t f) (e0 : f' 31 1 = f 31 1) (e : f' 32 = f 32) : CTp t f' := ⟨by rw [e0]; exact h.1, by rw [e]; exact h.2⟩
/-- what questions may change -/
def QM (f f' : Nat → Nat → Int32) : Prop := (∀ p, p ≠ 0 → p ≠ 18 → p ≠ 20 → p ≠ 21 → p ≠ 22 → p ≠ 23 → p ≠ 25 → p ≠ 26 → f' p = f p) ∧ (∀ i, i ≠ 0 → i ≠ 50 → i ≠ 51 → i ≠ 52 → i ≠ 59 → f' 0 i = f 0 i) ∧ (∀ i, i < 29 → f' 18 i = f 18 i)
def QC (f f' : Nat → Nat → Int32) : Prop := ∀ p, (p < 73 ∨ 78 < p) → p ≠ 46 → p ≠ 49 → p < 97 → f' p = f p
theorem QM_refl (f : Nat → Nat → Int32) : QM f f := ⟨fun _ _ _ _ _ _ _ _ _ => rfl, fun _ _ _ _ _ _ => rfl, fun _ _ => rfl⟩
theorem QM_trans {f f' f'' : Nat → Nat → Int32} (h : QM f f') (h' : QM f' f'') : QM f f'' :=
  ⟨fun p a1 a2 a3 a4 a5 a6 a7 a8 => (h'.1 p a1 a2 a3 a4 a5 a6 a7 a8).trans (h.1 p a1 a2 a3 a4 a5 a6 a7 a8), fun i a1 a2 a3 a4 a5 => (h'.2.1 i a1 a2 a3 a4 a5).trans (h.2.1 i a1 a2 a3 a4 a5), fun i a => (h'.2.2 i a).trans (h.2.2 i a)⟩
theorem QM_u0 (f : Nat → Nat → Int32) {i : Nat} (v : Int32) (h : i = 0 ∨ i = 50 ∨ i = 51 ∨ i = 52 ∨ i = 59) : QM f (en_u1 f 0 i v) :=
  ⟨fun p a1 _ _ _ _ _ _ _ => u1_p _ _ _ a1, fun j _ _ _ _ _ => u1_ne _ _ (by omega), fun j _ => u1_ne _ _ (by omega)⟩
theorem QM_u (f : Nat → Nat → Int32) {q i : Nat} (v : Int32) (h : q = 20 ∨ q = 21 ∨ q = 22 ∨ q = 23 ∨ q = 25 ∨ q = 26) : QM f (en_u1 f q i v) :=
  ⟨fun p _ _ _ _ _ _ _ _ => u1_p _ _ _ (by omega), fun j _ _ _ _ _ => u1_ne _ _ (by omega), fun j _ => u1_ne _ _ (by omega)⟩
theorem QM_u18 (f : Nat → Nat → Int32) {i : Nat} (v : Int32) (h : 29 ≤ i) : QM f (en_u1 f 18 i v) :=
  ⟨fun p _ _ _ _ _ _ _ _ => u1_p _ _ _ (by omega), fun j _ _ _ _ _ => u1_ne _ _ (by omega), fun j _ => u1_ne _ _ (by omega)⟩
theorem QM_MFr {f f' : Nat → Nat → Int32} (h : MFr 29 f f') : QM f f' :=
  ⟨fun p a1 a2 a3 a4 _ _ _ _ => h.1 p a1 a2 a3 a4, fun i _ a2 a3 a4 _ => h.2.1 i a2 a3 a4, fun i hi => h.2.2 i (by omega)⟩
theorem QM_18 {f f' : Nat → Nat → Int32} (h : ∀ p, p ≠ 18 → f' p = f p) (h' : ∀ i, i < 29 → f' 18 i = f 18 i) : QM f f' :=
  ⟨fun p _ a2 _ _ _ _ _ _ => h p a2, fun i _ _ _ _ _ => by rw [h 0 (by omega)], h'⟩
theorem QC_refl (f : Nat → Nat → Int32) : QC f f := fun _ _ _ _ _ => rfl
theorem QC_trans {f f' f'' : Nat → Nat → Int32} (h : QC f f') (h' : QC f' f'') : QC f f'' := fun p a b c d => (h' p a b c d).trans (h p a b c d)
theorem QC_u (f : Nat → Nat → Int32) {q i : Nat} (v : Int32) (h : (73 ≤ q ∧ q ≤ 78) ∨ 97 ≤ q) : QC f (en_u1 f q i v) := fun p _ _ _ _ => u1_p _ _ _ (by omega)
theorem QC_uf (f : Nat → Nat → Int32) {q : Nat} (v : Nat → Int32) (h : (73 ≤ q ∧ q ≤ 78) ∨ 97 ≤ q) : QC f (en_uf f q v) := fun p _ _ _ _ => by unfold en_uf; rw [if_neg (by omega)]
theorem QC_CFr {f f' : Nat → Nat → Int32} (h : CFr 73 f f') : QC f f' := fun p a b c d => h.1 p (by omega) b c
theorem MRel_of {A : mu_A} {f f' : Nat → Nat → Int32} (ok : AOK A) (h : MRel A f) (e : ∀ p, p ≠ 0 → p ≠ 18 → (p ≤ 8 ∨ p = 19 ∨ p = 24 ∨ 27 ≤ p) → p ≤ 29 → f' p = f p) (e0 : ∀ i, i ≠ 0 → (i ≤ 6 ∨ i = 14 ∨ i = 16 ∨ i = 47 ∨ i = 55 ∨ 60 ≤ i) → f' 0 i = f 0 i) (e0' : f' 0 0 = f' 0 0) (e18 : ∀ i, i < 29 → f' 18 i = f 18 i) : MRel A f' := by
  obtain ⟨h1, h2, h3, h4, h5, h6, h7, h8, h9⟩ := h
  have lo := ok.1
  refine ⟨?_, ?_, ?_, ?_, ?_, ?_, ?_, ?_, ?_⟩
  · have rl : ∀ a o, mRl f a o → mRl f' a o := by
      intro a o ho
      cases o with
      | none => exact ho
      | some l =>
        obtain ⟨k, k1, k2, k3⟩ := ho
        exact ⟨k, k1, k2, mCd_congr (e 6 (by omega) (by omega) (by omega) (by omega)) _ _ k3⟩
    obtain ⟨b1, b2, b3, b4, b5, b6, b7, b8⟩ := h1
    refine ⟨?_, ?_, ?_, ?_, ?_, ?_, ?_, ?_⟩
    · rw [e0 3 (by omega) (by omega)]; exact b1
    · rw [e0 4 (by omega) (by omega)]; exact b2
    · rw [e 4 (by omega) (by omega) (by omega) (by omega)]; exact b3
    · rw [e 5 (by omega) (by omega) (by omega) (by omega)]; exact b4
    · rw [e 3 (by omega) (by omega) (by omega) (by omega)]; exact b5
    · rw [e 2 (by omega) (by omega) (by omega) (by omega)]; exact b6
    · rw [e0 5 (by omega) (by omega)]; exact rl _ _ b7
    · rw [e0 6 (by omega) (by omega)]; exact rl _ _ b8
  · exact MGd_of h2 (e0 1 (by omega) (by omega)) (e0 2 (by omega) (by omega)) (e 1 (by omega) (by omega) (by omega) (by omega))
  · exact MRw_of h3 (fun i _ hi => e18 i (by omega)) lo
  · exact hPs_of lo h4 (e0 47 (by omega) (by omega)) (e 19 (by omega) (by omega) (by omega) (by omega))
  · exact mSn_of h5 (e0 55 (by omega) (by omega)) (e 24 (by omega) (by omega) (by omega) (by omega))
  · exact MIm_of lo h6 (fun i _ _ => e0 i (by omega) (by omega)) (fun p _ _ => e p (by omega) (by omega) (by omega) (by omega))
  · exact MTp_of h7 (e0 14 (by omega) (by omega)) (e 7 (by omega) (by omega) (by omega) (by omega))
  · rw [e 8 (by omega) (by omega) (by omega) (by omega)]; exact h8
  · rw [e0 16 (by omega) (by omega)]; exact h9
theorem MRel_Q {A : mu_A} {f f' : Nat → Nat → Int32} (ok : AOK A) (h : MRel A f) (q : QM f f') : MRel A f' :=
  MRel_of ok h (fun p a b c d => q.1 p a b (by omega) (by omega) (by omega) (by omega) (by omega) (by omega)) (fun i a b => q.2.1 i a (by omega) (by omega) (by omega) (by omega)) rfl q.2.2
theorem MRel_hi {A : mu_A} {f f' : Nat → Nat → Int32} (ok : AOK A) (h : MRel A f) (q : ∀ p, p < 30 → f' p = f p) : MRel A f' :=
  MRel_of ok h (fun p _ _ _ _ => q p (by omega)) (fun i _ _ => by rw [q 0 (by omega)]) rfl (fun i _ => by rw [q 18 (by omega)])
theorem CRel_Q {A : mu_A} {f f' : Nat → Nat → Int32} (ok : AOK A) (h : CRel A f) (q : ∀ p, 31 ≤ p → (p < 73 ∨ 78 < p) → p ≠ 46 → p ≠ 49 → p < 97 → f' p = f p) : CRel A f' := by
  obtain ⟨h1, h2, h3, h4, h5, h6, h7, h8, h9⟩ := h
  have lo := ok.1
  refine ⟨?_, ?_, ?_, ?_, ?_, ?_, ?_, ?_, ?_⟩
  · exact CLd_of h1 (fun p _ _ _ => q p (by omega) (by omega) (by omega) (by omega) (by omega))
  · exact CGd_of h2 (fun p _ _ => q p (by omega) (by omega) (by omega) (by omega) (by omega))
  · exact CRw_of h3 (by rw [q 67 (by omega) (by omega) (by omega) (by omega) (by omega)]) (fun p _ _ => q p (by omega) (by omega) (by omega) (by omega) (by omega))
  · exact hPs_of lo h4 (by rw [q 79 (by omega) (by omega) (by omega) (by omega) (by omega)]) (q 80 (by omega) (by omega) (by omega) (by omega) (by omega))
  · exact cSn_of h5 (fun p _ _ => q p (by omega) (by omega) (by omega) (by omega) (by omega))
  · exact CIm_of lo h6 (by rw [q 31 (by omega) (by omega) (by omega) (by omega) (by omega)]) (fun p _ _ => q p (by omega) (by omega) (by omega) (by omega) (by omega))
  · exact CTp_of h7 (by rw [q 31 (by omega) (by omega) (by omega) (by omega) (by omega)]) (q 32 (by omega) (by omega) (by omega) (by omega) (by omega))
  · rw [q 33 (by omega) (by omega) (by omega) (by omega) (by omega)]; exact h8
  · rw [q 31 (by omega) (by omega) (by omega) (by omega) (by omega)]; exact h9
/-- answers: a number, or a throw -/
def out (o : Int32 ⊕ Nat) (σ : en_S) : Option en_O := match o with
  | .inl v => rI v σ
  | .inr e => some (.inr e, σ)
theorem c_Ix (e : Nat) (σ : en_S) (ki : Int32 → en_S → Option en_O) (kx : Nat → en_S → Option en_O) : en_cI (some (.inr e, σ)) ki kx = kx e σ := rfl
theorem c_Vx (e : Nat) (σ : en_S) (kv : en_S → Option en_O) (kx : Nat → en_S → Option en_O) : en_cV (some (.inr e, σ)) kv kx = kx e σ := rfl
def oK (o : Int32 ⊕ Nat) : Nat := match o with
  | .inl _ => 0
  | .inr e => e
/-- a question: the class answers, then the model -/
def Qn (f : Nat → Nat → Int32) (b : en_S → Option en_O) (m : en_S → Option en_O) (k : Nat → Nat) : Prop := ∃ (o : Int32 ⊕ Nat), (∀ g, ∃ f', b (f, g) = out o (f', g) ∧ QC f f') ∧ (∀ e, o = .inr e → e = 1 ∨ e = 2) ∧ ∀ f2 g, (∀ p, p < 30 → f2 p = f p) → ∃ v f3, m (f2, g) = rI v (f3, g) ∧ f3 0 0 = nI (k (oK o)) ∧ (∀ w, o = .inl w → v = w) ∧ QM f2 f3
