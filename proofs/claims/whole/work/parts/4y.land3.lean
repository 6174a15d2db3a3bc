/-! land -/
/-- a call that may also change the model's longs -/
def MtG (A : mu_A) (f : Nat → Nat → Int32) (b : en_S → Option en_O) (m : en_S → Option en_O) (k : Nat → Nat) : Prop := ∃ (o : Int32 ⊕ Nat) (A' : mu_A), AOK A' ∧ (∀ g, ∃ f1, b (f, g) = out o (f1, g) ∧ (∀ p, p < 31 → f1 p = f p) ∧ CRel A' f1) ∧ (∀ e, o = .inr e → e = 1 ∨ e = 2) ∧ ∀ f2 g, (∀ p, p < 30 → f2 p = f p) → ∃ v f3 g3, m (f2, g) = rI v (f3, g3) ∧ f3 0 0 = nI (k (oK o)) ∧ (∀ w, o = .inl w → v = w) ∧ MRel A' f3 ∧ (∀ p, 30 ≤ p → f3 p = f2 p) ∧ ∀ q, q ≠ 0 → g3 q = g q
theorem Mt_G {A : mu_A} {f : Nat → Nat → Int32} {b m : en_S → Option en_O} {k : Nat → Nat} (h : Mt A f b m k) : MtG A f b m k := by
  obtain ⟨o, A', h1, h2, h3, h4⟩ := h
  refine ⟨o, A', h1, h2, h3, fun f2 g hf => ?_⟩
  obtain ⟨v, f3, e1, e2, e3, e4, e5⟩ := h4 f2 g hf
  exact ⟨v, f3, g, e1, e2, e3, e4, e5, fun _ _ => rfl⟩
def badA (A : mu_A) (q : Nat) : mu_A := (aL A, aG A, aR A, aP A, aS A, aI A, (0, (aT A).2), upd (aF A) 0 (aF A 0 + nI 1), nI q)
theorem badA_OK {A : mu_A} (ok : AOK A) (q : Nat) : AOK (badA A q) := ⟨ok.1, ok.2.1, ok.2.2.1, ok.2.2.2.1, ok.2.2.2.2.1, ok.2.2.2.2.2.1, ok.2.2.2.2.2.2.1, Nat.zero_le _, fun i hi => absurd hi (Nat.not_lt_zero i)⟩
theorem CRel_bad {A : mu_A} {q : Nat} {f f' : Nat → Nat → Int32} (ok : AOK A) (h : CRel A f) (F : ∀ p i, 31 ≤ p → (p < 50 ∨ 66 < p) → (p ≠ 31 ∨ (i ≠ 1 ∧ i ≠ 2)) → p ≠ 33 → f' p i = f p i) (h1 : f' 31 1 = nI 0) (h2 : f' 31 2 = nI q) (h33 : ∀ i, i < 3 → f' 33 i = upd (aF A) 0 (aF A 0 + nI 1) i) : CRel (badA A q) f' := by
  have lo := ok.1
  have Fp : ∀ p, 34 ≤ p → (p < 50 ∨ 66 < p) → f' p = f p := fun p k1 k2 => funext (fun i => F p i (by omega) k2 (by omega) (by omega))
  obtain ⟨c1, c2, c3, c4, c5, c6, c7, c8, c9⟩ := h
  exact ⟨CLd_of c1 (fun p _ _ _ => Fp p (by omega) (by omega)), CGd_of c2 (fun p _ _ => Fp p (by omega) (by omega)), CRw_of c3 (by rw [Fp 67 (by omega) (by omega)]) (fun p _ _ => Fp p (by omega) (by omega)), hPs_of lo c4 (by rw [Fp 79 (by omega) (by omega)]) (Fp 80 (by omega) (by omega)), cSn_of c5 (fun p _ _ => Fp p (by omega) (by omega)), CIm_of lo c6 (F 31 11 (by omega) (by omega) (by omega) (by omega)) (fun p _ _ => Fp p (by omega) (by omega)), ⟨h1, fun i hi => absurd hi (Nat.not_lt_zero i)⟩, h33, h2⟩
theorem MRel_bad {A : mu_A} {q : Nat} {f f' : Nat → Nat → Int32} (ok : AOK A) (h : MRel A f) (F : ∀ p i, (p ≠ 0 ∨ i < 14 ∨ 35 < i) → (p < 9 ∨ 17 < p) → p ≠ 8 → f' p i = f p i) (h1 : f' 0 14 = nI 0) (h2 : f' 0 16 = nI q) (h8 : ∀ i, i < 3 → f' 8 i = upd (aF A) 0 (aF A 0 + nI 1) i) : MRel (badA A q) f' := by
  have lo := ok.1
  have Fp : ∀ p, p ≠ 0 → (p < 8 ∨ 17 < p) → f' p = f p := fun p k1 k2 => funext (fun i => F p i (by omega) (by omega) (by omega))
  obtain ⟨c1, c2, c3, c4, c5, c6, c7, c8, c9⟩ := h
  exact ⟨MLd_of c1 (fun j _ => F 0 j (by omega) (by omega) (by omega)) (fun p _ _ => Fp p (by omega) (by omega)), MGd_of c2 (F 0 1 (by omega) (by omega) (by omega)) (F 0 2 (by omega) (by omega) (by omega)) (Fp 1 (by omega) (by omega)), MRw_of c3 (fun j _ _ => by rw [Fp 18 (by omega) (by omega)]) lo, hPs_of lo c4 (F 0 47 (by omega) (by omega) (by omega)) (Fp 19 (by omega) (by omega)), mSn_of c5 (F 0 55 (by omega) (by omega) (by omega)) (Fp 24 (by omega) (by omega)), MIm_of lo c6 (fun i _ _ => F 0 i (by omega) (by omega) (by omega)) (fun p _ _ => Fp p (by omega) (by omega)), ⟨h1, fun i hi => absurd hi (Nat.not_lt_zero i)⟩, h8, h2⟩
theorem q_land {A : mu_A} {f : Nat → Nat → Int32} (ok : AOK A) (hM : MRel A f) (hC : CRel A f) (v1 : Int32) : MtG A f (fun σ => x_b_land_0 σ v1) (fun σ => x_m_land_0 σ v1) (fun e => if e = 2 then 1 else e) := by
  have lo := ok.1
  have t7 := ok.2.2.2.2.2.2.2.1
  have t8 := ok.2.2.2.2.2.2.2.2
  have hT := hC.2.2.2.2.2.2.1
  have hTm := hM.2.2.2.2.2.2.1
  by_cases good : ¬ v1 < 0 ∧ v1 ≤ nI (aT A).1
  · obtain ⟨g1, g2⟩ := good
    obtain ⟨n, hn, rfl⟩ := nI_of g1
    have hn' : n ≤ (aT A).1 := by
      rw [q_leI (by omega) (by omega)] at g2
      exact g2
    obtain ⟨X, hX⟩ : ∃ X : mu_X, X = (n, (aT A).2) := ⟨_, rfl⟩
    have X1 : X.1 = n := by rw [hX]
    have X2 : ∀ i, X.2 i = (aT A).2 i := fun i => by rw [hX]
    have xo : XOK X := ⟨by omega, fun i hi => by rw [X2]; exact t8 i (by omega)⟩
    have c32 : ∀ i, i < X.1 → f 32 i = sb (X.2 i) := fun i hi => by rw [X2]; exact hT.2 i (by omega)
    obtain ⟨o, oo, cl, mo⟩ := ln_all xo X.1 0 D00 (by omega) (Nat.zero_le _) D00_OK
    -- the class up to its lines
    have cls : ∀ g, ∃ f1, x_rd_readText_0 (f, g) (nI n) = x_rd_readText_51 (f1, g) (nI 0) ∧ CS X 0 D00 f1 ∧ CF f f1 := fun g => by
      have := c_start xo f g c32
      rw [X1] at this
      exact this
    have cst : ∀ g, x_b_land_0 (f, g) (nI n) = en_cI (x_rd_readText_0 (f, g) (nI n)) (fun r2 σ1 => if r2 = 0 then en_cV (x_ld_copyFrom_p34_50_0 (en_u1 (en_u1 σ1.1 31 2 (σ1.1 66 10)) 31 1 0, σ1.2)) (fun σ3 => en_cV (x_st_begin_p67_0 σ3) (fun σ4 => some (.inl (some (.int 0)), (en_u1 (en_u1 (en_u1 σ4.1 79 0 0) 81 0 0) 31 11 0, σ4.2))) (fun e σ => some (.inr e, σ))) (fun e σ => some (.inr e, σ)) else some (.inl (some (.int r2)), (en_u1 (en_u1 (en_u1 σ1.1 31 2 (σ1.1 66 10)) 31 1 0) 33 0 ((σ1.1 33 0) + 1), σ1.2))) (fun e σ => some (.inr e, σ)) := fun g => by
      rw [e_b_land_0, if_neg g1, if_pos (show nI n ≤ f 31 1 by rw [hT.1]; exact g2)]
    -- the model up to its lines
    have mod : ∀ f2 g, (∀ p, p < 30 → f2 p = f p) → ∃ f1 g1, x_m_land_0 (f2, g) (nI n) = x_m_land_129 (f1, g1) ∧ MS X 0 D00 0 f1 g1 ∧ (∀ p i, (p ≠ 0 ∨ i < 14 ∨ 35 < i) → (p < 9 ∨ 17 < p) → f1 p i = en_u1 f2 0 0 0 p i) ∧ f1 0 14 = nI 0 ∧ ∀ q, q ≠ 0 → g1 q = g q := by
      intro f2 g h2
      have h14 : f2 0 14 = nI (aT A).1 := by rw [h2 0 (by omega)]; exact hTm.1
      have h7 : ∀ i, i < X.1 → en_u1 f2 0 0 0 7 i = nI (X.2 i) := fun i hi => by rw [u1_ne _ _ (by omega), h2 7 (by omega), X2]; exact hTm.2 i (by omega)
      obtain ⟨f1, g1', a1, a2, a3, a4, a5⟩ := m_start xo (en_u1 f2 0 0 0) g h7
      rw [X1] at a1
      refine ⟨f1, g1', ?_, a2, a3, a4, a5⟩
      rw [e_m_land_0, if_neg g1, if_neg (show ¬ f2 0 14 < nI n by rw [h14]; exact nI_nlt hn' (by omega)), e_m_land_23, show x_m_right_0 (en_u1 (f2, g).1 0 0 0, (f2, g).2) 1 1 = _ from m_rightY (en_u1 f2 0 0 0) g (u1_at _ _ _ _) 1, c_I, if_neg (by decide)]
      exact a1
    have M0 : ∀ f2, (∀ p, p < 30 → f2 p = f p) → MRel A (en_u1 f2 0 0 0) := fun f2 h2 => MRel_Q ok (MRel_hi ok hM h2) (QM_u0 _ _ (by omega))
    cases o with
    | inl D =>
      refine ⟨.inl (nI 0), newA A D, newA_OK oo, fun g => ?_, fun e h => (by cases h), fun f2 g h2 => ?_⟩
      · obtain ⟨f1, a1, a2, a3⟩ := cls g
        obtain ⟨f3, b1, b2, b3, b4⟩ := cl f1 g 0 a2 (Nat.le_refl _)
        obtain ⟨f4, d1, d2, d3⟩ := c_end (A := A) oo f f3 g hC b2 b3 (CF_trans a3 b4)
        refine ⟨f4, ?_, d3, d2⟩
        show x_b_land_0 (f, g) (nI n) = rI (nI 0) (f4, g)
        rw [cst g, a1, b1, c_I, if_pos (show nI 0 = 0 from rfl)]
        exact d1
      · obtain ⟨f1, g1', a1, a2, a3, a4, a5⟩ := mod f2 g h2
        obtain ⟨f3, g3, t, b1, b2, b3, b4, b5, b6, b7⟩ := mo f1 g1' 0 a2
        obtain ⟨f4, d1, d2, d3, d4⟩ := m_end (A := A) oo (en_u1 f2 0 0 0) f3 g3 (M0 f2 h2) b2 b3 b4 b5 (by rw [b6 0 14 (by omega) (by omega)]; exact a4) (fun i => by rw [b6 8 i (by omega) (by omega), a3 8 i (by omega) (by omega)]) (by rw [b6 0 0 (by omega) (by omega), a3 0 0 (by omega) (by omega), u1_at]; rfl)
        refine ⟨nI 0, f4, g3, ?_, d3, fun w h => (by cases h; rfl), d2, fun p hp => ?_, fun q hq => (b7 q hq).trans (a5 q hq)⟩
        · show x_m_land_0 (f2, g) (nI n) = _
          rw [a1, b1, d1]
        · rw [d4 p hp]
          funext i
          rw [b6 p i (by omega) (by omega), a3 p i (by omega) (by omega), u1_ne _ _ (by omega)]
    | inr z =>
      have z1 := oo.1
      refine ⟨.inl (nI z.1), badA A z.2, badA_OK ok z.2, fun g => ?_, fun e h => (by cases h), fun f2 g h2 => ?_⟩
      · obtain ⟨f1, a1, a2, a3⟩ := cls g
        obtain ⟨f3, b1, b2, b3⟩ := cl f1 g 0 a2 (Nat.le_refl _)
        have FF := CF_trans a3 b3
        have H : ∀ p i, (p ≠ 31 ∨ (i ≠ 1 ∧ i ≠ 2)) → (p ≠ 33 ∨ i ≠ 0) → en_u1 (en_u1 (en_u1 f3 31 2 (f3 66 10)) 31 1 0) 33 0 ((f3 33 0) + 1) p i = f3 p i := fun p i k1 k2 => by rw [u1_ne _ _ (by omega), u1_ne _ _ (by omega), u1_ne _ _ (by omega)]
        refine ⟨en_u1 (en_u1 (en_u1 f3 31 2 (f3 66 10)) 31 1 0) 33 0 ((f3 33 0) + 1), ?_, fun p hp => funext (fun i => by rw [H p i (by omega) (by omega), FF p i (by omega)]), CRel_bad ok hC (fun p i k1 k2 k3 k4 => by rw [H p i k3 (by omega), FF p i k2]) ?_ ?_ (fun i hi => ?_)⟩
        · show x_b_land_0 (f, g) (nI n) = rI (nI z.1) _
          rw [cst g, a1, b1, c_I, if_neg (show ¬ nI z.1 = 0 from nI_ne0 (by omega) (by omega))]
          rfl
        · rw [u1_ne _ _ (by omega), u1_at]; rfl
        · rw [u1_ne _ _ (by omega), u1_ne _ _ (by omega), u1_at]; exact b2
        · have e0 : f3 33 0 = aF A 0 := by rw [FF 33 0 (by omega)]; exact hC.2.2.2.2.2.2.2.1 0 (by omega)
          rw [upd_if]
          by_cases c : i = 0
          · rw [if_pos c, c, u1_at, e0]; rfl
          · rw [if_neg c, H 33 i (by omega) (by omega), FF 33 i (by omega)]; exact hC.2.2.2.2.2.2.2.1 i hi
      · obtain ⟨f1, g1', a1, a2, a3, a4, a5⟩ := mod f2 g h2
        obtain ⟨f3, g3, b1, b2⟩ := mo f1 g1' 0 a2
        have b2' : MFt z.1 z.2 f1 g1' f3 g3 := b2
        have F : ∀ p i, (p ≠ 0 ∨ i < 14 ∨ 35 < i) → (p < 9 ∨ 17 < p) → (p ≠ 8 ∨ i ≠ 0) → en_u1 f3 8 0 ((f3 8 0) + 1) p i = en_u1 f2 0 0 0 p i := fun p i k1 k2 k3 => by rw [u1_ne _ _ (by omega), b2'.2.2.1 p i (by omega) k2, a3 p i k1 k2]
        have m8 := (M0 f2 h2).2.2.2.2.2.2.2.1
        refine ⟨nI z.1, en_u1 f3 8 0 ((f3 8 0) + 1), g3, ?_, ?_, fun w h => (by cases h; rfl), MRel_bad ok (M0 f2 h2) (fun p i k1 k2 k3 => F p i k1 k2 (by omega)) ?_ ?_ (fun i hi => ?_), fun p hp => ?_, fun q hq => (b2'.2.2.2 q hq).trans (a5 q hq)⟩
        · show x_m_land_0 (f2, g) (nI n) = _
          rw [a1, b1, e_m_land_150, m_good0 f3 g3 z1 b2'.1, c_I, if_pos (by decide)]
          show rI (f3 0 15) (en_u1 f3 8 0 (f3 8 0 + 1), g3) = _
          rw [b2'.1]
        · rw [F 0 0 (by omega) (by omega) (by omega), u1_at]; rfl
        · rw [u1_ne _ _ (by omega), b2'.2.2.1 0 14 (by omega) (by omega)]; exact a4
        · rw [u1_ne _ _ (by omega)]; exact b2'.2.1
        · have e0 : f3 8 0 = aF A 0 := by rw [b2'.2.2.1 8 0 (by omega) (by omega), a3 8 0 (by omega) (by omega)]; exact m8 0 (by omega)
          rw [upd_if]
          by_cases c : i = 0
          · rw [if_pos c, c, u1_at, e0]; rfl
          · rw [if_neg c, F 8 i (by omega) (by omega) (by omega)]; exact m8 i hi
        · rw [u1_p _ _ _ (by omega)]
          funext i
          rw [b2'.2.2.1 p i (by omega) (by omega), a3 p i (by omega) (by omega), u1_ne _ _ (by omega)]
  · refine Mt_G (Mt_err ok hM hC 2 (by omega) ?_ ?_)
    · intro g
      show x_b_land_0 (f, g) v1 = _
      rw [e_b_land_0]
      by_cases c : v1 < 0
      · rw [if_pos c]
      · rw [if_neg c, if_neg (show ¬ v1 ≤ f 31 1 by rw [hT.1]; exact fun k => good ⟨c, k⟩)]
    · intro f0 f2 g M0 h0 e0
      show x_m_land_0 (f2, g) v1 = _
      have h14 : f2 0 14 = nI (aT A).1 := by rw [← M0.2.2.2.2.2.2.1.1, e0, u1_ne _ _ (by omega)]
      have fin : x_m_land_23 (en_u1 f2 0 0 0, g) v1 0 = rI (nI 0) (en_u1 f0 0 0 (nI 1), g) := by
        rw [e_m_land_23, ← e0, show x_m_right_0 (f0, g) 0 1 = _ from m_rightN f0 g h0 (c := 1) (Or.inl rfl), c_I, if_pos (by decide)]
        rfl
      rw [e_m_land_0]
      by_cases c : v1 < 0
      · rw [if_pos c]; exact fin
      · rw [if_neg c, if_pos (show f2 0 14 < v1 by rw [h14, ← Int32.not_le]; exact fun k => good ⟨c, k⟩)]; exact fin
