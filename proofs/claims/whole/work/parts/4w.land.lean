/-! land: the start, the end -/
def D00 : mu_Dr := (none, false, (0, 0, fun _ => 0, fun _ => 0, fun _ => 0, fun _ => 0, none, none), (4, 0, fun _ => 0, fun _ => 0, fun _ => 0), fun _ => 0, fun _ => 0)
theorem D00_OK : DOK D00 := by
  refine ⟨⟨Nat.zero_le _, Nat.zero_le _, fun x hx => absurd hx (Nat.not_lt_zero x), fun p hp => absurd hp (Nat.not_lt_zero p), trivial, trivial⟩, ⟨by decide, by decide, Nat.zero_le _, fun i hi => absurd hi (Nat.not_lt_zero i), fun i j hi => absurd hi (Nat.not_lt_zero i)⟩, fun x hx => absurd hx (Nat.not_lt_zero x), fun x hx => absurd hx (Nat.not_lt_zero x), fun p hp => absurd hp (Nat.not_lt_zero p), fun _ => ⟨rfl, rfl⟩, rfl⟩
theorem c_start {X : mu_X} (xo : XOK X) (f : Nat → Nat → Int32) (g : Nat → Nat → Int64) (h32 : ∀ i, i < X.1 → f 32 i = sb (X.2 i)) : ∃ f1, x_rd_readText_0 (f, g) (nI X.1) = x_rd_readText_51 (f1, g) (nI 0) ∧ CS X 0 D00 f1 ∧ CF f f1 := by
  have n7 := xo.1
  rw [e_rd_readText_0, if_neg (show ¬ (700 : Int32) < nI X.1 by rw [q_700]; exact nI_nlt n7 (by omega)), e_ld_empty_p50_0, e_ru_empty_p60_0, r_V, c_V, e_ru_empty_p63_0, r_V, c_V, r_V, c_V]
  obtain ⟨f0, hf0⟩ : ∃ f0, f0 = en_u1 (en_u1 (en_u1 (en_u1 (en_u1 (en_u1 (en_u1 (en_u1 (en_u1 (en_u1 (en_u1 (en_u1 (en_u1 (en_u1 f 66 2 (nI X.1)) 66 4 0) 66 7 0) 66 8 0) 66 9 0) 66 10 (-1)) 50 0 4) 50 1 0) 50 5 0) 50 9 0) 60 0 0) 60 1 0) 63 0 0) 63 1 0 := ⟨_, rfl⟩
  have F0 : ∀ p i, (p < 50 ∨ 66 < p) → f0 p i = f p i := fun p i k => by
    rw [hf0]
    simp (disch := omega) only [u1_ne]
  have v2 : f0 66 2 = nI X.1 := by rw [hf0]; simp (disch := omega) only [u1_ne, u1_at]
  have v4 : f0 66 4 = nI 0 := by rw [hf0]; simp (disch := omega) only [u1_ne, u1_at]; rfl
  have v7 : f0 66 7 = nI 0 := by rw [hf0]; simp (disch := omega) only [u1_ne, u1_at]; rfl
  have v8 : f0 66 8 = nI 0 := by rw [hf0]; simp (disch := omega) only [u1_ne, u1_at]; rfl
  have v9 : f0 66 9 = nI 0 := by rw [hf0]; simp (disch := omega) only [u1_ne, u1_at]; rfl
  have v10 : f0 66 10 = nN := by rw [hf0]; simp (disch := omega) only [u1_ne, u1_at]; rfl
  have w0 : f0 50 0 = nI 4 := by rw [hf0]; simp (disch := omega) only [u1_ne, u1_at]; rfl
  have w1 : f0 50 1 = nI 0 := by rw [hf0]; simp (disch := omega) only [u1_ne, u1_at]; rfl
  have w5 : f0 50 5 = nI 0 := by rw [hf0]; simp (disch := omega) only [u1_ne, u1_at]; rfl
  have w9 : f0 50 9 = nI 0 := by rw [hf0]; simp (disch := omega) only [u1_ne, u1_at]; rfl
  have r0 : f0 60 0 = nI 0 := by rw [hf0]; simp (disch := omega) only [u1_ne, u1_at]; rfl
  have r1 : f0 60 1 = nI 0 := by rw [hf0]; simp (disch := omega) only [u1_ne, u1_at]; rfl
  have s0 : f0 63 0 = nI 0 := by rw [hf0]; simp (disch := omega) only [u1_ne, u1_at]; rfl
  have s1 : f0 63 1 = nI 0 := by rw [hf0]; simp (disch := omega) only [u1_ne, u1_at]; rfl
  obtain ⟨f1, a1, a2, a3⟩ := c_next xo f0 g (Nat.zero_le _) ⟨v2, fun i hi => by rw [F0 32 i (by omega)]; exact h32 i hi⟩ v4
  refine ⟨f1, ?_, ⟨a2, by rw [a3 66 9 (by omega)]; exact v9, by rw [a3 66 10 (by omega)]; exact v10, by rw [a3 66 7 (by omega)]; exact v7, by rw [a3 66 8 (by omega)]; exact v8, by rw [a3 50 0 (by omega)]; exact w0, by rw [a3 50 1 (by omega)]; exact w1, fun i hi => absurd hi (Nat.not_lt_zero i), by rw [a3 50 5 (by omega)]; exact w5, by rw [a3 50 9 (by omega)]; exact w9, fun x hx => absurd hx (Nat.not_lt_zero x), fun x hx => absurd hx (Nat.not_lt_zero x), fun p hp => absurd hp (Nat.not_lt_zero p), ⟨by rw [a3 60 0 (by omega)]; exact r0, by rw [a3 60 1 (by omega)]; exact r1⟩, ⟨by rw [a3 63 0 (by omega)]; exact s0, by rw [a3 63 1 (by omega)]; exact s1⟩⟩, fun p i k => by rw [a3 p i (by omega), F0 p i k]⟩
  have e1 : x_rd_nextToken_0 (f0, g) = rV (f1, g) := a1
  rw [hf0] at e1
  show en_cV (x_rd_nextToken_0 (en_u1 (en_u1 (en_u1 (en_u1 (en_u1 (en_u1 (en_u1 (en_u1 (en_u1 (en_u1 (en_u1 (en_u1 (en_u1 (en_u1 f 66 2 (nI X.1)) 66 4 0) 66 7 0) 66 8 0) 66 9 0) 66 10 (-1)) 50 0 4) 50 1 0) 50 5 0) 50 9 0) 60 0 0) 60 1 0) 63 0 0) 63 1 0, g)) _ _ = _
  rw [e1, c_V]
  rfl
theorem m_94 (f : Nat → Nat → Int32) (g : Nat → Nat → Int64) : ∃ f', x_m_land_94 (f, g) 0 = en_cV (x_m_goes_0 (en_u1 (en_u1 f' 14 0 0) 0 33 0, g)) (fun σ1 => x_m_land_129 σ1) (fun e σ => some (.inr e, σ)) ∧ (∀ i, i < 64 → f' 9 i = nN) ∧ ∀ p, p ≠ 9 → f' p = f p := by
  obtain ⟨f', e1, h1, h2⟩ := mu_inv (fun (f' : Nat → Nat → Int32) i => x_m_land_94 (f', g) i) (fun n f' => (∀ i, i < n → f' 9 i = nN) ∧ ∀ p, p ≠ 9 → f' p = f p) 64 f ⟨fun i hi => absurd hi (Nat.not_lt_zero i), fun _ _ => rfl⟩ (by
    intro k a hk ⟨h1, h2⟩
    refine ⟨en_u1 a 9 k (-1), ?_, fun i hi => ?_, fun p hp => by rw [u1_p _ _ _ hp, h2 p hp]⟩
    · show x_m_land_94 (a, g) (nI k) = _
      rw [e_m_land_94, if_neg (show ¬ (64 : Int32) ≤ nI k by rw [z_64]; exact nI_ge hk (by omega))]
      simp (disch := omega) only [q_in, q_clamp, if_true, nI_1]
    · rw [u1_if]
      by_cases e : i = k
      · rw [if_pos e]; rfl
      · rw [if_neg e]; exact h1 i (by omega))
  refine ⟨f', ?_, h1, h2⟩
  refine Eq.trans e1 ?_
  show x_m_land_94 (f', g) (nI 64) = _
  rw [e_m_land_94, if_pos (by decide)]
theorem m_start {X : mu_X} (xo : XOK X) (f : Nat → Nat → Int32) (g : Nat → Nat → Int64) (h7 : ∀ i, i < X.1 → f 7 i = nI (X.2 i)) : ∃ f1 g1, x_m_land_94 (en_u1 (en_u1 (en_u1 (en_u1 (en_u1 (en_u1 (en_u1 (en_u1 (en_u1 (en_u1 (en_u1 (en_u1 f 0 14 0) 0 16 (-1)) 0 15 0) 0 18 (nI X.1)) 0 19 0) 0 27 (-1)) 0 28 0) 0 29 0) 0 30 0) 0 31 (-1)) 0 32 (-1)) 0 26 0, g) 0 = x_m_land_129 (f1, g1) ∧ MS X 0 D00 0 f1 g1 ∧ (∀ p i, (p ≠ 0 ∨ i < 14 ∨ 35 < i) → (p < 9 ∨ 17 < p) → f1 p i = f p i) ∧ f1 0 14 = nI 0 ∧ ∀ q, q ≠ 0 → g1 q = g q := by
  have n7 := xo.1
  obtain ⟨f0, hf0⟩ : ∃ f0, f0 = en_u1 (en_u1 (en_u1 (en_u1 (en_u1 (en_u1 (en_u1 (en_u1 (en_u1 (en_u1 (en_u1 (en_u1 f 0 14 0) 0 16 (-1)) 0 15 0) 0 18 (nI X.1)) 0 19 0) 0 27 (-1)) 0 28 0) 0 29 0) 0 30 0) 0 31 (-1)) 0 32 (-1)) 0 26 0 := ⟨_, rfl⟩
  have v14 : f0 0 14 = nI 0 := by rw [hf0]; simp (disch := omega) only [u1_ne, u1_at]; rfl
  have v15 : f0 0 15 = nI 0 := by rw [hf0]; simp (disch := omega) only [u1_ne, u1_at]; rfl
  have v16 : f0 0 16 = nN := by rw [hf0]; simp (disch := omega) only [u1_ne, u1_at]; rfl
  have v18 : f0 0 18 = nI X.1 := by rw [hf0]; simp (disch := omega) only [u1_ne, u1_at]
  have v19 : f0 0 19 = nI 0 := by rw [hf0]; simp (disch := omega) only [u1_ne, u1_at]; rfl
  have v26 : f0 0 26 = nI 0 := by rw [hf0]; simp (disch := omega) only [u1_ne, u1_at]; rfl
  have v27 : f0 0 27 = nN := by rw [hf0]; simp (disch := omega) only [u1_ne, u1_at]; rfl
  have v28 : f0 0 28 = nI 0 := by rw [hf0]; simp (disch := omega) only [u1_ne, u1_at]; rfl
  have v29 : f0 0 29 = nI 0 := by rw [hf0]; simp (disch := omega) only [u1_ne, u1_at]; rfl
  have v30 : f0 0 30 = nI 0 := by rw [hf0]; simp (disch := omega) only [u1_ne, u1_at]; rfl
  have v31 : f0 0 31 = nN := by rw [hf0]; simp (disch := omega) only [u1_ne, u1_at]; rfl
  have v32 : f0 0 32 = nN := by rw [hf0]; simp (disch := omega) only [u1_ne, u1_at]; rfl
  have F0 : ∀ p i, (p ≠ 0 ∨ i < 14 ∨ 35 < i) → f0 p i = f p i := fun p i k => by
    rw [hf0]
    simp (disch := omega) only [u1_ne]
  rw [← hf0]
  obtain ⟨f1, a1, a2, a3⟩ := m_94 f0 g
  have G : ∀ p i, p ≠ 9 → (p ≠ 14 ∨ i ≠ 0) → (p ≠ 0 ∨ i ≠ 33) → en_u1 (en_u1 f1 14 0 0) 0 33 0 p i = f0 p i := fun p i k1 k2 k3 => by rw [u1_ne _ _ (by omega), u1_ne _ _ (by omega), a3 p k1]
  obtain ⟨f2, g2, b1, b2, b3, b4⟩ := m_goes xo (en_u1 (en_u1 f1 14 0 0) 0 33 0) g (c := 0) (Nat.zero_le _) ⟨by rw [G 0 18 (by omega) (by omega) (by omega)]; exact v18, fun i hi => by rw [G 7 i (by omega) (by omega) (by omega), F0 7 i (by omega)]; exact h7 i hi⟩ (by rw [G 0 19 (by omega) (by omega) (by omega)]; exact v19)
  refine ⟨f2, g2, by rw [a1, b1, c_V], ⟨b2, ?_, ?_, ⟨?_, ?_, ?_, ?_, ?_, ?_, ?_, ?_, ⟨fun i hi => absurd hi (Nat.not_lt_zero i), fun x y hx hy => Or.inl ?_⟩, ?_, fun x hx => absurd hx (Nat.not_lt_zero x), fun x hx => absurd hx (Nat.not_lt_zero x), fun p hp => absurd hp (Nat.not_lt_zero p)⟩, Nat.zero_le _⟩, fun p i k1 k2 => ?_, ?_, b4⟩
  · rw [b3 0 15 (by omega), G 0 15 (by omega) (by omega) (by omega)]; exact v15
  · rw [b3 0 16 (by omega), G 0 16 (by omega) (by omega) (by omega)]; exact v16
  · rw [b3 0 27 (by omega), G 0 27 (by omega) (by omega) (by omega)]; exact v27
  · rw [b3 0 26 (by omega), G 0 26 (by omega) (by omega) (by omega)]; exact v26
  · rw [b3 0 28 (by omega), G 0 28 (by omega) (by omega) (by omega)]; exact v28
  · rw [b3 0 29 (by omega), G 0 29 (by omega) (by omega) (by omega)]; exact v29
  · rw [b3 0 30 (by omega), G 0 30 (by omega) (by omega) (by omega)]; exact v30
  · rw [b3 0 33 (by omega), u1_at]; rfl
  · rw [b3 0 31 (by omega), G 0 31 (by omega) (by omega) (by omega)]; exact v31
  · rw [b3 0 32 (by omega), G 0 32 (by omega) (by omega) (by omega)]; exact v32
  · rw [b3 9 _ (by omega), u1_ne _ _ (by omega), u1_ne _ _ (by omega)]; exact a2 _ (by omega)
  · rw [b3 14 0 (by omega), u1_ne _ _ (by omega), u1_at]; rfl
  · by_cases e : p = 0 ∧ (19 ≤ i ∧ i ≤ 24)
    · omega
    · rw [b3 p i (by omega), G p i (by omega) (by omega) (by omega), F0 p i k1]
  · rw [b3 0 14 (by omega), G 0 14 (by omega) (by omega) (by omega)]; exact v14
/-- code that was read, once it is copied -/
theorem mCd_Em {f f' : Nat → Nat → Int32} (e : ∀ i, i < 1400 → f' 6 i = f 15 i) : ∀ (l : List Int32) (k : Nat), k + eL l < 1400 → Em f k l → f 15 (k + eL l) = nI 0 → mCd f' k l := by
  intro l
  induction l with
  | nil =>
    intro k h1 _ h3
    have h1' : k + 0 < 1400 := h1
    exact ⟨by omega, by rw [e k (by omega)]; exact h3⟩
  | cons s l ih =>
    intro k h1 h2 h3
    have h1' : k + ((if -8 < s then 2 else 1) + eL l) < 1400 := h1
    have h3' : f 15 (k + ((if -8 < s then 2 else 1) + eL l)) = nI 0 := h3
    simp only [Em, mCd] at h2 ⊢
    by_cases c : -8 < s
    · rw [if_pos c] at h1' h2 h3' ⊢
      refine ⟨by omega, ?_, ih (k + 2) (by omega) h2.2 (by rw [show k + 2 + eL l = k + (2 + eL l) by omega]; exact h3')⟩
      rw [e k (by omega), e (k + 1) (by omega)]
      exact h2.1
    · rw [if_neg c] at h1' h2 h3' ⊢
      refine ⟨by omega, ?_, ih (k + 1) (by omega) h2.2 (by rw [show k + 1 + eL l = k + (1 + eL l) by omega]; exact h3')⟩
      rw [e k (by omega)]
      exact h2.1
theorem m_294 (f : Nat → Nat → Int32) (g : Nat → Nat → Int64) : ∃ f', x_m_land_294 (f, g) 0 = rI (nI 0) (en_u1 (en_u1 (en_u1 f' 0 47 0) 0 55 0) 0 60 0, g) ∧ (∀ i, i < 29 → f' 18 i = f 14 i) ∧ ∀ p, p ≠ 18 → f' p = f p := by
  obtain ⟨f', e1, h1, h2⟩ := mu_inv (fun (f' : Nat → Nat → Int32) i => x_m_land_294 (f', g) i) (fun n f' => (∀ i, i < n → f' 18 i = f 14 i) ∧ ∀ p, p ≠ 18 → f' p = f p) 29 f ⟨fun i hi => absurd hi (Nat.not_lt_zero i), fun _ _ => rfl⟩ (by
    intro k a hk ⟨h1, h2⟩
    refine ⟨en_u1 a 18 k (a 14 k), ?_, fun i hi => ?_, fun p hp => by rw [u1_p _ _ _ hp, h2 p hp]⟩
    · show x_m_land_294 (a, g) (nI k) = _
      rw [e_m_land_294, if_neg (show ¬ (29 : Int32) ≤ nI k by rw [q_29]; exact nI_ge hk (by omega))]
      simp (disch := omega) only [q_in, q_clamp, if_true, nI_1]
    · rw [u1_if]
      by_cases e : i = k
      · rw [if_pos e, e, h2 14 (by omega)]
      · rw [if_neg e]; exact h1 i (by omega))
  refine ⟨f', ?_, h1, h2⟩
  refine Eq.trans e1 ?_
  show x_m_land_294 (f', g) (nI 29) = _
  rw [e_m_land_294, if_pos (by decide)]
  rfl
def newRw (D : mu_Dr) : mu_Rw := (nI 0, oWt D, fun _ => nI 0, oHd D, fun _ => nI 0)
def newA (A : mu_A) (D : mu_Dr) : mu_A := (oLd D, oGd D, newRw D, (0, fun _ => newRw D), (0, fun _ => 0, fun _ => 0, fun _ => 0), none, (0, (aT A).2), aF A, nN)
theorem newA_OK {A : mu_A} {D : mu_Dr} (ok : DOK D) : AOK (newA A D) := by
  obtain ⟨lo, go, to, wo, ho, an, tn⟩ := ok
  refine ⟨lo, go, to, ⟨wo, fun x hx => ⟨0, by show 0 < lR (oLd D) x; have := (lo.2.2.1 x hx).1; omega, rfl⟩, ho, fun p _ => ⟨0, by omega, rfl⟩⟩, ⟨Nat.zero_le _, fun k hk => absurd hk (Nat.not_lt_zero k)⟩, ⟨Nat.zero_le _, fun k hk => absurd hk (Nat.not_lt_zero k)⟩, fun z hz => ?_, Nat.zero_le _, fun i hi => absurd hi (Nat.not_lt_zero i)⟩
  exact absurd (show none = some z from hz) (fun h => by cases h)
theorem m_end {A : mu_A} {D : mu_Dr} {t : Nat} (ok : DOK D) (f0 f : Nat → Nat → Int32) (g : Nat → Nat → Int64) (h0 : MRel A f0) (h15 : f 0 15 = nI 0) (h16 : f 0 16 = nN) (hD : MDr D t f) (ht : t ≤ 1400) (h14 : f 0 14 = nI 0) (h8 : ∀ i, f 8 i = f0 8 i) (h00 : f 0 0 = nI 0) : ∃ f', x_m_land_150 (f, g) = rI (nI 0) (f', g) ∧ MRel (newA A D) f' ∧ f' 0 0 = nI 0 ∧ ∀ p, 30 ≤ p → f' p = f p := by
  obtain ⟨lo, go, to, wo, ho, an, tn⟩ := id ok
  have l6 := lo.1
  have l8 := lo.2.1
  obtain ⟨d1, d2, d3, d4, d5, d6, d7, d8, d9, d10, d11, d12, d13⟩ := hD
  have tw := m_towns ok f g d1
  rw [e_m_land_150, m_good1 f g h15, c_I, if_neg (by decide), tw, c_I]
  obtain ⟨f1, hf1⟩ : ∃ f1, f1 = en_u1 (en_u1 (en_u1 (en_u1 (en_u1 (en_u1 f 0 1 (nI (oGd D).1)) 0 2 (f 0 28)) 0 3 (f 0 29)) 0 4 (f 0 30)) 0 5 (f 0 31)) 0 6 (f 0 32) := ⟨_, rfl⟩
  have v1 : f1 0 1 = nI (oGd D).1 := by rw [hf1]; simp (disch := omega) only [u1_ne, u1_at]
  have v2 : f1 0 2 = f 0 28 := by rw [hf1]; simp (disch := omega) only [u1_ne, u1_at]
  have v3 : f1 0 3 = f 0 29 := by rw [hf1]; simp (disch := omega) only [u1_ne, u1_at]
  have v4 : f1 0 4 = f 0 30 := by rw [hf1]; simp (disch := omega) only [u1_ne, u1_at]
  have v5 : f1 0 5 = f 0 31 := by rw [hf1]; simp (disch := omega) only [u1_ne, u1_at]
  have v6 : f1 0 6 = f 0 32 := by rw [hf1]; simp (disch := omega) only [u1_ne, u1_at]
  have F1 : ∀ p i, (p ≠ 0 ∨ i = 0 ∨ 6 < i) → f1 p i = f p i := fun p i k => by
    rw [hf1]
    simp (disch := omega) only [u1_ne]
  have F1p : ∀ p, p ≠ 0 → f1 p = f p := fun p k => funext (fun i => F1 p i (Or.inl k))
  show ∃ f', en_cV (x_m_copies_p9_1_0 (en_u1 (en_u1 (en_u1 (en_u1 (en_u1 (en_u1 f 0 1 (nI (oGd D).1)) 0 2 (f 0 28)) 0 3 (f 0 29)) 0 4 (f 0 30)) 0 5 (f 0 31)) 0 6 (f 0 32), g)) _ _ = rI (nI 0) (f', g) ∧ _
  rw [← hf1]
  obtain ⟨f2, a1, a2, a3⟩ := m_copies_9_1 f1 g
  obtain ⟨f3, b1, b2, b3⟩ := m_copies_10_2 f2 g
  obtain ⟨f4, c1, c2, c3⟩ := m_copies_11_3 f3 g
  obtain ⟨f5, e1, e2, e3⟩ := m_copies_12_4 f4 g
  obtain ⟨f6, j1, j2, j3⟩ := m_copies_13_5 f5 g
  obtain ⟨f7, k1, k2, k3⟩ := m_copies_15_6 f6 g
  obtain ⟨f8, n1, n2, n3⟩ := m_294 f7 g
  rw [a1, c_V, b1, c_V, c1, c_V, e1, c_V, j1, c_V, k1, c_V, n1]
  have Fx : ∀ p, p ≠ 18 → p ≠ 6 → p ≠ 5 → p ≠ 4 → p ≠ 3 → p ≠ 2 → p ≠ 1 → f8 p = f1 p := fun p x1 x2 x3 x4 x5 x6 x7 => by rw [n3 p x1, k3 p x2, j3 p x3, e3 p x4, c3 p x5, b3 p x6, a3 p x7]
  have G1 : ∀ i, i < 64 → f8 1 i = f 9 i := fun i hi => by rw [n3 1 (by omega), k3 1 (by omega), j3 1 (by omega), e3 1 (by omega), c3 1 (by omega), b3 1 (by omega), a2 i hi, F1p 9 (by omega)]
  have G2 : ∀ i, i < 36 → f8 2 i = f 10 i := fun i hi => by rw [n3 2 (by omega), k3 2 (by omega), j3 2 (by omega), e3 2 (by omega), c3 2 (by omega), b2 i hi, a3 10 (by omega), F1p 10 (by omega)]
  have G3 : ∀ i, i < 6 → f8 3 i = f 11 i := fun i hi => by rw [n3 3 (by omega), k3 3 (by omega), j3 3 (by omega), e3 3 (by omega), c2 i hi, b3 11 (by omega), a3 11 (by omega), F1p 11 (by omega)]
  have G4 : ∀ i, i < 8 → f8 4 i = f 12 i := fun i hi => by rw [n3 4 (by omega), k3 4 (by omega), j3 4 (by omega), e2 i hi, c3 12 (by omega), b3 12 (by omega), a3 12 (by omega), F1p 12 (by omega)]
  have G5 : ∀ i, i < 8 → f8 5 i = f 13 i := fun i hi => by rw [n3 5 (by omega), k3 5 (by omega), j2 i hi, e3 13 (by omega), c3 13 (by omega), b3 13 (by omega), a3 13 (by omega), F1p 13 (by omega)]
  have G6 : ∀ i, i < 1400 → f8 6 i = f 15 i := fun i hi => by rw [n3 6 (by omega), k2 i hi, j3 15 (by omega), e3 15 (by omega), c3 15 (by omega), b3 15 (by omega), a3 15 (by omega), F1p 15 (by omega)]
  have G18 : ∀ i, i < 29 → f8 18 i = f 14 i := fun i hi => by rw [n2 i hi, k3 14 (by omega), j3 14 (by omega), e3 14 (by omega), c3 14 (by omega), b3 14 (by omega), a3 14 (by omega), F1p 14 (by omega)]
  have G0 : ∀ i, f8 0 i = f1 0 i := fun i => by rw [Fx 0 (by omega) (by omega) (by omega) (by omega) (by omega) (by omega) (by omega)]
  have H : ∀ p i, (p ≠ 0 ∨ (i ≠ 47 ∧ i ≠ 55 ∧ i ≠ 60)) → en_u1 (en_u1 (en_u1 f8 0 47 0) 0 55 0) 0 60 0 p i = f8 p i := fun p i k => by rw [u1_ne _ _ (by omega), u1_ne _ _ (by omega), u1_ne _ _ (by omega)]
  have rl : ∀ (a : Int32) (o : Option (List Int32)), mRq f a t o → mRl (en_u1 (en_u1 (en_u1 f8 0 47 0) 0 55 0) 0 60 0) a o := by
    intro a o ho
    cases o with
    | none => exact ho
    | some l =>
      obtain ⟨k, q1, q2, q3, q4⟩ := ho
      exact ⟨k, q1, by omega, mCd_Em (fun i hi => by rw [H 6 i (by omega)]; exact G6 i hi) l k (by omega) q3 q4⟩
  refine ⟨_, rfl, ⟨⟨?_, ?_, fun p hp => ?_, fun p hp => ?_, fun x hx => ?_, fun x hx k hk => ?_, ?_, ?_⟩, ⟨?_, ?_, fun i hi => ?_, fun x y hx hy => ?_⟩, ⟨?_, fun x hx => ?_, fun x hx => ?_, fun p hp => ?_, fun p hp => ?_⟩, ⟨?_, fun k hk => absurd hk (Nat.not_lt_zero k)⟩, ⟨?_, fun k hk => absurd hk (Nat.not_lt_zero k)⟩, ?_, ⟨?_, fun k hk => absurd hk (Nat.not_lt_zero k)⟩, fun i hi => ?_, ?_⟩, ?_, fun p hp => ?_⟩
  · rw [H 0 3 (by omega), G0, v3]; exact d4
  · rw [H 0 4 (by omega), G0, v4]; exact d5
  · have hp' : p < lP (oLd D) := hp
    rw [H 4 p (by omega), G4 p (by omega)]; exact (d13 p hp).1
  · have hp' : p < lP (oLd D) := hp
    rw [H 5 p (by omega), G5 p (by omega)]; exact (d13 p hp).2.1
  · have hx' : x < lB (oLd D) := hx
    rw [H 3 x (by omega), G3 x (by omega)]; exact (d11 x hx).2.2
  · have hx' : x < lB (oLd D) := hx
    have hk' : k < lR (oLd D) x := hk
    have := (lo.2.2.1 x hx').2
    rw [H 2 _ (by omega), G2 _ (by omega)]; exact d12 x hx k hk
  · rw [H 0 5 (by omega), G0, v5]; exact rl _ _ d7
  · rw [H 0 6 (by omega), G0, v6]; exact rl _ _ d8
  · rw [H 0 1 (by omega), G0]; exact v1
  · rw [H 0 2 (by omega), G0, v2]; exact d3
  · have hi' : i < (oGd D).2.1 := hi
    have q := go.2.2.2.1 i hi'
    have g8 := go.2.1
    have r := d9.1 i hi'
    exact ⟨by rw [H 1 _ (by omega), G1 _ (by show 8 * (oGd D).2.2.1 i + (oGd D).2.2.2.1 i < 64; omega)]; exact r.1, by rw [H 1 _ (by omega), G1 _ (by show 8 * (oGd D).2.2.2.1 i + (oGd D).2.2.1 i < 64; omega)]; exact r.2⟩
  · rw [H 1 _ (by omega), G1 _ (by omega)]; exact d9.2 x y hx hy
  · rw [H 18 0 (by omega), G18 0 (by omega)]; exact d10
  · have hx' : x < lB (oLd D) := hx
    rw [H 18 _ (by omega), G18 _ (by omega), show 0 + 1 + x = 1 + x by omega]; exact (d11 x hx).1
  · have hx' : x < lB (oLd D) := hx
    rw [H 18 _ (by omega), G18 _ (by omega), show 0 + 7 + x = 7 + x by omega]; exact (d11 x hx).2.1
  · have hp' : p < lP (oLd D) := hp
    rw [H 18 _ (by omega), G18 _ (by omega), show 0 + 13 + p = 13 + p by omega]; exact (d13 p hp).2.2.1
  · have hp' : p < lP (oLd D) := hp
    rw [H 18 _ (by omega), G18 _ (by omega), show 0 + 21 + p = 21 + p by omega]; exact (d13 p hp).2.2.2
  · rw [u1_ne _ _ (by omega), u1_ne _ _ (by omega), u1_at]; rfl
  · rw [u1_ne _ _ (by omega), u1_at]; rfl
  · show en_u1 (en_u1 (en_u1 f8 0 47 0) 0 55 0) 0 60 0 0 60 = nI 0
    rw [u1_at]; rfl
  · rw [H 0 14 (by omega), G0, F1 0 14 (by omega)]; exact h14
  · rw [H 8 i (by omega), Fx 8 (by omega) (by omega) (by omega) (by omega) (by omega) (by omega) (by omega), F1p 8 (by omega), h8 i]; exact h0.2.2.2.2.2.2.2.1 i hi
  · rw [H 0 16 (by omega), G0, F1 0 16 (by omega)]; exact h16
  · rw [H 0 0 (by omega), G0, F1 0 0 (by omega)]; exact h00
  · rw [u1_p _ _ _ (by omega), u1_p _ _ _ (by omega), u1_p _ _ _ (by omega), Fx p (by omega) (by omega) (by omega) (by omega) (by omega) (by omega) (by omega), F1p p (by omega)]
