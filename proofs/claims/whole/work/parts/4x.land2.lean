/-! land: the class's end, and both -/
theorem c_cpyLand (f : Nat → Nat → Int32) (g : Nat → Nat → Int64) (h60 : f 60 0 = 0 ∨ f 60 0 = 1) (h63 : f 63 0 = 0 ∨ f 63 0 = 1) : ∃ f', x_ld_copyFrom_p34_50_0 (f, g) = rV (f', g) ∧ f' 34 0 = f 50 0 ∧ f' 34 1 = f 50 1 ∧ f' 34 5 = f 50 5 ∧ f' 34 9 = f 50 9 ∧ (∀ i, i < 14 → f' 35 i = f 51 i ∧ f' 36 i = f 52 i ∧ f' 37 i = f 53 i) ∧ (∀ i, i < 6 → f' 38 i = f 54 i ∧ f' 39 i = f 55 i) ∧ (∀ i, i < 36 → f' 40 i = f 56 i) ∧ (∀ i, i < 8 → f' 41 i = f 57 i ∧ f' 42 i = f 58 i ∧ f' 43 i = f 59 i) ∧ f' 44 0 = f 60 0 ∧ f' 44 1 = f 60 1 ∧ (∀ i, i < 700 → f' 45 i = f 61 i) ∧ f' 47 0 = f 63 0 ∧ f' 47 1 = f 63 1 ∧ (∀ i, i < 700 → f' 48 i = f 64 i) ∧ ∀ p, (p < 34 ∨ 48 < p) → f' p = f p := by
  have cp : ∀ (a b : Nat → Int32) (n i : Nat), i < n → va_cpy a b 0 0 n i = a i := fun a b n i hi => by
    show (if 0 ≤ i ∧ i < 0 + n then a (0 + (i - 0)) else b i) = a i
    rw [if_pos ⟨Nat.zero_le _, by omega⟩, Nat.zero_add, Nat.sub_zero]
  rw [e_ld_copyFrom_p34_50_0, e_ld_copyFrom_p34_50_31, e_ld_copyFrom_p34_50_46, e_ld_copyFrom_p34_50_61, e_ld_copyFrom_p34_50_84, e_ld_copyFrom_p34_50_99, e_ld_copyFrom_p34_50_114, e_ld_copyFrom_p34_50_137, e_ld_copyFrom_p34_50_152]
  dsimp only
  obtain ⟨s1, hs1⟩ : ∃ s, s = en_uf (en_u1 (en_u1 f 34 0 (f 50 0)) 34 1 (f 50 1)) 35 (va_cpy (f 51) (f 35) 0 0 14) := ⟨_, rfl⟩
  have a0 : s1 34 0 = f 50 0 := by rw [hs1, uf_ne _ _ (by omega), u1_ne _ _ (by omega), u1_at]
  have a1 : s1 34 1 = f 50 1 := by rw [hs1, uf_ne _ _ (by omega), u1_at]
  have a2 : ∀ i, i < 14 → s1 35 i = f 51 i := fun i hi => by rw [hs1, uf_at, cp _ _ _ _ hi]
  have a3 : ∀ p, p ≠ 34 → p ≠ 35 → s1 p = f p := fun p k1 k2 => by rw [hs1, uf_ne _ _ k2, u1_p _ _ _ k1, u1_p _ _ _ k1]
  rw [← hs1]
  obtain ⟨s2, hs2⟩ : ∃ s, s = en_uf s1 36 (va_cpy (s1 52) (s1 36) 0 0 14) := ⟨_, rfl⟩
  have b2 : ∀ i, i < 14 → s2 36 i = f 52 i := fun i hi => by rw [hs2, uf_at, cp _ _ _ _ hi, a3 52 (by omega) (by omega)]
  have b3 : ∀ p, p ≠ 36 → s2 p = s1 p := fun p k => by rw [hs2, uf_ne _ _ k]
  rw [← hs2]
  obtain ⟨s3, hs3⟩ : ∃ s, s = en_uf s2 37 (va_cpy (s2 53) (s2 37) 0 0 14) := ⟨_, rfl⟩
  have c2 : ∀ i, i < 14 → s3 37 i = f 53 i := fun i hi => by rw [hs3, uf_at, cp _ _ _ _ hi, b3 53 (by omega), a3 53 (by omega) (by omega)]
  have c3 : ∀ p, p ≠ 37 → s3 p = s2 p := fun p k => by rw [hs3, uf_ne _ _ k]
  rw [← hs3]
  obtain ⟨s4, hs4⟩ : ∃ s, s = en_uf (en_u1 s3 34 5 (s3 50 5)) 38 (va_cpy (s3 54) (s3 38) 0 0 6) := ⟨_, rfl⟩
  have S3 : ∀ p, 48 < p → s3 p = f p := fun p k => by rw [c3 p (by omega), b3 p (by omega), a3 p (by omega) (by omega)]
  have d5 : s4 34 5 = f 50 5 := by rw [hs4, uf_ne _ _ (by omega), u1_at, S3 50 (by omega)]
  have d2 : ∀ i, i < 6 → s4 38 i = f 54 i := fun i hi => by rw [hs4, uf_at, cp _ _ _ _ hi, S3 54 (by omega)]
  have d3 : ∀ p i, p ≠ 38 → (p ≠ 34 ∨ i ≠ 5) → s4 p i = s3 p i := fun p i k1 k2 => by rw [hs4, uf_ne _ _ k1, u1_ne _ _ (by omega)]
  have d3p : ∀ p, p ≠ 38 → p ≠ 34 → s4 p = s3 p := fun p k1 k2 => by rw [hs4, uf_ne _ _ k1, u1_p _ _ _ k2]
  rw [← hs4]
  obtain ⟨s5, hs5⟩ : ∃ s, s = en_uf s4 39 (va_cpy (s4 55) (s4 39) 0 0 6) := ⟨_, rfl⟩
  have e2 : ∀ i, i < 6 → s5 39 i = f 55 i := fun i hi => by rw [hs5, uf_at, cp _ _ _ _ hi, d3p 55 (by omega) (by omega), S3 55 (by omega)]
  have e3 : ∀ p, p ≠ 39 → s5 p = s4 p := fun p k => by rw [hs5, uf_ne _ _ k]
  rw [← hs5]
  obtain ⟨s6, hs6⟩ : ∃ s, s = en_uf s5 40 (va_cpy (s5 56) (s5 40) 0 0 36) := ⟨_, rfl⟩
  have f2 : ∀ i, i < 36 → s6 40 i = f 56 i := fun i hi => by rw [hs6, uf_at, cp _ _ _ _ hi, e3 56 (by omega), d3p 56 (by omega) (by omega), S3 56 (by omega)]
  have f3 : ∀ p, p ≠ 40 → s6 p = s5 p := fun p k => by rw [hs6, uf_ne _ _ k]
  rw [← hs6]
  have S6 : ∀ p, 48 < p → s6 p = f p := fun p k => by rw [f3 p (by omega), e3 p (by omega), d3p p (by omega) (by omega), S3 p k]
  obtain ⟨s7, hs7⟩ : ∃ s, s = en_uf (en_u1 s6 34 9 (s6 50 9)) 41 (va_cpy (s6 57) (s6 41) 0 0 8) := ⟨_, rfl⟩
  have g9 : s7 34 9 = f 50 9 := by rw [hs7, uf_ne _ _ (by omega), u1_at, S6 50 (by omega)]
  have g2 : ∀ i, i < 8 → s7 41 i = f 57 i := fun i hi => by rw [hs7, uf_at, cp _ _ _ _ hi, S6 57 (by omega)]
  have g3 : ∀ p i, p ≠ 41 → (p ≠ 34 ∨ i ≠ 9) → s7 p i = s6 p i := fun p i k1 k2 => by rw [hs7, uf_ne _ _ k1, u1_ne _ _ (by omega)]
  have g3p : ∀ p, p ≠ 41 → p ≠ 34 → s7 p = s6 p := fun p k1 k2 => by rw [hs7, uf_ne _ _ k1, u1_p _ _ _ k2]
  rw [← hs7]
  obtain ⟨s8, hs8⟩ : ∃ s, s = en_uf s7 42 (va_cpy (s7 58) (s7 42) 0 0 8) := ⟨_, rfl⟩
  have h2 : ∀ i, i < 8 → s8 42 i = f 58 i := fun i hi => by rw [hs8, uf_at, cp _ _ _ _ hi, g3p 58 (by omega) (by omega), S6 58 (by omega)]
  have h3 : ∀ p, p ≠ 42 → s8 p = s7 p := fun p k => by rw [hs8, uf_ne _ _ k]
  rw [← hs8]
  obtain ⟨s9, hs9⟩ : ∃ s, s = en_uf s8 43 (va_cpy (s8 59) (s8 43) 0 0 8) := ⟨_, rfl⟩
  have i2 : ∀ i, i < 8 → s9 43 i = f 59 i := fun i hi => by rw [hs9, uf_at, cp _ _ _ _ hi, h3 59 (by omega), g3p 59 (by omega) (by omega), S6 59 (by omega)]
  have i3 : ∀ p, p ≠ 43 → s9 p = s8 p := fun p k => by rw [hs9, uf_ne _ _ k]
  rw [← hs9]
  have S9 : ∀ p, 48 < p → s9 p = f p := fun p k => by rw [i3 p (by omega), h3 p (by omega), g3p p (by omega) (by omega), S6 p k]
  have w60 : s9 60 0 = 0 ∨ s9 60 0 = 1 := by rw [S9 60 (by omega)]; exact h60
  rw [e_ru_copyFrom_p44_60_0]
  dsimp only
  rw [if_pos w60]
  dsimp only
  rw [r_V, c_V]
  obtain ⟨s10, hs10⟩ : ∃ s, s = en_uf (en_u1 (en_u1 s9 44 0 (s9 60 0)) 44 1 (en_u1 s9 44 0 (s9 60 0) 60 1)) 45 (va_cpy (en_u1 s9 44 0 (s9 60 0) 61) (en_u1 s9 44 0 (s9 60 0) 45) 0 0 700) := ⟨_, rfl⟩
  have j0 : s10 44 0 = f 60 0 := by rw [hs10, uf_ne _ _ (by omega), u1_ne _ _ (by omega), u1_at, S9 60 (by omega)]
  have j1 : s10 44 1 = f 60 1 := by rw [hs10, uf_ne _ _ (by omega), u1_at, u1_ne _ _ (by omega), S9 60 (by omega)]
  have j2 : ∀ i, i < 700 → s10 45 i = f 61 i := fun i hi => by rw [hs10, uf_at, cp _ _ _ _ hi, u1_p _ _ _ (by omega), S9 61 (by omega)]
  have j3 : ∀ p, p ≠ 44 → p ≠ 45 → s10 p = s9 p := fun p k1 k2 => by rw [hs10, uf_ne _ _ k2, u1_p _ _ _ k1, u1_p _ _ _ k1]
  rw [← hs10]
  have w63 : s10 63 0 = 0 ∨ s10 63 0 = 1 := by rw [j3 63 (by omega) (by omega), S9 63 (by omega)]; exact h63
  rw [e_ru_copyFrom_p47_63_0]
  dsimp only
  rw [if_pos w63]
  dsimp only
  rw [r_V, c_V]
  obtain ⟨s11, hs11⟩ : ∃ s, s = en_uf (en_u1 (en_u1 s10 47 0 (s10 63 0)) 47 1 (en_u1 s10 47 0 (s10 63 0) 63 1)) 48 (va_cpy (en_u1 s10 47 0 (s10 63 0) 64) (en_u1 s10 47 0 (s10 63 0) 48) 0 0 700) := ⟨_, rfl⟩
  have S10 : ∀ p, 48 < p → s10 p = f p := fun p k => by rw [j3 p (by omega) (by omega), S9 p k]
  have k0 : s11 47 0 = f 63 0 := by rw [hs11, uf_ne _ _ (by omega), u1_ne _ _ (by omega), u1_at, S10 63 (by omega)]
  have k1 : s11 47 1 = f 63 1 := by rw [hs11, uf_ne _ _ (by omega), u1_at, u1_ne _ _ (by omega), S10 63 (by omega)]
  have k2 : ∀ i, i < 700 → s11 48 i = f 64 i := fun i hi => by rw [hs11, uf_at, cp _ _ _ _ hi, u1_p _ _ _ (by omega), S10 64 (by omega)]
  have k3 : ∀ p, p ≠ 47 → p ≠ 48 → s11 p = s10 p := fun p q1 q2 => by rw [hs11, uf_ne _ _ q2, u1_p _ _ _ q1, u1_p _ _ _ q1]
  rw [← hs11]
  have T : ∀ p, p ≠ 47 → p ≠ 48 → p ≠ 44 → p ≠ 45 → p ≠ 43 → p ≠ 42 → s11 p = s7 p := fun p x1 x2 x3 x4 x5 x6 => by rw [k3 p x1 x2, j3 p x3 x4, i3 p x5, h3 p x6]
  refine ⟨s11, rfl, ?_, ?_, ?_, ?_, fun i hi => ⟨?_, ?_, ?_⟩, fun i hi => ⟨?_, ?_⟩, fun i hi => ?_, fun i hi => ⟨?_, ?_, ?_⟩, ?_, ?_, fun i hi => ?_, k0, k1, k2, fun p hp => ?_⟩
  · rw [T 34 (by omega) (by omega) (by omega) (by omega) (by omega) (by omega), g3 34 0 (by omega) (by omega), f3 34 (by omega), e3 34 (by omega), d3 34 0 (by omega) (by omega), c3 34 (by omega), b3 34 (by omega)]; exact a0
  · rw [T 34 (by omega) (by omega) (by omega) (by omega) (by omega) (by omega), g3 34 1 (by omega) (by omega), f3 34 (by omega), e3 34 (by omega), d3 34 1 (by omega) (by omega), c3 34 (by omega), b3 34 (by omega)]; exact a1
  · rw [T 34 (by omega) (by omega) (by omega) (by omega) (by omega) (by omega), g3 34 5 (by omega) (by omega), f3 34 (by omega), e3 34 (by omega)]; exact d5
  · rw [T 34 (by omega) (by omega) (by omega) (by omega) (by omega) (by omega)]; exact g9
  · rw [T 35 (by omega) (by omega) (by omega) (by omega) (by omega) (by omega), g3p 35 (by omega) (by omega), f3 35 (by omega), e3 35 (by omega), d3p 35 (by omega) (by omega), c3 35 (by omega), b3 35 (by omega)]; exact a2 i hi
  · rw [T 36 (by omega) (by omega) (by omega) (by omega) (by omega) (by omega), g3p 36 (by omega) (by omega), f3 36 (by omega), e3 36 (by omega), d3p 36 (by omega) (by omega), c3 36 (by omega)]; exact b2 i hi
  · rw [T 37 (by omega) (by omega) (by omega) (by omega) (by omega) (by omega), g3p 37 (by omega) (by omega), f3 37 (by omega), e3 37 (by omega), d3p 37 (by omega) (by omega)]; exact c2 i hi
  · rw [T 38 (by omega) (by omega) (by omega) (by omega) (by omega) (by omega), g3p 38 (by omega) (by omega), f3 38 (by omega), e3 38 (by omega)]; exact d2 i hi
  · rw [T 39 (by omega) (by omega) (by omega) (by omega) (by omega) (by omega), g3p 39 (by omega) (by omega), f3 39 (by omega)]; exact e2 i hi
  · rw [T 40 (by omega) (by omega) (by omega) (by omega) (by omega) (by omega), g3p 40 (by omega) (by omega)]; exact f2 i hi
  · rw [T 41 (by omega) (by omega) (by omega) (by omega) (by omega) (by omega)]; exact g2 i hi
  · rw [k3 42 (by omega) (by omega), j3 42 (by omega) (by omega), i3 42 (by omega)]; exact h2 i hi
  · rw [k3 43 (by omega) (by omega), j3 43 (by omega) (by omega)]; exact i2 i hi
  · rw [k3 44 (by omega) (by omega)]; exact j0
  · rw [k3 44 (by omega) (by omega)]; exact j1
  · rw [k3 45 (by omega) (by omega)]; exact j2 i hi
  · rw [T p (by omega) (by omega) (by omega) (by omega) (by omega) (by omega), g3p p (by omega) (by omega), f3 p (by omega), e3 p (by omega), d3p p (by omega) (by omega), c3 p (by omega), b3 p (by omega), a3 p (by omega) (by omega)]
theorem c_begin (f : Nat → Nat → Int32) (g : Nat → Nat → Int64) : ∃ f', x_st_begin_p67_0 (f, g) = rV (f', g) ∧ f' 67 1 = nI 0 ∧ (∀ i, i < 6 → f' 68 i = f 38 i ∧ f' 69 i = nI 0) ∧ (∀ i, i < 8 → f' 70 i = f 43 i ∧ f' 71 i = nI 0) ∧ (∀ p, (p < 67 ∨ 71 < p) → f' p = f p) := by
  have cp : ∀ (a b : Nat → Int32) (n i : Nat), i < n → va_cpy a b 0 0 n i = a i := fun a b n i hi => by
    show (if 0 ≤ i ∧ i < 0 + n then a (0 + (i - 0)) else b i) = a i
    rw [if_pos ⟨Nat.zero_le _, by omega⟩, Nat.zero_add, Nat.sub_zero]
  rw [e_st_begin_p67_0]
  dsimp only
  obtain ⟨s1, hs1⟩ : ∃ s, s = en_uf (en_u1 f 67 1 0) 68 (va_cpy (f 38) (f 68) 0 0 6) := ⟨_, rfl⟩
  rw [← hs1]
  obtain ⟨f1, a1, a2, a3⟩ := c_fill_69 s1 g 0
  rw [a1, c_V]
  dsimp only
  obtain ⟨s2, hs2⟩ : ∃ s, s = en_uf f1 70 (va_cpy (f1 43) (f1 70) 0 0 8) := ⟨_, rfl⟩
  rw [← hs2]
  obtain ⟨f2, b1, b2, b3⟩ := c_fill_71 s2 g 0
  rw [b1, c_V]
  have F2 : ∀ p, p ≠ 71 → p ≠ 70 → p ≠ 69 → f2 p = s1 p := fun p x1 x2 x3 => by rw [b3 p x1, hs2, uf_ne _ _ x2, a3 p x3]
  refine ⟨f2, rfl, ?_, fun i hi => ⟨?_, ?_⟩, fun i hi => ⟨?_, b2 i hi⟩, fun p hp => ?_⟩
  · rw [F2 67 (by omega) (by omega) (by omega), hs1, uf_ne _ _ (by omega), u1_at]; rfl
  · rw [F2 68 (by omega) (by omega) (by omega), hs1, uf_at, cp _ _ _ _ hi]
  · rw [b3 69 (by omega), hs2, uf_ne _ _ (by omega)]; exact a2 i hi
  · rw [b3 70 (by omega), hs2, uf_at, cp _ _ _ _ hi, a3 43 (by omega), hs1, uf_ne _ _ (by omega), u1_p _ _ _ (by omega)]
  · rw [F2 p (by omega) (by omega) (by omega), hs1, uf_ne _ _ (by omega), u1_p _ _ _ (by omega)]
theorem c_end {A : mu_A} {D : mu_Dr} (ok : DOK D) (f0 f : Nat → Nat → Int32) (g : Nat → Nat → Int64) (h0 : CRel A f0) (h10 : f 66 10 = nN) (hD : CDr D f) (hF : CF f0 f) : ∃ f', en_cV (x_ld_copyFrom_p34_50_0 (en_u1 (en_u1 f 31 2 (f 66 10)) 31 1 0, g)) (fun σ3 => en_cV (x_st_begin_p67_0 σ3) (fun σ4 => some (.inl (some (.int 0)), (en_u1 (en_u1 (en_u1 σ4.1 79 0 0) 81 0 0) 31 11 0, σ4.2))) (fun e σ => some (.inr e, σ))) (fun e σ => some (.inr e, σ)) = rI (nI 0) (f', g) ∧ CRel (newA A D) f' ∧ ∀ p, p < 31 → f' p = f0 p := by
  obtain ⟨lo, go, to, wo, ho, an, tn⟩ := id ok
  have l6 := lo.1
  have l8 := lo.2.1
  obtain ⟨d1, d2, d3, d4, d5, d6, d7, d8, d9, d10, d11, d12⟩ := hD
  have q01 : ∀ q o, cRq f q o → f q 0 = 0 ∨ f q 0 = 1 := by
    intro q o ho
    cases o with
    | none => exact Or.inl ho.1
    | some l => exact Or.inr ho.1
  have E : ∀ p, p ≠ 31 → en_u1 (en_u1 f 31 2 (f 66 10)) 31 1 0 p = f p := fun p k => by rw [u1_p _ _ _ k, u1_p _ _ _ k]
  obtain ⟨f1, a1, a2, a3, a4, a5, a6, a7, a8, a9, a10, a11, a12, a13, a14, a15, a16⟩ := c_cpyLand (en_u1 (en_u1 f 31 2 (f 66 10)) 31 1 0) g (by rw [E 60 (by omega)]; exact q01 60 _ d11) (by rw [E 63 (by omega)]; exact q01 63 _ d12)
  obtain ⟨f2, b1, b2, b3, b4, b5⟩ := c_begin f1 g
  rw [a1, c_V, b1, c_V]
  have H : ∀ p i, (p ≠ 79 ∨ i ≠ 0) → (p ≠ 81 ∨ i ≠ 0) → (p ≠ 31 ∨ i ≠ 11) → en_u1 (en_u1 (en_u1 f2 79 0 0) 81 0 0) 31 11 0 p i = f2 p i := fun p i k1 k2 k3 => by rw [u1_ne _ _ (by omega), u1_ne _ _ (by omega), u1_ne _ _ (by omega)]
  have L : ∀ p, 34 ≤ p → p ≤ 48 → f2 p = f1 p := fun p k1 k2 => b5 p (by omega)
  have rl : ∀ q o, (q = 60 ∧ (∀ i, i < 700 → f1 45 i = f 61 i) ∨ q = 63 ∧ (∀ i, i < 700 → f1 48 i = f 64 i)) → f1 (q - 16) 0 = f q 0 → f1 (q - 16) 1 = f q 1 → cRq f q o → cRl (en_u1 (en_u1 (en_u1 f2 79 0 0) 81 0 0) 31 11 0) (q - 16) o := by
    intro q o hq e0 e1 ho
    have hq' : q = 60 ∨ q = 63 := by rcases hq with ⟨h, _⟩ | ⟨h, _⟩ <;> omega
    cases o with
    | none =>
      show en_u1 (en_u1 (en_u1 f2 79 0 0) 81 0 0) 31 11 0 (q - 16) 0 = nI 0
      rw [H _ 0 (by omega) (by omega) (by omega), L _ (by omega) (by omega), e0]; exact ho.1
    | some l =>
      obtain ⟨k1, k2, k3, k4⟩ := ho
      refine ⟨by rw [H _ 0 (by omega) (by omega) (by omega), L _ (by omega) (by omega), e0]; exact k1, by rw [H _ 1 (by omega) (by omega) (by omega), L _ (by omega) (by omega), e1]; exact k2, k3, fun i hi => ?_⟩
      rw [H _ i (by omega) (by omega) (by omega), L _ (by omega) (by omega)]
      rcases hq with ⟨h, hh⟩ | ⟨h, hh⟩
      · subst h
        have := hh i (by omega)
        show f1 45 i = _
        rw [this]; exact k4 i hi
      · subst h
        have := hh i (by omega)
        show f1 48 i = _
        rw [this]; exact k4 i hi
  refine ⟨_, rfl, ⟨⟨?_, ?_, fun p hp => ?_, fun p hp => ?_, fun x hx => ?_, fun x hx k hk => ?_, ?_, ?_⟩, ⟨?_, ?_, fun i hi => ?_⟩, ⟨?_, fun x hx => ?_, fun x hx => ?_, fun p hp => ?_, fun p hp => ?_⟩, ⟨?_, fun k hk => absurd hk (Nat.not_lt_zero k)⟩, ⟨?_, fun k hk => absurd hk (Nat.not_lt_zero k)⟩, ?_, ⟨?_, fun k hk => absurd hk (Nat.not_lt_zero k)⟩, fun i hi => ?_, ?_⟩, fun p hp => funext (fun i => ?_)⟩
  · rw [H 34 5 (by omega) (by omega) (by omega), L 34 (by omega) (by omega), a4, E 50 (by omega)]; exact d6
  · rw [H 34 9 (by omega) (by omega) (by omega), L 34 (by omega) (by omega), a5, E 50 (by omega)]; exact d7
  · have hp' : p < lP (oLd D) := hp
    rw [H 41 p (by omega) (by omega) (by omega), L 41 (by omega) (by omega), (a9 p (by omega)).1, E 57 (by omega)]; exact (d10 p hp).1
  · have hp' : p < lP (oLd D) := hp
    rw [H 42 p (by omega) (by omega) (by omega), L 42 (by omega) (by omega), (a9 p (by omega)).2.1, E 58 (by omega)]; exact (d10 p hp).2.1
  · have hx' : x < lB (oLd D) := hx
    rw [H 39 x (by omega) (by omega) (by omega), L 39 (by omega) (by omega), (a7 x (by omega)).2, E 55 (by omega)]; exact (d8 x hx).2
  · have hx' : x < lB (oLd D) := hx
    have hk' : k < lR (oLd D) x := hk
    have := (lo.2.2.1 x hx').2
    rw [H 40 _ (by omega) (by omega) (by omega), L 40 (by omega) (by omega), a8 _ (by omega), E 56 (by omega)]; exact d9 x hx k hk
  · exact rl 60 _ (Or.inl ⟨rfl, fun i hi => by rw [a12 i hi, E 61 (by omega)]⟩) (by rw [← E 60 (by omega)]; exact a10) (by rw [← E 60 (by omega)]; exact a11) d11
  · exact rl 63 _ (Or.inr ⟨rfl, fun i hi => by rw [a15 i hi, E 64 (by omega)]⟩) (by rw [← E 63 (by omega)]; exact a13) (by rw [← E 63 (by omega)]; exact a14) d12
  · rw [H 34 0 (by omega) (by omega) (by omega), L 34 (by omega) (by omega), a2, E 50 (by omega)]; exact d3
  · rw [H 34 1 (by omega) (by omega) (by omega), L 34 (by omega) (by omega), a3, E 50 (by omega)]; exact d4
  · have hi' : i < (oGd D).2.1 := hi
    have g14 := go.2.2.1
    have r := a6 i (by omega)
    rw [H 35 i (by omega) (by omega) (by omega), H 36 i (by omega) (by omega) (by omega), H 37 i (by omega) (by omega) (by omega), L 35 (by omega) (by omega), L 36 (by omega) (by omega), L 37 (by omega) (by omega), r.1, r.2.1, r.2.2, E 51 (by omega), E 52 (by omega), E 53 (by omega)]; exact d5 i hi'
  · rw [H 67 1 (by omega) (by omega) (by omega)]; exact b2
  · have hx' : x < lB (oLd D) := hx
    show en_u1 (en_u1 (en_u1 f2 79 0 0) 81 0 0) 31 11 0 68 x = oWt D x
    rw [H 68 x (by omega) (by omega) (by omega), (b3 x (by omega)).1, (a7 x (by omega)).1, E 54 (by omega)]; exact (d8 x hx).1
  · have hx' : x < lB (oLd D) := hx
    show en_u1 (en_u1 (en_u1 f2 79 0 0) 81 0 0) 31 11 0 69 x = nI 0
    rw [H 69 x (by omega) (by omega) (by omega)]; exact (b3 x (by omega)).2
  · have hp' : p < lP (oLd D) := hp
    show en_u1 (en_u1 (en_u1 f2 79 0 0) 81 0 0) 31 11 0 70 p = oHd D p
    rw [H 70 p (by omega) (by omega) (by omega), (b4 p (by omega)).1, (a9 p (by omega)).2.2, E 59 (by omega)]; exact (d10 p hp).2.2
  · have hp' : p < lP (oLd D) := hp
    show en_u1 (en_u1 (en_u1 f2 79 0 0) 81 0 0) 31 11 0 71 p = nI 0
    rw [H 71 p (by omega) (by omega) (by omega)]; exact (b4 p (by omega)).2
  · rw [u1_ne _ _ (by omega), u1_ne _ _ (by omega), u1_at]; rfl
  · rw [u1_ne _ _ (by omega), u1_at]; rfl
  · show en_u1 (en_u1 (en_u1 f2 79 0 0) 81 0 0) 31 11 0 31 11 = nI 0
    rw [u1_at]; rfl
  · rw [H 31 1 (by omega) (by omega) (by omega), b5 31 (by omega), a16 31 (by omega), u1_at]; rfl
  · rw [H 33 i (by omega) (by omega) (by omega), b5 33 (by omega), a16 33 (by omega), E 33 (by omega), hF 33 i (by omega)]; exact h0.2.2.2.2.2.2.2.1 i hi
  · rw [H 31 2 (by omega) (by omega) (by omega), b5 31 (by omega), a16 31 (by omega), u1_ne _ _ (by omega), u1_at]; exact h10
  · rw [H p i (by omega) (by omega) (by omega), b5 p (by omega), a16 p (by omega), E p (by omega), hF p i (by omega)]
