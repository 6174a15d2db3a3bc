/-! the whole text -/
theorem m_249B (f : Nat → Nat → Int32) (g : Nat → Nat → Int64) {k : Nat} (hk : 1 ≤ k ∧ k ≤ 5) (h15 : f 0 15 = nI k) : x_m_line_249 (f, g) = rV (f, g) := by
  have is : ∃ r, x_m_isSign_0 (f, g) 59 = rI r (f, g) := by
    rw [e_m_isSign_0]
    split
    · split
      · exact ⟨_, rfl⟩
      · exact ⟨_, rfl⟩
    · exact ⟨_, rfl⟩
  obtain ⟨r, hr⟩ := is
  rw [e_m_line_249, hr, c_I, e_m_need_0, m_good0 f g hk h15, c_I, if_pos (by decide)]
  rfl
/-- a line with its end -/
theorem ln_step {X : mu_X} (xo : XOK X) {c : Nat} {D : mu_Dr} (ok : DOK D) (hc : c ≤ X.1) : ∃ o, POk X c o ∧ (∀ f g, CS X c D f → ∃ f', en_cV (x_rd_readLine_0 (f, g)) (fun σ1 => x_rd_readSign_0 σ1 59) (fun e σ => some (.inr e, σ)) = rV (f', g) ∧ PC X o f f') ∧ ∀ f g t, MS X c D t f g → ∃ f' g', x_m_line_0 (f, g) = rV (f', g') ∧ PM X o f g f' g' := by
  obtain ⟨o1, ok1, cl1, mo1⟩ := ln_any xo ok hc
  cases o1 with
  | inr z =>
    refine ⟨.inr z, ok1, fun f g h => ?_, fun f g t h => ?_⟩
    · obtain ⟨f1, a1, a2⟩ := cl1 f g h
      exact ⟨f1, by rw [a1, c_V, c_sign9 f1 g (CFt_9 a2 ok1.1)], a2⟩
    · obtain ⟨f1, g1, a1, a2⟩ := mo1 f g t h
      exact ⟨f1, g1, by rw [a1, m_249B f1 g1 ok1.1 a2.1], a2⟩
  | inl z =>
    obtain ⟨c1, D1⟩ := z
    obtain ⟨q1, q2, q3⟩ := ok1
    have q1' : c1 ≤ X.1 := q1
    have q2' : c < c1 := q2
    have q3' : DOK D1 := q3
    cases s : sg X c1 59 with
    | true =>
      have k3 := (sg_kW s).2.1
      have cg := tE_c' (X := X) (c := c1) (by omega)
      refine ⟨.inl (tE X c1, D1), ⟨tE_le q1, by show c < tE X c1; omega, q3⟩, fun f g h => ?_, fun f g t h => ?_⟩
      · obtain ⟨f1, a1, a2, a3⟩ := cl1 f g h
        have a2' : CS X c1 D1 f1 := a2
        obtain ⟨f2, b1, b2, b3⟩ := (c_sign xo f1 g q1 a2'.1 a2'.2.1 (v := 59) (by omega)).1 s
        exact ⟨f2, by rw [a1, c_V]; exact b1, CS_CN q3'.1 a2' b2 b3, CF_trans a3 (CF_CN b3)⟩
      · obtain ⟨f1, g1, a1, ⟨t1, a2⟩, a3, a4⟩ := mo1 f g t h
        have a2' : MS X c1 D1 t1 f1 g1 := a2
        obtain ⟨f2, g2, b1, b2, b3, b4⟩ := MS_go xo q3'.1 q1 f1 g1 a2'
        refine ⟨f2, g2, ?_, ⟨t1, b2⟩, MF_trans a3 (MF_MN b3), fun q hq => (b4 q hq).trans (a4 q hq)⟩
        rw [a1, e_m_line_249, show x_m_isSign_0 (f1, g1) 59 = _ from m_isSign xo f1 g1 a2'.1 (v := 59) (by omega), c_I, e_m_need_0, m_good1 f1 g1 a2'.2.1, c_I, if_neg (by decide), if_neg (tb_y s), b1, c_V]
        rfl
    | false =>
      refine ⟨.inr (1, tS X c1), ⟨by show 1 ≤ 1 ∧ 1 ≤ 5; omega, tS7 xo q1⟩, fun f g h => ?_, fun f g t h => ?_⟩
      · obtain ⟨f1, a1, a2, a3⟩ := cl1 f g h
        have a2' : CS X c1 D1 f1 := a2
        have b1 := (c_sign xo f1 g q1 a2'.1 a2'.2.1 (v := 59) (by omega)).2 s
        exact ⟨_, by rw [a1, c_V]; exact b1, CFt_of (CFt_ref (k := 1) a2'.1) a3⟩
      · obtain ⟨f1, g1, a1, ⟨t1, a2⟩, a3, a4⟩ := mo1 f g t h
        have a2' : MS X c1 D1 t1 f1 g1 := a2
        refine ⟨_, _, ?_, MFt_of (MFt_wr (k := 1) a2'.1) a3 a4⟩
        rw [a1, e_m_line_249, show x_m_isSign_0 (f1, g1) 59 = _ from m_isSign xo f1 g1 a2'.1 (v := 59) (by omega), c_I, e_m_need_0, m_good1 f1 g1 a2'.2.1, c_I, if_neg (by decide), if_pos (tb_n s), show x_m_wrong_0 (f1, g1) 1 = _ from m_wrong f1 g1 a2'.2.1 (nI 1), c_V]
        rfl
/-- all lines -/
theorem ln_all {X : mu_X} (xo : XOK X) : ∀ n c D, X.1 - c ≤ n → c ≤ X.1 → DOK D → ∃ o : mu_Dr ⊕ (Nat × Nat), (match o with
      | .inl D' => DOK D'
      | .inr z => (1 ≤ z.1 ∧ z.1 ≤ 5) ∧ z.2 ≤ 700) ∧
    (∀ f g i, CS X c D f → i ≤ c → match o with
      | .inl D' => ∃ f', x_rd_readText_51 (f, g) (nI i) = rI (nI 0) (f', g) ∧ f' 66 10 = nN ∧ CDr D' f' ∧ CF f f'
      | .inr z => ∃ f', x_rd_readText_51 (f, g) (nI i) = rI (nI z.1) (f', g) ∧ f' 66 10 = nI z.2 ∧ CF f f') ∧
    (∀ f g t, MS X c D t f g → match o with
      | .inl D' => ∃ f' g' t', x_m_land_129 (f, g) = x_m_land_150 (f', g') ∧ f' 0 15 = nI 0 ∧ f' 0 16 = nN ∧ MDr D' t' f' ∧ t' ≤ 1400 ∧ MF f f' ∧ ∀ q, q ≠ 0 → g' q = g q
      | .inr z => ∃ f' g', x_m_land_129 (f, g) = x_m_land_150 (f', g') ∧ MFt z.1 z.2 f g f' g') := by
  have n7 := xo.1
  have ende : ∀ c D, c ≤ X.1 → DOK D → tK X c = 0 → ∃ o : mu_Dr ⊕ (Nat × Nat), (match o with
      | .inl D' => DOK D'
      | .inr z => (1 ≤ z.1 ∧ z.1 ≤ 5) ∧ z.2 ≤ 700) ∧
    (∀ f g i, CS X c D f → i ≤ c → match o with
      | .inl D' => ∃ f', x_rd_readText_51 (f, g) (nI i) = rI (nI 0) (f', g) ∧ f' 66 10 = nN ∧ CDr D' f' ∧ CF f f'
      | .inr z => ∃ f', x_rd_readText_51 (f, g) (nI i) = rI (nI z.1) (f', g) ∧ f' 66 10 = nI z.2 ∧ CF f f') ∧
    (∀ f g t, MS X c D t f g → match o with
      | .inl D' => ∃ f' g' t', x_m_land_129 (f, g) = x_m_land_150 (f', g') ∧ f' 0 15 = nI 0 ∧ f' 0 16 = nN ∧ MDr D' t' f' ∧ t' ≤ 1400 ∧ MF f f' ∧ ∀ q, q ≠ 0 → g' q = g q
      | .inr z => ∃ f' g', x_m_land_129 (f, g) = x_m_land_150 (f', g') ∧ MFt z.1 z.2 f g f' g') := by
    intro c D hc ok k0
    refine ⟨.inl D, ok, fun f g i h hi => ⟨f, ?_, h.2.2.1, h.2.2.2, CF_refl f⟩, fun f g t h => ⟨f, g, t, ?_, h.2.1, h.2.2.1, h.2.2.2.1, by have := h.2.2.2.2; omega, MF_refl f, fun _ _ => rfl⟩⟩
    · rw [e_rd_readText_51]
      have h9 : f 66 9 = nI 0 := h.2.1
      have fin : (some (.inl (some (.int (f 66 9))), (f, g)) : Option en_O) = rI (nI 0) (f, g) := by rw [h9]; rfl
      by_cases c7 : (700 : Int32) ≤ nI i
      · rw [if_pos c7]; exact fin
      · rw [if_neg c7, if_pos (show f 66 9 = 0 from h9), if_pos (show f 66 5 = 0 by rw [h.1.2.2.2.1, k0]; rfl)]; exact fin
    · rw [e_m_land_129, m_good1 f g h.2.1, c_I, if_neg (by decide), if_pos (show f 0 20 = 0 by rw [h.1.2.2.1, k0]; rfl)]
  intro n
  induction n with
  | zero =>
    intro c D hn hc ok
    refine ende c D hc ok ?_
    have := tS_ge X c
    exact (tK_0 X c).mpr (by omega)
  | succ n ih =>
    intro c D hn hc ok
    by_cases k0 : tK X c = 0
    · exact ende c D hc ok k0
    · have hs := tK_pos k0
      have sge := tS_ge X c
      have k4 := tK_4 X c
      obtain ⟨o1, ok1, cl1, mo1⟩ := ln_step xo ok hc
      have cC : ∀ f g i, CS X c D f → i ≤ c → ∃ f1, x_rd_readText_51 (f, g) (nI i) = x_rd_readText_51 (f1, g) (nI (i + 1)) ∧ PC X o1 f f1 := by
        intro f g i h hi
        obtain ⟨f1, a1, a2⟩ := cl1 f g h
        refine ⟨f1, ?_, a2⟩
        rw [e_rd_readText_51, if_neg (show ¬ (700 : Int32) ≤ nI i by rw [q_700]; exact nI_ge (by omega) (by omega)), if_pos (show f 66 9 = 0 from h.2.1), if_neg (show ¬ f 66 5 = 0 by rw [h.1.2.2.2.1]; exact nI_ne0 (by omega) (by omega))]
        cases hL : x_rd_readLine_0 (f, g) with
        | none => rw [hL] at a1; cases a1
        | some w =>
          rw [hL] at a1
          obtain ⟨v | e, σ⟩ := w
          · cases v with
            | some v => cases a1
            | none =>
              have a1' : x_rd_readSign_0 σ 59 = rV (f1, g) := a1
              show en_cV (x_rd_readSign_0 σ 59) _ _ = _
              rw [a1', c_V, nI_1]
          · cases a1
      have mM : ∀ f g t, MS X c D t f g → ∃ f1 g1, x_m_land_129 (f, g) = x_m_land_129 (f1, g1) ∧ PM X o1 f g f1 g1 := by
        intro f g t h
        obtain ⟨f1, g1, a1, a2⟩ := mo1 f g t h
        refine ⟨f1, g1, ?_, a2⟩
        rw [e_m_land_129, m_good1 f g h.2.1, c_I, if_neg (by decide), if_neg (show ¬ f 0 20 = 0 by rw [h.1.2.2.1]; exact nI_ne0 (by omega) (by omega)), a1, c_V]
      cases o1 with
      | inr z =>
        refine ⟨.inr z, ok1, fun f g i h hi => ?_, fun f g t h => ?_⟩
        · obtain ⟨f1, a1, a2⟩ := cC f g i h hi
          have a2' : CFt z.1 z.2 f f1 := a2
          refine ⟨f1, ?_, a2'.2.1, a2'.2.2⟩
          have fin : (some (.inl (some (.int (f1 66 9))), (f1, g)) : Option en_O) = rI (nI z.1) (f1, g) := by rw [a2'.1]; rfl
          rw [a1, e_rd_readText_51]
          by_cases c7 : (700 : Int32) ≤ nI (i + 1)
          · rw [if_pos c7]; exact fin
          · rw [if_neg c7, if_neg (show ¬ f1 66 9 = 0 from CFt_9 a2' ok1.1)]; exact fin
        · obtain ⟨f1, g1, a1, a2⟩ := mM f g t h
          have a2' : MFt z.1 z.2 f g f1 g1 := a2
          refine ⟨f1, g1, ?_, a2'⟩
          rw [a1, e_m_land_129, m_good0 f1 g1 ok1.1 a2'.1, c_I, if_pos (by decide)]
      | inl z =>
        obtain ⟨c1, D1⟩ := z
        obtain ⟨q1, q2, q3⟩ := ok1
        have q1' : c1 ≤ X.1 := q1
        have q2' : c < c1 := q2
        obtain ⟨o2, ok2, cl2, mo2⟩ := ih c1 D1 (by omega) q1 q3
        refine ⟨o2, ok2, fun f g i h hi => ?_, fun f g t h => ?_⟩
        · obtain ⟨f1, a1, a2, a3⟩ := cC f g i h hi
          have r := cl2 f1 g (i + 1) a2 (by omega)
          cases o2 with
          | inl D' =>
            obtain ⟨f2, b1, b2, b3, b4⟩ := r
            exact ⟨f2, a1.trans b1, b2, b3, CF_trans a3 b4⟩
          | inr z =>
            obtain ⟨f2, b1, b2, b3⟩ := r
            exact ⟨f2, a1.trans b1, b2, CF_trans a3 b3⟩
        · obtain ⟨f1, g1, a1, ⟨t1, a2⟩, a3, a4⟩ := mM f g t h
          have r := mo2 f1 g1 t1 a2
          cases o2 with
          | inl D' =>
            obtain ⟨f2, g2, t2, b1, b2, b3, b4, b5, b6, b7⟩ := r
            exact ⟨f2, g2, t2, a1.trans b1, b2, b3, b4, b5, MF_trans a3 b6, fun q hq => (b7 q hq).trans (a4 q hq)⟩
          | inr z =>
            obtain ⟨f2, g2, b1, b2⟩ := r
            exact ⟨f2, g2, a1.trans b1, MFt_of b2 a3 a4⟩
