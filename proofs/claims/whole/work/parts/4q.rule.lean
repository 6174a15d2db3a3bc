/-! written by q12.py: the lines of rules -/
theorem CDr_60 {D : mu_Dr} {f : Nat → Nat → Int32} (h : CDr D f) : cRq f 60 (lK (oLd D)) := h.2.2.2.2.2.2.2.2.2.2.1
theorem CDr_63 {D : mu_Dr} {f : Nat → Nat → Int32} (h : CDr D f) : cRq f 63 (lF (oLd D)) := h.2.2.2.2.2.2.2.2.2.2.2
theorem MDr_31 {D : mu_Dr} {t : Nat} {f : Nat → Nat → Int32} (h : MDr D t f) : mRq f (f 0 31) t (lK (oLd D)) := h.2.2.2.2.2.2.1
theorem MDr_32 {D : mu_Dr} {t : Nat} {f : Nat → Nat → Int32} (h : MDr D t f) : mRq f (f 0 32) t (lF (oLd D)) := h.2.2.2.2.2.2.2.1
/-- talk -/
theorem ln_talk {X : mu_X} (xo : XOK X) {c : Nat} {D : mu_Dr} (ok : DOK D) (hc : c ≤ X.1) (hk : kW X c = 12) : Pl X c D := by
  have n7 := xo.1
  obtain ⟨lo, go, to, wo, ho, an, tn⟩ := id ok
  have k1 := kW_1 (X := X) (c := c) (by omega)
  have kl := kW_len (X := X) (c := c) (by omega)
  have sge := tS_ge X c
  have eg := tE_ge X c
  have cg : c + 4 ≤ tE X c := by
    rw [hk] at kl
    have : (wl 12).length = 4 := rfl
    unfold tLn at kl
    omega
  have ce := tE_le hc
  have cls : ∀ f g, CS X c D f → x_rd_readLine_0 (f, g) = en_cV (x_rd_readRule_p60_0 (f, g)) (fun σ => some (.inl none, σ)) (fun e σ => some (.inr e, σ)) := fun f g h => by rw [c_line xo f g h.1, hk]; rfl
  cases hq : lK (oLd D) with
  | some l0 =>
    refine ⟨.inr (5, tS X c), ⟨by show 1 ≤ 5 ∧ 5 ≤ 5; omega, tS7 xo hc⟩, fun f g h => ?_, fun f g t h => ?_⟩
    · refine ⟨_, ?_, CFt_ref (k := 5) h.1⟩
      have h11 := CDr_60 h.2.2.2
      rw [hq] at h11
      rw [cls f g h]
      refine cV_id ?_
      rw [e_rd_readRule_p60_0, if_neg (show ¬ f 60 0 = 0 by rw [h11.1]; decide)]
      exact cV_id (c_rdRefuse f g (nI 5))
    · refine ⟨_, _, ?_, MFt_wr (k := 5) h.1⟩
      have h7 := MDr_31 h.2.2.2.1
      rw [hq] at h7
      obtain ⟨k, e1, e2, _⟩ := h7
      have h5 := h.2.2.2.2
      have hne : ¬ nI k = nN := by rw [q_nNe (by omega)]; exact id
      rw [e_m_line_0, m_known xo f g h.1 hc, c_I, hk, if_neg (by decide), if_neg (by decide), if_neg (by decide), if_neg (by decide), if_pos (by decide), if_neg (show ¬ f 0 31 = -1 by rw [e1]; exact hne), m_beg5 f g h.2.1, c_I, if_pos rfl]
  | none =>
    obtain ⟨o, oo, cl, mo⟩ := yE0_E xo (tE X c) ce
    have cls2 : ∀ f g, CS X c D f → ∃ f1, x_rd_readRule_p60_0 (f, g) = en_cV (x_rd_readExpr_0_p60_0 (f1, g) 0) (fun σ => some (.inl none, σ)) (fun e σ => some (.inr e, σ)) ∧ CT X (tE X c) f1 ∧ f1 66 9 = nI 0 ∧ f1 66 10 = nN ∧ f1 60 0 = nI 1 ∧ f1 60 1 = nI 0 ∧ (∀ p i, (p ≠ 66 ∨ i < 3 ∨ 6 < i) → (p ≠ 60 ∨ i ≠ 0) → f1 p i = f p i) := by
      intro f g h
      have h11 := CDr_60 h.2.2.2
      rw [hq] at h11
      have hT1 : CT X c (en_u1 f 60 0 1) := CT_of h.1 (fun i _ _ => u1_ne _ _ (by omega)) (fun i => u1_ne _ _ (by omega))
      obtain ⟨f1, a1, a2, a3⟩ := c_next xo (en_u1 f 60 0 1) g ce hT1.1 hT1.2.2.1
      refine ⟨f1, ?_, a2, ?_, ?_, ?_, ?_, fun p i k1 k2 => by rw [a3 p i k1, u1_ne _ _ (by omega)]⟩
      · rw [e_rd_readRule_p60_0, if_pos (show f 60 0 = 0 by rw [h11.1]; decide), a1, c_V]
      · rw [a3 66 9 (by omega), u1_ne _ _ (by omega)]; exact h.2.1
      · rw [a3 66 10 (by omega), u1_ne _ _ (by omega)]; exact h.2.2.1
      · rw [a3 60 0 (by omega), u1_at]; rfl
      · rw [a3 60 1 (by omega), u1_ne _ _ (by omega)]; exact h11.2
    have mod2 : ∀ f g t, MS X c D t f g → ∃ f1 g1, x_m_line_0 (f, g) = en_cV (x_m_expression_0 (en_u1 f1 0 31 (nI t), g1)) (fun σ31 => x_m_line_249 σ31) (fun e σ => some (.inr e, σ)) ∧ MS X (tE X c) D t f1 g1 ∧ MN f f1 ∧ ∀ q, q ≠ 0 → g1 q = g q := by
      intro f g t h
      have h7 := MDr_31 h.2.2.2.1
      rw [hq] at h7
      obtain ⟨f1, g1, a1, a2, a3, a4⟩ := m_begY xo lo hc f g h
      refine ⟨f1, g1, ?_, a2, a3, a4⟩
      have h33 : f1 0 33 = nI t := a2.2.2.2.1.2.2.2.2.2.1
      rw [e_m_line_0, m_known xo f g h.1 hc, c_I, hk, if_neg (by decide), if_neg (by decide), if_neg (by decide), if_neg (by decide), if_pos (by decide), if_pos (show f 0 31 = -1 from h7), a1, c_I, if_neg i10]
      show en_cV (x_m_expression_0 (en_u1 f1 0 31 (f1 0 33), g1)) _ _ = _
      rw [h33]
    have M1 : ∀ f1 g1 t, MS X (tE X c) D t f1 g1 → MT X (tE X c) (en_u1 f1 0 31 (nI t)) g1 := fun f1 g1 t h => MT_of h.1 (fun i _ _ => u1_ne _ _ (by omega)) (fun i => u1_ne _ _ (by omega))
    cases o with
    | inr z =>
      refine ⟨.inr z, oo, fun f g h => ?_, fun f g t h => ?_⟩
      · obtain ⟨f1, a1, a2, a3, a4, a5, a6, a7⟩ := cls2 f g h
        obtain ⟨f2, b1, b2⟩ := cl 60 (by unfold rR; omega) f1 g 0 a2 a3 a6 (Nat.zero_le _)
        refine ⟨f2, ?_, ⟨b2.2.1, b2.2.2.1, fun p i k => by rw [b2.2.2.2.2 p i (by omega) (by omega) (by omega), a7 p i (by omega) (by omega)]⟩⟩
        rw [cls f g h]
        refine cV_id ?_
        rw [a1]
        exact cV_id b1
      · obtain ⟨f1, g1, a1, a2, a3, a4⟩ := mod2 f g t h
        have h5 := h.2.2.2.2
        have r := m_expr xo ce oo (en_u1 f1 0 31 (nI t)) g1 (M1 f1 g1 t a2) (by rw [u1_ne _ _ (by omega)]; exact a2.2.1) (t := t) (by rw [u1_ne _ _ (by omega)]; exact a2.2.2.2.1.2.2.2.2.2.1) (by omega) mo
        obtain ⟨f2, g2, b1, b2, b3, b4, b5⟩ := r
        refine ⟨f2, g2, ?_, ⟨b2, b3, MF_trans (MF_MN a3) (MF_trans (MF_u0 _ _ (by omega)) (MF_MX b4)), fun q hq => (b5 q hq).trans (a4 q hq)⟩⟩
        rw [a1, b1, c_V]
    | inl z =>
      obtain ⟨c1, l⟩ := z
      have oo' := oo
      obtain ⟨oo1, oo2, oo3, oo4⟩ := oo
      have oo1' : c1 ≤ X.1 := oo1
      have oo2' : l.length + tE X c ≤ c1 := oo2
      refine ⟨.inl (c1, (oTo D, oAn D, ((oLd D).1, (oLd D).2.1, (oLd D).2.2.1, (oLd D).2.2.2.1, (oLd D).2.2.2.2.1, (oLd D).2.2.2.2.2.1, some l, (oLd D).2.2.2.2.2.2.2), oGd D, oWt D, oHd D)), ⟨oo1, by show c < c1; omega, ?_⟩, fun f g h => ?_, fun f g t h => ?_⟩
      · have dp : sDp l 0 := by
          have := oo3 [] 0 (by omega) rfl
          rw [List.append_nil] at this
          exact this
        exact ⟨⟨lo.1, lo.2.1, lo.2.2.1, lo.2.2.2.1, dp, lo.2.2.2.2.2⟩, go, to, wo, ho, an, tn⟩
      · obtain ⟨f1, a1, a2, a3, a4, a5, a6, a7⟩ := cls2 f g h
        obtain ⟨f2, b1, b2⟩ := cl 60 (by unfold rR; omega) f1 g 0 a2 a3 a6 (Nat.zero_le _)
        obtain ⟨d1, d2, d3, d4, d5, d6, d7⟩ := b2
        have F : ∀ p i, (p ≠ 66 ∨ i = 7 ∨ i = 8) → p ≠ 60 → p ≠ 61 → f2 p i = f p i := fun p i k1 k2 k3 => by rw [d7 p i (by omega) (by omega) k3, a7 p i (by omega) (by omega)]
        obtain ⟨h1, h2, h3, h4, h5, h6, h7, h8, h9, h10, h11, h12⟩ := h.2.2.2
        have rule : cRq f2 60 (some l) := by
          refine ⟨by rw [d7 60 0 (by omega) (by omega) (by omega)]; exact a5, by rw [d4]; show nI (0 + l.length) = nI l.length; rw [Nat.zero_add], by omega, fun i hi => ?_⟩
          have := Sto_get l 0 d5 i hi
          rw [Nat.zero_add] at this
          exact this
        refine ⟨f2, ?_, ⟨d1, d2, by rw [d3]; exact a4, ?_, ?_, ?_, ?_, fun i hi => ?_, ?_, ?_, fun x hx => ?_, fun x hx k hk => ?_, fun p hp => ?_, rule, cRq_of (fun p i a => F p i (by omega) (by omega) (by omega)) _ h12⟩, fun p i k => F p i (by omega) (by omega) (by omega)⟩
        · rw [cls f g h]
          refine cV_id ?_
          rw [a1]
          exact cV_id b1
        · rw [F 66 7 (by omega) (by omega) (by omega)]; exact h1
        · rw [F 66 8 (by omega) (by omega) (by omega)]; exact h2
        · rw [F 50 0 (by omega) (by omega) (by omega)]; exact h3
        · rw [F 50 1 (by omega) (by omega) (by omega)]; exact h4
        · rw [F 51 i (by omega) (by omega) (by omega), F 52 i (by omega) (by omega) (by omega), F 53 i (by omega) (by omega) (by omega)]; exact h5 i hi
        · rw [F 50 5 (by omega) (by omega) (by omega)]; exact h6
        · rw [F 50 9 (by omega) (by omega) (by omega)]; exact h7
        · rw [F 54 x (by omega) (by omega) (by omega), F 55 x (by omega) (by omega) (by omega)]; exact h8 x hx
        · rw [F 56 _ (by omega) (by omega) (by omega)]; exact h9 x hx k hk
        · rw [F 57 p (by omega) (by omega) (by omega), F 58 p (by omega) (by omega) (by omega), F 59 p (by omega) (by omega) (by omega)]; exact h10 p hp
      · obtain ⟨f1, g1, a1, a2, a3, a4⟩ := mod2 f g t h
        have h5t := h.2.2.2.2
        have r := m_expr xo ce oo' (en_u1 f1 0 31 (nI t)) g1 (M1 f1 g1 t a2) (by rw [u1_ne _ _ (by omega)]; exact a2.2.1) (t := t) (by rw [u1_ne _ _ (by omega)]; exact a2.2.2.2.1.2.2.2.2.2.1) (by omega) mo
        obtain ⟨f2, g2, b1, b2, b3, b4, b5, b6, b7, b8, b9, b10, b11⟩ := r
        have b5' : Em f2 t l := b5
        have b6' : f2 15 (t + eL l) = nI 0 := b6
        have b4' : f2 0 33 = nI (t + eL l + 1) := b4
        have F : ∀ p i, (p ≠ 0 ∨ (26 ≤ i ∧ i ≤ 32 ∧ i ≠ 31)) → p ≠ 15 → p ≠ 16 → p ≠ 17 → f2 p i = f1 p i := fun p i k1 k2 k3 k4 => by rw [b9 p i (by omega) k2 k3 k4, u1_ne _ _ (by omega)]
        have F15 : ∀ i, i < t → f2 15 i = f1 15 i := fun i hi => by rw [b7 i hi, u1_ne _ _ (by omega)]
        have h31 : f2 0 31 = nI t := by rw [b9 0 31 (by omega) (by omega) (by omega) (by omega), u1_at]
        obtain ⟨h1, h2, h3, h4, h5, h6, h7, h8, h9, h10, h11, h12, h13⟩ := a2.2.2.2.1
        refine ⟨f2, g2, ?_, ⟨t + eL l + 1, b2, b3, by rw [b8, u1_ne _ _ (by omega)]; exact a2.2.2.1, ⟨?_, ?_, ?_, ?_, ?_, b4', ⟨t, h31, by omega, b5', b6'⟩, by rw [F 0 32 (by omega) (by omega) (by omega) (by omega)]; exact mRq_of (by omega) F15 _ h8, ⟨fun i hi => ?_, fun a b ha hb => ?_⟩, ?_, fun x hx => ?_, fun x hx k hk => ?_, fun p hp => ?_⟩, b11⟩, MF_trans (MF_MN a3) (MF_trans (MF_u0 _ _ (by omega)) (MF_MX b9)), fun q hq => (b10 q hq).trans (a4 q hq)⟩
        · rw [a1, b1, c_V]
        · rw [F _ _ (by omega) (by omega) (by omega) (by omega)]; exact h1
        · rw [F _ _ (by omega) (by omega) (by omega) (by omega)]; exact h2
        · rw [F _ _ (by omega) (by omega) (by omega) (by omega)]; exact h3
        · rw [F _ _ (by omega) (by omega) (by omega) (by omega)]; exact h4
        · rw [F _ _ (by omega) (by omega) (by omega) (by omega)]; exact h5
        · rw [F 9 _ (by omega) (by omega) (by omega) (by omega), F 9 _ (by omega) (by omega) (by omega) (by omega)]; exact h9.1 i hi
        · rw [F 9 _ (by omega) (by omega) (by omega) (by omega)]; exact h9.2 a b ha hb
        · rw [F 14 0 (by omega) (by omega) (by omega) (by omega)]; exact h10
        · rw [F 14 _ (by omega) (by omega) (by omega) (by omega), F 14 _ (by omega) (by omega) (by omega) (by omega), F 11 _ (by omega) (by omega) (by omega) (by omega)]; exact h11 x hx
        · rw [F 10 _ (by omega) (by omega) (by omega) (by omega)]; exact h12 x hx k hk
        · rw [F 12 p (by omega) (by omega) (by omega) (by omega), F 13 p (by omega) (by omega) (by omega) (by omega), F 14 _ (by omega) (by omega) (by omega) (by omega), F 14 _ (by omega) (by omega) (by omega) (by omega)]; exact h13 p hp
/-- falls -/
theorem ln_falls {X : mu_X} (xo : XOK X) {c : Nat} {D : mu_Dr} (ok : DOK D) (hc : c ≤ X.1) (hk : kW X c = 13) : Pl X c D := by
  have n7 := xo.1
  obtain ⟨lo, go, to, wo, ho, an, tn⟩ := id ok
  have k1 := kW_1 (X := X) (c := c) (by omega)
  have kl := kW_len (X := X) (c := c) (by omega)
  have sge := tS_ge X c
  have eg := tE_ge X c
  have cg : c + 4 ≤ tE X c := by
    rw [hk] at kl
    have : (wl 13).length = 5 := rfl
    unfold tLn at kl
    omega
  have ce := tE_le hc
  have cls : ∀ f g, CS X c D f → x_rd_readLine_0 (f, g) = en_cV (x_rd_readRule_p63_0 (f, g)) (fun σ => some (.inl none, σ)) (fun e σ => some (.inr e, σ)) := fun f g h => by rw [c_line xo f g h.1, hk]; rfl
  cases hq : lF (oLd D) with
  | some l0 =>
    refine ⟨.inr (5, tS X c), ⟨by show 1 ≤ 5 ∧ 5 ≤ 5; omega, tS7 xo hc⟩, fun f g h => ?_, fun f g t h => ?_⟩
    · refine ⟨_, ?_, CFt_ref (k := 5) h.1⟩
      have h11 := CDr_63 h.2.2.2
      rw [hq] at h11
      rw [cls f g h]
      refine cV_id ?_
      rw [e_rd_readRule_p63_0, if_neg (show ¬ f 63 0 = 0 by rw [h11.1]; decide)]
      exact cV_id (c_rdRefuse f g (nI 5))
    · refine ⟨_, _, ?_, MFt_wr (k := 5) h.1⟩
      have h7 := MDr_32 h.2.2.2.1
      rw [hq] at h7
      obtain ⟨k, e1, e2, _⟩ := h7
      have h5 := h.2.2.2.2
      have hne : ¬ nI k = nN := by rw [q_nNe (by omega)]; exact id
      rw [e_m_line_0, m_known xo f g h.1 hc, c_I, hk, if_neg (by decide), if_neg (by decide), if_neg (by decide), if_neg (by decide), if_neg (by decide), if_pos (by decide), if_neg (show ¬ f 0 32 = -1 by rw [e1]; exact hne), m_beg5 f g h.2.1, c_I, if_pos rfl]
  | none =>
    obtain ⟨o, oo, cl, mo⟩ := yE0_E xo (tE X c) ce
    have cls2 : ∀ f g, CS X c D f → ∃ f1, x_rd_readRule_p63_0 (f, g) = en_cV (x_rd_readExpr_0_p63_0 (f1, g) 0) (fun σ => some (.inl none, σ)) (fun e σ => some (.inr e, σ)) ∧ CT X (tE X c) f1 ∧ f1 66 9 = nI 0 ∧ f1 66 10 = nN ∧ f1 63 0 = nI 1 ∧ f1 63 1 = nI 0 ∧ (∀ p i, (p ≠ 66 ∨ i < 3 ∨ 6 < i) → (p ≠ 63 ∨ i ≠ 0) → f1 p i = f p i) := by
      intro f g h
      have h11 := CDr_63 h.2.2.2
      rw [hq] at h11
      have hT1 : CT X c (en_u1 f 63 0 1) := CT_of h.1 (fun i _ _ => u1_ne _ _ (by omega)) (fun i => u1_ne _ _ (by omega))
      obtain ⟨f1, a1, a2, a3⟩ := c_next xo (en_u1 f 63 0 1) g ce hT1.1 hT1.2.2.1
      refine ⟨f1, ?_, a2, ?_, ?_, ?_, ?_, fun p i k1 k2 => by rw [a3 p i k1, u1_ne _ _ (by omega)]⟩
      · rw [e_rd_readRule_p63_0, if_pos (show f 63 0 = 0 by rw [h11.1]; decide), a1, c_V]
      · rw [a3 66 9 (by omega), u1_ne _ _ (by omega)]; exact h.2.1
      · rw [a3 66 10 (by omega), u1_ne _ _ (by omega)]; exact h.2.2.1
      · rw [a3 63 0 (by omega), u1_at]; rfl
      · rw [a3 63 1 (by omega), u1_ne _ _ (by omega)]; exact h11.2
    have mod2 : ∀ f g t, MS X c D t f g → ∃ f1 g1, x_m_line_0 (f, g) = en_cV (x_m_expression_0 (en_u1 f1 0 32 (nI t), g1)) (fun σ31 => x_m_line_249 σ31) (fun e σ => some (.inr e, σ)) ∧ MS X (tE X c) D t f1 g1 ∧ MN f f1 ∧ ∀ q, q ≠ 0 → g1 q = g q := by
      intro f g t h
      have h7 := MDr_32 h.2.2.2.1
      rw [hq] at h7
      obtain ⟨f1, g1, a1, a2, a3, a4⟩ := m_begY xo lo hc f g h
      refine ⟨f1, g1, ?_, a2, a3, a4⟩
      have h33 : f1 0 33 = nI t := a2.2.2.2.1.2.2.2.2.2.1
      rw [e_m_line_0, m_known xo f g h.1 hc, c_I, hk, if_neg (by decide), if_neg (by decide), if_neg (by decide), if_neg (by decide), if_neg (by decide), if_pos (by decide), if_pos (show f 0 32 = -1 from h7), a1, c_I, if_neg i10]
      show en_cV (x_m_expression_0 (en_u1 f1 0 32 (f1 0 33), g1)) _ _ = _
      rw [h33]
    have M1 : ∀ f1 g1 t, MS X (tE X c) D t f1 g1 → MT X (tE X c) (en_u1 f1 0 32 (nI t)) g1 := fun f1 g1 t h => MT_of h.1 (fun i _ _ => u1_ne _ _ (by omega)) (fun i => u1_ne _ _ (by omega))
    cases o with
    | inr z =>
      refine ⟨.inr z, oo, fun f g h => ?_, fun f g t h => ?_⟩
      · obtain ⟨f1, a1, a2, a3, a4, a5, a6, a7⟩ := cls2 f g h
        obtain ⟨f2, b1, b2⟩ := cl 63 (by unfold rR; omega) f1 g 0 a2 a3 a6 (Nat.zero_le _)
        refine ⟨f2, ?_, ⟨b2.2.1, b2.2.2.1, fun p i k => by rw [b2.2.2.2.2 p i (by omega) (by omega) (by omega), a7 p i (by omega) (by omega)]⟩⟩
        rw [cls f g h]
        refine cV_id ?_
        rw [a1]
        exact cV_id b1
      · obtain ⟨f1, g1, a1, a2, a3, a4⟩ := mod2 f g t h
        have h5 := h.2.2.2.2
        have r := m_expr xo ce oo (en_u1 f1 0 32 (nI t)) g1 (M1 f1 g1 t a2) (by rw [u1_ne _ _ (by omega)]; exact a2.2.1) (t := t) (by rw [u1_ne _ _ (by omega)]; exact a2.2.2.2.1.2.2.2.2.2.1) (by omega) mo
        obtain ⟨f2, g2, b1, b2, b3, b4, b5⟩ := r
        refine ⟨f2, g2, ?_, ⟨b2, b3, MF_trans (MF_MN a3) (MF_trans (MF_u0 _ _ (by omega)) (MF_MX b4)), fun q hq => (b5 q hq).trans (a4 q hq)⟩⟩
        rw [a1, b1, c_V]
    | inl z =>
      obtain ⟨c1, l⟩ := z
      have oo' := oo
      obtain ⟨oo1, oo2, oo3, oo4⟩ := oo
      have oo1' : c1 ≤ X.1 := oo1
      have oo2' : l.length + tE X c ≤ c1 := oo2
      refine ⟨.inl (c1, (oTo D, oAn D, ((oLd D).1, (oLd D).2.1, (oLd D).2.2.1, (oLd D).2.2.2.1, (oLd D).2.2.2.2.1, (oLd D).2.2.2.2.2.1, (oLd D).2.2.2.2.2.2.1, some l), oGd D, oWt D, oHd D)), ⟨oo1, by show c < c1; omega, ?_⟩, fun f g h => ?_, fun f g t h => ?_⟩
      · have dp : sDp l 0 := by
          have := oo3 [] 0 (by omega) rfl
          rw [List.append_nil] at this
          exact this
        exact ⟨⟨lo.1, lo.2.1, lo.2.2.1, lo.2.2.2.1, lo.2.2.2.2.1, dp⟩, go, to, wo, ho, an, tn⟩
      · obtain ⟨f1, a1, a2, a3, a4, a5, a6, a7⟩ := cls2 f g h
        obtain ⟨f2, b1, b2⟩ := cl 63 (by unfold rR; omega) f1 g 0 a2 a3 a6 (Nat.zero_le _)
        obtain ⟨d1, d2, d3, d4, d5, d6, d7⟩ := b2
        have F : ∀ p i, (p ≠ 66 ∨ i = 7 ∨ i = 8) → p ≠ 63 → p ≠ 64 → f2 p i = f p i := fun p i k1 k2 k3 => by rw [d7 p i (by omega) (by omega) k3, a7 p i (by omega) (by omega)]
        obtain ⟨h1, h2, h3, h4, h5, h6, h7, h8, h9, h10, h11, h12⟩ := h.2.2.2
        have rule : cRq f2 63 (some l) := by
          refine ⟨by rw [d7 63 0 (by omega) (by omega) (by omega)]; exact a5, by rw [d4]; show nI (0 + l.length) = nI l.length; rw [Nat.zero_add], by omega, fun i hi => ?_⟩
          have := Sto_get l 0 d5 i hi
          rw [Nat.zero_add] at this
          exact this
        refine ⟨f2, ?_, ⟨d1, d2, by rw [d3]; exact a4, ?_, ?_, ?_, ?_, fun i hi => ?_, ?_, ?_, fun x hx => ?_, fun x hx k hk => ?_, fun p hp => ?_, cRq_of (fun p i a => F p i (by omega) (by omega) (by omega)) _ h11, rule⟩, fun p i k => F p i (by omega) (by omega) (by omega)⟩
        · rw [cls f g h]
          refine cV_id ?_
          rw [a1]
          exact cV_id b1
        · rw [F 66 7 (by omega) (by omega) (by omega)]; exact h1
        · rw [F 66 8 (by omega) (by omega) (by omega)]; exact h2
        · rw [F 50 0 (by omega) (by omega) (by omega)]; exact h3
        · rw [F 50 1 (by omega) (by omega) (by omega)]; exact h4
        · rw [F 51 i (by omega) (by omega) (by omega), F 52 i (by omega) (by omega) (by omega), F 53 i (by omega) (by omega) (by omega)]; exact h5 i hi
        · rw [F 50 5 (by omega) (by omega) (by omega)]; exact h6
        · rw [F 50 9 (by omega) (by omega) (by omega)]; exact h7
        · rw [F 54 x (by omega) (by omega) (by omega), F 55 x (by omega) (by omega) (by omega)]; exact h8 x hx
        · rw [F 56 _ (by omega) (by omega) (by omega)]; exact h9 x hx k hk
        · rw [F 57 p (by omega) (by omega) (by omega), F 58 p (by omega) (by omega) (by omega), F 59 p (by omega) (by omega) (by omega)]; exact h10 p hp
      · obtain ⟨f1, g1, a1, a2, a3, a4⟩ := mod2 f g t h
        have h5t := h.2.2.2.2
        have r := m_expr xo ce oo' (en_u1 f1 0 32 (nI t)) g1 (M1 f1 g1 t a2) (by rw [u1_ne _ _ (by omega)]; exact a2.2.1) (t := t) (by rw [u1_ne _ _ (by omega)]; exact a2.2.2.2.1.2.2.2.2.2.1) (by omega) mo
        obtain ⟨f2, g2, b1, b2, b3, b4, b5, b6, b7, b8, b9, b10, b11⟩ := r
        have b5' : Em f2 t l := b5
        have b6' : f2 15 (t + eL l) = nI 0 := b6
        have b4' : f2 0 33 = nI (t + eL l + 1) := b4
        have F : ∀ p i, (p ≠ 0 ∨ (26 ≤ i ∧ i ≤ 32 ∧ i ≠ 32)) → p ≠ 15 → p ≠ 16 → p ≠ 17 → f2 p i = f1 p i := fun p i k1 k2 k3 k4 => by rw [b9 p i (by omega) k2 k3 k4, u1_ne _ _ (by omega)]
        have F15 : ∀ i, i < t → f2 15 i = f1 15 i := fun i hi => by rw [b7 i hi, u1_ne _ _ (by omega)]
        have h31 : f2 0 32 = nI t := by rw [b9 0 32 (by omega) (by omega) (by omega) (by omega), u1_at]
        obtain ⟨h1, h2, h3, h4, h5, h6, h7, h8, h9, h10, h11, h12, h13⟩ := a2.2.2.2.1
        refine ⟨f2, g2, ?_, ⟨t + eL l + 1, b2, b3, by rw [b8, u1_ne _ _ (by omega)]; exact a2.2.2.1, ⟨?_, ?_, ?_, ?_, ?_, b4', by rw [F 0 31 (by omega) (by omega) (by omega) (by omega)]; exact mRq_of (by omega) F15 _ h7, ⟨t, h31, by omega, b5', b6'⟩, ⟨fun i hi => ?_, fun a b ha hb => ?_⟩, ?_, fun x hx => ?_, fun x hx k hk => ?_, fun p hp => ?_⟩, b11⟩, MF_trans (MF_MN a3) (MF_trans (MF_u0 _ _ (by omega)) (MF_MX b9)), fun q hq => (b10 q hq).trans (a4 q hq)⟩
        · rw [a1, b1, c_V]
        · rw [F _ _ (by omega) (by omega) (by omega) (by omega)]; exact h1
        · rw [F _ _ (by omega) (by omega) (by omega) (by omega)]; exact h2
        · rw [F _ _ (by omega) (by omega) (by omega) (by omega)]; exact h3
        · rw [F _ _ (by omega) (by omega) (by omega) (by omega)]; exact h4
        · rw [F _ _ (by omega) (by omega) (by omega) (by omega)]; exact h5
        · rw [F 9 _ (by omega) (by omega) (by omega) (by omega), F 9 _ (by omega) (by omega) (by omega) (by omega)]; exact h9.1 i hi
        · rw [F 9 _ (by omega) (by omega) (by omega) (by omega)]; exact h9.2 a b ha hb
        · rw [F 14 0 (by omega) (by omega) (by omega) (by omega)]; exact h10
        · rw [F 14 _ (by omega) (by omega) (by omega) (by omega), F 14 _ (by omega) (by omega) (by omega) (by omega), F 11 _ (by omega) (by omega) (by omega) (by omega)]; exact h11 x hx
        · rw [F 10 _ (by omega) (by omega) (by omega) (by omega)]; exact h12 x hx k hk
        · rw [F 12 p (by omega) (by omega) (by omega) (by omega), F 13 p (by omega) (by omega) (by omega) (by omega), F 14 _ (by omega) (by omega) (by omega) (by omega), F 14 _ (by omega) (by omega) (by omega) (by omega)]; exact h13 p hp
