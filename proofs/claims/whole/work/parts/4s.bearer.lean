/-! lines: bearers -/
theorem CFt_107 {k q : Nat} {f fb : Nat → Nat → Int32} (g : Nat → Nat → Int64) (h : CFt k q f fb) : ∃ f', x_rd_readBearer_107 (fb, g) = rV (f', g) ∧ CFt k q f f' := ⟨en_u1 fb 50 9 (fb 50 9 + 1), e_rd_readBearer_107 (fb, g), CFt_u h _ (by omega)⟩
theorem ln_bearer {X : mu_X} (xo : XOK X) {c : Nat} {D : mu_Dr} (ok : DOK D) (hc : c ≤ X.1) (hk : kW X c = 10) : Pl X c D := by
  have n7 := xo.1
  obtain ⟨lo, go, to, wo, ho, an, tn⟩ := id ok
  have k1 := kW_1 (X := X) (c := c) (by omega)
  have cg := tE_c' (X := X) (c := c) (by omega)
  have ce := tE_le hc
  have l6 := lo.1
  have l8 := lo.2.1
  have cls : ∀ f g, CS X c D f → x_rd_readLine_0 (f, g) = en_cV (x_rd_readBearer_0 (f, g)) (fun σ => some (.inl none, σ)) (fun e σ => some (.inr e, σ)) := fun f g h => by rw [c_line xo f g h.1, hk]; rfl
  by_cases full : lP (oLd D) < 8
  · obtain ⟨b, hb⟩ : ∃ b, b = lP (oLd D) := ⟨_, rfl⟩
    obtain ⟨K3, hK3⟩ : ∃ K : Int32 → en_S → Option en_O, K = fun r5 σ4 => if σ4.1 66 9 = 0 then en_cI (x_rd_isWord_p1007_0 (en_u1 (en_u1 σ4.1 58 b r5) 59 b (-1), σ4.2)) (fun r7 σ6 => if r7 = 0 then x_rd_readBearer_107 σ6 else en_cV (x_rd_nextToken_0 σ6) (fun σ8 => en_cI (x_rd_readName_0 σ8 (σ8.1 50 5) (-1)) (fun r10 σ9 => x_rd_readBearer_107 (en_u1 σ9.1 59 b r10, σ9.2)) (fun e σ => some (.inr e, σ))) (fun e σ => some (.inr e, σ))) (fun e σ => some (.inr e, σ)) else x_rd_readBearer_107 (en_u1 (en_u1 σ4.1 58 b r5) 59 b (-1), σ4.2) := ⟨_, rfl⟩
    have e107 : ∀ (f : Nat → Nat → Int32) (g : Nat → Nat → Int64), x_rd_readBearer_107 (f, g) = rV (en_u1 f 50 9 (f 50 9 + 1), g) := fun f g => e_rd_readBearer_107 (f, g)
    have cls0 : ∀ f g, CS X c D f → ∃ f1, x_rd_readBearer_0 (f, g) = en_cI (x_rd_readNumber_0 (f1, g) 1 40) (fun r3 σ2 => en_cI (x_rd_readNumber_0 (en_u1 σ2.1 57 b r3, σ2.2) 1 9) (fun r5 σ4 => K3 r5 σ4) (fun e σ => some (.inr e, σ))) (fun e σ => some (.inr e, σ)) ∧ CS X (tE X c) D f1 ∧ CN f f1 := by
      intro f g h
      have h9 : f 50 9 = nI b := by rw [hb]; exact h.2.2.2.2.2.2.2.2.2.1
      obtain ⟨f1, a1, a2, a3⟩ := CS_next xo lo hc f g h
      refine ⟨f1, ?_, a2, a3⟩
      rw [e_rd_readBearer_0, if_pos (show f 50 9 < 8 by rw [h9, q_8]; exact nI_lt (by omega) (by omega)), a1, c_V, hK3]
      simp (disch := omega) only [h9, q_in, q_clamp, if_true]
    have K3B : ∀ f fb g k q, 1 ≤ k ∧ k ≤ 5 → CFt k q f fb → ∀ r5 : Int32, ∃ f', K3 r5 (fb, g) = rV (f', g) ∧ CFt k q f f' := by
      intro f fb g k q hk5 hF r5
      obtain ⟨f', a1, a2⟩ := CFt_107 g (CFt_u (CFt_u hF (p := 58) (i := b) r5 (by omega)) (p := 59) (i := b) (-1) (by omega))
      refine ⟨f', ?_, a2⟩
      rw [hK3]
      show (if fb 66 9 = 0 then _ else _) = _
      rw [if_neg (show ¬ fb 66 9 = 0 from CFt_9 hF hk5)]
      exact a1
    obtain ⟨R3, hR3⟩ : ∃ K : en_S → Option en_O, K = fun σ5 => en_cI (x_m_isGood_0 σ5) (fun r6 σ5 => if r6 = 0 then x_m_readsBearer_100 σ5 else en_cI (x_m_knownWord_0 σ5) (fun r8 σ7 => if r8 = 11 then en_cV (x_m_goes_0 σ7) (fun σ9 => en_cI (x_m_isOneOf_0 σ9 (σ9.1 0 29)) (fun r11 σ10 => if r11 = 0 then some (.inl none, σ10) else en_cV (x_m_goes_0 (en_u1 σ10.1 14 (13 + b) (σ10.1 0 23), σ10.2)) (fun σ12 => x_m_readsBearer_100 σ12) (fun e σ => some (.inr e, σ))) (fun e σ => some (.inr e, σ))) (fun e σ => some (.inr e, σ)) else x_m_readsBearer_100 σ7) (fun e σ => some (.inr e, σ))) (fun e σ => some (.inr e, σ)) := ⟨_, rfl⟩
    have mod0 : ∀ f g t, MS X c D t f g → ∃ f1 g1, x_m_line_0 (f, g) = en_cV (en_cI (x_m_number_0 (f1, g1) 1 40) (fun r2 σ1 => en_cI (x_m_number_0 (en_u1 σ1.1 12 b r2, σ1.2) 1 9) (fun r4 σ3 => R3 (en_u1 (en_u1 (en_u1 σ3.1 13 b r4) 14 (13 + b) (-1)) 14 (21 + b) 0, σ3.2)) (fun e σ => some (.inr e, σ))) (fun e σ => some (.inr e, σ))) (fun σ16 => x_m_line_249 σ16) (fun e σ => some (.inr e, σ)) ∧ MS X (tE X c) D t f1 g1 ∧ MN f f1 ∧ ∀ q, q ≠ 0 → g1 q = g q := by
      intro f g t h
      have h5 : f 0 30 = nI b := by rw [hb]; exact h.2.2.2.1.2.2.2.2.1
      obtain ⟨f1, g1, a1, a2, a3, a4⟩ := m_begY xo lo hc f g h
      have h5' : f1 0 30 = nI b := by rw [hb]; exact a2.2.2.2.1.2.2.2.2.1
      refine ⟨f1, g1, ?_, a2, a3, a4⟩
      rw [e_m_line_0, m_known xo f g h.1 hc, c_I, hk, if_neg (by decide), if_neg (by decide), if_neg (by decide), if_pos (by decide), if_neg (show ¬ f 0 30 = 8 by rw [h5, q_8, q_eqI (by omega) (by omega)]; omega), a1, c_I, if_neg i10, e_m_readsBearer_0, hR3]
      simp (disch := omega) only [h5', q_13, q_21, nI_add, q_in, q_clamp, if_true]
    have R3B : ∀ f fb g0 g k q, 1 ≤ k ∧ k ≤ 5 → MFt k q f g0 fb g → R3 (fb, g) = rV (fb, g) := by
      intro f fb g0 g k q hk5 hF
      rw [hR3]
      show en_cI (x_m_isGood_0 (fb, g)) _ _ = _
      rw [m_good0 fb g hk5 hF.1, c_I, if_pos (by decide), e_m_readsBearer_100, m_good0 fb g hk5 hF.1, c_I, if_pos (by decide)]
      rfl
    have R3F : ∀ f fb g0 g k q (v1 v2 : Int32), MFt k q f g0 fb g → MFt k q f g0 (en_u1 (en_u1 (en_u1 (en_u1 fb 12 b v1) 13 b v2) 14 (13 + b) (-1)) 14 (21 + b) 0) g := by
      intro f fb g0 g k q v1 v2 hF
      exact ⟨by rw [u1_ne _ _ (by omega), u1_ne _ _ (by omega), u1_ne _ _ (by omega), u1_ne _ _ (by omega)]; exact hF.1, by rw [u1_ne _ _ (by omega), u1_ne _ _ (by omega), u1_ne _ _ (by omega), u1_ne _ _ (by omega)]; exact hF.2.1, MF_trans hF.2.2.1 (MF_trans (MF_u _ _ (by omega)) (MF_trans (MF_u _ _ (by omega)) (MF_trans (MF_u _ _ (by omega)) (MF_u _ _ (by omega))))), hF.2.2.2⟩
    have nu1 := nuF_c X (tE X c) 1 40
    by_cases n1 : nuF X (tE X c) 1 40 = 0
    · obtain ⟨v1, v2, v3, v4⟩ := nu1.2 n1
      have cg1 := tE_c' (X := X) (c := tE X c) (by omega)
      have ce1 := tE_le ce
      obtain ⟨s, hs⟩ : ∃ s, s = tV X (tE X c) := ⟨_, rfl⟩
      have cls1 : ∀ f g, CS X c D f → ∃ f2, x_rd_readBearer_0 (f, g) = en_cI (x_rd_readNumber_0 (f2, g) 1 9) (fun r5 σ4 => K3 r5 σ4) (fun e σ => some (.inr e, σ)) ∧ CT X (tE X (tE X c)) f2 ∧ f2 57 b = nI s ∧ (∀ p i, (p ≠ 66 ∨ i < 3 ∨ 6 < i) → (p ≠ 57 ∨ i ≠ b) → f2 p i = f p i) := by
        intro f g h
        obtain ⟨f1, a1, a2, a3⟩ := cls0 f g h
        obtain ⟨f2, b1, b2, b3⟩ := (c_number xo f1 g ce a2.1 a2.2.1 (lo := 1) (hi := 40) (by omega) (by omega)).1 n1
        refine ⟨en_u1 f2 57 b (nI s), ?_, CT_of b2 (fun i _ _ => u1_ne _ _ (by omega)) (fun i => u1_ne _ _ (by omega)), u1_at _ _ _ _, fun p i k1 k2 => by rw [u1_ne _ _ (by omega), b3 p i k1, a3 p i k1]⟩
        rw [a1, show x_rd_readNumber_0 (f1, g) 1 40 = _ from b1, c_I, ← hs]
      have mod1 : ∀ f g t, MS X c D t f g → ∃ f2 g2, x_m_line_0 (f, g) = en_cV (en_cI (x_m_number_0 (f2, g2) 1 9) (fun r4 σ3 => R3 (en_u1 (en_u1 (en_u1 σ3.1 13 b r4) 14 (13 + b) (-1)) 14 (21 + b) 0, σ3.2)) (fun e σ => some (.inr e, σ))) (fun σ16 => x_m_line_249 σ16) (fun e σ => some (.inr e, σ)) ∧ MT X (tE X (tE X c)) f2 g2 ∧ f2 12 b = nI s ∧ (∀ p i, (p ≠ 0 ∨ i < 19 ∨ 24 < i) → (p ≠ 12 ∨ i ≠ b) → f2 p i = f p i) ∧ ∀ q, q ≠ 0 → g2 q = g q := by
        intro f g t h
        obtain ⟨f1, g1, a1, a2, a3, a4⟩ := mod0 f g t h
        obtain ⟨f2, g2, b1, b2, b3, b4⟩ := (m_number xo f1 g1 ce a2.1 a2.2.1 (lo := 1) (hi := 40) (by omega) (by omega)).1 n1
        refine ⟨en_u1 f2 12 b (nI s), g2, ?_, MT_of b2 (fun i _ _ => u1_ne _ _ (by omega)) (fun i => u1_ne _ _ (by omega)), u1_at _ _ _ _, fun p i k1 k2 => by rw [u1_ne _ _ (by omega), b3 p i k1, a3 p i k1], fun q hq => (b4 q hq).trans (a4 q hq)⟩
        rw [a1, show x_m_number_0 (f1, g1) 1 40 = _ from b1, c_I, ← hs]
      have nu2 := nuF_c X (tE X (tE X c)) 1 9
      by_cases n2 : nuF X (tE X (tE X c)) 1 9 = 0
      · obtain ⟨w1, w2, w3, w4⟩ := nu2.2 n2
        have cg2 := tE_c' (X := X) (c := tE X (tE X c)) (by omega)
        have ce2 := tE_le ce1
        obtain ⟨hh, hhh⟩ : ∃ s, s = tV X (tE X (tE X c)) := ⟨_, rfl⟩
        rw [← hhh] at w3 w4
        obtain ⟨c3, hc3⟩ : ∃ c3, c3 = tE X (tE X (tE X c)) := ⟨_, rfl⟩
        rw [← hc3] at cg2 ce2
        have cls2 : ∀ f g, CS X c D f → ∃ f3, x_rd_readBearer_0 (f, g) = en_cI (x_rd_isWord_p1007_0 (f3, g)) (fun r7 σ6 => if r7 = 0 then x_rd_readBearer_107 σ6 else en_cV (x_rd_nextToken_0 σ6) (fun σ8 => en_cI (x_rd_readName_0 σ8 (σ8.1 50 5) (-1)) (fun r10 σ9 => x_rd_readBearer_107 (en_u1 σ9.1 59 b r10, σ9.2)) (fun e σ => some (.inr e, σ))) (fun e σ => some (.inr e, σ))) (fun e σ => some (.inr e, σ)) ∧ CT X c3 f3 ∧ f3 57 b = nI s ∧ f3 58 b = nI hh ∧ f3 59 b = nN ∧ (∀ p i, (p ≠ 66 ∨ i < 3 ∨ 6 < i) → (p < 57 ∨ 59 < p ∨ i ≠ b) → f3 p i = f p i) := by
          intro f g h
          obtain ⟨f2, a1, a2, a3, a4⟩ := cls1 f g h
          obtain ⟨f3, b1, b2, b3⟩ := (c_number xo f2 g ce1 a2 (by rw [a4 66 9 (by omega) (by omega)]; exact h.2.1) (lo := 1) (hi := 9) (by omega) (by omega)).1 n2
          rw [← hc3] at b2
          have h9 : f3 66 9 = 0 := by rw [b3 66 9 (by omega), a4 66 9 (by omega) (by omega)]; exact h.2.1
          refine ⟨en_u1 (en_u1 f3 58 b (nI hh)) 59 b (-1), ?_, CT_of b2 (fun i _ _ => by rw [u1_ne _ _ (by omega), u1_ne _ _ (by omega)]) (fun i => by rw [u1_ne _ _ (by omega), u1_ne _ _ (by omega)]), ?_, ?_, u1_at _ _ _ _, fun p i k1 k2 => by rw [u1_ne _ _ (by omega), u1_ne _ _ (by omega), b3 p i k1, a4 p i k1 (by omega)]⟩
          · rw [a1, show x_rd_readNumber_0 (f2, g) 1 9 = _ from b1, c_I, ← hhh, hK3]
            show (if f3 66 9 = 0 then _ else _) = _
            rw [if_pos h9]
          · rw [u1_ne _ _ (by omega), u1_ne _ _ (by omega), b3 57 b (by omega)]; exact a3
          · rw [u1_ne _ _ (by omega), u1_at]
        have mod2 : ∀ f g t, MS X c D t f g → ∃ f3 g3, x_m_line_0 (f, g) = en_cV (if kI (kW X c3) = 11 then en_cV (x_m_goes_0 (f3, g3)) (fun σ9 => en_cI (x_m_isOneOf_0 σ9 (σ9.1 0 29)) (fun r11 σ10 => if r11 = 0 then some (.inl none, σ10) else en_cV (x_m_goes_0 (en_u1 σ10.1 14 (13 + b) (σ10.1 0 23), σ10.2)) (fun σ12 => x_m_readsBearer_100 σ12) (fun e σ => some (.inr e, σ))) (fun e σ => some (.inr e, σ))) (fun e σ => some (.inr e, σ)) else x_m_readsBearer_100 (f3, g3)) (fun σ16 => x_m_line_249 σ16) (fun e σ => some (.inr e, σ)) ∧ MT X c3 f3 g3 ∧ f3 12 b = nI s ∧ f3 13 b = nI hh ∧ f3 14 (13 + b) = nN ∧ f3 14 (21 + b) = nI 0 ∧ (∀ p i, (p ≠ 0 ∨ i < 19 ∨ 24 < i) → ((p ≠ 12 ∧ p ≠ 13) ∨ i ≠ b) → (p ≠ 14 ∨ (i ≠ 13 + b ∧ i ≠ 21 + b)) → f3 p i = f p i) ∧ ∀ q, q ≠ 0 → g3 q = g q := by
          intro f g t h
          obtain ⟨f2, g2, a1, a2, a3, a4, a5⟩ := mod1 f g t h
          obtain ⟨f3, g3, b1, b2, b3, b4⟩ := (m_number xo f2 g2 ce1 a2 (by rw [a4 0 15 (by omega) (by omega)]; exact h.2.1) (lo := 1) (hi := 9) (by omega) (by omega)).1 n2
          rw [← hc3] at b2
          have F : ∀ p i, (p ≠ 13 ∨ i ≠ b) → (p ≠ 14 ∨ (i ≠ 13 + b ∧ i ≠ 21 + b)) → en_u1 (en_u1 (en_u1 f3 13 b (nI hh)) 14 (13 + b) (-1)) 14 (21 + b) 0 p i = f3 p i := fun p i k1 k2 => by rw [u1_ne _ _ (by omega), u1_ne _ _ (by omega), u1_ne _ _ (by omega)]
          have T4 : MT X c3 (en_u1 (en_u1 (en_u1 f3 13 b (nI hh)) 14 (13 + b) (-1)) 14 (21 + b) 0) g3 := MT_of b2 (fun i _ _ => F _ _ (by omega) (by omega)) (fun i => F _ _ (by omega) (by omega))
          have G4 : en_u1 (en_u1 (en_u1 f3 13 b (nI hh)) 14 (13 + b) (-1)) 14 (21 + b) 0 0 15 = nI 0 := by rw [F 0 15 (by omega) (by omega), b3 0 15 (by omega), a4 0 15 (by omega) (by omega)]; exact h.2.1
          refine ⟨en_u1 (en_u1 (en_u1 f3 13 b (nI hh)) 14 (13 + b) (-1)) 14 (21 + b) 0, g3, ?_, T4, ?_, ?_, ?_, u1_at _ _ _ _, fun p i k1 k2 k3 => by rw [F p i (by omega) (by omega), b3 p i k1, a4 p i k1 (by omega)], fun q hq => (b4 q hq).trans (a5 q hq)⟩
          · rw [a1, show x_m_number_0 (f2, g2) 1 9 = _ from b1, c_I, ← hhh, hR3]
            show en_cV (en_cI (x_m_isGood_0 (en_u1 (en_u1 (en_u1 f3 13 b (nI hh)) 14 (13 + b) (-1)) 14 (21 + b) 0, g3)) _ _) _ _ = _
            rw [m_good1 _ g3 G4, c_I, if_neg (by decide), m_known xo _ g3 T4 ce2, c_I]
          · rw [F 12 b (by omega) (by omega), b3 12 b (by omega)]; exact a3
          · rw [u1_ne _ _ (by omega), u1_ne _ _ (by omega), u1_at]
          · rw [u1_ne _ _ (by omega), u1_at]; rfl
        -- the end of both
        have fin : ∀ (c5 : Nat) (x : Int32), c5 ≤ X.1 → c < c5 → (x = nN ∨ ∃ y, y < lB (oLd D) ∧ x = nI y) → POk X c (.inl (c5, (oTo D, oAn D, ((oLd D).1, b + 1, upd (lS (oLd D)) b (nI s), upd (lH (oLd D)) b (nI hh), (oLd D).2.2.2.2), oGd D, oWt D, upd (oHd D) b x))) := by
          intro c5 x h5 h5' hx
          refine ⟨h5, h5', ⟨lo.1, by show b + 1 ≤ 8; omega, lo.2.2.1, fun p hp => ?_, lo.2.2.2.2⟩, go, to, wo, fun p hp => ?_, an, tn⟩
          · have hp' : p < b + 1 := hp
            show ∃ h, 1 ≤ h ∧ h ≤ 9 ∧ upd (lH (oLd D)) b (nI hh) p = nI h
            rw [upd_if]
            by_cases e : p = b
            · rw [if_pos e]; exact ⟨hh, w3, w4, rfl⟩
            · rw [if_neg e]; exact lo.2.2.2.1 p (by omega)
          · have hp' : p < b + 1 := hp
            show upd (oHd D) b x p = nN ∨ ∃ y, y < lB (oLd D) ∧ upd (oHd D) b x p = nI y
            rw [upd_if]
            by_cases e : p = b
            · rw [if_pos e]; exact hx
            · rw [if_neg e]; exact ho p (by omega)
        have finC : ∀ (c5 : Nat) (x : Int32) f f5 g, CS X c D f → CT X c5 f5 → f5 57 b = nI s → f5 58 b = nI hh → f5 59 b = x → (∀ p i, (p ≠ 66 ∨ i < 3 ∨ 6 < i) → (p < 57 ∨ 59 < p ∨ i ≠ b) → f5 p i = f p i) → x_rd_readBearer_107 (f5, g) = rV (en_u1 f5 50 9 (nI (b + 1)), g) ∧ PC X (.inl (c5, (oTo D, oAn D, ((oLd D).1, b + 1, upd (lS (oLd D)) b (nI s), upd (lH (oLd D)) b (nI hh), (oLd D).2.2.2.2), oGd D, oWt D, upd (oHd D) b x))) f (en_u1 f5 50 9 (nI (b + 1))) := by
          intro c5 x f f5 g h hT e57 e58 e59 Fr
          obtain ⟨h1, h2, h3, h4, h5, h6, h7, h8, h9, h10, h11, h12⟩ := h.2.2.2
          have h50 : f5 50 9 = nI b := by rw [Fr 50 9 (by omega) (by omega), hb]; exact h7
          have F : ∀ p i, (p ≠ 66 ∨ i < 3 ∨ 6 < i) → (p < 57 ∨ 59 < p ∨ i ≠ b) → (p ≠ 50 ∨ i ≠ 9) → en_u1 f5 50 9 (nI (b + 1)) p i = f p i := fun p i k1 k2 k3 => by rw [u1_ne _ _ (by omega), Fr p i k1 k2]
          refine ⟨by rw [e107, h50, nI_1], ⟨CT_of hT (fun i _ _ => u1_ne _ _ (by omega)) (fun i => u1_ne _ _ (by omega)), ?_, ?_, ?_, ?_, ?_, ?_, fun i hi => ?_, ?_, u1_at _ _ _ _, fun x hx => ?_, fun x hx k hk => ?_, fun p hp => ?_, ?_, ?_⟩, fun p i k => F p i (by omega) (by omega) (by omega)⟩
          · rw [F 66 9 (by omega) (by omega) (by omega)]; exact h.2.1
          · rw [F 66 10 (by omega) (by omega) (by omega)]; exact h.2.2.1
          · rw [F 66 7 (by omega) (by omega) (by omega)]; exact h1
          · rw [F 66 8 (by omega) (by omega) (by omega)]; exact h2
          · rw [F 50 0 (by omega) (by omega) (by omega)]; exact h3
          · rw [F 50 1 (by omega) (by omega) (by omega)]; exact h4
          · rw [F 51 i (by omega) (by omega) (by omega), F 52 i (by omega) (by omega) (by omega), F 53 i (by omega) (by omega) (by omega)]; exact h5 i hi
          · rw [F 50 5 (by omega) (by omega) (by omega)]; exact h6
          · rw [F 54 x (by omega) (by omega) (by omega), F 55 x (by omega) (by omega) (by omega)]; exact h8 x hx
          · rw [F 56 _ (by omega) (by omega) (by omega)]; exact h9 x hx k hk
          · have hp' : p < b + 1 := hp
            show _ = upd (lS (oLd D)) b (nI s) p ∧ _ = upd (lH (oLd D)) b (nI hh) p ∧ _ = upd (oHd D) b _ p
            rw [upd_if, upd_if, upd_if]
            by_cases e : p = b
            · rw [if_pos e, if_pos e, if_pos e, e, u1_ne _ _ (by omega), u1_ne _ _ (by omega), u1_ne _ _ (by omega)]
              exact ⟨e57, e58, e59⟩
            · rw [if_neg e, if_neg e, if_neg e, F 57 p (by omega) (by omega) (by omega), F 58 p (by omega) (by omega) (by omega), F 59 p (by omega) (by omega) (by omega)]
              exact h10 p (by omega)
          · exact cRq_of (fun p i a => F p i (by omega) (by omega) (by omega)) _ h11
          · exact cRq_of (fun p i a => F p i (by omega) (by omega) (by omega)) _ h12
        have finM : ∀ (c5 : Nat) (x : Int32) f g t f5 g5, MS X c D t f g → c < c5 → MT X c5 f5 g5 → f5 12 b = nI s → f5 13 b = nI hh → f5 14 (13 + b) = x → f5 14 (21 + b) = nI 0 → (∀ p i, (p ≠ 0 ∨ i < 19 ∨ 24 < i) → ((p ≠ 12 ∧ p ≠ 13) ∨ i ≠ b) → (p ≠ 14 ∨ (i ≠ 13 + b ∧ i ≠ 21 + b)) → f5 p i = f p i) → (∀ q, q ≠ 0 → g5 q = g q) → ∃ f' g', en_cV (x_m_readsBearer_100 (f5, g5)) (fun σ16 => x_m_line_249 σ16) (fun e σ => some (.inr e, σ)) = x_m_line_249 (f', g') ∧ PM X (.inl (c5, (oTo D, oAn D, ((oLd D).1, b + 1, upd (lS (oLd D)) b (nI s), upd (lH (oLd D)) b (nI hh), (oLd D).2.2.2.2), oGd D, oWt D, upd (oHd D) b x))) f g f' g' := by
          intro c5 x f g t f5 g5 h hc5 hT e12 e13 e14 e21 Fr gg
          obtain ⟨h1, h2, h3, h4, h5, h6, h7, h8, h9, h10, h11, h12, h13⟩ := h.2.2.2.1
          have h30 : f5 0 30 = nI b := by rw [Fr 0 30 (by omega) (by omega) (by omega), hb]; exact h5
          have F : ∀ p i, (p ≠ 0 ∨ i < 19 ∨ (24 < i ∧ i ≠ 30)) → ((p ≠ 12 ∧ p ≠ 13) ∨ i ≠ b) → (p ≠ 14 ∨ (i ≠ 13 + b ∧ i ≠ 21 + b)) → en_u1 f5 0 30 (nI (b + 1)) p i = f p i := fun p i k1 k2 k3 => by rw [u1_ne _ _ (by omega), Fr p i (by omega) k2 k3]
          refine ⟨en_u1 f5 0 30 (nI (b + 1)), g5, ?_, ⟨t, MT_of hT (fun i _ _ => u1_ne _ _ (by omega)) (fun i => u1_ne _ _ (by omega)), ?_, ?_, ⟨?_, ?_, ?_, ?_, u1_at _ _ _ _, ?_, ?_, ?_, ⟨fun i hi => ?_, fun x y hx hy => ?_⟩, ?_, fun x hx => ?_, fun x hx k hk => ?_, fun p hp => ?_⟩, ?_⟩, fun p i k1 k2 => F p i (by omega) (by omega) (by omega), gg⟩
          · have h15 : f5 0 15 = nI 0 := by rw [Fr 0 15 (by omega) (by omega) (by omega)]; exact h.2.1
            rw [e_m_readsBearer_100, m_good1 f5 g5 h15, c_I, if_neg (by decide)]
            show en_cV (rV (en_u1 f5 0 30 (f5 0 30 + 1), g5)) _ _ = _
            rw [h30, nI_1, c_V]
          · rw [F 0 15 (by omega) (by omega) (by omega)]; exact h.2.1
          · rw [F 0 16 (by omega) (by omega) (by omega)]; exact h.2.2.1
          · rw [F 0 27 (by omega) (by omega) (by omega)]; exact h1
          · rw [F 0 26 (by omega) (by omega) (by omega)]; exact h2
          · rw [F 0 28 (by omega) (by omega) (by omega)]; exact h3
          · rw [F 0 29 (by omega) (by omega) (by omega)]; exact h4
          · rw [F 0 33 (by omega) (by omega) (by omega)]; exact h6
          · rw [F 0 31 (by omega) (by omega) (by omega)]; exact mRq_of (Nat.le_refl _) (fun i _ => F 15 i (by omega) (by omega) (by omega)) _ h7
          · rw [F 0 32 (by omega) (by omega) (by omega)]; exact mRq_of (Nat.le_refl _) (fun i _ => F 15 i (by omega) (by omega) (by omega)) _ h8
          · rw [F 9 _ (by omega) (by omega) (by omega), F 9 _ (by omega) (by omega) (by omega)]; exact h9.1 i hi
          · rw [F 9 _ (by omega) (by omega) (by omega)]; exact h9.2 x y hx hy
          · rw [F 14 0 (by omega) (by omega) (by omega)]; exact h10
          · have hx' : x < lB (oLd D) := hx
            rw [F 14 (1 + x) (by omega) (by omega) (by omega), F 14 (7 + x) (by omega) (by omega) (by omega), F 11 _ (by omega) (by omega) (by omega)]; exact h11 x hx
          · rw [F 10 _ (by omega) (by omega) (by omega)]; exact h12 x hx k hk
          · have hp' : p < b + 1 := hp
            show _ = upd (lS (oLd D)) b (nI s) p ∧ _ = upd (lH (oLd D)) b (nI hh) p ∧ _ = upd (oHd D) b _ p ∧ _
            rw [upd_if, upd_if, upd_if]
            by_cases e : p = b
            · rw [if_pos e, if_pos e, if_pos e, e, u1_ne _ _ (by omega), u1_ne _ _ (by omega), u1_ne _ _ (by omega), u1_ne _ _ (by omega)]
              exact ⟨e12, e13, e14, e21⟩
            · rw [if_neg e, if_neg e, if_neg e, F 12 p (by omega) (by omega) (by omega), F 13 p (by omega) (by omega) (by omega), F 14 (13 + p) (by omega) (by omega) (by omega), F 14 (21 + p) (by omega) (by omega) (by omega)]
              exact h13 p (by omega)
          · have := h.2.2.2.2
            show t ≤ 2 * c5
            omega
        by_cases und : kW X c3 = 11
        · have ku := kW_1 (X := X) (c := c3) (by omega)
          have cg3 := tE_c' (X := X) (c := c3) (by omega)
          have ce3 := tE_le ce2
          have na := naF_c X (tE X c3) (lB (oLd D))
          have cls3 : ∀ f g, CS X c D f → ∃ f4, x_rd_readBearer_0 (f, g) = en_cI (x_rd_readName_0 (f4, g) (nI (lB (oLd D))) (-1)) (fun r10 σ9 => x_rd_readBearer_107 (en_u1 σ9.1 59 b r10, σ9.2)) (fun e σ => some (.inr e, σ)) ∧ CT X (tE X c3) f4 ∧ f4 57 b = nI s ∧ f4 58 b = nI hh ∧ (∀ p i, (p ≠ 66 ∨ i < 3 ∨ 6 < i) → (p < 57 ∨ 59 < p ∨ i ≠ b) → f4 p i = f p i) := by
            intro f g h
            obtain ⟨f3, a1, a2, a3, a4, a5, a6⟩ := cls2 f g h
            obtain ⟨f4, b1, b2, b3⟩ := c_next xo f3 g ce3 a2.1 a2.2.2.1
            have h5 : f4 50 5 = nI (lB (oLd D)) := by rw [b3 50 5 (by omega), a6 50 5 (by omega) (by omega)]; exact h.2.2.2.2.2.2.2.2.1
            refine ⟨f4, ?_, b2, by rw [b3 57 b (by omega)]; exact a3, by rw [b3 58 b (by omega)]; exact a4, fun p i k1 k2 => by rw [b3 p i (by omega), a6 p i k1 k2]⟩
            rw [a1, c_w11 xo f3 g a2, c_I, if_neg (tb_y (decide_eq_true und)), b1, c_V]
            show en_cI (x_rd_readName_0 (f4, g) (f4 50 5) (-1)) _ _ = _
            rw [h5]
          have mod3 : ∀ f g t, MS X c D t f g → ∃ f4 g4, x_m_line_0 (f, g) = en_cV (en_cI (x_m_isOneOf_0 (f4, g4) (nI (lB (oLd D)))) (fun r11 σ10 => if r11 = 0 then some (.inl none, σ10) else en_cV (x_m_goes_0 (en_u1 σ10.1 14 (13 + b) (σ10.1 0 23), σ10.2)) (fun σ12 => x_m_readsBearer_100 σ12) (fun e σ => some (.inr e, σ))) (fun e σ => some (.inr e, σ))) (fun σ16 => x_m_line_249 σ16) (fun e σ => some (.inr e, σ)) ∧ MT X (tE X c3) f4 g4 ∧ f4 12 b = nI s ∧ f4 13 b = nI hh ∧ f4 14 (21 + b) = nI 0 ∧ (∀ p i, (p ≠ 0 ∨ i < 19 ∨ 24 < i) → ((p ≠ 12 ∧ p ≠ 13) ∨ i ≠ b) → (p ≠ 14 ∨ (i ≠ 13 + b ∧ i ≠ 21 + b)) → f4 p i = f p i) ∧ ∀ q, q ≠ 0 → g4 q = g q := by
            intro f g t h
            obtain ⟨f3, g3, a1, a2, a3, a4, a5, a6, a7, a8⟩ := mod2 f g t h
            obtain ⟨f4, g4, b1, b2, b3, b4⟩ := m_goes xo f3 g3 ce3 a2.1 a2.2.1
            have h29 : f4 0 29 = nI (lB (oLd D)) := by rw [b3 0 29 (by omega), a7 0 29 (by omega) (by omega) (by omega)]; exact h.2.2.2.1.2.2.2.1
            refine ⟨f4, g4, ?_, b2, by rw [b3 12 b (by omega)]; exact a3, by rw [b3 13 b (by omega)]; exact a4, by rw [b3 14 _ (by omega)]; exact a6, fun p i k1 k2 k3 => by rw [b3 p i (by omega), a7 p i k1 k2 k3], fun q hq => (b4 q hq).trans (a8 q hq)⟩
            rw [a1, und, if_pos (by decide), b1, c_V]
            show en_cV (en_cI (x_m_isOneOf_0 (f4, g4) (f4 0 29)) _ _) _ _ = _
            rw [h29]
          by_cases n3 : naF X (tE X c3) (lB (oLd D)) = 0
          · obtain ⟨y1, y2⟩ := na.2 n3
            have cg4 := tE_c' (X := X) (c := tE X c3) (by omega)
            have ce4 := tE_le ce3
            refine ⟨_, fin (tE X (tE X c3)) (nI (tV X (tE X c3))) ce4 (by omega) (Or.inr ⟨_, y2, rfl⟩), fun f g h => ?_, fun f g t h => ?_⟩
            · obtain ⟨f4, a1, a2, a3, a4, a5⟩ := cls3 f g h
              obtain ⟨f5, b1, b2, b3⟩ := (c_name xo f4 g ce3 a2 (by rw [a5 66 9 (by omega) (by omega)]; exact h.2.1) (many := lB (oLd D)) (by omega)).1 n3
              obtain ⟨d1, d2⟩ := finC (tE X (tE X c3)) (nI (tV X (tE X c3))) f (en_u1 f5 59 b (nI (tV X (tE X c3)))) g h (CT_of b2 (fun i _ _ => u1_ne _ _ (by omega)) (fun i => u1_ne _ _ (by omega))) (by rw [u1_ne _ _ (by omega), b3 57 b (by omega)]; exact a3) (by rw [u1_ne _ _ (by omega), b3 58 b (by omega)]; exact a4) (u1_at _ _ _ _) (fun p i k1 k2 => by rw [u1_ne _ _ (by omega), b3 p i k1, a5 p i k1 k2])
              refine ⟨_, ?_, d2⟩
              rw [cls f g h]
              refine cV_id ?_
              rw [a1, b1, c_I]
              exact d1
            · obtain ⟨f4, g4, a1, a2, a3, a4, a5, a6, a7⟩ := mod3 f g t h
              have on := (m_oneOf xo f4 g4 ce3 a2 (by rw [a6 0 15 (by omega) (by omega) (by omega)]; exact h.2.1) (many := lB (oLd D)) (by omega)).1 n3
              have h23 : f4 0 23 = nI (tV X (tE X c3)) := a2.2.2.2.2.2.1
              have T5 : MT X (tE X c3) (en_u1 f4 14 (13 + b) (nI (tV X (tE X c3)))) g4 := MT_of a2 (fun i _ _ => u1_ne _ _ (by omega)) (fun i => u1_ne _ _ (by omega))
              obtain ⟨f5, g5, b1, b2, b3, b4⟩ := m_goes xo (en_u1 f4 14 (13 + b) (nI (tV X (tE X c3)))) g4 ce4 T5.1 T5.2.1
              obtain ⟨f6, g6, d1, d2⟩ := finM (tE X (tE X c3)) (nI (tV X (tE X c3))) f g t f5 g5 h (by omega) b2 (by rw [b3 12 b (by omega), u1_ne _ _ (by omega)]; exact a3) (by rw [b3 13 b (by omega), u1_ne _ _ (by omega)]; exact a4) (by rw [b3 14 _ (by omega), u1_at]) (by rw [b3 14 _ (by omega), u1_ne _ _ (by omega)]; exact a5) (fun p i k1 k2 k3 => by rw [b3 p i (by omega), u1_ne _ _ (by omega), a6 p i k1 k2 k3]) (fun q hq => (b4 q hq).trans (a7 q hq))
              refine ⟨f6, g6, ?_, d2⟩
              rw [a1, on, c_I, if_neg (by decide)]
              show en_cV (en_cV (x_m_goes_0 (en_u1 f4 14 (13 + b) (f4 0 23), g4)) _ _) _ _ = _
              rw [h23, b1, c_V]
              exact d1
          · refine ⟨.inr (naF X (tE X c3) (lB (oLd D)), tS X (tE X c3)), ⟨by show 1 ≤ naF X (tE X c3) (lB (oLd D)) ∧ naF X (tE X c3) (lB (oLd D)) ≤ 5; omega, tS7 xo ce3⟩, fun f g h => ?_, fun f g t h => ?_⟩
            · obtain ⟨f4, a1, a2, a3, a4, a5⟩ := cls3 f g h
              have b1 := (c_name xo f4 g ce3 a2 (by rw [a5 66 9 (by omega) (by omega)]; exact h.2.1) (many := lB (oLd D)) (by omega)).2.1 (-1) n3
              have bad := CFt_of (CFt_ref (k := naF X (tE X c3) (lB (oLd D))) a2) (show CF f f4 from fun p i k => a5 p i (by omega) (by omega))
              obtain ⟨f5, d1, d2⟩ := CFt_107 g (CFt_u bad (p := 59) (i := b) (f4 66 6) (by omega))
              refine ⟨f5, ?_, d2⟩
              rw [cls f g h]
              refine cV_id ?_
              rw [a1, b1, c_I]
              exact d1
            · obtain ⟨f4, g4, a1, a2, a3, a4, a5, a6, a7⟩ := mod3 f g t h
              have on := (m_oneOf xo f4 g4 ce3 a2 (by rw [a6 0 15 (by omega) (by omega) (by omega)]; exact h.2.1) (many := lB (oLd D)) (by omega)).2 n3
              have bad := MFt_of (MFt_wr (k := naF X (tE X c3) (lB (oLd D))) a2) (show MF f f4 from fun p i k1 k2 => a6 p i (by omega) (by omega) (by omega)) a7
              refine ⟨_, _, ?_, bad⟩
              rw [a1, on, c_I, if_pos (by decide)]
              rfl
        · refine ⟨_, fin c3 nN ce2 (by omega) (Or.inl rfl), fun f g h => ?_, fun f g t h => ?_⟩
          · obtain ⟨f3, a1, a2, a3, a4, a5, a6⟩ := cls2 f g h
            obtain ⟨d1, d2⟩ := finC c3 nN f f3 g h a2 a3 a4 a5 a6
            refine ⟨_, ?_, d2⟩
            rw [cls f g h]
            refine cV_id ?_
            rw [a1, c_w11 xo f3 g a2, c_I, if_pos (tb_n (decide_eq_false und))]
            exact d1
          · obtain ⟨f3, g3, a1, a2, a3, a4, a5, a6, a7, a8⟩ := mod2 f g t h
            obtain ⟨f6, g6, d1, d2⟩ := finM c3 nN f g t f3 g3 h (by omega) a2 a3 a4 a5 a6 a7 a8
            refine ⟨f6, g6, ?_, d2⟩
            rw [a1, if_neg (by rw [q_11, kI_eq (by omega)]; exact und)]
            exact d1
      · refine ⟨.inr (nuF X (tE X (tE X c)) 1 9, tS X (tE X (tE X c))), ⟨by show 1 ≤ nuF X (tE X (tE X c)) 1 9 ∧ nuF X (tE X (tE X c)) 1 9 ≤ 5; omega, tS7 xo ce1⟩, fun f g h => ?_, fun f g t h => ?_⟩
        · obtain ⟨f2, a1, a2, a3, a4⟩ := cls1 f g h
          have b1 := (c_number xo f2 g ce1 a2 (by rw [a4 66 9 (by omega) (by omega)]; exact h.2.1) (lo := 1) (hi := 9) (by omega) (by omega)).2 n2
          have bad := CFt_of (CFt_ref (k := nuF X (tE X (tE X c)) 1 9) a2) (show CF f f2 from fun p i k => a4 p i (by omega) (by omega))
          obtain ⟨f5, d1, d2⟩ := K3B f _ g _ _ (by omega) bad (f2 66 6)
          refine ⟨f5, ?_, d2⟩
          rw [cls f g h]
          refine cV_id ?_
          rw [a1, show x_rd_readNumber_0 (f2, g) 1 9 = _ from b1, c_I]
          exact d1
        · obtain ⟨f2, g2, a1, a2, a3, a4, a5⟩ := mod1 f g t h
          obtain ⟨v, b1⟩ := (m_number xo f2 g2 ce1 a2 (by rw [a4 0 15 (by omega) (by omega)]; exact h.2.1) (lo := 1) (hi := 9) (by omega) (by omega)).2 n2
          have bad := MFt_of (MFt_wr (k := nuF X (tE X (tE X c)) 1 9) a2) (show MF f f2 from fun p i k1 k2 => a4 p i (by omega) (by omega)) a5
          generalize en_u1 (en_u1 f2 0 15 (nI (nuF X (tE X (tE X c)) 1 9))) 0 16 (f2 0 21) = fb at b1 bad
          have bad2 : MFt (nuF X (tE X (tE X c)) 1 9) (tS X (tE X (tE X c))) f g (en_u1 (en_u1 (en_u1 fb 13 b v) 14 (13 + b) (-1)) 14 (21 + b) 0) g2 := ⟨by rw [u1_ne _ _ (by omega), u1_ne _ _ (by omega), u1_ne _ _ (by omega)]; exact bad.1, by rw [u1_ne _ _ (by omega), u1_ne _ _ (by omega), u1_ne _ _ (by omega)]; exact bad.2.1, MF_trans bad.2.2.1 (MF_trans (MF_u _ _ (by omega)) (MF_trans (MF_u _ _ (by omega)) (MF_u _ _ (by omega)))), bad.2.2.2⟩
          refine ⟨_, _, ?_, bad2⟩
          rw [a1, show x_m_number_0 (f2, g2) 1 9 = _ from b1, c_I]
          show en_cV (R3 (en_u1 (en_u1 (en_u1 fb 13 b v) 14 (13 + b) (-1)) 14 (21 + b) 0, g2)) _ _ = _
          rw [R3B f _ g g2 _ _ (by omega) bad2, c_V]
    · refine ⟨.inr (nuF X (tE X c) 1 40, tS X (tE X c)), ⟨by show 1 ≤ nuF X (tE X c) 1 40 ∧ nuF X (tE X c) 1 40 ≤ 5; omega, tS7 xo ce⟩, fun f g h => ?_, fun f g t h => ?_⟩
      · obtain ⟨f1, a1, a2, a3⟩ := cls0 f g h
        have b1 := (c_number xo f1 g ce a2.1 a2.2.1 (lo := 1) (hi := 40) (by omega) (by omega)).2 n1
        have bad := CFt_u (CFt_of (CFt_ref (k := nuF X (tE X c) 1 40) a2.1) (CF_CN a3)) (p := 57) (i := b) (f1 66 6) (by omega)
        obtain ⟨f5, d1, d2⟩ := K3B f _ g _ _ (by omega) bad 1
        refine ⟨f5, ?_, d2⟩
        rw [cls f g h]
        refine cV_id ?_
        rw [a1, show x_rd_readNumber_0 (f1, g) 1 40 = _ from b1, c_I]
        show en_cI (x_rd_readNumber_0 (en_u1 (en_u1 (en_u1 f1 66 9 (nI (nuF X (tE X c) 1 40))) 66 10 (f1 66 3)) 57 b (f1 66 6), g) 1 9) _ _ = _
        rw [c_num9 _ g (CFt_9 bad (by omega)), c_I]
        exact d1
      · obtain ⟨f1, g1, a1, a2, a3, a4⟩ := mod0 f g t h
        obtain ⟨v, b1⟩ := (m_number xo f1 g1 ce a2.1 a2.2.1 (lo := 1) (hi := 40) (by omega) (by omega)).2 n1
        have bad := MFt_of (MFt_wr (k := nuF X (tE X c) 1 40) a2.1) (MF_MN a3) a4
        generalize en_u1 (en_u1 f1 0 15 (nI (nuF X (tE X c) 1 40))) 0 16 (f1 0 21) = fb at b1 bad
        have bad2 := R3F f fb g g1 _ _ v 0 bad
        refine ⟨_, _, ?_, bad2⟩
        rw [a1, show x_m_number_0 (f1, g1) 1 40 = _ from b1, c_I]
        show en_cV (en_cI (x_m_number_0 (en_u1 fb 12 b v, g1) 1 9) _ _) _ _ = _
        rw [m_num9 (en_u1 fb 12 b v) g1 (k := nuF X (tE X c) 1 40) (by omega) (by rw [u1_ne _ _ (by omega)]; exact bad.1), c_I]
        show en_cV (R3 (en_u1 (en_u1 (en_u1 (en_u1 fb 12 b v) 13 b 0) 14 (13 + b) (-1)) 14 (21 + b) 0, g1)) _ _ = _
        rw [R3B f _ g g1 _ _ (by omega) bad2, c_V]
  · have r8 : lP (oLd D) = 8 := by omega
    refine ⟨.inr (2, tS X c), ⟨by show 1 ≤ 2 ∧ 2 ≤ 5; omega, tS7 xo hc⟩, fun f g h => ?_, fun f g t h => ?_⟩
    · refine ⟨_, ?_, CFt_ref (k := 2) h.1⟩
      have h1 : f 50 9 = nI (lP (oLd D)) := h.2.2.2.2.2.2.2.2.2.1
      rw [cls f g h]
      refine cV_id ?_
      rw [e_rd_readBearer_0, if_neg (show ¬ f 50 9 < 8 by rw [h1, r8]; decide)]
      exact cV_id (c_rdRefuse f g (nI 2))
    · refine ⟨_, _, ?_, MFt_wr (k := 2) h.1⟩
      have h3 : f 0 30 = nI (lP (oLd D)) := h.2.2.2.1.2.2.2.2.1
      rw [e_m_line_0, m_known xo f g h.1 hc, c_I, hk, if_neg (by decide), if_neg (by decide), if_neg (by decide), if_pos (by decide), if_pos (show f 0 30 = 8 by rw [h3, r8]; rfl), m_beg2 f g h.2.1, c_I, if_pos rfl]
