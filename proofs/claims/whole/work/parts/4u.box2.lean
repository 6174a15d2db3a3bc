/-! lines: boxes, whole -/
theorem ln_box {X : mu_X} (xo : XOK X) {c : Nat} {D : mu_Dr} (ok : DOK D) (hc : c ≤ X.1) (hk : kW X c = 9) : Pl X c D := by
  have n7 := xo.1
  obtain ⟨lo, go, to, wo, ho, an, tn⟩ := id ok
  have k1 := kW_1 (X := X) (c := c) (by omega)
  have cg := tE_c' (X := X) (c := c) (by omega)
  have ce := tE_le hc
  have l6 := lo.1
  have l8 := lo.2.1
  have g8 := go.2.1
  have cls : ∀ f g, CS X c D f → x_rd_readLine_0 (f, g) = en_cV (x_rd_readBox_0 (f, g)) (fun σ => some (.inl none, σ)) (fun e σ => some (.inr e, σ)) := fun f g h => by rw [c_line xo f g h.1, hk]; rfl
  by_cases full : lB (oLd D) < 6
  · obtain ⟨b, hb⟩ : ∃ b, b = lB (oLd D) := ⟨_, rfl⟩
    have cls0 : ∀ f g, CS X c D f → ∃ f1, x_rd_readBox_0 (f, g) = en_cI (x_rd_readNumber_0 (f1, g) 1 99) (fun r3 σ2 => en_cI (x_rd_readName_0 (en_u1 (en_u1 σ2.1 54 b r3) 66 8 1, σ2.2) (σ2.1 50 0) (-1)) (fun r5 σ4 => en_cV (x_ld_addStop_p50_0 σ4 (nI b) 0 r5) (fun σ6 => x_rd_readBox_68 σ6 (nI b) 1) (fun e σ => some (.inr e, σ))) (fun e σ => some (.inr e, σ))) (fun e σ => some (.inr e, σ)) ∧ CS X (tE X c) D f1 ∧ CN f f1 := by
      intro f g h
      have h5 : f 50 5 = nI b := by rw [hb]; exact h.2.2.2.2.2.2.2.2.1
      obtain ⟨f1, a1, a2, a3⟩ := CS_next xo lo hc f g h
      refine ⟨f1, ?_, a2, a3⟩
      rw [e_rd_readBox_0, if_pos (show f 50 5 < 6 by rw [h5, q_6]; exact nI_lt (by omega) (by omega)), a1, c_V]
      simp (disch := omega) only [h5, q_in, q_clamp, if_true]
    have bad68 : ∀ f fb g k q (n : Int32), 1 ≤ k ∧ k ≤ 5 → CFt k q f fb → ∃ f', x_rd_readBox_68 (fb, g) (nI b) n = rV (f', g) ∧ CFt k q f f' := by
      intro f fb g k q n hk5 hF
      refine ⟨en_u1 fb 50 5 (fb 50 5 + 1), ?_, CFt_u hF _ (by omega)⟩
      rw [e_rd_readBox_68]
      by_cases c6 : (6 : Int32) < n
      · rw [if_pos c6]; rfl
      · rw [if_neg c6, if_neg (show ¬ fb 66 9 = 0 from CFt_9 hF hk5)]; rfl
    have stB : ∀ f fb g k q (v : Int32), 1 ≤ k ∧ k ≤ 5 → CFt k q f fb → ∃ f', en_cV (x_ld_addStop_p50_0 (fb, g) (nI b) 0 v) (fun σ6 => x_rd_readBox_68 σ6 (nI b) 1) (fun e σ => some (.inr e, σ)) = rV (f', g) ∧ CFt k q f f' := by
      intro f fb g k q v hk5 hF
      obtain ⟨f', a1, a2⟩ := bad68 f _ g k q 1 hk5 (CFt_u (CFt_u hF (p := 56) (i := 6 * b + 0) v (by omega)) (p := 55) (i := b) (nI (0 + 1)) (by omega))
      refine ⟨f', ?_, a2⟩
      rw [show x_ld_addStop_p50_0 (fb, g) (nI b) 0 v = _ from c_addStop fb g (b := b) (k := 0) (by omega) (by omega) v, c_V]
      exact a1
    have mod0 : ∀ f g t, MS X c D t f g → ∃ f1 g1, x_m_line_0 (f, g) = en_cV (en_cI (x_m_number_0 (f1, g1) 1 99) (fun r2 σ1 => x_m_readsBox_34 (en_u1 (en_u1 σ1.1 14 (1 + b) r2) 14 (7 + b) 0, σ1.2) (nI b) 0 1) (fun e σ => some (.inr e, σ))) (fun σ16 => x_m_line_249 σ16) (fun e σ => some (.inr e, σ)) ∧ MS X (tE X c) D t f1 g1 ∧ MN f f1 ∧ ∀ q, q ≠ 0 → g1 q = g q := by
      intro f g t h
      have h4 : f 0 29 = nI b := by rw [hb]; exact h.2.2.2.1.2.2.2.1
      obtain ⟨f1, g1, a1, a2, a3, a4⟩ := m_begY xo lo hc f g h
      have h4' : f1 0 29 = nI b := by rw [hb]; exact a2.2.2.2.1.2.2.2.1
      refine ⟨f1, g1, ?_, a2, a3, a4⟩
      rw [e_m_line_0, m_known xo f g h.1 hc, c_I, hk, if_neg (by decide), if_neg (by decide), if_pos (by decide), if_neg (show ¬ f 0 29 = 6 by rw [h4, q_6, q_eqI (by omega) (by omega)]; omega), a1, c_I, if_neg i10, e_m_readsBox_0]
      have z1 : (1 : Int32) + nI b = nI (1 + b) := nI_add 1 b
      have z7 : (7 : Int32) + nI b = nI (7 + b) := nI_add 7 b
      simp (disch := omega) only [h4', z1, z7, q_in, q_clamp, if_true]
    have nu1 := nuF_c X (tE X c) 1 99
    by_cases n1 : nuF X (tE X c) 1 99 = 0
    · obtain ⟨v1, v2, v3, v4⟩ := nu1.2 n1
      have cg1 := tE_c' (X := X) (c := tE X c) (by omega)
      have ce1 := tE_le ce
      obtain ⟨w, hw⟩ : ∃ s, s = tV X (tE X c) := ⟨_, rfl⟩
      rw [← hw] at v3 v4
      obtain ⟨c2, hc2⟩ : ∃ c2, c2 = tE X (tE X c) := ⟨_, rfl⟩
      rw [← hc2] at cg1 ce1
      have cls1 : ∀ f g, CS X c D f → ∃ f2, x_rd_readBox_0 (f, g) = en_cI (x_rd_readName_0 (f2, g) (nI (oGd D).1) (-1)) (fun r5 σ4 => en_cV (x_ld_addStop_p50_0 σ4 (nI b) 0 r5) (fun σ6 => x_rd_readBox_68 σ6 (nI b) 1) (fun e σ => some (.inr e, σ))) (fun e σ => some (.inr e, σ)) ∧ CS X c2 (anD D) f2 ∧ f2 54 b = nI w ∧ CF f f2 := by
        intro f g h
        obtain ⟨f1, a1, a2, a3⟩ := cls0 f g h
        obtain ⟨f2, b1, b2, b3⟩ := (c_number xo f1 g ce a2.1 a2.2.1 (lo := 1) (hi := 99) (by omega) (by omega)).1 n1
        rw [← hc2] at b2
        have C2 := CS_CN lo a2 b2 b3
        have h50 : f2 50 0 = nI (oGd D).1 := C2.2.2.2.2.2.1
        obtain ⟨h1, h2, h3, h4, h5, h6, h7, h8, h9, h10, h11, h12⟩ := C2.2.2.2
        have F : ∀ p i, (p ≠ 66 ∨ i ≠ 8) → (p ≠ 54 ∨ i ≠ b) → en_u1 (en_u1 f2 54 b (nI w)) 66 8 1 p i = f2 p i := fun p i k1 k2 => by rw [u1_ne _ _ (by omega), u1_ne _ _ (by omega)]
        refine ⟨en_u1 (en_u1 f2 54 b (nI w)) 66 8 1, ?_, ⟨CT_of C2.1 (fun i _ _ => F _ _ (by omega) (by omega)) (fun i => F _ _ (by omega) (by omega)), ?_, ?_, ?_, u1_at _ _ _ _, ?_, ?_, fun i hi => ?_, ?_, ?_, fun x hx => ?_, fun x hx k hk => ?_, fun p hp => ?_, ?_, ?_⟩, ?_, CF_trans (CF_CN a3) (CF_trans (CF_CN b3) (CF_trans (CF_u _ _ (by omega)) (CF_u _ _ (by omega))))⟩
        · rw [a1, show x_rd_readNumber_0 (f1, g) 1 99 = _ from b1, c_I, ← hw]
          show en_cI (x_rd_readName_0 (en_u1 (en_u1 f2 54 b (nI w)) 66 8 1, g) (f2 50 0) (-1)) _ _ = _
          rw [h50]
        · rw [F 66 9 (by omega) (by omega)]; exact C2.2.1
        · rw [F 66 10 (by omega) (by omega)]; exact C2.2.2.1
        · rw [F 66 7 (by omega) (by omega)]; exact h1
        · rw [F 50 0 (by omega) (by omega)]; exact h3
        · rw [F 50 1 (by omega) (by omega)]; exact h4
        · rw [F 51 i (by omega) (by omega), F 52 i (by omega) (by omega), F 53 i (by omega) (by omega)]; exact h5 i hi
        · rw [F 50 5 (by omega) (by omega)]; exact h6
        · rw [F 50 9 (by omega) (by omega)]; exact h7
        · have hx' : x < lB (oLd D) := hx
          rw [F 54 x (by omega) (by omega), F 55 x (by omega) (by omega)]; exact h8 x hx
        · rw [F 56 _ (by omega) (by omega)]; exact h9 x hx k hk
        · rw [F 57 p (by omega) (by omega), F 58 p (by omega) (by omega), F 59 p (by omega) (by omega)]; exact h10 p hp
        · exact cRq_of (fun p i a => F p i (by omega) (by omega)) _ h11
        · exact cRq_of (fun p i a => F p i (by omega) (by omega)) _ h12
        · rw [u1_ne _ _ (by omega), u1_at]
      have mod1 : ∀ f g t, MS X c D t f g → ∃ f2 g2, x_m_line_0 (f, g) = en_cV (en_cI (x_m_isOneOf_0 (f2, g2) (nI (oGd D).1)) (fun r4 σ3 => if r4 = 0 then some (.inl none, σ3) else en_cV (x_m_goes_0 (en_u1 (en_u1 σ3.1 0 26 1) 10 (6 * b + 0) (σ3.1 0 23), σ3.2)) (fun σ5 => if σ5.1 0 20 = 2 then x_m_readsBox_34 σ5 (nI b) (nI (0 + 1)) 1 else x_m_readsBox_34 σ5 (nI b) (nI (0 + 1)) 0) (fun e σ => some (.inr e, σ))) (fun e σ => some (.inr e, σ))) (fun σ16 => x_m_line_249 σ16) (fun e σ => some (.inr e, σ)) ∧ MS X c2 D t f2 g2 ∧ f2 14 (1 + b) = nI w ∧ f2 14 (7 + b) = nI 0 ∧ MF f f2 ∧ ∀ q, q ≠ 0 → g2 q = g q := by
        intro f g t h
        obtain ⟨f1, g1, a1, a2, a3, a4⟩ := mod0 f g t h
        obtain ⟨f2, g2, b1, b2, b3, b4⟩ := (m_number xo f1 g1 ce a2.1 a2.2.1 (lo := 1) (hi := 99) (by omega) (by omega)).1 n1
        rw [← hc2] at b2
        have M2 := MS_MN lo a2 b2 b3 (by omega)
        have M3 : MS X c2 D t (en_u1 (en_u1 f2 14 (1 + b) (nI w)) 14 (7 + b) 0) g2 := by
          refine ⟨MT_of M2.1 (fun i _ _ => by rw [u1_ne _ _ (by omega), u1_ne _ _ (by omega)]) (fun i => by rw [u1_ne _ _ (by omega), u1_ne _ _ (by omega)]), by rw [u1_ne _ _ (by omega), u1_ne _ _ (by omega)]; exact M2.2.1, by rw [u1_ne _ _ (by omega), u1_ne _ _ (by omega)]; exact M2.2.2.1, MDr_of lo M2.2.2.2.1 (fun p i hd => ?_), M2.2.2.2.2⟩
          unfold MDm at hd
          rw [u1_ne _ _ (by omega), u1_ne _ _ (by omega)]
        have tw := m_towns ok _ g2 M3.2.2.2.1.1
        refine ⟨en_u1 (en_u1 f2 14 (1 + b) (nI w)) 14 (7 + b) 0, g2, ?_, M3, by rw [u1_ne _ _ (by omega), u1_at], u1_at _ _ _ _, MF_trans (MF_MN a3) (MF_trans (MF_MN b3) (MF_trans (MF_u _ _ (by omega)) (MF_u _ _ (by omega)))), fun q hq => (b4 q hq).trans (a4 q hq)⟩
        rw [a1, show x_m_number_0 (f1, g1) 1 99 = _ from b1, c_I, ← hw]
        show en_cV (x_m_readsBox_34 (en_u1 (en_u1 f2 14 (1 + b) (nI w)) 14 (7 + b) 0, g2) (nI b) (nI 0) 1) _ _ = _
        rw [e_m_readsBox_34, if_neg i10, m_good1 _ g2 M3.2.1, c_I, if_neg (by decide), if_neg (by decide), e_m_readsBox_64, tw, c_I]
        simp (disch := omega) only [q_6, pk_mul, nI_add, q_in, q_clamp, if_true, nI_1]
      have na := naF_c X c2 (oGd D).1
      by_cases n2 : naF X c2 (oGd D).1 = 0
      · obtain ⟨y1, y2⟩ := na.2 n2
        have cg2 := tE_c' (X := X) (c := c2) (by omega)
        have ce2 := tE_le ce1
        obtain ⟨o, oo, cl, mo⟩ := bx_loop xo ok full v3 v4 5 1 rfl (by omega) (tE X c2) ce2 (fun _ => tV X c2) (fun k hk => y2)
        rw [← hb] at cl mo
        have cC : ∀ f g, CS X c D f → ∃ f', x_rd_readLine_0 (f, g) = rV (f', g) ∧ PC X o f f' := by
          intro f g h
          obtain ⟨f2, a1, a2, a3, a4⟩ := cls1 f g h
          obtain ⟨f3, b1, b2, b3⟩ := (c_name xo f2 g ce1 a2.1 a2.2.1 (many := (oGd D).1) (by omega)).1 n2
          have C3 := CS_CN (D := anD D) lo a2 b2 b3
          have C4 : CS X (tE X c2) (anD D) (en_u1 (en_u1 f3 56 (6 * b + 0) (nI (tV X c2))) 55 b (nI (0 + 1))) := by
            refine ⟨CT_of C3.1 (fun i _ _ => by rw [u1_ne _ _ (by omega), u1_ne _ _ (by omega)]) (fun i => by rw [u1_ne _ _ (by omega), u1_ne _ _ (by omega)]), by rw [u1_ne _ _ (by omega), u1_ne _ _ (by omega)]; exact C3.2.1, by rw [u1_ne _ _ (by omega), u1_ne _ _ (by omega)]; exact C3.2.2.1, CDr_of (D := anD D) lo C3.2.2.2 (fun p i hd => ?_)⟩
            have hd' : (p = 66 ∧ (i = 7 ∨ i = 8)) ∨ p = 50 ∨ ((p = 51 ∨ p = 52 ∨ p = 53) ∧ i < (oGd D).2.1) ∨ ((p = 54 ∨ p = 55) ∧ i < lB (oLd D)) ∨ (p = 56 ∧ i < 6 * lB (oLd D)) ∨ ((p = 57 ∨ p = 58 ∨ p = 59) ∧ i < lP (oLd D)) ∨ (60 ≤ p ∧ p ≤ 65) := hd
            rw [u1_ne _ _ (by omega), u1_ne _ _ (by omega)]
          obtain ⟨f', d1, d2⟩ := cl _ g C4 (by rw [u1_ne _ _ (by omega), u1_ne _ _ (by omega), b3 54 b (by omega)]; exact a3) (u1_at _ _ _ _) (fun k hk => by rw [show k = 0 by omega, u1_ne _ _ (by omega), u1_at])
          refine ⟨f', ?_, ?_⟩
          · rw [cls f g h]
            refine cV_id ?_
            rw [a1, b1, c_I, show x_ld_addStop_p50_0 (f3, g) (nI b) 0 (nI (tV X c2)) = _ from c_addStop f3 g (b := b) (k := 0) (by omega) (by omega) (nI (tV X c2)), c_V]
            exact d1
          · have FF : CF f (en_u1 (en_u1 f3 56 (6 * b + 0) (nI (tV X c2))) 55 b (nI (0 + 1))) := CF_trans a4 (CF_trans (CF_CN b3) (CF_trans (CF_u _ _ (by omega)) (CF_u _ _ (by omega))))
            cases o with
            | inr z => exact CFt_of d2 FF
            | inl z => exact ⟨d2.1, CF_trans FF d2.2⟩
        have mM : ∀ f g t, MS X c D t f g → ∃ f' g', x_m_line_0 (f, g) = x_m_line_249 (f', g') ∧ PM X o f g f' g' := by
          intro f g t h
          obtain ⟨f2, g2, a1, a2, a3, a4, a5, a6⟩ := mod1 f g t h
          have on := (m_oneOf xo f2 g2 ce1 a2.1 a2.2.1 (many := (oGd D).1) (by omega)).1 n2
          have h23 : f2 0 23 = nI (tV X c2) := a2.1.2.2.2.2.2.1
          have F : ∀ p i, (p ≠ 0 ∨ i ≠ 26) → (p ≠ 10 ∨ i ≠ 6 * b + 0) → en_u1 (en_u1 f2 0 26 1) 10 (6 * b + 0) (nI (tV X c2)) p i = f2 p i := fun p i k1 k2 => by rw [u1_ne _ _ (by omega), u1_ne _ _ (by omega)]
          obtain ⟨h1, h2, h3, h4, h5, h6, h7, h8, h9, h10, h11, h12, h13⟩ := a2.2.2.2.1
          have M3 : MS X c2 (anD D) t (en_u1 (en_u1 f2 0 26 1) 10 (6 * b + 0) (nI (tV X c2))) g2 := by
            refine ⟨MT_of a2.1 (fun i _ _ => F _ _ (by omega) (by omega)) (fun i => F _ _ (by omega) (by omega)), ?_, ?_, ⟨?_, by rw [u1_ne _ _ (by omega), u1_at]; rfl, ?_, ?_, ?_, ?_, ?_, ?_, ⟨fun i hi => ?_, fun x y hx hy => ?_⟩, ?_, fun x hx => ?_, fun x hx k hk => ?_, fun p hp => ?_⟩, a2.2.2.2.2⟩
            · rw [F 0 15 (by omega) (by omega)]; exact a2.2.1
            · rw [F 0 16 (by omega) (by omega)]; exact a2.2.2.1
            · rw [F 0 27 (by omega) (by omega)]; exact h1
            · rw [F 0 28 (by omega) (by omega)]; exact h3
            · rw [F 0 29 (by omega) (by omega)]; exact h4
            · rw [F 0 30 (by omega) (by omega)]; exact h5
            · rw [F 0 33 (by omega) (by omega)]; exact h6
            · rw [F 0 31 (by omega) (by omega)]; exact mRq_of (Nat.le_refl _) (fun i _ => F 15 i (by omega) (by omega)) _ h7
            · rw [F 0 32 (by omega) (by omega)]; exact mRq_of (Nat.le_refl _) (fun i _ => F 15 i (by omega) (by omega)) _ h8
            · rw [F 9 _ (by omega) (by omega), F 9 _ (by omega) (by omega)]; exact h9.1 i hi
            · rw [F 9 _ (by omega) (by omega)]; exact h9.2 x y hx hy
            · rw [F 14 0 (by omega) (by omega)]; exact h10
            · rw [F 14 _ (by omega) (by omega), F 14 _ (by omega) (by omega), F 11 _ (by omega) (by omega)]; exact h11 x hx
            · have hx' : x < lB (oLd D) := hx
              have hk' : k < lR (oLd D) x := hk
              have := (lo.2.2.1 x hx').2
              rw [F 10 _ (by omega) (by omega)]; exact h12 x hx k hk
            · rw [F 12 p (by omega) (by omega), F 13 p (by omega) (by omega), F 14 _ (by omega) (by omega), F 14 _ (by omega) (by omega)]; exact h13 p hp
          obtain ⟨f3, g3, b1, b2, b3, b4⟩ := MS_go xo (D := anD D) lo ce1 _ g2 M3
          obtain ⟨f', g', d1, d2⟩ := mo f3 g3 t b2 (by rw [b3 14 _ (by omega), F 14 _ (by omega) (by omega)]; exact a3) (by rw [b3 14 _ (by omega), F 14 _ (by omega) (by omega)]; exact a4) (fun k hk => by rw [show k = 0 by omega, b3 10 _ (by omega), u1_at])
          refine ⟨f', g', ?_, ?_⟩
          · rw [a1, on, c_I, if_neg (by decide)]
            show en_cV (en_cV (x_m_goes_0 (en_u1 (en_u1 f2 0 26 1) 10 (6 * b + 0) (f2 0 23), g2)) _ _) _ _ = _
            rw [h23, b1, c_V]
            have h20 : f3 0 20 = nI (tK X (tE X c2)) := b2.1.2.2.1
            have k4' := tK_4 X (tE X c2)
            by_cases q : tK X (tE X c2) = 2
            · rw [if_pos q] at d1
              rw [if_pos (show f3 0 20 = 2 by rw [h20, q]; rfl), show x_m_readsBox_34 (f3, g3) (nI b) (nI (0 + 1)) 1 = _ from d1, c_V]
            · rw [if_neg q] at d1
              rw [if_neg (show ¬ f3 0 20 = 2 by rw [h20, q_2, q_eqI (by omega) (by omega)]; exact q), show x_m_readsBox_34 (f3, g3) (nI b) (nI (0 + 1)) 0 = _ from d1, c_V]
          · have FF : MF f f3 := MF_trans a5 (MF_trans (MF_u0 _ _ (by omega)) (MF_trans (MF_u _ _ (by omega)) (MF_MN b3)))
            have gg : ∀ q, q ≠ 0 → g3 q = g q := fun q hq => (b4 q hq).trans (a6 q hq)
            cases o with
            | inr z => exact MFt_of d2 FF gg
            | inl z => exact ⟨d2.1, MF_trans FF d2.2.1, fun q hq => (d2.2.2 q hq).trans (gg q hq)⟩
        cases o with
        | inr z => exact ⟨.inr z, oo, cC, mM⟩
        | inl z => exact ⟨.inl z, ⟨oo.1, by have := oo.2.1; show c < z.1; omega, oo.2.2⟩, cC, mM⟩
      · refine ⟨.inr (naF X c2 (oGd D).1, tS X c2), ⟨by show 1 ≤ naF X c2 (oGd D).1 ∧ naF X c2 (oGd D).1 ≤ 5; omega, tS7 xo ce1⟩, fun f g h => ?_, fun f g t h => ?_⟩
        · obtain ⟨f2, a1, a2, a3, a4⟩ := cls1 f g h
          have b1 := (c_name xo f2 g ce1 a2.1 a2.2.1 (many := (oGd D).1) (by omega)).2.1 (-1) n2
          obtain ⟨f5, d1, d2⟩ := stB f _ g _ _ (f2 66 6) (by omega) (CFt_of (CFt_ref (k := naF X c2 (oGd D).1) a2.1) a4)
          refine ⟨f5, ?_, d2⟩
          rw [cls f g h]
          refine cV_id ?_
          rw [a1, b1, c_I]
          exact d1
        · obtain ⟨f2, g2, a1, a2, a3, a4, a5, a6⟩ := mod1 f g t h
          have on := (m_oneOf xo f2 g2 ce1 a2.1 a2.2.1 (many := (oGd D).1) (by omega)).2 n2
          refine ⟨_, _, ?_, MFt_of (MFt_wr (k := naF X c2 (oGd D).1) a2.1) a5 a6⟩
          rw [a1, on, c_I, if_pos (by decide)]
          rfl
    · refine ⟨.inr (nuF X (tE X c) 1 99, tS X (tE X c)), ⟨by show 1 ≤ nuF X (tE X c) 1 99 ∧ nuF X (tE X c) 1 99 ≤ 5; omega, tS7 xo ce⟩, fun f g h => ?_, fun f g t h => ?_⟩
      · obtain ⟨f1, a1, a2, a3⟩ := cls0 f g h
        have b1 := (c_number xo f1 g ce a2.1 a2.2.1 (lo := 1) (hi := 99) (by omega) (by omega)).2 n1
        have bad0 := CFt_of (CFt_ref (k := nuF X (tE X c) 1 99) a2.1) (CF_CN a3)
        generalize en_u1 (en_u1 f1 66 9 (nI (nuF X (tE X c) 1 99))) 66 10 (f1 66 3) = fb at b1 bad0
        have bad : CFt (nuF X (tE X c) 1 99) (tS X (tE X c)) f (en_u1 (en_u1 fb 54 b (f1 66 6)) 66 8 1) := ⟨by rw [u1_ne _ _ (by omega), u1_ne _ _ (by omega)]; exact bad0.1, by rw [u1_ne _ _ (by omega), u1_ne _ _ (by omega)]; exact bad0.2.1, CF_trans bad0.2.2 (CF_trans (CF_u _ _ (by omega)) (CF_u _ _ (by omega)))⟩
        obtain ⟨f5, d1, d2⟩ := stB f _ g _ _ 0 (by omega) bad
        refine ⟨f5, ?_, d2⟩
        rw [cls f g h]
        refine cV_id ?_
        rw [a1, show x_rd_readNumber_0 (f1, g) 1 99 = _ from b1, c_I]
        show en_cI (x_rd_readName_0 (en_u1 (en_u1 fb 54 b (f1 66 6)) 66 8 1, g) (fb 50 0) (-1)) _ _ = _
        rw [c_name9 _ g (CFt_9 bad (by omega)), c_I]
        exact d1
      · obtain ⟨f1, g1, a1, a2, a3, a4⟩ := mod0 f g t h
        obtain ⟨v, b1⟩ := (m_number xo f1 g1 ce a2.1 a2.2.1 (lo := 1) (hi := 99) (by omega) (by omega)).2 n1
        have bad := MFt_of (MFt_wr (k := nuF X (tE X c) 1 99) a2.1) (MF_MN a3) a4
        generalize en_u1 (en_u1 f1 0 15 (nI (nuF X (tE X c) 1 99))) 0 16 (f1 0 21) = fb at b1 bad
        have bad2 : MFt (nuF X (tE X c) 1 99) (tS X (tE X c)) f g (en_u1 (en_u1 (en_u1 fb 14 (1 + b) v) 14 (7 + b) 0) 11 b (nI 0)) g1 := ⟨by rw [u1_ne _ _ (by omega), u1_ne _ _ (by omega), u1_ne _ _ (by omega)]; exact bad.1, by rw [u1_ne _ _ (by omega), u1_ne _ _ (by omega), u1_ne _ _ (by omega)]; exact bad.2.1, MF_trans bad.2.2.1 (MF_trans (MF_u _ _ (by omega)) (MF_trans (MF_u _ _ (by omega)) (MF_u _ _ (by omega)))), bad.2.2.2⟩
        refine ⟨_, _, ?_, bad2⟩
        have gd : en_u1 (en_u1 fb 14 (1 + b) v) 14 (7 + b) 0 0 15 = nI (nuF X (tE X c) 1 99) := by rw [u1_ne _ _ (by omega), u1_ne _ _ (by omega)]; exact bad.1
        rw [a1, show x_m_number_0 (f1, g1) 1 99 = _ from b1, c_I]
        show en_cV (x_m_readsBox_34 (en_u1 (en_u1 fb 14 (1 + b) v) 14 (7 + b) 0, g1) (nI b) (nI 0) 1) _ _ = _
        rw [e_m_readsBox_34, if_neg i10, m_good0 _ g1 (k := nuF X (tE X c) 1 99) (by omega) gd, c_I, if_pos (by decide)]
        simp (disch := omega) only [q_in, q_clamp, if_true]
        rw [m_good0 _ g1 (k := nuF X (tE X c) 1 99) (by omega) bad2.1, c_I, if_pos (by decide)]
        rfl
  · have r6 : lB (oLd D) = 6 := by omega
    refine ⟨.inr (2, tS X c), ⟨by show 1 ≤ 2 ∧ 2 ≤ 5; omega, tS7 xo hc⟩, fun f g h => ?_, fun f g t h => ?_⟩
    · refine ⟨_, ?_, CFt_ref (k := 2) h.1⟩
      have h1 : f 50 5 = nI (lB (oLd D)) := h.2.2.2.2.2.2.2.2.1
      rw [cls f g h]
      refine cV_id ?_
      rw [e_rd_readBox_0, if_neg (show ¬ f 50 5 < 6 by rw [h1, r6]; decide)]
      exact cV_id (c_rdRefuse f g (nI 2))
    · refine ⟨_, _, ?_, MFt_wr (k := 2) h.1⟩
      have h3 : f 0 29 = nI (lB (oLd D)) := h.2.2.2.1.2.2.2.1
      rw [e_m_line_0, m_known xo f g h.1 hc, c_I, hk, if_neg (by decide), if_neg (by decide), if_pos (by decide), if_pos (show f 0 29 = 6 by rw [h3, r6]; rfl), m_beg2 f g h.2.1, c_I, if_pos rfl]
/-- any line -/
theorem ln_any {X : mu_X} (xo : XOK X) {c : Nat} {D : mu_Dr} (ok : DOK D) (hc : c ≤ X.1) : Pl X c D := by
  by_cases h7 : kW X c = 7
  · exact ln_towns xo ok hc h7
  by_cases h8 : kW X c = 8
  · exact ln_road xo ok hc h8
  by_cases h9 : kW X c = 9
  · exact ln_box xo ok hc h9
  by_cases h10 : kW X c = 10
  · exact ln_bearer xo ok hc h10
  by_cases h12 : kW X c = 12
  · exact ln_talk xo ok hc h12
  by_cases h13 : kW X c = 13
  · exact ln_falls xo ok hc h13
  exact ln_oth xo hc h7 h8 h9 h10 h12 h13
