/-! acts, second: the class keeps; hand, away, change, slander, praise, days -/
theorem c_writeTo {Λ : mu_Ld} {r : mu_Rw} (f : Nat → Nat → Int32) (g : Nat → Nat → Int64) (lo : lOK Λ) (hR : CRw Λ 67 r f) {b : Nat} (hb : b + 29 ≤ 1160) : ∃ f', x_st_writeTo_p67_80_0 (f, g) (nI b) = rV (f', g) ∧ pRw Λ 80 b r f' ∧ (∀ i, (i < b ∨ b + 29 ≤ i) → f' 80 i = f 80 i) ∧ (∀ p, p ≠ 80 → f' p = f p) := by
  have l1 := lo.1
  have l2 := lo.2.1
  rw [e_st_writeTo_p67_80_0]
  have e1 : nI b + 1 = nI (b + 1) := by rw [show (1 : Int32) = nI 1 by decide, nI_add]
  have e7 : nI b + 7 = nI (b + 7) := by rw [show (7 : Int32) = nI 7 by decide, nI_add]
  have e13 : nI b + 13 = nI (b + 13) := by rw [show (13 : Int32) = nI 13 by decide, nI_add]
  have e21 : nI b + 21 = nI (b + 21) := by rw [show (21 : Int32) = nI 21 by decide, nI_add]
  have c1 : (¬ (0 : Int32) < 0 ∧ ¬ nI b + 1 < 0 ∧ ¬ (6 : Int32) < 0 ∧ 0 + 6 ≤ 6 ∧ (nI b + 1).toNatClampNeg + 6 ≤ 1160) := by
    rw [e1, q_clamp (by omega)]
    exact ⟨by decide, nI_pos (by omega), by decide, by decide, by omega⟩
  have c7 : (¬ (0 : Int32) < 0 ∧ ¬ nI b + 7 < 0 ∧ ¬ (6 : Int32) < 0 ∧ 0 + 6 ≤ 6 ∧ (nI b + 7).toNatClampNeg + 6 ≤ 1160) := by
    rw [e7, q_clamp (by omega)]
    exact ⟨by decide, nI_pos (by omega), by decide, by decide, by omega⟩
  have c13 : (¬ (0 : Int32) < 0 ∧ ¬ nI b + 13 < 0 ∧ ¬ (8 : Int32) < 0 ∧ 0 + 8 ≤ 8 ∧ (nI b + 13).toNatClampNeg + 8 ≤ 1160) := by
    rw [e13, q_clamp (by omega)]
    exact ⟨by decide, nI_pos (by omega), by decide, by decide, by omega⟩
  have c21 : (¬ (0 : Int32) < 0 ∧ ¬ nI b + 21 < 0 ∧ ¬ (8 : Int32) < 0 ∧ 0 + 8 ≤ 8 ∧ (nI b + 21).toNatClampNeg + 8 ≤ 1160) := by
    rw [e21, q_clamp (by omega)]
    exact ⟨by decide, nI_pos (by omega), by decide, by decide, by omega⟩
  rw [if_pos (by rw [q_in (by omega) (by omega)]; trivial), if_pos c1, if_pos c7, if_pos c13, if_pos c21]
  rw [e1, e7, e13, e21, q_clamp (n := b) (by omega), q_clamp (n := b + 1) (by omega), q_clamp (n := b + 7) (by omega), q_clamp (n := b + 13) (by omega), q_clamp (n := b + 21) (by omega)]
  obtain ⟨h1, h2, h3, h4, h5⟩ := hR
  refine ⟨_, rfl, ⟨?_, fun x hx => ?_, fun x hx => ?_, fun x hx => ?_, fun x hx => ?_⟩, fun i hi => ?_, fun p hp => ?_⟩
  · rw [uf_at]
    simp (disch := omega) only [pk_cpy_out, u1_at]; exact h1
  · rw [uf_at]
    simp (disch := omega) only [pk_cpy_out, pk_cpy_in]
    rw [show 0 + (b + 1 + x - (b + 1)) = x by omega]; exact h2 x hx
  · rw [uf_at]
    simp (disch := omega) only [pk_cpy_out, pk_cpy_in]
    rw [show 0 + (b + 7 + x - (b + 7)) = x by omega]; exact h3 x hx
  · rw [uf_at]
    simp (disch := omega) only [pk_cpy_out, pk_cpy_in]
    rw [show 0 + (b + 13 + x - (b + 13)) = x by omega]; exact h4 x hx
  · rw [uf_at]
    simp (disch := omega) only [pk_cpy_out, pk_cpy_in]
    rw [show 0 + (b + 21 + x - (b + 21)) = x by omega]; exact h5 x hx
  · rw [uf_at]
    simp (disch := omega) only [pk_cpy_out, u1_ne]
  · simp (disch := omega) only [uf_ne, u1_p]
theorem c_keep {A : mu_A} (f : Nat → Nat → Int32) (g : Nat → Nat → Int64) (ok : AOK A) (h : CRel A f) : ∃ f', x_ps_keep_p79_67_0 (f, g) = rV (f', g) ∧ CRel (uP A (psK (aP A) (aR A))) f' ∧ (∀ p, p ≠ 79 → p ≠ 80 → f' p = f p) := by
  have lo := ok.1
  have hps := ok.2.2.2.2.1
  have h40 := hps.1
  obtain ⟨h1, h2, h3, h4, h5, h6, h7, h8, h9⟩ := h
  have A1 : ∃ f', x_ps_keep_p79_67_0 (f, g) = rV (f', g) ∧ hPs (aL A) 80 79 0 (psK (aP A) (aR A)) f' ∧ (∀ p, p ≠ 79 → p ≠ 80 → f' p = f p) := by
    rw [e_ps_keep_p79_67_0]
    unfold psK
    by_cases c : (aP A).1 = 40
    · have h79 : f 79 0 = nI 40 := by rw [h4.1, c]
      rw [if_pos c, if_neg (by show ¬ f 79 0 < 40; rw [h79]; decide)]
      have R1 : CRw (aL A) 67 (aR A) (en_uf (en_u1 f 79 0 39) 80 (va_cpy (f 80) (f 80) 29 0 1131)) := CRw_of h3 (by rw [uf_ne _ _ (by omega), u1_ne _ _ (by omega)]) (fun p _ _ => by rw [uf_ne _ _ (by omega), u1_p _ _ _ (by omega)])
      obtain ⟨f2, e2, r2, i2, j2⟩ := c_writeTo _ g lo R1 (b := 1131) (by omega)
      have h79' : f2 79 0 = nI 39 := by rw [j2 79 (by omega), uf_ne _ _ (by omega), u1_at]; rfl
      refine ⟨en_u1 f2 79 0 (f2 79 0 + nI 1), ?_, ⟨?_, fun k hk => ?_⟩, fun p a b => ?_⟩
      · rw [show x_st_writeTo_p67_80_0 (en_uf (en_u1 (f, g).1 79 0 39) 80 (va_cpy ((f, g).1 80) ((f, g).1 80) 29 0 1131), (f, g).2) 1131 = _ from e2, c_V]; rfl
      · rw [u1_at, h79', nI_add]
      · have hk' : k < 40 := hk
        show pRw _ _ _ (if k = 39 then aR A else (aP A).2 (k + 1)) _
        by_cases c2 : k = 39
        · rw [if_pos c2, c2]
          exact pRw_of lo r2 (fun i _ _ => u1_ne _ _ (by omega))
        · rw [if_neg c2]
          refine pRw_mv lo (h4.2 (k + 1) (by omega)) (fun i hi => ?_)
          rw [u1_ne _ _ (by omega), i2 _ (by omega), uf_at, pk_cpy_in (by omega) (by omega)]
          congr 1; omega
      · rw [u1_p _ _ _ a, j2 p b, uf_ne _ _ b, u1_p _ _ _ a]
    · rw [if_neg c, if_pos (by show f 79 0 < 40; rw [h4.1]; rw [show (40 : Int32) = nI 40 by decide]; exact nI_lt (show (aP A).1 < 40 by omega) (by omega))]
      have e29 : f 79 0 * 29 = nI ((aP A).1 * 29) := by rw [h4.1, show (29 : Int32) = nI 29 by decide, pk_mul]
      obtain ⟨f2, e2, r2, i2, j2⟩ := c_writeTo f g lo h3 (b := (aP A).1 * 29) (by omega)
      have h79' : f2 79 0 = nI (aP A).1 := by rw [j2 79 (by omega)]; exact h4.1
      refine ⟨en_u1 f2 79 0 (f2 79 0 + nI 1), ?_, ⟨?_, fun k hk => ?_⟩, fun p a b => ?_⟩
      · rw [show (f, g).1 79 0 * 29 = nI ((aP A).1 * 29) from e29, e2, c_V]; rfl
      · rw [u1_at, h79', nI_add]
      · have hk' : k < (aP A).1 + 1 := hk
        show pRw _ _ _ (if k = (aP A).1 then aR A else (aP A).2 k) _
        by_cases c2 : k = (aP A).1
        · rw [if_pos c2, c2]
          exact pRw_mv lo r2 (fun i hi => by rw [u1_ne _ _ (by omega), Nat.mul_comm])
        · rw [if_neg c2]
          refine pRw_mv lo (h4.2 k (by omega)) (fun i hi => ?_)
          rw [u1_ne _ _ (by omega), i2 _ (by omega)]
      · rw [u1_p _ _ _ a, j2 p b]
  obtain ⟨f', e, hp', fr⟩ := A1
  refine ⟨f', e, ⟨?_, ?_, ?_, hp', ?_, ?_, ?_, ?_, ?_⟩, fr⟩
  · exact CLd_of h1 (fun p _ _ _ => fr p (by omega) (by omega))
  · exact CGd_of h2 (fun p _ _ => fr p (by omega) (by omega))
  · exact CRw_of h3 (by rw [fr 67 (by omega) (by omega)]) (fun p _ _ => fr p (by omega) (by omega))
  · exact cSn_of h5 (fun p _ _ => fr p (by omega) (by omega))
  · exact CIm_of lo h6 (by rw [fr 31 (by omega) (by omega)]) (fun p _ _ => fr p (by omega) (by omega))
  · exact CTp_of h7 (by rw [fr 31 (by omega) (by omega)]) (fr 32 (by omega) (by omega))
  · rw [fr 33 (by omega) (by omega)]; exact h8
  · rw [fr 31 (by omega) (by omega)]; exact h9
/-- an act: kept, then another row -/
def aK (A : mu_A) (r : mu_Rw) : mu_A := uR (uP A (psK (aP A) (aR A))) r
theorem AOK_K {A : mu_A} (ok : AOK A) {r : mu_Rw} (ro : rOK (aL A) r) : AOK (aK A r) := AOK_R (AOK_P ok (psK_ok ok.2.2.2.2.1 ok.2.2.2.1)) ro
def aRf (A : mu_A) (i : Nat) : mu_A := uF A (upd (aF A) i (aF A i + nI 1))
theorem q_hand {A : mu_A} {f : Nat → Nat → Int32} (ok : AOK A) (hM : MRel A f) (hC : CRel A f) (v1 v2 : Int32) : Mt A f (fun σ => x_b_hand_0 σ v1 v2) (fun σ => x_m_hand_0 σ v1 v2) id := by
  have lo := ok.1
  have ro := ok.2.2.2.1
  have l1 := lo.1
  have l2 := lo.2.1
  have cB := hC.1.1
  have cP := hC.1.2.1
  rcases ok_bad v1 (n := lP (aL A)) (by omega) with b1 | ⟨p, hp, rfl⟩
  · refine Mt_err ok hM hC 1 (by omega) ?_ ?_
    · intro g
      show x_b_hand_0 (f, g) v1 v2 = _
      rw [e_b_hand_0, c_checkBearerN f g cP b1, c_Vx]
    · intro f0 f2 g M0 h0 e0
      show x_m_hand_0 (f2, g) v1 v2 = _
      rw [e_m_hand_0]
      dsimp only
      rw [← e0, m_isBearerN f0 g h0 M0.1.2.1 b1, c_I, if_pos (by decide)]
      rfl
  rcases ok_bad v2 (n := lB (aL A)) (by omega) with b1 | ⟨x, hx, rfl⟩
  · refine Mt_err ok hM hC 1 (by omega) ?_ ?_
    · intro g
      show x_b_hand_0 (f, g) (nI p) v2 = _
      rw [e_b_hand_0, c_checkBearerY f g cP (by omega) hp, c_V, c_checkBoxN f g cB b1, c_Vx]
    · intro f0 f2 g M0 h0 e0
      show x_m_hand_0 (f2, g) (nI p) v2 = _
      rw [e_m_hand_0]
      dsimp only
      rw [← e0, m_isBearerY f0 g h0 M0.1.2.1 (by omega) hp, c_I, if_neg (by decide), m_isBoxN f0 g h0 M0.1.1 b1, c_I, if_pos (by decide)]
      rfl
  have hU : f 70 p = rU (aR A) p := hC.2.2.1.2.2.2.1 p hp
  have e13 : (13 : Int32) + nI p = nI (13 + p) := by rw [show (13 : Int32) = nI 13 by decide, nI_add]
  by_cases c : rU (aR A) p = nI x
  · refine Mt_val (A' := aRf A 1) ok (AOK_F ok _) hM rfl (-2) ?_ ?_
    · intro g
      show ∃ f1, x_b_hand_0 (f, g) (nI p) (nI x) = rI (-2) (f1, g) ∧ _
      rw [e_b_hand_0, c_checkBearerY f g cP (by omega) hp, c_V, c_checkBoxY f g cB (by omega) hx, c_V]
      simp (disch := omega) only [q_in, q_clamp, if_true, hU, c, c_refuse, c_I]
      exact ⟨_, rfl, fun q hq => u1_p _ _ _ (by omega), CRel_F ok hC (by omega)⟩
    · intro f0 f2 g M0 h0 e0
      have hU0 : f0 18 (0 + 13 + p) = rU (aR A) p := M0.2.2.1.2.2.2.1 p hp
      rw [Nat.zero_add] at hU0
      show ∃ f3, x_m_hand_0 (f2, g) (nI p) (nI x) = rI (-2) (f3, g) ∧ _
      rw [e_m_hand_0]
      dsimp only
      rw [← e0, m_isBearerY f0 g h0 M0.1.2.1 (by omega) hp, c_I, if_neg (by decide), m_isBoxY f0 g h0 M0.1.1 (by omega) hx, c_I, if_neg (by decide)]
      simp (disch := omega) only [e13, q_in, q_clamp, if_true, hU0, c]
      rw [show x_m_refuses_0 (f0, g) 1 = _ from m_refuses f0 g (i := 1) (by omega), c_I]
      exact ⟨_, rfl, by rw [u1_ne _ _ (by omega)]; exact h0, MRel_F ok M0 (by omega), fun q hq => u1_p _ _ _ (by omega)⟩
  · refine Mt_val (A' := aK A (wU (aR A) p (nI x))) ok (AOK_K ok (rOK_wU ro (Or.inr ⟨x, hx, rfl⟩))) hM rfl (rU (aR A) p) ?_ ?_
    · intro g
      show ∃ f1, x_b_hand_0 (f, g) (nI p) (nI x) = rI _ (f1, g) ∧ _
      obtain ⟨f1, e1, C1, g1⟩ := c_keep f g ok hC
      rw [e_b_hand_0, c_checkBearerY f g cP (by omega) hp, c_V, c_checkBoxY f g cB (by omega) hx, c_V, e1, c_V]
      simp (disch := omega) only [q_in, q_clamp, if_true, hU, c, if_false]
      refine ⟨_, rfl, fun q hq => by rw [u1_p _ _ _ (by omega), g1 q (by omega) (by omega)], ?_⟩
      exact CRel_R (AOK_P ok (psK_ok ok.2.2.2.2.1 ro)) C1 (CFr_u _ _ (by omega) (by omega)) (CRw_uU C1.2.2.1 p _)
    · intro f0 f2 g M0 h0 e0
      have hU0 : f0 18 (0 + 13 + p) = rU (aR A) p := M0.2.2.1.2.2.2.1 p hp
      rw [Nat.zero_add] at hU0
      show ∃ f3, x_m_hand_0 (f2, g) (nI p) (nI x) = rI _ (f3, g) ∧ _
      obtain ⟨f1, e1, C1, g1, g2⟩ := m_keeps f0 g ok M0
      rw [e_m_hand_0]
      dsimp only
      rw [← e0, m_isBearerY f0 g h0 M0.1.2.1 (by omega) hp, c_I, if_neg (by decide), m_isBoxY f0 g h0 M0.1.1 (by omega) hx, c_I, if_neg (by decide), e1, c_V]
      simp (disch := omega) only [e13, q_in, q_clamp, if_true, hU0, c, if_false]
      refine ⟨_, rfl, by rw [u1_ne _ _ (by omega), g2 0 (by omega)]; exact h0, ?_, fun q hq => by rw [u1_p _ _ _ (by omega), g1 q (by omega) (by omega)]⟩
      have R' : MRw (aL A) 0 (wU (aR A) p (nI x)) (en_u1 f1 18 (13 + p) (nI x)) := by
        have := MRw_uU lo C1.2.2.1 hp (nI x)
        rw [Nat.zero_add] at this
        exact this
      exact MRel_R (AOK_P ok (psK_ok ok.2.2.2.2.1 ro)) C1 (MFr_u18 _ _ (by omega) (by omega)) R'
theorem q_away {A : mu_A} {f : Nat → Nat → Int32} (ok : AOK A) (hM : MRel A f) (hC : CRel A f) (v1 : Int32) : Mt A f (fun σ => x_b_away_0 σ v1) (fun σ => x_m_away_0 σ v1) id := by
  have lo := ok.1
  have ro := ok.2.2.2.1
  have l1 := lo.1
  have l2 := lo.2.1
  have cP := hC.1.2.1
  rcases ok_bad v1 (n := lP (aL A)) (by omega) with b1 | ⟨p, hp, rfl⟩
  · refine Mt_err ok hM hC 1 (by omega) ?_ ?_
    · intro g
      show x_b_away_0 (f, g) v1 = _
      rw [e_b_away_0, c_checkBearerN f g cP b1, c_Vx]
    · intro f0 f2 g M0 h0 e0
      show x_m_away_0 (f2, g) v1 = _
      rw [e_m_away_0]
      dsimp only
      rw [← e0, m_isBearerN f0 g h0 M0.1.2.1 b1, c_I, if_pos (by decide)]
      rfl
  have hU : f 70 p = rU (aR A) p := hC.2.2.1.2.2.2.1 p hp
  have e13 : (13 : Int32) + nI p = nI (13 + p) := by rw [show (13 : Int32) = nI 13 by decide, nI_add]
  by_cases c : rU (aR A) p = -1
  · refine Mt_val (A' := aRf A 1) ok (AOK_F ok _) hM rfl nN ?_ ?_
    · intro g
      show ∃ f1, x_b_away_0 (f, g) (nI p) = rI nN (f1, g) ∧ _
      rw [e_b_away_0, c_checkBearerY f g cP (by omega) hp, c_V]
      simp (disch := omega) only [q_in, q_clamp, if_true, hU, c, c_refuse, c_I]
      exact ⟨_, rfl, fun q hq => u1_p _ _ _ (by omega), CRel_F ok hC (by omega)⟩
    · intro f0 f2 g M0 h0 e0
      have hU0 : f0 18 (0 + 13 + p) = rU (aR A) p := M0.2.2.1.2.2.2.1 p hp
      rw [Nat.zero_add] at hU0
      show ∃ f3, x_m_away_0 (f2, g) (nI p) = rI nN (f3, g) ∧ _
      rw [e_m_away_0]
      dsimp only
      rw [← e0, m_isBearerY f0 g h0 M0.1.2.1 (by omega) hp, c_I, if_neg (by decide)]
      simp (disch := omega) only [e13, q_in, q_clamp, if_true, hU0, c]
      rw [show x_m_refuses_0 (f0, g) 1 = _ from m_refuses f0 g (i := 1) (by omega), c_I]
      exact ⟨_, rfl, by rw [u1_ne _ _ (by omega)]; exact h0, MRel_F ok M0 (by omega), fun q hq => u1_p _ _ _ (by omega)⟩
  · refine Mt_val (A' := aK A (wU (aR A) p (-1))) ok (AOK_K ok (rOK_wU ro (Or.inl rfl))) hM rfl (rU (aR A) p) ?_ ?_
    · intro g
      show ∃ f1, x_b_away_0 (f, g) (nI p) = rI _ (f1, g) ∧ _
      obtain ⟨f1, e1, C1, g1⟩ := c_keep f g ok hC
      rw [e_b_away_0, c_checkBearerY f g cP (by omega) hp, c_V, e1, c_V]
      simp (disch := omega) only [q_in, q_clamp, if_true, hU, c, if_false]
      refine ⟨_, rfl, fun q hq => by rw [u1_p _ _ _ (by omega), g1 q (by omega) (by omega)], ?_⟩
      exact CRel_R (AOK_P ok (psK_ok ok.2.2.2.2.1 ro)) C1 (CFr_u _ _ (by omega) (by omega)) (CRw_uU C1.2.2.1 p _)
    · intro f0 f2 g M0 h0 e0
      have hU0 : f0 18 (0 + 13 + p) = rU (aR A) p := M0.2.2.1.2.2.2.1 p hp
      rw [Nat.zero_add] at hU0
      show ∃ f3, x_m_away_0 (f2, g) (nI p) = rI _ (f3, g) ∧ _
      obtain ⟨f1, e1, C1, g1, g2⟩ := m_keeps f0 g ok M0
      rw [e_m_away_0]
      dsimp only
      rw [← e0, m_isBearerY f0 g h0 M0.1.2.1 (by omega) hp, c_I, if_neg (by decide), e1, c_V]
      simp (disch := omega) only [e13, q_in, q_clamp, if_true, hU0, c, if_false]
      refine ⟨_, rfl, by rw [u1_ne _ _ (by omega), g2 0 (by omega)]; exact h0, ?_, fun q hq => by rw [u1_p _ _ _ (by omega), g1 q (by omega) (by omega)]⟩
      have R' : MRw (aL A) 0 (wU (aR A) p (-1)) (en_u1 f1 18 (13 + p) (-1)) := by
        have := MRw_uU lo C1.2.2.1 hp (-1)
        rw [Nat.zero_add] at this
        exact this
      exact MRel_R (AOK_P ok (psK_ok ok.2.2.2.2.1 ro)) C1 (MFr_u18 _ _ (by omega) (by omega)) R'
theorem q_change {A : mu_A} {f : Nat → Nat → Int32} (ok : AOK A) (hM : MRel A f) (hC : CRel A f) (v1 v2 : Int32) : Mt A f (fun σ => x_b_change_0 σ v1 v2) (fun σ => x_m_change_0 σ v1 v2) id := by
  have lo := ok.1
  have ro := ok.2.2.2.1
  have l1 := lo.1
  have l2 := lo.2.1
  have cP := hC.1.2.1
  rcases ok_bad v1 (n := lP (aL A)) (by omega) with b1 | ⟨p, hp, rfl⟩
  · refine Mt_err ok hM hC 1 (by omega) ?_ ?_
    · intro g
      show x_b_change_0 (f, g) v1 v2 = _
      rw [e_b_change_0, c_checkBearerN f g cP b1, c_Vx]
    · intro f0 f2 g M0 h0 e0
      show x_m_change_0 (f2, g) v1 v2 = _
      rw [e_m_change_0]
      dsimp only
      rw [← e0, m_isBearerN f0 g h0 M0.1.2.1 b1, c_I, if_pos (by decide)]
      rfl
  rcases ok_bad v2 (n := lP (aL A)) (by omega) with b1 | ⟨o, ho, rfl⟩
  · refine Mt_err ok hM hC 1 (by omega) ?_ ?_
    · intro g
      show x_b_change_0 (f, g) (nI p) v2 = _
      rw [e_b_change_0, c_checkBearerY f g cP (by omega) hp, c_V, c_checkBearerN f g cP b1, c_Vx]
    · intro f0 f2 g M0 h0 e0
      show x_m_change_0 (f2, g) (nI p) v2 = _
      rw [e_m_change_0]
      dsimp only
      rw [← e0, m_isBearerY f0 g h0 M0.1.2.1 (by omega) hp, c_I, if_neg (by decide), m_isBearerN f0 g h0 M0.1.2.1 b1, c_I, if_pos (by decide)]
      rfl
  have hU : f 70 p = rU (aR A) p := hC.2.2.1.2.2.2.1 p hp
  have hUo : f 70 o = rU (aR A) o := hC.2.2.1.2.2.2.1 o ho
  have e13 : (13 : Int32) + nI p = nI (13 + p) := by rw [show (13 : Int32) = nI 13 by decide, nI_add]
  have e13o : (13 : Int32) + nI o = nI (13 + o) := by rw [show (13 : Int32) = nI 13 by decide, nI_add]
  by_cases c : rU (aR A) p = rU (aR A) o
  · refine Mt_val (A' := aRf A 1) ok (AOK_F ok _) hM rfl (nI 0) ?_ ?_
    · intro g
      show ∃ f1, x_b_change_0 (f, g) (nI p) (nI o) = rI (nI 0) (f1, g) ∧ _
      rw [e_b_change_0, c_checkBearerY f g cP (by omega) hp, c_V, c_checkBearerY f g cP (by omega) ho, c_V]
      simp (disch := omega) only [q_in, q_clamp, if_true, hU, hUo, c, c_refuse, c_I]
      exact ⟨_, rfl, fun q hq => u1_p _ _ _ (by omega), CRel_F ok hC (by omega)⟩
    · intro f0 f2 g M0 h0 e0
      have hU0 : f0 18 (0 + 13 + p) = rU (aR A) p := M0.2.2.1.2.2.2.1 p hp
      have hUo0 : f0 18 (0 + 13 + o) = rU (aR A) o := M0.2.2.1.2.2.2.1 o ho
      rw [Nat.zero_add] at hU0 hUo0
      show ∃ f3, x_m_change_0 (f2, g) (nI p) (nI o) = rI (nI 0) (f3, g) ∧ _
      rw [e_m_change_0]
      dsimp only
      rw [← e0, m_isBearerY f0 g h0 M0.1.2.1 (by omega) hp, c_I, if_neg (by decide), m_isBearerY f0 g h0 M0.1.2.1 (by omega) ho, c_I, if_neg (by decide)]
      simp (disch := omega) only [e13, e13o, q_in, q_clamp, if_true, hU0, hUo0, c]
      rw [show x_m_refuses_0 (f0, g) 1 = _ from m_refuses f0 g (i := 1) (by omega), c_I, if_pos (by decide)]
      exact ⟨_, rfl, by rw [u1_ne _ _ (by omega)]; exact h0, MRel_F ok M0 (by omega), fun q hq => u1_p _ _ _ (by omega)⟩
  · refine Mt_val (A' := aK A (wU (wU (aR A) p (rU (aR A) o)) o (rU (aR A) p))) ok (AOK_K ok (rOK_wU (rOK_wU ro (ro.2.2.1 o ho)) (ro.2.2.1 p hp))) hM rfl (nI 1) ?_ ?_
    · intro g
      show ∃ f1, x_b_change_0 (f, g) (nI p) (nI o) = rI _ (f1, g) ∧ _
      obtain ⟨f1, e1, C1, g1⟩ := c_keep f g ok hC
      rw [e_b_change_0, c_checkBearerY f g cP (by omega) hp, c_V, c_checkBearerY f g cP (by omega) ho, c_V, e1, c_V]
      simp (disch := omega) only [q_in, q_clamp, if_true, hU, hUo, c, if_false]
      refine ⟨_, rfl, fun q hq => by rw [u1_p _ _ _ (by omega), u1_p _ _ _ (by omega), g1 q (by omega) (by omega)], ?_⟩
      exact CRel_R (AOK_P ok (psK_ok ok.2.2.2.2.1 ro)) C1 (CFr_trans (CFr_u _ _ (by omega) (by omega)) (CFr_u _ _ (by omega) (by omega))) (CRw_uU (CRw_uU C1.2.2.1 p _) o _)
    · intro f0 f2 g M0 h0 e0
      have hU0 : f0 18 (0 + 13 + p) = rU (aR A) p := M0.2.2.1.2.2.2.1 p hp
      have hUo0 : f0 18 (0 + 13 + o) = rU (aR A) o := M0.2.2.1.2.2.2.1 o ho
      rw [Nat.zero_add] at hU0 hUo0
      show ∃ f3, x_m_change_0 (f2, g) (nI p) (nI o) = rI _ (f3, g) ∧ _
      obtain ⟨f1, e1, C1, g1, g2⟩ := m_keeps f0 g ok M0
      rw [e_m_change_0]
      dsimp only
      rw [← e0, m_isBearerY f0 g h0 M0.1.2.1 (by omega) hp, c_I, if_neg (by decide), m_isBearerY f0 g h0 M0.1.2.1 (by omega) ho, c_I, if_neg (by decide), e1, c_V]
      simp (disch := omega) only [e13, e13o, q_in, q_clamp, if_true, hU0, hUo0, c, if_false]
      refine ⟨_, rfl, by rw [u1_ne _ _ (by omega), u1_ne _ _ (by omega), g2 0 (by omega)]; exact h0, ?_, fun q hq => by rw [u1_p _ _ _ (by omega), u1_p _ _ _ (by omega), g1 q (by omega) (by omega)]⟩
      have R' : MRw (aL A) 0 (wU (wU (aR A) p (rU (aR A) o)) o (rU (aR A) p)) (en_u1 (en_u1 f1 18 (13 + p) (rU (aR A) o)) 18 (13 + o) (rU (aR A) p)) := by
        have := MRw_uU lo (MRw_uU lo C1.2.2.1 hp (rU (aR A) o)) ho (rU (aR A) p)
        rw [Nat.zero_add] at this
        exact this
      exact MRel_R (AOK_P ok (psK_ok ok.2.2.2.2.1 ro)) C1 (MFr_trans (MFr_u18 _ _ (by omega) (by omega)) (MFr_u18 _ _ (by omega) (by omega))) R'
