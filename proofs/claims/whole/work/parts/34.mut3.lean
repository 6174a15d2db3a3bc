/-! acts, third: slander, praise, days -/
theorem m_talked {A : mu_A} (f0 : Nat → Nat → Int32) (g : Nat → Nat → Int64) (ok : AOK A) (M0 : MRel A f0) (h0 : f0 0 0 = nI 0) {x m : Nat} (hx : x < lB (aL A)) (h1 : 1 ≤ m) (h2 : m ≤ 30) (s : Int32) : ∃ f3, en_cI (x_m_isBox_0 (f0, g) (nI x)) (fun r2 σ1 => if r2 = 0 then some (.inl (some (.int 0)), σ1) else en_cI (x_m_within_0 σ1 (nI m) 1 30) (fun r4 σ3 => if r4 = 0 then en_cI (x_m_refuses_0 σ3 1) (fun r6 σ5 => some (.inl (some (.int r6)), σ5)) (fun e σ => some (.inr e, σ)) else en_cV (x_m_keeps_0 σ3) (fun σ7 => en_cV (x_m_weighs_0 σ7 0 (nI x) (s * nI m)) (fun σ8 => if en_in (1 + nI x) 58 then some (.inl (some (.int (σ8.1 18 ((1 + nI x).toNatClampNeg)))), σ8) else none) (fun e σ => some (.inr e, σ))) (fun e σ => some (.inr e, σ))) (fun e σ => some (.inr e, σ))) (fun e σ => some (.inr e, σ)) = rI (sIn (rW (aR A) x + s * nI m) (nI 1) (nI 99)) (f3, g) ∧ f3 0 0 = nI 0 ∧ MRel (aK A (wW (aR A) x (sIn (rW (aR A) x + s * nI m) (nI 1) (nI 99)))) f3 ∧ ∀ p, 30 ≤ p → f3 p = f0 p := by
  have lo := ok.1
  have ro := ok.2.2.2.1
  have l1 := lo.1
  have l2 := lo.2.1
  obtain ⟨f1, e1, C1, g1, g2⟩ := m_keeps f0 g ok M0
  have e11 : (1 : Int32) + nI x = nI (1 + x) := by rw [show (1 : Int32) = nI 1 by decide, nI_add]
  have W := m_weighs (r := aR A) (b := 0) (f1, g) lo (by omega) C1.2.2.1 hx (s * nI m)
  have R' := MRw_uW lo C1.2.2.1 hx (sIn (rW (aR A) x + s * nI m) (nI 1) (nI 99))
  rw [Nat.zero_add] at W R'
  rw [m_isBoxY f0 g h0 M0.1.1 (by omega) hx, c_I, if_neg (by decide), show x_m_within_0 (f0, g) (nI m) 1 30 = _ from m_withinY (f0, g) (a := 1) (b := 30) h1 h2 (by omega), c_I, if_neg (by decide), e1, c_V, show x_m_weighs_0 (f1, g) 0 (nI x) (s * nI m) = _ from W, c_V]
  simp (disch := omega) only [e11, q_in, q_clamp, if_true, u1_at]
  refine ⟨_, rfl, by rw [u1_ne _ _ (by omega), g2 0 (by omega)]; exact h0, ?_, fun q hq => by rw [u1_p _ _ _ (by omega), g1 q (by omega) (by omega)]⟩
  exact MRel_R (AOK_P ok (psK_ok ok.2.2.2.2.1 ro)) C1 (MFr_u18 _ _ (by omega) (by omega)) R'
theorem rOK_in {Λ : mu_Ld} {r : mu_Rw} (ro : rOK Λ r) (x : Nat) (v : Int32) : rOK Λ (wW r x (sIn v (nI 1) (nI 99))) := by
  obtain ⟨w, h1, h2, e⟩ := sIn_99 v
  rw [e]
  exact rOK_wW ro h1 h2
theorem c_talk {A : mu_A} (f : Nat → Nat → Int32) (g : Nat → Nat → Int64) (ok : AOK A) (hC : CRel A f) {x : Nat} (hx : x < lB (aL A)) (v : Int32) : ∃ f1, en_cV (x_ps_keep_p79_67_0 (f, g)) (fun σ4 => en_cV (x_st_addWeight_p67_0 σ4 (nI x) v) (fun σ5 => if en_in (nI x) 6 then some (.inl (some (.int (σ5.1 68 (nI x).toNatClampNeg))), σ5) else none) (fun e σ => some (.inr e, σ))) (fun e σ => some (.inr e, σ)) = rI (sIn (rW (aR A) x + v) (nI 1) (nI 99)) (f1, g) ∧ (∀ p, p < 31 → f1 p = f p) ∧ CRel (aK A (wW (aR A) x (sIn (rW (aR A) x + v) (nI 1) (nI 99)))) f1 := by
  have lo := ok.1
  have ro := ok.2.2.2.1
  have l1 := lo.1
  obtain ⟨f1, e1, C1, g1⟩ := c_keep f g ok hC
  rw [e1, c_V, c_addWeight_67 f1 g lo C1.2.2.1 hx v, c_V]
  simp (disch := omega) only [q_in, q_clamp, if_true, u1_at]
  refine ⟨_, rfl, fun q hq => by rw [u1_p _ _ _ (by omega), g1 q (by omega) (by omega)], ?_⟩
  exact CRel_R (AOK_P ok (psK_ok ok.2.2.2.2.1 ro)) C1 (CFr_u _ _ (by omega) (by omega)) (CRw_uW C1.2.2.1 x _)
theorem q_slander {A : mu_A} {f : Nat → Nat → Int32} (ok : AOK A) (hM : MRel A f) (hC : CRel A f) (v1 v2 : Int32) : Mt A f (fun σ => x_b_slander_0 σ v1 v2) (fun σ => x_m_slander_0 σ v1 v2) id := by
  have lo := ok.1
  have ro := ok.2.2.2.1
  have l1 := lo.1
  have l2 := lo.2.1
  have cB := hC.1.1
  rcases ok_bad v1 (n := lB (aL A)) (by omega) with b1 | ⟨x, hx, rfl⟩
  · refine Mt_err ok hM hC 1 (by omega) ?_ ?_
    · intro g
      show x_b_slander_0 (f, g) v1 v2 = _
      rw [e_b_slander_0, c_checkBoxN f g cB b1, c_Vx]
    · intro f0 f2 g M0 h0 e0
      show x_m_slander_0 (f2, g) v1 v2 = _
      rw [e_m_slander_0, e_m_talked_0]
      dsimp only
      rw [← e0, m_isBoxN f0 g h0 M0.1.1 b1, c_I, if_pos (by decide), r_I, c_I]
      rfl
  rcases ok_badR v2 (a := 1) (b := 30) (by omega) (by omega) with b2 | ⟨m, h1, h2, rfl⟩
  · refine Mt_val (A' := aRf A 1) ok (AOK_F ok _) hM rfl nN ?_ ?_
    · intro g
      show ∃ f1, x_b_slander_0 (f, g) (nI x) v2 = rI nN (f1, g) ∧ _
      rw [e_b_slander_0, c_checkBoxY f g cB (by omega) hx, c_V, c_refuse, c_I]
      refine ⟨en_u1 f 33 1 (f 33 1 + nI 1), ?_, fun q hq => u1_p _ _ _ (by omega), CRel_F ok hC (by omega)⟩
      by_cases c : v2 < 1
      · rw [if_pos c]; rfl
      · rw [if_neg c, if_neg (by rw [Int32.not_le]; exact b2.resolve_left c)]; rfl
    · intro f0 f2 g M0 h0 e0
      show ∃ f3, x_m_slander_0 (f2, g) (nI x) v2 = rI nN (f3, g) ∧ _
      rw [e_m_slander_0, e_m_talked_0]
      dsimp only
      rw [← e0, m_isBoxY f0 g h0 M0.1.1 (by omega) hx, c_I, if_neg (by decide), show x_m_within_0 (f0, g) v2 1 30 = _ from m_withinN (f0, g) (a := 1) (b := 30) b2, c_I, if_pos (by decide), show x_m_refuses_0 (f0, g) 1 = _ from m_refuses f0 g (i := 1) (by omega), c_I, r_I, c_I]
      exact ⟨_, rfl, by rw [u1_ne _ _ (by omega)]; exact h0, MRel_F ok M0 (by omega), fun q hq => u1_p _ _ _ (by omega)⟩
  have ev : -nI m = (-1) * nI m := Int32.neg_eq_neg_one_mul _
  refine Mt_val (A' := aK A (wW (aR A) x (sIn (rW (aR A) x + (-1) * nI m) (nI 1) (nI 99)))) ok (AOK_K ok (rOK_in ro x _)) hM rfl (sIn (rW (aR A) x + (-1) * nI m) (nI 1) (nI 99)) ?_ ?_
  · intro g
    show ∃ f1, x_b_slander_0 (f, g) (nI x) (nI m) = rI _ (f1, g) ∧ _
    rw [e_b_slander_0, c_checkBoxY f g cB (by omega) hx, c_V, if_neg (show ¬ nI m < 1 from nI_nlt (a := m) (b := 1) h1 (by omega)), if_pos (show nI m ≤ 30 from nI_le (a := m) (b := 30) h2 (by omega)), ← ev]
    exact c_talk f g ok hC hx _
  · intro f0 f2 g M0 h0 e0
    show ∃ f3, x_m_slander_0 (f2, g) (nI x) (nI m) = rI _ (f3, g) ∧ _
    obtain ⟨f3, e3, z3, r3, q3⟩ := m_talked f0 g ok M0 h0 hx h1 h2 (-1)
    refine ⟨f3, ?_, z3, r3, q3⟩
    rw [e_m_slander_0, e_m_talked_0]
    dsimp only
    rw [← e0, e3, c_I]
    rfl
theorem q_praise {A : mu_A} {f : Nat → Nat → Int32} (ok : AOK A) (hM : MRel A f) (hC : CRel A f) (v1 v2 : Int32) : Mt A f (fun σ => x_b_praise_0 σ v1 v2) (fun σ => x_m_praise_0 σ v1 v2) id := by
  have lo := ok.1
  have ro := ok.2.2.2.1
  have l1 := lo.1
  have l2 := lo.2.1
  have cB := hC.1.1
  rcases ok_bad v1 (n := lB (aL A)) (by omega) with b1 | ⟨x, hx, rfl⟩
  · refine Mt_err ok hM hC 1 (by omega) ?_ ?_
    · intro g
      show x_b_praise_0 (f, g) v1 v2 = _
      rw [e_b_praise_0, c_checkBoxN f g cB b1, c_Vx]
    · intro f0 f2 g M0 h0 e0
      show x_m_praise_0 (f2, g) v1 v2 = _
      rw [e_m_praise_0, e_m_talked_0]
      dsimp only
      rw [← e0, m_isBoxN f0 g h0 M0.1.1 b1, c_I, if_pos (by decide), r_I, c_I]
      rfl
  rcases ok_badR v2 (a := 1) (b := 30) (by omega) (by omega) with b2 | ⟨m, h1, h2, rfl⟩
  · refine Mt_val (A' := aRf A 1) ok (AOK_F ok _) hM rfl nN ?_ ?_
    · intro g
      show ∃ f1, x_b_praise_0 (f, g) (nI x) v2 = rI nN (f1, g) ∧ _
      rw [e_b_praise_0, c_checkBoxY f g cB (by omega) hx, c_V, c_refuse, c_I]
      refine ⟨en_u1 f 33 1 (f 33 1 + nI 1), ?_, fun q hq => u1_p _ _ _ (by omega), CRel_F ok hC (by omega)⟩
      by_cases c : v2 < 1
      · rw [if_pos c]; rfl
      · rw [if_neg c, if_neg (by rw [Int32.not_le]; exact b2.resolve_left c)]; rfl
    · intro f0 f2 g M0 h0 e0
      show ∃ f3, x_m_praise_0 (f2, g) (nI x) v2 = rI nN (f3, g) ∧ _
      rw [e_m_praise_0, e_m_talked_0]
      dsimp only
      rw [← e0, m_isBoxY f0 g h0 M0.1.1 (by omega) hx, c_I, if_neg (by decide), show x_m_within_0 (f0, g) v2 1 30 = _ from m_withinN (f0, g) (a := 1) (b := 30) b2, c_I, if_pos (by decide), show x_m_refuses_0 (f0, g) 1 = _ from m_refuses f0 g (i := 1) (by omega), c_I, r_I, c_I]
      exact ⟨_, rfl, by rw [u1_ne _ _ (by omega)]; exact h0, MRel_F ok M0 (by omega), fun q hq => u1_p _ _ _ (by omega)⟩
  have ev : nI m = (1) * nI m := (Int32.one_mul _).symm
  refine Mt_val (A' := aK A (wW (aR A) x (sIn (rW (aR A) x + (1) * nI m) (nI 1) (nI 99)))) ok (AOK_K ok (rOK_in ro x _)) hM rfl (sIn (rW (aR A) x + (1) * nI m) (nI 1) (nI 99)) ?_ ?_
  · intro g
    show ∃ f1, x_b_praise_0 (f, g) (nI x) (nI m) = rI _ (f1, g) ∧ _
    rw [e_b_praise_0, c_checkBoxY f g cB (by omega) hx, c_V, if_neg (show ¬ nI m < 1 from nI_nlt (a := m) (b := 1) h1 (by omega)), if_pos (show nI m ≤ 30 from nI_le (a := m) (b := 30) h2 (by omega)), ← ev]
    exact c_talk f g ok hC hx _
  · intro f0 f2 g M0 h0 e0
    show ∃ f3, x_m_praise_0 (f2, g) (nI x) (nI m) = rI _ (f3, g) ∧ _
    obtain ⟨f3, e3, z3, r3, q3⟩ := m_talked f0 g ok M0 h0 hx h1 h2 (1)
    refine ⟨f3, ?_, z3, r3, q3⟩
    rw [e_m_praise_0, e_m_talked_0]
    dsimp only
    rw [← e0, e3, c_I]
    rfl
theorem q_days {A : mu_A} {f : Nat → Nat → Int32} (ok : AOK A) (hM : MRel A f) (hC : CRel A f) (v1 : Int32) : Mt A f (fun σ => x_b_days_0 σ v1) (fun σ => x_m_days_0 σ v1) id := by
  have lo := ok.1
  have ro := ok.2.2.2.1
  have l1 := lo.1
  have l2 := lo.2.1
  have hD : f 67 1 = rD (aR A) := hC.2.2.1.1
  rcases ok_badR v1 (a := 1) (b := 20) (by omega) (by omega) with b2 | ⟨n, h1, h2, rfl⟩
  · refine Mt_val (A' := aRf A 1) ok (AOK_F ok _) hM rfl nN ?_ ?_
    · intro g
      show ∃ f1, x_b_days_0 (f, g) v1 = rI nN (f1, g) ∧ _
      rw [e_b_days_0, c_refuse, c_I]
      refine ⟨en_u1 f 33 1 (f 33 1 + nI 1), ?_, fun q hq => u1_p _ _ _ (by omega), CRel_F ok hC (by omega)⟩
      by_cases c : v1 < 1
      · rw [if_pos c]; rfl
      · rw [if_neg c, if_pos (show (20 : Int32) < v1 from b2.resolve_left c)]; rfl
    · intro f0 f2 g M0 h0 e0
      show ∃ f3, x_m_days_0 (f2, g) v1 = rI nN (f3, g) ∧ _
      rw [e_m_days_0]
      dsimp only
      rw [← e0, show x_m_within_0 (f0, g) v1 1 20 = _ from m_withinN (f0, g) (a := 1) (b := 20) b2, c_I, if_pos (by decide), show x_m_refuses_0 (f0, g) 1 = _ from m_refuses f0 g (i := 1) (by omega), c_I]
      exact ⟨_, rfl, by rw [u1_ne _ _ (by omega)]; exact h0, MRel_F ok M0 (by omega), fun q hq => u1_p _ _ _ (by omega)⟩
  by_cases c : rD (aR A) + nI n ≤ 999
  · refine Mt_val (A' := aK A (sDn (aL A) (aR A) n)) ok (AOK_K ok (rOK_sDn lo ro n)) hM rfl (rD (sDn (aL A) (aR A) n)) ?_ ?_
    · intro g
      show ∃ f1, x_b_days_0 (f, g) (nI n) = rI _ (f1, g) ∧ _
      obtain ⟨f1, e1, C1, g1⟩ := c_keep f g ok hC
      obtain ⟨f3, e3, R3, F3⟩ := c_passDays_67 (r := aR A) f1 g lo C1.1 C1.2.2.1 ro (n := n) (by omega)
      rw [e_b_days_0, if_neg (show ¬ nI n < 1 from nI_nlt (a := n) (b := 1) h1 (by omega)), if_neg (show ¬ (20 : Int32) < nI n from nI_nlt (a := 20) (b := n) h2 (by omega)), if_pos (by show f 67 1 + nI n ≤ 999; rw [hD]; exact c), e1, c_V, e3, c_I]
      refine ⟨f3, ?_, fun q hq => by rw [F3.1 q (by omega) (by omega) (by omega), g1 q (by omega) (by omega)], ?_⟩
      · show rI (f3 67 1) (f3, g) = _
        rw [R3.1]
      · exact CRel_R (AOK_P ok (psK_ok ok.2.2.2.2.1 ro)) C1 F3 R3
    · intro f0 f2 g M0 h0 e0
      have hD0 : f0 18 0 = rD (aR A) := M0.2.2.1.1
      show ∃ f3, x_m_days_0 (f2, g) (nI n) = rI _ (f3, g) ∧ _
      obtain ⟨f1, e1, C1, g1, g2⟩ := m_keeps f0 g ok M0
      obtain ⟨f3, e3, R3, F3⟩ := mu_inv (fun (f : Nat → Nat → Int32) i => x_m_days_41 (f, g) (nI n) i) (fun k f' => MRw (aL A) 0 (sDn (aL A) (aR A) k) f' ∧ MFr 0 f1 f') n f1 ⟨C1.2.2.1, MFr_refl _ _⟩ (by
        intro k f5 hk ⟨R5, F5⟩
        obtain ⟨f6, e6, R6, F6, _, _⟩ := m_dayGoes (f5, g) lo (b := 0) (by omega) (MFr_L F5 C1.1) R5 (rOK_sDn lo ro k)
        refine ⟨f6, ?_, R6, MFr_trans F5 F6⟩
        show x_m_days_41 (f5, g) (nI n) (nI k) = x_m_days_41 (f6, g) (nI n) (nI (k + 1))
        rw [e_m_days_41, if_neg (nI_ge hk (by omega)), show x_m_dayGoes_0 (f5, g) 0 = _ from e6, c_V, nI_1])
      rw [e_m_days_0]
      dsimp only
      rw [← e0, show x_m_within_0 (f0, g) (nI n) 1 20 = _ from m_withinY (f0, g) (a := 1) (b := 20) h1 h2 (by omega), c_I, if_neg (by decide), if_pos (by show f0 18 0 + nI n ≤ 999; rw [hD0]; exact c), e1, c_V]
      refine ⟨f3, ?_, by rw [F3.2.1 0 (by omega) (by omega) (by omega), g2 0 (by omega)]; exact h0, ?_, fun q hq => by rw [F3.1 q (by omega) (by omega) (by omega) (by omega), g1 q (by omega) (by omega)]⟩
      · refine Eq.trans e3 ?_
        show x_m_days_41 (f3, g) (nI n) (nI n) = _
        rw [e_m_days_41, if_pos (Int32.le_refl _)]
        show rI (f3 18 0) (f3, g) = _
        rw [R3.1]
      · exact MRel_R (AOK_P ok (psK_ok ok.2.2.2.2.1 ro)) C1 F3 R3
  · refine Mt_val (A' := aRf A 1) ok (AOK_F ok _) hM rfl nN ?_ ?_
    · intro g
      show ∃ f1, x_b_days_0 (f, g) (nI n) = rI nN (f1, g) ∧ _
      rw [e_b_days_0, c_refuse, c_I, if_neg (show ¬ nI n < 1 from nI_nlt (a := n) (b := 1) h1 (by omega)), if_neg (show ¬ (20 : Int32) < nI n from nI_nlt (a := 20) (b := n) h2 (by omega)), if_neg (by show ¬ f 67 1 + nI n ≤ 999; rw [hD]; exact c)]
      exact ⟨_, rfl, fun q hq => u1_p _ _ _ (by omega), CRel_F ok hC (by omega)⟩
    · intro f0 f2 g M0 h0 e0
      have hD0 : f0 18 0 = rD (aR A) := M0.2.2.1.1
      show ∃ f3, x_m_days_0 (f2, g) (nI n) = rI nN (f3, g) ∧ _
      rw [e_m_days_0]
      dsimp only
      rw [← e0, show x_m_within_0 (f0, g) (nI n) 1 20 = _ from m_withinY (f0, g) (a := 1) (b := 20) h1 h2 (by omega), c_I, if_neg (by decide), if_neg (by show ¬ f0 18 0 + nI n ≤ 999; rw [hD0]; exact c), show x_m_refuses_0 (f0, g) 1 = _ from m_refuses f0 g (i := 1) (by omega), c_I]
      exact ⟨_, rfl, by rw [u1_ne _ _ (by omega)]; exact h0, MRel_F ok M0 (by omega), fun q hq => u1_p _ _ _ (by omega)⟩
