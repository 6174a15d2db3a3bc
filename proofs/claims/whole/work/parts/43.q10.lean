/-! ways: the questions; written by q10.py -/

theorem gE_u {G : mu_Gd} (go : gOK G) {i j a b : Nat} (hi : i < G.2.1) (hj : j < G.2.1) (h : gE G i a b) (h' : gE G j a b) : i = j := by
  apply go.2.2.2.2 i j hi hj
  unfold gE at h h' ⊢
  omega
theorem m_laysWays {A : mu_A} (f : Nat → Nat → Int32) (g : Nat → Nat → Int64) (ok : AOK A) (hM : MRel A f) {s w : Nat} (hs : s < (aG A).1) (hw : w ≤ 2) : ∃ f' D, x_m_laysWays_0 (f, g) (nI s) (nI w) = rV (f', g) ∧ HM D f' ∧ dSd (aG A) s w D ∧ dCm (aG A) s w (aG A).1 D ∧ dBd D ∧ ∀ p, p ≠ 23 → f' p = f p := by
  have go := ok.2.1
  have g8 := go.2.1
  have hG := hM.2.1
  have hGf : ∀ f', (∀ p, p ≠ 23 → f' p = f p) → MGd (aG A) f' := fun f' h => MGd_of hG (by rw [h 0 (by omega)]) (by rw [h 0 (by omega)]) (h 1 (by omega))
  rw [e_m_laysWays_0]
  obtain ⟨f0, e0, z0, y0⟩ := mu_inv (fun (f : Nat → Nat → Int32) i => x_m_laysWays_2 (f, g) (nI s) (nI w) i) (fun k f' => (∀ v, v < k → f' 23 v = dM (d0 s v)) ∧ ∀ p, p ≠ 23 → f' p = f p) 8 f ⟨fun i hi => absurd hi (Nat.not_lt_zero i), fun _ _ => rfl⟩ (by
    intro k f1 hk ⟨i1, i2⟩
    show ∃ f', x_m_laysWays_2 (f1, g) (nI s) (nI w) (nI k) = x_m_laysWays_2 (f', g) (nI s) (nI w) (nI (k + 1)) ∧ _
    rw [e_m_laysWays_2]
    simp (disch := omega) only [q_0, q_1, q_2, q_3, q_4, q_5, q_6, q_7, q_8, q_9, q_10, q_11, q_12, q_13, q_14, q_15, q_16, q_17, q_18, q_19, q_20, q_21, q_22, q_23, q_24, q_29, q_30, q_31, q_36, q_42, q_50, q_40, q_48, q_96, q_97, q_99, q_100, q_255, q_256, q_700, q_999, q_1160, q_1400, q_99999, q_m1, q_leI, q_eqI, nI_add, q_in, q_clamp, if_true]
    rw [if_neg (by omega)]
    by_cases c : k = s
    · rw [if_pos c]
      refine ⟨_, rfl, fun v hv => ?_, fun p hp => by rw [u1_p _ _ _ hp]; exact i2 p hp⟩
      rw [u1_if]
      by_cases k2 : v = k
      · rw [if_pos k2]; unfold d0; rw [k2, if_pos c]; rfl
      · rw [if_neg k2]; exact i1 v (by omega)
    · rw [if_neg c]
      refine ⟨_, rfl, fun v hv => ?_, fun p hp => by rw [u1_p _ _ _ hp]; exact i2 p hp⟩
      rw [u1_if]
      by_cases k2 : v = k
      · rw [if_pos k2]; unfold d0; rw [k2, if_neg c]; rfl
      · rw [if_neg k2]; exact i1 v (by omega))
  obtain ⟨a, e, h1, h2, h3, h4, h5⟩ := mu_inv (fun (a : (Nat → Nat → Int32) × mu_D) i => x_m_laysWays_34 (a.1, g) (nI w) i) (fun k a => HM a.2 a.1 ∧ dSd (aG A) s w a.2 ∧ dCm (aG A) s w k a.2 ∧ dBd a.2 ∧ ∀ p, p ≠ 23 → a.1 p = f p) (aG A).1 (f0, d0 s) ⟨z0, d0_Sd _ _ _, d0_Cm _ _ _, d0_Bd (by omega), y0⟩ (by
    intro k a hk ⟨h1, h2, h3, h4, h5⟩
    obtain ⟨b, e2, j1, j2, j3, j4, j5, j6⟩ := mu_inv (fun (b : (Nat → Nat → Int32) × mu_D) i => x_m_laysWays_45 (b.1, g) (nI w) (nI k) i) (fun n b => HM b.2 b.1 ∧ dSd (aG A) s w b.2 ∧ dLe b.2 a.2 ∧ dBd b.2 ∧ (∀ p, p ≠ 23 → b.1 p = f p) ∧ ∀ i u v, i < (aG A).2.1 → gE (aG A) i u v → u < n → dRd (aG A) w a.2 b.2 i u v) (aG A).1 a ⟨h1, h2, dLe_refl _, h4, h5, fun i u _ _ _ hi => absurd hi (Nat.not_lt_zero u)⟩ (by
      intro n b hn ⟨j1, j2, j3, j4, j5, j6⟩
      obtain ⟨c, e3, l1, l2, l3, l4, l5, l6⟩ := mu_inv (fun (c : (Nat → Nat → Int32) × mu_D) i => x_m_laysWays_57 (c.1, g) (nI w) (nI k) (nI n) i) (fun m c => HM c.2 c.1 ∧ dSd (aG A) s w c.2 ∧ dLe c.2 b.2 ∧ dBd c.2 ∧ (∀ p, p ≠ 23 → c.1 p = f p) ∧ ∀ i v, i < (aG A).2.1 → gE (aG A) i n v → v < m → dRd (aG A) w a.2 c.2 i n v) (aG A).1 b ⟨j1, j2, dLe_refl _, j4, j5, fun i v _ _ hi => absurd hi (Nat.not_lt_zero v)⟩ (by
        intro m c hm ⟨l1, l2, l3, l4, l5, l6⟩
        obtain ⟨f', D', e4, H4, hD, fr⟩ := m_step c.1 g l1 l4 go (hGf c.1 l5) hn hm hw (nI k)
        have hle : dLe D' c.2 := by
          rcases hD with ⟨x, _⟩ | ⟨i, _, _, x⟩
          · rw [x]; exact dLe_refl _
          · rw [x]; exact rlx_le _ _ _ _ _
        refine ⟨(f', D'), e4, H4, ?_, dLe_trans l3 hle, ?_, fun p hp => by show f' p = f p; rw [fr p hp, l5 p hp], ?_⟩
        · rcases hD with ⟨x, _⟩ | ⟨i, hi, he, x⟩
          · show dSd _ _ _ D'; rw [x]; exact l2
          · show dSd _ _ _ D'; rw [x]; exact dSd_r l2 hi he
        · rcases hD with ⟨x, _⟩ | ⟨i, hi, he, x⟩
          · show dBd D'; rw [x]; exact l4
          · show dBd D'; rw [x]; exact dBd_r l4 w (by omega) (go.2.2.2.1 i hi).2.2.2
        · intro i v hi he hv
          by_cases c1 : v < m
          · obtain ⟨D1, x1, x2⟩ := l6 i v hi he c1
            exact ⟨D1, x1, dLe_trans x2 hle⟩
          · have : v = m := by omega
            subst this
            rcases hD with ⟨_, x⟩ | ⟨i', hi', he', x⟩
            · exact absurd he (x i hi)
            · have : i = i' := gE_u go hi hi' he he'
              subst this
              refine ⟨c.2, dLe_trans j3 l3, ?_⟩
              show dLe D' _
              rw [x]; exact dLe_refl _)
      refine ⟨c, ?_, l1, l2, dLe_trans j3 l3, l4, l5, ?_⟩
      · show x_m_laysWays_45 (b.1, g) (nI w) (nI k) (nI n) = x_m_laysWays_45 (c.1, g) (nI w) (nI k) (nI (n + 1))
        have hT : b.1 0 1 = nI (aG A).1 := (hGf b.1 j5).1
        have hT' : c.1 0 1 = nI (aG A).1 := (hGf c.1 l5).1
        rw [e_m_laysWays_45, if_neg (by show ¬ b.1 0 1 ≤ nI n; rw [hT]; exact nI_ge hn (by omega))]
        refine Eq.trans e3 ?_
        show x_m_laysWays_57 (c.1, g) (nI w) (nI k) (nI n) (nI (aG A).1) = _
        rw [e_m_laysWays_57, if_pos (q_le hT'), nI_1]
      · intro i u v hi he hu
        by_cases c1 : u < n
        · obtain ⟨D1, x1, x2⟩ := j6 i u v hi he c1
          exact ⟨D1, x1, dLe_trans x2 l3⟩
        · have : u = n := by omega
          subst this
          exact l6 i v hi he (gE_lt go hi he).2)
    refine ⟨b, ?_, j1, j2, ?_, j4, j5⟩
    · show x_m_laysWays_34 (a.1, g) (nI w) (nI k) = x_m_laysWays_34 (b.1, g) (nI w) (nI (k + 1))
      have hT : a.1 0 1 = nI (aG A).1 := (hGf a.1 h5).1
      have hT' : b.1 0 1 = nI (aG A).1 := (hGf b.1 j5).1
      rw [e_m_laysWays_34, if_neg (by show ¬ a.1 0 1 ≤ nI k; rw [hT]; exact nI_ge hk (by omega))]
      refine Eq.trans e2 ?_
      show x_m_laysWays_45 (b.1, g) (nI w) (nI k) (nI (aG A).1) = _
      rw [e_m_laysWays_45, if_pos (q_le hT'), nI_1]
    · exact dCm_S h3 j3 (fun i u v hi he => j6 i u v hi he (gE_lt go hi he).1))
  obtain ⟨f', D⟩ := a
  dsimp only at h1 h2 h3 h4 h5 e
  have hT' : f' 0 1 = nI (aG A).1 := (hGf f' h5).1
  refine ⟨f', D, ?_, h1, h2, h3, h4, h5⟩
  refine Eq.trans e0 ?_
  show x_m_laysWays_2 (f0, g) (nI s) (nI w) (nI 8) = _
  rw [e_m_laysWays_2, if_pos (by decide)]
  refine Eq.trans e ?_
  rw [e_m_laysWays_34, if_pos (q_le hT')]
  rfl
/-- what is laid out, once for all -/
theorem w_some {A : mu_A} {f : Nat → Nat → Int32} (ok : AOK A) (hM : MRel A f) {s w : Nat} (hs : s < (aG A).1) (hw : w ≤ 2) : ∃ D, dSd (aG A) s w D ∧ dCm (aG A) s w (aG A).1 D ∧ dBd D := by
  obtain ⟨_, D, _, _, a, b, c, _⟩ := m_laysWays f (fun _ _ => 0) ok hM hs hw
  exact ⟨D, a, b, c⟩
theorem QC_105 {f f' : Nat → Nat → Int32} (h : ∀ p, p ≠ 105 → f' p = f p) : QC f f' := fun p _ _ _ _ => h p (by omega)
theorem QM_23 {f f' : Nat → Nat → Int32} (h : ∀ p, p ≠ 23 → f' p = f p) : QM f f' := ⟨fun p _ _ _ _ _ a _ _ => h p a, fun i _ _ _ _ _ => by rw [h 0 (by omega)], fun i _ => by rw [h 18 (by omega)]⟩
theorem CL_105 {Λ : mu_Ld} {f f' : Nat → Nat → Int32} (h : ∀ p, p ≠ 105 → f' p = f p) (hL : CLd Λ f) : CLd Λ f' := CLd_of hL (fun p _ _ _ => h p (by omega))
theorem CR_105 {Λ : mu_Ld} {r : mu_Rw} {f f' : Nat → Nat → Int32} (h : ∀ p, p ≠ 105 → f' p = f p) (hR : CRw Λ 67 r f) : CRw Λ 67 r f' := CRw_of hR (by rw [h 67 (by omega)]) (fun p _ _ => h p (by omega))
theorem ML_23 {Λ : mu_Ld} {f f' : Nat → Nat → Int32} (h : ∀ p, p ≠ 23 → f' p = f p) (hL : MLd Λ f) : MLd Λ f' := MLd_of hL (fun i _ => by rw [h 0 (by omega)]) (fun p _ _ => h p (by omega))
theorem MR_23 {Λ : mu_Ld} {b : Nat} {r : mu_Rw} {f f' : Nat → Nat → Int32} (lo : lOK Λ) (h : ∀ p, p ≠ 23 → f' p = f p) (hR : MRw Λ b r f) : MRw Λ b r f' := MRw_of hR (fun i _ _ => by rw [h 18 (by omega)]) lo

theorem q_way {A : mu_A} {f : Nat → Nat → Int32} (ok : AOK A) (hM : MRel A f) (hC : CRel A f) (v1 v2 v3 : Int32) : Qn f (fun σ => x_b_way_0 σ v1 v2 v3) (fun σ => x_m_way_0 σ v1 v2 v3) (id) := by
  have lo := ok.1
  have go := ok.2.1
  have ro := ok.2.2.2.1
  have l1 := lo.1
  have l2 := lo.2.1
  have g8 := go.2.1
  have cB := hC.1.1
  have cP := hC.1.2.1
  have cT := hC.2.1.1
  have L := hC.1
  have R := hC.2.2.1
  rcases ok_bad v1 (n := (aG A).1) (by omega) with bd0 | ⟨t, ht, rfl⟩
  · refine Qn_err ok hM 1 (by omega) ?_ ?_
    · intro g
      show x_b_way_0 (f, g) v1 v2 v3 = _
      rw [e_b_way_0, c_checkTownN f g cT bd0, c_Vx]
    · intro f0 f2 g M0 h0 e0
      show x_m_way_0 (f2, g) v1 v2 v3 = _
      rw [e_m_way_0]
      dsimp only
      rw [← e0, m_isTownN f0 g h0 M0.2.1.1 bd0, c_I, if_pos (by decide)]
      rfl
  rcases ok_bad v2 (n := (aG A).1) (by omega) with bd1 | ⟨u, hu, rfl⟩
  · refine Qn_err ok hM 1 (by omega) ?_ ?_
    · intro g
      show x_b_way_0 (f, g) (nI t) v2 v3 = _
      rw [e_b_way_0, c_checkTownY f g cT (by omega) ht, c_V, c_checkTownN f g cT bd1, c_Vx]
    · intro f0 f2 g M0 h0 e0
      show x_m_way_0 (f2, g) (nI t) v2 v3 = _
      rw [e_m_way_0]
      dsimp only
      rw [← e0, m_isTownY f0 g h0 M0.2.1.1 (by omega) ht, c_I, if_neg (by decide), m_isTownN f0 g h0 M0.2.1.1 bd1, c_I, if_pos (by decide)]
      rfl
  rcases ok_badR v3 (a := 0) (b := 2) (by omega) (by omega) with bd2 | ⟨w, _, hw, rfl⟩
  · refine Qn_err ok hM 1 (by omega) ?_ ?_
    · intro g
      show x_b_way_0 (f, g) (nI t) (nI u) v3 = _
      rw [e_b_way_0, c_checkTownY f g cT (by omega) ht, c_V, c_checkTownY f g cT (by omega) hu, c_V, show x_b_checkWhat_0 (f, g) v3 2 = _ from c_checkWhatN (f, g) (b := 2) bd2, c_Vx]
    · intro f0 f2 g M0 h0 e0
      show x_m_way_0 (f2, g) (nI t) (nI u) v3 = _
      rw [e_m_way_0]
      dsimp only
      rw [← e0, m_isTownY f0 g h0 M0.2.1.1 (by omega) ht, c_I, if_neg (by decide), m_isTownY f0 g h0 M0.2.1.1 (by omega) hu, c_I, if_neg (by decide), show x_m_isWhat_0 (f0, g) v3 2 = _ from m_isWhatN f0 g (b := 2) h0 bd2, c_I, if_pos (by decide)]
      rfl
  obtain ⟨D, dA, dB, dC⟩ := w_some ok hM ht (w := w) (by omega)
  refine Qn_val ok hM rfl (dI (D u)) ?_ ?_
  · intro g
    show ∃ f', x_b_way_0 (f, g) (nI t) (nI u) (nI w) = rI _ (f', g) ∧ _
    rw [e_b_way_0, c_checkTownY f g cT (by omega) ht, c_V, c_checkTownY f g cT (by omega) hu, c_V, show x_b_checkWhat_0 (f, g) (nI w) 2 = _ from c_checkWhatY (f, g) (b := 2) hw (by omega), c_V]
    obtain ⟨f', D', e, H, x1, x2, x3, fr⟩ := c_measure f g ok hC ht hw
    rw [e, c_V]
    have hd := d_same go ht x1 x2 dA dB (Nat.le_refl _) (Nat.sub_le _ _) u
    have hu' := H u (by omega)
    simp (disch := omega) only [q_in, q_clamp, if_true, hu', hd]
    exact ⟨f', rfl, QC_105 fr⟩
  · intro f0 f2 g M0 h0 e0
    have ML := M0.1
    have MR := M0.2.2.1
    show ∃ f3, x_m_way_0 (f2, g) (nI t) (nI u) (nI w) = rI _ (f3, g) ∧ _
    rw [e_m_way_0]
    dsimp only
    rw [← e0, m_isTownY f0 g h0 M0.2.1.1 (by omega) ht, c_I, if_neg (by decide), m_isTownY f0 g h0 M0.2.1.1 (by omega) hu, c_I, if_neg (by decide), show x_m_isWhat_0 (f0, g) (nI w) 2 = _ from m_isWhatY f0 g (b := 2) h0 hw (by omega), c_I, if_neg (by decide)]
    obtain ⟨f', D', e, H, x1, x2, x3, fr⟩ := m_laysWays f0 g ok M0 ht hw
    rw [e, c_V]
    have hd := d_same go ht x1 x2 dA dB (Nat.sub_le _ _) (Nat.sub_le _ _) u
    have hu' := H u (by omega)
    simp (disch := omega) only [q_in, q_clamp, if_true, hu', hd]
    refine ⟨f', ?_, by rw [fr 0 (by omega)]; exact h0, QM_23 fr⟩
    cases hq : D u with
    | none => rw [if_neg (by decide)]; rfl
    | some d =>
      have := dBd_63 dC hq
      rw [if_pos (show dM (some d) < 99999 from nI_lt (a := d) (b := 99999) (by omega) (by omega))]; rfl

theorem q_reach {A : mu_A} {f : Nat → Nat → Int32} (ok : AOK A) (hM : MRel A f) (hC : CRel A f) (v1 : Int32) : Qn f (fun σ => x_b_reach_0 σ v1) (fun σ => x_m_reach_0 σ v1) (id) := by
  have lo := ok.1
  have go := ok.2.1
  have ro := ok.2.2.2.1
  have l1 := lo.1
  have l2 := lo.2.1
  have g8 := go.2.1
  have cB := hC.1.1
  have cP := hC.1.2.1
  have cT := hC.2.1.1
  have L := hC.1
  have R := hC.2.2.1
  rcases ok_bad v1 (n := (aG A).1) (by omega) with bd0 | ⟨t, ht, rfl⟩
  · refine Qn_err ok hM 1 (by omega) ?_ ?_
    · intro g
      show x_b_reach_0 (f, g) v1 = _
      rw [e_b_reach_0, c_checkTownN f g cT bd0, c_Vx]
    · intro f0 f2 g M0 h0 e0
      show x_m_reach_0 (f2, g) v1 = _
      rw [e_m_reach_0]
      dsimp only
      rw [← e0, m_isTownN f0 g h0 M0.2.1.1 bd0, c_I, if_pos (by decide)]
      rfl
  obtain ⟨D, dA, dB, dC⟩ := w_some ok hM ht (w := 0) (by omega)
  refine Qn_val ok hM rfl (nI (mu_mk (fun v => (D v).isSome) (aG A).1)) ?_ ?_
  · intro g
    show ∃ f', x_b_reach_0 (f, g) (nI t) = rI _ (f', g) ∧ _
    rw [e_b_reach_0, c_checkTownY f g cT (by omega) ht, c_V]
    obtain ⟨f', D', e, H, x1, x2, x3, fr⟩ := c_measure f g ok hC ht (w := 0) (by omega)
    rw [show x_ld_measure_p34_105_0 (f, g) (nI t) 0 = _ from e, c_V]
    have hd := d_same go ht x1 x2 dA dB (Nat.le_refl _) (Nat.sub_le _ _)
    have hT : f' 34 0 = nI (aG A).1 := by rw [fr 34 (by omega)]; exact cT
    refine ⟨f', ?_, QC_105 fr⟩
    have h := mu_loop (fun (a : Nat) i => x_b_reach_22 (f', g) (nI a) i) (fun p => mu_mk (fun v => (D v).isSome) p) (aG A).1 (by
      intro v hv
      have hf := H v (by omega)
      rw [hd v] at hf
      show x_b_reach_22 (f', g) (nI _) (nI v) = x_b_reach_22 (f', g) (nI _) (nI (v + 1))
      rw [e_b_reach_22, if_neg (by show ¬ f' 34 0 ≤ nI v; rw [hT]; exact nI_ge hv (by omega))]
      simp (disch := omega) only [q_0, q_1, q_2, q_3, q_4, q_5, q_6, q_7, q_8, q_9, q_10, q_11, q_12, q_13, q_14, q_15, q_16, q_17, q_18, q_19, q_20, q_21, q_22, q_23, q_24, q_29, q_30, q_31, q_36, q_42, q_50, q_40, q_48, q_96, q_97, q_99, q_100, q_255, q_256, q_700, q_999, q_1160, q_1400, q_99999, q_m1, q_in, q_clamp, if_true, hf, nI_add, q_shl, fa_or, q_m1]
      cases hq : D v with
      | none => rw [if_pos (show dI none = nN from rfl), mu_mk_f (P := fun v => (D v).isSome) (by rw [hq]; rfl)]
      | some d =>
        have := dBd_63 dC hq
        rw [if_neg (by show ¬ nI d = nN; rw [q_nNe (by omega)]; exact id), mu_mk_t (P := fun v => (D v).isSome) (by rw [hq]; rfl)])
    refine Eq.trans h ?_
    show x_b_reach_22 (f', g) (nI _) (nI (aG A).1) = _
    rw [e_b_reach_22, if_pos (q_le hT)]; rfl
  · intro f0 f2 g M0 h0 e0
    have ML := M0.1
    have MR := M0.2.2.1
    show ∃ f3, x_m_reach_0 (f2, g) (nI t) = rI _ (f3, g) ∧ _
    rw [e_m_reach_0]
    dsimp only
    rw [← e0, m_isTownY f0 g h0 M0.2.1.1 (by omega) ht, c_I, if_neg (by decide)]
    obtain ⟨f', D', e, H, x1, x2, x3, fr⟩ := m_laysWays f0 g ok M0 ht (w := 1) (by omega)
    rw [show x_m_laysWays_0 (f0, g) (nI t) 1 = _ from e, c_V]
    have hT : f' 0 1 = nI (aG A).1 := by rw [fr 0 (by omega)]; exact M0.2.1.1
    refine ⟨f', ?_, by rw [fr 0 (by omega)]; exact h0, QM_23 fr⟩
    have h := mu_loop (fun (a : Nat) i => x_m_reach_25 (f', g) (nI a) i) (fun p => mu_mk (fun v => (D v).isSome) p) (aG A).1 (by
      intro v hv
      have hf := H v (by omega)
      show x_m_reach_25 (f', g) (nI _) (nI v) = x_m_reach_25 (f', g) (nI _) (nI (v + 1))
      rw [e_m_reach_25, if_neg (by show ¬ f' 0 1 ≤ nI v; rw [hT]; exact nI_ge hv (by omega))]
      simp (disch := omega) only [q_0, q_1, q_2, q_3, q_4, q_5, q_6, q_7, q_8, q_9, q_10, q_11, q_12, q_13, q_14, q_15, q_16, q_17, q_18, q_19, q_20, q_21, q_22, q_23, q_24, q_29, q_30, q_31, q_36, q_42, q_50, q_40, q_48, q_96, q_97, q_99, q_100, q_255, q_256, q_700, q_999, q_1160, q_1400, q_99999, q_m1, q_in, q_clamp, if_true, hf, nI_add, q_shl, fa_or, Nat.or_zero]
      cases hq : D' v with
      | none =>
        rw [if_pos (show nI 99999 ≤ dM none from Int32.le_refl _), mu_mk_f (P := fun v => (D v).isSome)]
        cases hq2 : D v with
        | none => rfl
        | some d =>
          obtain ⟨d', h'⟩ := d_reach go ht dA x2 (Nat.sub_le _ _) hq2
          rw [hq] at h'; cases h'
      | some d =>
        have := dBd_63 x3 hq
        obtain ⟨d', h'⟩ := d_reach go ht x1 dB (Nat.sub_le _ _) hq
        rw [if_neg (by show ¬ nI 99999 ≤ nI d; exact nI_ge (by omega) (by omega)), mu_mk_t (P := fun v => (D v).isSome) (by rw [h']; rfl)])
    refine Eq.trans h ?_
    show x_m_reach_25 (f', g) (nI _) (nI (aG A).1) = _
    rw [e_m_reach_25, if_pos (q_le hT)]; rfl

/-- the nearest box: which, and how far -/
def nQ (D : mu_D) (t : Nat → Nat) (n : Nat) : Option (Nat × Nat) := mu_up (fun x q => match D (t x) with
  | none => q
  | some d => match q with
    | none => some (x, d)
    | some z => if d < z.2 then some (x, d) else q) none n
def nB (q : Option (Nat × Nat)) : Int32 := match q with
  | none => nN
  | some z => nI z.1
def nC (q : Option (Nat × Nat)) : Int32 := match q with
  | none => nN
  | some z => nI z.2
def nM (q : Option (Nat × Nat)) : Int32 := match q with
  | none => nI 99999
  | some z => nI z.2
theorem nQ_ok {D : mu_D} (hD : dBd D) (t : Nat → Nat) : ∀ n z, nQ D t n = some z → z.1 < n ∧ z.2 ≤ 63 := by
  intro n
  induction n with
  | zero => intro z h; cases h
  | succ n ih =>
    intro z h
    have e : nQ D t (n + 1) = (match D (t n) with
      | none => nQ D t n
      | some d => match nQ D t n with
        | none => some (n, d)
        | some z => if d < z.2 then some (n, d) else nQ D t n) := rfl
    rw [e] at h
    cases hd : D (t n) with
    | none =>
      rw [hd] at h
      have := ih z h
      exact ⟨by omega, this.2⟩
    | some d =>
      have h63 := dBd_63 hD hd
      rw [hd] at h
      cases hq : nQ D t n with
      | none =>
        rw [hq] at h
        cases h
        exact ⟨Nat.lt_succ_self n, h63⟩
      | some y =>
        rw [hq] at h
        have h' : (if d < y.2 then some (n, d) else some y) = some z := h
        by_cases c : d < y.2
        · rw [if_pos c] at h'; cases h'
          exact ⟨Nat.lt_succ_self n, h63⟩
        · rw [if_neg c] at h'
          have hyz : y = z := Option.some.inj h'
          rw [← hyz]
          have := ih y hq
          exact ⟨by omega, this.2⟩
def tN (A : mu_A) (x : Nat) : Nat := (sTo (aL A) (aR A) x).toNatClampNeg
theorem tN_ok {A : mu_A} (ok : AOK A) {x : Nat} (hx : x < lB (aL A)) : tN A x < (aG A).1 ∧ sTo (aL A) (aR A) x = nI (tN A x) := by
  have g8 := ok.2.1.2.1
  obtain ⟨s, hs, e⟩ := ok.2.2.2.1.2.1 x hx
  have h6 := (ok.1.2.2.1 x hx).2
  obtain ⟨t, ht, e2⟩ := ok.2.2.1 x hx s hs
  have e3 : sTo (aL A) (aR A) x = nI t := by unfold sTo; rw [e, q_clamp (by omega)]; exact e2
  unfold tN
  rw [e3, q_clamp (by omega)]
  exact ⟨ht, rfl⟩

theorem q_nearest {A : mu_A} {f : Nat → Nat → Int32} (ok : AOK A) (hM : MRel A f) (hC : CRel A f) (v1 : Int32) : Qn f (fun σ => x_b_nearest_0 σ v1) (fun σ => x_m_nearest_0 σ v1) (id) := by
  have lo := ok.1
  have go := ok.2.1
  have ro := ok.2.2.2.1
  have l1 := lo.1
  have l2 := lo.2.1
  have g8 := go.2.1
  have cB := hC.1.1
  have cP := hC.1.2.1
  have cT := hC.2.1.1
  have L := hC.1
  have R := hC.2.2.1
  rcases ok_bad v1 (n := (aG A).1) (by omega) with bd0 | ⟨t, ht, rfl⟩
  · refine Qn_err ok hM 1 (by omega) ?_ ?_
    · intro g
      show x_b_nearest_0 (f, g) v1 = _
      rw [e_b_nearest_0, c_checkTownN f g cT bd0, c_Vx]
    · intro f0 f2 g M0 h0 e0
      show x_m_nearest_0 (f2, g) v1 = _
      rw [e_m_nearest_0]
      dsimp only
      rw [← e0, m_isTownN f0 g h0 M0.2.1.1 bd0, c_I, if_pos (by decide)]
      rfl
  obtain ⟨D, dA, dB, dC⟩ := w_some ok hM ht (w := 0) (by omega)
  refine Qn_val ok hM rfl (nB (nQ D (tN A) (lB (aL A)))) ?_ ?_
  · intro g
    show ∃ f', x_b_nearest_0 (f, g) (nI t) = rI _ (f', g) ∧ _
    rw [e_b_nearest_0, c_checkTownY f g cT (by omega) ht, c_V]
    obtain ⟨f', D', e, H, x1, x2, x3, fr⟩ := c_measure f g ok hC ht (w := 0) (by omega)
    rw [show x_ld_measure_p34_105_0 (f, g) (nI t) 0 = _ from e, c_V]
    have hd := d_same go ht x1 x2 dA dB (Nat.le_refl _) (Nat.sub_le _ _)
    have L' := CL_105 fr L
    have R' := CR_105 fr R
    have hB : f' 34 5 = nI (lB (aL A)) := L'.1
    refine ⟨f', ?_, QC_105 fr⟩
    have hT2 : f' 34 0 = nI (aG A).1 := by rw [fr 34 (by omega)]; exact cT
    have h := mu_loop (fun (q : Option (Nat × Nat)) i => x_b_nearest_25 (f', g) (nB q) (nC q) i) (fun n => nQ D (tN A) n) (lB (aL A)) (by
      intro x hx
      obtain ⟨t1, t2⟩ := tN_ok ok hx
      have hf := H (tN A x) (by omega)
      rw [hd] at hf
      have eQ : nQ D (tN A) (x + 1) = (match D (tN A x) with
        | none => nQ D (tN A) x
        | some d => match nQ D (tN A) x with
          | none => some (x, d)
          | some z => if d < z.2 then some (x, d) else nQ D (tN A) x) := rfl
      show x_b_nearest_25 (f', g) (nB (nQ D (tN A) x)) (nC (nQ D (tN A) x)) (nI x) = x_b_nearest_25 (f', g) (nB (nQ D (tN A) (x + 1))) (nC (nQ D (tN A) (x + 1))) (nI (x + 1))
      rw [eQ, e_b_nearest_25, if_neg (by show ¬ f' 34 5 ≤ nI x; rw [hB]; exact nI_ge hx (by omega)), c_townOf_67 (f', g) lo L' R' ro hx, c_I, t2, c_hasTownY f' g hT2 (by omega) t1, c_I, if_neg (by decide)]
      simp (disch := omega) only [q_0, q_1, q_2, q_3, q_4, q_5, q_6, q_7, q_8, q_9, q_10, q_11, q_12, q_13, q_14, q_15, q_16, q_17, q_18, q_19, q_20, q_21, q_22, q_23, q_24, q_29, q_30, q_31, q_36, q_42, q_50, q_40, q_48, q_96, q_97, q_99, q_100, q_255, q_256, q_700, q_999, q_1160, q_1400, q_99999, q_m1, q_in, q_clamp, if_true, hf, nI_add, q_m1]
      cases hq : D (tN A x) with
      | none => rw [if_pos (show dI none = nN from rfl)]
      | some d =>
        have h63 := dBd_63 dC hq
        rw [if_neg (by show ¬ nI d = nN; rw [q_nNe (by omega)]; exact id)]
        cases hz : nQ D (tN A) x with
        | none => rw [if_pos (show nB none = nN from rfl)]; rfl
        | some z =>
          obtain ⟨z1, z2⟩ := nQ_ok dC (tN A) x z hz
          rw [if_neg (by show ¬ nI z.1 = nN; rw [q_nNe (by omega)]; exact id)]
          show (if nI z.2 ≤ nI d then _ else _) = x_b_nearest_25 (f', g) (nB (if d < z.2 then some (x, d) else some z)) (nC (if d < z.2 then some (x, d) else some z)) _
          by_cases c : d < z.2
          · rw [if_neg (nI_ge c (by omega)), if_pos c]; rfl
          · rw [if_pos (nI_le (by omega) (by omega)), if_neg c])
    refine Eq.trans h ?_
    show x_b_nearest_25 (f', g) (nB _) (nC _) (nI (lB (aL A))) = _
    rw [e_b_nearest_25, if_pos (q_le hB)]; rfl
  · intro f0 f2 g M0 h0 e0
    have ML := M0.1
    have MR := M0.2.2.1
    show ∃ f3, x_m_nearest_0 (f2, g) (nI t) = rI _ (f3, g) ∧ _
    rw [e_m_nearest_0]
    dsimp only
    rw [← e0, m_isTownY f0 g h0 M0.2.1.1 (by omega) ht, c_I, if_neg (by decide)]
    obtain ⟨f', D', e, H, x1, x2, x3, fr⟩ := m_laysWays f0 g ok M0 ht (w := 0) (by omega)
    rw [show x_m_laysWays_0 (f0, g) (nI t) 0 = _ from e, c_V]
    have hd := d_same go ht x1 x2 dA dB (Nat.sub_le _ _) (Nat.sub_le _ _)
    have L' := ML_23 fr ML
    have R' := MR_23 lo fr MR
    have hB : f' 0 3 = nI (lB (aL A)) := L'.1
    refine ⟨f', ?_, by rw [fr 0 (by omega)]; exact h0, QM_23 fr⟩
    have h := mu_loop (fun (q : Option (Nat × Nat)) i => x_m_nearest_30 (f', g) (nB q) (nM q) i) (fun n => nQ D (tN A) n) (lB (aL A)) (by
      intro x hx
      obtain ⟨t1, t2⟩ := tN_ok ok hx
      have hf := H (tN A x) (by omega)
      rw [hd] at hf
      have eQ : nQ D (tN A) (x + 1) = (match D (tN A x) with
        | none => nQ D (tN A) x
        | some d => match nQ D (tN A) x with
          | none => some (x, d)
          | some z => if d < z.2 then some (x, d) else nQ D (tN A) x) := rfl
      show x_m_nearest_30 (f', g) (nB (nQ D (tN A) x)) (nM (nQ D (tN A) x)) (nI x) = x_m_nearest_30 (f', g) (nB (nQ D (tN A) (x + 1))) (nM (nQ D (tN A) (x + 1))) (nI (x + 1))
      have tw : x_m_townOf_0 (f', g) 0 (nI x) = rI (nI (tN A x)) (f', g) := by rw [← t2]; exact m_townOf (b := 0) (f', g) lo (by omega) L' R' ro hx
      rw [eQ, e_m_nearest_30, if_neg (by show ¬ f' 0 3 ≤ nI x; rw [hB]; exact nI_ge hx (by omega)), tw, c_I]
      simp (disch := omega) only [q_in, q_clamp, if_true, hf, nI_1, tw, c_I]
      cases hq : D (tN A x) with
      | none =>
        rw [if_neg]
        show ¬ nI 99999 < nM (nQ D (tN A) x)
        cases hz : nQ D (tN A) x with
        | none => decide
        | some z =>
          obtain ⟨z1, z2⟩ := nQ_ok dC (tN A) x z hz
          exact nI_nlt (by omega) (by omega)
      | some d =>
        have h63 := dBd_63 dC hq
        cases hz : nQ D (tN A) x with
        | none => rw [if_pos (show dM (some d) < nM none from nI_lt (by omega) (by omega))]; rfl
        | some z =>
          obtain ⟨z1, z2⟩ := nQ_ok dC (tN A) x z hz
          show (if nI d < nI z.2 then _ else _) = x_m_nearest_30 (f', g) (nB (if d < z.2 then some (x, d) else some z)) (nM (if d < z.2 then some (x, d) else some z)) _
          by_cases c : d < z.2
          · rw [if_pos (nI_lt c (by omega)), if_pos c]; rfl
          · rw [if_neg (nI_nlt (by omega) (by omega)), if_neg c])
    refine Eq.trans h ?_
    show x_m_nearest_30 (f', g) (nB _) (nM _) (nI (lB (aL A))) = _
    rw [e_m_nearest_30, if_pos (q_le hB)]; rfl
