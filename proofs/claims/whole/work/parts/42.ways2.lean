/-! ways: the class and the model -/
def dI (o : Option Nat) : Int32 := match o with
  | none => nN
  | some d => nI d
def dM (o : Option Nat) : Int32 := match o with
  | none => nI 99999
  | some d => nI d
def HC (D : mu_D) (f : Nat → Nat → Int32) : Prop := ∀ v, v < 8 → f 105 v = dI (D v)
def HM (D : mu_D) (f : Nat → Nat → Int32) : Prop := ∀ v, v < 8 → f 23 v = dM (D v)
theorem HC_U {D : mu_D} {f : Nat → Nat → Int32} (h : HC D f) {v : Nat} (c : Nat) : HC (dU D v c) (en_u1 f 105 v (nI c)) := by
  intro x hx
  rw [u1_if]
  unfold dU
  by_cases k : x = v
  · rw [if_pos k, if_pos k]; rfl
  · rw [if_neg k, if_neg k]; exact h x hx
theorem HM_U {D : mu_D} {f : Nat → Nat → Int32} (h : HM D f) {v : Nat} (c : Nat) : HM (dU D v c) (en_u1 f 23 v (nI c)) := by
  intro x hx
  rw [u1_if]
  unfold dU
  by_cases k : x = v
  · rw [if_pos k, if_pos k]; rfl
  · rw [if_neg k, if_neg k]; exact h x hx
theorem c_fill_69 (f : Nat → Nat → Int32) (g : Nat → Nat → Int64) (v : Int32) : ∃ f', x_ja_fill_p69_0 (f, g) v = rV (f', g) ∧ (∀ i, i < 6 → f' 69 i = v) ∧ ∀ p, p ≠ 69 → f' p = f p := by
  rw [e_ja_fill_p69_0]
  obtain ⟨f', e, i1, i2⟩ := mu_inv (fun (f : Nat → Nat → Int32) i => x_ja_fill_p69_5 (f, g) v i (nI 6)) (fun k f' => (∀ i, i < k → f' 69 i = v) ∧ ∀ p, p ≠ 69 → f' p = f p) 6 f ⟨fun i hi => absurd hi (Nat.not_lt_zero i), fun _ _ => rfl⟩ (by
    intro k f1 hk ⟨i1, i2⟩
    show ∃ f', x_ja_fill_p69_5 (f1, g) v (nI k) (nI 6) = x_ja_fill_p69_5 (f', g) v (nI (k + 1)) (nI 6) ∧ _
    rw [e_ja_fill_p69_5, if_neg (nI_ge hk (by omega)), nI_1]
    simp (disch := omega) only [q_in, q_clamp, if_true]
    refine ⟨_, rfl, fun i hi => ?_, fun p hp => by rw [u1_p _ _ _ hp]; exact i2 p hp⟩
    rw [u1_if]
    by_cases c : i = k
    · rw [if_pos c]
    · rw [if_neg c]; exact i1 i (by omega))
  refine ⟨f', ?_, i1, i2⟩
  refine Eq.trans e ?_
  show x_ja_fill_p69_5 (f', g) v (nI 6) (nI 6) = _
  rw [e_ja_fill_p69_5, if_pos (Int32.le_refl _)]
  rfl
theorem c_fill_71 (f : Nat → Nat → Int32) (g : Nat → Nat → Int64) (v : Int32) : ∃ f', x_ja_fill_p71_0 (f, g) v = rV (f', g) ∧ (∀ i, i < 8 → f' 71 i = v) ∧ ∀ p, p ≠ 71 → f' p = f p := by
  rw [e_ja_fill_p71_0]
  obtain ⟨f', e, i1, i2⟩ := mu_inv (fun (f : Nat → Nat → Int32) i => x_ja_fill_p71_5 (f, g) v i (nI 8)) (fun k f' => (∀ i, i < k → f' 71 i = v) ∧ ∀ p, p ≠ 71 → f' p = f p) 8 f ⟨fun i hi => absurd hi (Nat.not_lt_zero i), fun _ _ => rfl⟩ (by
    intro k f1 hk ⟨i1, i2⟩
    show ∃ f', x_ja_fill_p71_5 (f1, g) v (nI k) (nI 8) = x_ja_fill_p71_5 (f', g) v (nI (k + 1)) (nI 8) ∧ _
    rw [e_ja_fill_p71_5, if_neg (nI_ge hk (by omega)), nI_1]
    simp (disch := omega) only [q_in, q_clamp, if_true]
    refine ⟨_, rfl, fun i hi => ?_, fun p hp => by rw [u1_p _ _ _ hp]; exact i2 p hp⟩
    rw [u1_if]
    by_cases c : i = k
    · rw [if_pos c]
    · rw [if_neg c]; exact i1 i (by omega))
  refine ⟨f', ?_, i1, i2⟩
  refine Eq.trans e ?_
  show x_ja_fill_p71_5 (f', g) v (nI 8) (nI 8) = _
  rw [e_ja_fill_p71_5, if_pos (Int32.le_refl _)]
  rfl
theorem c_fill_105 (f : Nat → Nat → Int32) (g : Nat → Nat → Int64) (v : Int32) : ∃ f', x_ja_fill_p105_0 (f, g) v = rV (f', g) ∧ (∀ i, i < 8 → f' 105 i = v) ∧ ∀ p, p ≠ 105 → f' p = f p := by
  rw [e_ja_fill_p105_0]
  obtain ⟨f', e, i1, i2⟩ := mu_inv (fun (f : Nat → Nat → Int32) i => x_ja_fill_p105_5 (f, g) v i (nI 8)) (fun k f' => (∀ i, i < k → f' 105 i = v) ∧ ∀ p, p ≠ 105 → f' p = f p) 8 f ⟨fun i hi => absurd hi (Nat.not_lt_zero i), fun _ _ => rfl⟩ (by
    intro k f1 hk ⟨i1, i2⟩
    show ∃ f', x_ja_fill_p105_5 (f1, g) v (nI k) (nI 8) = x_ja_fill_p105_5 (f', g) v (nI (k + 1)) (nI 8) ∧ _
    rw [e_ja_fill_p105_5, if_neg (nI_ge hk (by omega)), nI_1]
    simp (disch := omega) only [q_in, q_clamp, if_true]
    refine ⟨_, rfl, fun i hi => ?_, fun p hp => by rw [u1_p _ _ _ hp]; exact i2 p hp⟩
    rw [u1_if]
    by_cases c : i = k
    · rw [if_pos c]
    · rw [if_neg c]; exact i1 i (by omega))
  refine ⟨f', ?_, i1, i2⟩
  refine Eq.trans e ?_
  show x_ja_fill_p105_5 (f', g) v (nI 8) (nI 8) = _
  rw [e_ja_fill_p105_5, if_pos (Int32.le_refl _)]
  rfl
theorem c_fill_103 (f : Nat → Nat → Int32) (g : Nat → Nat → Int64) (v : Int32) : ∃ f', x_ja_fill_p103_0 (f, g) v = rV (f', g) ∧ (∀ i, i < 100 → f' 103 i = v) ∧ ∀ p, p ≠ 103 → f' p = f p := by
  rw [e_ja_fill_p103_0]
  obtain ⟨f', e, i1, i2⟩ := mu_inv (fun (f : Nat → Nat → Int32) i => x_ja_fill_p103_5 (f, g) v i (nI 100)) (fun k f' => (∀ i, i < k → f' 103 i = v) ∧ ∀ p, p ≠ 103 → f' p = f p) 100 f ⟨fun i hi => absurd hi (Nat.not_lt_zero i), fun _ _ => rfl⟩ (by
    intro k f1 hk ⟨i1, i2⟩
    show ∃ f', x_ja_fill_p103_5 (f1, g) v (nI k) (nI 100) = x_ja_fill_p103_5 (f', g) v (nI (k + 1)) (nI 100) ∧ _
    rw [e_ja_fill_p103_5, if_neg (nI_ge hk (by omega)), nI_1]
    simp (disch := omega) only [q_in, q_clamp, if_true]
    refine ⟨_, rfl, fun i hi => ?_, fun p hp => by rw [u1_p _ _ _ hp]; exact i2 p hp⟩
    rw [u1_if]
    by_cases c : i = k
    · rw [if_pos c]
    · rw [if_neg c]; exact i1 i (by omega))
  refine ⟨f', ?_, i1, i2⟩
  refine Eq.trans e ?_
  show x_ja_fill_p103_5 (f', g) v (nI 100) (nI 100) = _
  rw [e_ja_fill_p103_5, if_pos (Int32.le_refl _)]
  rfl
theorem c_go68 {D : mu_D} (f : Nat → Nat → Int32) (g : Nat → Nat → Int64) (h : HC D f) (hb : dBd D) {v c : Nat} (hv : v < 8) (hc : c ≤ 1000) : ∃ f', x_ld_goAlong_p34_105_68 (f, g) (nI v) (nI c) = rV (f', g) ∧ HC (match D v with | none => dU D v c | some e => if c < e then dU D v c else D) f' ∧ ∀ p, p ≠ 105 → f' p = f p := by
  have hf := h v hv
  rw [e_ld_goAlong_p34_105_68]
  cases hd : D v with
  | none =>
    rw [hd] at hf
    have hf' : f 105 v = nN := hf
    simp (disch := omega) only [q_0, q_1, q_2, q_3, q_4, q_5, q_6, q_7, q_8, q_9, q_10, q_11, q_12, q_13, q_14, q_15, q_16, q_17, q_18, q_19, q_20, q_21, q_22, q_23, q_24, q_29, q_30, q_31, q_36, q_42, q_50, q_40, q_48, q_96, q_97, q_99, q_100, q_255, q_256, q_700, q_999, q_1160, q_1400, q_99999, q_m1, q_in, q_clamp, if_true, hf', q_m1]
    exact ⟨_, rfl, HC_U h c, fun p hp => u1_p _ _ _ hp⟩
  | some e =>
    rw [hd] at hf
    have hf' : f 105 v = nI e := hf
    have := dBd_63 hb hd
    simp (disch := omega) only [q_0, q_1, q_2, q_3, q_4, q_5, q_6, q_7, q_8, q_9, q_10, q_11, q_12, q_13, q_14, q_15, q_16, q_17, q_18, q_19, q_20, q_21, q_22, q_23, q_24, q_29, q_30, q_31, q_36, q_42, q_50, q_40, q_48, q_96, q_97, q_99, q_100, q_255, q_256, q_700, q_999, q_1160, q_1400, q_99999, q_m1, q_in, q_clamp, if_true, hf', q_m1, q_nNe, if_false, q_leI]
    show ∃ f', _ ∧ HC (if c < e then dU D v c else D) f' ∧ _
    by_cases k : c < e
    · rw [if_neg (by omega), if_pos k]
      exact ⟨_, rfl, HC_U h c, fun p hp => u1_p _ _ _ hp⟩
    · rw [if_pos (by omega), if_neg k]
      exact ⟨f, rfl, h, fun _ _ => rfl⟩
theorem c_goAlong {D : mu_D} (f : Nat → Nat → Int32) (g : Nat → Nat → Int64) (h : HC D f) (hb : dBd D) {i u v s w tn : Nat} (hi : i < 14) (ht8 : tn ≤ 8) (hut : u < tn) (hvt : v < tn) (hs : s ≤ 9) (hw : w ≤ 2) (h37 : f 37 i = nI s) (hT : f 34 0 = nI tn) : ∃ f', x_ld_goAlong_p34_105_0 (f, g) (nI i) (nI u) (nI v) (nI w) = rV (f', g) ∧ HC (rlx w D u v s) f' ∧ ∀ p, p ≠ 105 → f' p = f p := by
  have hu : u < 8 := by omega
  have hv : v < 8 := by omega
  have hf := h u hu
  rw [e_ld_goAlong_p34_105_0, c_hasTownY f g hT (by omega) hut, c_I, if_neg (by decide), c_hasTownY f g hT (by omega) hvt, c_I, if_neg (by decide)]
  unfold rlx
  cases hd : D u with
  | none =>
    rw [hd] at hf
    have hf' : f 105 u = nN := hf
    simp (disch := omega) only [q_0, q_1, q_2, q_3, q_4, q_5, q_6, q_7, q_8, q_9, q_10, q_11, q_12, q_13, q_14, q_15, q_16, q_17, q_18, q_19, q_20, q_21, q_22, q_23, q_24, q_29, q_30, q_31, q_36, q_42, q_50, q_40, q_48, q_96, q_97, q_99, q_100, q_255, q_256, q_700, q_999, q_1160, q_1400, q_99999, q_m1, q_in, q_clamp, if_true, hf', q_m1]
    exact ⟨f, rfl, h, fun _ _ => rfl⟩
  | some d =>
    rw [hd] at hf
    have hf' : f 105 u = nI d := hf
    have hd63 := dBd_63 hb hd
    have hE := wE_le w d hs
    obtain ⟨f', e, H, fr⟩ := c_go68 f g h hb hv (c := wE w d s) (by omega)
    refine ⟨f', ?_, H, fr⟩
    rw [← e]
    simp (disch := omega) only [q_0, q_1, q_2, q_3, q_4, q_5, q_6, q_7, q_8, q_9, q_10, q_11, q_12, q_13, q_14, q_15, q_16, q_17, q_18, q_19, q_20, q_21, q_22, q_23, q_24, q_29, q_30, q_31, q_36, q_42, q_50, q_40, q_48, q_96, q_97, q_99, q_100, q_255, q_256, q_700, q_999, q_1160, q_1400, q_99999, q_m1, q_in, q_clamp, if_true, hf', q_m1, q_nNe, if_false, q_eqI, h37, nI_add, q_ltI]
    match w, hw with
    | 0, _ => rfl
    | 1, _ => rfl
    | 2, _ =>
      show x_ld_goAlong_p34_105_68 (f, g) (nI v) (if d < s then nI s else nI d) = x_ld_goAlong_p34_105_68 (f, g) (nI v) (nI (if d < s then s else d))
      by_cases k : d < s
      · rw [if_pos k, if_pos k]
      · rw [if_neg k, if_neg k]
theorem c_measure {A : mu_A} (f : Nat → Nat → Int32) (g : Nat → Nat → Int64) (ok : AOK A) (hC : CRel A f) {s w : Nat} (hs : s < (aG A).1) (hw : w ≤ 2) : ∃ f' D, x_ld_measure_p34_105_0 (f, g) (nI s) (nI w) = rV (f', g) ∧ HC D f' ∧ dSd (aG A) s w D ∧ dCm (aG A) s w ((aG A).1 - 1) D ∧ dBd D ∧ ∀ p, p ≠ 105 → f' p = f p := by
  have go := ok.2.1
  have g8 := go.2.1
  have g2 := go.1
  have g14 := go.2.2.1
  have cG := hC.2.1
  rw [e_ld_measure_p34_105_0]
  obtain ⟨f0, e0, z0, y0⟩ := c_fill_105 f g (-1)
  rw [e0, c_V]
  simp (disch := omega) only [q_in, q_clamp, if_true]
  have H0 : HC (d0 s) (en_u1 f0 105 s 0) := by
    intro v hv
    rw [u1_if]
    unfold d0
    by_cases k : v = s
    · rw [if_pos k, if_pos k]; rfl
    · rw [if_neg k, if_neg k, z0 v hv]; rfl
  have F0 : ∀ p, p ≠ 105 → (en_u1 f0 105 s 0) p = f p := fun p hp => by rw [u1_p _ _ _ hp, y0 p hp]
  obtain ⟨a, e, h1, h2, h3, h4, h5⟩ := mu_invF (fun (a : (Nat → Nat → Int32) × mu_D) i => x_ld_measure_p34_105_12 (a.1, g) (nI w) i) (fun k a => HC a.2 a.1 ∧ dSd (aG A) s w a.2 ∧ dCm (aG A) s w (k - 1) a.2 ∧ dBd a.2 ∧ ∀ p, p ≠ 105 → a.1 p = f p) 1 (aG A).1 (by omega) (_, d0 s) ⟨H0, d0_Sd _ _ _, d0_Cm _ _ _, d0_Bd (by omega), F0⟩ (by
    intro k a k1 hk ⟨h1, h2, h3, h4, h5⟩
    have hT : a.1 34 0 = nI (aG A).1 := by rw [h5 34 (by omega)]; exact cG.1
    obtain ⟨b, e2, j1, j2, j3, j4, j5, j6⟩ := mu_inv (fun (b : (Nat → Nat → Int32) × mu_D) i => x_ld_measure_p34_105_24 (b.1, g) (nI w) (nI k) i) (fun n b => HC b.2 b.1 ∧ dSd (aG A) s w b.2 ∧ dLe b.2 a.2 ∧ dBd b.2 ∧ (∀ p, p ≠ 105 → b.1 p = f p) ∧ ∀ i u v, i < n → gE (aG A) i u v → dRd (aG A) w a.2 b.2 i u v) (aG A).2.1 a ⟨h1, h2, dLe_refl _, h4, h5, fun i _ _ hi => absurd hi (Nat.not_lt_zero i)⟩ (by
      intro n b hn ⟨j1, j2, j3, j4, j5, j6⟩
      have hR : b.1 34 1 = nI (aG A).2.1 := by rw [j5 34 (by omega)]; exact cG.2.1
      have hT2 : b.1 34 0 = nI (aG A).1 := by rw [j5 34 (by omega)]; exact cG.1
      obtain ⟨r1, r2, r3⟩ := cG.2.2 n hn
      have r1' : b.1 35 n = nI ((aG A).2.2.1 n) := by rw [j5 35 (by omega)]; exact r1
      have r2' : b.1 36 n = nI ((aG A).2.2.2.1 n) := by rw [j5 36 (by omega)]; exact r2
      have r3' : b.1 37 n = nI ((aG A).2.2.2.2 n) := by rw [j5 37 (by omega)]; exact r3
      obtain ⟨o1, o2, o3, o4⟩ := go.2.2.2.1 n hn
      have ge1 : gE (aG A) n ((aG A).2.2.1 n) ((aG A).2.2.2.1 n) := Or.inl ⟨rfl, rfl⟩
      have ge2 : gE (aG A) n ((aG A).2.2.2.1 n) ((aG A).2.2.1 n) := Or.inr ⟨rfl, rfl⟩
      obtain ⟨f3, e3, H3, fr3⟩ := c_goAlong b.1 g j1 j4 (i := n) (u := (aG A).2.2.1 n) (v := (aG A).2.2.2.1 n) (s := (aG A).2.2.2.2 n) (w := w) (tn := (aG A).1) (by omega) g8 (by omega) (by omega) o4 hw r3' hT2
      have b3 : dBd (rlx w b.2 ((aG A).2.2.1 n) ((aG A).2.2.2.1 n) ((aG A).2.2.2.2 n)) := dBd_r j4 w (by omega) o4
      have r3'' : f3 37 n = nI ((aG A).2.2.2.2 n) := by rw [fr3 37 (by omega)]; exact r3'
      obtain ⟨f4, e4, H4, fr4⟩ := c_goAlong f3 g H3 b3 (i := n) (u := (aG A).2.2.2.1 n) (v := (aG A).2.2.1 n) (s := (aG A).2.2.2.2 n) (w := w) (tn := (aG A).1) (by omega) g8 (by omega) (by omega) o4 hw r3'' (by rw [fr3 34 (by omega)]; exact hT2)
      have s3 := dSd_r j2 hn ge1
      have s4 := dSd_r s3 hn ge2
      have l3 := rlx_le w b.2 ((aG A).2.2.1 n) ((aG A).2.2.2.1 n) ((aG A).2.2.2.2 n)
      have l4 := rlx_le w (rlx w b.2 ((aG A).2.2.1 n) ((aG A).2.2.2.1 n) ((aG A).2.2.2.2 n)) ((aG A).2.2.2.1 n) ((aG A).2.2.1 n) ((aG A).2.2.2.2 n)
      refine ⟨(f4, _), ?_, H4, s4, dLe_trans j3 (dLe_trans l3 l4), dBd_r b3 w (by omega) o4, fun p hp => by show f4 p = f p; rw [fr4 p hp, fr3 p hp, j5 p hp], ?_⟩
      · show x_ld_measure_p34_105_24 (b.1, g) (nI w) (nI k) (nI n) = x_ld_measure_p34_105_24 (f4, g) (nI w) (nI k) (nI (n + 1))
        have q1 : f3 36 n = nI ((aG A).2.2.2.1 n) := by rw [fr3 36 (by omega)]; exact r2'
        have q2 : f3 35 n = nI ((aG A).2.2.1 n) := by rw [fr3 35 (by omega)]; exact r1'
        rw [e_ld_measure_p34_105_24, if_neg (by show ¬ b.1 34 1 ≤ nI n; rw [hR]; exact nI_ge hn (by omega))]
        simp (disch := omega) only [q_in, q_clamp, if_true, r1', r2', e3, c_V, q1, q2, e4, nI_1]
      · intro i u v hi he
        by_cases c : i < n
        · obtain ⟨D1, x1, x2⟩ := j6 i u v c he
          exact ⟨D1, x1, dLe_trans x2 (dLe_trans l3 l4)⟩
        · have : i = n := by omega
          subst this
          rcases he with ⟨y1, y2⟩ | ⟨y1, y2⟩
          · subst y1 y2
            exact ⟨b.2, j3, l4⟩
          · subst y1 y2
            exact ⟨_, dLe_trans j3 l3, dLe_refl _⟩)
    refine ⟨b, ?_, j1, j2, ?_, j4, j5⟩
    · show x_ld_measure_p34_105_12 (a.1, g) (nI w) (nI k) = x_ld_measure_p34_105_12 (b.1, g) (nI w) (nI (k + 1))
      have hR : b.1 34 1 = nI (aG A).2.1 := by rw [j5 34 (by omega)]; exact cG.2.1
      rw [e_ld_measure_p34_105_12, if_neg (by show ¬ a.1 34 0 ≤ nI k; rw [hT]; exact nI_ge hk (by omega))]
      refine Eq.trans e2 ?_
      show x_ld_measure_p34_105_24 (b.1, g) (nI w) (nI k) (nI (aG A).2.1) = _
      rw [e_ld_measure_p34_105_24, if_pos (q_le hR), nI_1]
    · rw [show k + 1 - 1 = (k - 1) + 1 by omega]
      exact dCm_S h3 j3 (fun i u v hi he => j6 i u v hi he))
  obtain ⟨f', D⟩ := a
  dsimp only at h1 h2 h3 h4 h5 e
  have hT : f' 34 0 = nI (aG A).1 := by rw [h5 34 (by omega)]; exact cG.1
  refine ⟨f', D, ?_, h1, h2, h3, h4, h5⟩
  refine Eq.trans e ?_
  rw [e_ld_measure_p34_105_12, if_pos (q_le hT)]
  rfl
theorem m_step {D : mu_D} {w : Nat} (f : Nat → Nat → Int32) (g : Nat → Nat → Int64) (h : HM D f) (hb : dBd D) {G : mu_Gd} (go : gOK G) (hG : MGd G f) {a b : Nat} (ha : a < G.1) (hb8 : b < G.1) (hw : w ≤ 2) (z : Int32) : ∃ f' D', x_m_laysWays_57 (f, g) (nI w) z (nI a) (nI b) = x_m_laysWays_57 (f', g) (nI w) z (nI a) (nI (b + 1)) ∧ HM D' f' ∧ (D' = D ∧ (∀ i, i < G.2.1 → ¬ gE G i a b) ∨ ∃ i, i < G.2.1 ∧ gE G i a b ∧ D' = rlx w D a b (G.2.2.2.2 i)) ∧ ∀ p, p ≠ 23 → f' p = f p := by
  have g8 := go.2.1
  have hT : f 0 1 = nI G.1 := hG.1
  have e8 : (8 : Int32) * nI a + nI b = nI (8 * a + b) := by rw [show (8 : Int32) = nI 8 by decide, pk_mul, nI_add]
  rw [e_m_laysWays_57, if_neg (by show ¬ f 0 1 ≤ nI b; rw [hT]; exact nI_ge hb8 (by omega)), e8]
  -- the road, if there is one
  rcases hG.2.2.2 a b (by omega) (by omega) with hn | ⟨i, hi, he⟩
  · simp (disch := omega) only [q_in, q_clamp, if_true, hn, q_1, q_m1, nI_add]
    refine ⟨f, D, rfl, h, Or.inl ⟨rfl, fun i hi he => ?_⟩, fun _ _ => rfl⟩
    have h9 := (go.2.2.2.1 i hi).2.2.2
    obtain ⟨m1, m2⟩ := hG.2.2.1 i hi
    rcases he with ⟨x1, x2⟩ | ⟨x1, x2⟩
    · rw [x1, x2, hn] at m1
      have := q_nNe2 (a := G.2.2.2.2 i) (by omega)
      rw [this] at m1; exact m1
    · rw [x1, x2, hn] at m2
      have := q_nNe2 (a := G.2.2.2.2 i) (by omega)
      rw [this] at m2; exact m2
  · have h9 := (go.2.2.2.1 i hi).2.2.2
    obtain ⟨m1, m2⟩ := hG.2.2.1 i hi
    have hs : f 1 (8 * a + b) = nI (G.2.2.2.2 i) := by
      rcases he with ⟨x1, x2⟩ | ⟨x1, x2⟩
      · rw [x1, x2] at m1; exact m1
      · rw [x1, x2] at m2; exact m2
    have hfa := h a (by omega)
    have hfb := h b (by omega)
    simp (disch := omega) only [q_in, q_clamp, if_true, hs, q_1, q_m1, q_nNe, if_false, hfa]
    have fin : ∃ f' D', (if dM (D a) < 99999 then x_m_laysWays_57 (en_u1 f 23 b (dM (rlx w D a b (G.2.2.2.2 i) b)), g) (nI w) z (nI a) (nI (b + 1)) else x_m_laysWays_57 (f, g) (nI w) z (nI a) (nI (b + 1))) = x_m_laysWays_57 (f', g) (nI w) z (nI a) (nI (b + 1)) ∧ HM D' f' ∧ (D' = D ∧ (∀ i, i < G.2.1 → ¬ gE G i a b) ∨ ∃ i, i < G.2.1 ∧ gE G i a b ∧ D' = rlx w D a b (G.2.2.2.2 i)) ∧ ∀ p, p ≠ 23 → f' p = f p := by
      cases hd : D a with
      | none =>
        have e1 : rlx w D a b (G.2.2.2.2 i) = D := by unfold rlx; rw [hd]
        refine ⟨f, D, by rw [if_neg (by decide)], h, Or.inr ⟨i, hi, he, e1.symm⟩, fun _ _ => rfl⟩
      | some d =>
        have hd63 := dBd_63 hb hd
        have hlt : dM (some d) < 99999 := by show nI d < 99999; exact nI_lt (a := d) (b := 99999) (by omega) (by omega)
        rw [if_pos hlt]
        refine ⟨_, rlx w D a b (G.2.2.2.2 i), rfl, ?_, Or.inr ⟨i, hi, he, rfl⟩, fun p hp => u1_p _ _ _ hp⟩
        intro x hx
        rw [u1_if]
        by_cases k : x = b
        · rw [if_pos k, k]
        · rw [if_neg k, h x hx]
          have : rlx w D a b (G.2.2.2.2 i) x = D x := by
            unfold rlx
            rw [hd]
            cases hdb : D b with
            | none => show dU D b _ x = _; unfold dU; rw [if_neg k]
            | some e =>
              show (if wE w d (G.2.2.2.2 i) < e then dU D b (wE w d (G.2.2.2.2 i)) else D) x = _
              split
              · unfold dU; rw [if_neg k]
              · rfl
          rw [this]
    -- the text is that
    have key : (if dM (D a) < 99999 then
          if nI w = 0 then en_cI (x_m_lesser_0 (f, g) (f 23 b) (dM (D a) + nI (G.2.2.2.2 i))) (fun r2 σ1 => x_m_laysWays_57 (en_u1 σ1.1 23 b r2, σ1.2) (nI w) z (nI a) (nI b + nI 1)) (fun e σ => some (.inr e, σ))
          else if nI w = nI 1 then en_cI (x_m_lesser_0 (f, g) (f 23 b) (dM (D a) + nI 1)) (fun r4 σ3 => x_m_laysWays_57 (en_u1 σ3.1 23 b r4, σ3.2) (nI w) z (nI a) (nI b + nI 1)) (fun e σ => some (.inr e, σ))
          else en_cI (x_m_greater_0 (f, g) (dM (D a)) (nI (G.2.2.2.2 i))) (fun r6 σ5 => en_cI (x_m_lesser_0 σ5 (f 23 b) r6) (fun r8 σ7 => x_m_laysWays_57 (en_u1 σ7.1 23 b r8, σ7.2) (nI w) z (nI a) (nI b + nI 1)) (fun e σ => some (.inr e, σ))) (fun e σ => some (.inr e, σ))
        else x_m_laysWays_57 (f, g) (nI w) z (nI a) (nI b + nI 1) : Option en_O) = (if dM (D a) < 99999 then x_m_laysWays_57 (en_u1 f 23 b (dM (rlx w D a b (G.2.2.2.2 i) b)), g) (nI w) z (nI a) (nI (b + 1)) else x_m_laysWays_57 (f, g) (nI w) z (nI a) (nI (b + 1))) := by
      cases hd : D a with
      | none => rw [if_neg (by decide), if_neg (by decide), nI_add]
      | some d =>
        have hd63 := dBd_63 hb hd
        have hlt : dM (some d) < 99999 := by show nI d < 99999; exact nI_lt (a := d) (b := 99999) (by omega) (by omega)
        have hE := wE_le w d h9
        rw [if_pos hlt, if_pos hlt]
        have val : (if nI (wE w d (G.2.2.2.2 i)) ≤ f 23 b then nI (wE w d (G.2.2.2.2 i)) else f 23 b) = dM (rlx w D a b (G.2.2.2.2 i) b) := by
          rw [hfb]
          unfold rlx
          rw [hd]
          cases hdb : D b with
          | none =>
            show (if nI (wE w d (G.2.2.2.2 i)) ≤ nI 99999 then _ else _) = dM (dU D b (wE w d (G.2.2.2.2 i)) b)
            rw [if_pos (nI_le (by omega) (by omega))]
            unfold dU; rw [if_pos rfl]; rfl
          | some e =>
            have he63 := dBd_63 hb hdb
            show (if nI (wE w d (G.2.2.2.2 i)) ≤ nI e then nI (wE w d (G.2.2.2.2 i)) else nI e) = dM ((if wE w d (G.2.2.2.2 i) < e then dU D b (wE w d (G.2.2.2.2 i)) else D) b)
            simp (disch := omega) only [q_leI]
            by_cases k : wE w d (G.2.2.2.2 i) < e
            · simp only [k, Nat.le_of_lt k, if_true]
              unfold dU; rw [if_pos rfl]; rfl
            · simp only [k, if_false, hdb]
              by_cases k2 : wE w d (G.2.2.2.2 i) ≤ e
              · simp only [k2, if_true]
                show nI _ = nI e
                rw [show wE w d (G.2.2.2.2 i) = e by omega]
              · simp only [k2, if_false]; rfl
        rw [← val]
        match w, hw with
        | 0, _ => rw [if_pos (by decide), m_lesser, c_I, nI_add]; show x_m_laysWays_57 (en_u1 f 23 b (if nI d + nI (G.2.2.2.2 i) ≤ f 23 b then nI d + nI (G.2.2.2.2 i) else f 23 b), g) _ _ _ _ = _; rw [nI_add]; rfl
        | 1, _ => rw [if_neg (by decide), if_pos (by decide), m_lesser, c_I, nI_add]; show x_m_laysWays_57 (en_u1 f 23 b (if nI d + nI 1 ≤ f 23 b then nI d + nI 1 else f 23 b), g) _ _ _ _ = _; rw [nI_add]; rfl
        | 2, _ =>
          rw [if_neg (by decide), if_neg (by decide), m_greater, c_I, m_lesser, c_I, nI_add]
          have : (if dM (some d) ≤ nI (G.2.2.2.2 i) then nI (G.2.2.2.2 i) else dM (some d)) = nI (wE 2 d (G.2.2.2.2 i)) := by
            show (if nI d ≤ nI (G.2.2.2.2 i) then nI (G.2.2.2.2 i) else nI d) = nI (if d < G.2.2.2.2 i then G.2.2.2.2 i else d)
            simp (disch := omega) only [q_leI]
            by_cases k : d < G.2.2.2.2 i
            · simp only [k, Nat.le_of_lt k, if_true]
            · simp only [k, if_false]
              by_cases k2 : d ≤ G.2.2.2.2 i
              · simp only [k2, if_true]; rw [show d = G.2.2.2.2 i by omega]
              · simp only [k2, if_false]
          rw [this]
    rw [← key] at fin
    exact fin
