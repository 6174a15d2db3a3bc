/-! the model's token as a whole -/
theorem m_goes {X : mu_X} (xo : XOK X) (f : Nat → Nat → Int32) (g : Nat → Nat → Int64) {c : Nat} (hc : c ≤ X.1) (h0 : MT0 X f) (h19 : f 0 19 = nI c) : ∃ f' g', x_m_goes_0 (f, g) = rV (f', g') ∧ MT X c f' g' ∧ MN f f' ∧ ∀ q, q ≠ 0 → g' q = g q := by
  have n7 := xo.1
  obtain ⟨f1, e1, e2, F1⟩ := m_skip xo g c f h0 h19 hc
  have C1 := MN_0 h0 F1
  have sl := tS_le hc
  have hn := C1.1
  have hb := btA_lt xo (tS X c)
  rw [e1, e_m_goes_50]
  have F2 : MN f1 (en_u1 (en_u1 f1 0 21 (nI (tS X c))) 0 23 (nI 0)) := MN_trans (MN_u f1 _ (by omega)) (MN_u _ _ (by omega))
  have C2 := MN_0 C1 F2
  have by1 := m_byteAt xo (en_u1 (en_u1 f1 0 21 (nI (tS X c))) 0 23 (nI 0)) (en_u2 g 0 25 0) C2 (p := tS X c) (by omega)
  have q19 : en_u1 (en_u1 f1 0 21 (nI (tS X c))) 0 23 (nI 0) 0 19 = nI (tS X c) := by rw [u1_ne _ _ (by omega), u1_ne _ _ (by omega), e2]
  have q18 : en_u1 (en_u1 f1 0 21 (nI (tS X c))) 0 23 (nI 0) 0 18 = nI X.1 := by rw [u1_ne _ _ (by omega), u1_ne _ _ (by omega), hn]
  have q21 : en_u1 (en_u1 f1 0 21 (nI (tS X c))) 0 23 (nI 0) 0 21 = nI (tS X c) := by rw [u1_ne _ _ (by omega), u1_at]
  have q23 : en_u1 (en_u1 f1 0 21 (nI (tS X c))) 0 23 (nI 0) 0 23 = nI 0 := u1_at _ _ _ _
  simp only [e2, q_0, by1, c_I, q19, q18, q21]
  generalize en_u1 (en_u1 f1 0 21 (nI (tS X c))) 0 23 (nI 0) = f2 at F2 C2 by1 q19 q18 q21 q23
  have gg : ∀ q, q ≠ 0 → en_u2 g 0 25 0 q = g q := fun q hq => u2_p _ _ _ hq
  have g25 : en_u2 g 0 25 0 0 25 = lN 0 := u2_at _ _ _ _
  simp only [← q_0] at *
  generalize en_u2 g 0 25 0 = g2 at gg g25 by1
  have F3 : MN f (en_u1 f2 0 24 (nI (btA X (tS X c)))) := MN_trans F1 (MN_trans F2 (MN_u _ _ (by omega)))
  have C3 : MT0 X (en_u1 f2 0 24 (nI (btA X (tS X c)))) := MN_0 h0 F3
  have p19 : en_u1 f2 0 24 (nI (btA X (tS X c))) 0 19 = nI (tS X c) := by rw [u1_ne _ _ (by omega), q19]
  have p21 : en_u1 f2 0 24 (nI (btA X (tS X c))) 0 21 = nI (tS X c) := by rw [u1_ne _ _ (by omega), q21]
  have p23 : en_u1 f2 0 24 (nI (btA X (tS X c))) 0 23 = nI 0 := by rw [u1_ne _ _ (by omega), q23]; rfl
  have p24 : en_u1 f2 0 24 (nI (btA X (tS X c))) 0 24 = nI (btA X (tS X c)) := u1_at _ _ _ _
  generalize en_u1 f2 0 24 (nI (btA X (tS X c))) = f3 at F3 C3 p19 p21 p23 p24
  by_cases k0 : tK X c = 0
  · have k0' := (tK_0 X c).mp k0
    have he : tE X c = tS X c := by unfold tE; rw [if_pos k0]
    rw [if_neg (nI_nlt (by omega) (by omega)), pk_sub (Nat.le_refl _)]
    refine ⟨_, _, rfl, ⟨MN_0 C3 (MN_trans (MN_u _ _ (by omega)) (MN_u _ _ (by omega))), ?_, ?_, ?_, ?_, ?_, ?_, fun k => by omega⟩, MN_trans F3 (MN_trans (MN_u _ _ (by omega)) (MN_u _ _ (by omega))), gg⟩
    · rw [u1_ne _ _ (by omega), u1_ne _ _ (by omega), p19, he]
    · rw [u1_ne _ _ (by omega), u1_at, k0]; rfl
    · rw [u1_ne _ _ (by omega), u1_ne _ _ (by omega), p21]
    · rw [u1_at]; unfold tLn; rw [he]
    · rw [u1_ne _ _ (by omega), u1_ne _ _ (by omega), p23]; unfold tV; rw [if_neg (by omega)]
    · rw [u1_ne _ _ (by omega), u1_ne _ _ (by omega), p24]
  · have hs := tK_pos k0
    have hbt : btA X (tS X c) = X.2 (tS X c) := if_pos hs
    rw [if_pos (nI_lt hs (by omega)), m_isLetter _ hb, c_I]
    simp only [q_0, tb_0]
    cases kl : tLe (btA X (tS X c)) with
    | true =>
      have kl' := kl
      rw [hbt] at kl'
      have k1 : tK X c = 1 := by unfold tK; rw [if_neg (by omega), if_pos kl']
      have he : tE X c = rn (fun i => tLe (X.2 i)) X.1 (tS X c) := by unfold tE; rw [if_neg (by omega), if_pos k1]
      rw [if_neg (by decide)]
      obtain ⟨f4, g4, a1, a2, a3, a4, a5, a6, a7⟩ := m_lets xo (tS X c) (tS X c) f3 g2 C3 p19 p21 (Nat.le_refl _) (by omega) (fun i a b => by omega) (by rw [Nat.sub_self]; exact g25)
      have G : MN f3 f4 := fun q i a => a6 q i (by omega)
      refine ⟨f4, g4, a1, ⟨MN_0 C3 G, by rw [a2, he], by rw [a3, k1], by rw [a6 0 21 (by omega), p21], ?_, ?_, by rw [a6 0 24 (by omega), p24], fun _ => ?_⟩, MN_trans F3 G, fun q hq => (a7 q hq).trans (gg q hq)⟩
      · rw [a4]; unfold tLn; rw [he]
      · rw [a6 0 23 (by omega), p23]; unfold tV; rw [if_neg (by omega)]
      · rw [a5]; unfold tLn; rw [he]
    | false =>
      have kl' := kl
      rw [hbt] at kl'
      rw [if_pos rfl, m_isDigit _ hb, c_I]
      simp only [tb_0]
      cases kd : tDi (btA X (tS X c)) with
      | true =>
        have kd' := kd
        rw [hbt] at kd'
        have k2 : tK X c = 2 := by unfold tK; rw [if_neg (by omega), if_neg (by rw [kl']; decide), if_pos kd']
        have he : tE X c = rn (fun i => tDi (X.2 i)) X.1 (tS X c) := by unfold tE; rw [if_neg (by omega), if_neg (by omega), if_pos k2]
        rw [if_neg (by decide)]
        obtain ⟨f4, a1, a2, a3, a4, a5, a6⟩ := m_digs xo g2 (tS X c) (tS X c) f3 C3 p19 p21 (Nat.le_refl _) (by omega) (by rw [Nat.sub_self]; exact p23)
        have G : MN f3 f4 := fun q i a => a6 q i (by omega)
        refine ⟨f4, g2, a1, ⟨MN_0 C3 G, by rw [a2, he], by rw [a3, k2], by rw [a6 0 21 (by omega), p21], ?_, ?_, by rw [a6 0 24 (by omega), p24], fun k => by omega⟩, MN_trans F3 G, gg⟩
        · rw [a4]; unfold tLn; rw [he]
        · rw [a5]; unfold tV tLn; rw [if_pos k2, he]
      | false =>
        have kd' := kd
        rw [hbt] at kd'
        rw [if_pos rfl]
        have fin : ∀ v, tK X c = v → v ≠ 0 → v ≠ 1 → v ≠ 2 → ∃ f' g', rV (en_u1 (en_u1 (en_u1 f3 0 19 (nI (tS X c + 1))) 0 20 (nI v)) 0 22 (nI 1), g2) = rV (f', g') ∧ MT X c f' g' ∧ MN f f' ∧ ∀ q, q ≠ 0 → g' q = g q := by
          intro v kv v0 v1 v2
          have he : tE X c = tS X c + 1 := by unfold tE; rw [if_neg (by omega), if_neg (by omega), if_neg (by omega)]
          have G : MN f3 (en_u1 (en_u1 (en_u1 f3 0 19 (nI (tS X c + 1))) 0 20 (nI v)) 0 22 (nI 1)) := MN_trans (MN_u _ _ (by omega)) (MN_trans (MN_u _ _ (by omega)) (MN_u _ _ (by omega)))
          refine ⟨_, _, rfl, ⟨MN_0 C3 G, ?_, ?_, ?_, ?_, ?_, ?_, fun k => by omega⟩, MN_trans F3 G, gg⟩
          · rw [u1_ne _ _ (by omega), u1_ne _ _ (by omega), u1_at, he]
          · rw [u1_ne _ _ (by omega), u1_at, kv]
          · rw [u1_ne _ _ (by omega), u1_ne _ _ (by omega), u1_ne _ _ (by omega), p21]
          · rw [u1_at]; unfold tLn; rw [he, Nat.add_sub_cancel_left]
          · rw [u1_ne _ _ (by omega), u1_ne _ _ (by omega), u1_ne _ _ (by omega), p23]; unfold tV; rw [if_neg (by omega)]
          · rw [u1_ne _ _ (by omega), u1_ne _ _ (by omega), u1_ne _ _ (by omega), p24]
        have fin3 : x_m_goes_323 (en_u1 f3 0 19 (nI (tS X c + 1)), g2) = rV (en_u1 (en_u1 (en_u1 f3 0 19 (nI (tS X c + 1))) 0 20 (nI 3)) 0 22 (nI 1), g2) := by
          have z1 : en_u1 f3 0 19 (nI (tS X c + 1)) 0 19 = nI (tS X c + 1) := u1_at _ _ _ _
          have z2 : en_u1 f3 0 19 (nI (tS X c + 1)) 0 21 = nI (tS X c) := by rw [u1_ne _ _ (by omega), p21]
          rw [e_m_goes_323]
          simp only [z1, z2, q_3]
          rw [pk_sub (by omega), Nat.add_sub_cancel_left]
          rfl
        simp only [q_1, q_4, z_59, q_40, z_41, z_43, z_45, q_42, z_47, z_60, z_61, p19, p21, nI_add]
        rw [pk_sub (by omega : tS X c ≤ tS X c + 1), Nat.add_sub_cancel_left]
        simp only [fin3]
        have NE : ∀ v, v < 128 → ¬ btA X (tS X c) = v → ¬ nI (btA X (tS X c)) = nI v := fun v hv d k => d ((nI_eq (by omega) (by omega)).mp k)
        have r3 : tSg (btA X (tS X c)) = true → ∃ f' g', rV (en_u1 (en_u1 (en_u1 f3 0 19 (nI (tS X c + 1))) 0 20 (nI 3)) 0 22 (nI 1), g2) = rV (f', g') ∧ MT X c f' g' ∧ MN f f' ∧ ∀ q, q ≠ 0 → g' q = g q := by
          intro ks
          rw [hbt] at ks
          exact fin 3 (by unfold tK; rw [if_neg (by omega), if_neg (by rw [kl']; decide), if_neg (by rw [kd']; decide), if_pos ks]) (by omega) (by omega) (by omega)
        by_cases d59 : btA X (tS X c) = 59
        · rw [if_pos (by rw [d59])]; exact r3 (by rw [d59]; rfl)
        rw [if_neg (NE 59 (by omega) d59)]
        by_cases d40 : btA X (tS X c) = 40
        · rw [if_pos (by rw [d40])]; exact r3 (by rw [d40]; rfl)
        rw [if_neg (NE 40 (by omega) d40)]
        by_cases d41 : btA X (tS X c) = 41
        · rw [if_pos (by rw [d41])]; exact r3 (by rw [d41]; rfl)
        rw [if_neg (NE 41 (by omega) d41)]
        by_cases d43 : btA X (tS X c) = 43
        · rw [if_pos (by rw [d43])]; exact r3 (by rw [d43]; rfl)
        rw [if_neg (NE 43 (by omega) d43)]
        by_cases d45 : btA X (tS X c) = 45
        · rw [if_pos (by rw [d45])]; exact r3 (by rw [d45]; rfl)
        rw [if_neg (NE 45 (by omega) d45)]
        by_cases d42 : btA X (tS X c) = 42
        · rw [if_pos (by rw [d42])]; exact r3 (by rw [d42]; rfl)
        rw [if_neg (NE 42 (by omega) d42)]
        by_cases d47 : btA X (tS X c) = 47
        · rw [if_pos (by rw [d47])]; exact r3 (by rw [d47]; rfl)
        rw [if_neg (NE 47 (by omega) d47)]
        by_cases d60 : btA X (tS X c) = 60
        · rw [if_pos (by rw [d60])]; exact r3 (by rw [d60]; rfl)
        rw [if_neg (NE 60 (by omega) d60)]
        by_cases d61 : btA X (tS X c) = 61
        · rw [if_pos (by rw [d61])]; exact r3 (by rw [d61]; rfl)
        rw [if_neg (NE 61 (by omega) d61)]
        refine fin 4 ?_ (by omega) (by omega) (by omega)
        have ks : tSg (X.2 (tS X c)) = false := by
          rw [← hbt]
          unfold tSg
          exact decide_eq_false (by omega)
        unfold tK
        rw [if_neg (by omega), if_neg (by rw [kl']; decide), if_neg (by rw [kd']; decide), if_neg (by rw [ks]; decide)]
theorem m_isSign {X : mu_X} (xo : XOK X) (f : Nat → Nat → Int32) (g : Nat → Nat → Int64) {c : Nat} (h : MT X c f g) {v : Nat} (hv : v < 128) : x_m_isSign_0 (f, g) (nI v) = rI (tb (sg X c v)) (f, g) := by
  have k4 := tK_4 X c
  have hb := btA_lt xo (tS X c)
  obtain ⟨h0, h1, h2, h3, h4, h5, h6, h7⟩ := h
  rw [e_m_isSign_0]
  simp (disch := omega) only [q_0, q_1, q_2, q_3, q_4, q_5, q_6, q_7, q_8, q_9, q_10, q_11, q_12, q_13, q_14, q_15, q_16, q_17, q_18, q_19, q_20, q_21, q_22, q_23, q_24, q_29, q_30, q_31, q_36, q_42, q_50, q_40, q_48, q_96, q_97, q_99, q_100, q_255, q_256, q_700, q_999, q_1160, q_1400, q_99999, q_m1, z_25, z_26, z_27, z_28, z_32, z_33, z_34, z_35, z_41, z_43, z_45, z_47, z_57, z_58, z_59, z_60, z_61, z_64, z_95, z_122, z_950, z_9999, h2, h6, q_eqI]
  unfold sg
  by_cases k : tK X c = 3
  · have hs := tK_pos (X := X) (c := c) (by omega)
    have hbt : btA X (tS X c) = X.2 (tS X c) := if_pos hs
    rw [if_pos k, hbt]
    by_cases q : X.2 (tS X c) = v
    · rw [if_pos q, decide_eq_true ⟨k, q⟩]; rfl
    · rw [if_neg q, decide_eq_false (fun z => q z.2)]; rfl
  · rw [if_neg k, decide_eq_false (fun z => k z.1)]; rfl
/-- known words of the model -/
def kI (k : Nat) : Int32 := if k < 17 then nI k else nN
theorem kc_lt : ∀ k, k < 17 → kc k < 2 ^ 31 := by decide
set_option maxRecDepth 10000 in
theorem m_letters (σ : en_S) : ∀ k, k < 17 → x_m_letters_0 σ (nI k) = some (.inl (some (.long (lN (kc k)))), σ) := by
  intro k hk
  have hk' : k = 0 ∨ k = 1 ∨ k = 2 ∨ k = 3 ∨ k = 4 ∨ k = 5 ∨ k = 6 ∨ k = 7 ∨ k = 8 ∨ k = 9 ∨ k = 10 ∨ k = 11 ∨ k = 12 ∨ k = 13 ∨ k = 14 ∨ k = 15 ∨ k = 16 := by omega
  rw [e_m_letters_0]
  rcases hk' with h | h | h | h | h | h | h | h | h | h | h | h | h | h | h | h | h <;> subst h <;> simp (decide := true) only [if_true, if_false, e_m_spelled_0, e_m_spelled_48, en_cJ]
  all_goals (congr 4)
theorem c_J (v : Int64) (σ : en_S) (ki : Int64 → en_S → Option en_O) (kx : Nat → en_S → Option en_O) : en_cJ (some (.inl (some (.long v)), σ)) ki kx = ki v σ := rfl
theorem m_kw21 (f : Nat → Nat → Int32) (g : Nat → Nat → Int64) {w : Nat} (hw : w < 2 ^ 31) (h : g 0 25 = lN w) : ∀ n k, k + n = 17 → x_m_knownWord_21 (f, g) (nI k) = rI (kI (kf w n k)) (f, g) := by
  intro n
  induction n with
  | zero =>
    intro k hk
    rw [e_m_knownWord_21, if_pos (by rw [show k = 17 by omega]; decide)]
    rfl
  | succ n ih =>
    intro k hk
    have hl := kc_lt k (by omega)
    rw [e_m_knownWord_21, if_neg (by simp only [q_17]; exact nI_ge (by omega) (by omega)), m_letters _ k (by omega), c_J]
    unfold kf
    by_cases c : kc k = w
    · rw [if_pos ((lg_cmp_eq _ _).mpr (by show lN (kc k) = g 0 25; rw [h, c])), if_pos c]
      unfold kI
      rw [if_pos (by omega)]
      rfl
    · rw [if_neg (fun z => c ((lN_eq hl hw).mp (by have z' := (lg_cmp_eq _ _).mp z; rw [← h]; exact z'))), if_neg c, nI_1]
      exact ih (k + 1) (by omega)
theorem m_known {X : mu_X} (xo : XOK X) (f : Nat → Nat → Int32) (g : Nat → Nat → Int64) {c : Nat} (h : MT X c f g) (hc : c ≤ X.1) : x_m_knownWord_0 (f, g) = rI (kI (kW X c)) (f, g) := by
  have k4 := tK_4 X c
  have n7 := xo.1
  obtain ⟨h0, h1, h2, h3, h4, h5, h6, h7⟩ := h
  have el := tE_le hc
  have hl : tLn X c ≤ 700 := by unfold tLn; omega
  rw [e_m_knownWord_0]
  simp (disch := omega) only [q_0, q_1, q_2, q_3, q_4, q_5, q_6, q_7, q_8, q_9, q_10, q_11, q_12, q_13, q_14, q_15, q_16, q_17, q_18, q_19, q_20, q_21, q_22, q_23, q_24, q_29, q_30, q_31, q_36, q_42, q_50, q_40, q_48, q_96, q_97, q_99, q_100, q_255, q_256, q_700, q_999, q_1160, q_1400, q_99999, q_m1, z_25, z_26, z_27, z_28, z_32, z_33, z_34, z_35, z_41, z_43, z_45, z_47, z_57, z_58, z_59, z_60, z_61, z_64, z_95, z_122, z_950, z_9999, h2, h4, q_eqI, q_leI]
  unfold kW
  by_cases k : tK X c = 1
  · rw [if_pos k]
    by_cases l6 : tLn X c ≤ 6
    · rw [if_pos l6, if_pos ⟨k, l6⟩]
      have h25 := h7 k
      have hw := tW_le k
      have e6 : (if tLn X c < 6 then tLn X c else 6) = tLn X c := by split <;> omega
      rw [e6] at h25
      have wb : dW X.2 (tS X c) (tLn X c) < 32 ^ tLn X c := dF_lt _ (fun i hi => by
        have := le_di (hw i hi).2
        show X.2 (tS X c + i) - 96 < 32
        omega)
      have wb2 : 32 ^ tLn X c ≤ 32 ^ 6 := Nat.pow_le_pow_right (by omega) l6
      exact m_kw21 f g (by omega) h25 17 0 rfl
    · rw [if_neg l6, if_neg (fun z => l6 z.2)]; rfl
  · rw [if_neg k, if_neg (fun z => k z.1)]; rfl
