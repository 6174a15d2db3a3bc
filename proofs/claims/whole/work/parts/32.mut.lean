/-! acts -/
def uR (A : mu_A) (r : mu_Rw) : mu_A := (A.1, A.2.1, r, A.2.2.2)
def uP (A : mu_A) (ps : mu_Ps) : mu_A := (A.1, A.2.1, A.2.2.1, ps, A.2.2.2.2)
def uS (A : mu_A) (sn : mu_Sn) : mu_A := (A.1, A.2.1, A.2.2.1, A.2.2.2.1, sn, A.2.2.2.2.2)
def uI (A : mu_A) (im : Option (mu_Rw × mu_Ps × mu_Sn)) : mu_A := (A.1, A.2.1, A.2.2.1, A.2.2.2.1, A.2.2.2.2.1, im, A.2.2.2.2.2.2)
def uT (A : mu_A) (t : Nat × (Nat → Nat)) : mu_A := (A.1, A.2.1, A.2.2.1, A.2.2.2.1, A.2.2.2.2.1, A.2.2.2.2.2.1, t, A.2.2.2.2.2.2.2)
def uF (A : mu_A) (F : Nat → Int32) : mu_A := (A.1, A.2.1, A.2.2.1, A.2.2.2.1, A.2.2.2.2.1, A.2.2.2.2.2.1, A.2.2.2.2.2.2.1, F, A.2.2.2.2.2.2.2.2)
/-- a call: the class answers, then the model; both hold the same before and behind -/
def Mt (A : mu_A) (f : Nat → Nat → Int32) (b : en_S → Option en_O) (m : en_S → Option en_O) (k : Nat → Nat) : Prop := ∃ (o : Int32 ⊕ Nat) (A' : mu_A), AOK A' ∧ (∀ g, ∃ f1, b (f, g) = out o (f1, g) ∧ (∀ p, p < 31 → f1 p = f p) ∧ CRel A' f1) ∧ (∀ e, o = .inr e → e = 1 ∨ e = 2) ∧ ∀ f2 g, (∀ p, p < 30 → f2 p = f p) → ∃ v f3, m (f2, g) = rI v (f3, g) ∧ f3 0 0 = nI (k (oK o)) ∧ (∀ w, o = .inl w → v = w) ∧ MRel A' f3 ∧ ∀ p, 30 ≤ p → f3 p = f2 p
theorem CRel_hi {A : mu_A} {f f' : Nat → Nat → Int32} (ok : AOK A) (h : CRel A f) (q : ∀ p, 31 ≤ p → f' p = f p) : CRel A f' := CRel_Q ok h (fun p a _ _ _ _ => q p a)
theorem Qn_Mt {A : mu_A} {f : Nat → Nat → Int32} {b m : en_S → Option en_O} {k : Nat → Nat} (ok : AOK A) (hM : MRel A f) (hC : CRel A f) (h : Qn f b m k) : Mt A f b m k := by
  obtain ⟨o, hb, he, hm⟩ := h
  refine ⟨o, A, ok, fun g => ?_, he, fun f2 g h2 => ?_⟩
  · obtain ⟨f1, e1, q1⟩ := hb g
    exact ⟨f1, e1, fun p hp => q1 p (by omega) (by omega) (by omega) (by omega), CRel_Q ok hC (fun p _ a b c d => q1 p a b c d)⟩
  · obtain ⟨v, f3, e3, z3, w3, q3⟩ := hm f2 g h2
    exact ⟨v, f3, e3, z3, w3, MRel_Q ok (MRel_hi ok hM h2) q3, fun p hp => q3.1 p (by omega) (by omega) (by omega) (by omega) (by omega) (by omega) (by omega) (by omega)⟩
/-- from the model's start -/
theorem Mt_err {A : mu_A} {f : Nat → Nat → Int32} {b m : en_S → Option en_O} {k : Nat → Nat} (ok : AOK A) (hM : MRel A f) (hC : CRel A f) (e : Nat) (he : e = 1 ∨ e = 2) (hb : ∀ g, b (f, g) = some (.inr e, (f, g))) (hm : ∀ f0 f2 g, MRel A f0 → f0 0 0 = nI 0 → f0 = en_u1 f2 0 0 0 → m (f2, g) = rI (nI 0) (en_u1 f0 0 0 (nI (k e)), g)) : Mt A f b m k := Qn_Mt ok hM hC (Qn_err ok hM e he hb hm)
theorem Mt_val {A A' : mu_A} {f : Nat → Nat → Int32} {b m : en_S → Option en_O} {k : Nat → Nat} (ok : AOK A) (ok' : AOK A') (hM : MRel A f) (hk : k 0 = 0) (v : Int32) (hb : ∀ g, ∃ f1, b (f, g) = rI v (f1, g) ∧ (∀ p, p < 31 → f1 p = f p) ∧ CRel A' f1) (hm : ∀ f0 f2 g, MRel A f0 → f0 0 0 = nI 0 → f0 = en_u1 f2 0 0 0 → ∃ f3, m (f2, g) = rI v (f3, g) ∧ f3 0 0 = nI 0 ∧ MRel A' f3 ∧ ∀ p, 30 ≤ p → f3 p = f0 p) : Mt A f b m k := by
  refine ⟨.inl v, A', ok', hb, fun e h => by (exact absurd h (by intro h'; cases h')), fun f2 g h2 => ?_⟩
  have M0 : MRel A (en_u1 f2 0 0 0) := MRel_Q ok (MRel_hi ok hM h2) (QM_u0 _ _ (by omega))
  obtain ⟨f3, e3, z3, r3, q3⟩ := hm _ f2 g M0 (u1_at _ _ _ _) rfl
  exact ⟨v, f3, e3, by rw [z3]; show nI 0 = nI (k 0); rw [hk], fun w h => (by cases h; rfl), r3, fun p hp => by rw [q3 p hp, u1_p _ _ _ (by omega)]⟩
theorem AOK_R {A : mu_A} (ok : AOK A) {r : mu_Rw} (ro : rOK (aL A) r) : AOK (uR A r) := ⟨ok.1, ok.2.1, ok.2.2.1, ro, ok.2.2.2.2⟩
theorem AOK_P {A : mu_A} (ok : AOK A) {ps : mu_Ps} (h : psOK (aL A) ps) : AOK (uP A ps) := ⟨ok.1, ok.2.1, ok.2.2.1, ok.2.2.2.1, h, ok.2.2.2.2.2⟩
theorem AOK_S {A : mu_A} (ok : AOK A) {sn : mu_Sn} (h : snOK (aL A) sn) : AOK (uS A sn) := ⟨ok.1, ok.2.1, ok.2.2.1, ok.2.2.2.1, ok.2.2.2.2.1, h, ok.2.2.2.2.2.2⟩
theorem AOK_F {A : mu_A} (ok : AOK A) (F : Nat → Int32) : AOK (uF A F) := ok
theorem MRel_R {A : mu_A} {r : mu_Rw} {f f' : Nat → Nat → Int32} (ok : AOK A) (h : MRel A f) (fr : MFr 0 f f') (hr : MRw (aL A) 0 r f') : MRel (uR A r) f' := by
  obtain ⟨h1, h2, h3, h4, h5, h6, h7, h8, h9⟩ := h
  have lo := ok.1
  have e : ∀ p, p ≠ 0 → p ≠ 18 → p ≠ 20 → p ≠ 21 → f' p = f p := fr.1
  have e0 : ∀ i, i ≠ 50 → i ≠ 51 → i ≠ 52 → f' 0 i = f 0 i := fr.2.1
  refine ⟨?_, ?_, hr, ?_, ?_, ?_, ?_, ?_, ?_⟩
  · exact MFr_L fr h1
  · exact MGd_of h2 (e0 1 (by omega) (by omega) (by omega)) (e0 2 (by omega) (by omega) (by omega)) (e 1 (by omega) (by omega) (by omega) (by omega))
  · exact hPs_of lo h4 (e0 47 (by omega) (by omega) (by omega)) (e 19 (by omega) (by omega) (by omega) (by omega))
  · exact mSn_of h5 (e0 55 (by omega) (by omega) (by omega)) (e 24 (by omega) (by omega) (by omega) (by omega))
  · exact MIm_of lo h6 (fun i _ _ => e0 i (by omega) (by omega) (by omega)) (fun p _ _ => e p (by omega) (by omega) (by omega) (by omega))
  · exact MTp_of h7 (e0 14 (by omega) (by omega) (by omega)) (e 7 (by omega) (by omega) (by omega) (by omega))
  · rw [e 8 (by omega) (by omega) (by omega) (by omega)]; exact h8
  · rw [e0 16 (by omega) (by omega) (by omega)]; exact h9
theorem CRel_R {A : mu_A} {r : mu_Rw} {f f' : Nat → Nat → Int32} (ok : AOK A) (h : CRel A f) (fr : CFr 67 f f') (hr : CRw (aL A) 67 r f') : CRel (uR A r) f' := by
  obtain ⟨h1, h2, h3, h4, h5, h6, h7, h8, h9⟩ := h
  have lo := ok.1
  have e : ∀ p, (p < 67 ∨ 72 < p) → p ≠ 46 → p ≠ 49 → f' p = f p := fr.1
  refine ⟨?_, ?_, hr, ?_, ?_, ?_, ?_, ?_, ?_⟩
  · exact CFr_L (by omega) fr h1
  · exact CGd_of h2 (fun p _ _ => e p (by omega) (by omega) (by omega))
  · exact hPs_of lo h4 (by rw [e 79 (by omega) (by omega) (by omega)]) (e 80 (by omega) (by omega) (by omega))
  · exact cSn_of h5 (fun p _ _ => e p (by omega) (by omega) (by omega))
  · exact CIm_of lo h6 (by rw [e 31 (by omega) (by omega) (by omega)]) (fun p _ _ => e p (by omega) (by omega) (by omega))
  · exact CTp_of h7 (by rw [e 31 (by omega) (by omega) (by omega)]) (e 32 (by omega) (by omega) (by omega))
  · rw [e 33 (by omega) (by omega) (by omega)]; exact h8
  · rw [e 31 (by omega) (by omega) (by omega)]; exact h9
theorem MRel_F {A : mu_A} {f : Nat → Nat → Int32} (ok : AOK A) (h : MRel A f) {i : Nat} (hi : i < 3) : MRel (uF A (upd (aF A) i (aF A i + nI 1))) (en_u1 f 8 i (f 8 i + nI 1)) := by
  obtain ⟨h1, h2, h3, h4, h5, h6, h7, h8, h9⟩ := h
  have lo := ok.1
  refine ⟨?_, ?_, ?_, ?_, ?_, ?_, ?_, fun j hj => ?_, ?_⟩
  · exact MLd_of h1 (fun j _ => u1_ne _ _ (by omega)) (fun p _ _ => u1_p _ _ _ (by omega))
  · exact MGd_of h2 (u1_ne _ _ (by omega)) (u1_ne _ _ (by omega)) (u1_p _ _ _ (by omega))
  · exact MRw_of h3 (fun j _ _ => u1_ne _ _ (by omega)) lo
  · exact hPs_of lo h4 (u1_ne _ _ (by omega)) (u1_p _ _ _ (by omega))
  · exact mSn_of h5 (u1_ne _ _ (by omega)) (u1_p _ _ _ (by omega))
  · exact MIm_of lo h6 (fun i _ _ => u1_ne _ _ (by omega)) (fun p _ _ => u1_p _ _ _ (by omega))
  · exact MTp_of h7 (u1_ne _ _ (by omega)) (u1_p _ _ _ (by omega))
  · show _ = upd (aF A) i (aF A i + nI 1) j
    rw [u1_if, upd_if, h8 i hi, h8 j hj]
  · rw [u1_ne _ _ (by omega)]; exact h9
theorem CRel_F {A : mu_A} {f : Nat → Nat → Int32} (ok : AOK A) (h : CRel A f) {i : Nat} (hi : i < 3) : CRel (uF A (upd (aF A) i (aF A i + nI 1))) (en_u1 f 33 i (f 33 i + nI 1)) := by
  obtain ⟨h1, h2, h3, h4, h5, h6, h7, h8, h9⟩ := h
  have lo := ok.1
  refine ⟨?_, ?_, ?_, ?_, ?_, ?_, ?_, fun j hj => ?_, ?_⟩
  · exact CLd_of h1 (fun p _ _ _ => u1_p _ _ _ (by omega))
  · exact CGd_of h2 (fun p _ _ => u1_p _ _ _ (by omega))
  · exact CRw_of h3 (u1_ne _ _ (by omega)) (fun p _ _ => u1_p _ _ _ (by omega))
  · exact hPs_of lo h4 (u1_ne _ _ (by omega)) (u1_p _ _ _ (by omega))
  · exact cSn_of h5 (fun p _ _ => u1_p _ _ _ (by omega))
  · exact CIm_of lo h6 (u1_ne _ _ (by omega)) (fun p _ _ => u1_p _ _ _ (by omega))
  · exact CTp_of h7 (u1_ne _ _ (by omega)) (u1_p _ _ _ (by omega))
  · show _ = upd (aF A) i (aF A i + nI 1) j
    rw [u1_if, upd_if, h8 i hi, h8 j hj]
  · rw [u1_ne _ _ (by omega)]; exact h9
theorem m_refuses (f : Nat → Nat → Int32) (g : Nat → Nat → Int64) {i : Nat} (hi : i < 3) : x_m_refuses_0 (f, g) (nI i) = rI nN (en_u1 f 8 i (f 8 i + nI 1), g) := by
  rw [e_m_refuses_0]
  simp (disch := omega) only [q_1, q_in, q_clamp, if_true]
  rfl
theorem c_refuse (f : Nat → Nat → Int32) (g : Nat → Nat → Int64) (v : Int32) : x_b_refuseAct_0 (f, g) v = rI v (en_u1 f 33 1 (f 33 1 + nI 1), g) := by
  rw [e_b_refuseAct_0]; rfl
/-- the past, with what is now kept behind it -/
def psK (ps : mu_Ps) (r : mu_Rw) : mu_Ps := if ps.1 = 40 then (40, fun k => if k = 39 then r else ps.2 (k + 1)) else (ps.1 + 1, fun k => if k = ps.1 then r else ps.2 k)
theorem psK_ok {Λ : mu_Ld} {ps : mu_Ps} {r : mu_Rw} (h : psOK Λ ps) (ro : rOK Λ r) : psOK Λ (psK ps r) := by
  unfold psK
  by_cases c : ps.1 = 40
  · rw [if_pos c]
    refine ⟨Nat.le_refl 40, fun k hk => ?_⟩
    have hk' : k < 40 := hk
    show rOK Λ (if k = 39 then r else ps.2 (k + 1))
    split
    · exact ro
    · exact h.2 _ (by omega)
  · rw [if_neg c]
    have := h.1
    refine ⟨by show ps.1 + 1 ≤ 40; omega, fun k hk => ?_⟩
    have hk' : k < ps.1 + 1 := hk
    show rOK Λ (if k = ps.1 then r else ps.2 k)
    split
    · exact ro
    · exact h.2 _ (by omega)
/-- a row that lies elsewhere -/
theorem pRw_mv {Λ : mu_Ld} {P P' b b' : Nat} {r : mu_Rw} {f f' : Nat → Nat → Int32} (lo : lOK Λ) (h : pRw Λ P b r f) (e : ∀ i, i < 29 → f' P' (b' + i) = f P (b + i)) : pRw Λ P' b' r f' := by
  have l1 := lo.1
  have l2 := lo.2.1
  obtain ⟨h1, h2, h3, h4, h5⟩ := h
  refine ⟨?_, fun x hx => ?_, fun x hx => ?_, fun x hx => ?_, fun x hx => ?_⟩
  · have := e 0 (by omega)
    rw [Nat.add_zero, Nat.add_zero] at this
    rw [this]; exact h1
  · rw [Nat.add_assoc, e _ (by omega), ← Nat.add_assoc]; exact h2 x hx
  · rw [Nat.add_assoc, e _ (by omega), ← Nat.add_assoc]; exact h3 x hx
  · rw [Nat.add_assoc, e _ (by omega), ← Nat.add_assoc]; exact h4 x hx
  · rw [Nat.add_assoc, e _ (by omega), ← Nat.add_assoc]; exact h5 x hx
theorem m_keeps52 (f : Nat → Nat → Int32) (g : Nat → Nat → Int64) {n : Nat} (hn : f 0 47 = nI n) (h40 : n < 40) : ∃ f', x_m_keeps_52 (f, g) (nI 0) = rV (f', g) ∧ (∀ i, i < 29 → f' 19 (29 * n + i) = f 18 i) ∧ (∀ i, i < 29 * n → f' 19 i = f 19 i) ∧ f' 0 47 = nI (n + 1) ∧ (∀ p, p ≠ 0 → p ≠ 19 → f' p = f p) ∧ (∀ i, i ≠ 47 → f' 0 i = f 0 i) := by
  obtain ⟨f', e, i1, i2, i3⟩ := mu_inv (fun (f : Nat → Nat → Int32) i => x_m_keeps_52 (f, g) i) (fun k f' => (∀ i, i < k → f' 19 (29 * n + i) = f 18 i) ∧ (∀ i, i < 29 * n → f' 19 i = f 19 i) ∧ (∀ p, p ≠ 19 → f' p = f p)) 29 f ⟨fun i hi => absurd hi (by omega), fun _ _ => rfl, fun _ _ => rfl⟩ (by
    intro k f1 hk ⟨i1, i2, i3⟩
    have h47 : f1 0 47 = nI n := by rw [i3 0 (by omega)]; exact hn
    show ∃ f', x_m_keeps_52 (f1, g) (nI k) = x_m_keeps_52 (f', g) (nI (k + 1)) ∧ _
    rw [e_m_keeps_52]
    simp (disch := omega) only [q_0, q_1, q_2, q_3, q_4, q_5, q_6, q_7, q_8, q_9, q_10, q_11, q_12, q_13, q_14, q_15, q_16, q_17, q_18, q_19, q_20, q_21, q_22, q_23, q_24, q_29, q_30, q_31, q_36, q_42, q_50, q_40, q_48, q_96, q_97, q_99, q_100, q_255, q_256, q_700, q_999, q_1160, q_1400, q_99999, q_m1, h47, q_leI, nI_add, pk_mul, q_in, q_clamp, if_true]
    rw [if_neg (by omega)]
    refine ⟨_, rfl, fun i hi => ?_, fun i hi => ?_, fun p hp => ?_⟩
    · rw [u1_if]
      by_cases c : i = k
      · rw [if_pos (by omega), i3 18 (by omega), c]
      · rw [if_neg (by omega)]; exact i1 i (by omega)
    · rw [u1_ne _ _ (by omega)]; exact i2 i hi
    · rw [u1_p _ _ _ hp]; exact i3 p hp)
  have h47 : f' 0 47 = nI n := by rw [i3 0 (by omega)]; exact hn
  refine ⟨en_u1 f' 0 47 (f' 0 47 + nI 1), ?_, fun i hi => ?_, fun i hi => ?_, ?_, fun p h1 h2 => ?_, fun i hi => ?_⟩
  · refine Eq.trans e ?_
    show x_m_keeps_52 (f', g) (nI 29) = _
    rw [e_m_keeps_52, if_pos (by decide)]; rfl
  · rw [u1_ne _ _ (by omega)]; exact i1 i hi
  · rw [u1_ne _ _ (by omega)]; exact i2 i hi
  · rw [u1_at, h47, nI_add]
  · rw [u1_p _ _ _ h1]; exact i3 p h2
  · rw [u1_ne _ _ (by omega), i3 0 (by omega)]
theorem m_keeps {A : mu_A} (f : Nat → Nat → Int32) (g : Nat → Nat → Int64) (ok : AOK A) (h : MRel A f) : ∃ f', x_m_keeps_0 (f, g) = rV (f', g) ∧ MRel (uP A (psK (aP A) (aR A))) f' ∧ (∀ p, p ≠ 0 → p ≠ 19 → f' p = f p) ∧ (∀ i, i ≠ 47 → f' 0 i = f 0 i) := by
  have lo := ok.1
  have hps := ok.2.2.2.2.1
  have h40 := hps.1
  obtain ⟨h1, h2, h3, h4, h5, h6, h7, h8, h9⟩ := h
  have A1 : ∃ f', x_m_keeps_0 (f, g) = rV (f', g) ∧ hPs (aL A) 19 0 47 (psK (aP A) (aR A)) f' ∧ (∀ p, p ≠ 0 → p ≠ 19 → f' p = f p) ∧ (∀ i, i ≠ 47 → f' 0 i = f 0 i) := by
    rw [e_m_keeps_0]
    unfold psK
    by_cases c : (aP A).1 = 40
    · have h47 : f 0 47 = nI 40 := by rw [h4.1, c]
      rw [if_pos c, if_pos (show (f, g).1 0 47 = 40 from h47)]
      obtain ⟨f1, e1, i1, i2, i3⟩ := mu_invF (fun (f : Nat → Nat → Int32) i => x_m_keeps_12 (f, g) i) (fun k f' => (∀ i, i + 29 < k → f' 19 i = f 19 (i + 29)) ∧ (∀ i, k ≤ i + 29 → f' 19 i = f 19 i) ∧ (∀ p, p ≠ 19 → f' p = f p)) 29 1160 (by omega) f ⟨fun i hi => absurd hi (by omega), fun _ _ => rfl, fun _ _ => rfl⟩ (by
        intro k f1 k1 hk ⟨i1, i2, i3⟩
        show ∃ f', x_m_keeps_12 (f1, g) (nI k) = x_m_keeps_12 (f', g) (nI (k + 1)) ∧ _
        rw [e_m_keeps_12, show (29 : Int32) = nI 29 by decide, pk_sub k1]
        simp (disch := omega) only [q_0, q_1, q_2, q_3, q_4, q_5, q_6, q_7, q_8, q_9, q_10, q_11, q_12, q_13, q_14, q_15, q_16, q_17, q_18, q_19, q_20, q_21, q_22, q_23, q_24, q_29, q_30, q_31, q_36, q_42, q_50, q_40, q_48, q_96, q_97, q_99, q_100, q_255, q_256, q_700, q_999, q_1160, q_1400, q_99999, q_m1, q_leI, nI_add, q_in, q_clamp, if_true]
        rw [if_neg (by omega)]
        refine ⟨_, rfl, fun i hi => ?_, fun i hi => ?_, fun p hp => ?_⟩
        · rw [u1_if]
          by_cases c : i = k - 29
          · rw [if_pos c, i2 k (by omega), c, show k - 29 + 29 = k by omega]
          · rw [if_neg c]; exact i1 i (by omega)
        · rw [u1_ne _ _ (by omega)]; exact i2 i (by omega)
        · rw [u1_p _ _ _ hp]; exact i3 p hp)
      obtain ⟨f2, e2, j1, j2, j3, j4, j5⟩ := m_keeps52 (en_u1 f1 0 47 (nI 39)) g (n := 39) (u1_at _ _ _ _) (by omega)
      refine ⟨f2, ?_, ⟨j3, fun k hk => ?_⟩, fun p a b => ?_, fun i hi => ?_⟩
      · refine Eq.trans e1 ?_
        show x_m_keeps_12 (f1, g) (nI 1160) = _
        rw [e_m_keeps_12, if_pos (by decide)]
        have : f1 0 47 - 1 = nI 39 := by rw [i3 0 (by omega), h47]; decide
        rw [show (f1, g).1 0 47 - 1 = nI 39 from this]
        exact e2
      · have hk' : k < 40 := hk
        show pRw _ _ _ (if k = 39 then aR A else (aP A).2 (k + 1)) _
        by_cases c2 : k = 39
        · rw [if_pos c2, c2]
          refine pRw_mv lo (P := 18) (b := 0) (f := f) h3 (fun i hi => ?_)
          rw [j1 i hi, u1_ne _ _ (by omega), i3 18 (by omega), Nat.zero_add]
        · rw [if_neg c2]
          refine pRw_mv lo (h4.2 (k + 1) (by omega)) (fun i hi => ?_)
          rw [j2 _ (by omega), u1_ne _ _ (by omega), i1 _ (by omega)]
          congr 1; omega
      · rw [j4 p a b, u1_p _ _ _ a, i3 p b]
      · rw [j5 i hi, u1_ne _ _ (by omega), i3 0 (by omega)]
    · have hne : ¬ (f, g).1 0 47 = 40 := by
        show ¬ f 0 47 = 40
        rw [h4.1, show (40 : Int32) = nI 40 by decide, q_eqI (by omega) (by omega)]; exact c
      rw [if_neg c, if_neg hne]
      obtain ⟨f2, e2, j1, j2, j3, j4, j5⟩ := m_keeps52 f g h4.1 (by omega)
      refine ⟨f2, e2, ⟨j3, fun k hk => ?_⟩, j4, j5⟩
      have hk' : k < (aP A).1 + 1 := hk
      show pRw _ _ _ (if k = (aP A).1 then aR A else (aP A).2 k) _
      by_cases c2 : k = (aP A).1
      · rw [if_pos c2, c2]
        refine pRw_mv lo (P := 18) (b := 0) (f := f) h3 (fun i hi => ?_)
        rw [j1 i hi, Nat.zero_add]
      · rw [if_neg c2]
        exact pRw_mv lo (h4.2 k (by omega)) (fun i hi => j2 _ (by omega))
  obtain ⟨f', e, hp', fr, fr0⟩ := A1
  refine ⟨f', e, ⟨?_, ?_, ?_, hp', ?_, ?_, ?_, ?_, ?_⟩, fr, fr0⟩
  · exact MLd_of h1 (fun j _ => fr0 j (by omega)) (fun p _ _ => fr p (by omega) (by omega))
  · exact MGd_of h2 (fr0 1 (by omega)) (fr0 2 (by omega)) (fr 1 (by omega) (by omega))
  · exact MRw_of h3 (fun j _ _ => by rw [fr 18 (by omega) (by omega)]) lo
  · exact mSn_of h5 (fr0 55 (by omega)) (fr 24 (by omega) (by omega))
  · exact MIm_of lo h6 (fun i _ _ => fr0 i (by omega)) (fun p _ _ => fr p (by omega) (by omega))
  · exact MTp_of h7 (fr0 14 (by omega)) (fr 7 (by omega) (by omega))
  · rw [fr 8 (by omega) (by omega)]; exact h8
  · rw [fr0 16 (by omega)]; exact h9
