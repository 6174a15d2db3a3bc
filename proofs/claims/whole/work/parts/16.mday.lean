/-! the model's day -/
theorem q_le {a b : Int32} (h : a = b) : a ≤ b := by rw [h]; exact Int32.le_refl _
theorem MLd_of {Λ : mu_Ld} {f f' : Nat → Nat → Int32} (h : MLd Λ f) (e0 : ∀ i, i < 7 → f' 0 i = f 0 i) (e : ∀ p, 2 ≤ p → p ≤ 6 → f' p = f p) : MLd Λ f' := by
  have rl : ∀ a o, mRl f a o → mRl f' a o := by
    intro a o ho
    cases o with
    | none => exact ho
    | some l =>
      obtain ⟨k, k1, k2, k3⟩ := ho
      exact ⟨k, k1, k2, mCd_congr (e 6 (by omega) (by omega)) _ _ k3⟩
  obtain ⟨h1, h2, h3, h4, h5, h6, h7, h8⟩ := h
  refine ⟨?_, ?_, ?_, ?_, ?_, ?_, ?_, ?_⟩
  · rw [e0 3 (by omega)]; exact h1
  · rw [e0 4 (by omega)]; exact h2
  · rw [e 4 (by omega) (by omega)]; exact h3
  · rw [e 5 (by omega) (by omega)]; exact h4
  · rw [e 3 (by omega) (by omega)]; exact h5
  · rw [e 2 (by omega) (by omega)]; exact h6
  · rw [e0 5 (by omega)]; exact rl _ _ h7
  · rw [e0 6 (by omega)]; exact rl _ _ h8
theorem MRw_of {Λ : mu_Ld} {b : Nat} {r : mu_Rw} {f f' : Nat → Nat → Int32} (h : MRw Λ b r f) (e : ∀ i, b ≤ i → i < b + 29 → f' 18 i = f 18 i) (lo : lOK Λ) : MRw Λ b r f' := by
  have l1 := lo.1
  have l2 := lo.2.1
  obtain ⟨h1, h2, h3, h4, h5⟩ := h
  refine ⟨?_, fun x hx => ?_, fun x hx => ?_, fun x hx => ?_, fun x hx => ?_⟩
  · rw [e b (by omega) (by omega)]; exact h1
  · rw [e _ (by omega) (by omega)]; exact h2 x hx
  · rw [e _ (by omega) (by omega)]; exact h3 x hx
  · rw [e _ (by omega) (by omega)]; exact h4 x hx
  · rw [e _ (by omega) (by omega)]; exact h5 x hx
theorem MRw_uW {Λ : mu_Ld} {b : Nat} {r : mu_Rw} {f : Nat → Nat → Int32} (lo : lOK Λ) (h : MRw Λ b r f) {x : Nat} (hx : x < lB Λ) (v : Int32) : MRw Λ b (wW r x v) (en_u1 f 18 (b + 1 + x) v) := by
  have l1 := lo.1
  have l2 := lo.2.1
  obtain ⟨h1, h2, h3, h4, h5⟩ := h
  refine ⟨?_, fun y hy => ?_, fun y hy => ?_, fun y hy => ?_, fun y hy => ?_⟩
  · rw [u1_ne _ _ (by omega)]; exact h1
  · show en_u1 f 18 (b + 1 + x) v 18 (b + 1 + y) = upd (rW r) x v y
    rw [u1_if, upd_if]
    by_cases e : y = x
    · rw [if_pos (by omega), if_pos e]
    · rw [if_neg (by omega), if_neg e]; exact h2 y hy
  · rw [u1_ne _ _ (by omega)]; exact h3 y hy
  · rw [u1_ne _ _ (by omega)]; exact h4 y hy
  · rw [u1_ne _ _ (by omega)]; exact h5 y hy
theorem MRw_uS {Λ : mu_Ld} {b : Nat} {r : mu_Rw} {f : Nat → Nat → Int32} (lo : lOK Λ) (h : MRw Λ b r f) {x : Nat} (hx : x < lB Λ) (v : Int32) : MRw Λ b (wS r x v) (en_u1 f 18 (b + 7 + x) v) := by
  have l1 := lo.1
  have l2 := lo.2.1
  obtain ⟨h1, h2, h3, h4, h5⟩ := h
  refine ⟨?_, fun y hy => ?_, fun y hy => ?_, fun y hy => ?_, fun y hy => ?_⟩
  · rw [u1_ne _ _ (by omega)]; exact h1
  · rw [u1_ne _ _ (by omega)]; exact h2 y hy
  · show en_u1 f 18 (b + 7 + x) v 18 (b + 7 + y) = upd (rS r) x v y
    rw [u1_if, upd_if]
    by_cases e : y = x
    · rw [if_pos (by omega), if_pos e]
    · rw [if_neg (by omega), if_neg e]; exact h3 y hy
  · rw [u1_ne _ _ (by omega)]; exact h4 y hy
  · rw [u1_ne _ _ (by omega)]; exact h5 y hy
theorem MRw_uU {Λ : mu_Ld} {b : Nat} {r : mu_Rw} {f : Nat → Nat → Int32} (lo : lOK Λ) (h : MRw Λ b r f) {x : Nat} (hx : x < lP Λ) (v : Int32) : MRw Λ b (wU r x v) (en_u1 f 18 (b + 13 + x) v) := by
  have l1 := lo.1
  have l2 := lo.2.1
  obtain ⟨h1, h2, h3, h4, h5⟩ := h
  refine ⟨?_, fun y hy => ?_, fun y hy => ?_, fun y hy => ?_, fun y hy => ?_⟩
  · rw [u1_ne _ _ (by omega)]; exact h1
  · rw [u1_ne _ _ (by omega)]; exact h2 y hy
  · rw [u1_ne _ _ (by omega)]; exact h3 y hy
  · show en_u1 f 18 (b + 13 + x) v 18 (b + 13 + y) = upd (rU r) x v y
    rw [u1_if, upd_if]
    by_cases e : y = x
    · rw [if_pos (by omega), if_pos e]
    · rw [if_neg (by omega), if_neg e]; exact h4 y hy
  · rw [u1_ne _ _ (by omega)]; exact h5 y hy
theorem MRw_uT {Λ : mu_Ld} {b : Nat} {r : mu_Rw} {f : Nat → Nat → Int32} (lo : lOK Λ) (h : MRw Λ b r f) {x : Nat} (hx : x < lP Λ) (v : Int32) : MRw Λ b (wT r x v) (en_u1 f 18 (b + 21 + x) v) := by
  have l1 := lo.1
  have l2 := lo.2.1
  obtain ⟨h1, h2, h3, h4, h5⟩ := h
  refine ⟨?_, fun y hy => ?_, fun y hy => ?_, fun y hy => ?_, fun y hy => ?_⟩
  · rw [u1_ne _ _ (by omega)]; exact h1
  · rw [u1_ne _ _ (by omega)]; exact h2 y hy
  · rw [u1_ne _ _ (by omega)]; exact h3 y hy
  · rw [u1_ne _ _ (by omega)]; exact h4 y hy
  · show en_u1 f 18 (b + 21 + x) v 18 (b + 21 + y) = upd (rT r) x v y
    rw [u1_if, upd_if]
    by_cases e : y = x
    · rw [if_pos (by omega), if_pos e]
    · rw [if_neg (by omega), if_neg e]; exact h5 y hy
theorem MRw_uD {Λ : mu_Ld} {b : Nat} {r : mu_Rw} {f : Nat → Nat → Int32} (lo : lOK Λ) (h : MRw Λ b r f) (v : Int32) : MRw Λ b (wD r v) (en_u1 f 18 b v) := by
  have l1 := lo.1
  have l2 := lo.2.1
  obtain ⟨h1, h2, h3, h4, h5⟩ := h
  refine ⟨?_, fun y hy => ?_, fun y hy => ?_, fun y hy => ?_, fun y hy => ?_⟩
  · rw [u1_at]; rfl
  · rw [u1_ne _ _ (by omega)]; exact h2 y hy
  · rw [u1_ne _ _ (by omega)]; exact h3 y hy
  · rw [u1_ne _ _ (by omega)]; exact h4 y hy
  · rw [u1_ne _ _ (by omega)]; exact h5 y hy
/-- what a day of the model may change -/
def MFr (b : Nat) (f f' : Nat → Nat → Int32) : Prop := (∀ p, p ≠ 0 → p ≠ 18 → p ≠ 20 → p ≠ 21 → f' p = f p) ∧ (∀ i, i ≠ 50 → i ≠ 51 → i ≠ 52 → f' 0 i = f 0 i) ∧ (∀ i, (i < b ∨ b + 29 ≤ i) → f' 18 i = f 18 i)
theorem MFr_refl (b : Nat) (f : Nat → Nat → Int32) : MFr b f f := ⟨fun _ _ _ _ _ => rfl, fun _ _ _ _ => rfl, fun _ _ => rfl⟩
theorem MFr_trans {b : Nat} {f f' f'' : Nat → Nat → Int32} (h : MFr b f f') (h' : MFr b f' f'') : MFr b f f'' :=
  ⟨fun p a1 a2 a3 a4 => (h'.1 p a1 a2 a3 a4).trans (h.1 p a1 a2 a3 a4), fun i a1 a2 a3 => (h'.2.1 i a1 a2 a3).trans (h.2.1 i a1 a2 a3), fun i a => (h'.2.2 i a).trans (h.2.2 i a)⟩
theorem MFr_u18 {b : Nat} (f : Nat → Nat → Int32) {i : Nat} (v : Int32) (h1 : b ≤ i) (h2 : i < b + 29) : MFr b f (en_u1 f 18 i v) :=
  ⟨fun p _ a2 _ _ => u1_p _ _ _ a2, fun j _ _ _ => u1_ne _ _ (by omega), fun j a => u1_ne _ _ (by omega)⟩
theorem MFr_u0 {b : Nat} (f : Nat → Nat → Int32) {i : Nat} (v : Int32) (h1 : 50 ≤ i) (h2 : i ≤ 52) : MFr b f (en_u1 f 0 i v) :=
  ⟨fun p a1 _ _ _ => u1_p _ _ _ a1, fun j _ _ _ => u1_ne _ _ (by omega), fun j a => u1_ne _ _ (by omega)⟩
theorem MFr_21 {b : Nat} {f f' : Nat → Nat → Int32} (h : ∀ p, p ≠ 20 → p ≠ 21 → f' p = f p) : MFr b f f' :=
  ⟨fun p _ _ a3 a4 => h p a3 a4, fun j _ _ _ => by rw [h 0 (by omega) (by omega)], fun j _ => by rw [h 18 (by omega) (by omega)]⟩
theorem MFr_L {Λ : mu_Ld} {b : Nat} {f f' : Nat → Nat → Int32} (h : MFr b f f') (hL : MLd Λ f) : MLd Λ f' :=
  MLd_of hL (fun i hi => h.2.1 i (by omega) (by omega) (by omega)) (fun p h1 h2 => h.1 p (by omega) (by omega) (by omega) (by omega))
theorem m_asks {Λ : mu_Ld} {b : Nat} {r : mu_Rw} (σ : en_S) (lo : lOK Λ) (hb : b ≤ 29) (hL : MLd Λ σ.1) (hR : MRw Λ b r σ.1) (ro : rOK Λ r) {x : Nat} (hx : x < lB Λ) {k : Nat} {l : List Int32} (hC : mCd σ.1 k l) (hd : sDp l 0) : ∃ f', x_m_asks_0 σ (nI k) (nI b) (nI x) = rI (sE l (sV Λ r x)) (f', σ.2) ∧ ∀ p, p ≠ 20 → p ≠ 21 → f' p = σ.1 p := by
  have l1 := lo.1
  have h8 := sH8 r lo (nI x)
  have hlt : sH Λ r (nI x) < 2 ^ lP Λ := mu_mk_lt _ _
  have fr : ∀ f' : Nat → Nat → Int32, (∀ p, p ≠ 20 → f' p = σ.1 p) → MLd Λ f' ∧ MRw Λ b r f' := fun f' e =>
    ⟨MLd_of hL (fun i _ => by rw [e 0 (by omega)]) (fun p _ _ => e p (by omega)), MRw_of hR (fun i _ _ => by rw [e 18 (by omega)]) lo⟩
  have hW := hR.2.1 x hx
  rw [e_m_asks_0, m_handsAt σ lo hb hL hR, c_I]
  simp (disch := omega) only [q_0, q_1, q_2, q_3, q_4, q_5, q_6, q_7, q_8, q_9, q_10, q_11, q_12, q_13, q_14, q_15, q_16, q_17, q_18, q_19, q_20, q_21, q_22, q_23, q_24, q_29, q_30, q_31, q_36, q_42, q_50, q_40, q_48, q_96, q_97, q_99, q_100, q_255, q_256, q_700, q_999, q_1160, q_1400, q_99999, q_m1, nI_add, q_in, q_clamp, if_true, hW]
  rw [m_bits _ (by omega), c_I]
  have F1 := fr (en_u1 (en_u1 σ.1 20 0 (rW r x)) 20 1 (nI (mu_bc (sH Λ r (nI x))))) (fun p hp => by rw [u1_p _ _ _ hp, u1_p _ _ _ hp])
  dsimp only
  rw [m_mightBy (r := r) ((en_u1 (en_u1 σ.1 20 0 (rW r x)) 20 1 (nI (mu_bc (sH Λ r (nI x))))), σ.2) lo hb F1.1 F1.2 (by omega), c_I]
  have F2 := fr (en_u1 (en_u1 (en_u1 σ.1 20 0 (rW r x)) 20 1 (nI (mu_bc (sH Λ r (nI x))))) 20 2 (sMt Λ r (sH Λ r (nI x)))) (fun p hp => by rw [u1_p _ _ _ hp, u1_p _ _ _ hp, u1_p _ _ _ hp])
  dsimp only
  rw [m_leanBy ((en_u1 (en_u1 (en_u1 σ.1 20 0 (rW r x)) 20 1 (nI (mu_bc (sH Λ r (nI x))))) 20 2 (sMt Λ r (sH Λ r (nI x)))), σ.2) lo F2.1 hlt, c_I]
  have F3 := fr (en_u1 (en_u1 (en_u1 (en_u1 σ.1 20 0 (rW r x)) 20 1 (nI (mu_bc (sH Λ r (nI x))))) 20 2 (sMt Λ r (sH Λ r (nI x)))) 20 3 (sLn Λ (sH Λ r (nI x)))) (fun p hp => by rw [u1_p _ _ _ hp, u1_p _ _ _ hp, u1_p _ _ _ hp, u1_p _ _ _ hp])
  dsimp only
  rw [m_isBorne (r := r) ((en_u1 (en_u1 (en_u1 (en_u1 σ.1 20 0 (rW r x)) 20 1 (nI (mu_bc (sH Λ r (nI x))))) 20 2 (sMt Λ r (sH Λ r (nI x)))) 20 3 (sLn Λ (sH Λ r (nI x)))), σ.2) lo hb F3.1 F3.2 hx, c_I]
  have j : ∀ τ : en_S, (if tb (sB Λ r x) = nI 0 then x_m_asks_79 τ (nI k) (nI b) (nI x) (nI 0) (nI 4) else x_m_asks_79 τ (nI k) (nI b) (nI x) (nI 1) (nI 4)) = x_m_asks_79 τ (nI k) (nI b) (nI x) (tb (sB Λ r x)) (nI 4) := by
    intro τ
    cases sB Λ r x
    · rw [if_pos (show tb false = nI 0 from rfl)]; rfl
    · rw [if_neg (by decide)]; rfl
  rw [j, e_m_asks_79]
  simp (disch := omega) only [q_0, q_1, q_2, q_3, q_4, q_5, q_6, q_7, q_8, q_9, q_10, q_11, q_12, q_13, q_14, q_15, q_16, q_17, q_18, q_19, q_20, q_21, q_22, q_23, q_24, q_29, q_30, q_31, q_36, q_42, q_50, q_40, q_48, q_96, q_97, q_99, q_100, q_255, q_256, q_700, q_999, q_1160, q_1400, q_99999, q_m1, q_in, q_clamp, if_true, nI_add, Nat.add_zero]
  have F4 := fr (en_u1 (en_u1 (en_u1 (en_u1 (en_u1 σ.1 20 0 (rW r x)) 20 1 (nI (mu_bc (sH Λ r (nI x))))) 20 2 (sMt Λ r (sH Λ r (nI x)))) 20 3 (sLn Λ (sH Λ r (nI x)))) 20 4 (tb (sB Λ r x))) (fun p hp => by rw [u1_p _ _ _ hp, u1_p _ _ _ hp, u1_p _ _ _ hp, u1_p _ _ _ hp, u1_p _ _ _ hp])
  rw [m_townOf (r := r) ((en_u1 (en_u1 (en_u1 (en_u1 (en_u1 σ.1 20 0 (rW r x)) 20 1 (nI (mu_bc (sH Λ r (nI x))))) 20 2 (sMt Λ r (sH Λ r (nI x)))) 20 3 (sLn Λ (sH Λ r (nI x)))) 20 4 (tb (sB Λ r x))), σ.2) lo hb F4.1 F4.2 ro hx, c_I]
  dsimp only
  rw [F4.2.1, e_m_reckons_0]
  obtain ⟨f', e, fr'⟩ := m_reckons4 (sV Λ r x) l k (en_u1 (en_u1 (en_u1 (en_u1 (en_u1 (en_u1 (en_u1 σ.1 20 0 (rW r x)) 20 1 (nI (mu_bc (sH Λ r (nI x))))) 20 2 (sMt Λ r (sH Λ r (nI x)))) 20 3 (sLn Λ (sH Λ r (nI x)))) 20 4 (tb (sB Λ r x))) 20 5 (sTo Λ r x)) 20 6 (rD r), σ.2) [] (mCd_congr (by simp (disch := omega) only [u1_p]) _ _ hC) hd trivial (by
    intro i hi
    match i, hi with
    | 0, _ => simp (disch := omega) only [u1_ne, u1_at]; rfl
    | 1, _ => simp (disch := omega) only [u1_ne, u1_at]; rfl
    | 2, _ => simp (disch := omega) only [u1_ne, u1_at]; rfl
    | 3, _ => simp (disch := omega) only [u1_ne, u1_at]; rfl
    | 4, _ => simp (disch := omega) only [u1_ne, u1_at]; rfl
    | 5, _ => simp (disch := omega) only [u1_ne, u1_at]; rfl
    | 6, _ => simp (disch := omega) only [u1_ne, u1_at]; rfl)
  refine ⟨f', ?_, fun p h20 h21 => ?_⟩
  · rw [show (0 : Int32) = nI ([] : List Int32).length from rfl, e, c_I]
    rfl
  · rw [fr' p h21]
    simp only [u1_p _ _ _ h20]
theorem m_weighs {Λ : mu_Ld} {b : Nat} {r : mu_Rw} (σ : en_S) (lo : lOK Λ) (hb : b ≤ 29) (hR : MRw Λ b r σ.1) {x : Nat} (hx : x < lB Λ) (v : Int32) : x_m_weighs_0 σ (nI b) (nI x) v = rV (en_u1 σ.1 18 (b + 1 + x) (sIn (rW r x + v) (nI 1) (nI 99)), σ.2) := by
  have l1 := lo.1
  have hW := hR.2.1 x hx
  rw [e_m_weighs_0]
  simp (disch := omega) only [q_0, q_1, q_2, q_3, q_4, q_5, q_6, q_7, q_8, q_9, q_10, q_11, q_12, q_13, q_14, q_15, q_16, q_17, q_18, q_19, q_20, q_21, q_22, q_23, q_24, q_29, q_30, q_31, q_36, q_42, q_50, q_40, q_48, q_96, q_97, q_99, q_100, q_255, q_256, q_700, q_999, q_1160, q_1400, q_99999, q_m1, nI_add, q_in, q_clamp, if_true, hW, m_bounded, c_I]
  rfl
theorem m_tires {Λ : mu_Ld} {b : Nat} {r : mu_Rw} (σ : en_S) (lo : lOK Λ) (hb : b ≤ 29) (hL : MLd Λ σ.1) (hR : MRw Λ b r σ.1) (ro : rOK Λ r) {m : Nat} (hm : m < 2147483648) : ∃ f', x_m_tires_0 σ (nI b) (nI m) = rV (f', σ.2) ∧ MRw Λ b (sTs Λ m r) f' ∧ (∀ p, p ≠ 18 → f' p = σ.1 p) ∧ (∀ i, (i < b ∨ b + 29 ≤ i) → f' 18 i = σ.1 18 i) := by
  have l2 := lo.2.1
  rw [e_m_tires_0]
  obtain ⟨f', e, i1, i2, i3, i4⟩ := mu_inv (fun (f : Nat → Nat → Int32) i => x_m_tires_2 (f, σ.2) (nI b) (nI m) i) (fun p f => MRw Λ b (mu_up (fun p q => if m.testBit p then sTi q p else q) r p) f ∧ rOK Λ (mu_up (fun p q => if m.testBit p then sTi q p else q) r p) ∧ (∀ p, p ≠ 18 → f p = σ.1 p) ∧ (∀ i, (i < b ∨ b + 29 ≤ i) → f 18 i = σ.1 18 i)) (lP Λ) σ.1 ⟨hR, ro, fun _ _ => rfl, fun _ _ => rfl⟩ (by
    intro p f hp ⟨i1, i2, i3, i4⟩
    have hP : f 0 4 = nI (lP Λ) := by rw [i3 0 (by omega)]; exact hL.2.1
    have hT := i1.2.2.2.2 p hp
    obtain ⟨t, ht, et⟩ := i2.2.2.2 p hp
    show ∃ f', x_m_tires_2 (f, σ.2) (nI b) (nI m) (nI p) = x_m_tires_2 (f', σ.2) (nI b) (nI m) (nI (p + 1)) ∧ _
    rw [e_m_tires_2]
    simp (disch := omega) only [q_0, q_1, q_2, q_3, q_4, q_5, q_6, q_7, q_8, q_9, q_10, q_11, q_12, q_13, q_14, q_15, q_16, q_17, q_18, q_19, q_20, q_21, q_22, q_23, q_24, q_29, q_30, q_31, q_36, q_42, q_50, q_40, q_48, q_96, q_97, q_99, q_100, q_255, q_256, q_700, q_999, q_1160, q_1400, q_99999, q_m1, hP, q_leI, nI_add, q_bit1, q_in, q_clamp, if_true, hT, m_lesser, c_I]
    rw [if_neg (by omega)]
    simp only [mu_upS]
    cases hb2 : m.testBit p
    · simp (decide := true) only [if_false]
      exact ⟨f, rfl, i1, i2, i3, i4⟩
    · simp (decide := true) only [if_true]
      refine ⟨en_u1 f 18 (b + 21 + p) (if nI 9 ≤ rT (mu_up (fun p q => if m.testBit p then sTi q p else q) r p) p then rT (mu_up (fun p q => if m.testBit p then sTi q p else q) r p) p else rT (mu_up (fun p q => if m.testBit p then sTi q p else q) r p) p + nI 1), ?_, MRw_uT lo i1 hp _, rOK_sTi i2 hp, fun q hq => by rw [u1_p _ _ _ hq]; exact i3 q hq, fun i hi => by rw [u1_ne _ _ (by omega)]; exact i4 i hi⟩
      rw [et]
      simp (disch := omega) only [q_leI, nI_add]
      by_cases c : 9 ≤ t
      · rw [if_pos c]
        by_cases c2 : t + 1 ≤ 9
        · omega
        · rw [if_neg c2, show t = 9 by omega]
      · rw [if_neg c, if_pos (by omega)])
  refine ⟨f', ?_, i1, i3, i4⟩
  have hP : f' 0 4 = nI (lP Λ) := by rw [i3 0 (by omega)]; exact hL.2.1
  refine Eq.trans e ?_
  show x_m_tires_2 (f', σ.2) (nI b) (nI m) (nI (lP Λ)) = _
  rw [e_m_tires_2, if_pos (q_le hP)]
  rfl
theorem m_letsFall {Λ : mu_Ld} {b : Nat} {r : mu_Rw} (σ : en_S) (lo : lOK Λ) (hb : b ≤ 29) (hL : MLd Λ σ.1) (hR : MRw Λ b r σ.1) {x : Nat} (hx : x < lB Λ) : ∃ f', x_m_letsFall_0 σ (nI b) (nI x) = rV (f', σ.2) ∧ MRw Λ b (sLet Λ r x) f' ∧ MFr b σ.1 f' ∧ f' 0 51 = σ.1 0 51 ||| nI (sH Λ r (nI x)) ∧ f' 0 50 = σ.1 0 50 ||| nI (2 ^ x) ∧ f' 0 52 = σ.1 0 52 := by
  have l1 := lo.1
  have l2 := lo.2.1
  have h8 := sH8 r lo (nI x)
  have hW := hR.2.1 x hx
  rw [e_m_letsFall_0, m_handsAt σ lo hb hL hR, c_I]
  simp (disch := omega) only [q_0, q_1, q_2, q_3, q_4, q_5, q_6, q_7, q_8, q_9, q_10, q_11, q_12, q_13, q_14, q_15, q_16, q_17, q_18, q_19, q_20, q_21, q_22, q_23, q_24, q_29, q_30, q_31, q_36, q_42, q_50, q_40, q_48, q_96, q_97, q_99, q_100, q_255, q_256, q_700, q_999, q_1160, q_1400, q_99999, q_m1, nI_add, q_in, q_clamp, if_true, hW, m_greater, c_I, q_mx]
  obtain ⟨f', e, i1, i2, i3⟩ := mu_inv (fun (f : Nat → Nat → Int32) i => x_m_letsFall_36 (f, σ.2) (nI b) (nI x) (nI (sH Λ r (nI x))) i) (fun p f => MRw Λ b (mu_up (fun p q => if (sH Λ r (nI x)).testBit p then wU q p nN else q) (wW r x (if nI 1 < rW r x / nI 2 then rW r x / nI 2 else nI 1)) p) f ∧ (∀ p, p ≠ 18 → f p = σ.1 p) ∧ (∀ i, (i < b ∨ b + 29 ≤ i) → f 18 i = σ.1 18 i)) (lP Λ) (en_u1 σ.1 18 (b + 1 + x) (if nI 1 < rW r x / nI 2 then rW r x / nI 2 else nI 1)) ⟨MRw_uW lo hR hx _, fun q hq => u1_p _ _ _ hq, fun i hi => u1_ne _ _ (by omega)⟩ (by
    intro p f hp ⟨i1, i3, i4⟩
    have hP : f 0 4 = nI (lP Λ) := by rw [i3 0 (by omega)]; exact hL.2.1
    show ∃ f', x_m_letsFall_36 (f, σ.2) (nI b) (nI x) (nI (sH Λ r (nI x))) (nI p) = x_m_letsFall_36 (f', σ.2) (nI b) (nI x) (nI (sH Λ r (nI x))) (nI (p + 1)) ∧ _
    rw [e_m_letsFall_36]
    simp (disch := omega) only [q_0, q_1, q_2, q_3, q_4, q_5, q_6, q_7, q_8, q_9, q_10, q_11, q_12, q_13, q_14, q_15, q_16, q_17, q_18, q_19, q_20, q_21, q_22, q_23, q_24, q_29, q_30, q_31, q_36, q_42, q_50, q_40, q_48, q_96, q_97, q_99, q_100, q_255, q_256, q_700, q_999, q_1160, q_1400, q_99999, q_m1, hP, q_leI, nI_add, q_bit1, q_in, q_clamp, if_true]
    rw [if_neg (by omega)]
    simp only [mu_upS]
    cases hb2 : (sH Λ r (nI x)).testBit p
    · simp (decide := true) only [if_false]
      exact ⟨f, rfl, i1, i3, i4⟩
    · simp (decide := true) only [if_true]
      exact ⟨_, rfl, MRw_uU lo i1 hp _, fun q hq => by rw [u1_p _ _ _ hq]; exact i3 q hq, fun i hi => by rw [u1_ne _ _ (by omega)]; exact i4 i hi⟩)
  have hP : f' 0 4 = nI (lP Λ) := by rw [i2 0 (by omega)]; exact hL.2.1
  refine ⟨en_u1 (en_u1 f' 0 51 (f' 0 51 ||| nI (sH Λ r (nI x)))) 0 50 (f' 0 50 ||| nI (2 ^ x)), ?_, ?_, ?_, ?_, ?_, ?_⟩
  · refine Eq.trans e ?_
    show x_m_letsFall_36 (f', σ.2) (nI b) (nI x) (nI (sH Λ r (nI x))) (nI (lP Λ)) = _
    rw [e_m_letsFall_36, if_pos (q_le hP)]
    simp (disch := omega) only [q_0, q_1, q_2, q_3, q_4, q_5, q_6, q_7, q_8, q_9, q_10, q_11, q_12, q_13, q_14, q_15, q_16, q_17, q_18, q_19, q_20, q_21, q_22, q_23, q_24, q_29, q_30, q_31, q_36, q_42, q_50, q_40, q_48, q_96, q_97, q_99, q_100, q_255, q_256, q_700, q_999, q_1160, q_1400, q_99999, q_m1, q_shl]
    rfl
  · exact MRw_of i1 (fun i _ _ => by rw [u1_ne _ _ (by omega), u1_ne _ _ (by omega)]) lo
  · refine MFr_trans (f' := f') ⟨fun p _ h _ _ => i2 p h, fun i _ _ _ => by rw [i2 0 (by omega)], i3⟩ (MFr_trans (MFr_u0 _ _ (by omega) (by omega)) (MFr_u0 _ _ (by omega) (by omega)))
  · rw [u1_ne _ _ (by omega), u1_at, i2 0 (by omega)]
  · rw [u1_at, i2 0 (by omega)]
  · rw [u1_ne _ _ (by omega), u1_ne _ _ (by omega), i2 0 (by omega)]
