/-! count -/
/-- how many j below m are like i -/
def pC (h : Nat → Int32) (i m : Nat) : Nat := mu_up (fun j a => a + (if h i = h j then 1 else 0)) 0 m
/-- pairs with the later one first -/
def pA (h : Nat → Int32) (n : Nat) : Nat := mu_up (fun p a => a + pC h p p) 0 n
/-- how many j from i + 1 on, below m, are like i -/
def pD (h : Nat → Int32) (i m : Nat) : Nat := mu_up (fun j a => a + (if i < j ∧ h i = h j then 1 else 0)) 0 m
def pB (h : Nat → Int32) (n m : Nat) : Nat := mu_up (fun i a => a + pD h i m) 0 n
theorem pD_S (h : Nat → Int32) (i m : Nat) : pD h i (m + 1) = pD h i m + (if i < m ∧ h i = h m then 1 else 0) := rfl
theorem pB_S (h : Nat → Int32) (n m : Nat) : pB h n (m + 1) = pB h n m + mu_up (fun i a => a + (if i < m ∧ h i = h m then 1 else 0)) 0 n := by
  induction n with
  | zero => rfl
  | succ n ih =>
    have e1 : pB h (n + 1) (m + 1) = pB h n (m + 1) + pD h n (m + 1) := rfl
    have e2 : pB h (n + 1) m = pB h n m + pD h n m := rfl
    rw [e1, e2, ih, pD_S, mu_upS]
    omega
theorem pD_0 (h : Nat → Int32) (i : Nat) : ∀ m, m ≤ i + 1 → pD h i m = 0 := by
  intro m
  induction m with
  | zero => intro _; rfl
  | succ m ih => intro hm; rw [pD_S, ih (by omega), if_neg (by omega)]
theorem pA_pB (h : Nat → Int32) : ∀ n, pA h n = pB h n n := by
  intro n
  induction n with
  | zero => rfl
  | succ n ih =>
    have e1 : pA h (n + 1) = pA h n + pC h n n := rfl
    have e2 : pB h (n + 1) (n + 1) = pB h n (n + 1) + pD h n (n + 1) := rfl
    rw [e1, e2, pB_S, pD_0 h n (n + 1) (Nat.le_refl _), ih]
    have : pC h n n = mu_up (fun i a => a + (if i < n ∧ h i = h n then 1 else 0)) 0 n := by
      unfold pC
      apply mu_up_congr
      intro j hj a
      by_cases c : h n = h j
      · rw [if_pos c, if_pos ⟨hj, c.symm⟩]
      · rw [if_neg c, if_neg (fun k => c k.2.symm)]
    rw [this]
    omega
theorem c_pairs {Λ : mu_Ld} (f : Nat → Nat → Int32) (g : Nat → Nat → Int64) (lo : lOK Λ) (hL : CLd Λ f) : x_ld_pairs_p34_0 (f, g) = rI (nI (pB (lH Λ) (lP Λ) (lP Λ))) (f, g) := by
  have l2 := lo.2.1
  have hP : f 34 9 = nI (lP Λ) := hL.2.1
  rw [e_ld_pairs_p34_0]
  have h := mu_loop (fun (a : Nat) i => x_ld_pairs_p34_4 (f, g) (nI a) i) (fun n => pB (lH Λ) n (lP Λ)) (lP Λ) (by
    intro i hi
    have hI : f 42 i = lH Λ i := hL.2.2.2.1 i hi
    show x_ld_pairs_p34_4 (f, g) (nI (pB (lH Λ) i (lP Λ))) (nI i) = x_ld_pairs_p34_4 (f, g) (nI (pB (lH Λ) i (lP Λ) + pD (lH Λ) i (lP Λ))) (nI (i + 1))
    rw [e_ld_pairs_p34_4, if_neg (by show ¬ f 34 9 ≤ nI i; rw [hP]; exact nI_ge hi (by omega)), nI_1]
    obtain ⟨a, e, ea⟩ := mu_invF (fun (a : Nat) j => x_ld_pairs_p34_16 (f, g) (nI a) (nI i) j) (fun j a => a = pB (lH Λ) i (lP Λ) + pD (lH Λ) i j) (i + 1) (lP Λ) (by omega) (pB (lH Λ) i (lP Λ)) (by rw [pD_0 _ _ _ (Nat.le_refl _)]; rfl) (by
      intro j a j1 hj ea
      have hJ : f 42 j = lH Λ j := hL.2.2.2.1 j hj
      refine ⟨pB (lH Λ) i (lP Λ) + pD (lH Λ) i (j + 1), ?_, rfl⟩
      show x_ld_pairs_p34_16 (f, g) (nI a) (nI i) (nI j) = x_ld_pairs_p34_16 (f, g) (nI (pB (lH Λ) i (lP Λ) + pD (lH Λ) i (j + 1))) (nI i) (nI (j + 1))
      rw [e_ld_pairs_p34_16, pD_S]
      simp (disch := omega) only [q_0, q_1, q_2, q_3, q_4, q_5, q_6, q_7, q_8, q_9, q_10, q_11, q_12, q_13, q_14, q_15, q_16, q_17, q_18, q_19, q_20, q_21, q_22, q_23, q_24, q_29, q_30, q_31, q_36, q_42, q_50, q_40, q_48, q_96, q_97, q_99, q_100, q_255, q_256, q_700, q_999, q_1160, q_1400, q_99999, q_m1, hP, q_leI, nI_add, q_in, q_clamp, if_true, hI, hJ]
      rw [if_neg (by omega), ea]
      by_cases c : lH Λ i = lH Λ j
      · rw [if_pos c, if_pos ⟨by omega, c⟩, Nat.add_assoc]
      · rw [if_neg c, if_neg (fun k => c k.2)]; rfl)
    refine Eq.trans e ?_
    show x_ld_pairs_p34_16 (f, g) (nI a) (nI i) (nI (lP Λ)) = _
    rw [e_ld_pairs_p34_16, if_pos (q_le hP), nI_1, ea])
  refine Eq.trans h ?_
  show x_ld_pairs_p34_4 (f, g) (nI _) (nI (lP Λ)) = _
  rw [e_ld_pairs_p34_4, if_pos (q_le hP)]
  rfl
theorem m_pairs {Λ : mu_Ld} (f : Nat → Nat → Int32) (g : Nat → Nat → Int64) (lo : lOK Λ) (hL : MLd Λ f) : x_m_pairs_0 (f, g) = rI (nI (pB (lH Λ) (lP Λ) (lP Λ))) (f, g) := by
  have l2 := lo.2.1
  have hP : f 0 4 = nI (lP Λ) := hL.2.1
  rw [← pA_pB, e_m_pairs_0]
  have h := mu_loop (fun (a : Nat) i => x_m_pairs_4 (f, g) (nI a) i) (fun n => pA (lH Λ) n) (lP Λ) (by
    intro i hi
    have hI : f 5 i = lH Λ i := hL.2.2.2.1 i hi
    show x_m_pairs_4 (f, g) (nI (pA (lH Λ) i)) (nI i) = x_m_pairs_4 (f, g) (nI (pA (lH Λ) i + pC (lH Λ) i i)) (nI (i + 1))
    rw [e_m_pairs_4, if_neg (by show ¬ f 0 4 ≤ nI i; rw [hP]; exact nI_ge hi (by omega))]
    have h2 := mu_loop (fun (a : Nat) j => x_m_pairs_14 (f, g) (nI a) (nI i) j) (fun j => pA (lH Λ) i + pC (lH Λ) i j) i (by
      intro j hj
      have hJ : f 5 j = lH Λ j := hL.2.2.2.1 j (by omega)
      have e : pC (lH Λ) i (j + 1) = pC (lH Λ) i j + (if lH Λ i = lH Λ j then 1 else 0) := rfl
      show x_m_pairs_14 (f, g) (nI (pA (lH Λ) i + pC (lH Λ) i j)) (nI i) (nI j) = x_m_pairs_14 (f, g) (nI (pA (lH Λ) i + pC (lH Λ) i (j + 1))) (nI i) (nI (j + 1))
      rw [e_m_pairs_14, e]
      simp (disch := omega) only [q_0, q_1, q_2, q_3, q_4, q_5, q_6, q_7, q_8, q_9, q_10, q_11, q_12, q_13, q_14, q_15, q_16, q_17, q_18, q_19, q_20, q_21, q_22, q_23, q_24, q_29, q_30, q_31, q_36, q_42, q_50, q_40, q_48, q_96, q_97, q_99, q_100, q_255, q_256, q_700, q_999, q_1160, q_1400, q_99999, q_m1, q_leI, nI_add, q_in, q_clamp, if_true, hI, hJ]
      rw [if_neg (by omega)]
      by_cases c : lH Λ i = lH Λ j
      · rw [if_pos c, if_pos c, Nat.add_assoc]
      · rw [if_neg c, if_neg c, Nat.add_assoc])
    refine Eq.trans h2 ?_
    show x_m_pairs_14 (f, g) (nI _) (nI i) (nI i) = _
    rw [e_m_pairs_14, if_pos (Int32.le_refl _), nI_1])
  refine Eq.trans h ?_
  show x_m_pairs_4 (f, g) (nI _) (nI (lP Λ)) = _
  rw [e_m_pairs_4, if_pos (q_le hP)]
  rfl
theorem q_count {A : mu_A} {f : Nat → Nat → Int32} (ok : AOK A) (hM : MRel A f) (hC : CRel A f) (v1 : Int32) : Qn f (fun σ => x_b_count_0 σ v1) (fun σ => x_m_count_0 σ v1) id := by
  have lo := ok.1
  have ro := ok.2.2.2.1
  have l1 := lo.1
  have l2 := lo.2.1
  have L := hC.1
  have R := hC.2.2.1
  rcases ok_badR v1 (a := 0) (b := 14) (by omega) (by omega) with b2 | ⟨w, _, hw, rfl⟩
  · refine Qn_err ok hM 1 (by omega) ?_ ?_
    · intro g
      show x_b_count_0 (f, g) v1 = _
      have k : ∀ j, j ≤ 14 → ¬ v1 = nI j := fun j hj => badR_ne b2 (by omega) hj (by omega)
      rw [e_b_count_0]
      rw [if_neg (show ¬ v1 = 0 from k 0 (by omega)), if_neg (show ¬ v1 = 1 from k 1 (by omega)), if_neg (show ¬ v1 = 2 from k 2 (by omega)), if_neg (show ¬ v1 = 3 from k 3 (by omega)), if_neg (show ¬ v1 = 4 from k 4 (by omega)), if_neg (show ¬ v1 = 5 from k 5 (by omega)), if_neg (show ¬ v1 = 6 from k 6 (by omega)), if_neg (show ¬ v1 = 7 from k 7 (by omega)), if_neg (show ¬ v1 = 8 from k 8 (by omega)), if_neg (show ¬ v1 = 9 from k 9 (by omega)), if_neg (show ¬ v1 = 10 from k 10 (by omega)), if_neg (show ¬ v1 = 11 from k 11 (by omega)), if_neg (show ¬ v1 = 12 from k 12 (by omega)), if_neg (show ¬ v1 = 13 from k 13 (by omega)), if_neg (show ¬ v1 = 14 from k 14 (by omega))]
    · intro f0 f2 g M0 h0 e0
      show x_m_count_0 (f2, g) v1 = _
      rw [e_m_count_0]
      dsimp only
      rw [← e0, show x_m_within_0 (f0, g) v1 0 14 = _ from m_withinN (f0, g) (a := 0) (b := 14) b2, c_I, show x_m_right_0 (f0, g) (nI 0) 1 = _ from m_rightN f0 g h0 (c := 1) (Or.inl rfl), c_I, if_pos (by decide)]
      rfl
  refine Qn_val ok hM rfl (match w with
    | 0 => nI (aG A).1
    | 1 => nI (aG A).2.1
    | 2 => nI (lB (aL A))
    | 3 => nI (lP (aL A))
    | 4 => rD (aR A)
    | 5 => nI (mu_mk (fun x => sB (aL A) (aR A) x) (lB (aL A)))
    | 6 => nI (sH (aL A) (aR A) nN)
    | 7 => mu_up (fun x a => a + rW (aR A) x) (nI 0) (lB (aL A))
    | 8 => nI (pB (lH (aL A)) (lP (aL A)) (lP (aL A)))
    | 9 => nI (aP A).1
    | 10 => nI (aS A).1
    | 11 => nI (aT A).1
    | k => aF A (k - 12)) ?_ ?_
  · intro g
    show ∃ f', x_b_count_0 (f, g) (nI w) = rI _ (f', g) ∧ _
    refine ⟨f, ?_, QC_refl f⟩
    rw [e_b_count_0]
    match w, hw with
    | 0, _ => rw [if_pos (by decide)]; show rI (f 34 0) _ = _; rw [hC.2.1.1]; rfl
    | 1, _ => rw [if_neg (by decide), if_pos (by decide)]; show rI (f 34 1) _ = _; rw [hC.2.1.2.1]; rfl
    | 2, _ => rw [if_neg (by decide), if_neg (by decide), if_pos (by decide)]; show rI (f 34 5) _ = _; rw [L.1]; rfl
    | 3, _ => rw [if_neg (by decide), if_neg (by decide), if_neg (by decide), if_pos (by decide)]; show rI (f 34 9) _ = _; rw [L.2.1]; rfl
    | 4, _ => rw [if_neg (by decide), if_neg (by decide), if_neg (by decide), if_neg (by decide), if_pos (by decide)]; show rI (f 67 1) _ = _; rw [R.1]; rfl
    | 5, _ => rw [if_neg (by decide), if_neg (by decide), if_neg (by decide), if_neg (by decide), if_neg (by decide), if_pos (by decide), c_borneBits_67 (f, g) lo L R, c_I]; rfl
    | 6, _ => rw [if_neg (by decide), if_neg (by decide), if_neg (by decide), if_neg (by decide), if_neg (by decide), if_neg (by decide), if_pos (by decide), c_bitsUnder_67 (f, g) lo L R, c_I]; rfl
    | 7, _ => rw [if_neg (by decide), if_neg (by decide), if_neg (by decide), if_neg (by decide), if_neg (by decide), if_neg (by decide), if_neg (by decide), if_pos (by decide), c_weightOfAll_67 (f, g) lo L R, c_I]; rfl
    | 8, _ => rw [if_neg (by decide), if_neg (by decide), if_neg (by decide), if_neg (by decide), if_neg (by decide), if_neg (by decide), if_neg (by decide), if_neg (by decide), if_pos (by decide), c_pairs f g lo L, c_I]; rfl
    | 9, _ => rw [if_neg (by decide), if_neg (by decide), if_neg (by decide), if_neg (by decide), if_neg (by decide), if_neg (by decide), if_neg (by decide), if_neg (by decide), if_neg (by decide), if_pos (by decide)]; show rI (f 79 0) _ = _; rw [hC.2.2.2.1.1]; rfl
    | 10, _ => rw [if_neg (by decide), if_neg (by decide), if_neg (by decide), if_neg (by decide), if_neg (by decide), if_neg (by decide), if_neg (by decide), if_neg (by decide), if_neg (by decide), if_neg (by decide), if_pos (by decide)]; show rI (f 81 0) _ = _; rw [hC.2.2.2.2.1.1]; rfl
    | 11, _ => rw [if_neg (by decide), if_neg (by decide), if_neg (by decide), if_neg (by decide), if_neg (by decide), if_neg (by decide), if_neg (by decide), if_neg (by decide), if_neg (by decide), if_neg (by decide), if_neg (by decide), if_pos (by decide)]; show rI (f 31 1) _ = _; rw [hC.2.2.2.2.2.2.1.1]; rfl
    | 12, _ => rw [if_neg (by decide), if_neg (by decide), if_neg (by decide), if_neg (by decide), if_neg (by decide), if_neg (by decide), if_neg (by decide), if_neg (by decide), if_neg (by decide), if_neg (by decide), if_neg (by decide), if_neg (by decide), if_pos (by decide)]; show rI (f 33 0) _ = _; rw [hC.2.2.2.2.2.2.2.1 0 (by omega)]; rfl
    | 13, _ => rw [if_neg (by decide), if_neg (by decide), if_neg (by decide), if_neg (by decide), if_neg (by decide), if_neg (by decide), if_neg (by decide), if_neg (by decide), if_neg (by decide), if_neg (by decide), if_neg (by decide), if_neg (by decide), if_neg (by decide), if_pos (by decide)]; show rI (f 33 1) _ = _; rw [hC.2.2.2.2.2.2.2.1 1 (by omega)]; rfl
    | 14, _ => rw [if_neg (by decide), if_neg (by decide), if_neg (by decide), if_neg (by decide), if_neg (by decide), if_neg (by decide), if_neg (by decide), if_neg (by decide), if_neg (by decide), if_neg (by decide), if_neg (by decide), if_neg (by decide), if_neg (by decide), if_neg (by decide), if_pos (by decide)]; show rI (f 33 2) _ = _; rw [hC.2.2.2.2.2.2.2.1 2 (by omega)]; rfl
  · intro f0 f2 g M0 h0 e0
    have ML := M0.1
    have MR := M0.2.2.1
    show ∃ f3, x_m_count_0 (f2, g) (nI w) = rI _ (f3, g) ∧ _
    rw [e_m_count_0]
    dsimp only
    rw [← e0, show x_m_within_0 (f0, g) (nI w) 0 14 = _ from m_withinY (f0, g) (a := 0) (b := 14) (by omega) hw (by omega), c_I, m_rightY f0 g h0, c_I, if_neg (by decide)]
    refine ⟨f0, ?_, h0, QM_refl f0⟩
    match w, hw with
    | 0, _ => rw [if_pos (by decide)]; show rI (f0 0 1) _ = _; rw [M0.2.1.1]; rfl
    | 1, _ => rw [if_neg (by decide), if_pos (by decide)]; show rI (f0 0 2) _ = _; rw [M0.2.1.2.1]; rfl
    | 2, _ => rw [if_neg (by decide), if_neg (by decide), if_pos (by decide)]; show rI (f0 0 3) _ = _; rw [ML.1]; rfl
    | 3, _ => rw [if_neg (by decide), if_neg (by decide), if_neg (by decide), if_pos (by decide)]; show rI (f0 0 4) _ = _; rw [ML.2.1]; rfl
    | 4, _ => rw [if_neg (by decide), if_neg (by decide), if_neg (by decide), if_neg (by decide), if_pos (by decide)]; show rI (f0 18 0) _ = _; rw [MR.1]; rfl
    | 5, _ => rw [if_neg (by decide), if_neg (by decide), if_neg (by decide), if_neg (by decide), if_neg (by decide), if_pos (by decide), show x_m_borneOnes_0 (f0, g) 0 = _ from m_borneOnes (b := 0) (f0, g) lo (by omega) ML MR, c_I]; rfl
    | 6, _ => rw [if_neg (by decide), if_neg (by decide), if_neg (by decide), if_neg (by decide), if_neg (by decide), if_neg (by decide), if_pos (by decide), show x_m_handsAt_0 (f0, g) 0 (-1) = _ from m_handsAt (b := 0) (f0, g) lo (by omega) ML MR _, c_I]; rfl
    | 7, _ => rw [if_neg (by decide), if_neg (by decide), if_neg (by decide), if_neg (by decide), if_neg (by decide), if_neg (by decide), if_neg (by decide), if_pos (by decide), show x_m_allWeight_0 (f0, g) 0 = _ from m_allWeight (b := 0) (f0, g) lo (by omega) ML MR, c_I]; rfl
    | 8, _ => rw [if_neg (by decide), if_neg (by decide), if_neg (by decide), if_neg (by decide), if_neg (by decide), if_neg (by decide), if_neg (by decide), if_neg (by decide), if_pos (by decide), m_pairs f0 g lo ML, c_I]; rfl
    | 9, _ => rw [if_neg (by decide), if_neg (by decide), if_neg (by decide), if_neg (by decide), if_neg (by decide), if_neg (by decide), if_neg (by decide), if_neg (by decide), if_neg (by decide), if_pos (by decide)]; show rI (f0 0 47) _ = _; rw [M0.2.2.2.1.1]; rfl
    | 10, _ => rw [if_neg (by decide), if_neg (by decide), if_neg (by decide), if_neg (by decide), if_neg (by decide), if_neg (by decide), if_neg (by decide), if_neg (by decide), if_neg (by decide), if_neg (by decide), if_pos (by decide)]; show rI (f0 0 55) _ = _; rw [M0.2.2.2.2.1.1]; rfl
    | 11, _ => rw [if_neg (by decide), if_neg (by decide), if_neg (by decide), if_neg (by decide), if_neg (by decide), if_neg (by decide), if_neg (by decide), if_neg (by decide), if_neg (by decide), if_neg (by decide), if_neg (by decide), if_pos (by decide)]; show rI (f0 0 14) _ = _; rw [M0.2.2.2.2.2.2.1.1]; rfl
    | 12, _ => rw [if_neg (by decide), if_neg (by decide), if_neg (by decide), if_neg (by decide), if_neg (by decide), if_neg (by decide), if_neg (by decide), if_neg (by decide), if_neg (by decide), if_neg (by decide), if_neg (by decide), if_neg (by decide), if_pos (by decide), show (nI 12 - 12).toNatClampNeg = 0 by decide]; show rI (f0 8 0) _ = _; rw [M0.2.2.2.2.2.2.2.1 0 (by omega)]; rfl
    | 13, _ => rw [if_neg (by decide), if_neg (by decide), if_neg (by decide), if_neg (by decide), if_neg (by decide), if_neg (by decide), if_neg (by decide), if_neg (by decide), if_neg (by decide), if_neg (by decide), if_neg (by decide), if_neg (by decide), if_pos (by decide), show (nI 13 - 12).toNatClampNeg = 1 by decide]; show rI (f0 8 1) _ = _; rw [M0.2.2.2.2.2.2.2.1 1 (by omega)]; rfl
    | 14, _ => rw [if_neg (by decide), if_neg (by decide), if_neg (by decide), if_neg (by decide), if_neg (by decide), if_neg (by decide), if_neg (by decide), if_neg (by decide), if_neg (by decide), if_neg (by decide), if_neg (by decide), if_neg (by decide), if_pos (by decide), show (nI 14 - 12).toNatClampNeg = 2 by decide]; show rI (f0 8 2) _ = _; rw [M0.2.2.2.2.2.2.2.1 2 (by omega)]; rfl
