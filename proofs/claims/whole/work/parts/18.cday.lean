/-! the class's day -/
theorem CLd_of {Λ : mu_Ld} {f f' : Nat → Nat → Int32} (h : CLd Λ f) (e : ∀ p, 34 ≤ p → p ≤ 48 → p ≠ 46 → f' p = f p) : CLd Λ f' := by
  have rl : ∀ q o, (q = 44 ∨ q = 47) → cRl f q o → cRl f' q o := by
    intro q o hq ho
    cases o with
    | none => show f' q 0 = nI 0; rw [e q (by omega) (by omega) (by omega)]; exact ho
    | some l =>
      obtain ⟨k1, k2, k3, k4⟩ := ho
      refine ⟨?_, ?_, k3, fun i hi => ?_⟩
      · rw [e q (by omega) (by omega) (by omega)]; exact k1
      · rw [e q (by omega) (by omega) (by omega)]; exact k2
      · rw [e (q + 1) (by omega) (by omega) (by omega)]; exact k4 i hi
  obtain ⟨h1, h2, h3, h4, h5, h6, h7, h8⟩ := h
  refine ⟨?_, ?_, ?_, ?_, ?_, ?_, ?_, ?_⟩
  · rw [e 34 (by omega) (by omega) (by omega)]; exact h1
  · rw [e 34 (by omega) (by omega) (by omega)]; exact h2
  · rw [e 41 (by omega) (by omega) (by omega)]; exact h3
  · rw [e 42 (by omega) (by omega) (by omega)]; exact h4
  · rw [e 39 (by omega) (by omega) (by omega)]; exact h5
  · rw [e 40 (by omega) (by omega) (by omega)]; exact h6
  · exact rl _ _ (Or.inl rfl) h7
  · exact rl _ _ (Or.inr rfl) h8
theorem CRw_of {Λ : mu_Ld} {S : Nat} {r : mu_Rw} {f f' : Nat → Nat → Int32} (h : CRw Λ S r f) (e0 : f' S 1 = f S 1) (e : ∀ p, S < p → p ≤ S + 4 → f' p = f p) : CRw Λ S r f' := by
  obtain ⟨h1, h2, h3, h4, h5⟩ := h
  refine ⟨?_, ?_, ?_, ?_, ?_⟩
  · rw [e0]; exact h1
  · rw [e (S + 1) (by omega) (by omega)]; exact h2
  · rw [e (S + 2) (by omega) (by omega)]; exact h3
  · rw [e (S + 3) (by omega) (by omega)]; exact h4
  · rw [e (S + 4) (by omega) (by omega)]; exact h5
theorem CRw_uW {Λ : mu_Ld} {S : Nat} {r : mu_Rw} {f : Nat → Nat → Int32} (h : CRw Λ S r f) (x : Nat) (v : Int32) : CRw Λ S (wW r x v) (en_u1 f (S + 1) x v) := by
  obtain ⟨h1, h2, h3, h4, h5⟩ := h
  refine ⟨?_, fun y hy => ?_, fun y hy => ?_, fun y hy => ?_, fun y hy => ?_⟩
  · rw [u1_ne _ _ (by omega)]; exact h1
  · show _ = upd (rW r) x v y
    rw [u1_if, upd_if, h2 y hy]
  · rw [u1_ne _ _ (by omega)]; exact h3 y hy
  · rw [u1_ne _ _ (by omega)]; exact h4 y hy
  · rw [u1_ne _ _ (by omega)]; exact h5 y hy
theorem CRw_uS {Λ : mu_Ld} {S : Nat} {r : mu_Rw} {f : Nat → Nat → Int32} (h : CRw Λ S r f) (x : Nat) (v : Int32) : CRw Λ S (wS r x v) (en_u1 f (S + 2) x v) := by
  obtain ⟨h1, h2, h3, h4, h5⟩ := h
  refine ⟨?_, fun y hy => ?_, fun y hy => ?_, fun y hy => ?_, fun y hy => ?_⟩
  · rw [u1_ne _ _ (by omega)]; exact h1
  · rw [u1_ne _ _ (by omega)]; exact h2 y hy
  · show _ = upd (rS r) x v y
    rw [u1_if, upd_if, h3 y hy]
  · rw [u1_ne _ _ (by omega)]; exact h4 y hy
  · rw [u1_ne _ _ (by omega)]; exact h5 y hy
theorem CRw_uU {Λ : mu_Ld} {S : Nat} {r : mu_Rw} {f : Nat → Nat → Int32} (h : CRw Λ S r f) (x : Nat) (v : Int32) : CRw Λ S (wU r x v) (en_u1 f (S + 3) x v) := by
  obtain ⟨h1, h2, h3, h4, h5⟩ := h
  refine ⟨?_, fun y hy => ?_, fun y hy => ?_, fun y hy => ?_, fun y hy => ?_⟩
  · rw [u1_ne _ _ (by omega)]; exact h1
  · rw [u1_ne _ _ (by omega)]; exact h2 y hy
  · rw [u1_ne _ _ (by omega)]; exact h3 y hy
  · show _ = upd (rU r) x v y
    rw [u1_if, upd_if, h4 y hy]
  · rw [u1_ne _ _ (by omega)]; exact h5 y hy
theorem CRw_uT {Λ : mu_Ld} {S : Nat} {r : mu_Rw} {f : Nat → Nat → Int32} (h : CRw Λ S r f) (x : Nat) (v : Int32) : CRw Λ S (wT r x v) (en_u1 f (S + 4) x v) := by
  obtain ⟨h1, h2, h3, h4, h5⟩ := h
  refine ⟨?_, fun y hy => ?_, fun y hy => ?_, fun y hy => ?_, fun y hy => ?_⟩
  · rw [u1_ne _ _ (by omega)]; exact h1
  · rw [u1_ne _ _ (by omega)]; exact h2 y hy
  · rw [u1_ne _ _ (by omega)]; exact h3 y hy
  · rw [u1_ne _ _ (by omega)]; exact h4 y hy
  · show _ = upd (rT r) x v y
    rw [u1_if, upd_if, h5 y hy]
theorem CRw_uD {Λ : mu_Ld} {S : Nat} {r : mu_Rw} {f : Nat → Nat → Int32} (h : CRw Λ S r f) (v : Int32) : CRw Λ S (wD r v) (en_u1 f S 1 v) := by
  obtain ⟨h1, h2, h3, h4, h5⟩ := h
  refine ⟨?_, fun y hy => ?_, fun y hy => ?_, fun y hy => ?_, fun y hy => ?_⟩
  · rw [u1_at]; rfl
  · rw [u1_ne _ _ (by omega)]; exact h2 y hy
  · rw [u1_ne _ _ (by omega)]; exact h3 y hy
  · rw [u1_ne _ _ (by omega)]; exact h4 y hy
  · rw [u1_ne _ _ (by omega)]; exact h5 y hy
theorem CRw_same {Λ : mu_Ld} {S : Nat} {r : mu_Rw} {f : Nat → Nat → Int32} (h : CRw Λ S r f) (p : Nat) : CRw Λ S (wT r p (rT r p)) f := by
  obtain ⟨h1, h2, h3, h4, h5⟩ := h
  refine ⟨h1, h2, h3, h4, fun y hy => ?_⟩
  show _ = upd (rT r) p (rT r p) y
  rw [upd_if, h5 y hy]
  by_cases c : y = p
  · rw [if_pos c, c]
  · rw [if_neg c]
/-- what a day of the class may change -/
def CFr (S : Nat) (f f' : Nat → Nat → Int32) : Prop := (∀ p, (p < S ∨ S + 5 < p) → p ≠ 46 → p ≠ 49 → f' p = f p) ∧ (∀ i, i ≠ 1 → i ≠ 6 → i ≠ 7 → f' S i = f S i)
theorem CFr_refl (S : Nat) (f : Nat → Nat → Int32) : CFr S f f := ⟨fun _ _ _ _ => rfl, fun _ _ _ _ => rfl⟩
theorem CFr_trans {S : Nat} {f f' f'' : Nat → Nat → Int32} (h : CFr S f f') (h' : CFr S f' f'') : CFr S f f'' :=
  ⟨fun p a b c => (h'.1 p a b c).trans (h.1 p a b c), fun i a b c => (h'.2 i a b c).trans (h.2 i a b c)⟩
theorem CFr_u {S : Nat} (f : Nat → Nat → Int32) {q i : Nat} (v : Int32) (h1 : S < q) (h2 : q ≤ S + 5) : CFr S f (en_u1 f q i v) :=
  ⟨fun p a _ _ => u1_p _ _ _ (by omega), fun j _ _ _ => u1_ne _ _ (by omega)⟩
theorem CFr_uS {S : Nat} (f : Nat → Nat → Int32) {i : Nat} (v : Int32) (h1 : i = 1 ∨ i = 6 ∨ i = 7) : CFr S f (en_u1 f S i v) :=
  ⟨fun p a _ _ => u1_p _ _ _ (by omega), fun j _ _ _ => u1_ne _ _ (by omega)⟩
theorem CFr_p {S q : Nat} {f f' : Nat → Nat → Int32} (hS : 49 < S) (h : ∀ p, p ≠ q → f' p = f p) (hq : (S < q ∧ q ≤ S + 5) ∨ q = 46 ∨ q = 49) : CFr S f f' :=
  ⟨fun p a b c => h p (by omega), fun j _ _ _ => by rw [h S (by omega)]⟩
theorem CFr_L {Λ : mu_Ld} {S : Nat} {f f' : Nat → Nat → Int32} (hS : 49 < S) (h : CFr S f f') (hL : CLd Λ f) : CLd Λ f' :=
  CLd_of hL (fun p h1 h2 h3 => h.1 p (by omega) h3 (by omega))
theorem mu_bc0 {m : Nat} (hm : m < 256) : (mu_bc m = 0) = (m = 0) := by
  have h : ∀ k : Fin 256, (mu_bc k.val = 0 ↔ k.val = 0) := by decide +kernel
  exact propext (h ⟨m, hm⟩)
theorem mu_bcn {m n : Nat} (hm : m < 2 ^ n) (hn : n ≤ 8) : mu_up (fun p a => a + (m.testBit p).toNat) 0 n = mu_bc m := by
  have key : ∀ k, n + k ≤ 8 → mu_up (fun p a => a + (m.testBit p).toNat) 0 n = mu_up (fun p a => a + (m.testBit p).toNat) 0 (n + k) := by
    intro k
    induction k with
    | zero => intro _; rfl
    | succ k ih =>
      intro hk
      rw [← Nat.add_assoc, mu_upS, ← ih (by omega), Nat.testBit_lt_two_pow (Nat.lt_of_lt_of_le hm (Nat.pow_le_pow_right (by omega) (by omega)))]
      rfl
  have := key (8 - n) (by omega)
  rw [this, show n + (8 - n) = 8 by omega]
  rfl
theorem sTs_U (m : Nat) (r : mu_Rw) (n : Nat) : rU (mu_up (fun p q => if m.testBit p then sTi q p else q) r n) = rU r :=
  mu_up_inv (g := fun p q => if m.testBit p then sTi q p else q) (fun _ q => rU q = rU r) r rfl n (by
    intro p q hp hq
    split
    · exact hq
    · exact hq)
theorem c_keep_67_0 (f : Nat → Nat → Int32) (g : Nat → Nat → Int64) (v : Int32) : x_st_keepValue_p67_0 (f, g) (-1) v = rV (en_u1 f 72 0 v, g) := by
  rw [e_st_keepValue_p67_0, if_pos (by decide), show ((-1 : Int32) - (-1)).toNatClampNeg = 0 by decide]; rfl
theorem c_keep_67_1 (f : Nat → Nat → Int32) (g : Nat → Nat → Int64) (v : Int32) : x_st_keepValue_p67_0 (f, g) (-2) v = rV (en_u1 f 72 1 v, g) := by
  rw [e_st_keepValue_p67_0, if_pos (by decide), show ((-1 : Int32) - (-2)).toNatClampNeg = 1 by decide]; rfl
theorem c_keep_67_2 (f : Nat → Nat → Int32) (g : Nat → Nat → Int64) (v : Int32) : x_st_keepValue_p67_0 (f, g) (-3) v = rV (en_u1 f 72 2 v, g) := by
  rw [e_st_keepValue_p67_0, if_pos (by decide), show ((-1 : Int32) - (-3)).toNatClampNeg = 2 by decide]; rfl
theorem c_keep_67_3 (f : Nat → Nat → Int32) (g : Nat → Nat → Int64) (v : Int32) : x_st_keepValue_p67_0 (f, g) (-4) v = rV (en_u1 f 72 3 v, g) := by
  rw [e_st_keepValue_p67_0, if_pos (by decide), show ((-1 : Int32) - (-4)).toNatClampNeg = 3 by decide]; rfl
theorem c_keep_67_4 (f : Nat → Nat → Int32) (g : Nat → Nat → Int64) (v : Int32) : x_st_keepValue_p67_0 (f, g) (-5) v = rV (en_u1 f 72 4 v, g) := by
  rw [e_st_keepValue_p67_0, if_pos (by decide), show ((-1 : Int32) - (-5)).toNatClampNeg = 4 by decide]; rfl
theorem c_keep_67_5 (f : Nat → Nat → Int32) (g : Nat → Nat → Int64) (v : Int32) : x_st_keepValue_p67_0 (f, g) (-6) v = rV (en_u1 f 72 5 v, g) := by
  rw [e_st_keepValue_p67_0, if_pos (by decide), show ((-1 : Int32) - (-6)).toNatClampNeg = 5 by decide]; rfl
theorem c_keep_67_6 (f : Nat → Nat → Int32) (g : Nat → Nat → Int64) (v : Int32) : x_st_keepValue_p67_0 (f, g) (-7) v = rV (en_u1 f 72 6 v, g) := by
  rw [e_st_keepValue_p67_0, if_pos (by decide), show ((-1 : Int32) - (-7)).toNatClampNeg = 6 by decide]; rfl
theorem c_val_67_3 (f : Nat → Nat → Int32) (g : Nat → Nat → Int64) : x_st_valueOf_p67_0 (f, g) (-4) = rI (f 72 3) (f, g) := by
  rw [e_st_valueOf_p67_0, if_pos (by decide), show ((-1 : Int32) - (-4)).toNatClampNeg = 3 by decide]; rfl
theorem c_val_67_4 (f : Nat → Nat → Int32) (g : Nat → Nat → Int64) : x_st_valueOf_p67_0 (f, g) (-5) = rI (f 72 4) (f, g) := by
  rw [e_st_valueOf_p67_0, if_pos (by decide), show ((-1 : Int32) - (-5)).toNatClampNeg = 4 by decide]; rfl
theorem c_survey_67 {Λ : mu_Ld} {r : mu_Rw} (f : Nat → Nat → Int32) (g : Nat → Nat → Int64) (lo : lOK Λ) (hL : CLd Λ f) (hR : CRw Λ 67 r f) (ro : rOK Λ r) {x : Nat} (hx : x < lB Λ) : ∃ f', x_st_survey_p67_0 (f, g) (nI x) = rV (f', g) ∧ (∀ p, p ≠ 72 → f' p = f p) ∧ ∀ i, i < 7 → f' 72 i = sV Λ r x i := by
  have l1 := lo.1
  have l2 := lo.2.1
  have hP : f 34 9 = nI (lP Λ) := hL.2.1
  have h8 := sH8 r lo (nI x)
  rw [e_st_survey_p67_0]
  have h := mu_loop (fun (a : Nat × Int32 × Int32 × Int32) i => x_st_survey_p67_14 (f, g) (nI x) (nI a.1) a.2.1 a.2.2.1 a.2.2.2 i) (fun p => (mu_up (fun p a => a + ((sH Λ r (nI x)).testBit p).toNat) 0 p, mu_up (fun p a => if (sH Λ r (nI x)).testBit p then a + sM Λ r p else a) (nI 0) p, sTl Λ (sH Λ r (nI x)) p, sSt Λ (sH Λ r (nI x)) (nI 9) p)) (lP Λ) (by
    intro p hp
    have hU : f 70 p = rU r p := hR.2.2.2.1 p hp
    have hH : f 42 p = lH Λ p := hL.2.2.2.1 p hp
    show x_st_survey_p67_14 (f, g) (nI x) (nI (mu_up (fun p a => a + ((sH Λ r (nI x)).testBit p).toNat) 0 p)) (mu_up (fun p a => if (sH Λ r (nI x)).testBit p then a + sM Λ r p else a) (nI 0) p) (sTl Λ (sH Λ r (nI x)) p) (sSt Λ (sH Λ r (nI x)) (nI 9) p) (nI p) = x_st_survey_p67_14 (f, g) (nI x) (nI (mu_up (fun p a => a + ((sH Λ r (nI x)).testBit p).toNat) 0 (p + 1))) (mu_up (fun p a => if (sH Λ r (nI x)).testBit p then a + sM Λ r p else a) (nI 0) (p + 1)) (sTl Λ (sH Λ r (nI x)) (p + 1)) (sSt Λ (sH Λ r (nI x)) (nI 9) (p + 1)) (nI (p + 1))
    rw [e_st_survey_p67_14]
    rw [c_mightOf_67 (r := r) (f, g) lo hL hR hp]
    simp (disch := omega) only [q_0, q_1, q_2, q_3, q_4, q_5, q_6, q_7, q_8, q_9, q_10, q_11, q_12, q_13, q_14, q_15, q_16, q_17, q_18, q_19, q_20, q_21, q_22, q_23, q_24, q_29, q_30, q_31, q_36, q_42, q_50, q_40, q_48, q_96, q_97, q_99, q_100, q_255, q_256, q_700, q_999, q_1160, q_1400, q_99999, q_m1, hP, q_leI, nI_add, q_in, q_clamp, if_true, hU, hH, c_I]
    rw [if_neg (by omega)]
    simp only [sTl, sSt, mu_upS]
    rw [sH_tb r (nI x) hp]
    by_cases c : rU r p = nI x
    · rw [if_pos c, decide_eq_true c, if_pos rfl, if_pos rfl, if_pos rfl]
      rfl
    · rw [if_neg c, decide_eq_false c, if_neg (by decide), if_neg (by decide), if_neg (by decide)]
      rfl)
  have hW : f 68 x = rW r x := hR.2.1 x hx
  have hS : f 69 x = rS r x := hR.2.2.1 x hx
  have hD : f 67 1 = rD r := hR.1
  obtain ⟨s, hs, es⟩ := ro.2.1 x hx
  have hlt := sH_lt (Λ := Λ) r (nI x)
  have hz := mu_bc0 h8
  have hbl := mu_bc_le (sH Λ r (nI x))
  refine ⟨en_u1 (en_u1 (en_u1 (en_u1 (en_u1 (en_u1 (en_u1 f 72 0 (rW r x)) 72 1 (nI (mu_bc (sH Λ r (nI x))))) 72 2 (sMt Λ r (sH Λ r (nI x)))) 72 3 (sLn Λ (sH Λ r (nI x)))) 72 4 (tb (sB Λ r x))) 72 5 (sTo Λ r x)) 72 6 (rD r), ?_, fun p hp => by simp only [u1_p _ _ _ hp], ?_⟩
  · refine Eq.trans h ?_
    show x_st_survey_p67_14 (f, g) (nI x) (nI (mu_up (fun p a => a + ((sH Λ r (nI x)).testBit p).toNat) 0 (lP Λ))) (sMt Λ r (sH Λ r (nI x))) (sTl Λ (sH Λ r (nI x)) (lP Λ)) (sSt Λ (sH Λ r (nI x)) (nI 9) (lP Λ)) (nI (lP Λ)) = _
    rw [mu_bcn hlt l2, e_st_survey_p67_14, if_pos (q_le hP), if_pos (by rw [q_in (by omega) (by omega)]; trivial), c_keep_67_0, c_V, c_keep_67_1, c_V, c_keep_67_2, c_V]
    rw [q_clamp (by omega), show (f, g).1 68 x = rW r x from hW]
    have j1 : ∀ τ : en_S, (if nI (mu_bc (sH Λ r (nI x))) = 0 then x_st_survey_p67_130 τ (nI x) (nI (mu_bc (sH Λ r (nI x)))) (sMt Λ r (sH Λ r (nI x))) 0 (-4) else x_st_survey_p67_130 τ (nI x) (nI (mu_bc (sH Λ r (nI x)))) (sMt Λ r (sH Λ r (nI x))) (sTl Λ (sH Λ r (nI x)) (lP Λ) - sSt Λ (sH Λ r (nI x)) (nI 9) (lP Λ)) (-4)) = x_st_survey_p67_130 τ (nI x) (nI (mu_bc (sH Λ r (nI x)))) (sMt Λ r (sH Λ r (nI x))) (sLn Λ (sH Λ r (nI x))) (-4) := by
      intro τ
      unfold sLn
      by_cases c : sH Λ r (nI x) = 0
      · rw [if_pos (by rw [(hz ▸ c : mu_bc (sH Λ r (nI x)) = 0)]; rfl), if_pos c]; rfl
      · rw [if_neg (by rw [q_0, q_eqI (by omega) (by omega), hz]; exact c), if_neg c]
    rw [j1, e_st_survey_p67_130, c_keep_67_3, c_V]
    have j2 : ∀ τ : en_S, τ.1 68 x = rW r x → (if nI (mu_bc (sH Λ r (nI x))) ≤ 0 then x_st_survey_p67_155 τ (nI x) 0 (-5) else if en_in (nI x) 6 then if sMt Λ r (sH Λ r (nI x)) < τ.1 68 (nI x).toNatClampNeg then x_st_survey_p67_155 τ (nI x) 0 (-5) else x_st_survey_p67_155 τ (nI x) 1 (-5) else none) = x_st_survey_p67_155 τ (nI x) (tb (sB Λ r x)) (-5) := by
      intro τ hτ
      simp (disch := omega) only [q_clamp, hτ]
      unfold sB sBr
      by_cases c : sH Λ r (nI x) = 0
      · rw [if_pos (by rw [(hz ▸ c : mu_bc (sH Λ r (nI x)) = 0)]; decide), decide_eq_false (fun k => k.1 c)]; rfl
      · rw [if_neg (by rw [q_0, q_leI (by omega) (by omega)]; have : ¬ mu_bc (sH Λ r (nI x)) = 0 := by rw [hz]; exact c
                       omega), if_pos (by rw [q_in (by omega) (by omega)]; trivial)]
        by_cases c2 : sMt Λ r (sH Λ r (nI x)) < rW r x
        · rw [if_pos c2, decide_eq_false (fun k => k.2 c2)]; rfl
        · rw [if_neg c2, decide_eq_true ⟨c, c2⟩]; rfl
    rw [j2 _ (by simp (disch := omega) only [u1_ne]; exact hW), e_st_survey_p67_155, c_keep_67_4, c_V, if_pos (by rw [q_in (by omega) (by omega)]; trivial), q_clamp (by omega)]
    have L5 : CLd Λ (en_u1 (en_u1 (en_u1 (en_u1 (en_u1 f 72 0 (rW r x)) 72 1 (nI (mu_bc (sH Λ r (nI x))))) 72 2 (sMt Λ r (sH Λ r (nI x)))) 72 3 (sLn Λ (sH Λ r (nI x)))) 72 4 (tb (sB Λ r x))) := CLd_of hL (fun p h1 h2 h3 => by simp (disch := omega) only [u1_p])
    have hS5 : (en_u1 (en_u1 (en_u1 (en_u1 (en_u1 f 72 0 (rW r x)) 72 1 (nI (mu_bc (sH Λ r (nI x))))) 72 2 (sMt Λ r (sH Λ r (nI x)))) 72 3 (sLn Λ (sH Λ r (nI x)))) 72 4 (tb (sB Λ r x))) 69 x = nI s := by
      simp (disch := omega) only [u1_ne]; rw [hS, es]
    have eT : sTo Λ r x = lT Λ (6 * x + s) := by unfold sTo; rw [es, q_clamp (by have := (lo.2.2.1 x hx).2; omega)]
    dsimp only
    rw [hS5, c_townAt _ lo L5 hx hs, c_I, c_keep_67_5, c_V, c_keep_67_6, c_V]
    rw [← eT]
    have hD7 : (en_u1 (en_u1 (en_u1 (en_u1 (en_u1 (en_u1 f 72 0 (rW r x)) 72 1 (nI (mu_bc (sH Λ r (nI x))))) 72 2 (sMt Λ r (sH Λ r (nI x)))) 72 3 (sLn Λ (sH Λ r (nI x)))) 72 4 (tb (sB Λ r x))) 72 5 (sTo Λ r x)) 67 1 = rD r := by
      simp (disch := omega) only [u1_ne]; exact hD
    dsimp only
    rw [hD7]
    rfl
  · intro i hi
    match i, hi with
    | 0, _ => simp (disch := omega) only [u1_ne, u1_at]; rfl
    | 1, _ => simp (disch := omega) only [u1_ne, u1_at]; rfl
    | 2, _ => simp (disch := omega) only [u1_ne, u1_at]; rfl
    | 3, _ => simp (disch := omega) only [u1_ne, u1_at]; rfl
    | 4, _ => simp (disch := omega) only [u1_ne, u1_at]; rfl
    | 5, _ => simp (disch := omega) only [u1_ne, u1_at]; rfl
    | 6, _ => simp (disch := omega) only [u1_ne, u1_at]; rfl
theorem c_keep_73_0 (f : Nat → Nat → Int32) (g : Nat → Nat → Int64) (v : Int32) : x_st_keepValue_p73_0 (f, g) (-1) v = rV (en_u1 f 78 0 v, g) := by
  rw [e_st_keepValue_p73_0, if_pos (by decide), show ((-1 : Int32) - (-1)).toNatClampNeg = 0 by decide]; rfl
theorem c_keep_73_1 (f : Nat → Nat → Int32) (g : Nat → Nat → Int64) (v : Int32) : x_st_keepValue_p73_0 (f, g) (-2) v = rV (en_u1 f 78 1 v, g) := by
  rw [e_st_keepValue_p73_0, if_pos (by decide), show ((-1 : Int32) - (-2)).toNatClampNeg = 1 by decide]; rfl
theorem c_keep_73_2 (f : Nat → Nat → Int32) (g : Nat → Nat → Int64) (v : Int32) : x_st_keepValue_p73_0 (f, g) (-3) v = rV (en_u1 f 78 2 v, g) := by
  rw [e_st_keepValue_p73_0, if_pos (by decide), show ((-1 : Int32) - (-3)).toNatClampNeg = 2 by decide]; rfl
theorem c_keep_73_3 (f : Nat → Nat → Int32) (g : Nat → Nat → Int64) (v : Int32) : x_st_keepValue_p73_0 (f, g) (-4) v = rV (en_u1 f 78 3 v, g) := by
  rw [e_st_keepValue_p73_0, if_pos (by decide), show ((-1 : Int32) - (-4)).toNatClampNeg = 3 by decide]; rfl
theorem c_keep_73_4 (f : Nat → Nat → Int32) (g : Nat → Nat → Int64) (v : Int32) : x_st_keepValue_p73_0 (f, g) (-5) v = rV (en_u1 f 78 4 v, g) := by
  rw [e_st_keepValue_p73_0, if_pos (by decide), show ((-1 : Int32) - (-5)).toNatClampNeg = 4 by decide]; rfl
theorem c_keep_73_5 (f : Nat → Nat → Int32) (g : Nat → Nat → Int64) (v : Int32) : x_st_keepValue_p73_0 (f, g) (-6) v = rV (en_u1 f 78 5 v, g) := by
  rw [e_st_keepValue_p73_0, if_pos (by decide), show ((-1 : Int32) - (-6)).toNatClampNeg = 5 by decide]; rfl
theorem c_keep_73_6 (f : Nat → Nat → Int32) (g : Nat → Nat → Int64) (v : Int32) : x_st_keepValue_p73_0 (f, g) (-7) v = rV (en_u1 f 78 6 v, g) := by
  rw [e_st_keepValue_p73_0, if_pos (by decide), show ((-1 : Int32) - (-7)).toNatClampNeg = 6 by decide]; rfl
theorem c_val_73_3 (f : Nat → Nat → Int32) (g : Nat → Nat → Int64) : x_st_valueOf_p73_0 (f, g) (-4) = rI (f 78 3) (f, g) := by
  rw [e_st_valueOf_p73_0, if_pos (by decide), show ((-1 : Int32) - (-4)).toNatClampNeg = 3 by decide]; rfl
theorem c_val_73_4 (f : Nat → Nat → Int32) (g : Nat → Nat → Int64) : x_st_valueOf_p73_0 (f, g) (-5) = rI (f 78 4) (f, g) := by
  rw [e_st_valueOf_p73_0, if_pos (by decide), show ((-1 : Int32) - (-5)).toNatClampNeg = 4 by decide]; rfl
theorem c_survey_73 {Λ : mu_Ld} {r : mu_Rw} (f : Nat → Nat → Int32) (g : Nat → Nat → Int64) (lo : lOK Λ) (hL : CLd Λ f) (hR : CRw Λ 73 r f) (ro : rOK Λ r) {x : Nat} (hx : x < lB Λ) : ∃ f', x_st_survey_p73_0 (f, g) (nI x) = rV (f', g) ∧ (∀ p, p ≠ 78 → f' p = f p) ∧ ∀ i, i < 7 → f' 78 i = sV Λ r x i := by
  have l1 := lo.1
  have l2 := lo.2.1
  have hP : f 34 9 = nI (lP Λ) := hL.2.1
  have h8 := sH8 r lo (nI x)
  rw [e_st_survey_p73_0]
  have h := mu_loop (fun (a : Nat × Int32 × Int32 × Int32) i => x_st_survey_p73_14 (f, g) (nI x) (nI a.1) a.2.1 a.2.2.1 a.2.2.2 i) (fun p => (mu_up (fun p a => a + ((sH Λ r (nI x)).testBit p).toNat) 0 p, mu_up (fun p a => if (sH Λ r (nI x)).testBit p then a + sM Λ r p else a) (nI 0) p, sTl Λ (sH Λ r (nI x)) p, sSt Λ (sH Λ r (nI x)) (nI 9) p)) (lP Λ) (by
    intro p hp
    have hU : f 76 p = rU r p := hR.2.2.2.1 p hp
    have hH : f 42 p = lH Λ p := hL.2.2.2.1 p hp
    show x_st_survey_p73_14 (f, g) (nI x) (nI (mu_up (fun p a => a + ((sH Λ r (nI x)).testBit p).toNat) 0 p)) (mu_up (fun p a => if (sH Λ r (nI x)).testBit p then a + sM Λ r p else a) (nI 0) p) (sTl Λ (sH Λ r (nI x)) p) (sSt Λ (sH Λ r (nI x)) (nI 9) p) (nI p) = x_st_survey_p73_14 (f, g) (nI x) (nI (mu_up (fun p a => a + ((sH Λ r (nI x)).testBit p).toNat) 0 (p + 1))) (mu_up (fun p a => if (sH Λ r (nI x)).testBit p then a + sM Λ r p else a) (nI 0) (p + 1)) (sTl Λ (sH Λ r (nI x)) (p + 1)) (sSt Λ (sH Λ r (nI x)) (nI 9) (p + 1)) (nI (p + 1))
    rw [e_st_survey_p73_14]
    rw [c_mightOf_73 (r := r) (f, g) lo hL hR hp]
    simp (disch := omega) only [q_0, q_1, q_2, q_3, q_4, q_5, q_6, q_7, q_8, q_9, q_10, q_11, q_12, q_13, q_14, q_15, q_16, q_17, q_18, q_19, q_20, q_21, q_22, q_23, q_24, q_29, q_30, q_31, q_36, q_42, q_50, q_40, q_48, q_96, q_97, q_99, q_100, q_255, q_256, q_700, q_999, q_1160, q_1400, q_99999, q_m1, hP, q_leI, nI_add, q_in, q_clamp, if_true, hU, hH, c_I]
    rw [if_neg (by omega)]
    simp only [sTl, sSt, mu_upS]
    rw [sH_tb r (nI x) hp]
    by_cases c : rU r p = nI x
    · rw [if_pos c, decide_eq_true c, if_pos rfl, if_pos rfl, if_pos rfl]
      rfl
    · rw [if_neg c, decide_eq_false c, if_neg (by decide), if_neg (by decide), if_neg (by decide)]
      rfl)
  have hW : f 74 x = rW r x := hR.2.1 x hx
  have hS : f 75 x = rS r x := hR.2.2.1 x hx
  have hD : f 73 1 = rD r := hR.1
  obtain ⟨s, hs, es⟩ := ro.2.1 x hx
  have hlt := sH_lt (Λ := Λ) r (nI x)
  have hz := mu_bc0 h8
  have hbl := mu_bc_le (sH Λ r (nI x))
  refine ⟨en_u1 (en_u1 (en_u1 (en_u1 (en_u1 (en_u1 (en_u1 f 78 0 (rW r x)) 78 1 (nI (mu_bc (sH Λ r (nI x))))) 78 2 (sMt Λ r (sH Λ r (nI x)))) 78 3 (sLn Λ (sH Λ r (nI x)))) 78 4 (tb (sB Λ r x))) 78 5 (sTo Λ r x)) 78 6 (rD r), ?_, fun p hp => by simp only [u1_p _ _ _ hp], ?_⟩
  · refine Eq.trans h ?_
    show x_st_survey_p73_14 (f, g) (nI x) (nI (mu_up (fun p a => a + ((sH Λ r (nI x)).testBit p).toNat) 0 (lP Λ))) (sMt Λ r (sH Λ r (nI x))) (sTl Λ (sH Λ r (nI x)) (lP Λ)) (sSt Λ (sH Λ r (nI x)) (nI 9) (lP Λ)) (nI (lP Λ)) = _
    rw [mu_bcn hlt l2, e_st_survey_p73_14, if_pos (q_le hP), if_pos (by rw [q_in (by omega) (by omega)]; trivial), c_keep_73_0, c_V, c_keep_73_1, c_V, c_keep_73_2, c_V]
    rw [q_clamp (by omega), show (f, g).1 74 x = rW r x from hW]
    have j1 : ∀ τ : en_S, (if nI (mu_bc (sH Λ r (nI x))) = 0 then x_st_survey_p73_130 τ (nI x) (nI (mu_bc (sH Λ r (nI x)))) (sMt Λ r (sH Λ r (nI x))) 0 (-4) else x_st_survey_p73_130 τ (nI x) (nI (mu_bc (sH Λ r (nI x)))) (sMt Λ r (sH Λ r (nI x))) (sTl Λ (sH Λ r (nI x)) (lP Λ) - sSt Λ (sH Λ r (nI x)) (nI 9) (lP Λ)) (-4)) = x_st_survey_p73_130 τ (nI x) (nI (mu_bc (sH Λ r (nI x)))) (sMt Λ r (sH Λ r (nI x))) (sLn Λ (sH Λ r (nI x))) (-4) := by
      intro τ
      unfold sLn
      by_cases c : sH Λ r (nI x) = 0
      · rw [if_pos (by rw [(hz ▸ c : mu_bc (sH Λ r (nI x)) = 0)]; rfl), if_pos c]; rfl
      · rw [if_neg (by rw [q_0, q_eqI (by omega) (by omega), hz]; exact c), if_neg c]
    rw [j1, e_st_survey_p73_130, c_keep_73_3, c_V]
    have j2 : ∀ τ : en_S, τ.1 74 x = rW r x → (if nI (mu_bc (sH Λ r (nI x))) ≤ 0 then x_st_survey_p73_155 τ (nI x) 0 (-5) else if en_in (nI x) 6 then if sMt Λ r (sH Λ r (nI x)) < τ.1 74 (nI x).toNatClampNeg then x_st_survey_p73_155 τ (nI x) 0 (-5) else x_st_survey_p73_155 τ (nI x) 1 (-5) else none) = x_st_survey_p73_155 τ (nI x) (tb (sB Λ r x)) (-5) := by
      intro τ hτ
      simp (disch := omega) only [q_clamp, hτ]
      unfold sB sBr
      by_cases c : sH Λ r (nI x) = 0
      · rw [if_pos (by rw [(hz ▸ c : mu_bc (sH Λ r (nI x)) = 0)]; decide), decide_eq_false (fun k => k.1 c)]; rfl
      · rw [if_neg (by rw [q_0, q_leI (by omega) (by omega)]; have : ¬ mu_bc (sH Λ r (nI x)) = 0 := by rw [hz]; exact c
                       omega), if_pos (by rw [q_in (by omega) (by omega)]; trivial)]
        by_cases c2 : sMt Λ r (sH Λ r (nI x)) < rW r x
        · rw [if_pos c2, decide_eq_false (fun k => k.2 c2)]; rfl
        · rw [if_neg c2, decide_eq_true ⟨c, c2⟩]; rfl
    rw [j2 _ (by simp (disch := omega) only [u1_ne]; exact hW), e_st_survey_p73_155, c_keep_73_4, c_V, if_pos (by rw [q_in (by omega) (by omega)]; trivial), q_clamp (by omega)]
    have L5 : CLd Λ (en_u1 (en_u1 (en_u1 (en_u1 (en_u1 f 78 0 (rW r x)) 78 1 (nI (mu_bc (sH Λ r (nI x))))) 78 2 (sMt Λ r (sH Λ r (nI x)))) 78 3 (sLn Λ (sH Λ r (nI x)))) 78 4 (tb (sB Λ r x))) := CLd_of hL (fun p h1 h2 h3 => by simp (disch := omega) only [u1_p])
    have hS5 : (en_u1 (en_u1 (en_u1 (en_u1 (en_u1 f 78 0 (rW r x)) 78 1 (nI (mu_bc (sH Λ r (nI x))))) 78 2 (sMt Λ r (sH Λ r (nI x)))) 78 3 (sLn Λ (sH Λ r (nI x)))) 78 4 (tb (sB Λ r x))) 75 x = nI s := by
      simp (disch := omega) only [u1_ne]; rw [hS, es]
    have eT : sTo Λ r x = lT Λ (6 * x + s) := by unfold sTo; rw [es, q_clamp (by have := (lo.2.2.1 x hx).2; omega)]
    dsimp only
    rw [hS5, c_townAt _ lo L5 hx hs, c_I, c_keep_73_5, c_V, c_keep_73_6, c_V]
    rw [← eT]
    have hD7 : (en_u1 (en_u1 (en_u1 (en_u1 (en_u1 (en_u1 f 78 0 (rW r x)) 78 1 (nI (mu_bc (sH Λ r (nI x))))) 78 2 (sMt Λ r (sH Λ r (nI x)))) 78 3 (sLn Λ (sH Λ r (nI x)))) 78 4 (tb (sB Λ r x))) 78 5 (sTo Λ r x)) 73 1 = rD r := by
      simp (disch := omega) only [u1_ne]; exact hD
    dsimp only
    rw [hD7]
    rfl
  · intro i hi
    match i, hi with
    | 0, _ => simp (disch := omega) only [u1_ne, u1_at]; rfl
    | 1, _ => simp (disch := omega) only [u1_ne, u1_at]; rfl
    | 2, _ => simp (disch := omega) only [u1_ne, u1_at]; rfl
    | 3, _ => simp (disch := omega) only [u1_ne, u1_at]; rfl
    | 4, _ => simp (disch := omega) only [u1_ne, u1_at]; rfl
    | 5, _ => simp (disch := omega) only [u1_ne, u1_at]; rfl
    | 6, _ => simp (disch := omega) only [u1_ne, u1_at]; rfl

