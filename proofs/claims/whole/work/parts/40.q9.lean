/-! years, second: written by q9.py -/

def yR (Λ : mu_Ld) (H : mu_Rw × Int32 → mu_Rw × Int32) (r : mu_Rw) (s : Int32) (n : Nat) : mu_Rw × Int32 := mu_up (fun _ q => (sDy Λ (H q).1, (H q).2)) (r, s) n
theorem rOK_yR {Λ : mu_Ld} {H : mu_Rw × Int32 → mu_Rw × Int32} {r : mu_Rw} (lo : lOK Λ) (hO : ∀ q : mu_Rw × Int32, rOK Λ q.1 → rOK Λ (H q).1) (h : rOK Λ r) (s : Int32) (n : Nat) : rOK Λ (yR Λ H r s n).1 := mu_up_inv (fun _ (q : mu_Rw × Int32) => rOK Λ q.1) (r, s) h n (fun k q _ hq => rOK_sDy lo (hO q hq))
def yF (Λ : mu_Ld) (H : mu_Rw × Int32 → mu_Rw × Int32) (r : mu_Rw) (s : Int32) (n : Nat) : Nat := mu_up (fun k a => a + mu_bc (sFe Λ (H (yR Λ H r s k)).1)) 0 n
theorem yR_S (Λ : mu_Ld) (H : mu_Rw × Int32 → mu_Rw × Int32) (r : mu_Rw) (s : Int32) (n : Nat) : yR Λ H r s (n + 1) = (sDy Λ (H (yR Λ H r s n)).1, (H (yR Λ H r s n)).2) := rfl

theorem q_yearsH {A : mu_A} {f : Nat → Nat → Int32} (ok : AOK A) (hM : MRel A f) (hC : CRel A f) (v1 v2 v3 : Int32) (H : mu_Rw × Int32 → mu_Rw × Int32) (hO : ∀ q : mu_Rw × Int32, rOK (aL A) q.1 → rOK (aL A) (H q).1) (hc : ∀ (f : Nat → Nat → Int32) (g : Nat → Nat → Int64) (r : mu_Rw), CLd (aL A) f → CRw (aL A) 73 r f → ∃ f', x_b_drawAct_0 (f, g) = rV (f', g) ∧ CRw (aL A) 73 (H (r, f 104 0)).1 f' ∧ f' 104 0 = (H (r, f 104 0)).2 ∧ (∀ p, (p < 73 ∨ 78 < p) → p ≠ 104 → f' p = f p)) (hm : ∀ (f : Nat → Nat → Int32) (g : Nat → Nat → Int64) (r : mu_Rw), MLd (aL A) f → MRw (aL A) 29 r f → ∃ f', x_m_happens_0 (f, g) = rV (f', g) ∧ MRw (aL A) 29 (H (r, f 0 59)).1 f' ∧ f' 0 59 = (H (r, f 0 59)).2 ∧ (∀ p, p ≠ 0 → p ≠ 18 → f' p = f p) ∧ (∀ i, i ≠ 59 → f' 0 i = f 0 i) ∧ (∀ i, i < 29 → f' 18 i = f 18 i)) : Qn f (fun σ => x_b_years_0 σ v1 v2 v3) (fun σ => x_m_years_0 σ v1 v2 v3) (id) := by
  have lo := ok.1
  have go := ok.2.1
  have ro := ok.2.2.2.1
  have l1 := lo.1
  have l2 := lo.2.1
  have g8 := go.2.1
  have cB := hC.1.1
  have cP := hC.1.2.1
  have cT := hC.2.1.1
  have L := hC.1
  have R := hC.2.2.1
  rcases ok_badR v3 (a := 0) (b := 2) (by omega) (by omega) with bd0 | ⟨w, _, hw, rfl⟩
  · refine Qn_err ok hM 1 (by omega) ?_ ?_
    · intro g
      show x_b_years_0 (f, g) v1 v2 v3 = _
      rw [e_b_years_0, show x_b_checkWhat_0 (f, g) v3 2 = _ from c_checkWhatN (f, g) (b := 2) bd0, c_Vx]
    · intro f0 f2 g M0 h0 e0
      show x_m_years_0 (f2, g) v1 v2 v3 = _
      rw [e_m_years_0]
      dsimp only
      rw [← e0, show x_m_isWhat_0 (f0, g) v3 2 = _ from m_isWhatN f0 g (b := 2) h0 bd0, c_I, if_pos (by decide)]
      rfl
  rcases ok_badR v2 (a := 0) (b := 40) (by omega) (by omega) with bd1 | ⟨n, kn, hn, rfl⟩
  · refine Qn_err ok hM 2 (by omega) ?_ ?_
    · intro g
      show x_b_years_0 (f, g) v1 v2 (nI w) = _
      rw [e_b_years_0, show x_b_checkWhat_0 (f, g) (nI w) 2 = _ from c_checkWhatY (f, g) (b := 2) hw (by omega), c_V, show x_b_checkRange_0 (f, g) v2 0 40 = _ from c_checkRangeN (f, g) (a := 0) (b := 40) bd1, c_Vx]
    · intro f0 f2 g M0 h0 e0
      show x_m_years_0 (f2, g) v1 v2 (nI w) = _
      rw [e_m_years_0]
      dsimp only
      rw [← e0, show x_m_isWhat_0 (f0, g) (nI w) 2 = _ from m_isWhatY f0 g (b := 2) h0 hw (by omega), c_I, if_neg (by decide), show x_m_isDays_0 (f0, g) v2 0 2 = _ from m_isDaysN f0 g (a := 0) (w := 2) h0 bd1 (by omega), c_I, if_pos (by decide)]
      rfl
  refine Qn_val ok hM rfl (if w = 0 then nI (yF (aL A) H (aR A) v1 n) else if w = 1 then mu_up (fun x a => a + rW (yR (aL A) H (aR A) v1 n).1 x) (nI 0) (lB (aL A)) else nI (mu_bc (mu_mk (fun x => sB (aL A) (yR (aL A) H (aR A) v1 n).1 x) (lB (aL A))))) ?_ ?_
  · intro g
    show ∃ f', x_b_years_0 (f, g) v1 (nI n) (nI w) = rI _ (f', g) ∧ _
    rw [e_b_years_0, show x_b_checkWhat_0 (f, g) (nI w) 2 = _ from c_checkWhatY (f, g) (b := 2) hw (by omega), c_V, show x_b_checkRange_0 (f, g) (nI n) 0 40 = _ from c_checkRangeY (f, g) (a := 0) (b := 40) kn hn (by omega), c_V]
    obtain ⟨f1, e1, R1, g1, g2⟩ := c_copy73 f g lo R
    rw [e1, c_V]
    have L1 : CLd (aL A) (en_u1 f1 104 0 v1) := CLd_of L (fun p _ _ _ => by rw [u1_p _ _ _ (by omega)]; exact g1 p (by omega))
    have R1' : CRw (aL A) 73 (aR A) (en_u1 f1 104 0 v1) := CRw_of R1 (u1_ne _ _ (by omega)) (fun p _ _ => u1_p _ _ _ (by omega))
    obtain ⟨a, e2, R2, s2, F2, c2⟩ := mu_inv (fun (a : Nat × (Nat → Nat → Int32)) i => x_b_years_37 (a.2, g) (nI n) (nI w) (nI a.1) i) (fun k a => CRw (aL A) 73 (yR (aL A) H (aR A) v1 k).1 a.2 ∧ a.2 104 0 = (yR (aL A) H (aR A) v1 k).2 ∧ QC (en_u1 f1 104 0 v1) a.2 ∧ a.1 = yF (aL A) H (aR A) v1 k) n (0, en_u1 f1 104 0 v1) ⟨R1', (by show en_u1 f1 104 0 v1 104 0 = v1; exact u1_at _ _ _ _), QC_refl _, rfl⟩ (by
      intro k a hk ⟨R2, s2, F2, c2⟩
      have L2 : CLd (aL A) a.2 := CLd_of L1 (fun p _ _ h => F2 p (by omega) h (by omega) (by omega))
      obtain ⟨f3, e3, R3, s3, g3⟩ := hc a.2 g _ L2 R2
      have ek : (yR (aL A) H (aR A) v1 k) = ((yR (aL A) H (aR A) v1 k).1, a.2 104 0) := by rw [s2]
      rw [← ek] at R3 s3
      have L3 : CLd (aL A) f3 := CLd_of L2 (fun p _ _ _ => g3 p (by omega) (by omega))
      have rk := hO _ (rOK_yR lo hO ro v1 k)
      obtain ⟨f4, e4, R4, F4, b4, _⟩ := c_passDay_73 f3 g lo L3 R3 rk
      have hfe : sFe (aL A) (H (yR (aL A) H (aR A) v1 k)).1 < 64 := sBs_fe _ l1
      refine ⟨(a.1 + mu_bc (sFe (aL A) (H (yR (aL A) H (aR A) v1 k)).1), f4), ?_, by rw [yR_S]; exact R4, by show f4 104 0 = _; rw [F4.1 104 (by omega) (by omega) (by omega), s3, yR_S], QC_trans F2 (QC_trans (fun p x1 x2 x3 x4 => g3 p x1 (by omega)) (QC_CFr F4)), by show a.1 + _ = _; rw [c2]; rfl⟩
      show x_b_years_37 (a.2, g) (nI n) (nI w) (nI a.1) (nI k) = x_b_years_37 (f4, g) (nI n) (nI w) (nI (a.1 + mu_bc (sFe (aL A) (H (yR (aL A) H (aR A) v1 k)).1))) (nI (k + 1))
      rw [e_b_years_37, if_neg (nI_ge hk (by omega)), e3, c_V, e4, c_V]
      dsimp only
      rw [b4, c_bitCount _ (by omega), c_I, nI_1, nI_add])
    obtain ⟨s, f2⟩ := a
    dsimp only at R2 s2 F2 c2 e2
    have L2 : CLd (aL A) f2 := CLd_of L1 (fun p _ _ h => F2 p (by omega) h (by omega) (by omega))
    refine ⟨f2, ?_, QC_trans (QC_copy g1) (QC_trans (QC_u _ _ (by omega)) F2)⟩
    refine Eq.trans e2 ?_
    rw [e_b_years_37, if_pos (Int32.le_refl _), c2]
    match w, hw with
    | 0, _ => rw [if_pos (by decide)]; rfl
    | 1, _ => rw [if_neg (by decide), if_pos (by decide), c_weightOfAll_73 (f2, g) lo L2 R2, c_I]; rfl
    | 2, _ =>
      rw [if_neg (by decide), if_neg (by decide), c_borneBits_73 (f2, g) lo L2 R2, c_I, c_bitCount _ (mu_mk8 _ (by omega)), c_I]; rfl
  · intro f0 f2 g M0 h0 e0
    have ML := M0.1
    have MR := M0.2.2.1
    show ∃ f3, x_m_years_0 (f2, g) v1 (nI n) (nI w) = rI _ (f3, g) ∧ _
    rw [e_m_years_0]
    dsimp only
    rw [← e0, show x_m_isWhat_0 (f0, g) (nI w) 2 = _ from m_isWhatY f0 g (b := 2) h0 hw (by omega), c_I, if_neg (by decide), show x_m_isDays_0 (f0, g) (nI n) 0 2 = _ from m_isDaysY f0 g (a := 0) h0 kn hn _, c_I, if_neg (by decide)]
    obtain ⟨f1, e1, R1, g1, g2⟩ := m_tries (f0, g) lo MR
    rw [e1, c_V]
    have L1 : MLd (aL A) (en_u1 f1 0 59 v1) := MLd_of ML (fun i _ => by rw [u1_ne _ _ (by omega), g1 0 (by omega)]) (fun p _ _ => by rw [u1_p _ _ _ (by omega)]; exact g1 p (by omega))
    have R1' : MRw (aL A) 29 (aR A) (en_u1 f1 0 59 v1) := MRw_of R1 (fun i _ _ => u1_ne _ _ (by omega)) lo
    obtain ⟨a, e2, R2, s2, F2, z2, c2⟩ := mu_inv (fun (a : Nat × (Nat → Nat → Int32)) i => x_m_years_41 (a.2, g) (nI n) (nI w) (nI a.1) i) (fun k a => MRw (aL A) 29 (yR (aL A) H (aR A) v1 k).1 a.2 ∧ a.2 0 59 = (yR (aL A) H (aR A) v1 k).2 ∧ QM (en_u1 f1 0 59 v1) a.2 ∧ a.2 0 0 = f0 0 0 ∧ a.1 = yF (aL A) H (aR A) v1 k) n (0, en_u1 f1 0 59 v1) ⟨R1', (by show en_u1 f1 0 59 v1 0 59 = v1; exact u1_at _ _ _ _), QM_refl _, by show en_u1 f1 0 59 v1 0 0 = _; rw [u1_ne _ _ (by omega), g1 0 (by omega)], rfl⟩ (by
      intro k a hk ⟨R2, s2, F2, z2, c2⟩
      have L2 : MLd (aL A) a.2 := MLd_of L1 (fun i hi => by
        by_cases hi0 : i = 0
        · subst hi0
          show a.2 0 0 = _
          rw [z2, u1_ne _ _ (by omega), g1 0 (by omega)]
        · exact F2.2.1 i hi0 (by omega) (by omega) (by omega) (by omega)) (fun p _ _ => F2.1 p (by omega) (by omega) (by omega) (by omega) (by omega) (by omega) (by omega) (by omega))
      obtain ⟨f3, e3, R3, s3, g3, g4, g5⟩ := hm a.2 g _ L2 R2
      have ek : (yR (aL A) H (aR A) v1 k) = ((yR (aL A) H (aR A) v1 k).1, a.2 0 59) := by rw [s2]
      rw [← ek] at R3 s3
      have L3 : MLd (aL A) f3 := MLd_of L2 (fun i _ => g4 i (by omega)) (fun p _ _ => g3 p (by omega) (by omega))
      have rk := hO _ (rOK_yR lo hO ro v1 k)
      obtain ⟨f4, e4, R4, F4, b4, _⟩ := m_dayGoes (f3, g) lo (b := 29) (by omega) L3 R3 rk
      have hfe : sFe (aL A) (H (yR (aL A) H (aR A) v1 k)).1 < 64 := sBs_fe _ l1
      have q59 : f4 0 59 = f3 0 59 := F4.2.1 59 (by omega) (by omega) (by omega)
      have q00 : f4 0 0 = f3 0 0 := F4.2.1 0 (by omega) (by omega) (by omega)
      refine ⟨(a.1 + mu_bc (sFe (aL A) (H (yR (aL A) H (aR A) v1 k)).1), f4), ?_, by rw [yR_S]; exact R4, by show f4 0 59 = _; rw [q59, s3, yR_S], QM_trans F2 (QM_trans ⟨fun p x1 x2 _ _ _ _ _ _ => g3 p x1 x2, fun i _ _ _ _ x5 => g4 i x5, g5⟩ (QM_MFr F4)), by show f4 0 0 = _; rw [q00, g4 0 (by omega)]; exact z2, by show a.1 + _ = _; rw [c2]; rfl⟩
      show x_m_years_41 (a.2, g) (nI n) (nI w) (nI a.1) (nI k) = x_m_years_41 (f4, g) (nI n) (nI w) (nI (a.1 + mu_bc (sFe (aL A) (H (yR (aL A) H (aR A) v1 k)).1))) (nI (k + 1))
      rw [e_m_years_41, if_neg (nI_ge hk (by omega)), e3, c_V, show x_m_dayGoes_0 (f3, g) 29 = _ from e4, c_V]
      dsimp only
      rw [b4, m_bits _ (by omega), c_I, nI_1, nI_add])
    obtain ⟨s, f5⟩ := a
    dsimp only at R2 s2 F2 z2 c2 e2
    have L2 : MLd (aL A) f5 := MLd_of L1 (fun i hi => by
      by_cases hi0 : i = 0
      · subst hi0
        rw [z2, u1_ne _ _ (by omega), g1 0 (by omega)]
      · exact F2.2.1 i hi0 (by omega) (by omega) (by omega) (by omega)) (fun p _ _ => F2.1 p (by omega) (by omega) (by omega) (by omega) (by omega) (by omega) (by omega) (by omega))
    refine ⟨f5, ?_, by rw [z2, h0], QM_trans (QM_18 g1 g2) (QM_trans (QM_u0 _ _ (by omega)) F2)⟩
    refine Eq.trans e2 ?_
    rw [e_m_years_41, if_pos (Int32.le_refl _), c2]
    match w, hw with
    | 0, _ => rw [if_pos (by decide)]; rfl
    | 1, _ => rw [if_neg (by decide), if_pos (by decide), show x_m_allWeight_0 (f5, g) 29 = _ from m_allWeight (b := 29) (f5, g) lo (by omega) L2 R2, c_I]; rfl
    | 2, _ =>
      rw [if_neg (by decide), if_neg (by decide), show x_m_borneOnes_0 (f5, g) 29 = _ from m_borneOnes (b := 29) (f5, g) lo (by omega) L2 R2, c_I, m_bits _ (mu_mk31 _ (by omega)), c_I]; rfl

theorem q_years {A : mu_A} {f : Nat → Nat → Int32} (ok : AOK A) (hM : MRel A f) (hC : CRel A f) (v1 v2 v3 : Int32) : Qn f (fun σ => x_b_years_0 σ v1 v2 v3) (fun σ => x_m_years_0 σ v1 v2 v3) id :=
  q_yearsH ok hM hC v1 v2 v3 (hP (aL A)) (fun _ h => rOK_hP h) (fun f g r hL hR => c_drawAct f g ok.1 hL hR) (fun f g r hL hR => m_happens f g ok.1 hL hR)
