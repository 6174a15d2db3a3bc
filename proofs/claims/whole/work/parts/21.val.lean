/-! what is asked first; the days ahead -/
theorem m_rightY (f : Nat → Nat → Int32) (g : Nat → Nat → Int64) (h : f 0 0 = nI 0) (c : Int32) : x_m_right_0 (f, g) (nI 1) c = rI (nI 1) (f, g) := by
  have h' : (f, g).1 0 0 = 0 := h
  rw [e_m_right_0, if_pos h', if_neg (by decide), if_pos h']; rfl
theorem m_rightN (f : Nat → Nat → Int32) (g : Nat → Nat → Int64) (h : f 0 0 = nI 0) {c : Nat} (hc : c = 1 ∨ c = 2) : x_m_right_0 (f, g) (nI 0) (nI c) = rI (nI 0) (en_u1 f 0 0 (nI c), g) := by
  have h' : (f, g).1 0 0 = 0 := h
  rw [e_m_right_0, if_pos h', if_pos (by decide)]
  rcases hc with h | h <;> subst h <;> rw [if_neg (by decide)] <;> rfl
def bad (n : Nat) (v : Int32) : Prop := v < 0 ∨ nI n ≤ v
theorem ok_bad (v : Int32) {n : Nat} (h : n < 2147483648) : bad n v ∨ ∃ j, j < n ∧ v = nI j := by
  rcases pk_ix v (n := n) (by simpa using h) with a | a | a
  · exact Or.inl (Or.inl a)
  · exact Or.inl (Or.inr a)
  · exact Or.inr a
theorem m_isBoxY (f : Nat → Nat → Int32) (g : Nat → Nat → Int64) {n x : Nat} (h : f 0 0 = nI 0) (hB : f 0 3 = nI n) (hn : n < 2147483648) (hx : x < n) : x_m_isBox_0 (f, g) (nI x) = rI (nI 1) (f, g) := by
  rw [e_m_isBox_0, if_neg (nI_pos (by omega)), if_neg (by show ¬ f 0 3 ≤ _; rw [hB]; exact nI_ge hx (by simpa using hn)), show (1 : Int32) = nI 1 by decide, m_rightY f g h, c_I, if_pos (by decide)]; rfl
theorem m_isBoxN (f : Nat → Nat → Int32) (g : Nat → Nat → Int64) {n : Nat} {v : Int32} (h : f 0 0 = nI 0) (hB : f 0 3 = nI n) (hv : bad n v) : x_m_isBox_0 (f, g) v = rI (nI 0) (en_u1 f 0 0 (nI 1), g) := by
  have k := m_rightN f g h (c := 1) (Or.inl rfl)
  rw [e_m_isBox_0]
  by_cases c : v < 0
  · rw [if_pos c, show x_m_right_0 (f, g) 0 1 = _ from k, c_I, if_pos (by decide)]; rfl
  · rw [if_neg c, if_pos (by show f 0 3 ≤ v; rw [hB]; exact hv.resolve_left c), show x_m_right_0 (f, g) 0 1 = _ from k, c_I, if_pos (by decide)]; rfl
theorem m_isBearerY (f : Nat → Nat → Int32) (g : Nat → Nat → Int64) {n x : Nat} (h : f 0 0 = nI 0) (hB : f 0 4 = nI n) (hn : n < 2147483648) (hx : x < n) : x_m_isBearer_0 (f, g) (nI x) = rI (nI 1) (f, g) := by
  rw [e_m_isBearer_0, if_neg (nI_pos (by omega)), if_neg (by show ¬ f 0 4 ≤ _; rw [hB]; exact nI_ge hx (by simpa using hn)), show (1 : Int32) = nI 1 by decide, m_rightY f g h, c_I, if_pos (by decide)]; rfl
theorem m_isBearerN (f : Nat → Nat → Int32) (g : Nat → Nat → Int64) {n : Nat} {v : Int32} (h : f 0 0 = nI 0) (hB : f 0 4 = nI n) (hv : bad n v) : x_m_isBearer_0 (f, g) v = rI (nI 0) (en_u1 f 0 0 (nI 1), g) := by
  have k := m_rightN f g h (c := 1) (Or.inl rfl)
  rw [e_m_isBearer_0]
  by_cases c : v < 0
  · rw [if_pos c, show x_m_right_0 (f, g) 0 1 = _ from k, c_I, if_pos (by decide)]; rfl
  · rw [if_neg c, if_pos (by show f 0 4 ≤ v; rw [hB]; exact hv.resolve_left c), show x_m_right_0 (f, g) 0 1 = _ from k, c_I, if_pos (by decide)]; rfl
theorem m_isTownY (f : Nat → Nat → Int32) (g : Nat → Nat → Int64) {n x : Nat} (h : f 0 0 = nI 0) (hB : f 0 1 = nI n) (hn : n < 2147483648) (hx : x < n) : x_m_isTown_0 (f, g) (nI x) = rI (nI 1) (f, g) := by
  rw [e_m_isTown_0, if_neg (nI_pos (by omega)), if_neg (by show ¬ f 0 1 ≤ _; rw [hB]; exact nI_ge hx (by simpa using hn)), show (1 : Int32) = nI 1 by decide, m_rightY f g h, c_I, if_pos (by decide)]; rfl
theorem m_isTownN (f : Nat → Nat → Int32) (g : Nat → Nat → Int64) {n : Nat} {v : Int32} (h : f 0 0 = nI 0) (hB : f 0 1 = nI n) (hv : bad n v) : x_m_isTown_0 (f, g) v = rI (nI 0) (en_u1 f 0 0 (nI 1), g) := by
  have k := m_rightN f g h (c := 1) (Or.inl rfl)
  rw [e_m_isTown_0]
  by_cases c : v < 0
  · rw [if_pos c, show x_m_right_0 (f, g) 0 1 = _ from k, c_I, if_pos (by decide)]; rfl
  · rw [if_neg c, if_pos (by show f 0 1 ≤ v; rw [hB]; exact hv.resolve_left c), show x_m_right_0 (f, g) 0 1 = _ from k, c_I, if_pos (by decide)]; rfl
theorem m_withinY (σ : en_S) {a b j : Nat} (h1 : a ≤ j) (h2 : j ≤ b) (hb : b < 2147483648) : x_m_within_0 σ (nI j) (nI a) (nI b) = rI (nI 1) σ := by
  rw [m_within, decide_eq_true (by rw [q_ltI (by omega) (by omega), q_ltI (by omega) (by omega)]; omega)]; rfl
theorem m_withinN (σ : en_S) {a b : Nat} {v : Int32} (h : v < nI a ∨ nI b < v) : x_m_within_0 σ v (nI a) (nI b) = rI (nI 0) σ := by
  rw [m_within, decide_eq_false (fun k => h.elim k.1 k.2)]; rfl
def badR (a b : Nat) (v : Int32) : Prop := v < nI a ∨ nI b < v
theorem ok_badR (v : Int32) {a b : Nat} (ha : a ≤ b) (hb : b < 2147483647) : badR a b v ∨ ∃ j, a ≤ j ∧ j ≤ b ∧ v = nI j := by
  by_cases c1 : v < nI a
  · exact Or.inl (Or.inl c1)
  · by_cases c2 : nI b < v
    · exact Or.inl (Or.inr c2)
    · have h0 : ¬ v < 0 := by
        rw [Int32.not_lt] at c1 ⊢
        exact Int32.le_trans (nI_pos' (by omega)) c1
      obtain ⟨j, hj, e⟩ := nI_of2 (M := nI b) (n := b) (nI_toInt (by omega)) h0 (by rw [Int32.not_lt] at c2; exact c2)
      subst e
      rw [q_ltI (by omega) (by omega)] at c1
      exact Or.inr ⟨j, by omega, hj, rfl⟩
theorem m_isWhatY (f : Nat → Nat → Int32) (g : Nat → Nat → Int64) {j b : Nat} (h : f 0 0 = nI 0) (h2 : j ≤ b) (hb : b < 2147483648) : x_m_isWhat_0 (f, g) (nI j) (nI b) = rI (nI 1) (f, g) := by
  rw [e_m_isWhat_0, show x_m_within_0 (f, g) (nI j) 0 (nI b) = _ from m_withinY (f, g) (a := 0) (by omega) h2 hb, c_I, m_rightY f g h, c_I, if_pos (by decide)]; rfl
theorem m_isWhatN (f : Nat → Nat → Int32) (g : Nat → Nat → Int64) {b : Nat} {v : Int32} (h : f 0 0 = nI 0) (hv : badR 0 b v) : x_m_isWhat_0 (f, g) v (nI b) = rI (nI 0) (en_u1 f 0 0 (nI 1), g) := by
  rw [e_m_isWhat_0, show x_m_within_0 (f, g) v 0 (nI b) = _ from m_withinN (f, g) (a := 0) hv, c_I, show x_m_right_0 (f, g) (nI 0) 1 = _ from m_rightN f g h (c := 1) (Or.inl rfl), c_I, if_pos (by decide)]; rfl
theorem m_isDaysY (f : Nat → Nat → Int32) (g : Nat → Nat → Int64) {a j : Nat} (h : f 0 0 = nI 0) (h1 : a ≤ j) (h2 : j ≤ 40) (w : Int32) : x_m_isDays_0 (f, g) (nI j) (nI a) w = rI (nI 1) (f, g) := by
  rw [e_m_isDays_0, show x_m_within_0 (f, g) (nI j) (nI a) 40 = _ from m_withinY (f, g) (b := 40) h1 h2 (by omega), c_I, m_rightY f g h, c_I, if_pos (by decide)]; rfl
theorem m_isDaysN (f : Nat → Nat → Int32) (g : Nat → Nat → Int64) {a w : Nat} {v : Int32} (h : f 0 0 = nI 0) (hv : badR a 40 v) (hw : w = 1 ∨ w = 2) : x_m_isDays_0 (f, g) v (nI a) (nI w) = rI (nI 0) (en_u1 f 0 0 (nI w), g) := by
  rw [e_m_isDays_0, show x_m_within_0 (f, g) v (nI a) 40 = _ from m_withinN (f, g) (b := 40) hv, c_I, m_rightN f g h hw, c_I, if_pos (by decide)]; rfl
theorem c_hasBoxY (f : Nat → Nat → Int32) (g : Nat → Nat → Int64) {n x : Nat} (hB : f 34 5 = nI n) (hn : n < 2147483648) (hx : x < n) : x_ld_hasBox_p34_0 (f, g) (nI x) = rI 1 (f, g) := by
  rw [e_ld_hasBox_p34_0, if_neg (nI_pos (by omega)), if_neg (by show ¬ f 34 5 ≤ nI x; rw [hB]; exact nI_ge hx (by omega))]; rfl
theorem c_hasBoxN (f : Nat → Nat → Int32) (g : Nat → Nat → Int64) {n : Nat} {v : Int32} (hB : f 34 5 = nI n) (hv : bad n v) : x_ld_hasBox_p34_0 (f, g) v = rI 0 (f, g) := by
  rw [e_ld_hasBox_p34_0]
  by_cases c : v < 0
  · rw [if_pos c]; rfl
  · rw [if_neg c, if_pos (by show f 34 5 ≤ v; rw [hB]; exact hv.resolve_left c)]; rfl
theorem c_checkBoxY (f : Nat → Nat → Int32) (g : Nat → Nat → Int64) {n x : Nat} (hB : f 34 5 = nI n) (hn : n < 2147483648) (hx : x < n) : x_b_checkBox_0 (f, g) (nI x) = rV (f, g) := by
  rw [e_b_checkBox_0, c_hasBoxY f g hB hn hx, c_I, if_neg (by decide)]; rfl
theorem c_checkBoxN (f : Nat → Nat → Int32) (g : Nat → Nat → Int64) {n : Nat} {v : Int32} (hB : f 34 5 = nI n) (hv : bad n v) : x_b_checkBox_0 (f, g) v = some (.inr 1, (f, g)) := by
  rw [e_b_checkBox_0, c_hasBoxN f g hB hv, c_I, if_pos (by decide)]
theorem c_checkBearerY (f : Nat → Nat → Int32) (g : Nat → Nat → Int64) {n x : Nat} (hB : f 34 9 = nI n) (hn : n < 2147483648) (hx : x < n) : x_b_checkBearer_0 (f, g) (nI x) = rV (f, g) := by
  rw [e_b_checkBearer_0, if_neg (nI_pos (by omega)), if_pos (by show _ < f 34 9; rw [hB]; exact nI_lt hx (by simpa using hn))]; rfl
theorem c_checkBearerN (f : Nat → Nat → Int32) (g : Nat → Nat → Int64) {n : Nat} {v : Int32} (hB : f 34 9 = nI n) (hv : bad n v) : x_b_checkBearer_0 (f, g) v = some (.inr 1, (f, g)) := by
  rw [e_b_checkBearer_0]
  by_cases c : v < 0
  · rw [if_pos c]
  · rw [if_neg c, if_neg (by show ¬ v < f 34 9; rw [hB, Int32.not_lt]; exact hv.resolve_left c)]
theorem c_hasTownY (f : Nat → Nat → Int32) (g : Nat → Nat → Int64) {n x : Nat} (hB : f 34 0 = nI n) (hn : n < 2147483648) (hx : x < n) : x_ld_hasTown_p34_0 (f, g) (nI x) = rI 1 (f, g) := by
  rw [e_ld_hasTown_p34_0, if_neg (nI_pos (by omega)), if_neg (by show ¬ f 34 0 ≤ nI x; rw [hB]; exact nI_ge hx (by omega))]; rfl
theorem c_hasTownN (f : Nat → Nat → Int32) (g : Nat → Nat → Int64) {n : Nat} {v : Int32} (hB : f 34 0 = nI n) (hv : bad n v) : x_ld_hasTown_p34_0 (f, g) v = rI 0 (f, g) := by
  rw [e_ld_hasTown_p34_0]
  by_cases c : v < 0
  · rw [if_pos c]; rfl
  · rw [if_neg c, if_pos (by show f 34 0 ≤ v; rw [hB]; exact hv.resolve_left c)]; rfl
theorem c_checkTownY (f : Nat → Nat → Int32) (g : Nat → Nat → Int64) {n x : Nat} (hB : f 34 0 = nI n) (hn : n < 2147483648) (hx : x < n) : x_b_checkTown_0 (f, g) (nI x) = rV (f, g) := by
  rw [e_b_checkTown_0, c_hasTownY f g hB hn hx, c_I, if_neg (by decide)]; rfl
theorem c_checkTownN (f : Nat → Nat → Int32) (g : Nat → Nat → Int64) {n : Nat} {v : Int32} (hB : f 34 0 = nI n) (hv : bad n v) : x_b_checkTown_0 (f, g) v = some (.inr 1, (f, g)) := by
  rw [e_b_checkTown_0, c_hasTownN f g hB hv, c_I, if_pos (by decide)]
theorem c_checkWhatY (σ : en_S) {j b : Nat} (h2 : j ≤ b) (hb : b < 2147483648) : x_b_checkWhat_0 σ (nI j) (nI b) = rV σ := by
  rw [e_b_checkWhat_0, if_neg (nI_pos (by omega)), if_pos (nI_le h2 (by simpa using hb))]; rfl
theorem c_checkWhatN (σ : en_S) {b : Nat} {v : Int32} (hv : badR 0 b v) : x_b_checkWhat_0 σ v (nI b) = some (.inr 1, σ) := by
  rw [e_b_checkWhat_0]
  rcases hv with c | c
  · rw [if_pos (show v < 0 from c)]
  · by_cases c2 : v < 0
    · rw [if_pos c2]
    · rw [if_neg c2, if_neg (by rw [Int32.not_le]; exact c)]
theorem c_checkRangeY (σ : en_S) {a j b : Nat} (h1 : a ≤ j) (h2 : j ≤ b) (hb : b < 2147483648) : x_b_checkRange_0 σ (nI j) (nI a) (nI b) = rV σ := by
  rw [e_b_checkRange_0, if_neg (nI_nlt h1 (by omega)), if_pos (nI_le h2 (by simpa using hb))]; rfl
theorem c_checkRangeN (σ : en_S) {a b : Nat} {v : Int32} (hv : badR a b v) : x_b_checkRange_0 σ v (nI a) (nI b) = some (.inr 2, σ) := by
  rw [e_b_checkRange_0]
  rcases hv with c | c
  · rw [if_pos c]
  · by_cases c2 : v < nI a
    · rw [if_pos c2]
    · rw [if_neg c2, if_neg (by rw [Int32.not_le]; exact c)]
/-- days -/
def sDn (Λ : mu_Ld) (r : mu_Rw) (n : Nat) : mu_Rw := mu_up (fun _ q => sDy Λ q) r n
theorem sDn_S (Λ : mu_Ld) (r : mu_Rw) (n : Nat) : sDn Λ r (n + 1) = sDy Λ (sDn Λ r n) := rfl
theorem rOK_sDn {Λ : mu_Ld} {r : mu_Rw} (lo : lOK Λ) (h : rOK Λ r) (n : Nat) : rOK Λ (sDn Λ r n) := mu_up_inv (fun _ q => rOK Λ q) r h n (fun _ _ _ hq => rOK_sDy lo hq)
def sCs (Λ : mu_Ld) (r : mu_Rw) (n : Nat) : Nat := mu_up (fun k a => a + sCr Λ (sDn Λ r k)) 0 n
theorem m_daysGo {Λ : mu_Ld} {r : mu_Rw} (f : Nat → Nat → Int32) (g : Nat → Nat → Int64) (lo : lOK Λ) (hL : MLd Λ f) (hR : MRw Λ 29 r f) (ro : rOK Λ r) {n : Nat} (hn : n < 1000) : ∃ f', x_m_daysGo_0 (f, g) (nI n) = rV (f', g) ∧ MRw Λ 29 (sDn Λ r n) f' ∧ MFr 29 f f' := by
  rw [e_m_daysGo_0]
  obtain ⟨f', e, R1, F1⟩ := mu_inv (fun (f : Nat → Nat → Int32) i => x_m_daysGo_2 (f, g) (nI n) i) (fun k f' => MRw Λ 29 (sDn Λ r k) f' ∧ MFr 29 f f') n f ⟨hR, MFr_refl _ _⟩ (by
    intro k f1 hk ⟨R1, F1⟩
    obtain ⟨f2, e2, R2, F2, _, _⟩ := m_dayGoes (f1, g) lo (by omega) (MFr_L F1 hL) R1 (rOK_sDn lo ro k)
    refine ⟨f2, ?_, R2, MFr_trans F1 F2⟩
    show x_m_daysGo_2 (f1, g) (nI n) (nI k) = x_m_daysGo_2 (f2, g) (nI n) (nI (k + 1))
    rw [e_m_daysGo_2, if_neg (nI_ge hk (by omega)), show x_m_dayGoes_0 (f1, g) 29 = _ from e2, c_V, nI_1])
  refine ⟨f', ?_, R1, F1⟩
  refine Eq.trans e ?_
  show x_m_daysGo_2 (f', g) (nI n) (nI n) = _
  rw [e_m_daysGo_2, if_pos (Int32.le_refl _)]
  rfl
theorem m_goesTo {Λ : mu_Ld} {r : mu_Rw} (f : Nat → Nat → Int32) (g : Nat → Nat → Int64) (lo : lOK Λ) (hL : MLd Λ f) (hR : MRw Λ 0 r f) (ro : rOK Λ r) {n : Nat} (hn : n < 1000) : ∃ f', x_m_goesTo_0 (f, g) (nI n) = rV (f', g) ∧ MLd Λ f' ∧ MRw Λ 29 (sDn Λ r n) f' ∧ QM f f' ∧ f' 0 0 = f 0 0 := by
  rw [e_m_goesTo_0]
  obtain ⟨f1, e1, R1, g1, g2⟩ := m_tries (f, g) lo hR
  have L1 : MLd Λ f1 := MLd_of hL (fun i _ => by rw [g1 0 (by omega)]) (fun p _ _ => g1 p (by omega))
  obtain ⟨f2, e2, R2, F2⟩ := m_daysGo f1 g lo L1 R1 ro hn
  refine ⟨f2, by rw [e1, c_V, e2, c_V]; rfl, MFr_L F2 L1, R2, QM_trans (QM_18 g1 g2) (QM_MFr F2), ?_⟩
  rw [F2.2.1 0 (by omega) (by omega) (by omega), g1 0 (by omega)]
theorem uf_at (f : Nat → Nat → Int32) (p : Nat) (h : Nat → Int32) : en_uf f p h p = h := by unfold en_uf; rw [if_pos rfl]
theorem uf_ne (f : Nat → Nat → Int32) {p q : Nat} (h : Nat → Int32) (hq : q ≠ p) : en_uf f p h q = f q := by unfold en_uf; rw [if_neg hq]
theorem c_copy73 {Λ : mu_Ld} {r : mu_Rw} (f : Nat → Nat → Int32) (g : Nat → Nat → Int64) (lo : lOK Λ) (hR : CRw Λ 67 r f) : ∃ f', x_st_copyFrom_p73_67_0 (f, g) = rV (f', g) ∧ CRw Λ 73 r f' ∧ (∀ p, (p < 73 ∨ 77 < p) → f' p = f p) ∧ ∀ i, i ≠ 1 → f' 73 i = f 73 i := by
  have l1 := lo.1
  have l2 := lo.2.1
  rw [e_st_copyFrom_p73_67_0]
  obtain ⟨h1, h2, h3, h4, h5⟩ := hR
  refine ⟨_, rfl, ⟨?_, fun x hx => ?_, fun x hx => ?_, fun x hx => ?_, fun x hx => ?_⟩, fun p hp => ?_, fun i hi => ?_⟩
  · simp (disch := omega) only [uf_ne, u1_at]; exact h1
  · show en_uf _ _ _ 74 x = _
    simp (disch := omega) only [uf_ne, uf_at, sb_cpy0]; exact h2 x hx
  · show en_uf _ _ _ 75 x = _
    simp (disch := omega) only [uf_ne, uf_at, sb_cpy0]; exact h3 x hx
  · show en_uf _ _ _ 76 x = _
    simp (disch := omega) only [uf_ne, uf_at, sb_cpy0]; exact h4 x hx
  · show en_uf _ _ _ 77 x = _
    simp (disch := omega) only [uf_ne, uf_at, sb_cpy0]; exact h5 x hx
  · simp (disch := omega) only [uf_ne, u1_p]
  · simp (disch := omega) only [uf_ne, u1_ne]
theorem c_passDays_67 {Λ : mu_Ld} {r : mu_Rw} (f : Nat → Nat → Int32) (g : Nat → Nat → Int64) (lo : lOK Λ) (hL : CLd Λ f) (hR : CRw Λ 67 r f) (ro : rOK Λ r) {n : Nat} (hn : n < 1000) : ∃ f', x_st_passDays_p67_0 (f, g) (nI n) = rI (nI (sCs Λ r n)) (f', g) ∧ CRw Λ 67 (sDn Λ r n) f' ∧ CFr 67 f f' := by
  rw [e_st_passDays_p67_0]
  obtain ⟨a, e, R1, F1, h1⟩ := mu_inv (fun (a : Int32 × (Nat → Nat → Int32)) i => x_st_passDays_p67_4 (a.2, g) (nI n) a.1 i) (fun k a => CRw Λ 67 (sDn Λ r k) a.2 ∧ CFr 67 f a.2 ∧ a.1 = nI (sCs Λ r k)) n (nI 0, f) ⟨hR, CFr_refl _ _, rfl⟩ (by
    intro k a hk ⟨R1, F1, h1⟩
    obtain ⟨f2, e2, R2, F2, _, b2⟩ := c_passDay_67 a.2 g lo (CFr_L (by omega) F1 hL) R1 (rOK_sDn lo ro k)
    refine ⟨(a.1 + f2 67 7, f2), ?_, R2, CFr_trans F1 F2, ?_⟩
    · show x_st_passDays_p67_4 (a.2, g) (nI n) a.1 (nI k) = x_st_passDays_p67_4 (f2, g) (nI n) (a.1 + f2 67 7) (nI (k + 1))
      rw [e_st_passDays_p67_4, if_neg (nI_ge hk (by omega)), e2, c_V, nI_1]
    · show a.1 + f2 67 7 = _
      rw [h1, b2, nI_add]; rfl)
  obtain ⟨s, f'⟩ := a
  dsimp only at R1 F1 h1 e
  refine ⟨f', ?_, R1, F1⟩
  refine Eq.trans e ?_
  rw [h1, e_st_passDays_p67_4, if_pos (Int32.le_refl _)]
  rfl
theorem c_passDays_73 {Λ : mu_Ld} {r : mu_Rw} (f : Nat → Nat → Int32) (g : Nat → Nat → Int64) (lo : lOK Λ) (hL : CLd Λ f) (hR : CRw Λ 73 r f) (ro : rOK Λ r) {n : Nat} (hn : n < 1000) : ∃ f', x_st_passDays_p73_0 (f, g) (nI n) = rI (nI (sCs Λ r n)) (f', g) ∧ CRw Λ 73 (sDn Λ r n) f' ∧ CFr 73 f f' := by
  rw [e_st_passDays_p73_0]
  obtain ⟨a, e, R1, F1, h1⟩ := mu_inv (fun (a : Int32 × (Nat → Nat → Int32)) i => x_st_passDays_p73_4 (a.2, g) (nI n) a.1 i) (fun k a => CRw Λ 73 (sDn Λ r k) a.2 ∧ CFr 73 f a.2 ∧ a.1 = nI (sCs Λ r k)) n (nI 0, f) ⟨hR, CFr_refl _ _, rfl⟩ (by
    intro k a hk ⟨R1, F1, h1⟩
    obtain ⟨f2, e2, R2, F2, _, b2⟩ := c_passDay_73 a.2 g lo (CFr_L (by omega) F1 hL) R1 (rOK_sDn lo ro k)
    refine ⟨(a.1 + f2 73 7, f2), ?_, R2, CFr_trans F1 F2, ?_⟩
    · show x_st_passDays_p73_4 (a.2, g) (nI n) a.1 (nI k) = x_st_passDays_p73_4 (f2, g) (nI n) (a.1 + f2 73 7) (nI (k + 1))
      rw [e_st_passDays_p73_4, if_neg (nI_ge hk (by omega)), e2, c_V, nI_1]
    · show a.1 + f2 73 7 = _
      rw [h1, b2, nI_add]; rfl)
  obtain ⟨s, f'⟩ := a
  dsimp only at R1 F1 h1 e
  refine ⟨f', ?_, R1, F1⟩
  refine Eq.trans e ?_
  rw [h1, e_st_passDays_p73_4, if_pos (Int32.le_refl _)]
  rfl

theorem c_lookAhead {Λ : mu_Ld} {r : mu_Rw} (f : Nat → Nat → Int32) (g : Nat → Nat → Int64) (lo : lOK Λ) (hL : CLd Λ f) (hR : CRw Λ 67 r f) (ro : rOK Λ r) {n : Nat} (hn : n < 1000) : ∃ f', x_b_lookAhead_0 (f, g) (nI n) = rI (nI (sCs Λ r n)) (f', g) ∧ CLd Λ f' ∧ CRw Λ 73 (sDn Λ r n) f' ∧ QC f f' := by
  obtain ⟨f1, e1, R1, g1, g2⟩ := c_copy73 f g lo hR
  have L1 : CLd Λ f1 := CLd_of hL (fun p _ _ _ => g1 p (by omega))
  obtain ⟨f2, e2, R2, F2⟩ := c_passDays_73 f1 g lo L1 R1 ro hn
  refine ⟨f2, ?_, CFr_L (by omega) F2 L1, R2, QC_trans (fun p a _ _ _ => g1 p (by omega)) (QC_CFr F2)⟩
  rw [e_b_lookAhead_0, e1, c_V, e2, c_I]; rfl
