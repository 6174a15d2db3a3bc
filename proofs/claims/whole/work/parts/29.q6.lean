/-! questions of now, third: written by q6.py -/

theorem fa_xor (a b : Nat) : nI a ^^^ nI b = nI (a ^^^ b) := by
  apply Int32.toBitVec_inj.1
  show BitVec.ofNat 32 a ^^^ BitVec.ofNat 32 b = BitVec.ofNat 32 (a ^^^ b)
  apply BitVec.eq_of_getLsbD_eq
  intro i hi
  simp [hi]
/-- the bits of the first that the second has not -/
def anN (a b : Nat) : Nat := a ^^^ (a &&& b)
theorem q_an (a b : Nat) : nI a &&& (nI b ^^^ nN) = nI (anN a b) := by
  apply Int32.toBitVec_inj.1
  show BitVec.ofNat 32 a &&& (BitVec.ofNat 32 b ^^^ BitVec.allOnes 32) = BitVec.ofNat 32 (a ^^^ (a &&& b))
  apply BitVec.eq_of_getLsbD_eq
  intro i hi
  simp only [BitVec.getLsbD_and, BitVec.getLsbD_xor, BitVec.getLsbD_allOnes, BitVec.getLsbD_ofNat, hi, Nat.testBit_xor, Nat.testBit_and, decide_true, Bool.true_and]
  cases a.testBit i <;> cases b.testBit i <;> rfl
theorem q_sub2 (k : Nat) : nI k - nI (k / 2 * 2) = nI (k % 2) := by
  rw [pk_sub (by omega)]
  congr 1
  omega
theorem anN_tb (a b i : Nat) : (anN a b).testBit i = (a.testBit i && !b.testBit i) := by
  unfold anN
  rw [Nat.testBit_xor, Nat.testBit_and]
  cases a.testBit i <;> cases b.testBit i <;> rfl
theorem anN_lt {a b n : Nat} (h : a < 2 ^ n) : anN a b < 2 ^ n := by
  unfold anN
  exact Nat.xor_lt_two_pow h (Nat.lt_of_le_of_lt Nat.and_le_left h)
theorem anN_0 (a : Nat) : anN a 0 = a := by
  unfold anN
  rw [Nat.and_zero, Nat.xor_zero]
theorem q_shlc {c p : Nat} (hc : c ≤ 1) (h : p < 31) : nI c <<< (nI p &&& nI 31) = nI (c * 2 ^ p) := by
  have h2 : 2 ^ p < 2 ^ 31 := Nat.pow_lt_pow_right (by omega) h
  have h3 : c * 2 ^ p ≤ 1 * 2 ^ p := Nat.mul_le_mul_right _ hc
  exact pk_shlN (n := c) (nI p &&& nI 31) p (s_l p (by omega)) (by omega)
def sGn (Λ : mu_Ld) (r : mu_Rw) (y p o mine his : Nat) : Int32 := (if sBr Λ r y (anN (anN (sH Λ r (nI y)) (mine * 2 ^ p)) (his * 2 ^ o)) then nI 4 else nI 0) - (if mine = 0 then rT r p else nI 0)
theorem sub_n0 (v : Int32) : v - nI 0 = v := by
  show v - 0 = v
  exact Int32.sub_zero v
theorem c_gainOf {Λ : mu_Ld} {r : mu_Rw} (f : Nat → Nat → Int32) (g : Nat → Nat → Int64) (lo : lOK Λ) (hL : CLd Λ f) (hR : CRw Λ 67 r f) {y p o c d : Nat} (hy : y < lB Λ) (hp : p < lP Λ) (ho : o < lP Λ) (hU : rU r p = nI y) (hc : c ≤ 1) (hd : d ≤ 1) : x_b_gainOf_0 (f, g) (nI p) (nI c) (nI o) (nI d) = rI (sGn Λ r y p o c d) (f, g) := by
  have l1 := lo.1
  have l2 := lo.2.1
  have h8 := sH8 r lo (nI y)
  have hU' : f 70 p = nI y := by rw [← hU]; exact hR.2.2.2.1 p hp
  have hT : f 71 p = rT r p := hR.2.2.2.2 p hp
  have hm : anN (anN (sH Λ r (nI y)) (c * 2 ^ p)) (d * 2 ^ o) < 2 ^ 8 := anN_lt (anN_lt h8)
  rw [e_b_gainOf_0]
  simp (disch := omega) only [q_0, q_1, q_2, q_3, q_4, q_5, q_6, q_7, q_8, q_9, q_10, q_11, q_12, q_13, q_14, q_15, q_16, q_17, q_18, q_19, q_20, q_21, q_22, q_23, q_24, q_29, q_30, q_31, q_36, q_42, q_50, q_40, q_48, q_96, q_97, q_99, q_100, q_255, q_256, q_700, q_999, q_1160, q_1400, q_99999, q_m1, q_in, q_clamp, if_true, hU', c_bitsUnder_67 (f, g) lo hL hR, c_I, q_shlc, q_an, c_isBorneBy_67 (f, g) lo hL hR hy (Nat.lt_trans hm (by omega)), tb_0, hT, q_eqI]
  unfold sGn
  cases sBr Λ r y (anN (anN (sH Λ r (nI y)) (c * 2 ^ p)) (d * 2 ^ o))
  · by_cases c0 : c = 0
    · simp only [c0, if_true, if_false, Bool.false_eq_true]; rfl
    · simp only [c0, if_true, if_false, Bool.false_eq_true]; rfl
  · by_cases c0 : c = 0
    · simp only [c0, if_true, if_false, Bool.true_eq_false]; rfl
    · simp only [c0, if_true, if_false, Bool.true_eq_false]; rfl
theorem m_gains {Λ : mu_Ld} {r : mu_Rw} (f : Nat → Nat → Int32) (g : Nat → Nat → Int64) (lo : lOK Λ) (hL : MLd Λ f) (hR : MRw Λ 0 r f) {y p o c d : Nat} (hy : y < lB Λ) (hp : p < lP Λ) (ho : o < lP Λ) (hU : rU r p = nI y) (hc : c ≤ 1) (hd : d ≤ 1) : x_m_gains_0 (f, g) (nI p) (nI o) (nI c) (nI d) = rI (sGn Λ r y p o c d) (f, g) := by
  have l1 := lo.1
  have l2 := lo.2.1
  have h8 := sH8 r lo (nI y)
  have hU' : f 18 (0 + 13 + p) = nI y := by rw [← hU]; exact hR.2.2.2.1 p hp
  rw [Nat.zero_add] at hU'
  have hT : f 18 (0 + 21 + p) = rT r p := hR.2.2.2.2 p hp
  rw [Nat.zero_add] at hT
  have hm : anN (anN (sH Λ r (nI y)) (c * 2 ^ p)) (d * 2 ^ o) < 2 ^ 8 := anN_lt (anN_lt h8)
  rw [e_m_gains_0]
  simp (disch := omega) only [q_0, q_1, q_2, q_3, q_4, q_5, q_6, q_7, q_8, q_9, q_10, q_11, q_12, q_13, q_14, q_15, q_16, q_17, q_18, q_19, q_20, q_21, q_22, q_23, q_24, q_29, q_30, q_31, q_36, q_42, q_50, q_40, q_48, q_96, q_97, q_99, q_100, q_255, q_256, q_700, q_999, q_1160, q_1400, q_99999, q_m1, nI_add, q_in, q_clamp, if_true, hU', m_handsAt (b := 0) (f, g) lo (by omega) hL hR, c_I, q_shl, q_an, q_eqI]
  have j : (if c = 1 then if d = 1 then x_m_gains_51 (f, g) (nI p) (nI c) (nI y) (nI (anN (anN (sH Λ r (nI y)) (2 ^ p)) (2 ^ o))) else x_m_gains_51 (f, g) (nI p) (nI c) (nI y) (nI (anN (sH Λ r (nI y)) (2 ^ p))) else if d = 1 then x_m_gains_51 (f, g) (nI p) (nI c) (nI y) (nI (anN (sH Λ r (nI y)) (2 ^ o))) else x_m_gains_51 (f, g) (nI p) (nI c) (nI y) (nI (sH Λ r (nI y)))) = x_m_gains_51 (f, g) (nI p) (nI c) (nI y) (nI (anN (anN (sH Λ r (nI y)) (c * 2 ^ p)) (d * 2 ^ o))) := by
    by_cases c1 : c = 1
    · subst c1
      rw [if_pos rfl, Nat.one_mul]
      by_cases d1 : d = 1
      · subst d1; rw [if_pos rfl, Nat.one_mul]
      · rw [if_neg d1, show d = 0 by omega, Nat.zero_mul, anN_0]
    · rw [if_neg c1, show c = 0 by omega, Nat.zero_mul, anN_0]
      by_cases d1 : d = 1
      · subst d1; rw [if_pos rfl, Nat.one_mul]
      · rw [if_neg d1, show d = 0 by omega, Nat.zero_mul, anN_0]
  rw [j, e_m_gains_51]
  simp (disch := omega) only [q_0, q_1, q_2, q_3, q_4, q_5, q_6, q_7, q_8, q_9, q_10, q_11, q_12, q_13, q_14, q_15, q_16, q_17, q_18, q_19, q_20, q_21, q_22, q_23, q_24, q_29, q_30, q_31, q_36, q_42, q_50, q_40, q_48, q_96, q_97, q_99, q_100, q_255, q_256, q_700, q_999, q_1160, q_1400, q_99999, q_m1, nI_add, q_in, q_clamp, if_true, m_canBear (b := 0) (f, g) lo (by omega) hL hR hy (Nat.lt_trans hm (by omega)), c_I, tb_0, hT, q_eqI]
  unfold sGn
  cases sBr Λ r y (anN (anN (sH Λ r (nI y)) (c * 2 ^ p)) (d * 2 ^ o))
  · by_cases c0 : c = 0
    · have : ¬ c = 1 := by omega
      simp only [c0, if_true, if_false, Bool.false_eq_true, Nat.zero_ne_one]; rfl
    · have : c = 1 := by omega
      simp only [this, if_true, if_false, Bool.false_eq_true, Nat.one_ne_zero]; rfl
  · by_cases c0 : c = 0
    · have : ¬ c = 1 := by omega
      simp only [c0, if_true, if_false, Bool.true_eq_false, Nat.zero_ne_one]; rfl
    · have : c = 1 := by omega
      simp only [this, if_true, if_false, Bool.true_eq_false, Nat.one_ne_zero]; rfl
def gRe (Λ : mu_Ld) (r : mu_Rw) (y p o k : Nat) : Bool := decide (¬ sGn Λ r y p o (k / 2) (k % 2) < sGn Λ r y p o (1 - k / 2) (k % 2) ∧ ¬ sGn Λ r y o p (k % 2) (k / 2) < sGn Λ r y o p (1 - k % 2) (k / 2))
def gQ (Λ : mu_Ld) (r : mu_Rw) (y p o n : Nat) : Nat × Int32 := mu_up (fun k q => if gRe Λ r y p o k then (q.1 + 1, if q.1 = 0 then nI (10 * (k / 2) + k % 2) else q.2) else q) (0, nN) n
theorem gQ_c (Λ : mu_Ld) (r : mu_Rw) (y p o : Nat) : ∀ n, n ≤ 4 → (gQ Λ r y p o n).1 ≤ n ∧ (((gQ Λ r y p o n).2 = nN) = ((gQ Λ r y p o n).1 = 0)) := by
  intro n
  induction n with
  | zero => intro _; exact ⟨Nat.le_refl 0, propext ⟨fun _ => rfl, fun _ => rfl⟩⟩
  | succ n ih =>
    intro hn
    obtain ⟨i1, i2⟩ := ih (by omega)
    have e : gQ Λ r y p o (n + 1) = if gRe Λ r y p o n then ((gQ Λ r y p o n).1 + 1, if (gQ Λ r y p o n).1 = 0 then nI (10 * (n / 2) + n % 2) else (gQ Λ r y p o n).2) else gQ Λ r y p o n := rfl
    rw [e]
    cases gRe Λ r y p o n
    · rw [if_neg (by decide)]; exact ⟨by omega, i2⟩
    · rw [if_pos rfl]
      refine ⟨by show _ + 1 ≤ _; omega, ?_⟩
      show ((if (gQ Λ r y p o n).1 = 0 then nI (10 * (n / 2) + n % 2) else (gQ Λ r y p o n).2) = nN) = ((gQ Λ r y p o n).1 + 1 = 0)
      rw [eq_false (show ¬ (gQ Λ r y p o n).1 + 1 = 0 by omega)]
      by_cases c : (gQ Λ r y p o n).1 = 0
      · rw [if_pos c, q_nNe (by omega)]
      · rw [if_neg c, i2]; exact eq_false c

theorem q_game {A : mu_A} {f : Nat → Nat → Int32} (ok : AOK A) (hM : MRel A f) (hC : CRel A f) (v1 v2 v3 : Int32) : Qn f (fun σ => x_b_game_0 σ v1 v2 v3) (fun σ => x_m_game_0 σ v1 v2 v3) (id) := by
  have lo := ok.1
  have go := ok.2.1
  have ro := ok.2.2.2.1
  have l1 := lo.1
  have l2 := lo.2.1
  have g8 := go.2.1
  have cB := hC.1.1
  have cP := hC.1.2.1
  have cT := hC.2.1.1
  have L := hC.1
  have R := hC.2.2.1
  rcases ok_bad v1 (n := lP (aL A)) (by omega) with bd0 | ⟨p, hp, rfl⟩
  · refine Qn_err ok hM 1 (by omega) ?_ ?_
    · intro g
      show x_b_game_0 (f, g) v1 v2 v3 = _
      rw [e_b_game_0, c_checkBearerN f g cP bd0, c_Vx]
    · intro f0 f2 g M0 h0 e0
      show x_m_game_0 (f2, g) v1 v2 v3 = _
      rw [e_m_game_0]
      dsimp only
      rw [← e0, m_isBearerN f0 g h0 M0.1.2.1 bd0, c_I, if_pos (by decide)]
      rfl
  rcases ok_bad v2 (n := lP (aL A)) (by omega) with bd1 | ⟨o, ho, rfl⟩
  · refine Qn_err ok hM 1 (by omega) ?_ ?_
    · intro g
      show x_b_game_0 (f, g) (nI p) v2 v3 = _
      rw [e_b_game_0, c_checkBearerY f g cP (by omega) hp, c_V, c_checkBearerN f g cP bd1, c_Vx]
    · intro f0 f2 g M0 h0 e0
      show x_m_game_0 (f2, g) (nI p) v2 v3 = _
      rw [e_m_game_0]
      dsimp only
      rw [← e0, m_isBearerY f0 g h0 M0.1.2.1 (by omega) hp, c_I, if_neg (by decide), m_isBearerN f0 g h0 M0.1.2.1 bd1, c_I, if_pos (by decide)]
      rfl
  rcases ok_badR v3 (a := 0) (b := 1) (by omega) (by omega) with bd2 | ⟨w, _, hw, rfl⟩
  · refine Qn_err ok hM 1 (by omega) ?_ ?_
    · intro g
      show x_b_game_0 (f, g) (nI p) (nI o) v3 = _
      rw [e_b_game_0, c_checkBearerY f g cP (by omega) hp, c_V, c_checkBearerY f g cP (by omega) ho, c_V, show x_b_checkWhat_0 (f, g) v3 1 = _ from c_checkWhatN (f, g) (b := 1) bd2, c_Vx]
    · intro f0 f2 g M0 h0 e0
      show x_m_game_0 (f2, g) (nI p) (nI o) v3 = _
      rw [e_m_game_0]
      dsimp only
      rw [← e0, m_isBearerY f0 g h0 M0.1.2.1 (by omega) hp, c_I, if_neg (by decide), m_isBearerY f0 g h0 M0.1.2.1 (by omega) ho, c_I, if_neg (by decide), show x_m_isWhat_0 (f0, g) v3 1 = _ from m_isWhatN f0 g (b := 1) h0 bd2, c_I, if_pos (by decide)]
      rfl
  by_cases hpo : p = o
  · refine Qn_err ok hM 2 (by omega) ?_ ?_
    · intro g
      show x_b_game_0 (f, g) (nI p) (nI o) (nI w) = _
      rw [e_b_game_0, c_checkBearerY f g cP (by omega) hp, c_V, c_checkBearerY f g cP (by omega) ho, c_V, show x_b_checkWhat_0 (f, g) (nI w) 1 = _ from c_checkWhatY (f, g) (b := 1) hw (by omega), c_V, if_pos (by rw [hpo])]
    · intro f0 f2 g M0 h0 e0
      show x_m_game_0 (f2, g) (nI p) (nI o) (nI w) = _
      rw [e_m_game_0]
      dsimp only
      rw [← e0, m_isBearerY f0 g h0 M0.1.2.1 (by omega) hp, c_I, if_neg (by decide), m_isBearerY f0 g h0 M0.1.2.1 (by omega) ho, c_I, if_neg (by decide), show x_m_isWhat_0 (f0, g) (nI w) 1 = _ from m_isWhatY f0 g (b := 1) h0 hw (by omega), c_I, if_neg (by decide), if_pos (by rw [hpo]), e_m_game_41, show x_m_right_0 (f0, g) 0 2 = _ from m_rightN f0 g h0 (c := 2) (Or.inr rfl), c_I, if_pos (by decide)]
      rfl
  refine Qn_val ok hM rfl (if rU (aR A) p = nN then nN else if rU (aR A) p = rU (aR A) o then (if w = 0 then nI (gQ (aL A) (aR A) (rU (aR A) p).toNatClampNeg p o 4).1 else (gQ (aL A) (aR A) (rU (aR A) p).toNatClampNeg p o 4).2) else nN) ?_ ?_
  · intro g
    show ∃ f', x_b_game_0 (f, g) (nI p) (nI o) (nI w) = rI _ (f', g) ∧ _
    rw [e_b_game_0, c_checkBearerY f g cP (by omega) hp, c_V, c_checkBearerY f g cP (by omega) ho, c_V, show x_b_checkWhat_0 (f, g) (nI w) 1 = _ from c_checkWhatY (f, g) (b := 1) hw (by omega), c_V]
    rw [if_neg (by rw [q_eqI (by omega) (by omega)]; exact hpo)]
    refine ⟨f, ?_, QC_refl f⟩
    have hUp : f 70 p = rU (aR A) p := R.2.2.2.1 p hp
    have hUo : f 70 o = rU (aR A) o := R.2.2.2.1 o ho
    simp (disch := omega) only [q_0, q_1, q_2, q_3, q_4, q_5, q_6, q_7, q_8, q_9, q_10, q_11, q_12, q_13, q_14, q_15, q_16, q_17, q_18, q_19, q_20, q_21, q_22, q_23, q_24, q_29, q_30, q_31, q_36, q_42, q_50, q_40, q_48, q_96, q_97, q_99, q_100, q_255, q_256, q_700, q_999, q_1160, q_1400, q_99999, q_m1, q_in, q_clamp, if_true, hUp, q_m1]
    by_cases c1 : rU (aR A) p = nN
    · have hb0 : x_ld_hasBox_p34_0 (f, g) (rU (aR A) p) = rI 0 (f, g) := c_hasBoxN f g cB (by rw [c1]; exact Or.inl (by decide))
      rw [hb0, c_I, if_pos (by decide), if_pos c1]; rfl
    obtain ⟨y, hy, ey⟩ := (ro.2.2.1 p hp).resolve_left c1
    have hb1 : x_ld_hasBox_p34_0 (f, g) (rU (aR A) p) = rI 1 (f, g) := by rw [ey]; exact c_hasBoxY f g cB (by omega) hy
    rw [hb1, c_I, if_neg (by decide), if_neg c1]
    simp only [hUp, hUo]
    by_cases c2 : rU (aR A) p = rU (aR A) o
    · rw [if_pos c2, if_pos c2]
      have ey2 : rU (aR A) o = nI y := by rw [← c2]; exact ey
      rw [ey, q_clamp (n := y) (by omega)]
      have h := mu_loop (fun (q : Nat × Int32) i => x_b_game_82 (f, g) (nI p) (nI o) (nI w) (nI q.1) q.2 i) (fun k => gQ (aL A) (aR A) y p o k) 4 (by
        intro k hk
        have hq := (gQ_c (aL A) (aR A) y p o k (by omega)).1
        have e : gQ (aL A) (aR A) y p o (k + 1) = if gRe (aL A) (aR A) y p o k then ((gQ (aL A) (aR A) y p o k).1 + 1, if (gQ (aL A) (aR A) y p o k).1 = 0 then nI (10 * (k / 2) + k % 2) else (gQ (aL A) (aR A) y p o k).2) else gQ (aL A) (aR A) y p o k := rfl
        have cr : x_b_coupleRests_0 (f, g) (nI p) (nI o) (nI (k / 2)) (nI (k % 2)) = rI (tb (gRe (aL A) (aR A) y p o k)) (f, g) := by
          rw [e_b_coupleRests_0, show (1 : Int32) = nI 1 by decide, pk_sub (show k / 2 ≤ 1 by omega), pk_sub (show k % 2 ≤ 1 by omega), c_gainOf f g lo L R hy hp ho ey (by omega) (by omega), c_I, c_gainOf f g lo L R hy hp ho ey (by omega) (by omega), c_I, c_gainOf f g lo L R hy ho hp ey2 (by omega) (by omega), c_I, c_gainOf f g lo L R hy ho hp ey2 (by omega) (by omega), c_I]
          unfold gRe
          by_cases d1 : sGn (aL A) (aR A) y p o (k / 2) (k % 2) < sGn (aL A) (aR A) y p o (1 - k / 2) (k % 2)
          · rw [if_pos d1, decide_eq_false (fun h => h.1 d1)]; rfl
          · rw [if_neg d1]
            by_cases d2 : sGn (aL A) (aR A) y o p (k % 2) (k / 2) < sGn (aL A) (aR A) y o p (1 - k % 2) (k / 2)
            · rw [if_pos d2, decide_eq_false (fun h => h.2 d2)]; rfl
            · rw [if_neg d2, decide_eq_true ⟨d1, d2⟩]; rfl
        show x_b_game_82 (f, g) (nI p) (nI o) (nI w) (nI (gQ (aL A) (aR A) y p o k).1) (gQ (aL A) (aR A) y p o k).2 (nI k) = x_b_game_82 (f, g) (nI p) (nI o) (nI w) (nI (gQ (aL A) (aR A) y p o (k + 1)).1) (gQ (aL A) (aR A) y p o (k + 1)).2 (nI (k + 1))
        rw [e, e_b_game_82]
        simp (disch := omega) only [q_0, q_1, q_2, q_3, q_4, q_5, q_6, q_7, q_8, q_9, q_10, q_11, q_12, q_13, q_14, q_15, q_16, q_17, q_18, q_19, q_20, q_21, q_22, q_23, q_24, q_29, q_30, q_31, q_36, q_42, q_50, q_40, q_48, q_96, q_97, q_99, q_100, q_255, q_256, q_700, q_999, q_1160, q_1400, q_99999, q_m1, q_leI, q_sub2, pk_div, cr, c_I, tb_0, q_eqI, nI_add, pk_mul]
        rw [if_neg (by omega)]
        cases gRe (aL A) (aR A) y p o k
        · rw [if_pos rfl, if_neg (by decide)]
        · rw [if_neg (by decide), if_pos rfl]
          by_cases d : (gQ (aL A) (aR A) y p o k).1 = 0
          · simp only [d, if_true]
          · simp only [d, if_false])
      refine Eq.trans h ?_
      show x_b_game_82 (f, g) (nI p) (nI o) (nI w) (nI (gQ (aL A) (aR A) y p o 4).1) (gQ (aL A) (aR A) y p o 4).2 (nI 4) = _
      rw [e_b_game_82, if_pos (by decide)]
      match w, hw with
      | 0, _ => rfl
      | 1, _ => rfl
    · rw [if_neg c2, if_neg c2]; rfl
  · intro f0 f2 g M0 h0 e0
    have ML := M0.1
    have MR := M0.2.2.1
    show ∃ f3, x_m_game_0 (f2, g) (nI p) (nI o) (nI w) = rI _ (f3, g) ∧ _
    rw [e_m_game_0]
    dsimp only
    rw [← e0, m_isBearerY f0 g h0 M0.1.2.1 (by omega) hp, c_I, if_neg (by decide), m_isBearerY f0 g h0 M0.1.2.1 (by omega) ho, c_I, if_neg (by decide), show x_m_isWhat_0 (f0, g) (nI w) 1 = _ from m_isWhatY f0 g (b := 1) h0 hw (by omega), c_I, if_neg (by decide)]
    rw [if_neg (by rw [q_eqI (by omega) (by omega)]; exact hpo), e_m_game_41, show x_m_right_0 (f0, g) 1 2 = _ from m_rightY f0 g h0 2, c_I, if_neg (by decide)]
    refine ⟨f0, ?_, h0, QM_refl f0⟩
    have hUp : f0 18 (0 + 13 + p) = rU (aR A) p := MR.2.2.2.1 p hp
    have hUo : f0 18 (0 + 13 + o) = rU (aR A) o := MR.2.2.2.1 o ho
    rw [Nat.zero_add] at hUp hUo
    simp (disch := omega) only [q_0, q_1, q_2, q_3, q_4, q_5, q_6, q_7, q_8, q_9, q_10, q_11, q_12, q_13, q_14, q_15, q_16, q_17, q_18, q_19, q_20, q_21, q_22, q_23, q_24, q_29, q_30, q_31, q_36, q_42, q_50, q_40, q_48, q_96, q_97, q_99, q_100, q_255, q_256, q_700, q_999, q_1160, q_1400, q_99999, q_m1, nI_add, q_in, q_clamp, if_true, hUp, hUo, q_m1]
    by_cases c1 : rU (aR A) p = nN
    · rw [if_pos c1, if_pos c1]; rfl
    rw [if_neg c1, if_neg c1]
    by_cases c2 : rU (aR A) p = rU (aR A) o
    · rw [if_pos c2, if_pos c2]
      obtain ⟨y, hy, ey⟩ := (ro.2.2.1 p hp).resolve_left c1
      have ey2 : rU (aR A) o = nI y := by rw [← c2]; exact ey
      rw [ey, q_clamp (n := y) (by omega)]
      have h := mu_loop (fun (q : Nat × Int32) i => x_m_game_95 (f0, g) (nI p) (nI o) (nI w) (nI q.1) q.2 i) (fun k => gQ (aL A) (aR A) y p o k) 4 (by
        intro k hk
        have hq := gQ_c (aL A) (aR A) y p o k (by omega)
        have e : gQ (aL A) (aR A) y p o (k + 1) = if gRe (aL A) (aR A) y p o k then ((gQ (aL A) (aR A) y p o k).1 + 1, if (gQ (aL A) (aR A) y p o k).1 = 0 then nI (10 * (k / 2) + k % 2) else (gQ (aL A) (aR A) y p o k).2) else gQ (aL A) (aR A) y p o k := rfl
        show x_m_game_95 (f0, g) (nI p) (nI o) (nI w) (nI (gQ (aL A) (aR A) y p o k).1) (gQ (aL A) (aR A) y p o k).2 (nI k) = x_m_game_95 (f0, g) (nI p) (nI o) (nI w) (nI (gQ (aL A) (aR A) y p o (k + 1)).1) (gQ (aL A) (aR A) y p o (k + 1)).2 (nI (k + 1))
        rw [e, e_m_game_95]
        simp (disch := omega) only [q_0, q_1, q_2, q_3, q_4, q_5, q_6, q_7, q_8, q_9, q_10, q_11, q_12, q_13, q_14, q_15, q_16, q_17, q_18, q_19, q_20, q_21, q_22, q_23, q_24, q_29, q_30, q_31, q_36, q_42, q_50, q_40, q_48, q_96, q_97, q_99, q_100, q_255, q_256, q_700, q_999, q_1160, q_1400, q_99999, q_m1, q_leI, pk_div, pk_sub, show k - k / 2 * 2 = k % 2 from by omega, m_gains f0 g lo ML MR hy hp ho ey, m_gains f0 g lo ML MR hy ho hp ey2, c_I, nI_add, pk_mul, q_m1, hq.2]
        rw [if_neg (by omega)]
        unfold gRe
        by_cases d1 : sGn (aL A) (aR A) y p o (k / 2) (k % 2) < sGn (aL A) (aR A) y p o (1 - k / 2) (k % 2)
        · simp only [d1, if_true, not_true, false_and, decide_false, Bool.false_eq_true, if_false]
        · by_cases d2 : sGn (aL A) (aR A) y o p (k % 2) (k / 2) < sGn (aL A) (aR A) y o p (1 - k % 2) (k / 2)
          · have d3 : ¬ sGn (aL A) (aR A) y o p (1 - k % 2) (k / 2) ≤ sGn (aL A) (aR A) y o p (k % 2) (k / 2) := by rw [Int32.not_le]; exact d2
            simp only [d1, d2, d3, if_true, not_true, and_false, decide_false, Bool.false_eq_true, if_false]
          · have d3 : sGn (aL A) (aR A) y o p (1 - k % 2) (k / 2) ≤ sGn (aL A) (aR A) y o p (k % 2) (k / 2) := by rw [← Int32.not_lt]; exact d2
            simp only [d1, d2, d3, if_true, if_false, not_false_iff, and_self, decide_true]
            by_cases d : (gQ (aL A) (aR A) y p o k).1 = 0
            · simp only [d, if_true]
            · simp only [d, if_false])
      refine Eq.trans h ?_
      show x_m_game_95 (f0, g) (nI p) (nI o) (nI w) (nI (gQ (aL A) (aR A) y p o 4).1) (gQ (aL A) (aR A) y p o 4).2 (nI 4) = _
      rw [e_m_game_95, if_pos (by decide)]
      match w, hw with
      | 0, _ => rfl
      | 1, _ => rfl
    · rw [if_neg c2, if_neg c2]; rfl
