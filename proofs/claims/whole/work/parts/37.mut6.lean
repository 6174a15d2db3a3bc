/-! acts, sixth: restore, feed -/
def aRs (A : mu_A) (z : mu_Rw × mu_Ps × mu_Sn) : mu_A := uS (uP (uR A z.1) z.2.1) z.2.2
theorem q_restore {A : mu_A} {f : Nat → Nat → Int32} (ok : AOK A) (hM : MRel A f) (hC : CRel A f) : Mt A f (fun σ => x_b_restore_0 σ) (fun σ => x_m_restore_0 σ) id := by
  have lo := ok.1
  have l1 := lo.1
  have l2 := lo.2.1
  have hI := hC.2.2.2.2.2.1
  cases hz : aI A with
  | none =>
    rw [hz] at hI
    have h11 : f 31 11 = nI 0 := hI
    refine Qn_Mt ok hM hC (Qn_val ok hM rfl (nI 0) ?_ ?_)
    · intro g
      refine ⟨f, ?_, QC_refl f⟩
      show x_b_restore_0 (f, g) = _
      rw [e_b_restore_0, if_pos (show (f, g).1 31 11 = 0 from h11)]
      rfl
    · intro f0 f2 g M0 h0 e0
      refine ⟨f0, ?_, h0, QM_refl f0⟩
      show x_m_restore_0 (f2, g) = _
      have h60 : f2 0 60 = nI 0 := by
        have := M0.2.2.2.2.2.1
        rw [hz] at this
        have this' : f0 0 60 = nI 0 := this
        rw [e0, u1_ne _ _ (by omega)] at this'
        exact this'
      rw [e_m_restore_0, if_pos (show (f2, g).1 0 60 = 0 from h60), e0]
      rfl
  | some z =>
    obtain ⟨okr, okp, oks⟩ := ok.2.2.2.2.2.2.1 z hz
    have p40 := okp.1
    have s8 := oks.1
    have ok' : AOK (aRs A z) := AOK_S (AOK_P (AOK_R ok okr) okp) oks
    refine Mt_val (A' := aRs A z) ok ok' hM rfl (nI 1) ?_ ?_
    · intro g
      show ∃ f1, x_b_restore_0 (f, g) = rI (nI 1) (f1, g) ∧ _
      obtain ⟨h1, h2, h3, h4, h5, h6, h7, h8, h9⟩ := hC
      rw [hz] at hI
      obtain ⟨j1, j2, j3, j4⟩ := hI
      have e91 : f 91 0 * 29 = nI (z.2.1.1 * 29) := by rw [j3.1, show (29 : Int32) = nI 29 by decide, pk_mul]
      rw [e_b_restore_0, if_neg (by show ¬ f 31 11 = 0; rw [j1]; decide), e_st_copyFrom_p67_85_0, r_V, c_V, e_ps_copyFrom_p79_91_0]
      simp (disch := omega) only [uf_ne, u1_p, e91, q_clamp]
      rw [if_pos ⟨by decide, by decide, nI_pos (by omega), by omega, by omega⟩, r_V, c_V, e_se_copyFrom_p81_93_0, r_V, c_V]
      refine ⟨_, rfl, ?_, ?_⟩
      · intro q hq
        simp (disch := omega) only [uf_ne, u1_p]
      · obtain ⟨w1, w2, w3, w4, w5⟩ := j2
        refine ⟨CLd_of h1 (fun p _ _ _ => by simp (disch := omega) only [uf_ne, u1_p]), CGd_of h2 (fun p _ _ => by simp (disch := omega) only [uf_ne, u1_p]), ⟨?_, fun x hx => ?_, fun x hx => ?_, fun x hx => ?_, fun x hx => ?_⟩, ⟨?_, fun k hk => ?_⟩, ⟨?_, fun k hk => ?_⟩, CIm_of lo h6 (by simp (disch := omega) only [uf_ne, u1_ne]) (fun p _ _ => by simp (disch := omega) only [uf_ne, u1_p]), CTp_of h7 (by simp (disch := omega) only [uf_ne, u1_ne]) (by simp (disch := omega) only [uf_ne, u1_p]), fun i hi => by simp (disch := omega) only [uf_ne, u1_ne]; exact h8 i hi, by simp (disch := omega) only [uf_ne, u1_ne]; exact h9⟩
        · simp (disch := omega) only [uf_ne, u1_ne, u1_at]; exact w1
        · have hx' : x < lB (aL A) := hx
          show en_uf _ _ _ 68 x = _
          simp (disch := omega) only [uf_ne, uf_at, u1_p, sb_cpy0]; exact w2 x hx
        · have hx' : x < lB (aL A) := hx
          show en_uf _ _ _ 69 x = _
          simp (disch := omega) only [uf_ne, uf_at, u1_p, sb_cpy0]; exact w3 x hx
        · have hx' : x < lP (aL A) := hx
          show en_uf _ _ _ 70 x = _
          simp (disch := omega) only [uf_ne, uf_at, u1_p, sb_cpy0]; exact w4 x hx
        · have hx' : x < lP (aL A) := hx
          show en_uf _ _ _ 71 x = _
          simp (disch := omega) only [uf_ne, uf_at, u1_p, sb_cpy0]; exact w5 x hx
        · simp (disch := omega) only [uf_ne, u1_ne, u1_at]; exact j3.1
        · have hk' : k < z.2.1.1 := hk
          refine pRw_mv lo (j3.2 k hk) (fun i hi => ?_)
          simp (disch := omega) only [uf_ne, uf_at, u1_p, sb_cpy0]
        · simp (disch := omega) only [uf_ne, u1_ne, u1_at, u1_p]; exact j4.1
        · have hk' : k < z.2.2.1 := hk
          show en_uf _ _ _ 82 k = _ ∧ en_uf _ _ _ 83 k = _ ∧ en_uf _ _ _ 84 k = _
          simp (disch := omega) only [uf_ne, uf_at, u1_p, sb_cpy0]
          exact j4.2 k hk
    · intro f0 f2 g M0 h0 e0
      show ∃ f3, x_m_restore_0 (f2, g) = rI (nI 1) (f3, g) ∧ _
      have x60 : f2 0 60 = f0 0 60 := by rw [e0, u1_ne _ _ (by omega)]
      have x61 : f2 0 61 = f0 0 61 := by rw [e0, u1_ne _ _ (by omega)]
      have x62 : f2 0 62 = f0 0 62 := by rw [e0, u1_ne _ _ (by omega)]
      obtain ⟨h1, h2, h3, h4, h5, h6, h7, h8, h9⟩ := M0
      have h6' := h6
      rw [hz] at h6'
      obtain ⟨j1, j2, j3, j4⟩ := h6'
      rw [e_m_restore_0, if_neg (by show ¬ f2 0 60 = 0; rw [x60, j1]; decide)]
      dsimp only
      rw [← e0, x61, x62]
      obtain ⟨f3, e3, i1, i2⟩ := mu_inv (fun (f : Nat → Nat → Int32) i => x_m_restore_32 (f, g) i) (fun k f' => (∀ i, i < k → f' 18 i = f0 27 i) ∧ (∀ p, p ≠ 18 → f' p = en_u1 (en_u1 f0 0 47 (f0 0 61)) 0 55 (f0 0 62) p)) 29 (en_u1 (en_u1 f0 0 47 (f0 0 61)) 0 55 (f0 0 62)) ⟨fun i hi => absurd hi (by omega), fun p _ => rfl⟩ (by
        intro k f1 hk ⟨i1, i2⟩
        show ∃ f', x_m_restore_32 (f1, g) (nI k) = x_m_restore_32 (f', g) (nI (k + 1)) ∧ _
        rw [e_m_restore_32]
        simp (disch := omega) only [q_0, q_1, q_2, q_3, q_4, q_5, q_6, q_7, q_8, q_9, q_10, q_11, q_12, q_13, q_14, q_15, q_16, q_17, q_18, q_19, q_20, q_21, q_22, q_23, q_24, q_29, q_30, q_31, q_36, q_42, q_50, q_40, q_48, q_96, q_97, q_99, q_100, q_255, q_256, q_700, q_999, q_1160, q_1400, q_99999, q_m1, q_leI, nI_add, q_in, q_clamp, if_true]
        rw [if_neg (by omega)]
        refine ⟨_, rfl, fun i hi => ?_, fun p hp => by rw [u1_p _ _ _ hp]; exact i2 p hp⟩
        rw [u1_if]
        by_cases c2 : i = k
        · rw [if_pos c2, i2 27 (by omega), c2]; simp (disch := omega) only [u1_p]
        · rw [if_neg c2]; exact i1 i (by omega))
      obtain ⟨f4, e4, k1, k2⟩ := m_copies_28_19 f3 g
      obtain ⟨f5, e5, n1, n2⟩ := m_copies_29_24 f4 g
      have z' : ∀ p, p ≠ 18 → p ≠ 19 → p ≠ 24 → f5 p = en_u1 (en_u1 f0 0 47 (f0 0 61)) 0 55 (f0 0 62) p := fun p a b c => by rw [n2 p c, k2 p b, i2 p a]
      have z0 : ∀ i, i ≠ 47 → i ≠ 55 → f5 0 i = f0 0 i := fun i a b => by rw [z' 0 (by omega) (by omega) (by omega)]; simp (disch := omega) only [u1_ne]
      have zp : ∀ p, p ≠ 0 → p ≠ 18 → p ≠ 19 → p ≠ 24 → f5 p = f0 p := fun p a b c d => by rw [z' p b c d]; simp (disch := omega) only [u1_p]
      refine ⟨f5, ?_, by rw [z0 0 (by omega) (by omega)]; exact h0, ?_, fun p hp => zp p (by omega) (by omega) (by omega) (by omega)⟩
      · refine Eq.trans e3 ?_
        show x_m_restore_32 (f3, g) (nI 29) = _
        rw [e_m_restore_32, if_pos (by decide), e4, c_V, e5, c_V]
        rfl
      · refine ⟨MLd_of h1 (fun j _ => z0 j (by omega) (by omega)) (fun p _ _ => zp p (by omega) (by omega) (by omega) (by omega)), MGd_of h2 (z0 1 (by omega) (by omega)) (z0 2 (by omega) (by omega)) (zp 1 (by omega) (by omega) (by omega) (by omega)), ?_, ⟨?_, fun k hk => ?_⟩, ⟨?_, fun k hk => ?_⟩, MIm_of lo h6 (fun i _ _ => z0 i (by omega) (by omega)) (fun p _ _ => zp p (by omega) (by omega) (by omega) (by omega)), MTp_of h7 (z0 14 (by omega) (by omega)) (zp 7 (by omega) (by omega) (by omega) (by omega)), by rw [zp 8 (by omega) (by omega) (by omega) (by omega)]; exact h8, by rw [z0 16 (by omega) (by omega)]; exact h9⟩
        · refine pRw_mv (P' := 18) (b' := 0) lo j2 (fun i hi => ?_)
          rw [Nat.zero_add, n2 18 (by omega), k2 18 (by omega), i1 i hi]
        · rw [z' 0 (by omega) (by omega) (by omega)]; simp (disch := omega) only [u1_ne, u1_at]; exact j3.1
        · have hk' : k < z.2.1.1 := hk
          refine pRw_mv lo (j3.2 k hk) (fun i hi => ?_)
          rw [n2 19 (by omega), k1 _ (by omega), i2 28 (by omega)]; simp (disch := omega) only [u1_p]
        · rw [z' 0 (by omega) (by omega) (by omega)]; simp (disch := omega) only [u1_at]; exact j4.1
        · have hk' : k < z.2.2.1 := hk
          have q : ∀ i, i < 24 → f5 24 i = f0 29 i := fun i hi => by rw [n1 i hi, k2 29 (by omega), i2 29 (by omega)]; simp (disch := omega) only [u1_p]
          rw [q _ (by omega), q _ (by omega), q _ (by omega)]
          exact j4.2 k hk
/-- bytes -/
def bt (x : Int32) (i : Nat) : Bool := x.toBitVec.getLsbD i
theorem b_ext {x y : Int32} (h : ∀ i, i < 32 → bt x i = bt y i) : x = y := Int32.toBitVec_inj.mp (BitVec.eq_of_getLsbD_eq (fun i hi => h i hi))
theorem b_and (x y : Int32) (i : Nat) : bt (x &&& y) i = (bt x i && bt y i) := by unfold bt; rw [Int32.toBitVec_and, BitVec.getLsbD_and]
theorem b_255 (i : Nat) (h : i < 32) : bt 255 i = decide (i < 8) := (by decide +kernel : ∀ i, i < 32 → bt 255 i = decide (i < 8)) i h
theorem s_u : ∀ n, n < 32 → (((nI n).toUInt32 &&& Int32.toUInt32 31).toBitVec % 32).toNat = n := by decide
theorem b_ushr (n : Nat) (hn : n < 32) (x : Int32) (i : Nat) : bt (en_ushr x (nI n)) i = bt x (n + i) := by
  show (x.toUInt32 >>> ((nI n).toUInt32 &&& Int32.toUInt32 31)).toBitVec.getLsbD i = x.toUInt32.toBitVec.getLsbD (n + i)
  rw [UInt32.toBitVec_shiftRight]
  show (x.toUInt32.toBitVec >>> (((nI n).toUInt32 &&& Int32.toUInt32 31).toBitVec % 32).toNat).getLsbD i = _
  rw [s_u n hn, BitVec.getLsbD_ushiftRight]
theorem b_sshr (n : Nat) (hn : n < 32) (x : Int32) {i : Nat} (hi : i < 32) (h : n + i < 32) : bt (x >>> (nI n &&& nI 31)) i = bt x (n + i) := by
  unfold bt
  rw [Int32.toBitVec_shiftRight]
  show (x.toBitVec.sshiftRight ((nI n &&& nI 31).toBitVec.smod 32).toNat).getLsbD i = _
  rw [s_l n hn, BitVec.getLsbD_sshiftRight]
  simp [hi, h]
theorem by_eq (v : Int32) {n : Nat} (hn : n ≤ 24) : en_ushr v (nI n) &&& 255 = (v >>> (nI n &&& nI 31)) &&& 255 := by
  apply b_ext
  intro i hi
  rw [b_and, b_and, b_255 i hi]
  by_cases c : i < 8
  · rw [b_ushr n (by omega), b_sshr n (by omega) v hi (by omega)]
  · rw [decide_eq_false c, Bool.and_false, Bool.and_false]
theorem fa_byte_low (x : Int32) : (x &&& 255).toInt8 = x.toInt8 := by
  apply Int8.toBitVec_inj.1
  apply BitVec.eq_of_getLsbD_eq
  intro i hi
  have h2 : (255 : Int32).toBitVec.getLsbD i = true := by
    have : ∀ j : Fin 8, (255 : Int32).toBitVec.getLsbD j.val = true := by decide +kernel
    exact this ⟨i, hi⟩
  have h4 : (x &&& 255).toBitVec.getLsbD i = x.toBitVec.getLsbD i := by
    show (x.toBitVec &&& (255 : Int32).toBitVec).getLsbD i = _
    rw [BitVec.getLsbD_and, h2, Bool.and_true]
  show ((x &&& 255).toBitVec.signExtend 8).getLsbD i = (x.toBitVec.signExtend 8).getLsbD i
  rw [BitVec.getLsbD_signExtend, BitVec.getLsbD_signExtend]
  simp [hi, show i < 32 by omega]
  have h5 := h4
  simp [BitVec.getLsbD_eq_getElem, show i < 32 by omega] at h5 ⊢
  exact h5
def byN (v : Int32) (n : Nat) : Nat := (v >>> (nI n &&& nI 31)).toBitVec.toNat % 256
theorem byN_lt (v : Int32) (n : Nat) : byN v n < 256 := Nat.mod_lt _ (by omega)
theorem by_m (v : Int32) (n : Nat) : (v >>> (nI n &&& nI 31)) &&& 255 = nI (byN v n) := pk_and _ 8 (by decide)
theorem by_c (v : Int32) {n : Nat} (hn : n ≤ 24) : vp_nar .byte ((en_ushr v (nI n)).toInt8.toInt32) = (nI (byN v n)).toInt8.toInt32 := by
  rw [← by_m, ← by_eq v hn, fa_byte_low]
  show ((en_ushr v (nI n)).toInt8.toInt32).toInt8.toInt32 = _
  rw [Int8.toInt8_toInt32]
def tAd (t : Nat × (Nat → Nat)) (j : Nat) : Nat × (Nat → Nat) := (t.1 + 1, fun i => if i = t.1 then j else t.2 i)
def tPu (t : Nat × (Nat → Nat)) (v : Int32) : Nat × (Nat → Nat) := tAd (tAd (tAd (tAd t (byN v 24)) (byN v 16)) (byN v 8)) (byN v 0)
def tOk (t : Nat × (Nat → Nat)) : Prop := ∀ i, i < t.1 → t.2 i < 256
theorem tOk_Ad {t : Nat × (Nat → Nat)} (h : tOk t) {j : Nat} (hj : j < 256) : tOk (tAd t j) := by
  intro i hi
  have hi' : i < t.1 + 1 := hi
  show (if i = t.1 then j else t.2 i) < 256
  split
  · exact hj
  · exact h i (by omega)
theorem tOk_Pu {t : Nat × (Nat → Nat)} (h : tOk t) (v : Int32) : tOk (tPu t v) := tOk_Ad (tOk_Ad (tOk_Ad (tOk_Ad h (byN_lt _ _)) (byN_lt _ _)) (byN_lt _ _)) (byN_lt _ _)
theorem m_lay1 (t : Nat × (Nat → Nat)) (f : Nat → Nat → Int32) (g : Nat → Nat → Int64) (h : MTp t f) (ht : t.1 < 700) (v : Int32) {n : Nat} (hn : n ≤ 24) : ∃ f', x_m_lays_3 (f, g) v (nI n) = x_m_lays_3 (f', g) v (nI n + (-8)) ∧ MTp (tAd t (byN v n)) f' ∧ (∀ p, p ≠ 0 → p ≠ 7 → f' p = f p) ∧ (∀ i, i ≠ 14 → f' 0 i = f 0 i) := by
  rw [e_m_lays_3, if_neg (nI_pos (by omega))]
  simp (disch := omega) only [h.1, q_in, q_clamp, if_true, q_1, q_31, nI_add]
  rw [by_m]
  refine ⟨_, rfl, ⟨u1_at _ _ _ _, fun i hi => ?_⟩, fun p a b => by rw [u1_p _ _ _ a, u1_p _ _ _ b], fun i hi => by rw [u1_ne _ _ (by omega), u1_ne _ _ (by omega)]⟩
  have hi' : i < t.1 + 1 := hi
  show _ = nI (if i = t.1 then byN v n else t.2 i)
  rw [u1_ne _ _ (by omega), u1_if]
  by_cases c : i = t.1
  · rw [if_pos c, if_pos c]
  · rw [if_neg c, if_neg c]; exact h.2 i (by omega)
theorem c_put1 (t : Nat × (Nat → Nat)) (f : Nat → Nat → Int32) (g : Nat → Nat → Int64) (h : CTp t f) (ht : t.1 < 700) (v : Int32) {n : Nat} (hn : n ≤ 24) : ∃ f', x_b_putBytes_3 (f, g) v (nI n) = x_b_putBytes_3 (f', g) v (nI n + (-8)) ∧ CTp (tAd t (byN v n)) f' ∧ (∀ p, p ≠ 31 → p ≠ 32 → f' p = f p) ∧ (∀ i, i ≠ 1 → f' 31 i = f 31 i) := by
  rw [e_b_putBytes_3, if_neg (nI_pos (by omega)), if_neg (by show ¬ (700 : Int32) ≤ f 31 1; rw [h.1]; exact nI_ge (a := t.1) (b := 700) ht (by omega))]
  simp (disch := omega) only [h.1, q_in, q_clamp, if_true, q_1, nI_add]
  rw [by_c v hn]
  refine ⟨_, rfl, ⟨u1_at _ _ _ _, fun i hi => ?_⟩, fun p a b => by rw [u1_p _ _ _ a, u1_p _ _ _ b], fun i hi => by rw [u1_ne _ _ (by omega), u1_ne _ _ (by omega)]⟩
  have hi' : i < t.1 + 1 := hi
  show _ = (nI (if i = t.1 then byN v n else t.2 i)).toInt8.toInt32
  rw [u1_ne _ _ (by omega), u1_if]
  by_cases c : i = t.1
  · rw [if_pos c, if_pos c]
  · rw [if_neg c, if_neg c]; exact h.2 i (by omega)
theorem m_lays (t : Nat × (Nat → Nat)) (f : Nat → Nat → Int32) (g : Nat → Nat → Int64) (h : MTp t f) (ht : t.1 + 4 ≤ 700) (v : Int32) : ∃ f', x_m_lays_0 (f, g) v = rV (f', g) ∧ MTp (tPu t v) f' ∧ (∀ p, p ≠ 0 → p ≠ 7 → f' p = f p) ∧ (∀ i, i ≠ 14 → f' 0 i = f 0 i) := by
  obtain ⟨f1, e1, t1, a1, b1⟩ := m_lay1 t f g h (by omega) v (n := 24) (by omega)
  obtain ⟨f2, e2, t2, a2, b2⟩ := m_lay1 _ f1 g t1 (by show t.1 + 1 < 700; omega) v (n := 16) (by omega)
  obtain ⟨f3, e3, t3, a3, b3⟩ := m_lay1 _ f2 g t2 (by show t.1 + 1 + 1 < 700; omega) v (n := 8) (by omega)
  obtain ⟨f4, e4, t4, a4, b4⟩ := m_lay1 _ f3 g t3 (by show t.1 + 1 + 1 + 1 < 700; omega) v (n := 0) (by omega)
  refine ⟨f4, ?_, t4, fun p a b => by rw [a4 p a b, a3 p a b, a2 p a b, a1 p a b], fun i hi => by rw [b4 i hi, b3 i hi, b2 i hi, b1 i hi]⟩
  rw [show nI 24 + (-8) = nI 16 by decide] at e1
  rw [show nI 16 + (-8) = nI 8 by decide] at e2
  rw [show nI 8 + (-8) = nI 0 by decide] at e3
  rw [e_m_lays_0, show x_m_lays_3 (f, g) v 24 = _ from e1, e2, e3, e4, e_m_lays_3, if_pos (by decide)]
  rfl
theorem c_put (t : Nat × (Nat → Nat)) (f : Nat → Nat → Int32) (g : Nat → Nat → Int64) (h : CTp t f) (ht : t.1 + 4 ≤ 700) (v : Int32) : ∃ f', x_b_putBytes_0 (f, g) v = rV (f', g) ∧ CTp (tPu t v) f' ∧ (∀ p, p ≠ 31 → p ≠ 32 → f' p = f p) ∧ (∀ i, i ≠ 1 → f' 31 i = f 31 i) := by
  obtain ⟨f1, e1, t1, a1, b1⟩ := c_put1 t f g h (by omega) v (n := 24) (by omega)
  obtain ⟨f2, e2, t2, a2, b2⟩ := c_put1 _ f1 g t1 (by show t.1 + 1 < 700; omega) v (n := 16) (by omega)
  obtain ⟨f3, e3, t3, a3, b3⟩ := c_put1 _ f2 g t2 (by show t.1 + 1 + 1 < 700; omega) v (n := 8) (by omega)
  obtain ⟨f4, e4, t4, a4, b4⟩ := c_put1 _ f3 g t3 (by show t.1 + 1 + 1 + 1 < 700; omega) v (n := 0) (by omega)
  refine ⟨f4, ?_, t4, fun p a b => by rw [a4 p a b, a3 p a b, a2 p a b, a1 p a b], fun i hi => by rw [b4 i hi, b3 i hi, b2 i hi, b1 i hi]⟩
  rw [show nI 24 + (-8) = nI 16 by decide] at e1
  rw [show nI 16 + (-8) = nI 8 by decide] at e2
  rw [show nI 8 + (-8) = nI 0 by decide] at e3
  rw [e_b_putBytes_0, show x_b_putBytes_3 (f, g) v 24 = _ from e1, e2, e3, e4, e_b_putBytes_3, if_pos (by decide)]
  rfl
theorem q_feed {A : mu_A} {f : Nat → Nat → Int32} (ok : AOK A) (hM : MRel A f) (hC : CRel A f) (v1 v2 v3 v4 v5 : Int32) : Mt A f (fun σ => x_b_feed_0 σ v1 v2 v3 v4 v5) (fun σ => x_m_feed_0 σ v1 v2 v3 v4 v5) id := by
  have lo := ok.1
  have t7 := ok.2.2.2.2.2.2.2.1
  have t8 : tOk (aT A) := ok.2.2.2.2.2.2.2.2
  have hT := hC.2.2.2.2.2.2.1
  have e20 : ∀ n, nI n + (20 : Int32) = nI (n + 20) := fun n => by rw [show (20 : Int32) = nI 20 by decide, nI_add]
  by_cases c : (aT A).1 + 20 ≤ 700
  · refine Mt_val (A' := uT A (tPu (tPu (tPu (tPu (tPu (aT A) v1) v2) v3) v4) v5)) ok ?_ hM rfl (nI ((aT A).1 + 20)) ?_ ?_
    · exact ⟨ok.1, ok.2.1, ok.2.2.1, ok.2.2.2.1, ok.2.2.2.2.1, ok.2.2.2.2.2.1, ok.2.2.2.2.2.2.1, c, tOk_Pu (tOk_Pu (tOk_Pu (tOk_Pu (tOk_Pu t8 _) _) _) _) _⟩
    · intro g
      show ∃ f1, x_b_feed_0 (f, g) v1 v2 v3 v4 v5 = rI _ (f1, g) ∧ _
      obtain ⟨f1, e1, t1, a1, b1⟩ := c_put (aT A) f g hT (by omega) v1
      obtain ⟨f2, e2, t2, a2, b2⟩ := c_put _ f1 g t1 (by show (aT A).1 + 4 + 4 ≤ 700; omega) v2
      obtain ⟨f3, e3, t3, a3, b3⟩ := c_put _ f2 g t2 (by show (aT A).1 + 4 + 4 + 4 ≤ 700; omega) v3
      obtain ⟨f4, e4, t4, a4, b4⟩ := c_put _ f3 g t3 (by show (aT A).1 + 4 + 4 + 4 + 4 ≤ 700; omega) v4
      obtain ⟨f5, e5, t5, a5, b5⟩ := c_put _ f4 g t4 (by show (aT A).1 + 4 + 4 + 4 + 4 + 4 ≤ 700; omega) v5
      have a : ∀ p, p ≠ 31 → p ≠ 32 → f5 p = f p := fun p x y => by rw [a5 p x y, a4 p x y, a3 p x y, a2 p x y, a1 p x y]
      have b : ∀ i, i ≠ 1 → f5 31 i = f 31 i := fun i x => by rw [b5 i x, b4 i x, b3 i x, b2 i x, b1 i x]
      rw [e_b_feed_0, if_pos (by show f 31 1 + 20 ≤ 700; rw [hT.1, e20]; exact nI_le (a := (aT A).1 + 20) (b := 700) c (by omega)), e1, c_V, e2, c_V, e3, c_V, e4, c_V, e5, c_V]
      refine ⟨f5, ?_, fun p hp => a p (by omega) (by omega), ?_⟩
      · show rI (f5 31 1) (f5, g) = _
        rw [t5.1]; rfl
      · obtain ⟨h1, h2, h3, h4, h5, h6, h7, h8, h9⟩ := hC
        exact ⟨CLd_of h1 (fun p _ _ _ => a p (by omega) (by omega)), CGd_of h2 (fun p _ _ => a p (by omega) (by omega)), CRw_of h3 (by rw [a 67 (by omega) (by omega)]) (fun p _ _ => a p (by omega) (by omega)), hPs_of lo h4 (by rw [a 79 (by omega) (by omega)]) (a 80 (by omega) (by omega)), cSn_of h5 (fun p _ _ => a p (by omega) (by omega)), CIm_of lo h6 (b 11 (by omega)) (fun p _ _ => a p (by omega) (by omega)), t5, by rw [a 33 (by omega) (by omega)]; exact h8, by rw [b 2 (by omega)]; exact h9⟩
    · intro f0 f2 g M0 h0 e0
      show ∃ f3, x_m_feed_0 (f2, g) v1 v2 v3 v4 v5 = rI _ (f3, g) ∧ _
      have hT0 := M0.2.2.2.2.2.2.1
      have x14 : f2 0 14 = nI (aT A).1 := by rw [← hT0.1, e0, u1_ne _ _ (by omega)]
      obtain ⟨f1, e1, t1, a1, b1⟩ := m_lays (aT A) f0 g hT0 (by omega) v1
      obtain ⟨f2', e2, t2, a2, b2⟩ := m_lays _ f1 g t1 (by show (aT A).1 + 4 + 4 ≤ 700; omega) v2
      obtain ⟨f3, e3, t3, a3, b3⟩ := m_lays _ f2' g t2 (by show (aT A).1 + 4 + 4 + 4 ≤ 700; omega) v3
      obtain ⟨f4, e4, t4, a4, b4⟩ := m_lays _ f3 g t3 (by show (aT A).1 + 4 + 4 + 4 + 4 ≤ 700; omega) v4
      obtain ⟨f5, e5, t5, a5, b5⟩ := m_lays _ f4 g t4 (by show (aT A).1 + 4 + 4 + 4 + 4 + 4 ≤ 700; omega) v5
      have a : ∀ p, p ≠ 0 → p ≠ 7 → f5 p = f0 p := fun p x y => by rw [a5 p x y, a4 p x y, a3 p x y, a2 p x y, a1 p x y]
      have b : ∀ i, i ≠ 14 → f5 0 i = f0 0 i := fun i x => by rw [b5 i x, b4 i x, b3 i x, b2 i x, b1 i x]
      rw [e_m_feed_0, if_pos (by show f2 0 14 + 20 ≤ 700; rw [x14, e20]; exact nI_le (a := (aT A).1 + 20) (b := 700) c (by omega))]
      dsimp only
      rw [← e0, e1, c_V, e2, c_V, e3, c_V, e4, c_V, e5, c_V]
      refine ⟨f5, ?_, by rw [b 0 (by omega)]; exact h0, ?_, fun p hp => a p (by omega) (by omega)⟩
      · show rI (f5 0 14) (f5, g) = _
        rw [t5.1]; rfl
      · obtain ⟨h1, h2, h3, h4, h5, h6, h7, h8, h9⟩ := M0
        exact ⟨MLd_of h1 (fun j _ => b j (by omega)) (fun p _ _ => a p (by omega) (by omega)), MGd_of h2 (b 1 (by omega)) (b 2 (by omega)) (a 1 (by omega) (by omega)), MRw_of h3 (fun j _ _ => by rw [a 18 (by omega) (by omega)]) lo, hPs_of lo h4 (b 47 (by omega)) (a 19 (by omega) (by omega)), mSn_of h5 (b 55 (by omega)) (a 24 (by omega) (by omega)), MIm_of lo h6 (fun i _ _ => b i (by omega)) (fun p _ _ => a p (by omega) (by omega)), t5, by rw [a 8 (by omega) (by omega)]; exact h8, by rw [b 16 (by omega)]; exact h9⟩
  · refine Qn_Mt ok hM hC (Qn_val ok hM rfl nN ?_ ?_)
    · intro g
      refine ⟨f, ?_, QC_refl f⟩
      show x_b_feed_0 (f, g) v1 v2 v3 v4 v5 = _
      rw [e_b_feed_0, if_neg (by show ¬ f 31 1 + 20 ≤ 700; rw [hT.1, e20]; exact nI_ge (a := 700) (b := (aT A).1 + 20) (by omega) (by omega))]
      rfl
    · intro f0 f2 g M0 h0 e0
      refine ⟨f0, ?_, h0, QM_refl f0⟩
      show x_m_feed_0 (f2, g) v1 v2 v3 v4 v5 = _
      have x14 : f2 0 14 = nI (aT A).1 := by rw [← M0.2.2.2.2.2.2.1.1, e0, u1_ne _ _ (by omega)]
      rw [e_m_feed_0, if_neg (by show ¬ f2 0 14 + 20 ≤ 700; rw [x14, e20]; exact nI_ge (a := 700) (b := (aT A).1 + 20) (by omega) (by omega)), e0]
      rfl
