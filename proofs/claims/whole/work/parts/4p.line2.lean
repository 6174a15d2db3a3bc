/-! lines: unknown ones, towns, rules -/
theorem c_line {X : mu_X} (xo : XOK X) {c : Nat} (f : Nat → Nat → Int32) (g : Nat → Nat → Int64) (h : CT X c f) : x_rd_readLine_0 (f, g) = if kW X c = 7 then en_cV (x_rd_readTowns_0 (f, g)) (fun σ => some (.inl none, σ)) (fun e σ => some (.inr e, σ)) else if kW X c = 8 then en_cV (x_rd_readRoad_0 (f, g)) (fun σ => some (.inl none, σ)) (fun e σ => some (.inr e, σ)) else if kW X c = 9 then en_cV (x_rd_readBox_0 (f, g)) (fun σ => some (.inl none, σ)) (fun e σ => some (.inr e, σ)) else if kW X c = 10 then en_cV (x_rd_readBearer_0 (f, g)) (fun σ => some (.inl none, σ)) (fun e σ => some (.inr e, σ)) else if kW X c = 12 then en_cV (x_rd_readRule_p60_0 (f, g)) (fun σ => some (.inl none, σ)) (fun e σ => some (.inr e, σ)) else if kW X c = 13 then en_cV (x_rd_readRule_p63_0 (f, g)) (fun σ => some (.inl none, σ)) (fun e σ => some (.inr e, σ)) else en_cV (x_rd_refuse_0 (f, g) 1) (fun σ => some (.inl none, σ)) (fun e σ => some (.inr e, σ)) := by
  rw [e_rd_readLine_0, c_w7 xo f g h, c_I]
  by_cases k7 : kW X c = 7
  · rw [if_pos k7, if_neg (tb_y (decide_eq_true k7))]
  rw [if_neg k7, if_pos (tb_n (decide_eq_false k7)), c_w8 xo f g h, c_I]
  by_cases k8 : kW X c = 8
  · rw [if_pos k8, if_neg (tb_y (decide_eq_true k8))]
  rw [if_neg k8, if_pos (tb_n (decide_eq_false k8)), c_w9 xo f g h, c_I]
  by_cases k9 : kW X c = 9
  · rw [if_pos k9, if_neg (tb_y (decide_eq_true k9))]
  rw [if_neg k9, if_pos (tb_n (decide_eq_false k9)), c_w10 xo f g h, c_I]
  by_cases k10 : kW X c = 10
  · rw [if_pos k10, if_neg (tb_y (decide_eq_true k10))]
  rw [if_neg k10, if_pos (tb_n (decide_eq_false k10)), c_w12 xo f g h, c_I]
  by_cases k12 : kW X c = 12
  · rw [if_pos k12, if_neg (tb_y (decide_eq_true k12))]
  rw [if_neg k12, if_pos (tb_n (decide_eq_false k12)), c_w13 xo f g h, c_I]
  by_cases k13 : kW X c = 13
  · rw [if_pos k13, if_neg (tb_y (decide_eq_true k13))]
  rw [if_neg k13, if_pos (tb_n (decide_eq_false k13))]
theorem cV_id {o : Option en_O} {σ : en_S} (h : o = rV σ) : en_cV o (fun σ => some (.inl none, σ)) (fun e σ => some (.inr e, σ)) = rV σ := by rw [h, c_V]; rfl
theorem m_lineK {X : mu_X} (xo : XOK X) {c : Nat} (hc : c ≤ X.1) (f : Nat → Nat → Int32) (g : Nat → Nat → Int64) (h : MT X c f g) : x_m_knownWord_0 (f, g) = rI (kI (kW X c)) (f, g) := m_known xo f g h hc
/-- another word, or none -/
theorem ln_oth {X : mu_X} (xo : XOK X) {c : Nat} {D : mu_Dr} (hc : c ≤ X.1) (h7 : kW X c ≠ 7) (h8 : kW X c ≠ 8) (h9 : kW X c ≠ 9) (h10 : kW X c ≠ 10) (h12 : kW X c ≠ 12) (h13 : kW X c ≠ 13) : Pl X c D := by
  refine ⟨.inr (1, tS X c), ⟨by show 1 ≤ 1 ∧ 1 ≤ 5; omega, tS7 xo hc⟩, fun f g h => ?_, fun f g t h => ?_⟩
  · refine ⟨_, ?_, CFt_ref (k := 1) h.1⟩
    rw [c_line xo f g h.1, if_neg h7, if_neg h8, if_neg h9, if_neg h10, if_neg h12, if_neg h13]
    exact cV_id (c_rdRefuse f g (nI 1))
  · refine ⟨_, _, ?_, MFt_wr (k := 1) h.1⟩
    rw [e_m_line_0, m_known xo f g h.1 hc, c_I, if_neg (by rw [q_7, kI_eq (by omega)]; exact h7), if_neg (by rw [q_8, kI_eq (by omega)]; exact h8), if_neg (by rw [q_9, kI_eq (by omega)]; exact h9), if_neg (by rw [q_10, kI_eq (by omega)]; exact h10), if_neg (by rw [q_12, kI_eq (by omega)]; exact h12), if_neg (by rw [q_13, kI_eq (by omega)]; exact h13), show x_m_wrong_0 (f, g) 1 = _ from m_wrong f g h.2.1 (nI 1), c_V]
/-- towns -/
theorem ln_towns {X : mu_X} (xo : XOK X) {c : Nat} {D : mu_Dr} (ok : DOK D) (hc : c ≤ X.1) (hk : kW X c = 7) : Pl X c D := by
  obtain ⟨lo, go, to, wo, ho, an, tn⟩ := id ok
  have k1 := kW_1 (X := X) (c := c) (by omega)
  have cg := tE_c' (X := X) (c := c) (by omega)
  have ce := tE_le hc
  have cls : ∀ f g, CS X c D f → x_rd_readLine_0 (f, g) = en_cV (x_rd_readTowns_0 (f, g)) (fun σ => some (.inl none, σ)) (fun e σ => some (.inr e, σ)) := fun f g h => by rw [c_line xo f g h.1, if_pos hk]
  have mod : ∀ f g t, MS X c D t f g → x_m_line_0 (f, g) = en_cI (x_m_begins_0 (f, g) 0 (tb (oAn D)) (tb (oTo D).isSome)) (fun r4 σ3 => if r4 = 0 then x_m_line_249 σ3 else en_cI (x_m_number_0 σ3 2 8) (fun r6 σ5 => x_m_line_249 (en_u1 σ5.1 0 27 r6, σ5.2)) (fun e σ => some (.inr e, σ))) (fun e σ => some (.inr e, σ)) := by
    intro f g t h
    have h26 : f 0 26 = tb (oAn D) := h.2.2.2.1.2.1
    have h27 : f 0 27 = dTo (oTo D) := h.2.2.2.1.1
    rw [e_m_line_0, m_known xo f g h.1 hc, c_I, hk, if_pos (by decide)]
    cases hq : oTo D with
    | none =>
      rw [hq] at h27
      rw [if_pos (show f 0 27 = -1 from h27)]
      show en_cI (x_m_begins_0 (f, g) 0 (f 0 26) 0) _ _ = _
      rw [h26]
      rfl
    | some n =>
      rw [hq] at h27 tn
      have tn' : (oGd D).1 = n := tn
      have hne : ¬ nI n = nN := by rw [q_nNe (by have := go.2.1; omega)]; exact id
      rw [if_neg (show ¬ f 0 27 = -1 by rw [h27]; exact hne)]
      show en_cI (x_m_begins_0 (f, g) 0 (f 0 26) 1) _ _ = _
      rw [h26]
      rfl
  cases ha : oAn D with
  | true =>
    refine ⟨.inr (4, tS X c), ⟨by show 1 ≤ 4 ∧ 4 ≤ 5; omega, tS7 xo hc⟩, fun f g h => ?_, fun f g t h => ?_⟩
    · refine ⟨_, ?_, CFt_ref (k := 4) h.1⟩
      have h8 : f 66 8 = tb true := by rw [← ha]; exact h.2.2.2.2.1
      rw [cls f g h]
      refine cV_id ?_
      rw [e_rd_readTowns_0, if_neg (show ¬ f 66 8 = 0 by rw [h8]; decide)]
      exact cV_id (c_rdRefuse f g (nI 4))
    · refine ⟨_, _, ?_, MFt_wr (k := 4) h.1⟩
      rw [mod f g t h, ha, show x_m_begins_0 (f, g) 0 (tb true) (tb (oTo D).isSome) = _ from m_beg4 f g h.2.1 (tb (oTo D).isSome), c_I, if_pos rfl]
  | false =>
    cases hq : oTo D with
    | some n =>
      refine ⟨.inr (5, tS X c), ⟨by show 1 ≤ 5 ∧ 5 ≤ 5; omega, tS7 xo hc⟩, fun f g h => ?_, fun f g t h => ?_⟩
      · refine ⟨_, ?_, CFt_ref (k := 5) h.1⟩
        have h8 : f 66 8 = tb false := by rw [← ha]; exact h.2.2.2.2.1
        have h7 : f 66 7 = tb (oTo D).isSome := h.2.2.2.1
        rw [hq] at h7
        rw [cls f g h]
        refine cV_id ?_
        rw [e_rd_readTowns_0, if_pos (show f 66 8 = 0 by rw [h8]; decide), if_neg (show ¬ f 66 7 = 0 by rw [h7]; exact tb_y rfl)]
        exact cV_id (c_rdRefuse f g (nI 5))
      · refine ⟨_, _, ?_, MFt_wr (k := 5) h.1⟩
        rw [mod f g t h, ha, hq, show x_m_begins_0 (f, g) 0 (tb false) (tb (some n).isSome) = _ from m_beg5 f g h.2.1, c_I, if_pos rfl]
    | none =>
      obtain ⟨z1, z2⟩ := an ha
      have nu := nuF_c X (tE X c) 2 8
      have cls2 : ∀ f g, CS X c D f → ∃ f1, x_rd_readTowns_0 (f, g) = en_cI (x_rd_readNumber_0 (f1, g) 2 8) (fun r3 σ2 => some (.inl none, (en_u1 σ2.1 50 0 r3, σ2.2))) (fun e σ => some (.inr e, σ)) ∧ CT X (tE X c) f1 ∧ f1 66 7 = nI 1 ∧ (∀ p i, (p ≠ 66 ∨ i < 3 ∨ i = 8 ∨ i = 9 ∨ i = 10) → f1 p i = f p i) := by
        intro f g h
        have h8 : f 66 8 = tb false := by rw [← ha]; exact h.2.2.2.2.1
        have h7 : f 66 7 = tb (oTo D).isSome := h.2.2.2.1
        rw [hq] at h7
        have hT1 : CT X c (en_u1 f 66 7 1) := CT_of h.1 (fun i _ _ => u1_ne _ _ (by omega)) (fun i => u1_ne _ _ (by omega))
        obtain ⟨f1, a1, a2, a3⟩ := c_next xo (en_u1 f 66 7 1) g ce hT1.1 hT1.2.2.1
        refine ⟨f1, ?_, a2, by rw [a3 66 7 (by omega), u1_at]; rfl, fun p i a => by rw [a3 p i (by omega), u1_ne _ _ (by omega)]⟩
        rw [e_rd_readTowns_0, if_pos (show f 66 8 = 0 by rw [h8]; decide), if_pos (show f 66 7 = 0 by rw [h7]; decide), a1, c_V]
      have mod2 : ∀ f g t, MS X c D t f g → ∃ f1 g1, x_m_line_0 (f, g) = en_cI (x_m_number_0 (f1, g1) 2 8) (fun r6 σ5 => x_m_line_249 (en_u1 σ5.1 0 27 r6, σ5.2)) (fun e σ => some (.inr e, σ)) ∧ MS X (tE X c) D t f1 g1 ∧ MN f f1 ∧ ∀ q, q ≠ 0 → g1 q = g q := by
        intro f g t h
        obtain ⟨f1, g1, a1, a2, a3, a4⟩ := m_begY xo lo hc f g h
        refine ⟨f1, g1, ?_, a2, a3, a4⟩
        rw [mod f g t h, ha, hq, show x_m_begins_0 (f, g) 0 (tb false) (tb (none : Option Nat).isSome) = _ from a1, c_I, if_neg i10]
      by_cases n0 : nuF X (tE X c) 2 8 = 0
      · obtain ⟨v1, v2, v3, v4⟩ := nu.2 n0
        have cg2 := tE_c' (X := X) (c := tE X c) (by omega)
        refine ⟨.inl (tE X (tE X c), (some (tV X (tE X c)), false, oLd D, (tV X (tE X c), (oGd D).2), oWt D, oHd D)), ⟨tE_le ce, by show c < tE X (tE X c); omega, ?_⟩, fun f g h => ?_, fun f g t h => ?_⟩
        · refine ⟨lo, ⟨v3, v4, go.2.2.1, fun i hi => ?_, fun i j hi => ?_⟩, fun x hx => ?_, wo, ho, fun _ => ⟨z1, z2⟩, rfl⟩
          · have hi' : i < (oGd D).2.1 := hi
            omega
          · have hi' : i < (oGd D).2.1 := hi
            omega
          · have hx' : x < lB (oLd D) := hx
            omega
        · obtain ⟨f1, a1, a2, a3, a4⟩ := cls2 f g h
          obtain ⟨f2, b1, b2, b3⟩ := (c_number xo f1 g ce a2 (by rw [a4 66 9 (by omega)]; exact h.2.1) (lo := 2) (hi := 8) (by omega) (by omega)).1 n0
          obtain ⟨h1, h2, h3, h4, h5, h6, h7, h8, h9, h10, h11, h12⟩ := h.2.2.2
          have F : ∀ p i, (p ≠ 66 ∨ i = 8 ∨ i = 9 ∨ i = 10) → (p ≠ 50 ∨ i ≠ 0) → en_u1 f2 50 0 (nI (tV X (tE X c))) p i = f p i := fun p i k1 k2 => by rw [u1_ne _ _ (by omega), b3 p i (by omega), a4 p i (by omega)]
          refine ⟨en_u1 f2 50 0 (nI (tV X (tE X c))), ?_, ⟨CT_of b2 (fun i _ _ => u1_ne _ _ (by omega)) (fun i => u1_ne _ _ (by omega)), ?_, ?_, ?_, ?_, u1_at _ _ _ _, ?_, fun i hi => ?_, ?_, ?_, fun x hx => ?_, fun x hx => ?_, fun p hp => ?_, ?_, ?_⟩, fun p i k => F p i (by omega) (by omega)⟩
          · rw [cls f g h]
            refine cV_id ?_
            rw [a1, show x_rd_readNumber_0 (f1, g) 2 8 = _ from b1, c_I]
            rfl
          · rw [F 66 9 (by omega) (by omega)]; exact h.2.1
          · rw [F 66 10 (by omega) (by omega)]; exact h.2.2.1
          · rw [u1_ne _ _ (by omega), b3 66 7 (by omega), a3]; rfl
          · rw [F 66 8 (by omega) (by omega), h2, ha]; rfl
          · rw [F 50 1 (by omega) (by omega)]; exact h4
          · have hi' : i < (oGd D).2.1 := hi
            omega
          · rw [F 50 5 (by omega) (by omega)]; exact h6
          · rw [F 50 9 (by omega) (by omega)]; exact h7
          · have hx' : x < lB (oLd D) := hx
            omega
          · have hx' : x < lB (oLd D) := hx
            omega
          · rw [F 57 p (by omega) (by omega), F 58 p (by omega) (by omega), F 59 p (by omega) (by omega)]; exact h10 p hp
          · exact cRq_of (fun p i a => F p i (by omega) (by omega)) _ h11
          · exact cRq_of (fun p i a => F p i (by omega) (by omega)) _ h12
        · obtain ⟨f1, g1, a1, a2, a3, a4⟩ := mod2 f g t h
          obtain ⟨f2, g2, b1, b2, b3, b4⟩ := (m_number xo f1 g1 ce a2.1 a2.2.1 (lo := 2) (hi := 8) (by omega) (by omega)).1 n0
          have M2 := MS_MN lo a2 b2 b3 (by omega)
          obtain ⟨h1, h2, h3, h4, h5, h6, h7, h8, h9, h10, h11, h12, h13⟩ := M2.2.2.2.1
          have F : ∀ p i, (p ≠ 0 ∨ i ≠ 27) → en_u1 f2 0 27 (nI (tV X (tE X c))) p i = f2 p i := fun p i k => u1_ne _ _ (by omega)
          refine ⟨en_u1 f2 0 27 (nI (tV X (tE X c))), g2, ?_, ⟨t, MT_of M2.1 (fun i _ _ => F _ _ (by omega)) (fun i => F _ _ (by omega)), ?_, ?_, ⟨u1_at _ _ _ _, ?_, ?_, ?_, ?_, ?_, ?_, ?_, ⟨fun i hi => ?_, fun a b ha hb => ?_⟩, ?_, fun x hx => ?_, fun x hx => ?_, fun p hp => ?_⟩, M2.2.2.2.2⟩, MF_trans (MF_MN a3) (MF_trans (MF_MN b3) (MF_u0 _ _ (by omega))), fun q hq => (b4 q hq).trans (a4 q hq)⟩
          · rw [a1, show x_m_number_0 (f1, g1) 2 8 = _ from b1, c_I]
          · rw [F _ _ (by omega)]; exact M2.2.1
          · rw [F _ _ (by omega)]; exact M2.2.2.1
          · rw [F _ _ (by omega), h2, ha]; rfl
          · rw [F _ _ (by omega)]; exact h3
          · rw [F _ _ (by omega)]; exact h4
          · rw [F _ _ (by omega)]; exact h5
          · rw [F _ _ (by omega)]; exact h6
          · rw [F 0 31 (by omega)]; exact mRq_of (Nat.le_refl _) (fun i _ => F 15 i (by omega)) _ h7
          · rw [F 0 32 (by omega)]; exact mRq_of (Nat.le_refl _) (fun i _ => F 15 i (by omega)) _ h8
          · have hi' : i < (oGd D).2.1 := hi
            omega
          · rw [F 9 _ (by omega)]
            rcases h9.2 a b ha hb with k | ⟨i, i1, i2⟩
            · exact Or.inl k
            · omega
          · rw [F 14 0 (by omega)]; exact h10
          · have hx' : x < lB (oLd D) := hx
            omega
          · have hx' : x < lB (oLd D) := hx
            omega
          · rw [F 12 p (by omega), F 13 p (by omega), F 14 _ (by omega), F 14 _ (by omega)]; exact h13 p hp
      · refine ⟨.inr (nuF X (tE X c) 2 8, tS X (tE X c)), ⟨by show 1 ≤ nuF X (tE X c) 2 8 ∧ nuF X (tE X c) 2 8 ≤ 5; omega, tS7 xo ce⟩, fun f g h => ?_, fun f g t h => ?_⟩
        · obtain ⟨f1, a1, a2, a3, a4⟩ := cls2 f g h
          have b1 := (c_number xo f1 g ce a2 (by rw [a4 66 9 (by omega)]; exact h.2.1) (lo := 2) (hi := 8) (by omega) (by omega)).2 n0
          refine ⟨_, ?_, CFt_u (CFt_of (CFt_ref (k := nuF X (tE X c) 2 8) a2) (fun p i k => a4 p i (by omega))) (p := 50) (i := 0) (f1 66 6) (by omega)⟩
          rw [cls f g h]
          refine cV_id ?_
          rw [a1, show x_rd_readNumber_0 (f1, g) 2 8 = _ from b1, c_I]
          rfl
        · obtain ⟨f1, g1, a1, a2, a3, a4⟩ := mod2 f g t h
          obtain ⟨v, b1⟩ := (m_number xo f1 g1 ce a2.1 a2.2.1 (lo := 2) (hi := 8) (by omega) (by omega)).2 n0
          refine ⟨en_u1 (en_u1 (en_u1 f1 0 15 (nI (nuF X (tE X c) 2 8))) 0 16 (f1 0 21)) 0 27 v, g1, ?_, ?_⟩
          · rw [a1, show x_m_number_0 (f1, g1) 2 8 = _ from b1, c_I]
          · have w := MFt_of (MFt_wr (k := nuF X (tE X c) 2 8) a2.1) (MF_MN a3) a4
            exact ⟨by rw [u1_ne _ _ (by omega)]; exact w.1, by rw [u1_ne _ _ (by omega)]; exact w.2.1, MF_trans w.2.2.1 (MF_u0 _ _ (by omega)), w.2.2.2⟩
