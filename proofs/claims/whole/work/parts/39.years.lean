/-! years -/
def dS (s : Int32) : Int32 := s * 1103515245 + 12345
def dV (s : Int32) : Nat := (dS s >>> (nI 16 &&& nI 31)).toBitVec.toNat % 32768
theorem b_32767 (i : Nat) (h : i < 32) : bt 32767 i = decide (i < 15) := (by decide +kernel : ∀ i, i < 32 → bt 32767 i = decide (i < 15)) i h
theorem dV_m (s : Int32) : (dS s >>> (nI 16 &&& nI 31)) &&& 32767 = nI (dV s) := pk_and _ 15 (by decide)
theorem dV_c (s : Int32) : en_ushr (dS s) (nI 16) &&& 32767 = nI (dV s) := by
  rw [← dV_m]
  apply b_ext
  intro i hi
  rw [b_and, b_and, b_32767 i hi]
  by_cases c : i < 15
  · rw [b_ushr 16 (by omega), b_sshr 16 (by omega) _ hi (by omega)]
  · rw [decide_eq_false c, Bool.and_false, Bool.and_false]
theorem dV_lt (s : Int32) : dV s < 32768 := Nat.mod_lt _ (by omega)
theorem m_draw (f : Nat → Nat → Int32) (g : Nat → Nat → Int64) {n : Nat} (h0 : 0 < n) (hn : n < 1000) : x_m_draw_0 (f, g) (nI n) = rI (nI (dV (f 0 59) % n)) (en_u1 f 0 59 (dS (f 0 59)), g) := by
  have h := dV_lt (f 0 59)
  rw [e_m_draw_0, if_neg (nI_ne0 h0 (by omega))]
  have e : (((f, g).1 0 59 * 1103515245 + 12345) >>> ((16 : Int32) &&& 31)) &&& 32767 = nI (dV (f 0 59)) := dV_m (f 0 59)
  rw [e, pk_rem (by omega) h0 (by omega)]
  rfl
theorem c_draw (f : Nat → Nat → Int32) (g : Nat → Nat → Int64) {n : Nat} (h0 : 0 < n) (hn : n < 1000) : x_dr_drawOf_0 (f, g) (nI n) = rI (nI (dV (f 104 0) % n)) (en_u1 f 104 0 (dS (f 104 0)), g) := by
  have h := dV_lt (f 104 0)
  rw [e_dr_drawOf_0, if_pos (show (1 : Int32) ≤ nI n from nI_le (a := 1) (b := n) h0 (by omega)), if_neg (nI_ne0 h0 (by omega))]
  have e : en_ushr ((f, g).1 104 0 * 1103515245 + 12345) 16 &&& 32767 = nI (dV (f 104 0)) := dV_c (f 104 0)
  rw [e, pk_rem (by omega) h0 (by omega)]
  rfl
/-- what happens on a day of the years -/
def hP (Λ : mu_Ld) (q : mu_Rw × Int32) : mu_Rw × Int32 :=
  if 3 < dV q.2 % 6 ∨ lB Λ = 0 ∨ lP Λ = 0 then (q.1, dS q.2)
  else if 2 ≤ dV q.2 % 6 then
    (wW q.1 (dV (dS q.2) % lB Λ) (sIn (rW q.1 (dV (dS q.2) % lB Λ) + (if dV q.2 % 6 = 2 then -nI (dV (dS (dS q.2)) % 10 + 1) else nI (dV (dS (dS q.2)) % 10 + 1))) (nI 1) (nI 99)), dS (dS (dS q.2)))
  else if dV q.2 % 6 = 0 then (wU q.1 (dV (dS q.2) % lP Λ) (nI (dV (dS (dS q.2)) % lB Λ)), dS (dS (dS q.2)))
  else (wU q.1 (dV (dS q.2) % lP Λ) nN, dS (dS q.2))
theorem rOK_hP {Λ : mu_Ld} {q : mu_Rw × Int32} (ro : rOK Λ q.1) : rOK Λ (hP Λ q).1 := by
  unfold hP
  split
  · exact ro
  · rename_i h
    have hb : 0 < lB Λ := by omega
    split
    · exact rOK_in ro _ _
    · split
      · exact rOK_wU ro (Or.inr ⟨_, Nat.mod_lt _ hb, rfl⟩)
      · exact rOK_wU ro (Or.inl rfl)
theorem m_happens {Λ : mu_Ld} {r : mu_Rw} (f : Nat → Nat → Int32) (g : Nat → Nat → Int64) (lo : lOK Λ) (hL : MLd Λ f) (hR : MRw Λ 29 r f) : ∃ f', x_m_happens_0 (f, g) = rV (f', g) ∧ MRw Λ 29 (hP Λ (r, f 0 59)).1 f' ∧ f' 0 59 = (hP Λ (r, f 0 59)).2 ∧ (∀ p, p ≠ 0 → p ≠ 18 → f' p = f p) ∧ (∀ i, i ≠ 59 → f' 0 i = f 0 i) ∧ (∀ i, i < 29 → f' 18 i = f 18 i) := by
  have l1 := lo.1
  have l2 := lo.2.1
  have hB : f 0 3 = nI (lB Λ) := hL.1
  have hPp : f 0 4 = nI (lP Λ) := hL.2.1
  generalize hs : f 0 59 = s
  have d1 := m_draw f g (n := 6) (by omega) (by omega)
  rw [hs] at d1
  rw [e_m_happens_0, show x_m_draw_0 (f, g) 6 = _ from d1, c_I]
  unfold hP
  have h6 : dV s % 6 < 6 := Nat.mod_lt _ (by omega)
  have q0 : ∀ i, i ≠ 59 → en_u1 f 0 59 (dS s) 0 i = f 0 i := fun i hi => u1_ne _ _ (by omega)
  have R1 : MRw Λ 29 r (en_u1 f 0 59 (dS s)) := MRw_of hR (fun i _ _ => u1_ne _ _ (by omega)) lo
  by_cases c1 : 3 < dV s % 6 ∨ lB Λ = 0 ∨ lP Λ = 0
  · rw [if_pos c1]
    refine ⟨en_u1 f 0 59 (dS s), ?_, R1, u1_at _ _ _ _, fun p a b => u1_p _ _ _ a, q0, fun i hi => u1_ne _ _ (by omega)⟩
    simp (disch := omega) only [q_3, q_ltI]
    by_cases a : 3 < dV s % 6
    · rw [if_pos a]; rfl
    · rw [if_neg a]
      by_cases b : lB Λ = 0
      · rw [if_pos (by show en_u1 f 0 59 (dS s) 0 3 = 0; rw [q0 3 (by omega), hB, b]; rfl)]; rfl
      · rw [if_neg (by show ¬ en_u1 f 0 59 (dS s) 0 3 = 0; rw [q0 3 (by omega), hB]; exact nI_ne0 (by omega) (by omega)), if_pos (by show en_u1 f 0 59 (dS s) 0 4 = 0; rw [q0 4 (by omega), hPp, show lP Λ = 0 by omega]; rfl)]; rfl
  · rw [if_neg c1]
    have hb0 : 0 < lB Λ := by omega
    have hp0 : 0 < lP Λ := by omega
    have hx : dV (dS s) % lB Λ < lB Λ := Nat.mod_lt _ hb0
    have hp : dV (dS s) % lP Λ < lP Λ := Nat.mod_lt _ hp0
    simp (disch := omega) only [q_3, q_ltI, q_2, q_leI, q_eqI, q_0]
    rw [if_neg (by omega), if_neg (by show ¬ en_u1 f 0 59 (dS s) 0 3 = nI 0; rw [q0 3 (by omega), hB]; exact nI_ne0 (by omega) (by omega)), if_neg (by show ¬ en_u1 f 0 59 (dS s) 0 4 = nI 0; rw [q0 4 (by omega), hPp]; exact nI_ne0 (by omega) (by omega))]
    by_cases c2 : 2 ≤ dV s % 6
    · rw [if_pos c2, if_pos c2]
      have d2 := m_draw (en_u1 f 0 59 (dS s)) g (n := lB Λ) hb0 (by omega)
      rw [u1_at] at d2
      have d3 := m_draw (en_u1 (en_u1 f 0 59 (dS s)) 0 59 (dS (dS s))) g (n := 10) (by omega) (by omega)
      rw [u1_at] at d3
      have h10 : dV (dS (dS s)) % 10 < 10 := Nat.mod_lt _ (by omega)
      have R3 : MRw Λ 29 r (en_u1 (en_u1 (en_u1 f 0 59 (dS s)) 0 59 (dS (dS s))) 0 59 (dS (dS (dS s)))) := MRw_of hR (fun i _ _ => by simp (disch := omega) only [u1_ne]) lo
      rw [q0 3 (by omega), hB, d2, c_I, show x_m_draw_0 (en_u1 (en_u1 f 0 59 (dS s)) 0 59 (dS (dS s)), g) 10 = _ from d3, c_I]
      rw [nI_1]
      have W := fun v => m_weighs (r := r) (b := 29) (en_u1 (en_u1 (en_u1 f 0 59 (dS s)) 0 59 (dS (dS s))) 0 59 (dS (dS (dS s))), g) lo (by omega) R3 hx v
      refine ⟨en_u1 (en_u1 (en_u1 (en_u1 f 0 59 (dS s)) 0 59 (dS (dS s))) 0 59 (dS (dS (dS s)))) 18 (29 + 1 + dV (dS s) % lB Λ) (sIn (rW r (dV (dS s) % lB Λ) + (if dV s % 6 = 2 then -nI (dV (dS (dS s)) % 10 + 1) else nI (dV (dS (dS s)) % 10 + 1))) (nI 1) (nI 99)), ?_, MRw_uW lo R3 hx _, by simp (disch := omega) only [u1_ne, u1_at], fun p a b => by simp (disch := omega) only [u1_p], fun i hi => by simp (disch := omega) only [u1_ne], fun i hi => by simp (disch := omega) only [u1_ne]⟩
      by_cases c3 : dV s % 6 = 2
      · rw [if_pos c3, if_pos c3, show (nI 0 - nI (dV (dS (dS s)) % 10 + 1)) = -nI (dV (dS (dS s)) % 10 + 1) from Int32.zero_sub _, show ∀ v, x_m_weighs_0 (en_u1 (en_u1 (en_u1 f 0 59 (dS s)) 0 59 (dS (dS s))) 0 59 (dS (dS (dS s))), g) 29 (nI (dV (dS s) % lB Λ)) v = _ from W, c_V]
        rfl
      · rw [if_neg c3, if_neg c3, show ∀ v, x_m_weighs_0 (en_u1 (en_u1 (en_u1 f 0 59 (dS s)) 0 59 (dS (dS s))) 0 59 (dS (dS (dS s))), g) 29 (nI (dV (dS s) % lB Λ)) v = _ from W, c_V]
        rfl
    · rw [if_neg c2, if_neg c2]
      have d2 := m_draw (en_u1 f 0 59 (dS s)) g (n := lP Λ) hp0 (by omega)
      rw [u1_at] at d2
      rw [q0 4 (by omega), hPp, d2, c_I]
      have e42 : (42 : Int32) + nI (dV (dS s) % lP Λ) = nI (42 + dV (dS s) % lP Λ) := by rw [show (42 : Int32) = nI 42 by decide, nI_add]
      by_cases c3 : dV s % 6 = 0
      · rw [if_pos c3, if_pos c3]
        have d3 := m_draw (en_u1 (en_u1 f 0 59 (dS s)) 0 59 (dS (dS s))) g (n := lB Λ) hb0 (by omega)
        rw [u1_at] at d3
        have R3 : MRw Λ 29 r (en_u1 (en_u1 (en_u1 f 0 59 (dS s)) 0 59 (dS (dS s))) 0 59 (dS (dS (dS s)))) := MRw_of hR (fun i _ _ => by simp (disch := omega) only [u1_ne]) lo
        rw [show (en_u1 (en_u1 f 0 59 (dS s)) 0 59 (dS (dS s)), g).1 0 3 = nI (lB Λ) from by (show en_u1 (en_u1 f 0 59 (dS s)) 0 59 (dS (dS s)) 0 3 = _; rw [u1_ne _ _ (by omega), q0 3 (by omega), hB]), d3, c_I, e42]
        simp (disch := omega) only [q_in, q_clamp, if_true]
        have R4 := MRw_uU lo R3 hp (nI (dV (dS (dS s)) % lB Λ))
        exact ⟨_, rfl, R4, by simp (disch := omega) only [u1_ne, u1_at], fun p a b => by simp (disch := omega) only [u1_p], fun i hi => by simp (disch := omega) only [u1_ne], fun i hi => by simp (disch := omega) only [u1_ne]⟩
      · rw [if_neg c3, if_neg c3]
        have R3 : MRw Λ 29 r (en_u1 (en_u1 f 0 59 (dS s)) 0 59 (dS (dS s))) := MRw_of hR (fun i _ _ => by simp (disch := omega) only [u1_ne]) lo
        rw [e42]
        simp (disch := omega) only [q_in, q_clamp, if_true]
        have R4 := MRw_uU lo R3 hp nN
        exact ⟨_, rfl, R4, by simp (disch := omega) only [u1_ne, u1_at], fun p a b => by simp (disch := omega) only [u1_p], fun i hi => by simp (disch := omega) only [u1_ne], fun i hi => by simp (disch := omega) only [u1_ne]⟩
theorem c_drawAct {Λ : mu_Ld} {r : mu_Rw} (f : Nat → Nat → Int32) (g : Nat → Nat → Int64) (lo : lOK Λ) (hL : CLd Λ f) (hR : CRw Λ 73 r f) : ∃ f', x_b_drawAct_0 (f, g) = rV (f', g) ∧ CRw Λ 73 (hP Λ (r, f 104 0)).1 f' ∧ f' 104 0 = (hP Λ (r, f 104 0)).2 ∧ (∀ p, (p < 73 ∨ 78 < p) → p ≠ 104 → f' p = f p) := by
  have l1 := lo.1
  have l2 := lo.2.1
  have hB : f 34 5 = nI (lB Λ) := hL.1
  have hPp : f 34 9 = nI (lP Λ) := hL.2.1
  generalize hs : f 104 0 = s
  have d1 := c_draw f g (n := 6) (by omega) (by omega)
  rw [hs] at d1
  rw [e_b_drawAct_0, show x_dr_drawOf_0 (f, g) 6 = _ from d1, c_I]
  unfold hP
  have h6 : dV s % 6 < 6 := Nat.mod_lt _ (by omega)
  have q0 : ∀ i, en_u1 f 104 0 (dS s) 34 i = f 34 i := fun i => u1_ne _ _ (by omega)
  have R1 : CRw Λ 73 r (en_u1 f 104 0 (dS s)) := CRw_of hR (u1_ne _ _ (by omega)) (fun p _ _ => u1_p _ _ _ (by omega))
  by_cases c1 : 3 < dV s % 6 ∨ lB Λ = 0 ∨ lP Λ = 0
  · rw [if_pos c1]
    refine ⟨en_u1 f 104 0 (dS s), ?_, R1, u1_at _ _ _ _, fun p a b => u1_p _ _ _ b⟩
    simp (disch := omega) only [q_3, q_leI]
    by_cases b : lB Λ = 0
    · rw [if_pos (by show en_u1 f 104 0 (dS s) 34 5 = 0; rw [q0, hB, b]; rfl)]; rfl
    · rw [if_neg (by show ¬ en_u1 f 104 0 (dS s) 34 5 = 0; rw [q0, hB]; exact nI_ne0 (by omega) (by omega))]
      by_cases c : lP Λ = 0
      · rw [if_pos (by show en_u1 f 104 0 (dS s) 34 9 = 0; rw [q0, hPp, c]; rfl)]; rfl
      · rw [if_neg (by show ¬ en_u1 f 104 0 (dS s) 34 9 = 0; rw [q0, hPp]; exact nI_ne0 (by omega) (by omega)), if_neg (by omega)]; rfl
  · rw [if_neg c1]
    have hb0 : 0 < lB Λ := by omega
    have hp0 : 0 < lP Λ := by omega
    have hx : dV (dS s) % lB Λ < lB Λ := Nat.mod_lt _ hb0
    have hp : dV (dS s) % lP Λ < lP Λ := Nat.mod_lt _ hp0
    simp (disch := omega) only [q_3, q_leI, q_2, q_1, q_eqI, q_0, nI_add]
    rw [if_neg (by show ¬ en_u1 f 104 0 (dS s) 34 5 = nI 0; rw [q0, hB]; exact nI_ne0 (by omega) (by omega)), if_neg (by show ¬ en_u1 f 104 0 (dS s) 34 9 = nI 0; rw [q0, hPp]; exact nI_ne0 (by omega) (by omega)), if_pos (by omega)]
    by_cases c2 : 2 ≤ dV s % 6
    · rw [if_pos c2, if_neg (by omega)]
      have d2 := c_draw (en_u1 f 104 0 (dS s)) g (n := lB Λ) hb0 (by omega)
      rw [u1_at] at d2
      have d3 := c_draw (en_u1 (en_u1 f 104 0 (dS s)) 104 0 (dS (dS s))) g (n := 10) (by omega) (by omega)
      rw [u1_at] at d3
      have h10 : dV (dS (dS s)) % 10 < 10 := Nat.mod_lt _ (by omega)
      have R3 : CRw Λ 73 r (en_u1 (en_u1 (en_u1 f 104 0 (dS s)) 104 0 (dS (dS s))) 104 0 (dS (dS (dS s)))) := CRw_of hR (by simp (disch := omega) only [u1_ne]) (fun p _ _ => by simp (disch := omega) only [u1_p])
      rw [q0, hB, d2, c_I, show x_dr_drawOf_0 (en_u1 (en_u1 f 104 0 (dS s)) 104 0 (dS (dS s)), g) 10 = _ from d3, c_I]
      rw [nI_add]
      have W := fun v => c_addWeight_73 (r := r) (en_u1 (en_u1 (en_u1 f 104 0 (dS s)) 104 0 (dS (dS s))) 104 0 (dS (dS (dS s)))) g lo R3 hx v
      refine ⟨en_u1 (en_u1 (en_u1 (en_u1 f 104 0 (dS s)) 104 0 (dS (dS s))) 104 0 (dS (dS (dS s)))) 74 (dV (dS s) % lB Λ) (sIn (rW r (dV (dS s) % lB Λ) + (if dV s % 6 = 2 then -nI (dV (dS (dS s)) % 10 + 1) else nI (dV (dS (dS s)) % 10 + 1))) (nI 1) (nI 99)), ?_, CRw_uW R3 _ _, by simp (disch := omega) only [u1_ne, u1_at], fun p a b => by simp (disch := omega) only [u1_p]⟩
      by_cases c3 : dV s % 6 = 2
      · rw [if_pos c3, if_pos c3, W, c_V]
        rfl
      · rw [if_neg c3, if_neg c3, W, c_V]
        rfl
    · rw [if_neg c2, if_pos (by omega)]
      have d2 := c_draw (en_u1 f 104 0 (dS s)) g (n := lP Λ) hp0 (by omega)
      rw [u1_at] at d2
      rw [q0, hPp, d2, c_I]
      by_cases c3 : dV s % 6 = 0
      · rw [if_pos c3, if_pos c3]
        have d3 := c_draw (en_u1 (en_u1 f 104 0 (dS s)) 104 0 (dS (dS s))) g (n := lB Λ) hb0 (by omega)
        rw [u1_at] at d3
        have R3 : CRw Λ 73 r (en_u1 (en_u1 (en_u1 f 104 0 (dS s)) 104 0 (dS (dS s))) 104 0 (dS (dS (dS s)))) := CRw_of hR (by simp (disch := omega) only [u1_ne]) (fun p _ _ => by simp (disch := omega) only [u1_p])
        rw [show (en_u1 (en_u1 f 104 0 (dS s)) 104 0 (dS (dS s)), g).1 34 5 = nI (lB Λ) from by (show en_u1 (en_u1 f 104 0 (dS s)) 104 0 (dS (dS s)) 34 5 = _; rw [u1_ne _ _ (by omega), q0, hB]), d3, c_I]
        simp (disch := omega) only [q_in, q_clamp, if_true]
        have R4 := CRw_uU R3 (dV (dS s) % lP Λ) (nI (dV (dS (dS s)) % lB Λ))
        exact ⟨_, rfl, R4, by simp (disch := omega) only [u1_ne, u1_at], fun p a b => by simp (disch := omega) only [u1_p]⟩
      · rw [if_neg c3, if_neg c3]
        have R3 : CRw Λ 73 r (en_u1 (en_u1 f 104 0 (dS s)) 104 0 (dS (dS s))) := CRw_of hR (by simp (disch := omega) only [u1_ne]) (fun p _ _ => by simp (disch := omega) only [u1_p])
        simp (disch := omega) only [q_in, q_clamp, if_true]
        have R4 := CRw_uU R3 (dV (dS s) % lP Λ) nN
        exact ⟨_, rfl, R4, by simp (disch := omega) only [u1_ne, u1_at], fun p a b => by simp (disch := omega) only [u1_p]⟩
