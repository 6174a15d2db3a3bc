/-! the class's reckoning -/
theorem c_work4_44_67 (V : Nat → Int32) : ∀ (l : List Int32) (k : Nat) (σ : en_S) (q : List Int32), σ.1 44 1 = nI (k + l.length) → k + l.length ≤ 700 → (∀ j, j < l.length → σ.1 45 (k + j) = l.getD j 0) → sDp l q.length → stk σ.1 46 q → (∀ i, i < 7 → σ.1 72 i = V i) → ∃ f', x_ru_workOut_p44_72_4 σ (nI q.length) (nI k) = rI ((sEv V l q).headD 0) (f', σ.2) ∧ ∀ p, p ≠ 46 → f' p = σ.1 p := by
  intro l
  induction l with
  | nil =>
    intro k σ q hn hk hC hd hs hV
    simp only [sDp] at hd
    simp only [List.length_nil, Nat.add_zero] at hn
    match q, hd, hs with
    | [a], _, hs =>
      refine ⟨σ.1, ?_, fun _ _ => rfl⟩
      rw [e_ru_workOut_p44_72_4, hn, if_pos (Int32.le_refl _)]
      have h0 : σ.1 46 0 = a := hs.1
      rw [show nI [a].length = nI 1 from rfl, if_neg (by decide), h0]
      rfl
  | cons s l ih =>
    intro k σ q hn hk hC hd hs hV
    simp only [sDp] at hd
    simp only [List.length_cons] at hn hk hC
    have hs0 : σ.1 45 k = s := by
      have := hC 0 (by omega)
      simpa using this
    have hC' : ∀ (f : Nat → Nat → Int32), f 45 = σ.1 45 → ∀ j, j < l.length → f 45 (k + 1 + j) = l.getD j 0 := by
      intro f ef j hj
      have := hC (j + 1) (by omega)
      rw [ef, show k + 1 + j = k + (j + 1) by omega, this]
      simp
    have hn' : σ.1 44 1 = nI (k + 1 + l.length) := by rw [hn]; congr 1; omega
    have st : ∀ (τ : en_S) (v2 : Int32), x_ru_workOut_p44_72_134 τ v2 (nI k) = x_ru_workOut_p44_72_4 τ v2 (nI (k + 1)) := by
      intro τ v2
      rw [e_ru_workOut_p44_72_134, nI_1]
    by_cases c : -8 < s
    · rw [if_pos c] at hd
      have cn : ¬ s ≤ -8 := by rw [Int32.not_le]; exact c
      have ev : sEv V (s :: l) q = sEv V l ((if 0 ≤ s then s else V (-1 - s).toNatClampNeg) :: q) := by simp only [sEv, sSp]; rw [if_pos c]
      rw [ev]
      have go : ∀ v : Int32, v = (if 0 ≤ s then s else V (-1 - s).toNatClampNeg) → ∃ f', x_ru_workOut_p44_72_4 (en_u1 σ.1 46 q.length v, σ.2) (nI (q.length + 1)) (nI (k + 1)) = rI ((sEv V l ((if 0 ≤ s then s else V (-1 - s).toNatClampNeg) :: q)).headD 0) (f', σ.2) ∧ ∀ p, p ≠ 46 → f' p = σ.1 p := by
        intro v hv
        rw [← hv]
        obtain ⟨f', e, fr⟩ := ih (k + 1) (en_u1 σ.1 46 q.length v, σ.2) (v :: q) (by
          show en_u1 σ.1 46 q.length v 44 1 = _
          rw [u1_ne _ _ (by omega)]; exact hn') (by omega) (hC' (en_u1 σ.1 46 q.length v) (u1_p _ _ _ (by omega))) hd.2.2 (stk_push hs) (fun i hi => by
          show en_u1 σ.1 46 q.length v 72 i = V i
          rw [u1_ne _ _ (by omega)]; exact hV i hi)
        exact ⟨f', e, fun p hp => (fr p hp).trans (u1_p _ _ _ hp)⟩
      have hq48 := hd.1
      by_cases h0 : 0 ≤ s
      · obtain ⟨f', e, fr⟩ := go s (by rw [if_pos h0])
        refine ⟨f', ?_, fr⟩
        rw [e_ru_workOut_p44_72_4, hn]
        simp (disch := omega) only [q_48, q_leI, q_in, q_clamp, if_true, hs0]
        rw [if_neg (by omega), if_neg cn, if_neg (by omega), if_neg (i_not h0), st, nI_1]
        exact e
      · have hl : s < 0 := by rw [← Int32.not_le]; exact h0
        obtain ⟨j, hj, ej⟩ := rs_val c hl
        obtain ⟨f', e, fr⟩ := go (V j) (by rw [if_neg h0, ej, q_clamp (by omega)])
        refine ⟨f', ?_, fr⟩
        have h20 := hV j hj
        rw [e_ru_workOut_p44_72_4, hn]
        simp (disch := omega) only [q_48, q_leI, q_in, q_clamp, if_true, hs0]
        rw [if_neg (by omega), if_neg cn, if_neg (by omega), if_pos hl, ej]
        simp (disch := omega) only [q_in, q_clamp, if_true, h20]
        rw [st, nI_1]
        rw [ej, q_clamp (by omega)] at e
        exact e
    · rw [if_neg c] at hd
      have cn : s ≤ -8 := by rw [← Int32.not_lt]; exact c
      by_cases c8 : s = -8
      · rw [if_pos c8] at hd
        match q, hd, hs with
        | a :: q, hd, hs =>
          have ev : sEv V (s :: l) (a :: q) = sEv V l ((if a = 0 then 1 else 0) :: q) := by simp only [sEv, sSp]; rw [if_neg c, if_pos c8]
          rw [ev]
          have h0 : σ.1 46 q.length = a := hs.1
          have go : ∀ v : Int32, v = (if a = 0 then 1 else 0) → ∃ f', x_ru_workOut_p44_72_4 (en_u1 σ.1 46 q.length v, σ.2) (nI (q.length + 1)) (nI (k + 1)) = rI ((sEv V l ((if a = 0 then 1 else 0) :: q)).headD 0) (f', σ.2) ∧ ∀ p, p ≠ 46 → f' p = σ.1 p := by
            intro v hv
            rw [← hv]
            obtain ⟨f', e, fr⟩ := ih (k + 1) (en_u1 σ.1 46 q.length v, σ.2) (v :: q) (by
              show en_u1 σ.1 46 q.length v 44 1 = _
              rw [u1_ne _ _ (by omega)]; exact hn') (by omega) (hC' (en_u1 σ.1 46 q.length v) (u1_p _ _ _ (by omega))) hd.2.2 (stk_push hs.2) (fun i hi => by
              show en_u1 σ.1 46 q.length v 72 i = V i
              rw [u1_ne _ _ (by omega)]; exact hV i hi)
            exact ⟨f', e, fun p hp => (fr p hp).trans (u1_p _ _ _ hp)⟩
          have h48 : q.length + 1 ≤ 48 := hd.2.1
          rw [e_ru_workOut_p44_72_4, hn]
          simp (disch := omega) only [q_leI, q_in, q_clamp, if_true, hs0, List.length_cons]
          rw [if_neg (by omega), if_pos cn, if_pos c8, if_neg (nI_nle (by omega) (by omega)), nI_pred]
          by_cases a0 : a = 0
          · obtain ⟨f', e, fr⟩ := go 1 (by rw [if_pos a0])
            refine ⟨f', ?_, fr⟩
            simp (disch := omega) only [q_in, q_clamp, if_true, h0]
            rw [if_pos a0, st]
            exact e
          · obtain ⟨f', e, fr⟩ := go 0 (by rw [if_neg a0])
            refine ⟨f', ?_, fr⟩
            simp (disch := omega) only [q_in, q_clamp, if_true, h0]
            rw [if_neg a0, st]
            exact e
      · rw [if_neg c8] at hd
        have hc := rs_cases c c8 hd.2.2.1
        match q, hd, hs with
        | b :: a :: q, hd, hs =>
          have ev : sEv V (s :: l) (b :: a :: q) = sEv V l (sJn s a b :: q) := by simp only [sEv, sSp]; rw [if_neg c, if_neg c8]
          rw [ev]
          have hb : σ.1 46 (q.length + 1) = b := hs.1
          have ha : σ.1 46 q.length = a := hs.2.1
          have h48 : q.length + 2 ≤ 48 := hd.2.1
          obtain ⟨f', e, fr⟩ := ih (k + 1) (en_u1 σ.1 46 q.length (sJn s a b), σ.2) (sJn s a b :: q) (by
            show en_u1 σ.1 46 q.length (sJn s a b) 44 1 = _
            rw [u1_ne _ _ (by omega)]; exact hn') (by omega) (hC' (en_u1 σ.1 46 q.length (sJn s a b)) (u1_p _ _ _ (by omega))) hd.2.2.2 (stk_push hs.2.2) (fun i hi => by
            show en_u1 σ.1 46 q.length (sJn s a b) 72 i = V i
            rw [u1_ne _ _ (by omega)]; exact hV i hi)
          refine ⟨f', ?_, fun p hp => (fr p hp).trans (u1_p _ _ _ hp)⟩
          rw [e_ru_workOut_p44_72_4, hn]
          simp (disch := omega) only [q_leI, q_in, q_clamp, if_true, hs0, List.length_cons]
          rw [if_neg (by omega), if_pos cn, if_neg c8, q_1, if_neg (nI_ge (by omega) (by omega))]
          rw [show nI (q.length + 1 + 1) + (-nI 1) = nI (q.length + 1) from pk_m1 _, show nI (q.length + 1) - nI 1 = nI q.length from nI_pred _]
          simp (disch := omega) only [q_in, q_clamp, if_true, ha, hb]
          rw [c_join σ hc, c_I, st]
          exact e
theorem c_work_44_67 (V : Nat → Int32) (σ : en_S) (l : List Int32) (hc : cRl σ.1 44 (some l)) (hd : sDp l 0) (hV : ∀ i, i < 7 → σ.1 72 i = V i) : ∃ f', x_ru_workOut_p44_72_0 σ = rI (sE l V) (f', σ.2) ∧ ∀ p, p ≠ 46 → f' p = σ.1 p := by
  rw [e_ru_workOut_p44_72_0]
  exact c_work4_44_67 V l 0 σ [] (by rw [hc.2.1, Nat.zero_add]) (by rw [Nat.zero_add]; exact hc.2.2.1) (fun j hj => by rw [Nat.zero_add]; exact hc.2.2.2 j hj) hd trivial hV
theorem c_work4_47_67 (V : Nat → Int32) : ∀ (l : List Int32) (k : Nat) (σ : en_S) (q : List Int32), σ.1 47 1 = nI (k + l.length) → k + l.length ≤ 700 → (∀ j, j < l.length → σ.1 48 (k + j) = l.getD j 0) → sDp l q.length → stk σ.1 49 q → (∀ i, i < 7 → σ.1 72 i = V i) → ∃ f', x_ru_workOut_p47_72_4 σ (nI q.length) (nI k) = rI ((sEv V l q).headD 0) (f', σ.2) ∧ ∀ p, p ≠ 49 → f' p = σ.1 p := by
  intro l
  induction l with
  | nil =>
    intro k σ q hn hk hC hd hs hV
    simp only [sDp] at hd
    simp only [List.length_nil, Nat.add_zero] at hn
    match q, hd, hs with
    | [a], _, hs =>
      refine ⟨σ.1, ?_, fun _ _ => rfl⟩
      rw [e_ru_workOut_p47_72_4, hn, if_pos (Int32.le_refl _)]
      have h0 : σ.1 49 0 = a := hs.1
      rw [show nI [a].length = nI 1 from rfl, if_neg (by decide), h0]
      rfl
  | cons s l ih =>
    intro k σ q hn hk hC hd hs hV
    simp only [sDp] at hd
    simp only [List.length_cons] at hn hk hC
    have hs0 : σ.1 48 k = s := by
      have := hC 0 (by omega)
      simpa using this
    have hC' : ∀ (f : Nat → Nat → Int32), f 48 = σ.1 48 → ∀ j, j < l.length → f 48 (k + 1 + j) = l.getD j 0 := by
      intro f ef j hj
      have := hC (j + 1) (by omega)
      rw [ef, show k + 1 + j = k + (j + 1) by omega, this]
      simp
    have hn' : σ.1 47 1 = nI (k + 1 + l.length) := by rw [hn]; congr 1; omega
    have st : ∀ (τ : en_S) (v2 : Int32), x_ru_workOut_p47_72_134 τ v2 (nI k) = x_ru_workOut_p47_72_4 τ v2 (nI (k + 1)) := by
      intro τ v2
      rw [e_ru_workOut_p47_72_134, nI_1]
    by_cases c : -8 < s
    · rw [if_pos c] at hd
      have cn : ¬ s ≤ -8 := by rw [Int32.not_le]; exact c
      have ev : sEv V (s :: l) q = sEv V l ((if 0 ≤ s then s else V (-1 - s).toNatClampNeg) :: q) := by simp only [sEv, sSp]; rw [if_pos c]
      rw [ev]
      have go : ∀ v : Int32, v = (if 0 ≤ s then s else V (-1 - s).toNatClampNeg) → ∃ f', x_ru_workOut_p47_72_4 (en_u1 σ.1 49 q.length v, σ.2) (nI (q.length + 1)) (nI (k + 1)) = rI ((sEv V l ((if 0 ≤ s then s else V (-1 - s).toNatClampNeg) :: q)).headD 0) (f', σ.2) ∧ ∀ p, p ≠ 49 → f' p = σ.1 p := by
        intro v hv
        rw [← hv]
        obtain ⟨f', e, fr⟩ := ih (k + 1) (en_u1 σ.1 49 q.length v, σ.2) (v :: q) (by
          show en_u1 σ.1 49 q.length v 47 1 = _
          rw [u1_ne _ _ (by omega)]; exact hn') (by omega) (hC' (en_u1 σ.1 49 q.length v) (u1_p _ _ _ (by omega))) hd.2.2 (stk_push hs) (fun i hi => by
          show en_u1 σ.1 49 q.length v 72 i = V i
          rw [u1_ne _ _ (by omega)]; exact hV i hi)
        exact ⟨f', e, fun p hp => (fr p hp).trans (u1_p _ _ _ hp)⟩
      have hq48 := hd.1
      by_cases h0 : 0 ≤ s
      · obtain ⟨f', e, fr⟩ := go s (by rw [if_pos h0])
        refine ⟨f', ?_, fr⟩
        rw [e_ru_workOut_p47_72_4, hn]
        simp (disch := omega) only [q_48, q_leI, q_in, q_clamp, if_true, hs0]
        rw [if_neg (by omega), if_neg cn, if_neg (by omega), if_neg (i_not h0), st, nI_1]
        exact e
      · have hl : s < 0 := by rw [← Int32.not_le]; exact h0
        obtain ⟨j, hj, ej⟩ := rs_val c hl
        obtain ⟨f', e, fr⟩ := go (V j) (by rw [if_neg h0, ej, q_clamp (by omega)])
        refine ⟨f', ?_, fr⟩
        have h20 := hV j hj
        rw [e_ru_workOut_p47_72_4, hn]
        simp (disch := omega) only [q_48, q_leI, q_in, q_clamp, if_true, hs0]
        rw [if_neg (by omega), if_neg cn, if_neg (by omega), if_pos hl, ej]
        simp (disch := omega) only [q_in, q_clamp, if_true, h20]
        rw [st, nI_1]
        rw [ej, q_clamp (by omega)] at e
        exact e
    · rw [if_neg c] at hd
      have cn : s ≤ -8 := by rw [← Int32.not_lt]; exact c
      by_cases c8 : s = -8
      · rw [if_pos c8] at hd
        match q, hd, hs with
        | a :: q, hd, hs =>
          have ev : sEv V (s :: l) (a :: q) = sEv V l ((if a = 0 then 1 else 0) :: q) := by simp only [sEv, sSp]; rw [if_neg c, if_pos c8]
          rw [ev]
          have h0 : σ.1 49 q.length = a := hs.1
          have go : ∀ v : Int32, v = (if a = 0 then 1 else 0) → ∃ f', x_ru_workOut_p47_72_4 (en_u1 σ.1 49 q.length v, σ.2) (nI (q.length + 1)) (nI (k + 1)) = rI ((sEv V l ((if a = 0 then 1 else 0) :: q)).headD 0) (f', σ.2) ∧ ∀ p, p ≠ 49 → f' p = σ.1 p := by
            intro v hv
            rw [← hv]
            obtain ⟨f', e, fr⟩ := ih (k + 1) (en_u1 σ.1 49 q.length v, σ.2) (v :: q) (by
              show en_u1 σ.1 49 q.length v 47 1 = _
              rw [u1_ne _ _ (by omega)]; exact hn') (by omega) (hC' (en_u1 σ.1 49 q.length v) (u1_p _ _ _ (by omega))) hd.2.2 (stk_push hs.2) (fun i hi => by
              show en_u1 σ.1 49 q.length v 72 i = V i
              rw [u1_ne _ _ (by omega)]; exact hV i hi)
            exact ⟨f', e, fun p hp => (fr p hp).trans (u1_p _ _ _ hp)⟩
          have h48 : q.length + 1 ≤ 48 := hd.2.1
          rw [e_ru_workOut_p47_72_4, hn]
          simp (disch := omega) only [q_leI, q_in, q_clamp, if_true, hs0, List.length_cons]
          rw [if_neg (by omega), if_pos cn, if_pos c8, if_neg (nI_nle (by omega) (by omega)), nI_pred]
          by_cases a0 : a = 0
          · obtain ⟨f', e, fr⟩ := go 1 (by rw [if_pos a0])
            refine ⟨f', ?_, fr⟩
            simp (disch := omega) only [q_in, q_clamp, if_true, h0]
            rw [if_pos a0, st]
            exact e
          · obtain ⟨f', e, fr⟩ := go 0 (by rw [if_neg a0])
            refine ⟨f', ?_, fr⟩
            simp (disch := omega) only [q_in, q_clamp, if_true, h0]
            rw [if_neg a0, st]
            exact e
      · rw [if_neg c8] at hd
        have hc := rs_cases c c8 hd.2.2.1
        match q, hd, hs with
        | b :: a :: q, hd, hs =>
          have ev : sEv V (s :: l) (b :: a :: q) = sEv V l (sJn s a b :: q) := by simp only [sEv, sSp]; rw [if_neg c, if_neg c8]
          rw [ev]
          have hb : σ.1 49 (q.length + 1) = b := hs.1
          have ha : σ.1 49 q.length = a := hs.2.1
          have h48 : q.length + 2 ≤ 48 := hd.2.1
          obtain ⟨f', e, fr⟩ := ih (k + 1) (en_u1 σ.1 49 q.length (sJn s a b), σ.2) (sJn s a b :: q) (by
            show en_u1 σ.1 49 q.length (sJn s a b) 47 1 = _
            rw [u1_ne _ _ (by omega)]; exact hn') (by omega) (hC' (en_u1 σ.1 49 q.length (sJn s a b)) (u1_p _ _ _ (by omega))) hd.2.2.2 (stk_push hs.2.2) (fun i hi => by
            show en_u1 σ.1 49 q.length (sJn s a b) 72 i = V i
            rw [u1_ne _ _ (by omega)]; exact hV i hi)
          refine ⟨f', ?_, fun p hp => (fr p hp).trans (u1_p _ _ _ hp)⟩
          rw [e_ru_workOut_p47_72_4, hn]
          simp (disch := omega) only [q_leI, q_in, q_clamp, if_true, hs0, List.length_cons]
          rw [if_neg (by omega), if_pos cn, if_neg c8, q_1, if_neg (nI_ge (by omega) (by omega))]
          rw [show nI (q.length + 1 + 1) + (-nI 1) = nI (q.length + 1) from pk_m1 _, show nI (q.length + 1) - nI 1 = nI q.length from nI_pred _]
          simp (disch := omega) only [q_in, q_clamp, if_true, ha, hb]
          rw [c_join σ hc, c_I, st]
          exact e
theorem c_work_47_67 (V : Nat → Int32) (σ : en_S) (l : List Int32) (hc : cRl σ.1 47 (some l)) (hd : sDp l 0) (hV : ∀ i, i < 7 → σ.1 72 i = V i) : ∃ f', x_ru_workOut_p47_72_0 σ = rI (sE l V) (f', σ.2) ∧ ∀ p, p ≠ 49 → f' p = σ.1 p := by
  rw [e_ru_workOut_p47_72_0]
  exact c_work4_47_67 V l 0 σ [] (by rw [hc.2.1, Nat.zero_add]) (by rw [Nat.zero_add]; exact hc.2.2.1) (fun j hj => by rw [Nat.zero_add]; exact hc.2.2.2 j hj) hd trivial hV

theorem c_work4_44_73 (V : Nat → Int32) : ∀ (l : List Int32) (k : Nat) (σ : en_S) (q : List Int32), σ.1 44 1 = nI (k + l.length) → k + l.length ≤ 700 → (∀ j, j < l.length → σ.1 45 (k + j) = l.getD j 0) → sDp l q.length → stk σ.1 46 q → (∀ i, i < 7 → σ.1 78 i = V i) → ∃ f', x_ru_workOut_p44_78_4 σ (nI q.length) (nI k) = rI ((sEv V l q).headD 0) (f', σ.2) ∧ ∀ p, p ≠ 46 → f' p = σ.1 p := by
  intro l
  induction l with
  | nil =>
    intro k σ q hn hk hC hd hs hV
    simp only [sDp] at hd
    simp only [List.length_nil, Nat.add_zero] at hn
    match q, hd, hs with
    | [a], _, hs =>
      refine ⟨σ.1, ?_, fun _ _ => rfl⟩
      rw [e_ru_workOut_p44_78_4, hn, if_pos (Int32.le_refl _)]
      have h0 : σ.1 46 0 = a := hs.1
      rw [show nI [a].length = nI 1 from rfl, if_neg (by decide), h0]
      rfl
  | cons s l ih =>
    intro k σ q hn hk hC hd hs hV
    simp only [sDp] at hd
    simp only [List.length_cons] at hn hk hC
    have hs0 : σ.1 45 k = s := by
      have := hC 0 (by omega)
      simpa using this
    have hC' : ∀ (f : Nat → Nat → Int32), f 45 = σ.1 45 → ∀ j, j < l.length → f 45 (k + 1 + j) = l.getD j 0 := by
      intro f ef j hj
      have := hC (j + 1) (by omega)
      rw [ef, show k + 1 + j = k + (j + 1) by omega, this]
      simp
    have hn' : σ.1 44 1 = nI (k + 1 + l.length) := by rw [hn]; congr 1; omega
    have st : ∀ (τ : en_S) (v2 : Int32), x_ru_workOut_p44_78_134 τ v2 (nI k) = x_ru_workOut_p44_78_4 τ v2 (nI (k + 1)) := by
      intro τ v2
      rw [e_ru_workOut_p44_78_134, nI_1]
    by_cases c : -8 < s
    · rw [if_pos c] at hd
      have cn : ¬ s ≤ -8 := by rw [Int32.not_le]; exact c
      have ev : sEv V (s :: l) q = sEv V l ((if 0 ≤ s then s else V (-1 - s).toNatClampNeg) :: q) := by simp only [sEv, sSp]; rw [if_pos c]
      rw [ev]
      have go : ∀ v : Int32, v = (if 0 ≤ s then s else V (-1 - s).toNatClampNeg) → ∃ f', x_ru_workOut_p44_78_4 (en_u1 σ.1 46 q.length v, σ.2) (nI (q.length + 1)) (nI (k + 1)) = rI ((sEv V l ((if 0 ≤ s then s else V (-1 - s).toNatClampNeg) :: q)).headD 0) (f', σ.2) ∧ ∀ p, p ≠ 46 → f' p = σ.1 p := by
        intro v hv
        rw [← hv]
        obtain ⟨f', e, fr⟩ := ih (k + 1) (en_u1 σ.1 46 q.length v, σ.2) (v :: q) (by
          show en_u1 σ.1 46 q.length v 44 1 = _
          rw [u1_ne _ _ (by omega)]; exact hn') (by omega) (hC' (en_u1 σ.1 46 q.length v) (u1_p _ _ _ (by omega))) hd.2.2 (stk_push hs) (fun i hi => by
          show en_u1 σ.1 46 q.length v 78 i = V i
          rw [u1_ne _ _ (by omega)]; exact hV i hi)
        exact ⟨f', e, fun p hp => (fr p hp).trans (u1_p _ _ _ hp)⟩
      have hq48 := hd.1
      by_cases h0 : 0 ≤ s
      · obtain ⟨f', e, fr⟩ := go s (by rw [if_pos h0])
        refine ⟨f', ?_, fr⟩
        rw [e_ru_workOut_p44_78_4, hn]
        simp (disch := omega) only [q_48, q_leI, q_in, q_clamp, if_true, hs0]
        rw [if_neg (by omega), if_neg cn, if_neg (by omega), if_neg (i_not h0), st, nI_1]
        exact e
      · have hl : s < 0 := by rw [← Int32.not_le]; exact h0
        obtain ⟨j, hj, ej⟩ := rs_val c hl
        obtain ⟨f', e, fr⟩ := go (V j) (by rw [if_neg h0, ej, q_clamp (by omega)])
        refine ⟨f', ?_, fr⟩
        have h20 := hV j hj
        rw [e_ru_workOut_p44_78_4, hn]
        simp (disch := omega) only [q_48, q_leI, q_in, q_clamp, if_true, hs0]
        rw [if_neg (by omega), if_neg cn, if_neg (by omega), if_pos hl, ej]
        simp (disch := omega) only [q_in, q_clamp, if_true, h20]
        rw [st, nI_1]
        rw [ej, q_clamp (by omega)] at e
        exact e
    · rw [if_neg c] at hd
      have cn : s ≤ -8 := by rw [← Int32.not_lt]; exact c
      by_cases c8 : s = -8
      · rw [if_pos c8] at hd
        match q, hd, hs with
        | a :: q, hd, hs =>
          have ev : sEv V (s :: l) (a :: q) = sEv V l ((if a = 0 then 1 else 0) :: q) := by simp only [sEv, sSp]; rw [if_neg c, if_pos c8]
          rw [ev]
          have h0 : σ.1 46 q.length = a := hs.1
          have go : ∀ v : Int32, v = (if a = 0 then 1 else 0) → ∃ f', x_ru_workOut_p44_78_4 (en_u1 σ.1 46 q.length v, σ.2) (nI (q.length + 1)) (nI (k + 1)) = rI ((sEv V l ((if a = 0 then 1 else 0) :: q)).headD 0) (f', σ.2) ∧ ∀ p, p ≠ 46 → f' p = σ.1 p := by
            intro v hv
            rw [← hv]
            obtain ⟨f', e, fr⟩ := ih (k + 1) (en_u1 σ.1 46 q.length v, σ.2) (v :: q) (by
              show en_u1 σ.1 46 q.length v 44 1 = _
              rw [u1_ne _ _ (by omega)]; exact hn') (by omega) (hC' (en_u1 σ.1 46 q.length v) (u1_p _ _ _ (by omega))) hd.2.2 (stk_push hs.2) (fun i hi => by
              show en_u1 σ.1 46 q.length v 78 i = V i
              rw [u1_ne _ _ (by omega)]; exact hV i hi)
            exact ⟨f', e, fun p hp => (fr p hp).trans (u1_p _ _ _ hp)⟩
          have h48 : q.length + 1 ≤ 48 := hd.2.1
          rw [e_ru_workOut_p44_78_4, hn]
          simp (disch := omega) only [q_leI, q_in, q_clamp, if_true, hs0, List.length_cons]
          rw [if_neg (by omega), if_pos cn, if_pos c8, if_neg (nI_nle (by omega) (by omega)), nI_pred]
          by_cases a0 : a = 0
          · obtain ⟨f', e, fr⟩ := go 1 (by rw [if_pos a0])
            refine ⟨f', ?_, fr⟩
            simp (disch := omega) only [q_in, q_clamp, if_true, h0]
            rw [if_pos a0, st]
            exact e
          · obtain ⟨f', e, fr⟩ := go 0 (by rw [if_neg a0])
            refine ⟨f', ?_, fr⟩
            simp (disch := omega) only [q_in, q_clamp, if_true, h0]
            rw [if_neg a0, st]
            exact e
      · rw [if_neg c8] at hd
        have hc := rs_cases c c8 hd.2.2.1
        match q, hd, hs with
        | b :: a :: q, hd, hs =>
          have ev : sEv V (s :: l) (b :: a :: q) = sEv V l (sJn s a b :: q) := by simp only [sEv, sSp]; rw [if_neg c, if_neg c8]
          rw [ev]
          have hb : σ.1 46 (q.length + 1) = b := hs.1
          have ha : σ.1 46 q.length = a := hs.2.1
          have h48 : q.length + 2 ≤ 48 := hd.2.1
          obtain ⟨f', e, fr⟩ := ih (k + 1) (en_u1 σ.1 46 q.length (sJn s a b), σ.2) (sJn s a b :: q) (by
            show en_u1 σ.1 46 q.length (sJn s a b) 44 1 = _
            rw [u1_ne _ _ (by omega)]; exact hn') (by omega) (hC' (en_u1 σ.1 46 q.length (sJn s a b)) (u1_p _ _ _ (by omega))) hd.2.2.2 (stk_push hs.2.2) (fun i hi => by
            show en_u1 σ.1 46 q.length (sJn s a b) 78 i = V i
            rw [u1_ne _ _ (by omega)]; exact hV i hi)
          refine ⟨f', ?_, fun p hp => (fr p hp).trans (u1_p _ _ _ hp)⟩
          rw [e_ru_workOut_p44_78_4, hn]
          simp (disch := omega) only [q_leI, q_in, q_clamp, if_true, hs0, List.length_cons]
          rw [if_neg (by omega), if_pos cn, if_neg c8, q_1, if_neg (nI_ge (by omega) (by omega))]
          rw [show nI (q.length + 1 + 1) + (-nI 1) = nI (q.length + 1) from pk_m1 _, show nI (q.length + 1) - nI 1 = nI q.length from nI_pred _]
          simp (disch := omega) only [q_in, q_clamp, if_true, ha, hb]
          rw [c_join σ hc, c_I, st]
          exact e
theorem c_work_44_73 (V : Nat → Int32) (σ : en_S) (l : List Int32) (hc : cRl σ.1 44 (some l)) (hd : sDp l 0) (hV : ∀ i, i < 7 → σ.1 78 i = V i) : ∃ f', x_ru_workOut_p44_78_0 σ = rI (sE l V) (f', σ.2) ∧ ∀ p, p ≠ 46 → f' p = σ.1 p := by
  rw [e_ru_workOut_p44_78_0]
  exact c_work4_44_73 V l 0 σ [] (by rw [hc.2.1, Nat.zero_add]) (by rw [Nat.zero_add]; exact hc.2.2.1) (fun j hj => by rw [Nat.zero_add]; exact hc.2.2.2 j hj) hd trivial hV
theorem c_work4_47_73 (V : Nat → Int32) : ∀ (l : List Int32) (k : Nat) (σ : en_S) (q : List Int32), σ.1 47 1 = nI (k + l.length) → k + l.length ≤ 700 → (∀ j, j < l.length → σ.1 48 (k + j) = l.getD j 0) → sDp l q.length → stk σ.1 49 q → (∀ i, i < 7 → σ.1 78 i = V i) → ∃ f', x_ru_workOut_p47_78_4 σ (nI q.length) (nI k) = rI ((sEv V l q).headD 0) (f', σ.2) ∧ ∀ p, p ≠ 49 → f' p = σ.1 p := by
  intro l
  induction l with
  | nil =>
    intro k σ q hn hk hC hd hs hV
    simp only [sDp] at hd
    simp only [List.length_nil, Nat.add_zero] at hn
    match q, hd, hs with
    | [a], _, hs =>
      refine ⟨σ.1, ?_, fun _ _ => rfl⟩
      rw [e_ru_workOut_p47_78_4, hn, if_pos (Int32.le_refl _)]
      have h0 : σ.1 49 0 = a := hs.1
      rw [show nI [a].length = nI 1 from rfl, if_neg (by decide), h0]
      rfl
  | cons s l ih =>
    intro k σ q hn hk hC hd hs hV
    simp only [sDp] at hd
    simp only [List.length_cons] at hn hk hC
    have hs0 : σ.1 48 k = s := by
      have := hC 0 (by omega)
      simpa using this
    have hC' : ∀ (f : Nat → Nat → Int32), f 48 = σ.1 48 → ∀ j, j < l.length → f 48 (k + 1 + j) = l.getD j 0 := by
      intro f ef j hj
      have := hC (j + 1) (by omega)
      rw [ef, show k + 1 + j = k + (j + 1) by omega, this]
      simp
    have hn' : σ.1 47 1 = nI (k + 1 + l.length) := by rw [hn]; congr 1; omega
    have st : ∀ (τ : en_S) (v2 : Int32), x_ru_workOut_p47_78_134 τ v2 (nI k) = x_ru_workOut_p47_78_4 τ v2 (nI (k + 1)) := by
      intro τ v2
      rw [e_ru_workOut_p47_78_134, nI_1]
    by_cases c : -8 < s
    · rw [if_pos c] at hd
      have cn : ¬ s ≤ -8 := by rw [Int32.not_le]; exact c
      have ev : sEv V (s :: l) q = sEv V l ((if 0 ≤ s then s else V (-1 - s).toNatClampNeg) :: q) := by simp only [sEv, sSp]; rw [if_pos c]
      rw [ev]
      have go : ∀ v : Int32, v = (if 0 ≤ s then s else V (-1 - s).toNatClampNeg) → ∃ f', x_ru_workOut_p47_78_4 (en_u1 σ.1 49 q.length v, σ.2) (nI (q.length + 1)) (nI (k + 1)) = rI ((sEv V l ((if 0 ≤ s then s else V (-1 - s).toNatClampNeg) :: q)).headD 0) (f', σ.2) ∧ ∀ p, p ≠ 49 → f' p = σ.1 p := by
        intro v hv
        rw [← hv]
        obtain ⟨f', e, fr⟩ := ih (k + 1) (en_u1 σ.1 49 q.length v, σ.2) (v :: q) (by
          show en_u1 σ.1 49 q.length v 47 1 = _
          rw [u1_ne _ _ (by omega)]; exact hn') (by omega) (hC' (en_u1 σ.1 49 q.length v) (u1_p _ _ _ (by omega))) hd.2.2 (stk_push hs) (fun i hi => by
          show en_u1 σ.1 49 q.length v 78 i = V i
          rw [u1_ne _ _ (by omega)]; exact hV i hi)
        exact ⟨f', e, fun p hp => (fr p hp).trans (u1_p _ _ _ hp)⟩
      have hq48 := hd.1
      by_cases h0 : 0 ≤ s
      · obtain ⟨f', e, fr⟩ := go s (by rw [if_pos h0])
        refine ⟨f', ?_, fr⟩
        rw [e_ru_workOut_p47_78_4, hn]
        simp (disch := omega) only [q_48, q_leI, q_in, q_clamp, if_true, hs0]
        rw [if_neg (by omega), if_neg cn, if_neg (by omega), if_neg (i_not h0), st, nI_1]
        exact e
      · have hl : s < 0 := by rw [← Int32.not_le]; exact h0
        obtain ⟨j, hj, ej⟩ := rs_val c hl
        obtain ⟨f', e, fr⟩ := go (V j) (by rw [if_neg h0, ej, q_clamp (by omega)])
        refine ⟨f', ?_, fr⟩
        have h20 := hV j hj
        rw [e_ru_workOut_p47_78_4, hn]
        simp (disch := omega) only [q_48, q_leI, q_in, q_clamp, if_true, hs0]
        rw [if_neg (by omega), if_neg cn, if_neg (by omega), if_pos hl, ej]
        simp (disch := omega) only [q_in, q_clamp, if_true, h20]
        rw [st, nI_1]
        rw [ej, q_clamp (by omega)] at e
        exact e
    · rw [if_neg c] at hd
      have cn : s ≤ -8 := by rw [← Int32.not_lt]; exact c
      by_cases c8 : s = -8
      · rw [if_pos c8] at hd
        match q, hd, hs with
        | a :: q, hd, hs =>
          have ev : sEv V (s :: l) (a :: q) = sEv V l ((if a = 0 then 1 else 0) :: q) := by simp only [sEv, sSp]; rw [if_neg c, if_pos c8]
          rw [ev]
          have h0 : σ.1 49 q.length = a := hs.1
          have go : ∀ v : Int32, v = (if a = 0 then 1 else 0) → ∃ f', x_ru_workOut_p47_78_4 (en_u1 σ.1 49 q.length v, σ.2) (nI (q.length + 1)) (nI (k + 1)) = rI ((sEv V l ((if a = 0 then 1 else 0) :: q)).headD 0) (f', σ.2) ∧ ∀ p, p ≠ 49 → f' p = σ.1 p := by
            intro v hv
            rw [← hv]
            obtain ⟨f', e, fr⟩ := ih (k + 1) (en_u1 σ.1 49 q.length v, σ.2) (v :: q) (by
              show en_u1 σ.1 49 q.length v 47 1 = _
              rw [u1_ne _ _ (by omega)]; exact hn') (by omega) (hC' (en_u1 σ.1 49 q.length v) (u1_p _ _ _ (by omega))) hd.2.2 (stk_push hs.2) (fun i hi => by
              show en_u1 σ.1 49 q.length v 78 i = V i
              rw [u1_ne _ _ (by omega)]; exact hV i hi)
            exact ⟨f', e, fun p hp => (fr p hp).trans (u1_p _ _ _ hp)⟩
          have h48 : q.length + 1 ≤ 48 := hd.2.1
          rw [e_ru_workOut_p47_78_4, hn]
          simp (disch := omega) only [q_leI, q_in, q_clamp, if_true, hs0, List.length_cons]
          rw [if_neg (by omega), if_pos cn, if_pos c8, if_neg (nI_nle (by omega) (by omega)), nI_pred]
          by_cases a0 : a = 0
          · obtain ⟨f', e, fr⟩ := go 1 (by rw [if_pos a0])
            refine ⟨f', ?_, fr⟩
            simp (disch := omega) only [q_in, q_clamp, if_true, h0]
            rw [if_pos a0, st]
            exact e
          · obtain ⟨f', e, fr⟩ := go 0 (by rw [if_neg a0])
            refine ⟨f', ?_, fr⟩
            simp (disch := omega) only [q_in, q_clamp, if_true, h0]
            rw [if_neg a0, st]
            exact e
      · rw [if_neg c8] at hd
        have hc := rs_cases c c8 hd.2.2.1
        match q, hd, hs with
        | b :: a :: q, hd, hs =>
          have ev : sEv V (s :: l) (b :: a :: q) = sEv V l (sJn s a b :: q) := by simp only [sEv, sSp]; rw [if_neg c, if_neg c8]
          rw [ev]
          have hb : σ.1 49 (q.length + 1) = b := hs.1
          have ha : σ.1 49 q.length = a := hs.2.1
          have h48 : q.length + 2 ≤ 48 := hd.2.1
          obtain ⟨f', e, fr⟩ := ih (k + 1) (en_u1 σ.1 49 q.length (sJn s a b), σ.2) (sJn s a b :: q) (by
            show en_u1 σ.1 49 q.length (sJn s a b) 47 1 = _
            rw [u1_ne _ _ (by omega)]; exact hn') (by omega) (hC' (en_u1 σ.1 49 q.length (sJn s a b)) (u1_p _ _ _ (by omega))) hd.2.2.2 (stk_push hs.2.2) (fun i hi => by
            show en_u1 σ.1 49 q.length (sJn s a b) 78 i = V i
            rw [u1_ne _ _ (by omega)]; exact hV i hi)
          refine ⟨f', ?_, fun p hp => (fr p hp).trans (u1_p _ _ _ hp)⟩
          rw [e_ru_workOut_p47_78_4, hn]
          simp (disch := omega) only [q_leI, q_in, q_clamp, if_true, hs0, List.length_cons]
          rw [if_neg (by omega), if_pos cn, if_neg c8, q_1, if_neg (nI_ge (by omega) (by omega))]
          rw [show nI (q.length + 1 + 1) + (-nI 1) = nI (q.length + 1) from pk_m1 _, show nI (q.length + 1) - nI 1 = nI q.length from nI_pred _]
          simp (disch := omega) only [q_in, q_clamp, if_true, ha, hb]
          rw [c_join σ hc, c_I, st]
          exact e
theorem c_work_47_73 (V : Nat → Int32) (σ : en_S) (l : List Int32) (hc : cRl σ.1 47 (some l)) (hd : sDp l 0) (hV : ∀ i, i < 7 → σ.1 78 i = V i) : ∃ f', x_ru_workOut_p47_78_0 σ = rI (sE l V) (f', σ.2) ∧ ∀ p, p ≠ 49 → f' p = σ.1 p := by
  rw [e_ru_workOut_p47_78_0]
  exact c_work4_47_73 V l 0 σ [] (by rw [hc.2.1, Nat.zero_add]) (by rw [Nat.zero_add]; exact hc.2.2.1) (fun j hj => by rw [Nat.zero_add]; exact hc.2.2.2 j hj) hd trivial hV


