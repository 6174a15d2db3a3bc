/-! lines: numbers, names, rules -/
theorem c_num9 (f : Nat → Nat → Int32) (g : Nat → Nat → Int64) (h9 : ¬ f 66 9 = nI 0) (v1 v2 : Int32) : x_rd_readNumber_0 (f, g) v1 v2 = rI v1 (f, g) := by
  rw [e_rd_readNumber_0, if_neg (show ¬ f 66 9 = 0 from h9)]; rfl
theorem c_name9 (f : Nat → Nat → Int32) (g : Nat → Nat → Int64) (h9 : ¬ f 66 9 = nI 0) (v1 v2 : Int32) : x_rd_readName_0 (f, g) v1 v2 = rI 0 (f, g) := by
  rw [e_rd_readName_0, if_neg (show ¬ f 66 9 = 0 from h9)]; rfl
theorem c_sign9 (f : Nat → Nat → Int32) (g : Nat → Nat → Int64) (h9 : ¬ f 66 9 = nI 0) (v1 : Int32) : x_rd_readSign_0 (f, g) v1 = rV (f, g) := by
  rw [e_rd_readSign_0, if_neg (show ¬ f 66 9 = 0 from h9)]; rfl
theorem c_sign {X : mu_X} (xo : XOK X) (f : Nat → Nat → Int32) (g : Nat → Nat → Int64) {c : Nat} (hc : c ≤ X.1) (h : CT X c f) (h9 : f 66 9 = nI 0) {v : Nat} (hv : v < 128) : (sg X c v = true → ∃ f', x_rd_readSign_0 (f, g) (nI v) = rV (f', g) ∧ CT X (tE X c) f' ∧ CN f f') ∧ (sg X c v = false → x_rd_readSign_0 (f, g) (nI v) = rV (en_u1 (en_u1 f 66 9 (nI 1)) 66 10 (f 66 3), g)) := by
  rw [e_rd_readSign_0, if_pos (show f 66 9 = 0 from h9), c_isSign xo f g h hv, c_I]
  constructor
  · intro s
    obtain ⟨f', a1, a2, a3⟩ := c_next xo f g (tE_le hc) h.1 h.2.2.1
    refine ⟨f', ?_, a2, a3⟩
    rw [if_neg (tb_y s), a1, c_V]; rfl
  · intro s
    rw [if_pos (tb_n s), show x_rd_refuse_0 (f, g) 1 = _ from c_rdRefuse f g (nI 1), c_V]; rfl
/-- the fault of a name -/
def naF (X : mu_X) (c many : Nat) : Nat := if tK X c = 2 then (if tLn X c ≤ 4 then (if tV X c < many then 0 else 3) else 2) else 1
theorem c_hasRoad {G : mu_Gd} (f : Nat → Nat → Int32) (g : Nat → Nat → Int64) (go : gOK G) (h1 : f 50 1 = nI G.2.1) (h5 : ∀ i, i < G.2.1 → f 51 i = nI (G.2.2.1 i) ∧ f 52 i = nI (G.2.2.2.1 i)) {a b : Nat} (ha : a < 10000) (hb : b < 10000) : ∃ r : Bool, x_ld_hasRoad_p50_0 (f, g) (nI a) (nI b) = rI (tb r) (f, g) ∧ (r = true ↔ ∃ i, i < G.2.1 ∧ gE G i a b) := by
  obtain ⟨o1, o2, o3, o4, o5⟩ := go
  rw [e_ld_hasRoad_p50_0]
  have key : ∀ k i, i + k = G.2.1 → (∀ j, j < i → ¬ gE G j a b) → ∃ r : Bool, x_ld_hasRoad_p50_2 (f, g) (nI a) (nI b) (nI i) = rI (tb r) (f, g) ∧ (r = true ↔ ∃ i, i < G.2.1 ∧ gE G i a b) := by
    intro k
    induction k with
    | zero =>
      intro i hi hn
      refine ⟨false, ?_, ⟨fun h => (by cases h), fun ⟨j, j1, j2⟩ => absurd j2 (hn j (by omega))⟩⟩
      rw [e_ld_hasRoad_p50_2, if_pos (by show f 50 1 ≤ nI i; rw [h1]; exact nI_le (by omega) (by omega))]; rfl
    | succ k ih =>
      intro i hi hn
      obtain ⟨q1, q2⟩ := h5 i (by omega)
      obtain ⟨p1, p2, p3, p4⟩ := o4 i (by omega)
      rw [e_ld_hasRoad_p50_2, if_neg (by show ¬ f 50 1 ≤ nI i; rw [h1]; exact nI_ge (by omega) (by omega))]
      simp (disch := omega) only [q_in, q_clamp, if_true, q1, q2, q_eqI]
      have end35 : ∀ t0 : Nat, t0 ≤ 1 → (t0 = 1 ↔ (G.2.2.1 i = a ∧ G.2.2.2.1 i = b)) → ∃ r : Bool, x_ld_hasRoad_p50_35 (f, g) (nI a) (nI b) (nI i) (nI t0) = rI (tb r) (f, g) ∧ (r = true ↔ ∃ i, i < G.2.1 ∧ gE G i a b) := by
        intro t0 ht hq
        rw [e_ld_hasRoad_p50_35]
        simp (disch := omega) only [q_in, q_clamp, if_true, q1, q2, q_0, q_eqI, nI_1]
        by_cases y : G.2.2.1 i = b ∧ G.2.2.2.1 i = a
        · rw [if_pos y.1, if_pos y.2]
          refine ⟨true, ?_, ⟨fun _ => ⟨i, by omega, Or.inr y⟩, fun _ => rfl⟩⟩
          split <;> rfl
        · have e1 : (if G.2.2.1 i = b then if G.2.2.2.1 i = a then if t0 = 0 then (some (Sum.inl (some (Value.int (nI 1))), (f, g)) : Option en_O) else some (Sum.inl (some (Value.int (nI 1))), (f, g)) else if t0 = 0 then x_ld_hasRoad_p50_2 (f, g) (nI a) (nI b) (nI (i + 1)) else some (Sum.inl (some (Value.int (nI 1))), (f, g)) else if t0 = 0 then x_ld_hasRoad_p50_2 (f, g) (nI a) (nI b) (nI (i + 1)) else some (Sum.inl (some (Value.int (nI 1))), (f, g))) = if t0 = 0 then x_ld_hasRoad_p50_2 (f, g) (nI a) (nI b) (nI (i + 1)) else some (Sum.inl (some (Value.int (nI 1))), (f, g)) := by
            by_cases y1 : G.2.2.1 i = b
            · rw [if_pos y1, if_neg (fun z => y ⟨y1, z⟩)]
            · rw [if_neg y1]
          simp only [q_1]
          rw [e1]
          by_cases z : t0 = 0
          · rw [if_pos z]
            refine ih (i + 1) (by omega) (fun j hj hg => ?_)
            by_cases w : j = i
            · subst w
              rcases hg with hg | hg
              · have := hq.mpr hg; omega
              · exact y hg
            · exact hn j (by omega) hg
          · rw [if_neg z]
            exact ⟨true, rfl, ⟨fun _ => ⟨i, by omega, Or.inl (hq.mp (by omega))⟩, fun _ => rfl⟩⟩
      by_cases w1 : G.2.2.1 i = a
      · rw [if_pos w1]
        by_cases w2 : G.2.2.2.1 i = b
        · rw [if_pos w2]; exact end35 1 (by omega) ⟨fun _ => ⟨w1, w2⟩, fun _ => rfl⟩
        · rw [if_neg w2]; exact end35 0 (by omega) ⟨fun z => absurd z (by omega), fun z => absurd z.2 w2⟩
      · rw [if_neg w1]; exact end35 0 (by omega) ⟨fun z => absurd z (by omega), fun z => absurd z.1 w1⟩
  exact key G.2.1 0 (by omega) (fun j hj => absurd hj (Nat.not_lt_zero j))
theorem c_name {X : mu_X} (xo : XOK X) (f : Nat → Nat → Int32) (g : Nat → Nat → Int64) {c : Nat} (hc : c ≤ X.1) (h : CT X c f) (h9 : f 66 9 = nI 0) {many : Nat} (hm : many < 10000) : (naF X c many = 0 → ∃ f', x_rd_readName_0 (f, g) (nI many) (-1) = rI (nI (tV X c)) (f', g) ∧ CT X (tE X c) f' ∧ CN f f') ∧ (∀ v2 : Int32, naF X c many ≠ 0 → x_rd_readName_0 (f, g) (nI many) v2 = rI (f 66 6) (en_u1 (en_u1 f 66 9 (nI (naF X c many))) 66 10 (f 66 3), g)) ∧ (∀ a : Nat, a < 10000 → naF X c many = 0 → x_rd_readName_0 (f, g) (nI many) (nI a) = if tV X c = a then rI (nI (tV X c)) (en_u1 (en_u1 f 66 9 (nI 4)) 66 10 (f 66 3), g) else en_cI (x_ld_hasRoad_p50_0 (f, g) (nI a) (nI (tV X c))) (fun r4 σ3 => if r4 = 0 then en_cV (x_rd_nextToken_0 σ3) (fun σ5 => rI (nI (tV X c)) σ5) (fun e σ => some (.inr e, σ)) else en_cV (x_rd_refuse_0 σ3 4) (fun σ6 => rI (nI (tV X c)) σ6) (fun e σ => some (.inr e, σ))) (fun e σ => some (.inr e, σ))) := by
  have n7 := xo.1
  have k4 := tK_4 X c
  have ln := tLn_le xo hc
  have eg := tE_ge X c
  have vl := tV_lt X c
  obtain ⟨h0, h3, h4, h5, h6⟩ := id h
  have hsub : f 66 4 - f 66 3 = nI (tLn X c) := by rw [h3, h4, pk_sub eg]; rfl
  have ref : ∀ k : Nat, en_cV (x_rd_refuse_0 (f, g) (nI k)) (fun σ1 => x_rd_readName_98 σ1 (f 66 6)) (fun e σ => some (.inr e, σ)) = rI (f 66 6) (en_u1 (en_u1 f 66 9 (nI k)) 66 10 (f 66 3), g) := fun k => by rw [c_rdRefuse, c_V, e_rd_readName_98]; rfl
  have i2 : (f 66 5 = 2) = (tK X c = 2) := by rw [h5, q_2, q_eqI (by omega) (by omega)]
  refine ⟨fun n0 => ?_, fun v2 n0 => ?_, fun a ha n0 => ?_⟩
  · have k : tK X c = 2 := by
      unfold naF at n0
      by_cases k : tK X c = 2
      · exact k
      · rw [if_neg k] at n0; omega
    unfold naF at n0
    rw [if_pos k] at n0
    have l4 : tLn X c ≤ 4 := by
      by_cases l : tLn X c ≤ 4
      · exact l
      · rw [if_neg l] at n0; omega
    rw [if_pos l4] at n0
    have lm : tV X c < many := by
      by_cases l : tV X c < many
      · exact l
      · rw [if_neg l] at n0; omega
    have h6' : f 66 6 = nI (tV X c) := by rw [h6, tN_V l4]
    obtain ⟨f', a1, a2, a3⟩ := c_next xo f g (tE_le hc) h0 h4
    refine ⟨f', ?_, a2, a3⟩
    rw [e_rd_readName_0, if_pos (show f 66 9 = 0 from h9), if_pos (show f 66 5 = 2 by rw [i2]; exact k), if_pos (show f 66 4 - f 66 3 ≤ 4 by rw [hsub, q_4]; exact nI_le l4 (by omega)), if_pos (show f 66 6 < nI many by rw [h6']; exact nI_lt lm (by omega)), if_pos rfl, a1, c_V, e_rd_readName_98]
    show rI (f 66 6) (f', g) = _
    rw [h6']
  · rw [e_rd_readName_0, if_pos (show f 66 9 = 0 from h9)]
    unfold naF at n0 ⊢
    by_cases k : tK X c = 2
    · rw [if_pos (show f 66 5 = 2 by rw [i2]; exact k)]
      rw [if_pos k] at n0 ⊢
      by_cases l4 : tLn X c ≤ 4
      · rw [if_pos (show f 66 4 - f 66 3 ≤ 4 by rw [hsub, q_4]; exact nI_le l4 (by omega))]
        rw [if_pos l4] at n0 ⊢
        have h6' : f 66 6 = nI (tV X c) := by rw [h6, tN_V l4]
        by_cases lm : tV X c < many
        · rw [if_pos lm] at n0; omega
        · rw [if_neg lm, if_neg (show ¬ f 66 6 < nI many by rw [h6']; exact nI_nlt (by omega) (by omega))]
          exact ref 3
      · rw [if_neg l4, if_neg (show ¬ f 66 4 - f 66 3 ≤ 4 by rw [hsub, q_4]; exact nI_ge (by omega) (by omega))]
        exact ref 2
    · rw [if_neg k, if_neg (show ¬ f 66 5 = 2 by rw [i2]; exact k)]
      exact ref 1
  · have k : tK X c = 2 := by
      unfold naF at n0
      by_cases k : tK X c = 2
      · exact k
      · rw [if_neg k] at n0; omega
    unfold naF at n0
    rw [if_pos k] at n0
    have l4 : tLn X c ≤ 4 := by
      by_cases l : tLn X c ≤ 4
      · exact l
      · rw [if_neg l] at n0; omega
    rw [if_pos l4] at n0
    have lm : tV X c < many := by
      by_cases l : tV X c < many
      · exact l
      · rw [if_neg l] at n0; omega
    have h6' : f 66 6 = nI (tV X c) := by rw [h6, tN_V l4]
    have hne : ¬ nI a = nN := by rw [q_nNe (by omega)]; exact id
    rw [e_rd_readName_0, if_pos (show f 66 9 = 0 from h9), if_pos (show f 66 5 = 2 by rw [i2]; exact k), if_pos (show f 66 4 - f 66 3 ≤ 4 by rw [hsub, q_4]; exact nI_le l4 (by omega)), if_pos (show f 66 6 < nI many by rw [h6']; exact nI_lt lm (by omega)), if_neg (show ¬ nI a = -1 from hne)]
    simp (disch := omega) only [h6', q_eqI, e_rd_readName_98]
    by_cases e : tV X c = a
    · rw [if_pos e, if_pos e, show x_rd_refuse_0 (f, g) 4 = _ from c_rdRefuse f g (nI 4), c_V]; rfl
    · rw [if_neg e, if_neg e]; rfl
/-- the model's numbers and names -/
theorem m_number {X : mu_X} (xo : XOK X) (f : Nat → Nat → Int32) (g : Nat → Nat → Int64) {c : Nat} (hc : c ≤ X.1) (h : MT X c f g) (h15 : f 0 15 = nI 0) {lo hi : Nat} (hlo : lo < 10000) (hhi : hi < 10000) : (nuF X c lo hi = 0 → ∃ f' g', x_m_number_0 (f, g) (nI lo) (nI hi) = rI (nI (tV X c)) (f', g') ∧ MT X (tE X c) f' g' ∧ MN f f' ∧ ∀ q, q ≠ 0 → g' q = g q) ∧ (nuF X c lo hi ≠ 0 → ∃ v, x_m_number_0 (f, g) (nI lo) (nI hi) = rI v (en_u1 (en_u1 f 0 15 (nI (nuF X c lo hi))) 0 16 (f 0 21), g)) := by
  have n7 := xo.1
  have k4 := tK_4 X c
  have ln := tLn_le xo hc
  have vl := tV_lt X c
  obtain ⟨h0, h1, h2, h3, h4, h5, h6, h7⟩ := id h
  have i2 : (f 0 20 = 2) = (tK X c = 2) := by rw [h2, q_2, q_eqI (by omega) (by omega)]
  have bad : ∀ k : Nat, 1 ≤ k ∧ k ≤ 5 → ∃ v, en_cV (x_m_wrong_0 (f, g) (nI k)) (fun σ3 => x_m_number_54 σ3) (fun e σ => some (.inr e, σ)) = rI v (en_u1 (en_u1 f 0 15 (nI k)) 0 16 (f 0 21), g) := by
    intro k hk
    rw [m_wrong f g h15, c_V, e_m_number_54, m_good0 _ g hk (by rw [u1_ne _ _ (by omega), u1_at]), c_I, if_pos (by decide)]
    exact ⟨_, rfl⟩
  rw [e_m_number_0, m_good1 f g h15, c_I, if_neg (by decide)]
  unfold nuF
  by_cases k : tK X c = 2
  · rw [if_pos k, if_pos (show f 0 20 = 2 by rw [i2]; exact k)]
    by_cases l4 : tLn X c ≤ 4
    · rw [if_neg (show ¬ (4 : Int32) < f 0 22 by rw [h4, q_4]; exact nI_nlt l4 (by omega))]
      by_cases a1 : tV X c < lo
      · rw [if_pos (show f 0 23 < nI lo by rw [h5]; exact nI_lt a1 (by omega)), if_neg (by omega)]
        exact ⟨fun z => absurd z (by omega), fun _ => bad 2 (by omega)⟩
      · rw [if_neg (show ¬ f 0 23 < nI lo by rw [h5]; exact nI_nlt (by omega) (by omega))]
        by_cases a2 : tV X c ≤ hi
        · rw [if_pos (show f 0 23 ≤ nI hi by rw [h5]; exact nI_le a2 (by omega)), if_pos ⟨l4, by omega, a2⟩]
          obtain ⟨f', g', b1, b2, b3, b4⟩ := m_goes xo f g (tE_le hc) h0 h1
          refine ⟨fun _ => ⟨f', g', ?_, b2, b3, b4⟩, fun z => absurd rfl z⟩
          rw [e_m_number_54, m_good1 f g h15, c_I, if_neg (by decide), b1, c_V]
          show rI (f 0 23) (f', g') = _
          rw [h5]
        · rw [if_neg (show ¬ f 0 23 ≤ nI hi by rw [h5]; exact nI_ge (by omega) (by omega)), if_neg (by omega)]
          exact ⟨fun z => absurd z (by omega), fun _ => bad 2 (by omega)⟩
    · rw [if_pos (show (4 : Int32) < f 0 22 by rw [h4, q_4]; exact nI_lt (by omega) (by omega)), if_neg (by omega)]
      exact ⟨fun z => absurd z (by omega), fun _ => bad 2 (by omega)⟩
  · rw [if_neg k, if_neg (show ¬ f 0 20 = 2 by rw [i2]; exact k)]
    exact ⟨fun z => absurd z (by omega), fun _ => bad 1 (by omega)⟩
theorem m_num9 (f : Nat → Nat → Int32) (g : Nat → Nat → Int64) {k : Nat} (hk : 1 ≤ k ∧ k ≤ 5) (h15 : f 0 15 = nI k) (v1 v2 : Int32) : x_m_number_0 (f, g) v1 v2 = rI 0 (f, g) := by
  rw [e_m_number_0, m_good0 f g hk h15, c_I, if_pos (by decide)]; rfl
theorem m_one9 (f : Nat → Nat → Int32) (g : Nat → Nat → Int64) {k : Nat} (hk : 1 ≤ k ∧ k ≤ 5) (h15 : f 0 15 = nI k) (v1 : Int32) : x_m_isOneOf_0 (f, g) v1 = rI 0 (f, g) := by
  rw [e_m_isOneOf_0, m_good0 f g hk h15, c_I, if_pos (by decide)]; rfl
theorem m_oneOf {X : mu_X} (xo : XOK X) (f : Nat → Nat → Int32) (g : Nat → Nat → Int64) {c : Nat} (hc : c ≤ X.1) (h : MT X c f g) (h15 : f 0 15 = nI 0) {many : Nat} (hm : many < 10000) : (naF X c many = 0 → x_m_isOneOf_0 (f, g) (nI many) = rI (nI 1) (f, g)) ∧ (naF X c many ≠ 0 → x_m_isOneOf_0 (f, g) (nI many) = rI (nI 0) (en_u1 (en_u1 f 0 15 (nI (naF X c many))) 0 16 (f 0 21), g)) := by
  have n7 := xo.1
  have k4 := tK_4 X c
  have ln := tLn_le xo hc
  have vl := tV_lt X c
  obtain ⟨h0, h1, h2, h3, h4, h5, h6, h7⟩ := id h
  have i2 : (f 0 20 = 2) = (tK X c = 2) := by rw [h2, q_2, q_eqI (by omega) (by omega)]
  have bad : ∀ k : Nat, 1 ≤ k ∧ k ≤ 5 → en_cV (x_m_wrong_0 (f, g) (nI k)) (fun σ5 => en_cI (x_m_isGood_0 σ5) (fun r7 σ6 => if r7 = 0 ∨ r7 = 1 then some (.inl (some (.int r7)), σ6) else none) (fun e σ => some (.inr e, σ))) (fun e σ => some (.inr e, σ)) = rI (nI 0) (en_u1 (en_u1 f 0 15 (nI k)) 0 16 (f 0 21), g) := by
    intro k hk
    rw [m_wrong f g h15, c_V, m_good0 _ g hk (by rw [u1_ne _ _ (by omega), u1_at]), c_I, if_pos (by decide)]; rfl
  rw [e_m_isOneOf_0, m_good1 f g h15, c_I, if_neg (by decide)]
  unfold naF
  by_cases k : tK X c = 2
  · rw [if_pos k, if_pos (show f 0 20 = 2 by rw [i2]; exact k)]
    by_cases l4 : tLn X c ≤ 4
    · rw [if_pos l4, if_pos (show f 0 22 ≤ 4 by rw [h4, q_4]; exact nI_le l4 (by omega))]
      by_cases lm : tV X c < many
      · rw [if_pos lm, if_pos (show f 0 23 < nI many by rw [h5]; exact nI_lt lm (by omega)), m_good1 f g h15, c_I, if_pos (by decide)]
        exact ⟨fun _ => rfl, fun z => absurd rfl z⟩
      · rw [if_neg lm, if_neg (show ¬ f 0 23 < nI many by rw [h5]; exact nI_nlt (by omega) (by omega))]
        exact ⟨fun z => absurd z (by omega), fun _ => bad 3 (by omega)⟩
    · rw [if_neg l4, if_neg (show ¬ f 0 22 ≤ 4 by rw [h4, q_4]; exact nI_ge (by omega) (by omega))]
      exact ⟨fun z => absurd z (by omega), fun _ => bad 2 (by omega)⟩
  · rw [if_neg k, if_neg (show ¬ f 0 20 = 2 by rw [i2]; exact k)]
    exact ⟨fun z => absurd z (by omega), fun _ => bad 1 (by omega)⟩
theorem nuF_c (X : mu_X) (c lo hi : Nat) : nuF X c lo hi ≤ 2 ∧ (nuF X c lo hi = 0 → tK X c = 2 ∧ tLn X c ≤ 4 ∧ lo ≤ tV X c ∧ tV X c ≤ hi) := by
  unfold nuF
  by_cases k : tK X c = 2
  · rw [if_pos k]
    by_cases l : tLn X c ≤ 4 ∧ lo ≤ tV X c ∧ tV X c ≤ hi
    · rw [if_pos l]; exact ⟨by omega, fun _ => ⟨k, l⟩⟩
    · rw [if_neg l]; exact ⟨by omega, fun z => absurd z (by omega)⟩
  · rw [if_neg k]; exact ⟨by omega, fun z => absurd z (by omega)⟩
theorem naF_c (X : mu_X) (c many : Nat) : naF X c many ≤ 3 ∧ (naF X c many = 0 → tK X c = 2 ∧ tV X c < many) := by
  unfold naF
  by_cases k : tK X c = 2
  · rw [if_pos k]
    by_cases l : tLn X c ≤ 4
    · rw [if_pos l]
      by_cases m : tV X c < many
      · rw [if_pos m]; exact ⟨by omega, fun _ => ⟨k, m⟩⟩
      · rw [if_neg m]; exact ⟨by omega, fun z => absurd z (by omega)⟩
    · rw [if_neg l]; exact ⟨by omega, fun z => absurd z (by omega)⟩
  · rw [if_neg k]; exact ⟨by omega, fun z => absurd z (by omega)⟩
/-- a whole expression of the model -/
theorem any_PK {s : Nat} : ∀ P : List Nat, PK s P → (P.any fun a => decide (14 ≤ a)) = false := by
  intro P
  induction P with
  | nil => intro _; rfl
  | cons a P ih =>
    intro h
    have h1 := h a (List.mem_cons_self ..)
    show (decide (14 ≤ a) || P.any fun a => decide (14 ≤ a)) = false
    rw [ih (fun b hb => h b (List.mem_cons_of_mem _ hb)), decide_eq_false (by omega)]
    rfl
theorem m_expr {X : mu_X} (xo : XOK X) {c t : Nat} {o : mu_O} (hc : c ≤ X.1) (ok : OOk X 1 31 c o) (f : Nat → Nat → Int32) (g : Nat → Nat → Int64) (hT : MT X c f g) (h15 : f 0 15 = nI 0) (h33 : f 0 33 = nI t) (hb : t + 8 ≤ 2 * c) (hm : ∀ f g W t, ME X c W 0 t f g → topS W = 0 → bnd c t W → MRes X 1 (0 + 1) W t f g o (Dm (f, g))) : match o with
    | .inl z => ∃ f' g', x_m_expression_0 (f, g) = rV (f', g') ∧ MT X z.1 f' g' ∧ f' 0 15 = nI 0 ∧ f' 0 33 = nI (t + eL z.2 + 1) ∧ Em f' t z.2 ∧ f' 15 (t + eL z.2) = nI 0 ∧ (∀ i, i < t → f' 15 i = f 15 i) ∧ f' 0 16 = f 0 16 ∧ MX f f' ∧ (∀ q, q ≠ 0 → g' q = g q) ∧ t + eL z.2 + 1 ≤ 2 * z.1
    | .inr z => MBd z.1 z.2 f g (x_m_expression_0 (f, g)) := by
  have n7 := xo.1
  have F0 : MX f (en_u1 (en_u1 f 0 34 (nI 0)) 0 35 (nI 0)) := fun p i a _ _ _ => by rw [u1_ne _ _ (by omega), u1_ne _ _ (by omega)]
  have M0 : ME X c [] 0 t (en_u1 (en_u1 f 0 34 (nI 0)) 0 35 (nI 0)) g := ⟨MT_of hT (fun i _ _ => by rw [u1_ne _ _ (by omega), u1_ne _ _ (by omega)]) (fun i => by rw [u1_ne _ _ (by omega), u1_ne _ _ (by omega)]), by rw [u1_ne _ _ (by omega), u1_ne _ _ (by omega)]; exact h15, by rw [u1_ne _ _ (by omega), u1_ne _ _ (by omega)]; exact h33, by rw [u1_ne _ _ (by omega), u1_at]; rfl, u1_at _ _ _ _, trivial, fun a ha => by cases ha⟩
  have st : x_m_expression_0 (f, g) = Dm (en_u1 (en_u1 f 0 34 (nI 0)) 0 35 (nI 0), g) := by
    rw [e_m_expression_0, m_good1 f g h15, c_I, if_neg (by decide)]
    simp only [e_m_operand_0]
    rfl
  have r := hm _ g [] t M0 rfl ⟨by show t + 0 + 8 ≤ 2 * c; omega, Nat.zero_le _⟩
  rw [st]
  cases o with
  | inr z => exact MBd_of r F0 (fun _ _ => rfl)
  | inl z =>
    obtain ⟨c1, l⟩ := z
    obtain ⟨ok1, ok2, ok3, ok4⟩ := ok
    have ok1' : c1 ≤ X.1 := ok1
    have ok2' : l.length + c ≤ c1 := ok2
    obtain ⟨f1, g1, le, P, b1, b2, b3, b4, b5, b6, b7⟩ := r
    rw [List.append_nil] at b4
    have b2' : l = le ++ P.map aSt := b2
    have el2 := eL_le l
    have e3 : eL l = eL le + P.length := by rw [b2', eL_app, eL_ops P b3]
    have e4 : l.length = le.length + P.length := by rw [b2', List.length_append, List.length_map]
    have h35 : f1 0 35 = nI (0 + 1) := b4.2.2.2.2.1
    have sp := m_stop xo f1 g1 b4 ok1 (by omega) (by omega) ok4 (b7 (by omega)) (fun _ => any_PK P b3)
    have b4' : ME X c1 (P ++ []) (0 + 1) (t + eL le) f1 g1 := by rw [List.append_nil]; exact b4
    obtain ⟨f2, d1, d2, d3, d4, d5⟩ := ME_drop (0 + 1) f1 g1 b4' (PK_mono b3 (by omega)) (k := 0) (Or.inr ⟨rfl, rfl⟩) (by omega) (by omega) (by rw [List.append_nil]; omega)
    have et : t + eL le + eL (P.map aSt) = t + eL l := by rw [e3, eL_ops P b3]; omega
    rw [et] at d2
    obtain ⟨f3, p1, p2, p3, p4⟩ := ME_put (0 + 1) f2 g1 d2 (by omega) 0
    refine ⟨f3, g1, ?_, p2.1, p2.2.1, p2.2.2.1, ?_, p3, fun i hi => ?_, ?_, ?_, ?_, by show t + eL l + 1 ≤ 2 * c1; omega⟩
    · rw [b1, sp, e_m_expression_29, if_pos rfl, m_good1 f1 g1 b4.2.1, c_I, if_neg (by decide), if_pos (show f1 0 35 ≤ 1 by rw [h35]; decide), e_m_expression_345, show x_m_drops_0 (f1, g1) 0 = _ from d1, c_V, p1, c_V]
      rfl
    · show Em f3 t l
      rw [b2']
      refine (Em_app _ _ t).mpr ⟨Em_of _ t (fun i i1 i2 => ?_) b5, Em_of _ _ (fun i i1 i2 => ?_) d3⟩
      · rw [p4.2.1 i (by omega), d4.2.1 i (by omega)]
      · rw [p4.2.1 i (by omega)]
    · rw [p4.2.1 i (by omega), d4.2.1 i (by omega), b6.2.1 i hi, u1_ne _ _ (by omega), u1_ne _ _ (by omega)]
    · rw [p4.2.2.2.1, d4.2.2.2.1, b6.2.2.2.1, u1_ne _ _ (by omega), u1_ne _ _ (by omega)]
    · exact MX_trans F0 (MX_trans b6.1 (MX_trans d4.1 p4.1))
    · intro q hq
      rw [p4.2.2.2.2 q hq, d4.2.2.2.2 q hq, b6.2.2.2.2 q hq]
