/-! expressions: the model's other steps -/
theorem ME_17 {X : mu_X} {c e t j : Nat} {W : List Nat} {f : Nat → Nat → Int32} {g : Nat → Nat → Int64} (h : ME X c W e t f g) (v : Int32) : ME X c W e t (en_u1 f 17 j v) g := by
  obtain ⟨h1, h2, h3, h4, h5, h6, h7⟩ := h
  exact ⟨MT_of h1 (fun i _ _ => u1_ne _ _ (by omega)) (fun i => u1_ne _ _ (by omega)), by rw [u1_ne _ _ (by omega)]; exact h2, by rw [u1_ne _ _ (by omega)]; exact h3, by rw [u1_ne _ _ (by omega)]; exact h4, by rw [u1_ne _ _ (by omega)]; exact h5, wts_of _ (fun i _ => u1_ne _ _ (by omega)) h6, h7⟩
theorem FM_17 (t e : Nat) (f : Nat → Nat → Int32) (g : Nat → Nat → Int64) {j : Nat} (hj : e ≤ j) (v : Int32) : FM t e f g (en_u1 f 17 j v) g := ⟨fun p i _ _ _ a => u1_ne _ _ (by omega), fun i _ => u1_ne _ _ (by omega), fun i hi => u1_ne _ _ (by omega), u1_ne _ _ (by omega), fun _ _ => rfl⟩
theorem nar1 : vp_nar .boolean 1 = nI 1 := by decide
theorem nar0 : vp_nar .boolean 0 = nI 0 := by decide
/-- a test -/
theorem m_op4 {X : mu_X} (xo : XOK X) {c e t : Nat} {P W : List Nat} (f : Nat → Nat → Int32) (g : Nat → Nat → Int64) (h : ME X c (P ++ W) e t f g) (hc : c ≤ X.1) (hb : bnd c t (P ++ W)) (hP : PK 4 P) (hW : topS W < 4) (he : e ≤ 6) (h17 : f 17 e = nI 0) (hs : sg X c 60 = true ∨ sg X c 61 = true) : ∃ f' g', Lm (f, g) = Qm 0 (f', g') ∧ ME X (tE X c) ((if sg X c 60 = true then 6 else 7) :: W) e (t + eL (P.map aSt)) f' g' ∧ Em f' t (P.map aSt) ∧ FM t e f g f' g' ∧ f' 17 e = nI 1 := by
  have n7 := xo.1
  have hla : (P ++ W).length = P.length + W.length := List.length_append
  obtain ⟨b1, b2⟩ := hb
  have hkw : kW X c = 17 := by rcases hs with s | s <;> exact (sg_kW s).1
  have hT := h.1
  have h35 : f 0 35 = nI e := h.2.2.2.2.1
  have start : Lm (f, g) = x_m_expression_127 (f, g) 1 := by
    unfold Lm
    rw [e_m_expression_29, if_neg i10, m_good1 f g h.2.1, c_I, if_neg (by decide), m_known xo f g hT hc, c_I, hkw, if_neg (by decide), if_neg (by decide), show x_m_isSign_0 (f, g) 60 = _ from m_isSign xo f g hT (v := 60) (by omega), c_I]
    cases k : sg X c 60 with
    | true => rw [if_neg (tb_y rfl)]
    | false =>
      have s61 : sg X c 61 = true := by rcases hs with s | s; (rw [k] at s; cases s); exact s
      rw [if_pos (tb_n rfl), show x_m_isSign_0 (f, g) 61 = _ from m_isSign xo f g hT (v := 61) (by omega), c_I, if_neg (tb_y s61)]
  obtain ⟨f1, a1, a2, a3, a4, _⟩ := ME_drop e f g h hP (Or.inl hW) (by omega) (by omega) (by omega)
  have fin : ∀ a, (3 ≤ a ∧ a ≤ 11) ∨ a = 14 → ∃ f' g', en_cV (x_m_waitsFor_0 (f1, g) (nI a)) (fun σ4 => if en_in (σ4.1 0 35) 9 then en_cV (x_m_goes_0 (en_u1 σ4.1 17 ((σ4.1 0 35).toNatClampNeg) (vp_nar .boolean 1), σ4.2)) (fun σ5 => en_cV (x_m_operand_0 σ5 0) (fun σ6 => x_m_expression_29 σ6 1) (fun e σ => some (.inr e, σ))) (fun e σ => some (.inr e, σ)) else none) (fun e σ => some (.inr e, σ)) = Qm 0 (f', g') ∧ ME X (tE X c) (a :: W) e (t + eL (P.map aSt)) f' g' ∧ Em f' t (P.map aSt) ∧ FM t e f g f' g' ∧ f' 17 e = nI 1 := by
    intro a ha
    obtain ⟨f2, b1, b2, b3, _⟩ := ME_wait e f1 g a2 (by omega) ha
    have e35 : f2 0 35 = nI e := b2.2.2.2.2.1
    obtain ⟨f3, g3, c1, c2, c3, c4⟩ := ME_go xo e (en_u1 f2 17 e (nI 1)) g hc (ME_17 b2 (nI 1))
    refine ⟨f3, g3, ?_, c2, ?_, FM_trans a4 (Nat.le_refl _) (Nat.le_refl _) (FM_trans (FM_mono b3 (Nat.le_add_right _ _) (Nat.le_refl _)) (Nat.le_refl _) (Nat.le_refl _) (FM_trans (FM_17 t e f2 g (Nat.le_refl _) _) (Nat.le_refl _) (Nat.le_refl _) (FM_mono c3 (Nat.le_add_right _ _) (Nat.le_refl _)))), by rw [c4, u1_at]⟩
    · rw [b1, c_V]
      simp (disch := omega) only [e35, q_in, q_clamp, if_true, nar1]
      rw [c1, c_V, e_m_operand_0]
      exact O4_Q f3 g3 c2.2.1
    · refine Em_of _ t (fun i i1 i2 => ?_) a3
      rw [c3.2.1 i i2, u1_ne _ _ (by omega), b3.2.1 i i2]
  rw [start, e_m_expression_127]
  simp (disch := omega) only [h35, q_in, q_clamp, if_true, h17]
  rw [if_pos (by decide), show x_m_drops_0 (f, g) 4 = _ from a1, c_V, show x_m_isSign_0 (f1, g) 60 = _ from m_isSign xo f1 g a2.1 (v := 60) (by omega), c_I]
  cases k : sg X c 60 with
  | true => rw [if_neg (tb_y rfl), if_pos rfl]; exact fin 6 (by omega)
  | false => rw [if_pos (tb_n rfl), if_neg (by decide)]; exact fin 7 (by omega)
/-- and, or -/
theorem m_op2 {X : mu_X} (xo : XOK X) {c e t s : Nat} {P W : List Nat} (f : Nat → Nat → Int32) (g : Nat → Nat → Int64) (h : ME X c (P ++ W) e t f g) (hc : c ≤ X.1) (hb : bnd c t (P ++ W)) (hs : (s = 2 ∧ kW X c = 14) ∨ (s = 1 ∧ kW X c = 15)) (hP : PK s P) (hW : topS W < s) (he : e ≤ 6) : ∃ f' g', Lm (f, g) = O4 1 (f', g') ∧ ME X (tE X c) ((if s = 2 then 4 else 5) :: W) e (t + eL (P.map aSt)) f' g' ∧ Em f' t (P.map aSt) ∧ FM t e f g f' g' ∧ f' 17 e = nI 0 := by
  have n7 := xo.1
  have hla : (P ++ W).length = P.length + W.length := List.length_append
  obtain ⟨b1, b2⟩ := hb
  have hT := h.1
  have h35 : f 0 35 = nI e := h.2.2.2.2.1
  obtain ⟨f1, a1, a2, a3, a4, _⟩ := ME_drop e f g h hP (Or.inl hW) (by omega) (by omega) (by omega)
  have fin : ∀ a, (3 ≤ a ∧ a ≤ 11) ∨ a = 14 → ∃ f' g', en_cV (x_m_waitsFor_0 (f1, g) (nI a)) (fun σ4 => if en_in (σ4.1 0 35) 9 then en_cV (x_m_goes_0 (en_u1 σ4.1 17 ((σ4.1 0 35).toNatClampNeg) (vp_nar .boolean 0), σ4.2)) (fun σ5 => en_cV (x_m_operand_0 σ5 1) (fun σ6 => x_m_expression_29 σ6 1) (fun e σ => some (.inr e, σ))) (fun e σ => some (.inr e, σ)) else none) (fun e σ => some (.inr e, σ)) = O4 1 (f', g') ∧ ME X (tE X c) (a :: W) e (t + eL (P.map aSt)) f' g' ∧ Em f' t (P.map aSt) ∧ FM t e f g f' g' ∧ f' 17 e = nI 0 := by
    intro a ha
    obtain ⟨f2, b1, b2, b3, _⟩ := ME_wait e f1 g a2 (by omega) ha
    have e35 : f2 0 35 = nI e := b2.2.2.2.2.1
    obtain ⟨f3, g3, c1, c2, c3, c4⟩ := ME_go xo e (en_u1 f2 17 e (nI 0)) g hc (ME_17 b2 (nI 0))
    refine ⟨f3, g3, ?_, c2, ?_, FM_trans a4 (Nat.le_refl _) (Nat.le_refl _) (FM_trans (FM_mono b3 (Nat.le_add_right _ _) (Nat.le_refl _)) (Nat.le_refl _) (Nat.le_refl _) (FM_trans (FM_17 t e f2 g (Nat.le_refl _) _) (Nat.le_refl _) (Nat.le_refl _) (FM_mono c3 (Nat.le_add_right _ _) (Nat.le_refl _)))), by rw [c4, u1_at]⟩
    · rw [b1, c_V]
      simp (disch := omega) only [e35, q_in, q_clamp, if_true, nar0]
      rw [c1, c_V, e_m_operand_0]
      rfl
    · refine Em_of _ t (fun i i1 i2 => ?_) a3
      rw [c3.2.1 i i2, u1_ne _ _ (by omega), b3.2.1 i i2]
  unfold Lm
  rw [e_m_expression_29, if_neg i10, m_good1 f g h.2.1, c_I, if_neg (by decide), m_known xo f g hT hc, c_I]
  rcases hs with ⟨s2, k⟩ | ⟨s2, k⟩
  · subst s2
    rw [k, if_pos (by decide), if_pos (by decide), e_m_expression_69, show x_m_drops_0 (f, g) 2 = _ from a1, c_V, if_pos (by decide), if_pos rfl]
    exact fin 4 (by omega)
  · subst s2
    rw [k, if_neg (by decide), if_pos (by decide), if_neg (by decide), e_m_expression_69, show x_m_drops_0 (f, g) 1 = _ from a1, c_V, if_neg (by decide), if_neg (by decide)]
    exact fin 5 (by omega)
/-- nothing follows -/
theorem m_stop {X : mu_X} (xo : XOK X) {c e t : Nat} {W : List Nat} (f : Nat → Nat → Int32) (g : Nat → Nat → Int64) (h : ME X c W e t f g) (hc : c ≤ X.1) (hl : W.length ≤ 950) (he : e ≤ 8) (hf : fol X 1 c) (h17 : sg X c 60 = true ∨ sg X c 61 = true → f 17 e = nI 1) (h41 : sg X c 41 = true → (W.any fun a => decide (14 ≤ a)) = false) : Lm (f, g) = x_m_expression_29 (f, g) 0 := by
  have hT := h.1
  have h35 : f 0 35 = nI e := h.2.2.2.2.1
  obtain ⟨f1, f2, f3, f4⟩ := hf
  obtain ⟨s42, s47⟩ := f1 (by omega)
  obtain ⟨s43, s45⟩ := f2 (by omega)
  have k14 := f3 (by omega)
  have k15 := f4 (by omega)
  have tail : x_m_expression_186 (f, g) 1 = x_m_expression_29 (f, g) 0 := by
    rw [e_m_expression_186, show x_m_isSign_0 (f, g) 43 = _ from m_isSign xo f g hT (v := 43) (by omega), c_I, if_pos (tb_n s43), show x_m_isSign_0 (f, g) 45 = _ from m_isSign xo f g hT (v := 45) (by omega), c_I, if_pos (tb_n s45), show x_m_isSign_0 (f, g) 42 = _ from m_isSign xo f g hT (v := 42) (by omega), c_I, if_pos (tb_n s42), show x_m_isSign_0 (f, g) 47 = _ from m_isSign xo f g hT (v := 47) (by omega), c_I, if_pos (tb_n s47), show x_m_isSign_0 (f, g) 41 = _ from m_isSign xo f g hT (v := 41) (by omega), c_I]
    cases k : sg X c 41 with
    | false => rw [if_pos (tb_n rfl)]
    | true =>
      have op := m_isOpened f g W (fun a ha => by have := h.2.2.2.2.2.2 a ha; omega) h.2.2.2.2.2.1 hl
      have h34 : f 0 34 = nI W.length := h.2.2.2.1
      rw [if_neg (tb_y rfl), e_m_isOpened_0]
      simp only [h34, q_1]
      rw [op, c_I, h41 k, if_pos (by decide)]
  unfold Lm
  rw [e_m_expression_29, if_neg i10, m_good1 f g h.2.1, c_I, if_neg (by decide), m_known xo f g hT hc, c_I, if_neg (by rw [q_14, kI_eq (by omega)]; exact k14), if_neg (by rw [q_15, kI_eq (by omega)]; exact k15), show x_m_isSign_0 (f, g) 60 = _ from m_isSign xo f g hT (v := 60) (by omega), c_I]
  have go127 : f 17 e = nI 1 → x_m_expression_127 (f, g) 1 = x_m_expression_29 (f, g) 0 := by
    intro k
    rw [e_m_expression_127]
    simp (disch := omega) only [h35, q_in, q_clamp, if_true, k]
    rw [if_neg (by decide)]
    exact tail
  cases k : sg X c 60 with
  | true => rw [if_neg (tb_y rfl)]; exact go127 (h17 (Or.inl k))
  | false =>
    rw [if_pos (tb_n rfl), show x_m_isSign_0 (f, g) 61 = _ from m_isSign xo f g hT (v := 61) (by omega), c_I]
    cases k2 : sg X c 61 with
    | true => rw [if_neg (tb_y rfl)]; exact go127 (h17 (Or.inr k2))
    | false => rw [if_pos (tb_n rfl)]; exact tail
/-- a parenthesis is closed -/
theorem m_close {X : mu_X} (xo : XOK X) {c e t : Nat} {P W : List Nat} (f : Nat → Nat → Int32) (g : Nat → Nat → Int64) (h : ME X c (P ++ 14 :: W) (e + 1) t f g) (hc : c ≤ X.1) (hb : bnd c t (P ++ 14 :: W)) (hP : PK 0 P) (hs : sg X c 41 = true) : ∃ f' g', Lm (f, g) = Lm (f', g') ∧ ME X (tE X c) W e (t + eL (P.map aSt)) f' g' ∧ Em f' t (P.map aSt) ∧ FM t (e + 1) f g f' g' := by
  have n7 := xo.1
  have hla : (P ++ 14 :: W).length = P.length + (W.length + 1) := by rw [List.length_append]; rfl
  obtain ⟨b1, b2⟩ := hb
  have hkw := (sg_kW hs).1
  have hT := h.1
  have S := fun b (hb : 41 ≠ b) => sg_ne hs hb
  have h34 : f 0 34 = nI (P ++ 14 :: W).length := h.2.2.2.1
  have op := m_isOpened f g (P ++ 14 :: W) (fun a ha => by have := h.2.2.2.2.2.2 a ha; omega) h.2.2.2.2.2.1 (by omega)
  have an : ((P ++ 14 :: W).any fun a => decide (14 ≤ a)) = true := by
    rw [List.any_append]
    show (_ || (decide (14 ≤ 14) || _)) = true
    rw [decide_eq_true (by omega), Bool.true_or, Bool.or_true]
  obtain ⟨f1, a1, a2, a3, a4, a5⟩ := ME_drop (e + 1) f g h hP (Or.inr ⟨rfl, rfl⟩) (by omega) (by omega) (by omega)
  have d34 : f1 0 34 = nI (W.length + 1) := a2.2.2.2.1
  have d35 : f1 0 35 = nI (e + 1) := a2.2.2.2.2.1
  have M2 : ME X c W e (t + eL (P.map aSt)) (en_u1 (en_u1 f1 0 34 (nI W.length)) 0 35 (nI e)) g := by
    obtain ⟨h1, h2, h3, h4, h5, h6, h7⟩ := a2
    exact ⟨MT_of h1 (fun i _ _ => by rw [u1_ne _ _ (by omega), u1_ne _ _ (by omega)]) (fun i => by rw [u1_ne _ _ (by omega), u1_ne _ _ (by omega)]), by rw [u1_ne _ _ (by omega), u1_ne _ _ (by omega)]; exact h2, by rw [u1_ne _ _ (by omega), u1_ne _ _ (by omega)]; exact h3, by rw [u1_ne _ _ (by omega), u1_at], u1_at _ _ _ _, wts_of _ (fun i _ => by rw [u1_ne _ _ (by omega), u1_ne _ _ (by omega)]) h6.2, fun a ha => h7 a (List.mem_cons_of_mem _ ha)⟩
  obtain ⟨f3, g3, c1, c2, c3, c4⟩ := ME_go xo (e + 1) _ g hc M2
  refine ⟨f3, g3, ?_, c2, ?_, ?_⟩
  · show x_m_expression_29 (f, g) 1 = x_m_expression_29 (f3, g3) 1
    rw [e_m_expression_29, if_neg i10, m_good1 f g h.2.1, c_I, if_neg (by decide), m_known xo f g hT hc, c_I, hkw, if_neg (by decide), if_neg (by decide), show x_m_isSign_0 (f, g) 60 = _ from m_isSign xo f g hT (v := 60) (by omega), c_I, if_pos (tb_n (S 60 (by omega))), show x_m_isSign_0 (f, g) 61 = _ from m_isSign xo f g hT (v := 61) (by omega), c_I, if_pos (tb_n (S 61 (by omega))), e_m_expression_186, show x_m_isSign_0 (f, g) 43 = _ from m_isSign xo f g hT (v := 43) (by omega), c_I, if_pos (tb_n (S 43 (by omega))), show x_m_isSign_0 (f, g) 45 = _ from m_isSign xo f g hT (v := 45) (by omega), c_I, if_pos (tb_n (S 45 (by omega))), show x_m_isSign_0 (f, g) 42 = _ from m_isSign xo f g hT (v := 42) (by omega), c_I, if_pos (tb_n (S 42 (by omega))), show x_m_isSign_0 (f, g) 47 = _ from m_isSign xo f g hT (v := 47) (by omega), c_I, if_pos (tb_n (S 47 (by omega))), show x_m_isSign_0 (f, g) 41 = _ from m_isSign xo f g hT (v := 41) (by omega), c_I, if_neg (tb_y hs), e_m_isOpened_0]
    simp only [h34, q_1]
    rw [op, c_I, an, if_neg (by decide), e_m_closes_0, show x_m_drops_0 (f, g) 0 = _ from a1, c_V]
    simp only [d34, d35, q_1]
    rw [nI_m1 (by omega), nI_m1 (by omega), Nat.add_sub_cancel, Nat.add_sub_cancel, c1, c_V]
    rfl
  · refine Em_of _ t (fun i i1 i2 => ?_) a3
    rw [c3.2.1 i i2, u1_ne _ _ (by omega), u1_ne _ _ (by omega)]
  · refine FM_trans a4 (Nat.le_refl _) (Nat.le_refl _) (FM_trans ⟨fun p i k1 k2 k3 k4 => ?_, fun i _ => ?_, fun i _ => ?_, ?_, fun _ _ => rfl⟩ (Nat.le_refl _) (Nat.le_refl _) (FM_mono c3 (Nat.le_add_right _ _) (Nat.le_refl _)))
    · rw [u1_ne _ _ (by omega), u1_ne _ _ (by omega)]
    · rw [u1_ne _ _ (by omega), u1_ne _ _ (by omega)]
    · rw [u1_ne _ _ (by omega), u1_ne _ _ (by omega)]
    · rw [u1_ne _ _ (by omega), u1_ne _ _ (by omega)]
/-- a parenthesis is opened -/
theorem m_open {X : mu_X} (xo : XOK X) {c e t : Nat} {W : List Nat} (f : Nat → Nat → Int32) (g : Nat → Nat → Int64) (h : ME X c W e t f g) (hc : c ≤ X.1) (hb : bnd c t W) (hs : sg X c 40 = true) (v : Int32) : ∃ f' g', Qm v (f, g) = Dm (f', g') ∧ ME X (tE X c) (14 :: W) e t f' g' ∧ FM t (e + 1) f g f' g' := by
  have n7 := xo.1
  obtain ⟨b1, b2⟩ := hb
  obtain ⟨f2, d1, d2, d3, _⟩ := ME_wait (e + 1) f g h (by omega) (a := 14) (Or.inr rfl)
  obtain ⟨f3, g3, c1, c2, c3, _⟩ := ME_go xo (e + 1) f2 g hc d2
  refine ⟨f3, g3, ?_, c2, FM_trans d3 (Nat.le_refl _) (Nat.le_refl _) c3⟩
  unfold Qm
  rw [e_m_operand_75, m_good1 f g h.2.1, c_I, if_neg (by decide), show x_m_isSign_0 (f, g) 40 = _ from m_isSign xo f g h.1 (v := 40) (by omega), c_I, if_neg (tb_y hs), show x_m_waitsFor_0 (f, g) 14 = _ from d1, c_V, c1, c_V, cV_assoc]
  rfl
theorem m_deeper {X : mu_X} {c e t : Nat} {W : List Nat} (f : Nat → Nat → Int32) (g : Nat → Nat → Int64) (h : ME X c W e t f g) (he : e < 6) : ∃ f', Dm (f, g) = O4 1 (f', g) ∧ ME X c W (e + 1) t f' g ∧ f' 17 (e + 1) = nI 0 ∧ FM t (e + 1) f g f' g := by
  obtain ⟨h1, h2, h3, h4, h5, h6, h7⟩ := h
  refine ⟨en_u1 (en_u1 f 0 35 (nI (e + 1))) 17 (e + 1) (nI 0), ?_, ME_17 ⟨MT_of h1 (fun i _ _ => u1_ne _ _ (by omega)) (fun i => u1_ne _ _ (by omega)), by rw [u1_ne _ _ (by omega)]; exact h2, by rw [u1_ne _ _ (by omega)]; exact h3, by rw [u1_ne _ _ (by omega)]; exact h4, u1_at _ _ _ _, wts_of _ (fun i _ => u1_ne _ _ (by omega)) h6, h7⟩ _, u1_at _ _ _ _, fun p i k1 k2 k3 k4 => ?_, fun i _ => ?_, fun i _ => ?_, ?_, fun _ _ => rfl⟩
  · unfold Dm
    rw [e_m_deeper_0, if_neg (by show ¬ (6 : Int32) ≤ f 0 35; rw [h5, q_6]; exact nI_ge he (by omega))]
    simp (disch := omega) only [h5, nI_1, q_in, q_clamp, if_true, nar0]
    rfl
  · rw [u1_ne _ _ (by omega), u1_ne _ _ (by omega)]
  · rw [u1_ne _ _ (by omega), u1_ne _ _ (by omega)]
  · rw [u1_ne _ _ (by omega), u1_ne _ _ (by omega)]
  · rw [u1_ne _ _ (by omega), u1_ne _ _ (by omega)]
/-- which fault it is to be within six others -/
def dpF (X : mu_X) (c : Nat) : Nat := if tK X c = 2 ∨ tK X c = 1 ∨ sg X c 40 = true then 2 else 1
theorem m_deeper6 {X : mu_X} (xo : XOK X) {c t : Nat} {W : List Nat} (f : Nat → Nat → Int32) (g : Nat → Nat → Int64) (h : ME X c W 6 t f g) (hc : c ≤ X.1) (hb : bnd c t W) : MBd (dpF X c) (tS X c) f g (Dm (f, g)) := by
  have k4 := tK_4 X c
  have h35 : f 0 35 = nI 6 := h.2.2.2.2.1
  have h20 : f 0 20 = nI (tK X c) := h.1.2.2.1
  have fin : ∀ k, 1 ≤ k ∧ k ≤ 5 → MBd k (tS X c) f g (en_cV (en_cV (x_m_wrong_0 (f, g) (nI k)) (fun σ1 => some (.inl none, σ1)) (fun e σ => some (.inr e, σ))) (O4 1) (fun e σ => some (.inr e, σ))) := by
    intro k hk
    rw [m_wrong f g h.2.1, c_V]
    show MBd k (tS X c) f g (O4 1 (en_u1 (en_u1 f 0 15 (nI k)) 0 16 (f 0 21), g))
    rw [m_badO4 _ g hk (by rw [u1_ne _ _ (by omega), u1_at])]
    exact m_fault xo f g h hc hb hk
  unfold Dm
  rw [e_m_deeper_0, if_pos (by show (6 : Int32) ≤ f 0 35; rw [h35]; decide)]
  simp (disch := omega) only [q_0, q_1, q_2, q_3, q_4, q_5, q_6, q_7, q_8, q_9, q_10, q_11, q_12, q_13, q_14, q_15, q_16, q_17, q_18, q_19, q_20, q_21, q_22, q_23, q_24, q_29, q_30, q_31, q_36, q_42, q_50, q_40, q_48, q_96, q_97, q_99, q_100, q_255, q_256, q_700, q_999, q_1160, q_1400, q_99999, q_m1, h20, q_eqI]
  unfold dpF
  by_cases c2 : tK X c = 2
  · rw [if_pos c2, if_pos (Or.inl c2)]; exact fin 2 (by omega)
  rw [if_neg c2]
  by_cases c1 : tK X c = 1
  · rw [if_pos c1, if_pos (Or.inr (Or.inl c1))]; exact fin 2 (by omega)
  rw [if_neg c1, m_isSign xo f g h.1 (v := 40) (by omega), c_I]
  cases k : sg X c 40 with
  | true =>
    rw [if_pos (show tK X c = 2 ∨ tK X c = 1 ∨ true = true from Or.inr (Or.inr rfl)), if_neg (show ¬ tb true = nI 0 by decide)]
    exact fin 2 (by omega)
  | false =>
    rw [if_neg (show ¬ (tK X c = 2 ∨ tK X c = 1 ∨ false = true) from fun y => y.elim c2 (fun y => y.elim c1 (fun y => Bool.noConfusion y))), if_pos (show tb false = nI 0 from rfl)]
    exact fin 1 (by omega)
/-- a 'not' -/
theorem O18_not {X : mu_X} (xo : XOK X) {c e t k : Nat} {W : List Nat} (f : Nat → Nat → Int32) (g : Nat → Nat → Int64) (h : ME X c W e t f g) (hc : c ≤ X.1) (hb : bnd c t W) (hk : k < 6) (hw : kW X c = 16) : ∃ f' g', O18 (nI k) (f, g) = O18 (nI (k + 1)) (f', g') ∧ ME X (tE X c) (3 :: W) e t f' g' ∧ FM t (e + 1) f g f' g' := by
  have n7 := xo.1
  obtain ⟨b1, b2⟩ := hb
  obtain ⟨f2, d1, d2, d3, _⟩ := ME_wait (e + 1) f g h (by omega) (a := 3) (by omega)
  obtain ⟨f3, g3, c1, c2, c3, _⟩ := ME_go xo (e + 1) f2 g hc d2
  refine ⟨f3, g3, ?_, c2, FM_trans d3 (Nat.le_refl _) (Nat.le_refl _) c3⟩
  unfold O18
  rw [e_m_operand_18, m_good1 f g h.2.1, c_I, if_neg (by decide), if_neg i10, m_known xo f g h.1 hc, c_I, hw, if_pos (by decide), if_neg (by rw [q_6, q_eqI (by omega) (by omega)]; omega), m_good1 f g h.2.1, c_I, if_neg (by decide), show x_m_waitsFor_0 (f, g) 3 = _ from d1, c_V, c1, c_V, nI_1]
theorem O18_six {X : mu_X} (xo : XOK X) {c e t : Nat} {W : List Nat} (f : Nat → Nat → Int32) (g : Nat → Nat → Int64) (h : ME X c W e t f g) (hc : c ≤ X.1) (hb : bnd c t W) (hw : kW X c = 16) : MBd 2 (tS X c) f g (O18 (nI 6) (f, g)) := by
  have hg : en_u1 (en_u1 f 0 15 (nI 2)) 0 16 (f 0 21) 0 15 = nI 2 := by rw [u1_ne _ _ (by omega), u1_at]
  have e1 : O18 (nI 6) (f, g) = O18 (nI 6 + 1) (en_u1 (en_u1 f 0 15 (nI 2)) 0 16 (f 0 21), g) := by
    unfold O18
    rw [e_m_operand_18, m_good1 f g h.2.1, c_I, if_neg (by decide), if_neg i10, m_known xo f g h.1 hc, c_I, hw, if_pos (by decide), if_pos (by decide), show x_m_wrong_0 (f, g) 2 = _ from m_wrong f g h.2.1 (nI 2), c_V, m_good0 _ g (k := 2) (by omega) hg, c_I, if_pos (by decide)]
  rw [e1, m_badO18 _ g (k := 2) (by omega) hg]
  exact m_fault xo f g h hc hb (by omega)
