/-! expressions: where the model stands, and its steps from there -/
theorem cV_assoc (a : Option en_O) (k L : en_S → Option en_O) : en_cV (en_cV a k (fun e σ => some (.inr e, σ))) L (fun e σ => some (.inr e, σ)) = en_cV a (fun σ => en_cV (k σ) L (fun e σ => some (.inr e, σ))) (fun e σ => some (.inr e, σ)) := by
  cases a with
  | none => rfl
  | some z =>
    obtain ⟨v | e, σ⟩ := z
    · cases v <;> rfl
    · rfl
noncomputable def Lm (σ : en_S) : Option en_O := x_m_expression_29 σ 1
noncomputable def Qm (v : Int32) (σ : en_S) : Option en_O := en_cV (x_m_operand_75 σ v) Lm (fun e σ => some (.inr e, σ))
noncomputable def O4 (v : Int32) (σ : en_S) : Option en_O := en_cV (x_m_operand_4 σ v 1) Lm (fun e σ => some (.inr e, σ))
noncomputable def O18 (k : Int32) (σ : en_S) : Option en_O := en_cV (x_m_operand_18 σ 1 k) Lm (fun e σ => some (.inr e, σ))
noncomputable def Dm (σ : en_S) : Option en_O := en_cV (x_m_deeper_0 σ) (O4 1) (fun e σ => some (.inr e, σ))
theorem i10 : ¬ (1 : Int32) = 0 := by decide
theorem O4_Q (f : Nat → Nat → Int32) (g : Nat → Nat → Int64) (h : f 0 15 = nI 0) : O4 0 (f, g) = Qm 0 (f, g) := by
  unfold O4 Qm
  rw [e_m_operand_4, if_neg i10, m_good1 f g h, c_I, if_neg (by decide), e_m_operand_18, m_good1 f g h, c_I, if_neg (by decide), if_pos rfl]
theorem O4_18 (f : Nat → Nat → Int32) (g : Nat → Nat → Int64) (h : f 0 15 = nI 0) : O4 1 (f, g) = O18 0 (f, g) := by
  unfold O4 O18
  rw [e_m_operand_4, if_neg i10, m_good1 f g h, c_I, if_neg (by decide)]
theorem kI_eq {k j : Nat} (hj : j < 17) : (kI k = nI j) = (k = j) := by
  unfold kI
  by_cases c : k < 17
  · rw [if_pos c, q_eqI (by omega) (by omega)]
  · rw [if_neg c, q_nNe2 (by omega)]
    exact (eq_false (by omega)).symm
theorem O18_Q {X : mu_X} (xo : XOK X) (f : Nat → Nat → Int32) (g : Nat → Nat → Int64) {c : Nat} (hc : c ≤ X.1) (hT : MT X c f g) (h : f 0 15 = nI 0) (hk : kW X c ≠ 16) (k : Int32) : O18 k (f, g) = Qm 1 (f, g) := by
  unfold O18 Qm
  rw [e_m_operand_18, m_good1 f g h, c_I, if_neg (by decide), if_neg i10, m_known xo f g hT hc, c_I, if_neg (by rw [q_16, kI_eq (by omega)]; exact hk)]
/-- a fault: how the model ends -/
def MBd (k q : Nat) (f : Nat → Nat → Int32) (g : Nat → Nat → Int64) (o : Option en_O) : Prop := ∃ f' g', o = rV (f', g') ∧ f' 0 15 = nI k ∧ f' 0 16 = nI q ∧ MX f f' ∧ ∀ q, q ≠ 0 → g' q = g q
theorem MBd_of {k q : Nat} {f f1 : Nat → Nat → Int32} {g g1 : Nat → Nat → Int64} {o : Option en_O} (h : MBd k q f1 g1 o) (hx : MX f f1) (hg : ∀ q, q ≠ 0 → g1 q = g q) : MBd k q f g o := by
  obtain ⟨f', g', a1, a2, a3, a4, a5⟩ := h
  exact ⟨f', g', a1, a2, a3, MX_trans hx a4, fun q hq => (a5 q hq).trans (hg q hq)⟩
theorem w_split : ∀ W : List Nat, (∀ a, a ∈ W → (3 ≤ a ∧ a ≤ 11) ∨ a = 14) → ∃ P W', W = P ++ W' ∧ PK 0 P ∧ topS W' = 0 := by
  intro W
  induction W with
  | nil => intro _; exact ⟨[], [], rfl, PK_nil 0, rfl⟩
  | cons a W ih =>
    intro h
    by_cases c : a = 14
    · exact ⟨[], a :: W, rfl, PK_nil 0, by show (if 14 ≤ a then 0 else stN a) = 0; rw [if_pos (by omega)]⟩
    · obtain ⟨P, W', e1, e2, e3⟩ := ih (fun b hb => h b (List.mem_cons_of_mem _ hb))
      have := h a (List.mem_cons_self ..)
      exact ⟨a :: P, W', by rw [e1]; rfl, PK_cons (by omega) e2, e3⟩
theorem m_345 (f : Nat → Nat → Int32) (g : Nat → Nat → Int64) {t : Nat} (W : List Nat) (h33 : f 0 33 = nI t) (h34 : f 0 34 = nI W.length) (hw : wts f W) (hW : ∀ a, a ∈ W → (3 ≤ a ∧ a ≤ 11) ∨ a = 14) (ht : t + W.length + 1 ≤ 1400) (hl : W.length ≤ 950) : ∃ f', x_m_expression_345 (f, g) = rV (f', g) ∧ f' 0 15 = f 0 15 ∧ f' 0 16 = f 0 16 ∧ MX f f' := by
  obtain ⟨P, W', e1, e2, e3⟩ := w_split W hW
  subst e1
  have hla : (P ++ W').length = P.length + W'.length := List.length_append
  obtain ⟨f1, a1, a2, a3, a4, a5⟩ := m_drops (k := 0) g W' (Or.inr ⟨rfl, e3⟩) (fun a ha => by have := hW a (List.mem_append_right _ ha); omega) P f t e2 hw h33 h34 (by omega) hl (by omega)
  rw [e_m_expression_345, show x_m_drops_0 (f, g) 0 = _ from a1, c_V, m_puts f1 g a2 (by omega), c_V]
  refine ⟨_, rfl, ?_, ?_, fun p i b1 b2 b3 b4 => ?_⟩
  · rw [u1_ne _ _ (by omega), u1_ne _ _ (by omega), a5 0 15 (by omega) (by omega)]
  · rw [u1_ne _ _ (by omega), u1_ne _ _ (by omega), a5 0 16 (by omega) (by omega)]
  · rw [u1_ne _ _ (by omega), u1_ne _ _ (by omega), a5 p i (by omega) (by omega)]
theorem m_badL (f : Nat → Nat → Int32) (g : Nat → Nat → Int64) {t k q : Nat} (W : List Nat) (hk : 1 ≤ k ∧ k ≤ 5) (h15 : f 0 15 = nI k) (h16 : f 0 16 = nI q) (h33 : f 0 33 = nI t) (h34 : f 0 34 = nI W.length) (hw : wts f W) (hW : ∀ a, a ∈ W → (3 ≤ a ∧ a ≤ 11) ∨ a = 14) (ht : t + W.length + 1 ≤ 1400) (hl : W.length ≤ 950) : MBd k q f g (Lm (f, g)) := by
  obtain ⟨f', a1, a2, a3, a4⟩ := m_345 f g W h33 h34 hw hW ht hl
  refine ⟨f', g, ?_, by rw [a2]; exact h15, by rw [a3]; exact h16, a4, fun _ _ => rfl⟩
  unfold Lm
  rw [e_m_expression_29, if_neg i10, m_good0 f g hk h15, c_I, if_pos (by decide), m_good0 f g hk h15, c_I, if_pos (by decide)]
  exact a1
theorem m_part0 (f : Nat → Nat → Int32) (g : Nat → Nat → Int64) {k : Nat} (hk : 1 ≤ k ∧ k ≤ 5) (h15 : f 0 15 = nI k) : x_m_part_0 (f, g) = rV (f, g) := by
  rw [e_m_part_0, m_good0 f g hk h15, c_I, if_pos (by decide)]; rfl
theorem m_badQ (f : Nat → Nat → Int32) (g : Nat → Nat → Int64) {k : Nat} (hk : 1 ≤ k ∧ k ≤ 5) (h15 : f 0 15 = nI k) (v : Int32) : Qm v (f, g) = Lm (f, g) := by
  unfold Qm
  rw [e_m_operand_75, m_good0 f g hk h15, c_I, if_pos (by decide), e_m_operand_4, if_pos rfl, m_part0 f g hk h15, c_V]
  rfl
theorem m_badO4 (f : Nat → Nat → Int32) (g : Nat → Nat → Int64) {k : Nat} (hk : 1 ≤ k ∧ k ≤ 5) (h15 : f 0 15 = nI k) (v : Int32) : O4 v (f, g) = Lm (f, g) := by
  unfold O4
  rw [e_m_operand_4, if_neg i10, m_good0 f g hk h15, c_I, if_pos (by decide), m_part0 f g hk h15, c_V]
  rfl
theorem m_badO18 (f : Nat → Nat → Int32) (g : Nat → Nat → Int64) {k : Nat} (hk : 1 ≤ k ∧ k ≤ 5) (h15 : f 0 15 = nI k) (v : Int32) : O18 v (f, g) = Lm (f, g) := by
  rw [← m_badQ f g hk h15 1]
  unfold O18 Qm
  rw [e_m_operand_18, m_good0 f g hk h15, c_I, if_pos (by decide)]
def bnd (c t : Nat) (W : List Nat) : Prop := t + W.length + 8 ≤ 2 * c ∧ W.length ≤ c
/-- a fault at the token: from where the model goes on -/
theorem m_fault {X : mu_X} (xo : XOK X) {c e t k : Nat} {W : List Nat} (f : Nat → Nat → Int32) (g : Nat → Nat → Int64) (h : ME X c W e t f g) (hc : c ≤ X.1) (hb : bnd c t W) (hk : 1 ≤ k ∧ k ≤ 5) : MBd k (tS X c) f g (Lm (en_u1 (en_u1 f 0 15 (nI k)) 0 16 (f 0 21), g)) := by
  have n7 := xo.1
  obtain ⟨h1, h2, h3, h4, h5, h6, h7⟩ := h
  have := m_badL (en_u1 (en_u1 f 0 15 (nI k)) 0 16 (f 0 21)) g (t := t) (k := k) (q := tS X c) W hk (by rw [u1_ne _ _ (by omega), u1_at]) (by rw [u1_at]; exact h1.2.2.2.1) (by rw [u1_ne _ _ (by omega), u1_ne _ _ (by omega)]; exact h3) (by rw [u1_ne _ _ (by omega), u1_ne _ _ (by omega)]; exact h4) (wts_of _ (fun i _ => by rw [u1_ne _ _ (by omega), u1_ne _ _ (by omega)]) h6) h7 (by have := hb.1; omega) (by have := hb.2; omega)
  exact MBd_of this (fun p i b1 b2 b3 b4 => by rw [u1_ne _ _ (by omega), u1_ne _ _ (by omega)]) (fun _ _ => rfl)
/-- the same with two numbers put behind the code -/
theorem m_fault2 {X : mu_X} (xo : XOK X) {c e t k : Nat} {W : List Nat} (f : Nat → Nat → Int32) (g : Nat → Nat → Int64) (h : ME X c W e t f g) (hc : c ≤ X.1) (hb : bnd c t W) (hk : 1 ≤ k ∧ k ≤ 5) (v w : Int32) : MBd k (tS X c) f g (Lm (en_u1 (en_u1 (en_u1 (en_u1 (en_u1 (en_u1 f 0 15 (nI k)) 0 16 (f 0 21)) 15 t v) 0 33 (nI (t + 1))) 15 (t + 1) w) 0 33 (nI (t + 2)), g)) := by
  have n7 := xo.1
  obtain ⟨h1, h2, h3, h4, h5, h6, h7⟩ := h
  have := m_badL (en_u1 (en_u1 (en_u1 (en_u1 (en_u1 (en_u1 f 0 15 (nI k)) 0 16 (f 0 21)) 15 t v) 0 33 (nI (t + 1))) 15 (t + 1) w) 0 33 (nI (t + 2))) g (t := t + 2) (k := k) (q := tS X c) W hk (by rw [u1_ne _ _ (by omega), u1_ne _ _ (by omega), u1_ne _ _ (by omega), u1_ne _ _ (by omega), u1_ne _ _ (by omega), u1_at]) (by rw [u1_ne _ _ (by omega), u1_ne _ _ (by omega), u1_ne _ _ (by omega), u1_ne _ _ (by omega), u1_at]; exact h1.2.2.2.1) (u1_at _ _ _ _) (by rw [u1_ne _ _ (by omega), u1_ne _ _ (by omega), u1_ne _ _ (by omega), u1_ne _ _ (by omega), u1_ne _ _ (by omega), u1_ne _ _ (by omega)]; exact h4) (wts_of _ (fun i _ => by rw [u1_ne _ _ (by omega), u1_ne _ _ (by omega), u1_ne _ _ (by omega), u1_ne _ _ (by omega), u1_ne _ _ (by omega), u1_ne _ _ (by omega)]) h6) h7 (by have := hb.1; omega) (by have := hb.2; omega)
  exact MBd_of this (fun p i b1 b2 b3 b4 => by rw [u1_ne _ _ (by omega), u1_ne _ _ (by omega), u1_ne _ _ (by omega), u1_ne _ _ (by omega), u1_ne _ _ (by omega), u1_ne _ _ (by omega)]) (fun _ _ => rfl)
/-- signs are no words -/
theorem sg_kW {X : mu_X} {c b : Nat} (h : sg X c b = true) : kW X c = 17 ∧ tK X c = 3 ∧ X.2 (tS X c) = b := by
  unfold sg at h
  rw [decide_eq_true_eq] at h
  refine ⟨?_, h⟩
  unfold kW
  rw [if_neg (fun k => by omega)]
theorem sg_ne {X : mu_X} {c b b' : Nat} (h : sg X c b = true) (hb : b ≠ b') : sg X c b' = false := by
  have := sg_kW h
  unfold sg
  exact decide_eq_false (fun k => by omega)
theorem sg_w {X : mu_X} {c : Nat} (h : kW X c < 17) (b : Nat) : sg X c b = false := by
  have := kW_1 h
  unfold sg
  exact decide_eq_false (fun k => by omega)
theorem tb_n {b : Bool} (h : b = false) : tb b = 0 := by rw [h]; rfl
theorem tb_y {b : Bool} (h : b = true) : ¬ tb b = 0 := by rw [h]; decide
/-- operators of sums -/
theorem m_op5 {X : mu_X} (xo : XOK X) {c e t : Nat} {P W : List Nat} (f : Nat → Nat → Int32) (g : Nat → Nat → Int64) (h : ME X c (P ++ W) e t f g) (hc : c ≤ X.1) (hb : bnd c t (P ++ W)) (hP : PK 5 P) (hW : topS W < 5) (hs : sg X c 43 = true ∨ sg X c 45 = true) : ∃ f' g', Lm (f, g) = Qm 0 (f', g') ∧ ME X (tE X c) ((if sg X c 43 = true then 8 else 9) :: W) e (t + eL (P.map aSt)) f' g' ∧ Em f' t (P.map aSt) ∧ FM t (e + 1) f g f' g' := by
  have n7 := xo.1
  have hla : (P ++ W).length = P.length + W.length := List.length_append
  obtain ⟨b1, b2⟩ := hb
  have hkw : kW X c = 17 := by rcases hs with s | s <;> exact (sg_kW s).1
  have s60 : sg X c 60 = false := by rcases hs with s | s <;> exact sg_ne s (by omega)
  have s61 : sg X c 61 = false := by rcases hs with s | s <;> exact sg_ne s (by omega)
  have hT := h.1
  have start : Lm (f, g) = x_m_expression_204 (f, g) 1 := by
    unfold Lm
    rw [e_m_expression_29, if_neg i10, m_good1 f g h.2.1, c_I, if_neg (by decide), m_known xo f g hT hc, c_I, hkw, if_neg (by decide), if_neg (by decide), show x_m_isSign_0 (f, g) 60 = _ from m_isSign xo f g hT (v := 60) (by omega), c_I, if_pos (tb_n s60), show x_m_isSign_0 (f, g) 61 = _ from m_isSign xo f g hT (v := 61) (by omega), c_I, if_pos (tb_n s61), e_m_expression_186, show x_m_isSign_0 (f, g) 43 = _ from m_isSign xo f g hT (v := 43) (by omega), c_I]
    cases k : sg X c 43 with
    | true => rw [if_neg (tb_y rfl)]
    | false =>
      have s45 : sg X c 45 = true := by rcases hs with s | s; (rw [k] at s; cases s); exact s
      rw [if_pos (tb_n rfl), show x_m_isSign_0 (f, g) 45 = _ from m_isSign xo f g hT (v := 45) (by omega), c_I, if_neg (tb_y s45)]
  obtain ⟨f1, a1, a2, a3, a4, _⟩ := ME_drop (e + 1) f g h hP (Or.inl hW) (by omega) (by omega) (by omega)
  have fin : ∀ a, (3 ≤ a ∧ a ≤ 11) ∨ a = 14 → ∃ f' g', en_cV (x_m_waitsFor_0 (f1, g) (nI a)) (fun σ4 => en_cV (x_m_goes_0 σ4) (fun σ5 => en_cV (x_m_operand_0 σ5 0) (fun σ6 => x_m_expression_29 σ6 1) (fun e σ => some (.inr e, σ))) (fun e σ => some (.inr e, σ))) (fun e σ => some (.inr e, σ)) = Qm 0 (f', g') ∧ ME X (tE X c) (a :: W) e (t + eL (P.map aSt)) f' g' ∧ Em f' t (P.map aSt) ∧ FM t (e + 1) f g f' g' := by
    intro a ha
    obtain ⟨f2, b1, b2, b3, _⟩ := ME_wait (e + 1) f1 g a2 (by omega) ha
    obtain ⟨f3, g3, c1, c2, c3, _⟩ := ME_go xo (e + 1) f2 g hc b2
    refine ⟨f3, g3, ?_, c2, ?_, FM_trans a4 (Nat.le_refl _) (Nat.le_refl _) (FM_trans (FM_mono b3 (Nat.le_add_right _ _) (Nat.le_refl _)) (Nat.le_refl _) (Nat.le_refl _) (FM_mono c3 (Nat.le_add_right _ _) (Nat.le_refl _)))⟩
    · rw [b1, c_V, c1, c_V, e_m_operand_0]
      exact O4_Q f3 g3 c2.2.1
    · refine Em_of _ t (fun i i1 i2 => ?_) a3
      rw [c3.2.1 i i2, b3.2.1 i i2]
  rw [start, e_m_expression_204, show x_m_drops_0 (f, g) 5 = _ from a1, c_V, show x_m_isSign_0 (f1, g) 43 = _ from m_isSign xo f1 g a2.1 (v := 43) (by omega), c_I]
  cases k : sg X c 43 with
  | true => rw [if_neg (tb_y rfl), if_pos rfl]; exact fin 8 (by omega)
  | false => rw [if_pos (tb_n rfl), if_neg (by decide)]; exact fin 9 (by omega)
/-- operators of products -/
theorem m_op6 {X : mu_X} (xo : XOK X) {c e t : Nat} {P W : List Nat} (f : Nat → Nat → Int32) (g : Nat → Nat → Int64) (h : ME X c (P ++ W) e t f g) (hc : c ≤ X.1) (hb : bnd c t (P ++ W)) (hP : PK 6 P) (hW : topS W < 6) (hs : sg X c 42 = true ∨ sg X c 47 = true) : ∃ f' g', Lm (f, g) = Qm 0 (f', g') ∧ ME X (tE X c) ((if sg X c 42 = true then 10 else 11) :: W) e (t + eL (P.map aSt)) f' g' ∧ Em f' t (P.map aSt) ∧ FM t (e + 1) f g f' g' := by
  have n7 := xo.1
  have hla : (P ++ W).length = P.length + W.length := List.length_append
  obtain ⟨b1, b2⟩ := hb
  have hkw : kW X c = 17 := by rcases hs with s | s <;> exact (sg_kW s).1
  have s60 : sg X c 60 = false := by rcases hs with s | s <;> exact sg_ne s (by omega)
  have s61 : sg X c 61 = false := by rcases hs with s | s <;> exact sg_ne s (by omega)
  have s43 : sg X c 43 = false := by rcases hs with s | s <;> exact sg_ne s (by omega)
  have s45 : sg X c 45 = false := by rcases hs with s | s <;> exact sg_ne s (by omega)
  have hT := h.1
  have start : Lm (f, g) = x_m_expression_259 (f, g) 1 := by
    unfold Lm
    rw [e_m_expression_29, if_neg i10, m_good1 f g h.2.1, c_I, if_neg (by decide), m_known xo f g hT hc, c_I, hkw, if_neg (by decide), if_neg (by decide), show x_m_isSign_0 (f, g) 60 = _ from m_isSign xo f g hT (v := 60) (by omega), c_I, if_pos (tb_n s60), show x_m_isSign_0 (f, g) 61 = _ from m_isSign xo f g hT (v := 61) (by omega), c_I, if_pos (tb_n s61), e_m_expression_186, show x_m_isSign_0 (f, g) 43 = _ from m_isSign xo f g hT (v := 43) (by omega), c_I, if_pos (tb_n s43), show x_m_isSign_0 (f, g) 45 = _ from m_isSign xo f g hT (v := 45) (by omega), c_I, if_pos (tb_n s45), show x_m_isSign_0 (f, g) 42 = _ from m_isSign xo f g hT (v := 42) (by omega), c_I]
    cases k : sg X c 42 with
    | true => rw [if_neg (tb_y rfl)]
    | false =>
      have s47 : sg X c 47 = true := by rcases hs with s | s; (rw [k] at s; cases s); exact s
      rw [if_pos (tb_n rfl), show x_m_isSign_0 (f, g) 47 = _ from m_isSign xo f g hT (v := 47) (by omega), c_I, if_neg (tb_y s47)]
  obtain ⟨f1, a1, a2, a3, a4, _⟩ := ME_drop (e + 1) f g h hP (Or.inl hW) (by omega) (by omega) (by omega)
  have fin : ∀ a, (3 ≤ a ∧ a ≤ 11) ∨ a = 14 → ∃ f' g', en_cV (x_m_waitsFor_0 (f1, g) (nI a)) (fun σ4 => en_cV (x_m_goes_0 σ4) (fun σ5 => en_cV (x_m_operand_0 σ5 0) (fun σ6 => x_m_expression_29 σ6 1) (fun e σ => some (.inr e, σ))) (fun e σ => some (.inr e, σ))) (fun e σ => some (.inr e, σ)) = Qm 0 (f', g') ∧ ME X (tE X c) (a :: W) e (t + eL (P.map aSt)) f' g' ∧ Em f' t (P.map aSt) ∧ FM t (e + 1) f g f' g' := by
    intro a ha
    obtain ⟨f2, b1, b2, b3, _⟩ := ME_wait (e + 1) f1 g a2 (by omega) ha
    obtain ⟨f3, g3, c1, c2, c3, _⟩ := ME_go xo (e + 1) f2 g hc b2
    refine ⟨f3, g3, ?_, c2, ?_, FM_trans a4 (Nat.le_refl _) (Nat.le_refl _) (FM_trans (FM_mono b3 (Nat.le_add_right _ _) (Nat.le_refl _)) (Nat.le_refl _) (Nat.le_refl _) (FM_mono c3 (Nat.le_add_right _ _) (Nat.le_refl _)))⟩
    · rw [b1, c_V, c1, c_V, e_m_operand_0]
      exact O4_Q f3 g3 c2.2.1
    · refine Em_of _ t (fun i i1 i2 => ?_) a3
      rw [c3.2.1 i i2, b3.2.1 i i2]
  rw [start, e_m_expression_259, show x_m_drops_0 (f, g) 6 = _ from a1, c_V, show x_m_isSign_0 (f1, g) 42 = _ from m_isSign xo f1 g a2.1 (v := 42) (by omega), c_I]
  cases k : sg X c 42 with
  | true => rw [if_neg (tb_y rfl), if_pos rfl]; exact fin 10 (by omega)
  | false => rw [if_pos (tb_n rfl), if_neg (by decide)]; exact fin 11 (by omega)
