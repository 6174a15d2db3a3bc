/-! expressions: the model's small steps -/
def stN (a : Nat) : Nat := if a = 5 then 1 else if a = 4 then 2 else if a = 3 then 3 else if a = 6 then 4 else if a = 7 then 4 else if a = 8 then 5 else if a = 9 then 5 else 6
def topS (W : List Nat) : Nat := match W with
  | [] => 0
  | a :: _ => if 14 ≤ a then 0 else stN a
/-- what waits, the last first -/
def wts (f : Nat → Nat → Int32) : List Nat → Prop
  | [] => True
  | a :: W => f 16 W.length = nI a ∧ wts f W
theorem wts_of {f f' : Nat → Nat → Int32} : ∀ W : List Nat, (∀ i, i < W.length → f' 16 i = f 16 i) → wts f W → wts f' W := by
  intro W
  induction W with
  | nil => intro _ _; trivial
  | cons a W ih =>
    intro h k
    simp only [List.length_cons] at h
    exact ⟨by rw [h _ (by omega)]; exact k.1, ih (fun i hi => h i (by omega)) k.2⟩
def PK (s : Nat) (P : List Nat) : Prop := ∀ a, a ∈ P → 3 ≤ a ∧ a ≤ 11 ∧ s ≤ stN a
theorem PK_nil (s : Nat) : PK s [] := fun _ h => by cases h
theorem PK_cons {s a : Nat} {P : List Nat} (h1 : 3 ≤ a ∧ a ≤ 11 ∧ s ≤ stN a) (h : PK s P) : PK s (a :: P) := fun b hb => by
  rcases List.mem_cons.mp hb with e | e
  · rw [e]; exact h1
  · exact h b e
theorem PK_app {s : Nat} {P Q : List Nat} (h : PK s P) (h' : PK s Q) : PK s (P ++ Q) := fun b hb => by
  rcases List.mem_append.mp hb with e | e
  · exact h b e
  · exact h' b e
theorem PK_mono {s s' : Nat} {P : List Nat} (h : PK s P) (hs : s' ≤ s) : PK s' P := fun a ha => ⟨(h a ha).1, (h a ha).2.1, Nat.le_trans hs (h a ha).2.2⟩
/-- what is written as code -/
def eL : List Int32 → Nat
  | [] => 0
  | s :: l => (if -8 < s then 2 else 1) + eL l
def Em (f : Nat → Nat → Int32) : Nat → List Int32 → Prop
  | _, [] => True
  | t, s :: l => if -8 < s then (((0 ≤ s ∧ f 15 t = nI 1 ∧ f 15 (t + 1) = s) ∨ (s < 0 ∧ f 15 t = nI 2 ∧ f 15 (t + 1) = -1 - s)) ∧ Em f (t + 2) l)
    else (f 15 t = (if s = -8 then nI 3 else if s = -9 then nI 5 else if s = -10 then nI 4 else -5 - s) ∧ Em f (t + 1) l)
theorem eL_app : ∀ l l' : List Int32, eL (l ++ l') = eL l + eL l' := by
  intro l
  induction l with
  | nil => intro l'; show eL l' = 0 + eL l'; omega
  | cons s l ih => intro l'; show (if -8 < s then 2 else 1) + eL (l ++ l') = (if -8 < s then 2 else 1) + eL l + eL l'; rw [ih]; omega
theorem eL_le : ∀ l : List Int32, eL l ≤ 2 * l.length := by
  intro l
  induction l with
  | nil => exact Nat.le_refl 0
  | cons s l ih =>
    show (if -8 < s then 2 else 1) + eL l ≤ 2 * (l.length + 1)
    split <;> omega
theorem Em_app {f : Nat → Nat → Int32} : ∀ (l l' : List Int32) (t : Nat), Em f t (l ++ l') ↔ Em f t l ∧ Em f (t + eL l) l' := by
  intro l
  induction l with
  | nil => intro l' t; exact ⟨fun h => ⟨trivial, h⟩, fun h => h.2⟩
  | cons s l ih =>
    intro l' t
    simp only [List.cons_append, Em, eL]
    by_cases c : -8 < s
    · simp only [if_pos c, ih, and_assoc]
      rw [show t + 2 + eL l = t + (2 + eL l) by omega]
    · simp only [if_neg c, ih, and_assoc]
      rw [show t + 1 + eL l = t + (1 + eL l) by omega]
theorem Em_of {f f' : Nat → Nat → Int32} : ∀ (l : List Int32) (t : Nat), (∀ i, t ≤ i → i < t + eL l → f' 15 i = f 15 i) → Em f t l → Em f' t l := by
  intro l
  induction l with
  | nil => intro _ _ _; trivial
  | cons s l ih =>
    intro t h k
    simp only [Em, eL] at h k ⊢
    by_cases c : -8 < s
    · simp only [if_pos c] at h k ⊢
      rw [h t (by omega) (by omega), h (t + 1) (by omega) (by omega)]
      exact ⟨k.1, ih (t + 2) (fun i a b => h i (by omega) (by omega)) k.2⟩
    · simp only [if_neg c] at h k ⊢
      rw [h t (by omega) (by omega)]
      exact ⟨k.1, ih (t + 1) (fun i a b => h i (by omega) (by omega)) k.2⟩
def aSt (a : Nat) : Int32 := if a = 3 then -8 else if a = 5 then -9 else if a = 4 then -10 else -5 - nI a
theorem aSt_ok : ∀ a, 3 ≤ a → a ≤ 11 → ¬ (-8 < aSt a) ∧ (if aSt a = -8 then nI 3 else if aSt a = -9 then nI 5 else if aSt a = -10 then nI 4 else -5 - aSt a) = nI a := by
  intro a h1 h2
  have : a = 3 ∨ a = 4 ∨ a = 5 ∨ a = 6 ∨ a = 7 ∨ a = 8 ∨ a = 9 ∨ a = 10 ∨ a = 11 := by omega
  rcases this with h | h | h | h | h | h | h | h | h <;> subst h <;> decide
theorem eL_ops : ∀ {s : Nat} (P : List Nat), PK s P → eL (P.map aSt) = P.length := by
  intro s P
  induction P with
  | nil => intro _; rfl
  | cons a P ih =>
    intro h
    have h1 := h a (List.mem_cons_self ..)
    show (if -8 < aSt a then 2 else 1) + eL (P.map aSt) = P.length + 1
    rw [if_neg (aSt_ok a h1.1 h1.2.1).1, ih (fun b hb => h b (List.mem_cons_of_mem _ hb))]
    omega
theorem Em_ops {f : Nat → Nat → Int32} {s : Nat} : ∀ (P : List Nat) (t : Nat), PK s P → (∀ i, i < P.length → f 15 (t + i) = nI (P.getD i 0)) → Em f t (P.map aSt) := by
  intro P
  induction P with
  | nil => intro _ _ _; trivial
  | cons a P ih =>
    intro t h k
    have h1 := h a (List.mem_cons_self ..)
    have h2 := aSt_ok a h1.1 h1.2.1
    simp only [List.length_cons] at k
    show if -8 < aSt a then _ else (f 15 t = (if aSt a = -8 then nI 3 else if aSt a = -9 then nI 5 else if aSt a = -10 then nI 4 else -5 - aSt a) ∧ Em f (t + 1) (P.map aSt))
    rw [if_neg h2.1]
    refine ⟨by rw [h2.2]; exact k 0 (by omega), ih (t + 1) (fun b hb => h b (List.mem_cons_of_mem _ hb)) (fun i hi => ?_)⟩
    rw [show t + 1 + i = t + (i + 1) by omega, k (i + 1) (by omega)]
    rfl
/-- small calls -/
theorem m_good1 (f : Nat → Nat → Int32) (g : Nat → Nat → Int64) (h : f 0 15 = nI 0) : x_m_isGood_0 (f, g) = rI (nI 1) (f, g) := by
  rw [e_m_isGood_0, if_pos (by show f 0 15 = 0; rw [h]; rfl)]; rfl
theorem m_good0 (f : Nat → Nat → Int32) (g : Nat → Nat → Int64) {k : Nat} (hk : 1 ≤ k ∧ k ≤ 5) (h : f 0 15 = nI k) : x_m_isGood_0 (f, g) = rI (nI 0) (f, g) := by
  rw [e_m_isGood_0, if_neg (by show ¬ f 0 15 = 0; rw [h]; exact nI_ne0 (by omega) (by omega))]; rfl
theorem m_wrong (f : Nat → Nat → Int32) (g : Nat → Nat → Int64) (h : f 0 15 = nI 0) (v : Int32) : x_m_wrong_0 (f, g) v = rV (en_u1 (en_u1 f 0 15 v) 0 16 (f 0 21), g) := by
  rw [e_m_wrong_0, if_pos (by show f 0 15 = 0; rw [h]; rfl)]; rfl
theorem m_puts (f : Nat → Nat → Int32) (g : Nat → Nat → Int64) {t : Nat} (h : f 0 33 = nI t) (ht : t < 1400) (v : Int32) : x_m_puts_0 (f, g) v = rV (en_u1 (en_u1 f 15 t v) 0 33 (nI (t + 1)), g) := by
  rw [e_m_puts_0]
  simp (disch := omega) only [h, q_in, q_clamp, if_true, nI_1]
  rfl
theorem m_waits (f : Nat → Nat → Int32) (g : Nat → Nat → Int64) {w : Nat} (h : f 0 34 = nI w) (hw : w < 950) (v : Int32) : x_m_waitsFor_0 (f, g) v = rV (en_u1 (en_u1 f 16 w v) 0 34 (nI (w + 1)), g) := by
  rw [e_m_waitsFor_0]
  simp (disch := omega) only [h, q_in, q_clamp, if_true, nI_1]
  rfl
theorem m_isOpen (σ : en_S) {a : Nat} (ha : a < 1000) : x_m_isOpen_0 σ (nI a) = rI (tb (decide (14 ≤ a))) σ := by
  rw [e_m_isOpen_0]
  simp (disch := omega) only [q_0, q_1, q_2, q_3, q_4, q_5, q_6, q_7, q_8, q_9, q_10, q_11, q_12, q_13, q_14, q_15, q_16, q_17, q_18, q_19, q_20, q_21, q_22, q_23, q_24, q_29, q_30, q_31, q_36, q_42, q_50, q_40, q_48, q_96, q_97, q_99, q_100, q_255, q_256, q_700, q_999, q_1160, q_1400, q_99999, q_m1, q_ltI]
  by_cases c : a < 14
  · rw [if_pos c, decide_eq_false (by omega)]; rfl
  · rw [if_neg c, decide_eq_true (by omega)]; rfl
theorem m_strength (σ : en_S) {a : Nat} (ha : a < 1000) : x_m_strength_0 σ (nI a) = rI (nI (stN a)) σ := by
  rw [e_m_strength_0]
  simp (disch := omega) only [q_0, q_1, q_2, q_3, q_4, q_5, q_6, q_7, q_8, q_9, q_10, q_11, q_12, q_13, q_14, q_15, q_16, q_17, q_18, q_19, q_20, q_21, q_22, q_23, q_24, q_29, q_30, q_31, q_36, q_42, q_50, q_40, q_48, q_96, q_97, q_99, q_100, q_255, q_256, q_700, q_999, q_1160, q_1400, q_99999, q_m1, q_eqI]
  unfold stN
  repeat' split
  all_goals rfl
theorem stN_lt (a : Nat) : 1 ≤ stN a ∧ stN a ≤ 6 := by
  unfold stN
  repeat' split
  all_goals omega
theorem nI_m1 {n : Nat} (h : 1 ≤ n) : nI n - nI 1 = nI (n - 1) := pk_sub h
/-- drops: what waits above goes into the code -/
theorem m_drops {k : Nat} (g : Nat → Nat → Int64) (W : List Nat) (hW : topS W < k ∨ (k = 0 ∧ topS W = 0)) (hWa : ∀ a, a ∈ W → a < 1000) : ∀ (P : List Nat) (f : Nat → Nat → Int32) (t : Nat), PK k P → wts f (P ++ W) → f 0 33 = nI t → f 0 34 = nI (P ++ W).length → t + P.length ≤ 1400 → (P ++ W).length ≤ 950 → k < 1000 → ∃ f', x_m_drops_0 (f, g) (nI k) = rV (f', g) ∧ f' 0 33 = nI (t + P.length) ∧ f' 0 34 = nI W.length ∧ (∀ i, i < P.length → f' 15 (t + i) = nI (P.getD i 0)) ∧ ∀ p i, (p ≠ 0 ∨ (i ≠ 33 ∧ i ≠ 34)) → (p ≠ 15 ∨ i < t) → f' p i = f p i := by
  intro P
  induction P with
  | nil =>
    intro f t _ hw h33 h34 ht hl hk
    refine ⟨f, ?_, h33, h34, fun i hi => absurd hi (Nat.not_lt_zero i), fun _ _ _ _ => rfl⟩
    rw [e_m_drops_0]
    have h34' : f 0 34 = nI W.length := h34
    have hl' : W.length ≤ 950 := hl
    cases W with
    | nil => rw [if_pos (by show f 0 34 ≤ 0; rw [h34']; exact Int32.le_refl _)]; rfl
    | cons a W =>
      have ha := hWa a (List.mem_cons_self ..)
      have hw1 : f 16 W.length = nI a := hw.1
      have st := stN_lt a
      simp only [List.length_cons] at h34' hl'
      rw [if_neg (by show ¬ f 0 34 ≤ 0; rw [h34']; exact nI_nle (by omega) (by omega))]
      simp (disch := omega) only [q_0, q_1, q_2, q_3, q_4, q_5, q_6, q_7, q_8, q_9, q_10, q_11, q_12, q_13, q_14, q_15, q_16, q_17, q_18, q_19, q_20, q_21, q_22, q_23, q_24, q_29, q_30, q_31, q_36, q_42, q_50, q_40, q_48, q_96, q_97, q_99, q_100, q_255, q_256, q_700, q_999, q_1160, q_1400, q_99999, q_m1, h34', nI_m1, Nat.add_sub_cancel, q_in, q_clamp, if_true, hw1, m_isOpen, c_I, tb_0, decide_eq_false_iff_not, m_strength, q_ltI]
      have hW' : topS (a :: W) = if 14 ≤ a then 0 else stN a := rfl
      rw [hW'] at hW
      by_cases c : 14 ≤ a
      · rw [if_neg (by omega)]; rfl
      · rw [if_pos c]
        rw [if_neg c] at hW
        rw [if_pos (by omega)]; rfl
  | cons a P ih =>
    intro f t hP hw h33 h34 ht hl hk
    have h1 := hP a (List.mem_cons_self ..)
    have hw1 : f 16 (P ++ W).length = nI a := hw.1
    have hw2 : wts f (P ++ W) := hw.2
    have st := stN_lt a
    simp only [List.cons_append, List.length_cons] at h34 hl ht
    rw [e_m_drops_0, if_neg (by show ¬ f 0 34 ≤ 0; rw [h34]; exact nI_nle (by omega) (by omega))]
    have q33 : en_u1 f 0 34 (nI (P ++ W).length) 0 33 = nI t := by rw [u1_ne _ _ (by omega)]; exact h33
    have pu := m_puts (en_u1 f 0 34 (nI (P ++ W).length)) g q33 (by omega) (nI a)
    simp (disch := omega) only [q_0, q_1, q_2, q_3, q_4, q_5, q_6, q_7, q_8, q_9, q_10, q_11, q_12, q_13, q_14, q_15, q_16, q_17, q_18, q_19, q_20, q_21, q_22, q_23, q_24, q_29, q_30, q_31, q_36, q_42, q_50, q_40, q_48, q_96, q_97, q_99, q_100, q_255, q_256, q_700, q_999, q_1160, q_1400, q_99999, q_m1, h34, nI_m1, Nat.add_sub_cancel, q_in, q_clamp, if_true, hw1, m_isOpen, c_I, tb_0, decide_eq_false_iff_not, m_strength, q_ltI, pu, c_V]
    rw [if_pos (by omega), if_neg (by omega)]
    obtain ⟨f', e1, e2, e3, e4, e5⟩ := ih (en_u1 (en_u1 (en_u1 f 0 34 (nI (P ++ W).length)) 15 t (nI a)) 0 33 (nI (t + 1))) (t + 1) (fun b hb => hP b (List.mem_cons_of_mem _ hb)) (wts_of _ (fun i _ => by rw [u1_ne _ _ (by omega), u1_ne _ _ (by omega), u1_ne _ _ (by omega)]) hw2) (u1_at _ _ _ _) (by rw [u1_ne _ _ (by omega), u1_ne _ _ (by omega), u1_at]) (by omega) (by omega) hk
    refine ⟨f', e1, ?_, e3, fun i hi => ?_, fun p i a b => ?_⟩
    · rw [e2]; simp only [List.length_cons]; congr 1; omega
    · simp only [List.length_cons] at hi
      cases i with
      | zero => rw [Nat.add_zero, e5 15 t (by omega) (by omega), u1_ne _ _ (by omega), u1_at]; rfl
      | succ i =>
        have := e4 i (by omega)
        rw [show t + (i + 1) = t + 1 + i by omega, this]; rfl
    · rw [e5 p i a (by omega), u1_ne _ _ (by omega), u1_ne _ _ (by omega), u1_ne _ _ (by omega)]
/-- whether a parenthesis stands open -/
theorem m_isOpened (f : Nat → Nat → Int32) (g : Nat → Nat → Int64) : ∀ W : List Nat, (∀ a, a ∈ W → a < 1000) → wts f W → W.length ≤ 950 → x_m_isOpened_7 (f, g) (nI W.length - nI 1) = rI (tb (W.any fun a => decide (14 ≤ a))) (f, g) := by
  intro W
  induction W with
  | nil =>
    intro _ _ _
    rw [e_m_isOpened_7, if_pos (by decide), if_pos (by decide)]; rfl
  | cons a W ih =>
    intro hWa hw hl
    have ha := hWa a (List.mem_cons_self ..)
    have hw1 : f 16 W.length = nI a := hw.1
    have i1 := ih (fun b hb => hWa b (List.mem_cons_of_mem _ hb)) hw.2 (by simp only [List.length_cons] at hl; omega)
    simp only [List.length_cons] at hl ⊢
    rw [nI_m1 (by omega), Nat.add_sub_cancel, e_m_isOpened_7]
    have hnn : ¬ nI W.length < 0 := nI_pos (by omega)
    simp only [if_neg hnn]
    simp (disch := omega) only [q_0, q_1, q_2, q_3, q_4, q_5, q_6, q_7, q_8, q_9, q_10, q_11, q_12, q_13, q_14, q_15, q_16, q_17, q_18, q_19, q_20, q_21, q_22, q_23, q_24, q_29, q_30, q_31, q_36, q_42, q_50, q_40, q_48, q_96, q_97, q_99, q_100, q_255, q_256, q_700, q_999, q_1160, q_1400, q_99999, q_m1, q_in, q_clamp, if_true, hw1, m_isOpen, c_I, tb_0, decide_eq_false_iff_not]
    have e1 : nI W.length + nN = nI W.length - nI 1 := by rw [Int32.sub_eq_add_neg, q_m1]
    rw [e1, i1]
    show _ = rI (tb (decide (14 ≤ a) || W.any fun a => decide (14 ≤ a))) (f, g)
    by_cases c : 14 ≤ a
    · rw [if_neg (by omega), decide_eq_true c]; rfl
    · rw [if_pos c, decide_eq_false c]; rfl
/-- what reading an expression leaves of the model -/
def MX (f f' : Nat → Nat → Int32) : Prop := ∀ p i, (p ≠ 0 ∨ (i ≠ 15 ∧ i ≠ 16 ∧ (i < 19 ∨ 24 < i) ∧ (i < 33 ∨ 35 < i))) → p ≠ 15 → p ≠ 16 → p ≠ 17 → f' p i = f p i
theorem MX_refl (f : Nat → Nat → Int32) : MX f f := fun _ _ _ _ _ _ => rfl
theorem MX_trans {f f' f'' : Nat → Nat → Int32} (h : MX f f') (h' : MX f' f'') : MX f f'' := fun p i a b c d => (h' p i a b c d).trans (h p i a b c d)
def FM (t e : Nat) (f : Nat → Nat → Int32) (g : Nat → Nat → Int64) (f' : Nat → Nat → Int32) (g' : Nat → Nat → Int64) : Prop := MX f f' ∧ (∀ i, i < t → f' 15 i = f 15 i) ∧ (∀ i, i < e → f' 17 i = f 17 i) ∧ f' 0 16 = f 0 16 ∧ ∀ q, q ≠ 0 → g' q = g q
theorem FM_refl (t e : Nat) (f : Nat → Nat → Int32) (g : Nat → Nat → Int64) : FM t e f g f g := ⟨MX_refl f, fun _ _ => rfl, fun _ _ => rfl, rfl, fun _ _ => rfl⟩
theorem FM_trans {t e t' e' : Nat} {f f' f'' : Nat → Nat → Int32} {g g' g'' : Nat → Nat → Int64} (h : FM t e f g f' g') (ht : t ≤ t') (he : e ≤ e') (h' : FM t' e' f' g' f'' g'') : FM t e f g f'' g'' :=
  ⟨MX_trans h.1 h'.1, fun i hi => (h'.2.1 i (by omega)).trans (h.2.1 i hi), fun i hi => (h'.2.2.1 i (by omega)).trans (h.2.2.1 i hi), h'.2.2.2.1.trans h.2.2.2.1, fun q hq => (h'.2.2.2.2 q hq).trans (h.2.2.2.2 q hq)⟩
theorem FM_mono {t e t' e' : Nat} {f f' : Nat → Nat → Int32} {g g' : Nat → Nat → Int64} (h : FM t' e' f g f' g') (ht : t ≤ t') (he : e ≤ e') : FM t e f g f' g' := ⟨h.1, fun i hi => h.2.1 i (by omega), fun i hi => h.2.2.1 i (by omega), h.2.2.2⟩
/-- the model while it reads an expression: token, what waits, how deep, how much code -/
def ME (X : mu_X) (c : Nat) (W : List Nat) (e t : Nat) (f : Nat → Nat → Int32) (g : Nat → Nat → Int64) : Prop := MT X c f g ∧ f 0 15 = nI 0 ∧ f 0 33 = nI t ∧ f 0 34 = nI W.length ∧ f 0 35 = nI e ∧ wts f W ∧ ∀ a, a ∈ W → (3 ≤ a ∧ a ≤ 11) ∨ a = 14
theorem ME_go {X : mu_X} (xo : XOK X) {c e t : Nat} {W : List Nat} (e' : Nat) (f : Nat → Nat → Int32) (g : Nat → Nat → Int64) (hc : c ≤ X.1) (h : ME X c W e t f g) : ∃ f' g', x_m_goes_0 (f, g) = rV (f', g') ∧ ME X (tE X c) W e t f' g' ∧ FM t e' f g f' g' ∧ ∀ i, f' 17 i = f 17 i := by
  obtain ⟨h1, h2, h3, h4, h5, h6, h7⟩ := h
  obtain ⟨f', g', a1, a2, a3, a4⟩ := m_goes xo f g (tE_le hc) h1.1 h1.2.1
  exact ⟨f', g', a1, ⟨a2, by rw [a3 0 15 (by omega)]; exact h2, by rw [a3 0 33 (by omega)]; exact h3, by rw [a3 0 34 (by omega)]; exact h4, by rw [a3 0 35 (by omega)]; exact h5, wts_of _ (fun i _ => a3 16 i (by omega)) h6, h7⟩, ⟨fun p i a _ _ _ => a3 p i (by omega), fun i _ => a3 15 i (by omega), fun i _ => a3 17 i (by omega), a3 0 16 (by omega), a4⟩, fun i => a3 17 i (by omega)⟩
theorem ME_wait {X : mu_X} {c e t a : Nat} {W : List Nat} (e' : Nat) (f : Nat → Nat → Int32) (g : Nat → Nat → Int64) (h : ME X c W e t f g) (hw : W.length < 950) (ha : (3 ≤ a ∧ a ≤ 11) ∨ a = 14) : ∃ f', x_m_waitsFor_0 (f, g) (nI a) = rV (f', g) ∧ ME X c (a :: W) e t f' g ∧ FM t e' f g f' g ∧ ∀ i, f' 17 i = f 17 i := by
  obtain ⟨h1, h2, h3, h4, h5, h6, h7⟩ := h
  refine ⟨_, m_waits f g h4 hw (nI a), ⟨MT_of h1 (fun i _ _ => by rw [u1_ne _ _ (by omega), u1_ne _ _ (by omega)]) (fun i => by rw [u1_ne _ _ (by omega), u1_ne _ _ (by omega)]), ?_, ?_, u1_at _ _ _ _, ?_, ⟨?_, wts_of _ (fun i hi => ?_) h6⟩, fun b hb => ?_⟩, ⟨fun p i a1 a2 a3 a4 => ?_, fun i _ => ?_, fun i _ => ?_, ?_, fun _ _ => rfl⟩, fun i => ?_⟩
  · rw [u1_ne _ _ (by omega), u1_ne _ _ (by omega)]; exact h2
  · rw [u1_ne _ _ (by omega), u1_ne _ _ (by omega)]; exact h3
  · rw [u1_ne _ _ (by omega), u1_ne _ _ (by omega)]; exact h5
  · rw [u1_ne _ _ (by omega), u1_at]
  · rw [u1_ne _ _ (by omega), u1_ne _ _ (by omega)]
  · rcases List.mem_cons.mp hb with e | e
    · rw [e]; exact ha
    · exact h7 b e
  · rw [u1_ne _ _ (by omega), u1_ne _ _ (by omega)]
  · rw [u1_ne _ _ (by omega), u1_ne _ _ (by omega)]
  · rw [u1_ne _ _ (by omega), u1_ne _ _ (by omega)]
  · rw [u1_ne _ _ (by omega), u1_ne _ _ (by omega)]
  · rw [u1_ne _ _ (by omega), u1_ne _ _ (by omega)]
theorem ME_drop {X : mu_X} {c e t k : Nat} {P W : List Nat} (e' : Nat) (f : Nat → Nat → Int32) (g : Nat → Nat → Int64) (h : ME X c (P ++ W) e t f g) (hP : PK k P) (hW : topS W < k ∨ (k = 0 ∧ topS W = 0)) (hk : k < 1000) (ht : t + P.length ≤ 1400) (hl : (P ++ W).length ≤ 950) : ∃ f', x_m_drops_0 (f, g) (nI k) = rV (f', g) ∧ ME X c W e (t + eL (P.map aSt)) f' g ∧ Em f' t (P.map aSt) ∧ FM t e' f g f' g ∧ ∀ i, f' 17 i = f 17 i := by
  obtain ⟨h1, h2, h3, h4, h5, h6, h7⟩ := h
  have wW : ∀ P : List Nat, wts f (P ++ W) → wts f W := by
    intro P
    induction P with
    | nil => exact id
    | cons a P ih => exact fun h => ih h.2
  obtain ⟨f', a1, a2, a3, a4, a5⟩ := m_drops (k := k) g W hW (fun a ha => by have := h7 a (List.mem_append_right _ ha); omega) P f t hP h6 h3 h4 ht hl hk
  refine ⟨f', a1, ⟨MT_of h1 (fun i _ _ => a5 0 i (by omega) (by omega)) (fun i => a5 7 i (by omega) (by omega)), by rw [a5 0 15 (by omega) (by omega)]; exact h2, by rw [a2, eL_ops P hP], a3, by rw [a5 0 35 (by omega) (by omega)]; exact h5, wts_of _ (fun i _ => a5 16 i (by omega) (by omega)) (wW P h6), fun a ha => h7 a (List.mem_append_right _ ha)⟩, Em_ops P t hP a4, ⟨fun p i b1 b2 b3 b4 => a5 p i (by omega) (by omega), fun i hi => a5 15 i (by omega) (by omega), fun i _ => a5 17 i (by omega) (by omega), a5 0 16 (by omega) (by omega), fun _ _ => rfl⟩, fun i => a5 17 i (by omega) (by omega)⟩
