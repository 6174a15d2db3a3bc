/-! look: counting -/
noncomputable def latI (A : mu_A) (i y : Nat) : Int32 := lat A y (if y = i / 99 then i % 99 + 1 else wN A y)
theorem latI_ok {A : mu_A} (ok : AOK A) {i y : Nat} (hy : y < lB (aL A)) : ∃ v, 1 ≤ v ∧ v ≤ 99 ∧ latI A i y = nI v := by
  unfold latI
  by_cases c : y = i / 99
  · rw [if_pos c]; exact lat_ok ok hy (by omega) (by omega)
  · rw [if_neg c]
    obtain ⟨n1, n2, _⟩ := wN_ok ok hy
    exact lat_ok ok hy n1 n2
noncomputable def mkA (A : mu_A) (x v : Nat) : Bool := @decide (∃ i, i < 99 * lB (aL A) ∧ gI A i = true ∧ latI A i x = nI v) (Classical.propDecidable _)
theorem mkA_iff (A : mu_A) (x v : Nat) : mkA A x v = true ↔ ∃ i, i < 99 * lB (aL A) ∧ gI A i = true ∧ latI A i x = nI v := by
  unfold mkA
  exact @decide_eq_true_iff _ (Classical.propDecidable _)
def sumV (h : Nat → Bool) (n : Nat) : Nat := mu_up (fun v s => s + (h (v + 1)).toNat) 0 n
theorem sumV_S (h : Nat → Bool) (n : Nat) : sumV h (n + 1) = sumV h n + (h (n + 1)).toNat := rfl
theorem sumV_le (h : Nat → Bool) : ∀ n, sumV h n ≤ n := by
  intro n
  induction n with
  | zero => exact Nat.le_refl 0
  | succ n ih =>
    rw [sumV_S]
    have := bool_le (h (n + 1))
    omega
theorem sumV_eq {h h' : Nat → Bool} : ∀ n, (∀ v, 1 ≤ v → v ≤ n → h v = h' v) → sumV h n = sumV h' n := by
  intro n
  induction n with
  | zero => intro _; rfl
  | succ n ih =>
    intro e
    rw [sumV_S, sumV_S, ih (fun v a b => e v a (by omega)), e (n + 1) (by omega) (by omega)]
theorem sumV_0 {h : Nat → Bool} : ∀ n, (∀ v, 1 ≤ v → v ≤ n → h v = false) → sumV h n = 0 := by
  intro n
  induction n with
  | zero => intro _; rfl
  | succ n ih =>
    intro e
    rw [sumV_S, ih (fun v a b => e v a (by omega)), e (n + 1) (by omega) (by omega)]
    rfl
theorem sumV_1 {h h' : Nat → Bool} {c : Nat} (c1 : 1 ≤ c) (e : ∀ v, v ≠ c → h' v = h v) (e0 : h c = false) (e1 : h' c = true) : ∀ n, sumV h' n = sumV h n + (if c ≤ n then 1 else 0) := by
  intro n
  induction n with
  | zero => rw [if_neg (by omega)]; rfl
  | succ n ih =>
    rw [sumV_S, sumV_S, ih]
    by_cases k : c = n + 1
    · rw [if_neg (by omega), if_pos (by omega), ← k, e0, e1]
      show sumV h n + 0 + 1 = sumV h n + 0 + 1
      rfl
    · rw [e (n + 1) (fun z => k z.symm)]
      by_cases d : c ≤ n
      · rw [if_pos d, if_pos (by omega)]; omega
      · rw [if_neg d, if_neg (by omega)]; omega
/-- the first of like ones -/
def nbB (U : Nat → Nat) (a b : Nat) : Bool := mu_up (fun j s => s && decide (U a ≠ U j)) true b
theorem nbB_S (U : Nat → Nat) (a b : Nat) : nbB U a (b + 1) = (nbB U a b && decide (U a ≠ U b)) := rfl
theorem nbB_iff (U : Nat → Nat) (a : Nat) : ∀ b, nbB U a b = true ↔ ∀ j, j < b → U a ≠ U j := by
  intro b
  induction b with
  | zero => exact ⟨fun _ j hj => absurd hj (Nat.not_lt_zero j), fun _ => rfl⟩
  | succ b ih =>
    rw [nbB_S, Bool.and_eq_true, ih, decide_eq_true_eq]
    constructor
    · intro h j hj
      by_cases c : j = b
      · rw [c]; exact h.2
      · exact h.1 j (by omega)
    · intro h
      exact ⟨fun j hj => h j (by omega), h b (by omega)⟩
theorem nbB_f (U : Nat → Nat) {a b : Nat} (h : nbB U a b = false) : ∀ n, nbB U a (b + n) = false := by
  intro n
  induction n with
  | zero => exact h
  | succ n ih =>
    show nbB U a (b + n + 1) = false
    rw [nbB_S, ih]; rfl
def foS (U : Nat → Nat) (m : Nat) : Nat := mu_up (fun a s => s + (nbB U a a).toNat) 0 m
theorem foS_S (U : Nat → Nat) (m : Nat) : foS U (m + 1) = foS U m + (nbB U m m).toNat := rfl
theorem foS_le (U : Nat → Nat) : ∀ m, foS U m ≤ m := by
  intro m
  induction m with
  | zero => exact Nat.le_refl 0
  | succ m ih =>
    rw [foS_S]
    have := bool_le (nbB U m m)
    omega
noncomputable def imB (U : Nat → Nat) (m v : Nat) : Bool := @decide (∃ a, a < m ∧ U a = v) (Classical.propDecidable _)
theorem imB_iff (U : Nat → Nat) (m v : Nat) : imB U m v = true ↔ ∃ a, a < m ∧ U a = v := by
  unfold imB
  exact @decide_eq_true_iff _ (Classical.propDecidable _)
theorem bool_eq {a b : Bool} (h : a = true ↔ b = true) : a = b := by
  cases a <;> cases b <;> first | rfl | exact absurd (h.mp rfl) (by decide) | exact absurd (h.mpr rfl) (by decide)
theorem bool_f {a : Bool} (h : ¬ a = true) : a = false := by
  cases a with
  | false => rfl
  | true => exact absurd rfl h
theorem foS_im (U : Nat → Nat) : ∀ m, (∀ a, a < m → 1 ≤ U a ∧ U a ≤ 99) → foS U m = sumV (imB U m) 99 := by
  intro m
  induction m with
  | zero =>
    intro _
    rw [sumV_0 99 (fun v _ _ => bool_f (fun h => by
      obtain ⟨a, ha, _⟩ := (imB_iff U 0 v).mp h
      exact Nat.not_lt_zero a ha))]
    rfl
  | succ m ih =>
    intro h
    have hm := h m (by omega)
    rw [foS_S, ih (fun a ha => h a (by omega))]
    cases q : nbB U m m with
    | true =>
      have q' := (nbB_iff U m m).mp q
      have s := sumV_1 (h := imB U m) (h' := imB U (m + 1)) (c := U m) hm.1 (fun v hv => bool_eq (by
        rw [imB_iff, imB_iff]
        constructor
        · intro ⟨a, a1, a2⟩
          by_cases e : a = m
          · rw [e] at a2; exact absurd a2.symm hv
          · exact ⟨a, by omega, a2⟩
        · intro ⟨a, a1, a2⟩
          exact ⟨a, by omega, a2⟩)) (bool_f (fun z => by
        obtain ⟨a, a1, a2⟩ := (imB_iff U m (U m)).mp z
        exact q' a a1 a2.symm)) ((imB_iff U (m + 1) (U m)).mpr ⟨m, by omega, rfl⟩) 99
      rw [s, if_pos hm.2]
      rfl
    | false =>
      show sumV (imB U m) 99 + 0 = _
      rw [Nat.add_zero]
      refine sumV_eq 99 (fun v _ _ => bool_eq ?_)
      rw [imB_iff, imB_iff]
      constructor
      · intro ⟨a, a1, a2⟩
        exact ⟨a, by omega, a2⟩
      · intro ⟨a, a1, a2⟩
        by_cases e : a = m
        · rw [e] at a2
          have nq : ¬ ∀ j, j < m → U m ≠ U j := fun z => by
            have := (nbB_iff U m m).mpr z
            rw [q] at this
            cases this
          refine Classical.byContradiction (fun z => nq (fun j hj e2 => z ⟨j, hj, by rw [← e2]; exact a2⟩))
        · exact ⟨a, by omega, a2⟩
noncomputable def uSl (A : mu_A) (x : Nat) : Nat := sumV (mkA A x) 99
noncomputable def bst (A : mu_A) (n : Nat) : Int32 × Nat := mu_up (fun x q => if q.2 < uSl A x then (nI x, uSl A x) else q) (nN, 0) n
theorem bst_S (A : mu_A) (n : Nat) : bst A (n + 1) = if (bst A n).2 < uSl A n then (nI n, uSl A n) else bst A n := rfl
theorem bst_le (A : mu_A) : ∀ n, (bst A n).2 ≤ 99 := by
  intro n
  induction n with
  | zero => exact Nat.zero_le _
  | succ n ih =>
    rw [bst_S]
    split
    · exact sumV_le _ 99
    · exact ih
/-! the other side -/
theorem c_later {A : mu_A} (f : Nat → Nat → Int32) (g : Nat → Nat → Int64) (ok : AOK A) (hC : CRel A f) {x w : Nat} (hx : x < lB (aL A)) (w1 : 1 ≤ w) (w9 : w ≤ 99) : ∃ f', x_sc_weightLater_0 (f, g) (nI x) (nI w) = rI (lat A x w) (f', g) ∧ ∀ p, (p < 73 ∨ 78 < p) → p ≠ 46 → p ≠ 49 → f' p = f p := by
  have lo := ok.1
  have l1 := lo.1
  have ro := ok.2.2.2.1
  obtain ⟨f1, e1, R1, g1, g2⟩ := c_copy73 f g lo hC.2.2.1
  have R2 : CRw (aL A) 73 (wW (aR A) x (nI w)) (en_u1 f1 74 x (nI w)) := CRw_uW R1 x _
  have ro2 := rOK_wW ro w1 w9 (x := x)
  have fr2 : ∀ p, (p < 73 ∨ 78 < p) → p ≠ 46 → p ≠ 49 → en_u1 f1 74 x (nI w) p = f p := fun p a _ _ => by rw [u1_p _ _ _ (by omega), g1 p (by omega)]
  rw [e_sc_weightLater_0, e1, c_V]
  simp (disch := omega) only [q_in, q_clamp, if_true]
  obtain ⟨f3, e3, R3, F3⟩ := mu_inv (fun (f' : Nat → Nat → Int32) i => x_sc_weightLater_23 (f', g) (nI x) i) (fun n f' => CRw (aL A) 73 (soN (aL A) x (wW (aR A) x (nI w)) n) f' ∧ ∀ p, (p < 73 ∨ 78 < p) → p ≠ 46 → p ≠ 49 → f' p = f p) 5 (en_u1 f1 74 x (nI w)) ⟨R2, fr2⟩ (by
    intro n a hn ⟨Ra, Fa⟩
    have La : CLd (aL A) a := CLd_of hC.1 (fun p _ _ c => Fa p (by omega) c (by omega))
    obtain ⟨f4, e4, R4, F4⟩ := c_solo a g lo La Ra (rOK_soN lo hx ro2 n) hx (fun τ => x_sc_weightLater_23 τ (nI x) (nI n + 1))
    refine ⟨f4, ?_, R4, fun p k1 k2 k3 => by rw [F4.1 p (by omega) k2 k3]; exact Fa p k1 k2 k3⟩
    show x_sc_weightLater_23 (a, g) (nI x) (nI n) = x_sc_weightLater_23 (f4, g) (nI x) (nI (n + 1))
    rw [e_sc_weightLater_23, if_neg (show ¬ (5 : Int32) ≤ nI n by rw [q_5]; exact nI_ge hn (by omega))]
    refine Eq.trans e4 ?_
    show x_sc_weightLater_23 (f4, g) (nI x) (nI n + 1) = _
    rw [nI_1])
  refine ⟨f3, ?_, F3⟩
  refine Eq.trans e3 ?_
  show x_sc_weightLater_23 (f3, g) (nI x) (nI 5) = _
  have hW : f3 74 x = lat A x w := R3.2.1 x hx
  rw [e_sc_weightLater_23, if_pos (by decide)]
  simp (disch := omega) only [q_in, q_clamp, if_true, hW]
  rfl
/-- others than those of a box -/
def othr (A : mu_A) (x : Nat) : Prop := ∃ i, i < 99 * lB (aL A) ∧ gI A i = true ∧ i / 99 ≠ x
theorem gC_0 (A : mu_A) (y : Nat) : ∀ n, gC A y n = 0 ↔ ∀ w, 1 ≤ w → w ≤ n → gB A y w = false := by
  intro n
  induction n with
  | zero => exact ⟨fun _ w a b => absurd a (by omega), fun _ => rfl⟩
  | succ n ih =>
    have e : gC A y (n + 1) = gC A y n + (gB A y (n + 1)).toNat := rfl
    rw [e]
    constructor
    · intro h w a b
      have h1 : gC A y n = 0 := by omega
      have h2 : (gB A y (n + 1)).toNat = 0 := by omega
      by_cases c : w = n + 1
      · rw [c]
        cases q : gB A y (n + 1) with
        | false => rfl
        | true => rw [q] at h2; exact absurd h2 (by decide)
      · exact ih.mp h1 w a (by omega)
    · intro h
      rw [ih.mpr (fun w a b => h w a (by omega)), h (n + 1) (by omega) (by omega)]
      rfl
theorem gS_x (A : mu_A) (x : Nat) : ∀ n, (if x < n then gC A x 99 else 0) ≤ gS A n ∧ (gS A n = (if x < n then gC A x 99 else 0) ↔ ∀ y, y < n → y ≠ x → gC A y 99 = 0) := by
  intro n
  induction n with
  | zero =>
    rw [if_neg (Nat.not_lt_zero x)]
    exact ⟨Nat.zero_le _, ⟨fun _ y hy => absurd hy (Nat.not_lt_zero y), fun _ => rfl⟩⟩
  | succ n ih =>
    have e : gS A (n + 1) = gS A n + gC A n 99 := rfl
    rw [e]
    obtain ⟨i1, i2⟩ := ih
    by_cases c : x = n
    · subst c
      rw [if_neg (Nat.lt_irrefl x)] at i1 i2
      rw [if_pos (Nat.lt_succ_self x)]
      refine ⟨by omega, ⟨fun h y hy hne => i2.mp (by omega) y (by omega) hne, fun h => ?_⟩⟩
      rw [i2.mpr (fun y hy hne => h y (by omega) hne)]
      omega
    · have e2 : (x < n + 1) = (x < n) := propext ⟨fun _ => by omega, fun _ => by omega⟩
      simp only [e2]
      refine ⟨by omega, ⟨fun h y hy hne => ?_, fun h => ?_⟩⟩
      · by_cases d : y = n
        · rw [d]; omega
        · exact i2.mp (by omega) y (by omega) hne
      · rw [i2.mpr (fun y hy hne => h y (by omega) hne), h n (by omega) (fun z => c z.symm)]
        omega
theorem othr_iff {A : mu_A} {x : Nat} (hx : x < lB (aL A)) : ¬ gS A (lB (aL A)) ≤ gC A x 99 ↔ othr A x := by
  obtain ⟨h1, h2⟩ := gS_x A x (lB (aL A))
  rw [if_pos hx] at h1 h2
  constructor
  · intro h
    have hne : ¬ gS A (lB (aL A)) = gC A x 99 := by omega
    refine Classical.byContradiction (fun z => hne (h2.mpr (fun y hy hyx => (gC_0 A y 99).mpr (fun w a b => bool_f (fun q => z ⟨99 * y + (w - 1), by omega, ?_, by omega⟩)))))
    unfold gI
    rw [show (99 * y + (w - 1)) / 99 = y by omega, show (99 * y + (w - 1)) % 99 + 1 = w by omega]
    exact q
  · intro ⟨i, i1, i2, i3⟩ h
    have e : gS A (lB (aL A)) = gC A x 99 := by omega
    have z := (gC_0 A (i / 99) 99).mp (h2.mp e (i / 99) (by omega) i3) (i % 99 + 1) (by omega) (by omega)
    have i2' : gB A (i / 99) (i % 99 + 1) = true := i2
    rw [i2'] at z
    cases z
theorem mkA_spl {A : mu_A} {x : Nat} (hx : x < lB (aL A)) (v : Nat) : mkA A x v = true ↔ (∃ w, 1 ≤ w ∧ w < 100 ∧ gB A x w = true ∧ lat A x w = nI v) ∨ (othr A x ∧ lat A x (wN A x) = nI v) := by
  rw [mkA_iff]
  constructor
  · intro ⟨i, i1, i2, i3⟩
    have i2' : gB A (i / 99) (i % 99 + 1) = true := i2
    unfold latI at i3
    by_cases c : x = i / 99
    · rw [if_pos c] at i3
      rw [← c] at i2'
      exact Or.inl ⟨i % 99 + 1, by omega, by omega, i2', i3⟩
    · rw [if_neg c] at i3
      exact Or.inr ⟨⟨i, i1, i2, fun z => c z.symm⟩, i3⟩
  · intro h
    rcases h with ⟨w, a, b, c, d⟩ | ⟨⟨i, i1, i2, i3⟩, d⟩
    · refine ⟨99 * x + (w - 1), by omega, ?_, ?_⟩
      · unfold gI
        rw [show (99 * x + (w - 1)) / 99 = x by omega, show (99 * x + (w - 1)) % 99 + 1 = w by omega]
        exact c
      · unfold latI
        rw [show (99 * x + (w - 1)) / 99 = x by omega, if_pos rfl, show (99 * x + (w - 1)) % 99 + 1 = w by omega]
        exact d
    · refine ⟨i, i1, i2, ?_⟩
      unfold latI
      rw [if_neg (fun z => i3 z.symm)]
      exact d
noncomputable def mkW (A : mu_A) (x w v : Nat) : Bool := @decide (∃ w', 1 ≤ w' ∧ w' < w ∧ gB A x w' = true ∧ lat A x w' = nI v) (Classical.propDecidable _)
theorem mkW_iff (A : mu_A) (x w v : Nat) : mkW A x w v = true ↔ ∃ w', 1 ≤ w' ∧ w' < w ∧ gB A x w' = true ∧ lat A x w' = nI v := by
  unfold mkW
  exact @decide_eq_true_iff _ (Classical.propDecidable _)
theorem c_mark (f : Nat → Nat → Int32) (g : Nat → Nat → Int64) {v : Nat} (h1 : 1 ≤ v) (h2 : v ≤ 99) : x_sc_mark_0 (f, g) (nI v) = rV (en_u1 f 103 v 1, g) := by
  rw [e_sc_mark_0]
  simp (disch := omega) only [q_0, q_100, q_leI, q_in, q_clamp, if_true]
  rw [if_neg (by omega), if_neg (by omega)]
  rfl
theorem c_unlike {A : mu_A} (f : Nat → Nat → Int32) (g : Nat → Nat → Int64) (ok : AOK A) (hC : CRel A f) (t : TA A (lB (aL A)) f) {x : Nat} (hx : x < lB (aL A)) : ∃ f', x_sc_unlikeOf_0 (f, g) (nI x) = rI (nI (uSl A x)) (f', g) ∧ ∀ p, (p < 73 ∨ 78 < p) → p ≠ 46 → p ≠ 49 → p ≠ 103 → f' p = f p := by
  have lo := ok.1
  have l1 := lo.1
  obtain ⟨n1, n2, n3⟩ := wN_ok ok hx
  obtain ⟨f1, e1, h1, g1⟩ := c_fill_103 f g 0
  rw [e_sc_unlikeOf_0, e1, c_V]
  obtain ⟨f2, e2, h2, g2⟩ := mu_invF (fun (f' : Nat → Nat → Int32) i => x_sc_unlikeOf_10 (f', g) (nI x) i) (fun w f' => (∀ v, v < 100 → f' 103 v = tb (mkW A x w v)) ∧ ∀ p, (p < 73 ∨ 78 < p) → p ≠ 46 → p ≠ 49 → p ≠ 103 → f' p = f p) 1 100 (by omega) f1 ⟨fun v hv => by
    rw [h1 v hv, bool_f (a := mkW A x 1 v) (fun z => by
      obtain ⟨w', a, b, _⟩ := (mkW_iff A x 1 v).mp z
      omega)]
    rfl, fun p _ _ _ k => g1 p k⟩ (by
    intro w a w1 w2 ⟨ha, ga⟩
    have h101 : a 101 (x * 100 + w) = tb (gB A x w) := by rw [ga 101 (by omega) (by omega) (by omega) (by omega)]; exact t.1 x hx w w1 (by omega)
    have Ca : CRel A a := CRel_Q ok hC (fun p _ k1 k2 k3 k4 => ga p k1 k2 k3 (by omega))
    have st : x_sc_unlikeOf_10 (a, g) (nI x) (nI w) = if gB A x w = true then en_cI (x_sc_weightLater_0 (a, g) (nI x) (nI w)) (fun r5 σ4 => en_cV (x_sc_mark_0 σ4 r5) (fun σ6 => x_sc_unlikeOf_10 σ6 (nI x) (nI (w + 1))) (fun e σ => some (.inr e, σ))) (fun e σ => some (.inr e, σ)) else x_sc_unlikeOf_10 (a, g) (nI x) (nI (w + 1)) := by
      rw [e_sc_unlikeOf_10, if_neg (show ¬ (99 : Int32) < nI w by rw [q_99]; exact nI_nlt (by omega) (by omega))]
      simp (disch := omega) only [q_100, q_1, pk_mul, nI_add, q_in, q_clamp, if_true, h101, tb_1]
    cases hg : gB A x w with
    | false =>
      refine ⟨a, ?_, fun v hv => ?_, ga⟩
      · show x_sc_unlikeOf_10 (a, g) (nI x) (nI w) = _
        rw [st, hg, if_neg (by decide)]
      · rw [ha v hv]
        congr 1
        refine bool_eq ?_
        rw [mkW_iff, mkW_iff]
        constructor
        · intro ⟨w', q1, q2, q3, q4⟩
          exact ⟨w', q1, by omega, q3, q4⟩
        · intro ⟨w', q1, q2, q3, q4⟩
          by_cases e : w' = w
          · rw [e, hg] at q3; cases q3
          · exact ⟨w', q1, by omega, q3, q4⟩
    | true =>
      obtain ⟨f3, e3, g3⟩ := c_later a g ok Ca hx w1 (by omega)
      obtain ⟨v0, v1, v2, v3⟩ := lat_ok ok hx w1 (show w ≤ 99 by omega)
      refine ⟨en_u1 f3 103 v0 1, ?_, fun v hv => ?_, fun p k1 k2 k3 k4 => by rw [u1_p _ _ _ k4, g3 p k1 k2 k3, ga p k1 k2 k3 k4]⟩
      · show x_sc_unlikeOf_10 (a, g) (nI x) (nI w) = _
        rw [st, hg, if_pos rfl, e3, c_I, v3, c_mark f3 g v1 v2, c_V]
      · rw [u1_if, g3 103 (by omega) (by omega) (by omega)]
        by_cases c : v = v0
        · rw [if_pos c, (mkW_iff A x (w + 1) v).mpr ⟨w, w1, by omega, hg, by rw [c]; exact v3⟩]
          rfl
        · rw [if_neg c, ha v hv]
          congr 1
          refine bool_eq ?_
          rw [mkW_iff, mkW_iff]
          constructor
          · intro ⟨w', q1, q2, q3, q4⟩
            exact ⟨w', q1, by omega, q3, q4⟩
          · intro ⟨w', q1, q2, q3, q4⟩
            by_cases e : w' = w
            · rw [e, v3] at q4
              exact absurd ((nI_eq (by omega) (by omega)).mp q4).symm c
            · exact ⟨w', q1, by omega, q3, q4⟩)
  -- the sum
  have sum : ∀ f3, (∀ v, v < 100 → f3 103 v = tb (mkA A x v)) → x_sc_unlikeOf_82 (f3, g) 0 1 = rI (nI (uSl A x)) (f3, g) := by
    intro f3 h3
    have key : ∀ n, n ≤ 99 → x_sc_unlikeOf_82 (f3, g) 0 1 = x_sc_unlikeOf_82 (f3, g) (nI (sumV (mkA A x) n)) (nI (n + 1)) := by
      intro n
      induction n with
      | zero => intro _; rfl
      | succ n ih =>
        intro hn
        have hv := h3 (n + 1) (by omega)
        have hv' : f3 103 (n + 1) = nI (mkA A x (n + 1)).toNat := hv
        rw [ih (by omega), e_sc_unlikeOf_82, if_neg (show ¬ (99 : Int32) < nI (n + 1) by rw [q_99]; exact nI_nlt (by omega) (by omega))]
        simp (disch := omega) only [q_in, q_clamp, if_true, hv', nI_add, nI_1]
        rfl
    rw [key 99 (Nat.le_refl _), e_sc_unlikeOf_82, if_pos (by decide)]
    rfl
  have h100 : f2 100 6 = nI (gS A (lB (aL A))) := by rw [g2 100 (by omega) (by omega) (by omega) (by omega)]; exact t.2.2
  have h102 : f2 102 x = nI (gC A x 99) := by rw [g2 102 (by omega) (by omega) (by omega) (by omega)]; exact t.2.1 x hx
  have gl := gS_le A (lB (aL A))
  have cl := gC_le A x 99
  have C2 : CRel A f2 := CRel_Q ok hC (fun p _ k1 k2 k3 k4 => g2 p k1 k2 k3 (by omega))
  have h68 : f2 68 x = nI (wN A x) := by rw [← n3]; exact C2.2.2.1.2.1 x hx
  have fin : x_sc_unlikeOf_10 (f2, g) (nI x) (nI 100) = if gS A (lB (aL A)) ≤ gC A x 99 then x_sc_unlikeOf_82 (f2, g) 0 1 else en_cI (x_sc_weightLater_0 (f2, g) (nI x) (nI (wN A x))) (fun r2 σ1 => en_cV (x_sc_mark_0 σ1 r2) (fun σ3 => x_sc_unlikeOf_82 σ3 0 1) (fun e σ => some (.inr e, σ))) (fun e σ => some (.inr e, σ)) := by
    rw [e_sc_unlikeOf_10, if_pos (by decide)]
    simp (disch := omega) only [q_in, q_clamp, if_true, h100, h102, q_leI, h68]
  have e2' : x_sc_unlikeOf_10 (f1, g) (nI x) 1 = x_sc_unlikeOf_10 (f2, g) (nI x) (nI 100) := e2
  rw [e2', fin]
  by_cases c : gS A (lB (aL A)) ≤ gC A x 99
  · rw [if_pos c]
    have no : ¬ othr A x := fun z => (othr_iff hx).mpr z c
    refine ⟨f2, sum f2 (fun v hv => ?_), g2⟩
    rw [h2 v hv]
    congr 1
    refine bool_eq ?_
    rw [mkW_iff, mkA_spl hx]
    exact ⟨fun z => Or.inl z, fun z => z.resolve_right (fun y => no y.1)⟩
  · rw [if_neg c]
    have ot := (othr_iff hx).mp c
    obtain ⟨f3, e3, g3⟩ := c_later f2 g ok C2 hx n1 n2
    obtain ⟨v0, v1, v2, v3⟩ := lat_ok ok hx n1 n2
    rw [e3, c_I, v3, c_mark f3 g v1 v2, c_V]
    refine ⟨_, sum (en_u1 f3 103 v0 1) (fun v hv => ?_), fun p k1 k2 k3 k4 => by rw [u1_p _ _ _ k4, g3 p k1 k2 k3, g2 p k1 k2 k3 k4]⟩
    rw [u1_if, g3 103 (by omega) (by omega) (by omega)]
    by_cases d : v = v0
    · rw [if_pos d, (mkA_spl hx v).mpr (Or.inr ⟨ot, by rw [d]; exact v3⟩)]
      rfl
    · rw [if_neg d, h2 v hv]
      congr 1
      refine bool_eq ?_
      rw [mkW_iff, mkA_spl hx]
      refine ⟨fun z => Or.inl z, fun z => z.resolve_right (fun y => ?_)⟩
      have y2 := y.2
      rw [v3] at y2
      exact d ((nI_eq (by omega) (by omega)).mp y2).symm
theorem c_compare {A : mu_A} (f : Nat → Nat → Int32) (g : Nat → Nat → Int64) (ok : AOK A) (hC : CRel A f) (t : TA A (lB (aL A)) f) : ∃ f', x_sc_compareLater_0 (f, g) = rV (f', g) ∧ f' 100 7 = (bst A (lB (aL A))).1 ∧ f' 100 8 = nI (bst A (lB (aL A))).2 ∧ FS f f' := by
  have lo := ok.1
  have l1 := lo.1
  rw [e_sc_compareLater_0]
  obtain ⟨f2, e2, a1, a2, a3, a4⟩ := mu_inv (fun (f' : Nat → Nat → Int32) i => x_sc_compareLater_12 (f', g) i) (fun n f' => f' 100 7 = (bst A n).1 ∧ f' 100 8 = nI (bst A n).2 ∧ f' 100 6 = f 100 6 ∧ ∀ p, (p < 73 ∨ 78 < p) → p ≠ 46 → p ≠ 49 → p ≠ 103 → p ≠ 100 → f' p = f p) (lB (aL A)) (en_u1 (en_u1 f 100 7 (-1)) 100 8 0) ⟨by rw [u1_ne _ _ (by omega), u1_at]; rfl, u1_at _ _ _ _, by rw [u1_ne _ _ (by omega), u1_ne _ _ (by omega)], fun p _ _ _ _ k => by rw [u1_p _ _ _ k, u1_p _ _ _ k]⟩ (by
    intro n a hn ⟨a1, a2, a3, a4⟩
    have Ca : CRel A a := CRel_Q ok hC (fun p _ k1 k2 k3 k4 => a4 p k1 k2 k3 (by omega) (by omega))
    have ta : TA A (lB (aL A)) a := ⟨fun x hx w w1 w2 => by rw [a4 101 (by omega) (by omega) (by omega) (by omega) (by omega)]; exact t.1 x hx w w1 w2, fun x hx => by rw [a4 102 (by omega) (by omega) (by omega) (by omega) (by omega)]; exact t.2.1 x hx, by rw [a3]; exact t.2.2⟩
    have hB : a 34 5 = nI (lB (aL A)) := Ca.1.1
    obtain ⟨f3, e3, g3⟩ := c_unlike a g ok Ca ta hn
    have h100 : ∀ i, f3 100 i = a 100 i := fun i => by rw [g3 100 (by omega) (by omega) (by omega) (by omega)]
    have bl := bst_le A n
    have ul := sumV_le (mkA A n) 99
    have ul' : uSl A n ≤ 99 := ul
    have st : x_sc_compareLater_12 (a, g) (nI n) = if (bst A n).2 < uSl A n then x_sc_compareLater_12 (en_u1 (en_u1 f3 100 7 (nI n)) 100 8 (nI (uSl A n)), g) (nI (n + 1)) else x_sc_compareLater_12 (f3, g) (nI (n + 1)) := by
      rw [e_sc_compareLater_12, if_neg (show ¬ a 34 5 ≤ nI n by rw [hB]; exact nI_ge hn (by omega)), e3, c_I, nI_1]
      by_cases c : (bst A n).2 < uSl A n
      · rw [if_pos c, if_neg (show ¬ nI (uSl A n) ≤ f3 100 8 by rw [h100, a2]; exact nI_ge c (by omega))]
      · rw [if_neg c, if_pos (show nI (uSl A n) ≤ f3 100 8 by rw [h100, a2]; exact nI_le (by omega) (by omega))]
    rw [bst_S]
    by_cases c : (bst A n).2 < uSl A n
    · refine ⟨en_u1 (en_u1 f3 100 7 (nI n)) 100 8 (nI (uSl A n)), ?_, ?_, ?_, ?_, fun p k1 k2 k3 k4 k5 => by rw [u1_p _ _ _ k5, u1_p _ _ _ k5, g3 p k1 k2 k3 k4, a4 p k1 k2 k3 k4 k5]⟩
      · show x_sc_compareLater_12 (a, g) (nI n) = _
        rw [st, if_pos c]
      · rw [if_pos c, u1_ne _ _ (by omega), u1_at]
      · rw [if_pos c, u1_at]
      · rw [u1_ne _ _ (by omega), u1_ne _ _ (by omega), h100, a3]
    · refine ⟨f3, ?_, ?_, ?_, ?_, fun p k1 k2 k3 k4 k5 => by rw [g3 p k1 k2 k3 k4, a4 p k1 k2 k3 k4 k5]⟩
      · show x_sc_compareLater_12 (a, g) (nI n) = _
        rw [st, if_neg c]
      · rw [if_neg c, h100]; exact a1
      · rw [if_neg c, h100]; exact a2
      · rw [h100, a3])
  have hB : f2 34 5 = nI (lB (aL A)) := by rw [a4 34 (by omega) (by omega) (by omega) (by omega) (by omega)]; exact hC.1.1
  refine ⟨f2, ?_, a1, a2, fun p k1 k2 k3 k4 k5 k6 k7 => a4 p k1 k2 k3 k7 k4⟩
  refine Eq.trans e2 ?_
  show x_sc_compareLater_12 (f2, g) (nI (lB (aL A))) = _
  rw [e_sc_compareLater_12, if_pos (q_le hB)]
  rfl
