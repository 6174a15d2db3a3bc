/-! lines: boxes -/
theorem c_addStop (f : Nat → Nat → Int32) (g : Nat → Nat → Int64) {b k : Nat} (hb : b < 6) (hk : k < 6) (v : Int32) : x_ld_addStop_p50_0 (f, g) (nI b) (nI k) v = rV (en_u1 (en_u1 f 56 (6 * b + k) v) 55 b (nI (k + 1)), g) := by
  rw [e_ld_addStop_p50_0, if_neg (show ¬ (6 : Int32) ≤ nI b by rw [q_6]; exact nI_ge hb (by omega)), if_neg (show ¬ (6 : Int32) ≤ nI k by rw [q_6]; exact nI_ge hk (by omega))]
  simp (disch := omega) only [q_6, pk_mul, nI_add, q_in, q_clamp, if_true, nI_1]
  rw [Nat.mul_comm b 6]
  rfl
/-- the land with one more box -/
def bxL (Λ : mu_Ld) (b n : Nat) (τ : Nat → Nat) : mu_Ld := (b + 1, Λ.2.1, Λ.2.2.1, Λ.2.2.2.1, updN Λ.2.2.2.2.1 b n, (fun i => if 6 * b ≤ i then nI (τ (i - 6 * b)) else Λ.2.2.2.2.2.1 i), Λ.2.2.2.2.2.2)
def bxD (D : mu_Dr) (b n w : Nat) (τ : Nat → Nat) : mu_Dr := (oTo D, true, bxL (oLd D) b n τ, oGd D, upd (oWt D) b (nI w), oHd D)
def anD (D : mu_Dr) : mu_Dr := (oTo D, true, oLd D, oGd D, oWt D, oHd D)
theorem anD_OK {D : mu_Dr} (ok : DOK D) : DOK (anD D) := ⟨ok.1, ok.2.1, ok.2.2.1, ok.2.2.2.1, ok.2.2.2.2.1, fun z => absurd (show true = false from z) (by decide), ok.2.2.2.2.2.2⟩
theorem bxL_T {Λ : mu_Ld} {b n : Nat} {τ : Nat → Nat} {x k : Nat} : lT (bxL Λ b n τ) (6 * x + k) = if 6 * b ≤ 6 * x + k then nI (τ (6 * x + k - 6 * b)) else lT Λ (6 * x + k) := rfl
theorem bxL_R {Λ : mu_Ld} {b n : Nat} {τ : Nat → Nat} {x : Nat} : lR (bxL Λ b n τ) x = updN (lR Λ) b n x := rfl
theorem bxD_OK {D : mu_Dr} {n w : Nat} {τ : Nat → Nat} (ok : DOK D) (hb : lB (oLd D) < 6) (n1 : 1 ≤ n) (n6 : n ≤ 6) (w1 : 1 ≤ w) (w9 : w ≤ 99) (ht : ∀ k, k < n → τ k < (oGd D).1) : DOK (bxD D (lB (oLd D)) n w τ) := by
  obtain ⟨lo, go, to, wo, ho, an, tn⟩ := ok
  refine ⟨⟨by show lB (oLd D) + 1 ≤ 6; omega, lo.2.1, fun x hx => ?_, lo.2.2.2.1, lo.2.2.2.2⟩, go, fun x hx k hk => ?_, fun x hx => ?_, fun p hp => ?_, fun z => absurd (show true = false from z) (by decide), tn⟩
  · have hx' : x < lB (oLd D) + 1 := hx
    show 1 ≤ updN (lR (oLd D)) (lB (oLd D)) n x ∧ updN (lR (oLd D)) (lB (oLd D)) n x ≤ 6
    by_cases e : x = lB (oLd D)
    · rw [e, updN_at]; exact ⟨n1, n6⟩
    · rw [updN_ne _ _ e]; exact lo.2.2.1 x (by omega)
  · have hx' : x < lB (oLd D) + 1 := hx
    have hk' : k < updN (lR (oLd D)) (lB (oLd D)) n x := hk
    show ∃ t, t < (oGd D).1 ∧ lT (bxL (oLd D) (lB (oLd D)) n τ) (6 * x + k) = nI t
    rw [bxL_T]
    by_cases e : x = lB (oLd D)
    · rw [e, updN_at] at hk'
      rw [if_pos (by omega)]
      exact ⟨τ (6 * x + k - 6 * lB (oLd D)), ht _ (by omega), rfl⟩
    · rw [updN_ne _ _ e] at hk'
      have := (lo.2.2.1 x (by omega)).2
      rw [if_neg (by omega)]
      exact to x (by omega) k hk'
  · have hx' : x < lB (oLd D) + 1 := hx
    show ∃ w', 1 ≤ w' ∧ w' ≤ 99 ∧ upd (oWt D) (lB (oLd D)) (nI w) x = nI w'
    rw [upd_if]
    by_cases e : x = lB (oLd D)
    · rw [if_pos e]; exact ⟨w, w1, w9, rfl⟩
    · rw [if_neg e]; exact wo x (by omega)
  · rcases ho p hp with h | ⟨x, x1, x2⟩
    · exact Or.inl h
    · exact Or.inr ⟨x, by show x < lB (oLd D) + 1; omega, x2⟩
/-- the stops behind the first -/
theorem bx_loop {X : mu_X} (xo : XOK X) {D : mu_Dr} (ok : DOK D) (hb : lB (oLd D) < 6) {w : Nat} (w1 : 1 ≤ w) (w9 : w ≤ 99) : ∀ j n, n + j = 6 → 1 ≤ n → ∀ c, c ≤ X.1 → ∀ τ : Nat → Nat, (∀ k, k < n → τ k < (oGd D).1) → ∃ o : mu_P, (match o with
      | .inl z => z.1 ≤ X.1 ∧ c ≤ z.1 ∧ DOK z.2
      | .inr z => (1 ≤ z.1 ∧ z.1 ≤ 5) ∧ z.2 ≤ 700) ∧
    (∀ f g, CS X c (anD D) f → f 54 (lB (oLd D)) = nI w → f 55 (lB (oLd D)) = nI n → (∀ k, k < n → f 56 (6 * lB (oLd D) + k) = nI (τ k)) → ∃ f', x_rd_readBox_68 (f, g) (nI (lB (oLd D))) (nI n) = rV (f', g) ∧ PC X o f f') ∧
    (∀ f g t, MS X c (anD D) t f g → f 14 (1 + lB (oLd D)) = nI w → f 14 (7 + lB (oLd D)) = nI 0 → (∀ k, k < n → f 10 (6 * lB (oLd D) + k) = nI (τ k)) → ∃ f' g', x_m_readsBox_34 (f, g) (nI (lB (oLd D))) (nI n) (nI (if tK X c = 2 then 1 else 0)) = rV (f', g') ∧ PM X o f g f' g') := by
  have n7 := xo.1
  obtain ⟨lo, go, to, wo, ho, an, tn⟩ := id ok
  have l8 := lo.2.1
  have g8 := go.2.1
  obtain ⟨b, hb'⟩ : ∃ b, b = lB (oLd D) := ⟨_, rfl⟩
  rw [← hb'] at hb ⊢
  -- nothing more
  have stop : ∀ n, 1 ≤ n → n ≤ 6 → ∀ c, c ≤ X.1 → ∀ τ : Nat → Nat, (∀ k, k < n → τ k < (oGd D).1) → ¬ tK X c = 2 → ∃ o : mu_P, (match o with
      | .inl z => z.1 ≤ X.1 ∧ c ≤ z.1 ∧ DOK z.2
      | .inr z => (1 ≤ z.1 ∧ z.1 ≤ 5) ∧ z.2 ≤ 700) ∧
    (∀ f g, CS X c (anD D) f → f 54 b = nI w → f 55 b = nI n → (∀ k, k < n → f 56 (6 * b + k) = nI (τ k)) → ∃ f', x_rd_readBox_68 (f, g) (nI b) (nI n) = rV (f', g) ∧ PC X o f f') ∧
    (∀ f g t, MS X c (anD D) t f g → f 14 (1 + b) = nI w → f 14 (7 + b) = nI 0 → (∀ k, k < n → f 10 (6 * b + k) = nI (τ k)) → ∃ f' g', x_m_readsBox_34 (f, g) (nI b) (nI n) (nI (if tK X c = 2 then 1 else 0)) = rV (f', g') ∧ PM X o f g f' g') := by
    intro n n1 n6 c hc τ ht k2
    have k4 := tK_4 X c
    have okd := bxD_OK ok (by omega) n1 n6 w1 w9 ht
    rw [← hb'] at okd
    refine ⟨.inl (c, bxD D b n w τ), ⟨hc, Nat.le_refl c, okd⟩, fun f g h e54 e55 e56 => ?_, fun f g t h e1 e7 e10 => ?_⟩
    · obtain ⟨h1, h2, h3, h4, h5, h6, h7, h8, h9, h10, h11, h12⟩ := h.2.2.2
      have h50 : f 50 5 = nI b := by rw [hb']; exact h6
      have F : ∀ p i, (p ≠ 50 ∨ i ≠ 5) → en_u1 f 50 5 (nI (b + 1)) p i = f p i := fun p i k => u1_ne _ _ (by omega)
      refine ⟨en_u1 f 50 5 (nI (b + 1)), ?_, ⟨CT_of h.1 (fun i _ _ => F _ _ (by omega)) (fun i => F _ _ (by omega)), ?_, ?_, ?_, ?_, ?_, ?_, fun i hi => ?_, u1_at _ _ _ _, ?_, fun x hx => ?_, fun x hx k hk => ?_, fun p hp => ?_, ?_, ?_⟩, CF_u _ _ (by omega)⟩
      · rw [e_rd_readBox_68, if_neg (show ¬ (6 : Int32) < nI n by rw [q_6]; exact nI_nlt n6 (by omega)), if_pos (show f 66 9 = 0 from h.2.1), if_neg (show ¬ f 66 5 = 2 by rw [h.1.2.2.2.1, q_2, q_eqI (by omega) (by omega)]; exact k2)]
        show rV (en_u1 f 50 5 (f 50 5 + 1), g) = _
        rw [h50, nI_1]
      · rw [F 66 9 (by omega)]; exact h.2.1
      · rw [F 66 10 (by omega)]; exact h.2.2.1
      · rw [F 66 7 (by omega)]; exact h1
      · rw [F 66 8 (by omega)]; exact h2
      · rw [F 50 0 (by omega)]; exact h3
      · rw [F 50 1 (by omega)]; exact h4
      · rw [F 51 i (by omega), F 52 i (by omega), F 53 i (by omega)]; exact h5 i hi
      · rw [F 50 9 (by omega)]; exact h7
      · have hx' : x < b + 1 := hx
        show _ = upd (oWt D) b (nI w) x ∧ _ = nI (updN (lR (oLd D)) b n x)
        rw [F 54 x (by omega), F 55 x (by omega), upd_if]
        by_cases e : x = b
        · rw [if_pos e, e, updN_at]; exact ⟨e54, e55⟩
        · rw [if_neg e, updN_ne _ _ e]; exact h8 x (by show x < lB (oLd D); omega)
      · have hx' : x < b + 1 := hx
        have hk' : k < updN (lR (oLd D)) b n x := hk
        show _ = lT (bxL (oLd D) b n τ) (6 * x + k)
        rw [F 56 _ (by omega), bxL_T]
        by_cases e : x = b
        · rw [e, updN_at] at hk'
          rw [e, if_pos (by omega), show 6 * b + k - 6 * b = k by omega]
          exact e56 k hk'
        · rw [updN_ne _ _ e] at hk'
          have := (lo.2.2.1 x (by omega)).2
          rw [if_neg (by omega)]
          exact h9 x (by show x < lB (oLd D); omega) k hk'
      · rw [F 57 p (by omega), F 58 p (by omega), F 59 p (by omega)]; exact h10 p hp
      · exact cRq_of (fun p i a => F p i (by omega)) _ h11
      · exact cRq_of (fun p i a => F p i (by omega)) _ h12
    · obtain ⟨h1, h2, h3, h4, h5, h6, h7, h8, h9, h10, h11, h12, h13⟩ := h.2.2.2.1
      have h29 : f 0 29 = nI b := by rw [hb']; exact h4
      have F : ∀ p i, (p ≠ 0 ∨ i ≠ 29) → (p ≠ 11 ∨ i ≠ b) → en_u1 (en_u1 f 11 b (nI n)) 0 29 (nI (b + 1)) p i = f p i := fun p i k1 k2 => by rw [u1_ne _ _ (by omega), u1_ne _ _ (by omega)]
      refine ⟨en_u1 (en_u1 f 11 b (nI n)) 0 29 (nI (b + 1)), g, ?_, ⟨t, MT_of h.1 (fun i _ _ => F _ _ (by omega) (by omega)) (fun i => F _ _ (by omega) (by omega)), ?_, ?_, ⟨?_, ?_, ?_, u1_at _ _ _ _, ?_, ?_, ?_, ?_, ⟨fun i hi => ?_, fun x y hx hy => ?_⟩, ?_, fun x hx => ?_, fun x hx k hk => ?_, fun p hp => ?_⟩, h.2.2.2.2⟩, MF_trans (MF_u _ _ (by omega)) (MF_u0 _ _ (by omega)), fun _ _ => rfl⟩
      · have h15 : en_u1 f 11 b (nI n) 0 15 = nI 0 := by rw [u1_ne _ _ (by omega)]; exact h.2.1
        rw [if_neg k2, e_m_readsBox_34, if_pos (show nI 0 = 0 from rfl)]
        simp (disch := omega) only [q_in, q_clamp, if_true]
        rw [m_good1 _ g h15, c_I, if_neg (by decide)]
        show rV (en_u1 (en_u1 f 11 b (nI n)) 0 29 (en_u1 f 11 b (nI n) 0 29 + 1), g) = _
        rw [u1_ne _ _ (by omega), h29, nI_1]
      · rw [F 0 15 (by omega) (by omega)]; exact h.2.1
      · rw [F 0 16 (by omega) (by omega)]; exact h.2.2.1
      · rw [F 0 27 (by omega) (by omega)]; exact h1
      · rw [F 0 26 (by omega) (by omega)]; exact h2
      · rw [F 0 28 (by omega) (by omega)]; exact h3
      · rw [F 0 30 (by omega) (by omega)]; exact h5
      · rw [F 0 33 (by omega) (by omega)]; exact h6
      · rw [F 0 31 (by omega) (by omega)]; exact mRq_of (Nat.le_refl _) (fun i _ => F 15 i (by omega) (by omega)) _ h7
      · rw [F 0 32 (by omega) (by omega)]; exact mRq_of (Nat.le_refl _) (fun i _ => F 15 i (by omega) (by omega)) _ h8
      · rw [F 9 _ (by omega) (by omega), F 9 _ (by omega) (by omega)]; exact h9.1 i hi
      · rw [F 9 _ (by omega) (by omega)]; exact h9.2 x y hx hy
      · rw [F 14 0 (by omega) (by omega)]; exact h10
      · have hx' : x < b + 1 := hx
        show _ = upd (oWt D) b (nI w) x ∧ _ ∧ _ = nI (updN (lR (oLd D)) b n x)
        rw [F 14 _ (by omega) (by omega), F 14 _ (by omega) (by omega), upd_if]
        by_cases e : x = b
        · rw [if_pos e, e, updN_at, u1_ne _ _ (by omega), u1_at]; exact ⟨e1, e7, rfl⟩
        · rw [if_neg e, updN_ne _ _ e, F 11 x (by omega) (by omega)]; exact h11 x (by show x < lB (oLd D); omega)
      · have hx' : x < b + 1 := hx
        have hk' : k < updN (lR (oLd D)) b n x := hk
        show _ = lT (bxL (oLd D) b n τ) (6 * x + k)
        rw [F 10 _ (by omega) (by omega), bxL_T]
        by_cases e : x = b
        · rw [e, updN_at] at hk'
          rw [e, if_pos (by omega), show 6 * b + k - 6 * b = k by omega]
          exact e10 k hk'
        · rw [updN_ne _ _ e] at hk'
          have := (lo.2.2.1 x (by omega)).2
          rw [if_neg (by omega)]
          exact h12 x (by show x < lB (oLd D); omega) k hk'
      · rw [F 12 p (by omega) (by omega), F 13 p (by omega) (by omega), F 14 _ (by omega) (by omega), F 14 _ (by omega) (by omega)]; exact h13 p hp
  have bad68 : ∀ f fb g k q (n : Int32), 1 ≤ k ∧ k ≤ 5 → CFt k q f fb → ∃ f', x_rd_readBox_68 (fb, g) (nI b) n = rV (f', g) ∧ CFt k q f f' := by
    intro f fb g k q n hk5 hF
    refine ⟨en_u1 fb 50 5 (fb 50 5 + 1), ?_, CFt_u hF _ (by omega)⟩
    rw [e_rd_readBox_68]
    by_cases c6 : (6 : Int32) < n
    · rw [if_pos c6]; rfl
    · rw [if_neg c6, if_neg (show ¬ fb 66 9 = 0 from CFt_9 hF hk5)]; rfl
  have go34 : ∀ c n, n ≤ 6 → ∀ f g t, MS X c (anD D) t f g → tK X c = 2 → n < 6 → x_m_readsBox_34 (f, g) (nI b) (nI n) (nI (if tK X c = 2 then 1 else 0)) = en_cI (x_m_isOneOf_0 (f, g) (nI (oGd D).1)) (fun r4 σ3 => if r4 = 0 then some (.inl none, σ3) else en_cV (x_m_goes_0 (en_u1 (en_u1 σ3.1 0 26 1) 10 (6 * b + n) (σ3.1 0 23), σ3.2)) (fun σ5 => if σ5.1 0 20 = 2 then x_m_readsBox_34 σ5 (nI b) (nI (n + 1)) 1 else x_m_readsBox_34 σ5 (nI b) (nI (n + 1)) 0) (fun e σ => some (.inr e, σ))) (fun e σ => some (.inr e, σ)) := by
    intro c n hn f g t h k2 n6
    have tw := m_towns (anD_OK ok) f g h.2.2.2.1.1
    rw [if_pos k2, e_m_readsBox_34, if_neg (by decide), m_good1 f g h.2.1, c_I, if_neg (by decide), if_neg (show ¬ nI n = 6 by rw [q_6, q_eqI (by omega) (by omega)]; omega), e_m_readsBox_64, tw, c_I]
    simp (disch := omega) only [q_6, pk_mul, nI_add, q_in, q_clamp, if_true, nI_1]
    rfl
  intro j
  induction j with
  | zero =>
    intro n hn n1 c hc τ ht
    have k4 := tK_4 X c
    by_cases k2 : tK X c = 2
    · have hn6 : n = 6 := by omega
      subst hn6
      refine ⟨.inr (2, tS X c), ⟨by show 1 ≤ 2 ∧ 2 ≤ 5; omega, tS7 xo hc⟩, fun f g h e54 e55 e56 => ?_, fun f g t h e1 e7 e10 => ?_⟩
      · obtain ⟨f', a1, a2⟩ := bad68 f _ g 2 _ (nI 6 + 1) (by omega) (CFt_ref (k := 2) h.1)
        refine ⟨f', ?_, a2⟩
        rw [e_rd_readBox_68, if_neg (by decide), if_pos (show f 66 9 = 0 from h.2.1), if_pos (show f 66 5 = 2 by rw [h.1.2.2.2.1, k2]; rfl), if_pos (by decide), show x_rd_refuse_0 (f, g) 2 = _ from c_rdRefuse f g (nI 2), c_V]
        exact a1
      · have bad := MFt_wr (k := 2) h.1
        refine ⟨_, _, ?_, bad⟩
        have h27 : en_u1 (en_u1 f 0 15 (nI 2)) 0 16 (f 0 21) 0 27 = dTo (oTo (anD D)) := by rw [u1_ne _ _ (by omega), u1_ne _ _ (by omega)]; exact h.2.2.2.1.1
        have tw := m_towns (anD_OK ok) (en_u1 (en_u1 f 0 15 (nI 2)) 0 16 (f 0 21)) g h27
        rw [if_pos k2, e_m_readsBox_34, if_neg (by decide), m_good1 f g h.2.1, c_I, if_neg (by decide), if_pos (by decide), if_pos (show f 0 20 = 2 by rw [h.1.2.2.1, k2]; rfl), show x_m_wrong_0 (f, g) 2 = _ from m_wrong f g h.2.1 (nI 2), c_V, e_m_readsBox_64, tw, c_I, m_one9 _ g (k := 2) (by omega) bad.1, c_I, if_pos rfl]
        rfl
    · exact stop n n1 (by omega) c hc τ ht k2
  | succ j ih =>
    intro n hn n1 c hc τ ht
    have k4 := tK_4 X c
    by_cases k2 : tK X c = 2
    · have na := naF_c X c (oGd D).1
      have s68 : ∀ f g, CS X c (anD D) f → x_rd_readBox_68 (f, g) (nI b) (nI n) = en_cI (x_rd_readName_0 (f, g) (nI (oGd D).1) (-1)) (fun r3 σ2 => en_cV (x_ld_addStop_p50_0 σ2 (nI b) (nI n) r3) (fun σ4 => x_rd_readBox_68 σ4 (nI b) (nI (n + 1))) (fun e σ => some (.inr e, σ))) (fun e σ => some (.inr e, σ)) := by
        intro f g h
        have h50 : f 50 0 = nI (oGd D).1 := h.2.2.2.2.2.1
        rw [e_rd_readBox_68, if_neg (show ¬ (6 : Int32) < nI n by rw [q_6]; exact nI_nlt (by omega) (by omega)), if_pos (show f 66 9 = 0 from h.2.1), if_pos (show f 66 5 = 2 by rw [h.1.2.2.2.1, k2]; rfl), if_neg (show ¬ nI n = 6 by rw [q_6, q_eqI (by omega) (by omega)]; omega)]
        show en_cI (x_rd_readName_0 (f, g) (f 50 0) (-1)) _ _ = _
        rw [h50]
        simp only [nI_1]
      by_cases n0 : naF X c (oGd D).1 = 0
      · obtain ⟨v1, v2⟩ := na.2 n0
        have cg := tE_c' (X := X) (c := c) (by omega)
        have ce := tE_le hc
        have ht' : ∀ k, k < n + 1 → updN τ n (tV X c) k < (oGd D).1 := fun k hk => by
          by_cases e : k = n
          · rw [e, updN_at]; exact v2
          · rw [updN_ne _ _ e]; exact ht k (by omega)
        obtain ⟨o, oo, cl, mo⟩ := ih (n + 1) (by omega) (by omega) (tE X c) ce (updN τ n (tV X c)) ht'
        have cls : ∀ f g, CS X c (anD D) f → f 54 b = nI w → (∀ k, k < n → f 56 (6 * b + k) = nI (τ k)) → ∃ f', x_rd_readBox_68 (f, g) (nI b) (nI n) = rV (f', g) ∧ PC X o f f' := by
          intro f g h e54 e56
          obtain ⟨f1, a1, a2, a3⟩ := (c_name xo f g hc h.1 h.2.1 (many := (oGd D).1) (by omega)).1 n0
          have C1 := CS_CN (D := anD D) lo h a2 a3
          have C2 : CS X (tE X c) (anD D) (en_u1 (en_u1 f1 56 (6 * b + n) (nI (tV X c))) 55 b (nI (n + 1))) := by
            refine ⟨CT_of C1.1 (fun i _ _ => by rw [u1_ne _ _ (by omega), u1_ne _ _ (by omega)]) (fun i => by rw [u1_ne _ _ (by omega), u1_ne _ _ (by omega)]), by rw [u1_ne _ _ (by omega), u1_ne _ _ (by omega)]; exact C1.2.1, by rw [u1_ne _ _ (by omega), u1_ne _ _ (by omega)]; exact C1.2.2.1, CDr_of (D := anD D) lo C1.2.2.2 (fun p i hd => ?_)⟩
            have hd' : (p = 66 ∧ (i = 7 ∨ i = 8)) ∨ p = 50 ∨ ((p = 51 ∨ p = 52 ∨ p = 53) ∧ i < (oGd D).2.1) ∨ ((p = 54 ∨ p = 55) ∧ i < lB (oLd D)) ∨ (p = 56 ∧ i < 6 * lB (oLd D)) ∨ ((p = 57 ∨ p = 58 ∨ p = 59) ∧ i < lP (oLd D)) ∨ (60 ≤ p ∧ p ≤ 65) := hd
            rw [u1_ne _ _ (by omega), u1_ne _ _ (by omega)]
          obtain ⟨f', b1, b2⟩ := cl _ g C2 (by rw [u1_ne _ _ (by omega), u1_ne _ _ (by omega), a3 54 b (by omega)]; exact e54) (u1_at _ _ _ _) (fun k hk => by
            by_cases e : k = n
            · rw [e, updN_at, u1_ne _ _ (by omega), u1_at]
            · rw [updN_ne _ _ e, u1_ne _ _ (by omega), u1_ne _ _ (by omega), a3 56 _ (by omega)]; exact e56 k (by omega))
          refine ⟨f', ?_, ?_⟩
          · rw [s68 f g h, a1, c_I, c_addStop f1 g hb (by omega), c_V]
            exact b1
          · have FF : CF f (en_u1 (en_u1 f1 56 (6 * b + n) (nI (tV X c))) 55 b (nI (n + 1))) := CF_trans (CF_CN a3) (CF_trans (CF_u _ _ (by omega)) (CF_u _ _ (by omega)))
            cases o with
            | inr z => exact CFt_of b2 FF
            | inl z => exact ⟨b2.1, CF_trans FF b2.2⟩
        have mod : ∀ f g t, MS X c (anD D) t f g → f 14 (1 + b) = nI w → f 14 (7 + b) = nI 0 → (∀ k, k < n → f 10 (6 * b + k) = nI (τ k)) → ∃ f' g', x_m_readsBox_34 (f, g) (nI b) (nI n) (nI (if tK X c = 2 then 1 else 0)) = rV (f', g') ∧ PM X o f g f' g' := by
          intro f g t h e1 e7 e10
          have on := (m_oneOf xo f g hc h.1 h.2.1 (many := (oGd D).1) (by omega)).1 n0
          have h23 : f 0 23 = nI (tV X c) := h.1.2.2.2.2.2.1
          have T1 : MT X c (en_u1 (en_u1 f 0 26 1) 10 (6 * b + n) (nI (tV X c))) g := MT_of h.1 (fun i _ _ => by rw [u1_ne _ _ (by omega), u1_ne _ _ (by omega)]) (fun i => by rw [u1_ne _ _ (by omega), u1_ne _ _ (by omega)])
          have h26 : f 0 26 = 1 := h.2.2.2.1.2.1
          have M1 : MS X c (anD D) t (en_u1 (en_u1 f 0 26 1) 10 (6 * b + n) (nI (tV X c))) g := by
            refine ⟨T1, by rw [u1_ne _ _ (by omega), u1_ne _ _ (by omega)]; exact h.2.1, by rw [u1_ne _ _ (by omega), u1_ne _ _ (by omega)]; exact h.2.2.1, MDr_of (D := anD D) lo h.2.2.2.1 (fun p i hd => ?_), h.2.2.2.2⟩
            have hd' : (p = 0 ∧ 26 ≤ i ∧ i ≤ 33) ∨ p = 9 ∨ (p = 10 ∧ i < 6 * lB (oLd D)) ∨ (p = 11 ∧ i < lB (oLd D)) ∨ ((p = 12 ∨ p = 13) ∧ i < lP (oLd D)) ∨ (p = 14 ∧ (i = 0 ∨ (1 ≤ i ∧ i < 1 + lB (oLd D)) ∨ (7 ≤ i ∧ i < 7 + lB (oLd D)) ∨ (13 ≤ i ∧ i < 13 + lP (oLd D)) ∨ (21 ≤ i ∧ i < 21 + lP (oLd D)))) ∨ (p = 15 ∧ i < t) := hd
            rw [u1_ne _ _ (by omega)]
            by_cases q : p = 0 ∧ i = 26
            · rw [q.1, q.2, u1_at, h26]
            · rw [u1_ne _ _ (by omega)]
          obtain ⟨f1, g1, a1, a2, a3, a4⟩ := MS_go xo (D := anD D) lo hc _ g M1
          obtain ⟨f', g', b1, b2⟩ := mo f1 g1 t a2 (by rw [a3 14 _ (by omega), u1_ne _ _ (by omega), u1_ne _ _ (by omega)]; exact e1) (by rw [a3 14 _ (by omega), u1_ne _ _ (by omega), u1_ne _ _ (by omega)]; exact e7) (fun k hk => by
            by_cases e : k = n
            · rw [e, updN_at, a3 10 _ (by omega), u1_at]
            · rw [updN_ne _ _ e, a3 10 _ (by omega), u1_ne _ _ (by omega), u1_ne _ _ (by omega)]; exact e10 k (by omega))
          refine ⟨f', g', ?_, ?_⟩
          · rw [go34 c n (by omega) f g t h k2 (by omega), on, c_I, if_neg (by decide)]
            show en_cV (x_m_goes_0 (en_u1 (en_u1 f 0 26 1) 10 (6 * b + n) (f 0 23), g)) _ _ = _
            rw [h23, a1, c_V, ← b1]
            have h20 : f1 0 20 = nI (tK X (tE X c)) := a2.1.2.2.1
            have k4' := tK_4 X (tE X c)
            by_cases q : tK X (tE X c) = 2
            · rw [if_pos (show f1 0 20 = 2 by rw [h20, q]; rfl), if_pos q]; rfl
            · rw [if_neg (show ¬ f1 0 20 = 2 by rw [h20, q_2, q_eqI (by omega) (by omega)]; exact q), if_neg q]; rfl
          · have FF : MF f f1 := MF_trans (MF_u0 _ _ (by omega)) (MF_trans (MF_u _ _ (by omega)) (MF_MN a3))
            cases o with
            | inr z => exact MFt_of b2 FF a4
            | inl z => exact ⟨b2.1, MF_trans FF b2.2.1, fun q hq => (b2.2.2 q hq).trans (a4 q hq)⟩
        cases o with
        | inr z => exact ⟨.inr z, oo, fun f g h e54 e55 e56 => cls f g h e54 e56, mod⟩
        | inl z => exact ⟨.inl z, ⟨oo.1, by have := oo.2.1; omega, oo.2.2⟩, fun f g h e54 e55 e56 => cls f g h e54 e56, mod⟩
      · refine ⟨.inr (naF X c (oGd D).1, tS X c), ⟨by show 1 ≤ naF X c (oGd D).1 ∧ naF X c (oGd D).1 ≤ 5; omega, tS7 xo hc⟩, fun f g h e54 e55 e56 => ?_, fun f g t h e1 e7 e10 => ?_⟩
        · have b1 := (c_name xo f g hc h.1 h.2.1 (many := (oGd D).1) (by omega)).2.1 (-1) n0
          have bad := CFt_u (CFt_u (CFt_ref (k := naF X c (oGd D).1) h.1) (p := 56) (i := 6 * b + n) (f 66 6) (by omega)) (p := 55) (i := b) (nI (n + 1)) (by omega)
          obtain ⟨f', a1, a2⟩ := bad68 f _ g _ _ (nI (n + 1)) (by omega) bad
          refine ⟨f', ?_, a2⟩
          rw [s68 f g h, b1, c_I, c_addStop _ g hb (by omega), c_V]
          exact a1
        · have on := (m_oneOf xo f g hc h.1 h.2.1 (many := (oGd D).1) (by omega)).2 n0
          refine ⟨_, _, ?_, MFt_wr (k := naF X c (oGd D).1) h.1⟩
          rw [go34 c n (by omega) f g t h k2 (by omega), on, c_I, if_pos (by decide)]
          rfl
    · exact stop n n1 (by omega) c hc τ ht k2
