/-! one turn of the law: each call -/
theorem tn_i {Ls k j : Nat} (hL : Ls ≤ 3072) (hk : 6 * k + 6 ≤ Ls) (hj : j < 6) : en_in (nI (6 * k) + nI j) Ls = True := by
  rw [nI_add]; exact q_in (by omega) (by omega)
theorem tn_6 (k : Nat) : nI (6 * k) + 6 = nI (6 * (k + 1)) := by
  rw [q_6, nI_add, show 6 * k + 6 = 6 * (k + 1) by omega]
def Tn (Ls : Nat) (xs : Nat → Int32) (k : Nat) (σ : en_S) (pc : Nat) : Prop := ∃ σ', Rl σ' ∧ ∀ kf : en_K, en_uk bb_G bb_P bb_ML bb_HD Ls xs 12035 kf 89 pc (lw_L (nI (6 * k))) [] σ = kf 23 (lw_L (nI (6 * (k + 1)))) [] σ'
theorem tn_wB {A : mu_A} {f : Nat → Nat → Int32} {g : Nat → Nat → Int64} {b m : en_S → Option en_O} {k : Nat → Nat} (W : Option en_O) (h : MtG A f b m k) (k0 : k 0 = 0) (k1 : k 1 = 1) (k2 : k 2 = 1 ∨ k 2 = 2) (hB : ∀ w f1, b (f, g) = out (.inl w) (f1, g) → w = 0 ∨ w = 1) (hW : ∀ o f1, b (f, g) = out o (f1, g) → (∀ e, o = .inr e → e = 1 ∨ e = 2) → W = rI (nI (k (oK o))) (f1, lwG o g)) : ∃ σ', Rl σ' ∧ ∀ K N : en_S → Option en_O, en_cI W (fun r2 σ1 => en_cI (m σ1) (fun r4 σ3 => en_cI (x_m_thrown_0 σ3) (fun r6 σ5 => if r6 = r2 then if r2 = 0 then if r4 = 0 then if lg_cmp (σ5.2 30 0) 0 = 0 then K σ5 else N σ5 else if lg_cmp (σ5.2 30 0) 1 = 0 then K σ5 else N σ5 else K σ5 else N σ5) (fun _ _ => none)) (fun _ _ => none)) (fun _ _ => none) = K σ' := by
  obtain ⟨o, A', ok', hb, he, hm⟩ := h
  obtain ⟨f1, e1, p1, C1⟩ := hb g
  have w1 := hW o f1 e1 he
  obtain ⟨v, f3, g3, m1, m2, m3, m4, m5, m6⟩ := hm f1 (lwG o g) (fun p hp => p1 p (by omega))
  refine ⟨(f3, g3), ⟨A', ok', m4, CRel_hi ok' C1 (fun p hp => m5 p (by omega))⟩, fun K N => ?_⟩
  rw [w1, c_I, m1, c_I, e_m_thrown_0]
  show (if f3 0 0 = nI (k (oK o)) then if nI (k (oK o)) = 0 then if v = 0 then if lg_cmp (g3 30 0) 0 = 0 then K (f3, g3) else N (f3, g3) else if lg_cmp (g3 30 0) 1 = 0 then K (f3, g3) else N (f3, g3) else K (f3, g3) else N (f3, g3)) = K (f3, g3)
  rw [if_pos m2]
  cases o with
  | inl w =>
    have z : nI (k (oK (.inl w : Int32 ⊕ Nat))) = 0 := by
      show nI (k 0) = 0
      rw [k0]; rfl
    have g0 : g3 30 0 = w.toInt64 := by
      rw [m6 30 (by omega)]
      exact u2_at g 30 0 _
    have v0 : v = w := m3 w rfl
    rw [if_pos z]
    rcases hB w f1 e1 with q | q
    · rw [if_pos (show v = 0 by rw [v0, q]), if_pos ((lg_cmp_eq _ _).mpr (show g3 30 0 = 0 by rw [g0, q]; rfl))]
    · rw [if_neg (show ¬ v = 0 by rw [v0, q]; decide), if_pos ((lg_cmp_eq _ _).mpr (show g3 30 0 = 1 by rw [g0, q]; rfl))]
  | inr e =>
    have z : ¬ nI (k (oK (.inr e : Int32 ⊕ Nat))) = 0 := by
      show ¬ nI (k e) = 0
      rcases he e rfl with e1 | e1
      · rw [e1, k1]; decide
      · rw [e1]
        rcases k2 with k2 | k2
        · rw [k2]; decide
        · rw [k2]; decide
    rw [if_neg z]
theorem tn_feed {Ls : Nat} {xs : Nat → Int32} {k : Nat} {σ : en_S} (hR : Rl σ) (hL : Ls ≤ 3072) (hk : 6 * k + 6 ≤ Ls) : Tn Ls xs k σ 224 := by
  obtain ⟨A, ok, hM, hC⟩ := hR
  obtain ⟨f, g⟩ := σ
  have i1 : en_in (nI (6 * k) + 1) Ls = True := tn_i hL hk (j := 1) (by omega)
  have i2 : en_in (nI (6 * k) + 2) Ls = True := tn_i hL hk (j := 2) (by omega)
  have i3 : en_in (nI (6 * k) + 3) Ls = True := tn_i hL hk (j := 3) (by omega)
  have i4 : en_in (nI (6 * k) + 4) Ls = True := tn_i hL hk (j := 4) (by omega)
  have i5 : en_in (nI (6 * k) + 5) Ls = True := tn_i hL hk (j := 5) (by omega)
  obtain ⟨σ', r', h'⟩ := tn_p (g := g) (q_feed ok hM hC (xs (nI (6 * k) + 1).toNatClampNeg) (xs (nI (6 * k) + 2).toNatClampNeg) (xs (nI (6 * k) + 3).toNatClampNeg) (xs (nI (6 * k) + 4).toNatClampNeg) (xs (nI (6 * k) + 5).toNatClampNeg)) (nt_no1 (mi := 10001) (by decide +kernel) 0 [some (.ref 31), some (.int (xs (nI (6 * k) + 1).toNatClampNeg)), some (.int (xs (nI (6 * k) + 2).toNatClampNeg)), some (.int (xs (nI (6 * k) + 3).toNatClampNeg)), some (.int (xs (nI (6 * k) + 4).toNatClampNeg)), some (.int (xs (nI (6 * k) + 5).toNatClampNeg))] [] (f, g)) (nt_no2 (mi := 10001) (by decide +kernel) 0 [some (.ref 31), some (.int (xs (nI (6 * k) + 1).toNatClampNeg)), some (.int (xs (nI (6 * k) + 2).toNatClampNeg)), some (.int (xs (nI (6 * k) + 3).toNatClampNeg)), some (.int (xs (nI (6 * k) + 4).toNatClampNeg)), some (.int (xs (nI (6 * k) + 5).toNatClampNeg))] [] (f, g))
  refine ⟨σ', r', fun kf => ?_⟩
  refine Eq.trans (e_law_224 Ls xs kf (f, g) (nI (6 * k))) ?_
  simp only [i1, i2, i3, i4, i5, if_true, tn_6]
  exact h' (fun σ5 => kf 23 (lw_L (nI (6 * (k + 1)))) [] σ5) (fun σ5 => some (.inl (some (.int 0)), σ5))
theorem tn_land {Ls : Nat} {xs : Nat → Int32} {k : Nat} {σ : en_S} (hR : Rl σ) (hL : Ls ≤ 3072) (hk : 6 * k + 6 ≤ Ls) : Tn Ls xs k σ 297 := by
  obtain ⟨A, ok, hM, hC⟩ := hR
  obtain ⟨f, g⟩ := σ
  have i1 : en_in (nI (6 * k) + 1) Ls = True := tn_i hL hk (j := 1) (by omega)
  obtain ⟨σ', r', h'⟩ := tn_w (g := g) (x_lw_land_0 (f, g) (xs (nI (6 * k) + 1).toNatClampNeg)) (q_land ok hM hC (xs (nI (6 * k) + 1).toNatClampNeg)) rfl rfl (Or.inl rfl) (fun o f1 e1 he => w_land f f1 g (xs (nI (6 * k) + 1).toNatClampNeg) o e1 he)
  refine ⟨σ', r', fun kf => ?_⟩
  refine Eq.trans (e_law_297 Ls xs kf (f, g) (nI (6 * k))) ?_
  simp only [i1, if_true, tn_6]
  exact h' (fun σ5 => kf 23 (lw_L (nI (6 * (k + 1)))) [] σ5) (fun σ5 => some (.inl (some (.int 0)), σ5))
theorem tn_fault {Ls : Nat} {xs : Nat → Int32} {k : Nat} {σ : en_S} (hR : Rl σ) (hL : Ls ≤ 3072) (hk : 6 * k + 6 ≤ Ls) : Tn Ls xs k σ 353 := by
  obtain ⟨A, ok, hM, hC⟩ := hR
  obtain ⟨f, g⟩ := σ
  obtain ⟨σ', r', h'⟩ := tn_p (g := g) (q_fault ok hM hC) (nt_no1 (mi := 10003) (by decide +kernel) 0 [some (.ref 31)] [] (f, g)) (nt_no2 (mi := 10003) (by decide +kernel) 0 [some (.ref 31)] [] (f, g))
  refine ⟨σ', r', fun kf => ?_⟩
  refine Eq.trans (e_law_353 Ls xs kf (f, g) (nI (6 * k))) ?_
  simp only [tn_6]
  exact h' (fun σ5 => kf 23 (lw_L (nI (6 * (k + 1)))) [] σ5) (fun σ5 => some (.inl (some (.int 0)), σ5))
theorem tn_count {Ls : Nat} {xs : Nat → Int32} {k : Nat} {σ : en_S} (hR : Rl σ) (hL : Ls ≤ 3072) (hk : 6 * k + 6 ≤ Ls) : Tn Ls xs k σ 366 := by
  obtain ⟨A, ok, hM, hC⟩ := hR
  obtain ⟨f, g⟩ := σ
  have i1 : en_in (nI (6 * k) + 1) Ls = True := tn_i hL hk (j := 1) (by omega)
  obtain ⟨σ', r', h'⟩ := tn_w (g := g) (x_lw_count_0 (f, g) (xs (nI (6 * k) + 1).toNatClampNeg)) (Mt_G (Qn_Mt ok hM hC (q_count ok hM hC (xs (nI (6 * k) + 1).toNatClampNeg)))) rfl rfl (Or.inr rfl) (fun o f1 e1 he => w_count f f1 g (xs (nI (6 * k) + 1).toNatClampNeg) o e1 he)
  refine ⟨σ', r', fun kf => ?_⟩
  refine Eq.trans (e_law_366 Ls xs kf (f, g) (nI (6 * k))) ?_
  simp only [i1, if_true, tn_6]
  exact h' (fun σ5 => kf 23 (lw_L (nI (6 * (k + 1)))) [] σ5) (fun σ5 => some (.inl (some (.int 0)), σ5))
theorem tn_box {Ls : Nat} {xs : Nat → Int32} {k : Nat} {σ : en_S} (hR : Rl σ) (hL : Ls ≤ 3072) (hk : 6 * k + 6 ≤ Ls) : Tn Ls xs k σ 422 := by
  obtain ⟨A, ok, hM, hC⟩ := hR
  obtain ⟨f, g⟩ := σ
  have i1 : en_in (nI (6 * k) + 1) Ls = True := tn_i hL hk (j := 1) (by omega)
  have i2 : en_in (nI (6 * k) + 2) Ls = True := tn_i hL hk (j := 2) (by omega)
  obtain ⟨σ', r', h'⟩ := tn_w (g := g) (x_lw_box_0 (f, g) (xs (nI (6 * k) + 1).toNatClampNeg) (xs (nI (6 * k) + 2).toNatClampNeg)) (Mt_G (Qn_Mt ok hM hC (q_box ok hM hC (xs (nI (6 * k) + 1).toNatClampNeg) (xs (nI (6 * k) + 2).toNatClampNeg)))) rfl rfl (Or.inr rfl) (fun o f1 e1 he => w_box f f1 g (xs (nI (6 * k) + 1).toNatClampNeg) (xs (nI (6 * k) + 2).toNatClampNeg) o e1 he)
  refine ⟨σ', r', fun kf => ?_⟩
  refine Eq.trans (e_law_422 Ls xs kf (f, g) (nI (6 * k))) ?_
  simp only [i1, i2, if_true, tn_6]
  exact h' (fun σ5 => kf 23 (lw_L (nI (6 * (k + 1)))) [] σ5) (fun σ5 => some (.inl (some (.int 0)), σ5))
theorem tn_bearer {Ls : Nat} {xs : Nat → Int32} {k : Nat} {σ : en_S} (hR : Rl σ) (hL : Ls ≤ 3072) (hk : 6 * k + 6 ≤ Ls) : Tn Ls xs k σ 490 := by
  obtain ⟨A, ok, hM, hC⟩ := hR
  obtain ⟨f, g⟩ := σ
  have i1 : en_in (nI (6 * k) + 1) Ls = True := tn_i hL hk (j := 1) (by omega)
  have i2 : en_in (nI (6 * k) + 2) Ls = True := tn_i hL hk (j := 2) (by omega)
  obtain ⟨σ', r', h'⟩ := tn_w (g := g) (x_lw_bearer_0 (f, g) (xs (nI (6 * k) + 1).toNatClampNeg) (xs (nI (6 * k) + 2).toNatClampNeg)) (Mt_G (Qn_Mt ok hM hC (q_bearer ok hM hC (xs (nI (6 * k) + 1).toNatClampNeg) (xs (nI (6 * k) + 2).toNatClampNeg)))) rfl rfl (Or.inr rfl) (fun o f1 e1 he => w_bearer f f1 g (xs (nI (6 * k) + 1).toNatClampNeg) (xs (nI (6 * k) + 2).toNatClampNeg) o e1 he)
  refine ⟨σ', r', fun kf => ?_⟩
  refine Eq.trans (e_law_490 Ls xs kf (f, g) (nI (6 * k))) ?_
  simp only [i1, i2, if_true, tn_6]
  exact h' (fun σ5 => kf 23 (lw_L (nI (6 * (k + 1)))) [] σ5) (fun σ5 => some (.inl (some (.int 0)), σ5))
theorem tn_days {Ls : Nat} {xs : Nat → Int32} {k : Nat} {σ : en_S} (hR : Rl σ) (hL : Ls ≤ 3072) (hk : 6 * k + 6 ≤ Ls) : Tn Ls xs k σ 558 := by
  obtain ⟨A, ok, hM, hC⟩ := hR
  obtain ⟨f, g⟩ := σ
  have i1 : en_in (nI (6 * k) + 1) Ls = True := tn_i hL hk (j := 1) (by omega)
  obtain ⟨σ', r', h'⟩ := tn_p (g := g) (q_days ok hM hC (xs (nI (6 * k) + 1).toNatClampNeg)) (nt_no1 (mi := 10007) (by decide +kernel) 0 [some (.ref 31), some (.int (xs (nI (6 * k) + 1).toNatClampNeg))] [] (f, g)) (nt_no2 (mi := 10007) (by decide +kernel) 0 [some (.ref 31), some (.int (xs (nI (6 * k) + 1).toNatClampNeg))] [] (f, g))
  refine ⟨σ', r', fun kf => ?_⟩
  refine Eq.trans (e_law_558 Ls xs kf (f, g) (nI (6 * k))) ?_
  simp only [i1, if_true, tn_6]
  exact h' (fun σ5 => kf 23 (lw_L (nI (6 * (k + 1)))) [] σ5) (fun σ5 => some (.inl (some (.int 0)), σ5))
theorem tn_hand {Ls : Nat} {xs : Nat → Int32} {k : Nat} {σ : en_S} (hR : Rl σ) (hL : Ls ≤ 3072) (hk : 6 * k + 6 ≤ Ls) : Tn Ls xs k σ 583 := by
  obtain ⟨A, ok, hM, hC⟩ := hR
  obtain ⟨f, g⟩ := σ
  have i1 : en_in (nI (6 * k) + 1) Ls = True := tn_i hL hk (j := 1) (by omega)
  have i2 : en_in (nI (6 * k) + 2) Ls = True := tn_i hL hk (j := 2) (by omega)
  obtain ⟨σ', r', h'⟩ := tn_w (g := g) (x_lw_hand_0 (f, g) (xs (nI (6 * k) + 1).toNatClampNeg) (xs (nI (6 * k) + 2).toNatClampNeg)) (Mt_G (q_hand ok hM hC (xs (nI (6 * k) + 1).toNatClampNeg) (xs (nI (6 * k) + 2).toNatClampNeg))) rfl rfl (Or.inr rfl) (fun o f1 e1 he => w_hand f f1 g (xs (nI (6 * k) + 1).toNatClampNeg) (xs (nI (6 * k) + 2).toNatClampNeg) o e1 he)
  refine ⟨σ', r', fun kf => ?_⟩
  refine Eq.trans (e_law_583 Ls xs kf (f, g) (nI (6 * k))) ?_
  simp only [i1, i2, if_true, tn_6]
  exact h' (fun σ5 => kf 23 (lw_L (nI (6 * (k + 1)))) [] σ5) (fun σ5 => some (.inl (some (.int 0)), σ5))
theorem tn_away {Ls : Nat} {xs : Nat → Int32} {k : Nat} {σ : en_S} (hR : Rl σ) (hL : Ls ≤ 3072) (hk : 6 * k + 6 ≤ Ls) : Tn Ls xs k σ 651 := by
  obtain ⟨A, ok, hM, hC⟩ := hR
  obtain ⟨f, g⟩ := σ
  have i1 : en_in (nI (6 * k) + 1) Ls = True := tn_i hL hk (j := 1) (by omega)
  obtain ⟨σ', r', h'⟩ := tn_w (g := g) (x_lw_away_0 (f, g) (xs (nI (6 * k) + 1).toNatClampNeg)) (Mt_G (q_away ok hM hC (xs (nI (6 * k) + 1).toNatClampNeg))) rfl rfl (Or.inr rfl) (fun o f1 e1 he => w_away f f1 g (xs (nI (6 * k) + 1).toNatClampNeg) o e1 he)
  refine ⟨σ', r', fun kf => ?_⟩
  refine Eq.trans (e_law_651 Ls xs kf (f, g) (nI (6 * k))) ?_
  simp only [i1, if_true, tn_6]
  exact h' (fun σ5 => kf 23 (lw_L (nI (6 * (k + 1)))) [] σ5) (fun σ5 => some (.inl (some (.int 0)), σ5))
theorem tn_change {Ls : Nat} {xs : Nat → Int32} {k : Nat} {σ : en_S} (hR : Rl σ) (hL : Ls ≤ 3072) (hk : 6 * k + 6 ≤ Ls) : Tn Ls xs k σ 707 := by
  obtain ⟨A, ok, hM, hC⟩ := hR
  obtain ⟨f, g⟩ := σ
  have i1 : en_in (nI (6 * k) + 1) Ls = True := tn_i hL hk (j := 1) (by omega)
  have i2 : en_in (nI (6 * k) + 2) Ls = True := tn_i hL hk (j := 2) (by omega)
  obtain ⟨σ', r', h'⟩ := tn_wB (g := g) (x_lw_change_0 (f, g) (xs (nI (6 * k) + 1).toNatClampNeg) (xs (nI (6 * k) + 2).toNatClampNeg)) (Mt_G (q_change ok hM hC (xs (nI (6 * k) + 1).toNatClampNeg) (xs (nI (6 * k) + 2).toNatClampNeg))) rfl rfl (Or.inr rfl) (fun w f1 e1 => Bv_change (f, g) (xs (nI (6 * k) + 1).toNatClampNeg) (xs (nI (6 * k) + 2).toNatClampNeg) w (f1, g) e1) (fun o f1 e1 he => w_change f f1 g (xs (nI (6 * k) + 1).toNatClampNeg) (xs (nI (6 * k) + 2).toNatClampNeg) o e1 he)
  refine ⟨σ', r', fun kf => ?_⟩
  refine Eq.trans (e_law_707 Ls xs kf (f, g) (nI (6 * k))) ?_
  simp only [i1, i2, if_true, tn_6]
  exact h' (fun σ5 => kf 23 (lw_L (nI (6 * (k + 1)))) [] σ5) (fun σ5 => some (.inl (some (.int 0)), σ5))
theorem tn_slander {Ls : Nat} {xs : Nat → Int32} {k : Nat} {σ : en_S} (hR : Rl σ) (hL : Ls ≤ 3072) (hk : 6 * k + 6 ≤ Ls) : Tn Ls xs k σ 782 := by
  obtain ⟨A, ok, hM, hC⟩ := hR
  obtain ⟨f, g⟩ := σ
  have i1 : en_in (nI (6 * k) + 1) Ls = True := tn_i hL hk (j := 1) (by omega)
  have i2 : en_in (nI (6 * k) + 2) Ls = True := tn_i hL hk (j := 2) (by omega)
  obtain ⟨σ', r', h'⟩ := tn_w (g := g) (x_lw_slander_0 (f, g) (xs (nI (6 * k) + 1).toNatClampNeg) (xs (nI (6 * k) + 2).toNatClampNeg)) (Mt_G (q_slander ok hM hC (xs (nI (6 * k) + 1).toNatClampNeg) (xs (nI (6 * k) + 2).toNatClampNeg))) rfl rfl (Or.inr rfl) (fun o f1 e1 he => w_slander f f1 g (xs (nI (6 * k) + 1).toNatClampNeg) (xs (nI (6 * k) + 2).toNatClampNeg) o e1 he)
  refine ⟨σ', r', fun kf => ?_⟩
  refine Eq.trans (e_law_782 Ls xs kf (f, g) (nI (6 * k))) ?_
  simp only [i1, i2, if_true, tn_6]
  exact h' (fun σ5 => kf 23 (lw_L (nI (6 * (k + 1)))) [] σ5) (fun σ5 => some (.inl (some (.int 0)), σ5))
theorem tn_praise {Ls : Nat} {xs : Nat → Int32} {k : Nat} {σ : en_S} (hR : Rl σ) (hL : Ls ≤ 3072) (hk : 6 * k + 6 ≤ Ls) : Tn Ls xs k σ 850 := by
  obtain ⟨A, ok, hM, hC⟩ := hR
  obtain ⟨f, g⟩ := σ
  have i1 : en_in (nI (6 * k) + 1) Ls = True := tn_i hL hk (j := 1) (by omega)
  have i2 : en_in (nI (6 * k) + 2) Ls = True := tn_i hL hk (j := 2) (by omega)
  obtain ⟨σ', r', h'⟩ := tn_w (g := g) (x_lw_praise_0 (f, g) (xs (nI (6 * k) + 1).toNatClampNeg) (xs (nI (6 * k) + 2).toNatClampNeg)) (Mt_G (q_praise ok hM hC (xs (nI (6 * k) + 1).toNatClampNeg) (xs (nI (6 * k) + 2).toNatClampNeg))) rfl rfl (Or.inr rfl) (fun o f1 e1 he => w_praise f f1 g (xs (nI (6 * k) + 1).toNatClampNeg) (xs (nI (6 * k) + 2).toNatClampNeg) o e1 he)
  refine ⟨σ', r', fun kf => ?_⟩
  refine Eq.trans (e_law_850 Ls xs kf (f, g) (nI (6 * k))) ?_
  simp only [i1, i2, if_true, tn_6]
  exact h' (fun σ5 => kf 23 (lw_L (nI (6 * (k + 1)))) [] σ5) (fun σ5 => some (.inl (some (.int 0)), σ5))
theorem tn_undo {Ls : Nat} {xs : Nat → Int32} {k : Nat} {σ : en_S} (hR : Rl σ) (hL : Ls ≤ 3072) (hk : 6 * k + 6 ≤ Ls) : Tn Ls xs k σ 918 := by
  obtain ⟨A, ok, hM, hC⟩ := hR
  obtain ⟨f, g⟩ := σ
  obtain ⟨σ', r', h'⟩ := tn_p (g := g) (q_undo ok hM hC) (nt_no1 (mi := 10013) (by decide +kernel) 0 [some (.ref 31)] [] (f, g)) (nt_no2 (mi := 10013) (by decide +kernel) 0 [some (.ref 31)] [] (f, g))
  refine ⟨σ', r', fun kf => ?_⟩
  refine Eq.trans (e_law_918 Ls xs kf (f, g) (nI (6 * k))) ?_
  simp only [tn_6]
  exact h' (fun σ5 => kf 23 (lw_L (nI (6 * (k + 1)))) [] σ5) (fun σ5 => some (.inl (some (.int 0)), σ5))
theorem tn_then {Ls : Nat} {xs : Nat → Int32} {k : Nat} {σ : en_S} (hR : Rl σ) (hL : Ls ≤ 3072) (hk : 6 * k + 6 ≤ Ls) : Tn Ls xs k σ 931 := by
  obtain ⟨A, ok, hM, hC⟩ := hR
  obtain ⟨f, g⟩ := σ
  have i1 : en_in (nI (6 * k) + 1) Ls = True := tn_i hL hk (j := 1) (by omega)
  have i2 : en_in (nI (6 * k) + 2) Ls = True := tn_i hL hk (j := 2) (by omega)
  have i3 : en_in (nI (6 * k) + 3) Ls = True := tn_i hL hk (j := 3) (by omega)
  obtain ⟨σ', r', h'⟩ := tn_w (g := g) (x_lw_then_0 (f, g) (xs (nI (6 * k) + 1).toNatClampNeg) (xs (nI (6 * k) + 2).toNatClampNeg) (xs (nI (6 * k) + 3).toNatClampNeg)) (Mt_G (Qn_Mt ok hM hC (q_then ok hM hC (xs (nI (6 * k) + 1).toNatClampNeg) (xs (nI (6 * k) + 2).toNatClampNeg) (xs (nI (6 * k) + 3).toNatClampNeg)))) rfl rfl (Or.inr rfl) (fun o f1 e1 he => w_then f f1 g (xs (nI (6 * k) + 1).toNatClampNeg) (xs (nI (6 * k) + 2).toNatClampNeg) (xs (nI (6 * k) + 3).toNatClampNeg) o e1 he)
  refine ⟨σ', r', fun kf => ?_⟩
  refine Eq.trans (e_law_931 Ls xs kf (f, g) (nI (6 * k))) ?_
  simp only [i1, i2, i3, if_true, tn_6]
  exact h' (fun σ5 => kf 23 (lw_L (nI (6 * (k + 1)))) [] σ5) (fun σ5 => some (.inl (some (.int 0)), σ5))
theorem tn_who {Ls : Nat} {xs : Nat → Int32} {k : Nat} {σ : en_S} (hR : Rl σ) (hL : Ls ≤ 3072) (hk : 6 * k + 6 ≤ Ls) : Tn Ls xs k σ 1011 := by
  obtain ⟨A, ok, hM, hC⟩ := hR
  obtain ⟨f, g⟩ := σ
  have i1 : en_in (nI (6 * k) + 1) Ls = True := tn_i hL hk (j := 1) (by omega)
  have i2 : en_in (nI (6 * k) + 2) Ls = True := tn_i hL hk (j := 2) (by omega)
  have i3 : en_in (nI (6 * k) + 3) Ls = True := tn_i hL hk (j := 3) (by omega)
  obtain ⟨σ', r', h'⟩ := tn_w (g := g) (x_lw_who_0 (f, g) (xs (nI (6 * k) + 1).toNatClampNeg) (xs (nI (6 * k) + 2).toNatClampNeg) (xs (nI (6 * k) + 3).toNatClampNeg)) (Mt_G (Qn_Mt ok hM hC (q_who ok hM hC (xs (nI (6 * k) + 1).toNatClampNeg) (xs (nI (6 * k) + 2).toNatClampNeg) (xs (nI (6 * k) + 3).toNatClampNeg)))) rfl rfl (Or.inr rfl) (fun o f1 e1 he => w_who f f1 g (xs (nI (6 * k) + 1).toNatClampNeg) (xs (nI (6 * k) + 2).toNatClampNeg) (xs (nI (6 * k) + 3).toNatClampNeg) o e1 he)
  refine ⟨σ', r', fun kf => ?_⟩
  refine Eq.trans (e_law_1011 Ls xs kf (f, g) (nI (6 * k))) ?_
  simp only [i1, i2, i3, if_true, tn_6]
  exact h' (fun σ5 => kf 23 (lw_L (nI (6 * (k + 1)))) [] σ5) (fun σ5 => some (.inl (some (.int 0)), σ5))
theorem tn_fallen {Ls : Nat} {xs : Nat → Int32} {k : Nat} {σ : en_S} (hR : Rl σ) (hL : Ls ≤ 3072) (hk : 6 * k + 6 ≤ Ls) : Tn Ls xs k σ 1091 := by
  obtain ⟨A, ok, hM, hC⟩ := hR
  obtain ⟨f, g⟩ := σ
  have i1 : en_in (nI (6 * k) + 1) Ls = True := tn_i hL hk (j := 1) (by omega)
  obtain ⟨σ', r', h'⟩ := tn_w (g := g) (x_lw_fallen_0 (f, g) (xs (nI (6 * k) + 1).toNatClampNeg)) (Mt_G (Qn_Mt ok hM hC (q_fallen ok hM hC (xs (nI (6 * k) + 1).toNatClampNeg)))) rfl rfl (Or.inr rfl) (fun o f1 e1 he => w_fallen f f1 g (xs (nI (6 * k) + 1).toNatClampNeg) o e1 he)
  refine ⟨σ', r', fun kf => ?_⟩
  refine Eq.trans (e_law_1091 Ls xs kf (f, g) (nI (6 * k))) ?_
  simp only [i1, if_true, tn_6]
  exact h' (fun σ5 => kf 23 (lw_L (nI (6 * (k + 1)))) [] σ5) (fun σ5 => some (.inl (some (.int 0)), σ5))
theorem tn_rests {Ls : Nat} {xs : Nat → Int32} {k : Nat} {σ : en_S} (hR : Rl σ) (hL : Ls ≤ 3072) (hk : 6 * k + 6 ≤ Ls) : Tn Ls xs k σ 1147 := by
  obtain ⟨A, ok, hM, hC⟩ := hR
  obtain ⟨f, g⟩ := σ
  have i1 : en_in (nI (6 * k) + 1) Ls = True := tn_i hL hk (j := 1) (by omega)
  obtain ⟨σ', r', h'⟩ := tn_w (g := g) (x_lw_rests_0 (f, g) (xs (nI (6 * k) + 1).toNatClampNeg)) (Mt_G (Qn_Mt ok hM hC (q_rests ok hM hC (xs (nI (6 * k) + 1).toNatClampNeg)))) rfl rfl (Or.inr rfl) (fun o f1 e1 he => w_rests f f1 g (xs (nI (6 * k) + 1).toNatClampNeg) o e1 he)
  refine ⟨σ', r', fun kf => ?_⟩
  refine Eq.trans (e_law_1147 Ls xs kf (f, g) (nI (6 * k))) ?_
  simp only [i1, if_true, tn_6]
  exact h' (fun σ5 => kf 23 (lw_L (nI (6 * (k + 1)))) [] σ5) (fun σ5 => some (.inl (some (.int 0)), σ5))
theorem tn_meet {Ls : Nat} {xs : Nat → Int32} {k : Nat} {σ : en_S} (hR : Rl σ) (hL : Ls ≤ 3072) (hk : 6 * k + 6 ≤ Ls) : Tn Ls xs k σ 1203 := by
  obtain ⟨A, ok, hM, hC⟩ := hR
  obtain ⟨f, g⟩ := σ
  have i1 : en_in (nI (6 * k) + 1) Ls = True := tn_i hL hk (j := 1) (by omega)
  have i2 : en_in (nI (6 * k) + 2) Ls = True := tn_i hL hk (j := 2) (by omega)
  obtain ⟨σ', r', h'⟩ := tn_w (g := g) (x_lw_meet_0 (f, g) (xs (nI (6 * k) + 1).toNatClampNeg) (xs (nI (6 * k) + 2).toNatClampNeg)) (Mt_G (Qn_Mt ok hM hC (q_meet ok hM hC (xs (nI (6 * k) + 1).toNatClampNeg) (xs (nI (6 * k) + 2).toNatClampNeg)))) rfl rfl (Or.inr rfl) (fun o f1 e1 he => w_meet f f1 g (xs (nI (6 * k) + 1).toNatClampNeg) (xs (nI (6 * k) + 2).toNatClampNeg) o e1 he)
  refine ⟨σ', r', fun kf => ?_⟩
  refine Eq.trans (e_law_1203 Ls xs kf (f, g) (nI (6 * k))) ?_
  simp only [i1, i2, if_true, tn_6]
  exact h' (fun σ5 => kf 23 (lw_L (nI (6 * (k + 1)))) [] σ5) (fun σ5 => some (.inl (some (.int 0)), σ5))
theorem tn_later {Ls : Nat} {xs : Nat → Int32} {k : Nat} {σ : en_S} (hR : Rl σ) (hL : Ls ≤ 3072) (hk : 6 * k + 6 ≤ Ls) : Tn Ls xs k σ 1271 := by
  obtain ⟨A, ok, hM, hC⟩ := hR
  obtain ⟨f, g⟩ := σ
  have i1 : en_in (nI (6 * k) + 1) Ls = True := tn_i hL hk (j := 1) (by omega)
  have i2 : en_in (nI (6 * k) + 2) Ls = True := tn_i hL hk (j := 2) (by omega)
  obtain ⟨σ', r', h'⟩ := tn_w (g := g) (x_lw_later_0 (f, g) (xs (nI (6 * k) + 1).toNatClampNeg) (xs (nI (6 * k) + 2).toNatClampNeg)) (Mt_G (Qn_Mt ok hM hC (q_later ok hM hC (xs (nI (6 * k) + 1).toNatClampNeg) (xs (nI (6 * k) + 2).toNatClampNeg)))) rfl rfl (Or.inr rfl) (fun o f1 e1 he => w_later f f1 g (xs (nI (6 * k) + 1).toNatClampNeg) (xs (nI (6 * k) + 2).toNatClampNeg) o e1 he)
  refine ⟨σ', r', fun kf => ?_⟩
  refine Eq.trans (e_law_1271 Ls xs kf (f, g) (nI (6 * k))) ?_
  simp only [i1, i2, if_true, tn_6]
  exact h' (fun σ5 => kf 23 (lw_L (nI (6 * (k + 1)))) [] σ5) (fun σ5 => some (.inl (some (.int 0)), σ5))
theorem tn_calls {Ls : Nat} {xs : Nat → Int32} {k : Nat} {σ : en_S} (hR : Rl σ) (hL : Ls ≤ 3072) (hk : 6 * k + 6 ≤ Ls) : Tn Ls xs k σ 1339 := by
  obtain ⟨A, ok, hM, hC⟩ := hR
  obtain ⟨f, g⟩ := σ
  have i1 : en_in (nI (6 * k) + 1) Ls = True := tn_i hL hk (j := 1) (by omega)
  have i2 : en_in (nI (6 * k) + 2) Ls = True := tn_i hL hk (j := 2) (by omega)
  obtain ⟨σ', r', h'⟩ := tn_w (g := g) (x_lw_calls_0 (f, g) (xs (nI (6 * k) + 1).toNatClampNeg) (xs (nI (6 * k) + 2).toNatClampNeg)) (Mt_G (Qn_Mt ok hM hC (q_calls ok hM hC (xs (nI (6 * k) + 1).toNatClampNeg) (xs (nI (6 * k) + 2).toNatClampNeg)))) rfl rfl (Or.inr rfl) (fun o f1 e1 he => w_calls f f1 g (xs (nI (6 * k) + 1).toNatClampNeg) (xs (nI (6 * k) + 2).toNatClampNeg) o e1 he)
  refine ⟨σ', r', fun kf => ?_⟩
  refine Eq.trans (e_law_1339 Ls xs kf (f, g) (nI (6 * k))) ?_
  simp only [i1, i2, if_true, tn_6]
  exact h' (fun σ5 => kf 23 (lw_L (nI (6 * (k + 1)))) [] σ5) (fun σ5 => some (.inl (some (.int 0)), σ5))
theorem tn_toBear {Ls : Nat} {xs : Nat → Int32} {k : Nat} {σ : en_S} (hR : Rl σ) (hL : Ls ≤ 3072) (hk : 6 * k + 6 ≤ Ls) : Tn Ls xs k σ 1407 := by
  obtain ⟨A, ok, hM, hC⟩ := hR
  obtain ⟨f, g⟩ := σ
  have i1 : en_in (nI (6 * k) + 1) Ls = True := tn_i hL hk (j := 1) (by omega)
  obtain ⟨σ', r', h'⟩ := tn_w (g := g) (x_lw_toBear_0 (f, g) (xs (nI (6 * k) + 1).toNatClampNeg)) (Mt_G (Qn_Mt ok hM hC (q_toBear ok hM hC (xs (nI (6 * k) + 1).toNatClampNeg)))) rfl rfl (Or.inr rfl) (fun o f1 e1 he => w_toBear f f1 g (xs (nI (6 * k) + 1).toNatClampNeg) o e1 he)
  refine ⟨σ', r', fun kf => ?_⟩
  refine Eq.trans (e_law_1407 Ls xs kf (f, g) (nI (6 * k))) ?_
  simp only [i1, if_true, tn_6]
  exact h' (fun σ5 => kf 23 (lw_L (nI (6 * (k + 1)))) [] σ5) (fun σ5 => some (.inl (some (.int 0)), σ5))
theorem tn_crew {Ls : Nat} {xs : Nat → Int32} {k : Nat} {σ : en_S} (hR : Rl σ) (hL : Ls ≤ 3072) (hk : 6 * k + 6 ≤ Ls) : Tn Ls xs k σ 1463 := by
  obtain ⟨A, ok, hM, hC⟩ := hR
  obtain ⟨f, g⟩ := σ
  have i1 : en_in (nI (6 * k) + 1) Ls = True := tn_i hL hk (j := 1) (by omega)
  obtain ⟨σ', r', h'⟩ := tn_w (g := g) (x_lw_crew_0 (f, g) (xs (nI (6 * k) + 1).toNatClampNeg)) (Mt_G (Qn_Mt ok hM hC (q_crew ok hM hC (xs (nI (6 * k) + 1).toNatClampNeg)))) rfl rfl (Or.inr rfl) (fun o f1 e1 he => w_crew f f1 g (xs (nI (6 * k) + 1).toNatClampNeg) o e1 he)
  refine ⟨σ', r', fun kf => ?_⟩
  refine Eq.trans (e_law_1463 Ls xs kf (f, g) (nI (6 * k))) ?_
  simp only [i1, if_true, tn_6]
  exact h' (fun σ5 => kf 23 (lw_L (nI (6 * (k + 1)))) [] σ5) (fun σ5 => some (.inl (some (.int 0)), σ5))
theorem tn_toSlander {Ls : Nat} {xs : Nat → Int32} {k : Nat} {σ : en_S} (hR : Rl σ) (hL : Ls ≤ 3072) (hk : 6 * k + 6 ≤ Ls) : Tn Ls xs k σ 1519 := by
  obtain ⟨A, ok, hM, hC⟩ := hR
  obtain ⟨f, g⟩ := σ
  have i1 : en_in (nI (6 * k) + 1) Ls = True := tn_i hL hk (j := 1) (by omega)
  obtain ⟨σ', r', h'⟩ := tn_w (g := g) (x_lw_toSlander_0 (f, g) (xs (nI (6 * k) + 1).toNatClampNeg)) (Mt_G (Qn_Mt ok hM hC (q_toSlander ok hM hC (xs (nI (6 * k) + 1).toNatClampNeg)))) rfl rfl (Or.inr rfl) (fun o f1 e1 he => w_toSlander f f1 g (xs (nI (6 * k) + 1).toNatClampNeg) o e1 he)
  refine ⟨σ', r', fun kf => ?_⟩
  refine Eq.trans (e_law_1519 Ls xs kf (f, g) (nI (6 * k))) ?_
  simp only [i1, if_true, tn_6]
  exact h' (fun σ5 => kf 23 (lw_L (nI (6 * (k + 1)))) [] σ5) (fun σ5 => some (.inl (some (.int 0)), σ5))
theorem tn_toWait {Ls : Nat} {xs : Nat → Int32} {k : Nat} {σ : en_S} (hR : Rl σ) (hL : Ls ≤ 3072) (hk : 6 * k + 6 ≤ Ls) : Tn Ls xs k σ 1575 := by
  obtain ⟨A, ok, hM, hC⟩ := hR
  obtain ⟨f, g⟩ := σ
  have i1 : en_in (nI (6 * k) + 1) Ls = True := tn_i hL hk (j := 1) (by omega)
  obtain ⟨σ', r', h'⟩ := tn_w (g := g) (x_lw_toWait_0 (f, g) (xs (nI (6 * k) + 1).toNatClampNeg)) (Mt_G (Qn_Mt ok hM hC (q_toWait ok hM hC (xs (nI (6 * k) + 1).toNatClampNeg)))) rfl rfl (Or.inr rfl) (fun o f1 e1 he => w_toWait f f1 g (xs (nI (6 * k) + 1).toNatClampNeg) o e1 he)
  refine ⟨σ', r', fun kf => ?_⟩
  refine Eq.trans (e_law_1575 Ls xs kf (f, g) (nI (6 * k))) ?_
  simp only [i1, if_true, tn_6]
  exact h' (fun σ5 => kf 23 (lw_L (nI (6 * (k + 1)))) [] σ5) (fun σ5 => some (.inl (some (.int 0)), σ5))
theorem tn_way {Ls : Nat} {xs : Nat → Int32} {k : Nat} {σ : en_S} (hR : Rl σ) (hL : Ls ≤ 3072) (hk : 6 * k + 6 ≤ Ls) : Tn Ls xs k σ 1631 := by
  obtain ⟨A, ok, hM, hC⟩ := hR
  obtain ⟨f, g⟩ := σ
  have i1 : en_in (nI (6 * k) + 1) Ls = True := tn_i hL hk (j := 1) (by omega)
  have i2 : en_in (nI (6 * k) + 2) Ls = True := tn_i hL hk (j := 2) (by omega)
  have i3 : en_in (nI (6 * k) + 3) Ls = True := tn_i hL hk (j := 3) (by omega)
  obtain ⟨σ', r', h'⟩ := tn_w (g := g) (x_lw_way_0 (f, g) (xs (nI (6 * k) + 1).toNatClampNeg) (xs (nI (6 * k) + 2).toNatClampNeg) (xs (nI (6 * k) + 3).toNatClampNeg)) (Mt_G (Qn_Mt ok hM hC (q_way ok hM hC (xs (nI (6 * k) + 1).toNatClampNeg) (xs (nI (6 * k) + 2).toNatClampNeg) (xs (nI (6 * k) + 3).toNatClampNeg)))) rfl rfl (Or.inr rfl) (fun o f1 e1 he => w_way f f1 g (xs (nI (6 * k) + 1).toNatClampNeg) (xs (nI (6 * k) + 2).toNatClampNeg) (xs (nI (6 * k) + 3).toNatClampNeg) o e1 he)
  refine ⟨σ', r', fun kf => ?_⟩
  refine Eq.trans (e_law_1631 Ls xs kf (f, g) (nI (6 * k))) ?_
  simp only [i1, i2, i3, if_true, tn_6]
  exact h' (fun σ5 => kf 23 (lw_L (nI (6 * (k + 1)))) [] σ5) (fun σ5 => some (.inl (some (.int 0)), σ5))
theorem tn_see {Ls : Nat} {xs : Nat → Int32} {k : Nat} {σ : en_S} (hR : Rl σ) (hL : Ls ≤ 3072) (hk : 6 * k + 6 ≤ Ls) : Tn Ls xs k σ 1711 := by
  obtain ⟨A, ok, hM, hC⟩ := hR
  obtain ⟨f, g⟩ := σ
  have i1 : en_in (nI (6 * k) + 1) Ls = True := tn_i hL hk (j := 1) (by omega)
  have i2 : en_in (nI (6 * k) + 2) Ls = True := tn_i hL hk (j := 2) (by omega)
  have i3 : en_in (nI (6 * k) + 3) Ls = True := tn_i hL hk (j := 3) (by omega)
  obtain ⟨σ', r', h'⟩ := tn_w (g := g) (x_lw_see_0 (f, g) (xs (nI (6 * k) + 1).toNatClampNeg) (xs (nI (6 * k) + 2).toNatClampNeg) (xs (nI (6 * k) + 3).toNatClampNeg)) (Mt_G (q_see ok hM hC (xs (nI (6 * k) + 1).toNatClampNeg) (xs (nI (6 * k) + 2).toNatClampNeg) (xs (nI (6 * k) + 3).toNatClampNeg))) rfl rfl (Or.inr rfl) (fun o f1 e1 he => w_see f f1 g (xs (nI (6 * k) + 1).toNatClampNeg) (xs (nI (6 * k) + 2).toNatClampNeg) (xs (nI (6 * k) + 3).toNatClampNeg) o e1 he)
  refine ⟨σ', r', fun kf => ?_⟩
  refine Eq.trans (e_law_1711 Ls xs kf (f, g) (nI (6 * k))) ?_
  simp only [i1, i2, i3, if_true, tn_6]
  exact h' (fun σ5 => kf 23 (lw_L (nI (6 * (k + 1)))) [] σ5) (fun σ5 => some (.inl (some (.int 0)), σ5))
theorem tn_forget {Ls : Nat} {xs : Nat → Int32} {k : Nat} {σ : en_S} (hR : Rl σ) (hL : Ls ≤ 3072) (hk : 6 * k + 6 ≤ Ls) : Tn Ls xs k σ 1791 := by
  obtain ⟨A, ok, hM, hC⟩ := hR
  obtain ⟨f, g⟩ := σ
  obtain ⟨σ', r', h'⟩ := tn_v (g := g) (q_forget ok hM hC)
  refine ⟨σ', r', fun kf => ?_⟩
  refine Eq.trans (e_law_1791 Ls xs kf (f, g) (nI (6 * k))) ?_
  simp only [tn_6]
  exact h' (fun σ5 => kf 23 (lw_L (nI (6 * (k + 1)))) [] σ5)
theorem tn_weighed {Ls : Nat} {xs : Nat → Int32} {k : Nat} {σ : en_S} (hR : Rl σ) (hL : Ls ≤ 3072) (hk : 6 * k + 6 ≤ Ls) : Tn Ls xs k σ 1802 := by
  obtain ⟨A, ok, hM, hC⟩ := hR
  obtain ⟨f, g⟩ := σ
  have i1 : en_in (nI (6 * k) + 1) Ls = True := tn_i hL hk (j := 1) (by omega)
  obtain ⟨σ', r', h'⟩ := tn_w (g := g) (x_lw_weighed_0 (f, g) (xs (nI (6 * k) + 1).toNatClampNeg)) (Mt_G (Qn_Mt ok hM hC (q_weighed ok hM hC (xs (nI (6 * k) + 1).toNatClampNeg)))) rfl rfl (Or.inr rfl) (fun o f1 e1 he => w_weighed f f1 g (xs (nI (6 * k) + 1).toNatClampNeg) o e1 he)
  refine ⟨σ', r', fun kf => ?_⟩
  refine Eq.trans (e_law_1802 Ls xs kf (f, g) (nI (6 * k))) ?_
  simp only [i1, if_true, tn_6]
  exact h' (fun σ5 => kf 23 (lw_L (nI (6 * (k + 1)))) [] σ5) (fun σ5 => some (.inl (some (.int 0)), σ5))
theorem tn_look {Ls : Nat} {xs : Nat → Int32} {k : Nat} {σ : en_S} (hR : Rl σ) (hL : Ls ≤ 3072) (hk : 6 * k + 6 ≤ Ls) : Tn Ls xs k σ 1858 := by
  obtain ⟨A, ok, hM, hC⟩ := hR
  obtain ⟨f, g⟩ := σ
  have i1 : en_in (nI (6 * k) + 1) Ls = True := tn_i hL hk (j := 1) (by omega)
  obtain ⟨σ', r', h'⟩ := tn_w (g := g) (x_lw_look_0 (f, g) (xs (nI (6 * k) + 1).toNatClampNeg)) (Mt_G (Qn_Mt ok hM hC (q_look ok hM hC (xs (nI (6 * k) + 1).toNatClampNeg)))) rfl rfl (Or.inr rfl) (fun o f1 e1 he => w_look f f1 g (xs (nI (6 * k) + 1).toNatClampNeg) o e1 he)
  refine ⟨σ', r', fun kf => ?_⟩
  refine Eq.trans (e_law_1858 Ls xs kf (f, g) (nI (6 * k))) ?_
  simp only [i1, if_true, tn_6]
  exact h' (fun σ5 => kf 23 (lw_L (nI (6 * (k + 1)))) [] σ5) (fun σ5 => some (.inl (some (.int 0)), σ5))
theorem tn_rain {Ls : Nat} {xs : Nat → Int32} {k : Nat} {σ : en_S} (hR : Rl σ) (hL : Ls ≤ 3072) (hk : 6 * k + 6 ≤ Ls) : Tn Ls xs k σ 1914 := by
  obtain ⟨A, ok, hM, hC⟩ := hR
  obtain ⟨f, g⟩ := σ
  have i1 : en_in (nI (6 * k) + 1) Ls = True := tn_i hL hk (j := 1) (by omega)
  have i2 : en_in (nI (6 * k) + 2) Ls = True := tn_i hL hk (j := 2) (by omega)
  have i3 : en_in (nI (6 * k) + 3) Ls = True := tn_i hL hk (j := 3) (by omega)
  obtain ⟨σ', r', h'⟩ := tn_w (g := g) (x_lw_rain_0 (f, g) (xs (nI (6 * k) + 1).toNatClampNeg) (xs (nI (6 * k) + 2).toNatClampNeg) (xs (nI (6 * k) + 3).toNatClampNeg)) (Mt_G (Qn_Mt ok hM hC (q_rain ok hM hC (xs (nI (6 * k) + 1).toNatClampNeg) (xs (nI (6 * k) + 2).toNatClampNeg) (xs (nI (6 * k) + 3).toNatClampNeg)))) rfl rfl (Or.inr rfl) (fun o f1 e1 he => w_rain f f1 g (xs (nI (6 * k) + 1).toNatClampNeg) (xs (nI (6 * k) + 2).toNatClampNeg) (xs (nI (6 * k) + 3).toNatClampNeg) o e1 he)
  refine ⟨σ', r', fun kf => ?_⟩
  refine Eq.trans (e_law_1914 Ls xs kf (f, g) (nI (6 * k))) ?_
  simp only [i1, i2, i3, if_true, tn_6]
  exact h' (fun σ5 => kf 23 (lw_L (nI (6 * (k + 1)))) [] σ5) (fun σ5 => some (.inl (some (.int 0)), σ5))
theorem tn_game {Ls : Nat} {xs : Nat → Int32} {k : Nat} {σ : en_S} (hR : Rl σ) (hL : Ls ≤ 3072) (hk : 6 * k + 6 ≤ Ls) : Tn Ls xs k σ 1994 := by
  obtain ⟨A, ok, hM, hC⟩ := hR
  obtain ⟨f, g⟩ := σ
  have i1 : en_in (nI (6 * k) + 1) Ls = True := tn_i hL hk (j := 1) (by omega)
  have i2 : en_in (nI (6 * k) + 2) Ls = True := tn_i hL hk (j := 2) (by omega)
  have i3 : en_in (nI (6 * k) + 3) Ls = True := tn_i hL hk (j := 3) (by omega)
  obtain ⟨σ', r', h'⟩ := tn_w (g := g) (x_lw_game_0 (f, g) (xs (nI (6 * k) + 1).toNatClampNeg) (xs (nI (6 * k) + 2).toNatClampNeg) (xs (nI (6 * k) + 3).toNatClampNeg)) (Mt_G (Qn_Mt ok hM hC (q_game ok hM hC (xs (nI (6 * k) + 1).toNatClampNeg) (xs (nI (6 * k) + 2).toNatClampNeg) (xs (nI (6 * k) + 3).toNatClampNeg)))) rfl rfl (Or.inr rfl) (fun o f1 e1 he => w_game f f1 g (xs (nI (6 * k) + 1).toNatClampNeg) (xs (nI (6 * k) + 2).toNatClampNeg) (xs (nI (6 * k) + 3).toNatClampNeg) o e1 he)
  refine ⟨σ', r', fun kf => ?_⟩
  refine Eq.trans (e_law_1994 Ls xs kf (f, g) (nI (6 * k))) ?_
  simp only [i1, i2, i3, if_true, tn_6]
  exact h' (fun σ5 => kf 23 (lw_L (nI (6 * (k + 1)))) [] σ5) (fun σ5 => some (.inl (some (.int 0)), σ5))
theorem tn_years {Ls : Nat} {xs : Nat → Int32} {k : Nat} {σ : en_S} (hR : Rl σ) (hL : Ls ≤ 3072) (hk : 6 * k + 6 ≤ Ls) : Tn Ls xs k σ 2074 := by
  obtain ⟨A, ok, hM, hC⟩ := hR
  obtain ⟨f, g⟩ := σ
  have i1 : en_in (nI (6 * k) + 1) Ls = True := tn_i hL hk (j := 1) (by omega)
  have i2 : en_in (nI (6 * k) + 2) Ls = True := tn_i hL hk (j := 2) (by omega)
  have i3 : en_in (nI (6 * k) + 3) Ls = True := tn_i hL hk (j := 3) (by omega)
  obtain ⟨σ', r', h'⟩ := tn_w (g := g) (x_lw_years_0 (f, g) (xs (nI (6 * k) + 1).toNatClampNeg) (xs (nI (6 * k) + 2).toNatClampNeg) (xs (nI (6 * k) + 3).toNatClampNeg)) (Mt_G (Qn_Mt ok hM hC (q_years ok hM hC (xs (nI (6 * k) + 1).toNatClampNeg) (xs (nI (6 * k) + 2).toNatClampNeg) (xs (nI (6 * k) + 3).toNatClampNeg)))) rfl rfl (Or.inr rfl) (fun o f1 e1 he => w_years f f1 g (xs (nI (6 * k) + 1).toNatClampNeg) (xs (nI (6 * k) + 2).toNatClampNeg) (xs (nI (6 * k) + 3).toNatClampNeg) o e1 he)
  refine ⟨σ', r', fun kf => ?_⟩
  refine Eq.trans (e_law_2074 Ls xs kf (f, g) (nI (6 * k))) ?_
  simp only [i1, i2, i3, if_true, tn_6]
  exact h' (fun σ5 => kf 23 (lw_L (nI (6 * (k + 1)))) [] σ5) (fun σ5 => some (.inl (some (.int 0)), σ5))
theorem tn_idle {Ls : Nat} {xs : Nat → Int32} {k : Nat} {σ : en_S} (hR : Rl σ) (hL : Ls ≤ 3072) (hk : 6 * k + 6 ≤ Ls) : Tn Ls xs k σ 2154 := by
  obtain ⟨A, ok, hM, hC⟩ := hR
  obtain ⟨f, g⟩ := σ
  have i1 : en_in (nI (6 * k) + 1) Ls = True := tn_i hL hk (j := 1) (by omega)
  obtain ⟨σ', r', h'⟩ := tn_w (g := g) (x_lw_idle_0 (f, g) (xs (nI (6 * k) + 1).toNatClampNeg)) (Mt_G (Qn_Mt ok hM hC (q_idle ok hM hC (xs (nI (6 * k) + 1).toNatClampNeg)))) rfl rfl (Or.inr rfl) (fun o f1 e1 he => w_idle f f1 g (xs (nI (6 * k) + 1).toNatClampNeg) o e1 he)
  refine ⟨σ', r', fun kf => ?_⟩
  refine Eq.trans (e_law_2154 Ls xs kf (f, g) (nI (6 * k))) ?_
  simp only [i1, if_true, tn_6]
  exact h' (fun σ5 => kf 23 (lw_L (nI (6 * (k + 1)))) [] σ5) (fun σ5 => some (.inl (some (.int 0)), σ5))
theorem tn_nearest {Ls : Nat} {xs : Nat → Int32} {k : Nat} {σ : en_S} (hR : Rl σ) (hL : Ls ≤ 3072) (hk : 6 * k + 6 ≤ Ls) : Tn Ls xs k σ 2210 := by
  obtain ⟨A, ok, hM, hC⟩ := hR
  obtain ⟨f, g⟩ := σ
  have i1 : en_in (nI (6 * k) + 1) Ls = True := tn_i hL hk (j := 1) (by omega)
  obtain ⟨σ', r', h'⟩ := tn_w (g := g) (x_lw_nearest_0 (f, g) (xs (nI (6 * k) + 1).toNatClampNeg)) (Mt_G (Qn_Mt ok hM hC (q_nearest ok hM hC (xs (nI (6 * k) + 1).toNatClampNeg)))) rfl rfl (Or.inr rfl) (fun o f1 e1 he => w_nearest f f1 g (xs (nI (6 * k) + 1).toNatClampNeg) o e1 he)
  refine ⟨σ', r', fun kf => ?_⟩
  refine Eq.trans (e_law_2210 Ls xs kf (f, g) (nI (6 * k))) ?_
  simp only [i1, if_true, tn_6]
  exact h' (fun σ5 => kf 23 (lw_L (nI (6 * (k + 1)))) [] σ5) (fun σ5 => some (.inl (some (.int 0)), σ5))
theorem tn_ahead {Ls : Nat} {xs : Nat → Int32} {k : Nat} {σ : en_S} (hR : Rl σ) (hL : Ls ≤ 3072) (hk : 6 * k + 6 ≤ Ls) : Tn Ls xs k σ 2266 := by
  obtain ⟨A, ok, hM, hC⟩ := hR
  obtain ⟨f, g⟩ := σ
  have i1 : en_in (nI (6 * k) + 1) Ls = True := tn_i hL hk (j := 1) (by omega)
  have i2 : en_in (nI (6 * k) + 2) Ls = True := tn_i hL hk (j := 2) (by omega)
  obtain ⟨σ', r', h'⟩ := tn_w (g := g) (x_lw_ahead_0 (f, g) (xs (nI (6 * k) + 1).toNatClampNeg) (xs (nI (6 * k) + 2).toNatClampNeg)) (Mt_G (Qn_Mt ok hM hC (q_ahead ok hM hC (xs (nI (6 * k) + 1).toNatClampNeg) (xs (nI (6 * k) + 2).toNatClampNeg)))) rfl rfl (Or.inr rfl) (fun o f1 e1 he => w_ahead f f1 g (xs (nI (6 * k) + 1).toNatClampNeg) (xs (nI (6 * k) + 2).toNatClampNeg) o e1 he)
  refine ⟨σ', r', fun kf => ?_⟩
  refine Eq.trans (e_law_2266 Ls xs kf (f, g) (nI (6 * k))) ?_
  simp only [i1, i2, if_true, tn_6]
  exact h' (fun σ5 => kf 23 (lw_L (nI (6 * (k + 1)))) [] σ5) (fun σ5 => some (.inl (some (.int 0)), σ5))
theorem tn_alone {Ls : Nat} {xs : Nat → Int32} {k : Nat} {σ : en_S} (hR : Rl σ) (hL : Ls ≤ 3072) (hk : 6 * k + 6 ≤ Ls) : Tn Ls xs k σ 2334 := by
  obtain ⟨A, ok, hM, hC⟩ := hR
  obtain ⟨f, g⟩ := σ
  have i1 : en_in (nI (6 * k) + 1) Ls = True := tn_i hL hk (j := 1) (by omega)
  obtain ⟨σ', r', h'⟩ := tn_w (g := g) (x_lw_alone_0 (f, g) (xs (nI (6 * k) + 1).toNatClampNeg)) (Mt_G (Qn_Mt ok hM hC (q_alone ok hM hC (xs (nI (6 * k) + 1).toNatClampNeg)))) rfl rfl (Or.inr rfl) (fun o f1 e1 he => w_alone f f1 g (xs (nI (6 * k) + 1).toNatClampNeg) o e1 he)
  refine ⟨σ', r', fun kf => ?_⟩
  refine Eq.trans (e_law_2334 Ls xs kf (f, g) (nI (6 * k))) ?_
  simp only [i1, if_true, tn_6]
  exact h' (fun σ5 => kf 23 (lw_L (nI (6 * (k + 1)))) [] σ5) (fun σ5 => some (.inl (some (.int 0)), σ5))
theorem tn_weariest {Ls : Nat} {xs : Nat → Int32} {k : Nat} {σ : en_S} (hR : Rl σ) (hL : Ls ≤ 3072) (hk : 6 * k + 6 ≤ Ls) : Tn Ls xs k σ 2390 := by
  obtain ⟨A, ok, hM, hC⟩ := hR
  obtain ⟨f, g⟩ := σ
  have i1 : en_in (nI (6 * k) + 1) Ls = True := tn_i hL hk (j := 1) (by omega)
  obtain ⟨σ', r', h'⟩ := tn_w (g := g) (x_lw_weariest_0 (f, g) (xs (nI (6 * k) + 1).toNatClampNeg)) (Mt_G (Qn_Mt ok hM hC (q_weariest ok hM hC (xs (nI (6 * k) + 1).toNatClampNeg)))) rfl rfl (Or.inl rfl) (fun o f1 e1 he => w_weariest f f1 g (xs (nI (6 * k) + 1).toNatClampNeg) o e1 he)
  refine ⟨σ', r', fun kf => ?_⟩
  refine Eq.trans (e_law_2390 Ls xs kf (f, g) (nI (6 * k))) ?_
  simp only [i1, if_true, tn_6]
  exact h' (fun σ5 => kf 23 (lw_L (nI (6 * (k + 1)))) [] σ5) (fun σ5 => some (.inl (some (.int 0)), σ5))
theorem tn_onRoutes {Ls : Nat} {xs : Nat → Int32} {k : Nat} {σ : en_S} (hR : Rl σ) (hL : Ls ≤ 3072) (hk : 6 * k + 6 ≤ Ls) : Tn Ls xs k σ 2446 := by
  obtain ⟨A, ok, hM, hC⟩ := hR
  obtain ⟨f, g⟩ := σ
  have i1 : en_in (nI (6 * k) + 1) Ls = True := tn_i hL hk (j := 1) (by omega)
  obtain ⟨σ', r', h'⟩ := tn_w (g := g) (x_lw_onRoutes_0 (f, g) (xs (nI (6 * k) + 1).toNatClampNeg)) (Mt_G (Qn_Mt ok hM hC (q_onRoutes ok hM hC (xs (nI (6 * k) + 1).toNatClampNeg)))) rfl rfl (Or.inr rfl) (fun o f1 e1 he => w_onRoutes f f1 g (xs (nI (6 * k) + 1).toNatClampNeg) o e1 he)
  refine ⟨σ', r', fun kf => ?_⟩
  refine Eq.trans (e_law_2446 Ls xs kf (f, g) (nI (6 * k))) ?_
  simp only [i1, if_true, tn_6]
  exact h' (fun σ5 => kf 23 (lw_L (nI (6 * (k + 1)))) [] σ5) (fun σ5 => some (.inl (some (.int 0)), σ5))
theorem tn_reach {Ls : Nat} {xs : Nat → Int32} {k : Nat} {σ : en_S} (hR : Rl σ) (hL : Ls ≤ 3072) (hk : 6 * k + 6 ≤ Ls) : Tn Ls xs k σ 2502 := by
  obtain ⟨A, ok, hM, hC⟩ := hR
  obtain ⟨f, g⟩ := σ
  have i1 : en_in (nI (6 * k) + 1) Ls = True := tn_i hL hk (j := 1) (by omega)
  obtain ⟨σ', r', h'⟩ := tn_w (g := g) (x_lw_reach_0 (f, g) (xs (nI (6 * k) + 1).toNatClampNeg)) (Mt_G (Qn_Mt ok hM hC (q_reach ok hM hC (xs (nI (6 * k) + 1).toNatClampNeg)))) rfl rfl (Or.inr rfl) (fun o f1 e1 he => w_reach f f1 g (xs (nI (6 * k) + 1).toNatClampNeg) o e1 he)
  refine ⟨σ', r', fun kf => ?_⟩
  refine Eq.trans (e_law_2502 Ls xs kf (f, g) (nI (6 * k))) ?_
  simp only [i1, if_true, tn_6]
  exact h' (fun σ5 => kf 23 (lw_L (nI (6 * (k + 1)))) [] σ5) (fun σ5 => some (.inl (some (.int 0)), σ5))
theorem tn_total {Ls : Nat} {xs : Nat → Int32} {k : Nat} {σ : en_S} (hR : Rl σ) (hL : Ls ≤ 3072) (hk : 6 * k + 6 ≤ Ls) : Tn Ls xs k σ 2558 := by
  obtain ⟨A, ok, hM, hC⟩ := hR
  obtain ⟨f, g⟩ := σ
  have i1 : en_in (nI (6 * k) + 1) Ls = True := tn_i hL hk (j := 1) (by omega)
  obtain ⟨σ', r', h'⟩ := tn_w (g := g) (x_lw_total_0 (f, g) (xs (nI (6 * k) + 1).toNatClampNeg)) (Mt_G (Qn_Mt ok hM hC (q_total ok hM hC (xs (nI (6 * k) + 1).toNatClampNeg)))) rfl rfl (Or.inl rfl) (fun o f1 e1 he => w_total f f1 g (xs (nI (6 * k) + 1).toNatClampNeg) o e1 he)
  refine ⟨σ', r', fun kf => ?_⟩
  refine Eq.trans (e_law_2558 Ls xs kf (f, g) (nI (6 * k))) ?_
  simp only [i1, if_true, tn_6]
  exact h' (fun σ5 => kf 23 (lw_L (nI (6 * (k + 1)))) [] σ5) (fun σ5 => some (.inl (some (.int 0)), σ5))
theorem tn_image {Ls : Nat} {xs : Nat → Int32} {k : Nat} {σ : en_S} (hR : Rl σ) (hL : Ls ≤ 3072) (hk : 6 * k + 6 ≤ Ls) : Tn Ls xs k σ 2614 := by
  obtain ⟨A, ok, hM, hC⟩ := hR
  obtain ⟨f, g⟩ := σ
  obtain ⟨σ', r', h'⟩ := tn_v (g := g) (q_image ok hM hC)
  refine ⟨σ', r', fun kf => ?_⟩
  refine Eq.trans (e_law_2614 Ls xs kf (f, g) (nI (6 * k))) ?_
  simp only [tn_6]
  exact h' (fun σ5 => kf 23 (lw_L (nI (6 * (k + 1)))) [] σ5)
theorem tn_restore {Ls : Nat} {xs : Nat → Int32} {k : Nat} {σ : en_S} (hR : Rl σ) (hL : Ls ≤ 3072) (hk : 6 * k + 6 ≤ Ls) : Tn Ls xs k σ 2625 := by
  obtain ⟨A, ok, hM, hC⟩ := hR
  obtain ⟨f, g⟩ := σ
  obtain ⟨σ', r', h'⟩ := tn_p (g := g) (q_restore ok hM hC) (nt_no1 (mi := 10042) (by decide +kernel) 0 [some (.ref 31)] [] (f, g)) (nt_no2 (mi := 10042) (by decide +kernel) 0 [some (.ref 31)] [] (f, g))
  refine ⟨σ', r', fun kf => ?_⟩
  refine Eq.trans (e_law_2625 Ls xs kf (f, g) (nI (6 * k))) ?_
  simp only [tn_6]
  exact h' (fun σ5 => kf 23 (lw_L (nI (6 * (k + 1)))) [] σ5) (fun σ5 => some (.inl (some (.int 0)), σ5))
theorem tn_none {Ls : Nat} {xs : Nat → Int32} {k : Nat} {σ : en_S} (hR : Rl σ) : Tn Ls xs k σ 2638 := by
  refine ⟨σ, hR, fun kf => ?_⟩
  refine Eq.trans (e_law_2638 Ls xs kf σ (nI (6 * k))) ?_
  rw [tn_6]
  rfl
