/-! rows stay in their ranges -/
theorem sIn_99 (v : Int32) : ∃ w, 1 ≤ w ∧ w ≤ 99 ∧ sIn v (nI 1) (nI 99) = nI w := by
  unfold sIn
  by_cases h1 : nI 1 ≤ v
  · rw [if_pos h1]
    by_cases h2 : v ≤ nI 99
    · rw [if_pos h2]
      have h0 : ¬ v < 0 := by
        rw [Int32.not_lt]
        exact Int32.le_trans (by decide) h1
      obtain ⟨j, hj, e⟩ := nI_of2 (M := nI 99) (n := 99) (by decide) h0 h2
      subst e
      rw [q_leI (by omega) (by omega)] at h1
      exact ⟨j, h1, hj, rfl⟩
    · rw [if_neg h2]
      exact ⟨99, by omega, by omega, rfl⟩
  · rw [if_neg h1]
    exact ⟨1, by omega, by omega, rfl⟩
theorem half_99 {k : Nat} (h : k ≤ 99) : ∃ w, 1 ≤ w ∧ w ≤ 99 ∧ (if nI 1 < nI k / nI 2 then nI k / nI 2 else nI 1) = nI w := by
  rw [pk_div (by omega) (by omega) (by omega)]
  simp (disch := omega) only [q_ltI]
  by_cases h1 : 1 < k / 2
  · rw [if_pos h1]; exact ⟨k / 2, by omega, by omega, rfl⟩
  · rw [if_neg h1]; exact ⟨1, by omega, by omega, rfl⟩
theorem rOK_wW {Λ : mu_Ld} {r : mu_Rw} (h : rOK Λ r) {x w : Nat} (h1 : 1 ≤ w) (h2 : w ≤ 99) : rOK Λ (wW r x (nI w)) := by
  refine ⟨fun y hy => ?_, h.2⟩
  show ∃ w', 1 ≤ w' ∧ w' ≤ 99 ∧ upd (rW r) x (nI w) y = nI w'
  rw [upd_if]
  by_cases e : y = x
  · rw [if_pos e]; exact ⟨w, h1, h2, rfl⟩
  · rw [if_neg e]; exact h.1 y hy
theorem rOK_wS {Λ : mu_Ld} {r : mu_Rw} (h : rOK Λ r) {x s : Nat} (h1 : s < lR Λ x) : rOK Λ (wS r x (nI s)) := by
  refine ⟨h.1, fun y hy => ?_, h.2.2⟩
  show ∃ s', s' < lR Λ y ∧ upd (rS r) x (nI s) y = nI s'
  rw [upd_if]
  by_cases e : y = x
  · rw [if_pos e]; exact ⟨s, by rw [e]; exact h1, rfl⟩
  · rw [if_neg e]; exact h.2.1 y hy
theorem rOK_wU {Λ : mu_Ld} {r : mu_Rw} (h : rOK Λ r) {p : Nat} {v : Int32} (h1 : v = nN ∨ ∃ x, x < lB Λ ∧ v = nI x) : rOK Λ (wU r p v) := by
  refine ⟨h.1, h.2.1, fun y hy => ?_, h.2.2.2⟩
  show upd (rU r) p v y = nN ∨ ∃ x, x < lB Λ ∧ upd (rU r) p v y = nI x
  rw [upd_if]
  by_cases e : y = p
  · rw [if_pos e]; exact h1
  · rw [if_neg e]; exact h.2.2.1 y hy
theorem rOK_wT {Λ : mu_Ld} {r : mu_Rw} (h : rOK Λ r) {p t : Nat} (h1 : t ≤ 9) : rOK Λ (wT r p (nI t)) := by
  refine ⟨h.1, h.2.1, h.2.2.1, fun y hy => ?_⟩
  show ∃ t', t' ≤ 9 ∧ upd (rT r) p (nI t) y = nI t'
  rw [upd_if]
  by_cases e : y = p
  · rw [if_pos e]; exact ⟨t, h1, rfl⟩
  · rw [if_neg e]; exact h.2.2.2 y hy
theorem rOK_wD {Λ : mu_Ld} {r : mu_Rw} (h : rOK Λ r) (v : Int32) : rOK Λ (wD r v) := h
theorem rOK_sW1 {Λ : mu_Ld} {r : mu_Rw} (h : rOK Λ r) (x : Nat) : rOK Λ (sW1 Λ r x) := by
  unfold sW1
  obtain ⟨w, h1, h2, e⟩ := sIn_99 (rW r x + sMo Λ r x)
  rw [e]
  exact rOK_wW h h1 h2
theorem rOK_sLet {Λ : mu_Ld} {r : mu_Rw} (h : rOK Λ r) {x : Nat} (hx : x < lB Λ) : rOK Λ (sLet Λ r x) := by
  unfold sLet
  refine mu_up_inv (fun _ q => rOK Λ q) _ ?_ _ ?_
  · obtain ⟨k, k1, k2, e⟩ := h.1 x hx
    rw [e]
    obtain ⟨w, h1, h2, e2⟩ := half_99 k2
    rw [e2]
    exact rOK_wW h h1 h2
  · intro p q hp hq
    split
    · exact rOK_wU hq (Or.inl rfl)
    · exact hq
theorem rOK_sTi {Λ : mu_Ld} {r : mu_Rw} (h : rOK Λ r) {p : Nat} (hp : p < lP Λ) : rOK Λ (sTi r p) := by
  unfold sTi
  obtain ⟨t, ht, e⟩ := h.2.2.2 p hp
  rw [e]
  simp (disch := omega) only [q_leI, nI_add]
  by_cases c : 9 ≤ t
  · rw [if_pos c]; exact rOK_wT h ht
  · rw [if_neg c]; exact rOK_wT h (by omega)
theorem rOK_sTs {Λ : mu_Ld} {r : mu_Rw} (h : rOK Λ r) (m : Nat) : rOK Λ (sTs Λ m r) := by
  unfold sTs
  refine mu_up_inv (fun _ q => rOK Λ q) _ h _ ?_
  intro p q hp hq
  split
  · exact rOK_sTi hq hp
  · exact hq
theorem sNx_ok {Λ : mu_Ld} (lo : lOK Λ) {x s : Nat} (hx : x < lB Λ) (hs : s < lR Λ x) : ∃ s', s' < lR Λ x ∧ sNx Λ x (nI s) = nI s' ∧ s' = (s + 1) % lR Λ x := by
  unfold sNx
  have h6 := (lo.2.2.1 x hx)
  simp (disch := omega) only [nI_add, q_ltI]
  by_cases c : s + 1 < lR Λ x
  · rw [if_pos c]; exact ⟨s + 1, c, rfl, (Nat.mod_eq_of_lt c).symm⟩
  · rw [if_neg c]; exact ⟨0, by omega, rfl, by rw [show s + 1 = lR Λ x by omega, Nat.mod_self]⟩
theorem rOK_sCa {Λ : mu_Ld} {r : mu_Rw} (lo : lOK Λ) (h : rOK Λ r) {x : Nat} (hx : x < lB Λ) : rOK Λ (sCa Λ r x) := by
  unfold sCa
  apply rOK_sTs
  obtain ⟨s, hs, e⟩ := h.2.1 x hx
  rw [e]
  obtain ⟨s', h1, e2, _⟩ := sNx_ok lo hx hs
  rw [e2]
  exact rOK_wS h h1
theorem rOK_sBx {Λ : mu_Ld} {r : mu_Rw} (lo : lOK Λ) (h : rOK Λ r) {x : Nat} (hx : x < lB Λ) : rOK Λ (sBx Λ r x).1 := by
  unfold sBx
  split
  · exact rOK_sLet (rOK_sW1 h x) hx
  · split
    · exact rOK_sCa lo (rOK_sW1 h x) hx
    · exact rOK_sW1 h x
theorem rOK_sBs {Λ : mu_Ld} {r : mu_Rw} (lo : lOK Λ) (h : rOK Λ r) {n : Nat} (hn : n ≤ lB Λ) : rOK Λ (sBs Λ r n).1 := by
  unfold sBs
  refine mu_up_inv (fun _ (q : mu_Rw × Nat × Nat × Nat) => rOK Λ q.1) _ h _ ?_
  intro x q hx hq
  exact rOK_sBx lo hq (by omega)
theorem rOK_sRe {Λ : mu_Ld} {r : mu_Rw} (h : rOK Λ r) (st : Nat) {n : Nat} (hn : n ≤ lP Λ) : rOK Λ (sRe Λ st r n) := by
  unfold sRe
  refine mu_up_inv (fun _ q => rOK Λ q) _ h _ ?_
  intro p q hp hq
  split
  · obtain ⟨t, ht, e⟩ := hq.2.2.2 p (by omega)
    rw [e]
    by_cases c : 2 ≤ t
    · rw [pk_sub c]
      simp (disch := omega) only [q_ltI]
      split
      · exact rOK_wT hq (by omega)
      · exact rOK_wT hq (by omega)
    · rw [if_neg (by rw [Int32.not_lt]; exact Int32.le_of_lt (pk_sneg (by omega) (by omega)))]
      exact rOK_wT hq (by omega)
  · exact hq
theorem rOK_sDy {Λ : mu_Ld} {r : mu_Rw} (lo : lOK Λ) (h : rOK Λ r) : rOK Λ (sDy Λ r) := by
  unfold sDy
  exact rOK_wD (rOK_sRe (rOK_sBs lo h (Nat.le_refl _)) _ (Nat.le_refl _)) _
/-- masks of a day are small -/
theorem sBx_st {Λ : mu_Ld} (lo : lOK Λ) (r : mu_Rw) (x : Nat) : (sBx Λ r x).2.1 < 256 := by
  unfold sBx
  split
  · exact sH8 _ lo _
  · split <;> exact (by decide : 0 < 256)
theorem sBx_fe {Λ : mu_Ld} (r : mu_Rw) {x : Nat} (hx : x < 6) : (sBx Λ r x).2.2.1 < 64 := by
  have h : 2 ^ x < 2 ^ 6 := Nat.pow_lt_pow_right (by omega) hx
  unfold sBx
  split
  · exact h
  · split <;> exact (by decide : 0 < 64)
theorem sBs_st {Λ : mu_Ld} (lo : lOK Λ) (r : mu_Rw) (n : Nat) : (sBs Λ r n).2.1 < 256 := by
  unfold sBs
  refine mu_up_inv (fun _ (q : mu_Rw × Nat × Nat × Nat) => q.2.1 < 256) _ (by decide : 0 < 256) _ ?_
  intro x q hx hq
  exact Nat.or_lt_two_pow (n := 8) hq (sBx_st lo _ _)
theorem sBs_fe {Λ : mu_Ld} (r : mu_Rw) {n : Nat} (hn : n ≤ 6) : (sBs Λ r n).2.2.1 < 64 := by
  unfold sBs
  refine mu_up_inv (fun _ (q : mu_Rw × Nat × Nat × Nat) => q.2.2.1 < 64) _ (by decide : 0 < 64) _ ?_
  intro x q hx hq
  exact Nat.or_lt_two_pow (n := 6) hq (sBx_fe _ (by omega))
