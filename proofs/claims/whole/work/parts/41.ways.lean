/-! ways: walks, and what both sides lay out -/
theorem pigeon : ∀ (n : Nat) (p : Nat → Nat), (∀ i, i ≤ n → p i < n) → ∃ i j, i < j ∧ j ≤ n ∧ p i = p j := by
  intro n
  induction n with
  | zero => intro p h; exact absurd (h 0 (Nat.le_refl 0)) (Nat.not_lt_zero _)
  | succ n ih =>
    intro p h
    by_cases c : ∃ i, i ≤ n ∧ p i = p (n + 1)
    · obtain ⟨i, hi, e⟩ := c
      exact ⟨i, n + 1, by omega, Nat.le_refl _, e⟩
    · have hne : ∀ i, i ≤ n → p i ≠ p (n + 1) := fun i hi e => c ⟨i, hi, e⟩
      -- the value of the last is left out
      have hq : ∀ i, i ≤ n → (if p i = n then p (n + 1) else p i) < n := by
        intro i hi
        have h1 := h i (by omega)
        have h2 := h (n + 1) (Nat.le_refl _)
        have h3 := hne i hi
        split <;> omega
      obtain ⟨i, j, hij, hj, e⟩ := ih (fun i => if p i = n then p (n + 1) else p i) hq
      refine ⟨i, j, hij, by omega, ?_⟩
      have h3 := hne i (by omega)
      have h4 := hne j hj
      have e' : (if p i = n then p (n + 1) else p i) = (if p j = n then p (n + 1) else p j) := e
      by_cases c1 : p i = n
      · by_cases c2 : p j = n
        · rw [c1, c2]
        · rw [if_pos c1, if_neg c2] at e'; exact absurd e'.symm h4
      · by_cases c2 : p j = n
        · rw [if_neg c1, if_pos c2] at e'; exact absurd e' h3
        · rw [if_neg c1, if_neg c2] at e'; exact e'
/-- how far, one road on: by stairs (0), roads (1), the steepest (2) -/
def wE (w d s : Nat) : Nat := if w = 0 then d + s else if w = 1 then d + 1 else (if d < s then s else d)
theorem wE_mono (w s : Nat) {d d' : Nat} (h : d ≤ d') : wE w d s ≤ wE w d' s := by
  unfold wE
  split
  · omega
  · split
    · omega
    · split <;> split <;> omega
theorem wE_infl (w s d : Nat) : d ≤ wE w d s := by
  unfold wE
  split
  · omega
  · split
    · omega
    · split <;> omega
theorem wE_le (w : Nat) {s : Nat} (d : Nat) (h : s ≤ 9) : wE w d s ≤ d + 9 := by
  unfold wE
  split
  · omega
  · split
    · omega
    · split <;> omega
def wK (G : mu_Gd) (s : Nat) (p q : Nat → Nat) (n : Nat) : Prop := p 0 = s ∧ ∀ k, k < n → q k < G.2.1 ∧ gE G (q k) (p k) (p (k + 1))
def wC (G : mu_Gd) (w : Nat) (q : Nat → Nat) (n : Nat) : Nat := mu_up (fun k d => wE w d (G.2.2.2.2 (q k))) 0 n
theorem wC_S (G : mu_Gd) (w : Nat) (q : Nat → Nat) (n : Nat) : wC G w q (n + 1) = wE w (wC G w q n) (G.2.2.2.2 (q n)) := rfl
theorem wC_mono (G : mu_Gd) (w : Nat) (q : Nat → Nat) {i j : Nat} (h : i ≤ j) : wC G w q i ≤ wC G w q j := by
  obtain ⟨k, rfl⟩ : ∃ k, j = i + k := ⟨j - i, by omega⟩
  clear h
  induction k with
  | zero => exact Nat.le_refl _
  | succ k ih => exact Nat.le_trans ih (wE_infl _ _ _)
theorem gE_lt {G : mu_Gd} (go : gOK G) {i a b : Nat} (hi : i < G.2.1) (h : gE G i a b) : a < G.1 ∧ b < G.1 := by
  have := go.2.2.2.1 i hi
  unfold gE at h
  omega
/-- a way without towns twice is no longer -/
theorem w_short {G : mu_Gd} (go : gOK G) {s : Nat} (hs : s < G.1) (w : Nat) : ∀ (n : Nat) (p q : Nat → Nat), wK G s p q n → ∃ (p' q' : Nat → Nat) (m : Nat), m < G.1 ∧ wK G s p' q' m ∧ p' m = p n ∧ wC G w q' m ≤ wC G w q n := by
  intro n
  induction n using Nat.strongRecOn with
  | ind n ih =>
    intro p q hw
    by_cases c : n < G.1
    · exact ⟨p, q, n, c, hw, rfl, Nat.le_refl _⟩
    · have hv : ∀ i, i ≤ n → p i < G.1 := by
        intro i hi
        cases i with
        | zero => rw [hw.1]; exact hs
        | succ i => exact (gE_lt go (hw.2 i (by omega)).1 (hw.2 i (by omega)).2).2
      obtain ⟨i, j, hij, hj, e⟩ := pigeon G.1 p (fun i hi => hv i (by omega))
      have hw' : wK G s (fun k => if k ≤ i then p k else p (k + (j - i))) (fun k => if k < i then q k else q (k + (j - i))) (n - (j - i)) := by
        refine ⟨by show (if 0 ≤ i then p 0 else _) = s; rw [if_pos (Nat.zero_le i)]; exact hw.1, fun k hk => ?_⟩
        show (if k < i then q k else q (k + (j - i))) < G.2.1 ∧ gE G (if k < i then q k else q (k + (j - i))) (if k ≤ i then p k else p (k + (j - i))) (if k + 1 ≤ i then p (k + 1) else p (k + 1 + (j - i)))
        by_cases k1 : k < i
        · rw [if_pos k1, if_pos (by omega), if_pos (by omega)]; exact hw.2 k (by omega)
        · rw [if_neg k1, if_neg (by omega : ¬ k + 1 ≤ i), show k + 1 + (j - i) = k + (j - i) + 1 by omega]
          have h2 := hw.2 (k + (j - i)) (by omega)
          by_cases k2 : k ≤ i
          · have hk' : k = i := by omega
            rw [if_pos k2, hk', e]
            rw [hk', show i + (j - i) = j by omega] at h2
            rw [show i + (j - i) = j by omega]
            exact h2
          · rw [if_neg k2]; exact h2
      obtain ⟨p', q', m, hm, hk, he, hc⟩ := ih (n - (j - i)) (by omega) _ _ hw'
      refine ⟨p', q', m, hm, hk, ?_, Nat.le_trans hc ?_⟩
      · rw [he]
        show (if n - (j - i) ≤ i then p (n - (j - i)) else p (n - (j - i) + (j - i))) = p n
        by_cases k1 : n - (j - i) ≤ i
        · have hn : n = j := by omega
          rw [if_pos k1, show n - (j - i) = i by omega, e, hn]
        · rw [if_neg k1, show n - (j - i) + (j - i) = n by omega]
      · -- the cost
        have h1 : ∀ k, k ≤ i → wC G w (fun k => if k < i then q k else q (k + (j - i))) k = wC G w q k := by
          intro k
          induction k with
          | zero => intro _; rfl
          | succ k ih2 =>
            intro hk
            rw [wC_S, wC_S, ih2 (by omega)]
            show wE w _ (G.2.2.2.2 (if k < i then q k else q (k + (j - i)))) = _
            rw [if_pos (by omega)]
        have h2 : ∀ k, wC G w (fun k => if k < i then q k else q (k + (j - i))) (i + k) ≤ wC G w q (j + k) := by
          intro k
          induction k with
          | zero =>
            rw [Nat.add_zero, Nat.add_zero, h1 i (Nat.le_refl i)]
            exact wC_mono G w q (by omega)
          | succ k ih2 =>
            rw [← Nat.add_assoc, ← Nat.add_assoc, wC_S, wC_S]
            show wE w _ (G.2.2.2.2 (if i + k < i then q (i + k) else q (i + k + (j - i)))) ≤ _
            rw [if_neg (by omega), show i + k + (j - i) = j + k by omega]
            exact wE_mono _ _ ih2
        have := h2 (n - j)
        rw [show i + (n - j) = n - (j - i) by omega, show j + (n - j) = n by omega] at this
        exact this
/-- what is known of all towns -/
abbrev mu_D : Type := Nat → Option Nat
def dU (D : mu_D) (v : Nat) (c : Nat) : mu_D := fun x => if x = v then some c else D x
def rlx (w : Nat) (D : mu_D) (u v s : Nat) : mu_D := match D u with
  | none => D
  | some d => match D v with
    | none => dU D v (wE w d s)
    | some e => if wE w d s < e then dU D v (wE w d s) else D
/-- not farther -/
def dLe (D' D : mu_D) : Prop := ∀ v d, D v = some d → ∃ d', d' ≤ d ∧ D' v = some d'
theorem dLe_refl (D : mu_D) : dLe D D := fun _ d h => ⟨d, Nat.le_refl d, h⟩
theorem dLe_trans {D D' D'' : mu_D} (h : dLe D' D) (h' : dLe D'' D') : dLe D'' D := by
  intro v d hd
  obtain ⟨d1, a1, b1⟩ := h v d hd
  obtain ⟨d2, a2, b2⟩ := h' v d1 b1
  exact ⟨d2, by omega, b2⟩
theorem rlx_le (w : Nat) (D : mu_D) (u v s : Nat) : dLe (rlx w D u v s) D := by
  unfold rlx
  cases hu : D u with
  | none => exact dLe_refl D
  | some d =>
    cases hv : D v with
    | none =>
      intro x dx hx
      show ∃ d', d' ≤ dx ∧ dU D v (wE w d s) x = some d'
      unfold dU
      by_cases c : x = v
      · rw [c, hv] at hx; cases hx
      · rw [if_neg c]; exact ⟨dx, Nat.le_refl _, hx⟩
    | some e =>
      show dLe (if wE w d s < e then dU D v (wE w d s) else D) D
      by_cases c0 : wE w d s < e
      · rw [if_pos c0]
        intro x dx hx
        unfold dU
        by_cases c : x = v
        · rw [c, hv] at hx; cases hx
          rw [if_pos c]; exact ⟨_, Nat.le_of_lt c0, rfl⟩
        · rw [if_neg c]; exact ⟨dx, Nat.le_refl _, hx⟩
      · rw [if_neg c0]; exact dLe_refl D
theorem rlx_at (w : Nat) (D : mu_D) (u v s : Nat) {d : Nat} (h : D u = some d) : ∃ d', d' ≤ wE w d s ∧ rlx w D u v s v = some d' := by
  unfold rlx
  rw [h]
  cases hv : D v with
  | none => exact ⟨_, Nat.le_refl _, if_pos rfl⟩
  | some e =>
    show ∃ d', d' ≤ wE w d s ∧ (if wE w d s < e then dU D v (wE w d s) else D) v = some d'
    by_cases c0 : wE w d s < e
    · rw [if_pos c0]; exact ⟨_, Nat.le_refl _, if_pos rfl⟩
    · rw [if_neg c0]; exact ⟨e, by omega, hv⟩
/-- each is come to by a way -/
def dSd (G : mu_Gd) (s w : Nat) (D : mu_D) : Prop := ∀ v d, D v = some d → ∃ (p q : Nat → Nat) (n : Nat), wK G s p q n ∧ p n = v ∧ wC G w q n = d
theorem dSd_U {G : mu_Gd} {s w : Nat} {D : mu_D} (h : dSd G s w D) {i u v d : Nat} (hi : i < G.2.1) (he : gE G i u v) (hu : D u = some d) : dSd G s w (dU D v (wE w d (G.2.2.2.2 i))) := by
  intro x dx hx
  unfold dU at hx
  by_cases c : x = v
  · rw [if_pos c] at hx
    cases hx
    obtain ⟨p, q, n, a1, a2, a3⟩ := h u d hu
    refine ⟨fun k => if k ≤ n then p k else v, fun k => if k < n then q k else i, n + 1, ⟨by show (if 0 ≤ n then p 0 else v) = s; rw [if_pos (Nat.zero_le n)]; exact a1.1, fun k hk => ?_⟩, ?_, ?_⟩
    · show (if k < n then q k else i) < G.2.1 ∧ gE G (if k < n then q k else i) (if k ≤ n then p k else v) (if k + 1 ≤ n then p (k + 1) else v)
      by_cases k1 : k < n
      · rw [if_pos k1, if_pos (by omega), if_pos (by omega)]; exact a1.2 k k1
      · have : k = n := by omega
        subst this
        rw [if_neg k1, if_pos (Nat.le_refl k), if_neg (by omega), a2]
        exact ⟨hi, he⟩
    · show (if n + 1 ≤ n then _ else v) = x
      rw [if_neg (by omega), c]
    · have : ∀ k, k ≤ n → wC G w (fun k => if k < n then q k else i) k = wC G w q k := by
        intro k
        induction k with
        | zero => intro _; rfl
        | succ k ih2 =>
          intro hk
          rw [wC_S, wC_S, ih2 (by omega)]
          show wE w _ (G.2.2.2.2 (if k < n then q k else i)) = _
          rw [if_pos (by omega)]
      rw [wC_S, this n (Nat.le_refl n), a3]
      show wE w d (G.2.2.2.2 (if n < n then q n else i)) = _
      rw [if_neg (Nat.lt_irrefl n)]
  · rw [if_neg c] at hx
    exact h x dx hx
theorem dSd_r {G : mu_Gd} {s w : Nat} {D : mu_D} (h : dSd G s w D) {i u v : Nat} (hi : i < G.2.1) (he : gE G i u v) : dSd G s w (rlx w D u v (G.2.2.2.2 i)) := by
  unfold rlx
  cases hu : D u with
  | none => exact h
  | some d =>
    cases hv : D v with
    | none => exact dSd_U h hi he hu
    | some e =>
      show dSd G s w (if wE w d (G.2.2.2.2 i) < e then dU D v (wE w d (G.2.2.2.2 i)) else D)
      split
      · exact dSd_U h hi he hu
      · exact h
/-- small numbers -/
def dCt (D : mu_D) : Nat := mu_up (fun v a => a + (if (D v).isSome then 1 else 0)) 0 8
def dBd (D : mu_D) : Prop := ∀ v d, D v = some d → d + 9 ≤ 9 * dCt D
theorem dCt_le (D : mu_D) : dCt D ≤ 8 := by
  have h : ∀ n, mu_up (fun v a => a + (if (D v).isSome then 1 else 0)) 0 n ≤ n := by
    intro n
    induction n with
    | zero => exact Nat.le_refl 0
    | succ n ih => rw [mu_upS]; split <;> omega
  exact h 8
theorem dCt_U (D : mu_D) {v : Nat} (c : Nat) (hv : v < 8) : dCt (dU D v c) = dCt D + (if (D v).isSome then 0 else 1) := by
  have h : ∀ n, mu_up (fun x a => a + (if (dU D v c x).isSome then 1 else 0)) 0 n = mu_up (fun x a => a + (if (D x).isSome then 1 else 0)) 0 n + (if v < n then (if (D v).isSome then 0 else 1) else 0) := by
    intro n
    induction n with
    | zero => rw [if_neg (by omega)]; rfl
    | succ n ih =>
      rw [mu_upS, mu_upS, ih]
      show _ + (if (if n = v then some c else D n).isSome then 1 else 0) = _
      by_cases k : n = v
      · subst k
        rw [if_neg (Nat.lt_irrefl n), if_pos (Nat.lt_succ_self n), if_pos rfl]
        cases (D n).isSome <;> rfl
      · rw [if_neg k]
        by_cases k2 : v < n
        · rw [if_pos k2, if_pos (show v < n + 1 by omega)]; omega
        · rw [if_neg k2, if_neg (show ¬ v < n + 1 by omega)]; omega
  have := h 8
  rw [if_pos hv] at this
  exact this
theorem dBd_r {D : mu_D} (h : dBd D) (w : Nat) {u v s : Nat} (hv8 : v < 8) (hs : s ≤ 9) : dBd (rlx w D u v s) := by
  unfold rlx
  cases hu : D u with
  | none => exact h
  | some d =>
    have hd := h u d hu
    have hE := wE_le w d hs
    cases hv : D v with
    | none =>
      show dBd (dU D v (wE w d s))
      intro x dx hx
      rw [dCt_U D _ hv8, hv]
      unfold dU at hx
      by_cases c : x = v
      · rw [if_pos c] at hx; cases hx
        show _ ≤ 9 * (dCt D + 1)
        omega
      · rw [if_neg c] at hx
        have := h x dx hx
        show _ ≤ 9 * (dCt D + 1)
        omega
    | some e =>
      show dBd (if wE w d s < e then dU D v (wE w d s) else D)
      by_cases c0 : wE w d s < e
      · rw [if_pos c0]
        intro x dx hx
        rw [dCt_U D _ hv8, hv]
        have he := h v e hv
        unfold dU at hx
        by_cases c : x = v
        · rw [if_pos c] at hx; cases hx
          show _ ≤ 9 * (dCt D + 0)
          omega
        · rw [if_neg c] at hx
          have := h x dx hx
          show _ ≤ 9 * (dCt D + 0)
          omega
      · rw [if_neg c0]; exact h
theorem dBd_63 {D : mu_D} (h : dBd D) {v d : Nat} (hd : D v = some d) : d ≤ 63 := by
  have := h v d hd
  have := dCt_le D
  omega
/-- no way of at most so many roads is shorter -/
def dCm (G : mu_Gd) (s w k : Nat) (D : mu_D) : Prop := ∀ (p q : Nat → Nat) (n : Nat), n ≤ k → wK G s p q n → ∃ d, D (p n) = some d ∧ d ≤ wC G w q n
theorem dCm_le {G : mu_Gd} {s w k : Nat} {D D' : mu_D} (h : dCm G s w k D) (hl : dLe D' D) : dCm G s w k D' := by
  intro p q n hn hw
  obtain ⟨d, e, hd⟩ := h p q n hn hw
  obtain ⟨d', a, b⟩ := hl _ d e
  exact ⟨d', b, by omega⟩
/-- a round: every road was gone along -/
def dRd (G : mu_Gd) (w : Nat) (D D' : mu_D) (i u v : Nat) : Prop := ∃ D1, dLe D1 D ∧ dLe D' (rlx w D1 u v (G.2.2.2.2 i))
theorem dCm_S {G : mu_Gd} {s w k : Nat} {D D' : mu_D} (h : dCm G s w k D) (hl : dLe D' D) (hr : ∀ i u v, i < G.2.1 → gE G i u v → dRd G w D D' i u v) : dCm G s w (k + 1) D' := by
  intro p q n hn hw
  by_cases c : n ≤ k
  · exact dCm_le h hl p q n c hw
  · obtain rfl : n = k + 1 := by omega
    obtain ⟨d, e, hd⟩ := h p q k (Nat.le_refl k) ⟨hw.1, fun j hj => hw.2 j (by omega)⟩
    obtain ⟨hq, he⟩ := hw.2 k (by omega)
    obtain ⟨D1, l1, l2⟩ := hr (q k) (p k) (p (k + 1)) hq he
    obtain ⟨d1, a1, b1⟩ := l1 _ d e
    obtain ⟨d2, a2, b2⟩ := rlx_at w D1 (p k) (p (k + 1)) (G.2.2.2.2 (q k)) b1
    obtain ⟨d3, a3, b3⟩ := l2 _ d2 b2
    refine ⟨d3, b3, ?_⟩
    rw [wC_S]
    have := wE_mono w (G.2.2.2.2 (q k)) (show d1 ≤ wC G w q k by omega)
    omega
/-- both know the same -/
theorem d_same {G : mu_Gd} (go : gOK G) {s w k k' : Nat} (hs : s < G.1) {D D' : mu_D} (h1 : dSd G s w D) (h2 : dCm G s w k D) (h1' : dSd G s w D') (h2' : dCm G s w k' D') (hk : G.1 - 1 ≤ k) (hk' : G.1 - 1 ≤ k') (v : Nat) : D v = D' v := by
  have key : ∀ (D D' : mu_D) (k' : Nat), dSd G s w D → dCm G s w k' D' → G.1 - 1 ≤ k' → ∀ d, D v = some d → ∃ d', D' v = some d' ∧ d' ≤ d := by
    intro D D' k' a b c d hd
    obtain ⟨p, q, n, e1, e2, e3⟩ := a v d hd
    obtain ⟨p', q', m, hm, hw, hp, hc⟩ := w_short go hs w n p q e1
    obtain ⟨d', x1, x2⟩ := b p' q' m (by omega) hw
    rw [hp, e2] at x1
    exact ⟨d', x1, by omega⟩
  cases hd : D v with
  | none =>
    cases hd' : D' v with
    | none => rfl
    | some d' =>
      obtain ⟨d, a, _⟩ := key D' D k h1' h2 hk d' hd'
      rw [hd] at a; cases a
  | some d =>
    obtain ⟨d', a, b⟩ := key D D' k' h1 h2' hk' d hd
    obtain ⟨d2, a2, b2⟩ := key D' D k h1' h2 hk d' a
    rw [hd] at a2
    cases a2
    rw [a, show d = d' by omega]
/-- the same towns are come to, by whatever measure -/
theorem d_reach {G : mu_Gd} (go : gOK G) {s w w' k' : Nat} (hs : s < G.1) {D D' : mu_D} (h1 : dSd G s w D) (h2' : dCm G s w' k' D') (hk' : G.1 - 1 ≤ k') {v d : Nat} (hd : D v = some d) : ∃ d', D' v = some d' := by
  obtain ⟨p, q, n, e1, e2, _⟩ := h1 v d hd
  obtain ⟨p', q', m, hm, hw, hp, _⟩ := w_short go hs w n p q e1
  obtain ⟨d', x1, _⟩ := h2' p' q' m (by omega) hw
  rw [hp, e2] at x1
  exact ⟨d', x1⟩
def d0 (s : Nat) : mu_D := fun v => if v = s then some 0 else none
theorem d0_Sd (G : mu_Gd) (s w : Nat) : dSd G s w (d0 s) := by
  intro v d h
  unfold d0 at h
  by_cases c : v = s
  · rw [if_pos c] at h; cases h
    exact ⟨fun _ => s, fun _ => 0, 0, ⟨rfl, fun k hk => absurd hk (Nat.not_lt_zero k)⟩, c.symm, rfl⟩
  · rw [if_neg c] at h; cases h
theorem d0_Cm (G : mu_Gd) (s w : Nat) : dCm G s w 0 (d0 s) := by
  intro p q n hn hw
  obtain rfl : n = 0 := by omega
  exact ⟨0, by unfold d0; rw [hw.1, if_pos rfl], Nat.zero_le _⟩
theorem d0_Bd {s : Nat} (hs : s < 8) : dBd (d0 s) := by
  intro v d h
  unfold d0 at h
  by_cases c : v = s
  · rw [if_pos c] at h; cases h
    have e : d0 s = dU (fun _ => none) s 0 := rfl
    rw [e, dCt_U _ _ hs]
    show 0 + 9 ≤ 9 * (_ + 1)
    omega
  · rw [if_neg c] at h; cases h
