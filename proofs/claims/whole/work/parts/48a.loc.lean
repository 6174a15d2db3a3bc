/-! one box alone: what happens to the others changes nothing -/
def lc (Λ : mu_Ld) (x : Nat) (r r' : mu_Rw) : Prop := rD r = rD r' ∧ rW r x = rW r' x ∧ rS r x = rS r' x ∧ ∀ p, p < lP Λ → ((rU r p = nI x) = (rU r' p = nI x)) ∧ (rU r p = nI x → rT r p = rT r' p)
theorem lc_refl (Λ : mu_Ld) (x : Nat) (r : mu_Rw) : lc Λ x r r := ⟨rfl, rfl, rfl, fun _ _ => ⟨rfl, fun _ => rfl⟩⟩
theorem lc_symm {Λ : mu_Ld} {x : Nat} {r r' : mu_Rw} (h : lc Λ x r r') : lc Λ x r' r := ⟨h.1.symm, h.2.1.symm, h.2.2.1.symm, fun p hp => ⟨(h.2.2.2 p hp).1.symm, fun k => ((h.2.2.2 p hp).2 (by rw [(h.2.2.2 p hp).1]; exact k)).symm⟩⟩
theorem lc_trans {Λ : mu_Ld} {x : Nat} {r r' r'' : mu_Rw} (h : lc Λ x r r') (h' : lc Λ x r' r'') : lc Λ x r r'' :=
  ⟨h.1.trans h'.1, h.2.1.trans h'.2.1, h.2.2.1.trans h'.2.2.1, fun p hp => ⟨(h.2.2.2 p hp).1.trans (h'.2.2.2 p hp).1, fun k => ((h.2.2.2 p hp).2 k).trans ((h'.2.2.2 p hp).2 (by rw [← (h.2.2.2 p hp).1]; exact k))⟩⟩
theorem lc_H {Λ : mu_Ld} {x : Nat} {r r' : mu_Rw} (h : lc Λ x r r') : sH Λ r (nI x) = sH Λ r' (nI x) := by
  unfold sH
  apply mu_mk_congr
  intro p hp
  simp only [(h.2.2.2 p hp).1]
theorem lc_Mt {Λ : mu_Ld} {x : Nat} {r r' : mu_Rw} (h : lc Λ x r r') : sMt Λ r (sH Λ r (nI x)) = sMt Λ r' (sH Λ r' (nI x)) := by
  rw [← lc_H h]
  unfold sMt
  apply mu_up_congr
  intro p hp a
  rw [sH_tb r (nI x) hp]
  by_cases c : rU r p = nI x
  · have e : sM Λ r p = sM Λ r' p := by unfold sM; rw [(h.2.2.2 p hp).2 c]
    rw [e]
  · rw [decide_eq_false c, if_neg (by decide), if_neg (by decide)]
theorem lc_B {Λ : mu_Ld} {x : Nat} {r r' : mu_Rw} (h : lc Λ x r r') : sB Λ r x = sB Λ r' x := by
  unfold sB sBr
  rw [lc_Mt h, lc_H h, h.2.1]
theorem lc_V {Λ : mu_Ld} {x : Nat} {r r' : mu_Rw} (h : lc Λ x r r') : sV Λ r x = sV Λ r' x := by
  funext k
  match k with
  | 0 => exact h.2.1
  | 1 => show nI (mu_bc (sH Λ r (nI x))) = _; rw [lc_H h]; rfl
  | 2 => exact lc_Mt h
  | 3 => show sLn Λ (sH Λ r (nI x)) = _; rw [lc_H h]; rfl
  | 4 => show tb (sB Λ r x) = _; rw [lc_B h]; rfl
  | 5 => show sTo Λ r x = sTo Λ r' x; unfold sTo; rw [h.2.2.1]
  | _ + 6 => exact h.1
theorem lc_Mo {Λ : mu_Ld} {x : Nat} {r r' : mu_Rw} (h : lc Λ x r r') : sMo Λ r x = sMo Λ r' x := by
  unfold sMo
  rw [lc_B h, lc_V h]
theorem lc_W {Λ : mu_Ld} {x : Nat} {r r' : mu_Rw} (h : lc Λ x r r') (v : Int32) : lc Λ x (wW r x v) (wW r' x v) := by
  refine ⟨h.1, ?_, h.2.2.1, h.2.2.2⟩
  show upd (rW r) x v x = upd (rW r') x v x
  rw [upd_if, upd_if, if_pos rfl, if_pos rfl]
theorem lc_W1 {Λ : mu_Ld} {x : Nat} {r r' : mu_Rw} (h : lc Λ x r r') : lc Λ x (sW1 Λ r x) (sW1 Λ r' x) := by
  unfold sW1
  rw [lc_Mo h, h.2.1]
  exact lc_W h _
theorem lc_Fa {Λ : mu_Ld} {x : Nat} {r r' : mu_Rw} (h : lc Λ x r r') : sFa Λ r x = sFa Λ r' x := by
  unfold sFa
  rw [lc_B h, lc_V h, lc_H h]
/-- a fold that changes hands and tiredness of a mask -/
theorem up_U (m : Nat) (r : mu_Rw) (n : Nat) : mu_up (fun p q => if m.testBit p then wU q p nN else q) r n = (r.1, r.2.1, r.2.2.1, (fun p => if p < n ∧ m.testBit p = true then nN else rU r p), r.2.2.2.2) := by
  induction n with
  | zero =>
    show r = _
    have : (fun p => if p < 0 ∧ m.testBit p = true then nN else rU r p) = rU r := by
      funext p
      rw [if_neg (fun k => Nat.not_lt_zero p k.1)]
    rw [this]; rfl
  | succ n ih =>
    rw [mu_upS, ih]
    cases hb : m.testBit n
    · rw [if_neg (by decide)]
      have : (fun p => if p < n ∧ m.testBit p = true then nN else rU r p) = (fun p => if p < n + 1 ∧ m.testBit p = true then nN else rU r p) := by
        funext p
        by_cases e : p = n
        · rw [e, hb, if_neg (fun k => by cases k.2), if_neg (fun k => by cases k.2)]
        · have : (p < n) = (p < n + 1) := propext ⟨fun _ => by omega, fun _ => by omega⟩
          simp only [this]
      rw [this]
    · rw [if_pos rfl]
      show (r.1, r.2.1, r.2.2.1, upd (fun p => if p < n ∧ m.testBit p = true then nN else rU r p) n nN, r.2.2.2.2) = _
      have : upd (fun p => if p < n ∧ m.testBit p = true then nN else rU r p) n nN = (fun p => if p < n + 1 ∧ m.testBit p = true then nN else rU r p) := by
        funext p
        rw [upd_if]
        by_cases e : p = n
        · rw [if_pos e, e]
          simp only [hb, Nat.lt_succ_self, and_self, if_true]
        · have : (p < n) = (p < n + 1) := propext ⟨fun _ => by omega, fun _ => by omega⟩
          rw [if_neg e]
          simp only [this]
      rw [this]
theorem up_T (m : Nat) (r : mu_Rw) (n : Nat) : mu_up (fun p q => if m.testBit p then sTi q p else q) r n = (r.1, r.2.1, r.2.2.1, r.2.2.2.1, (fun p => if p < n ∧ m.testBit p = true then (if nI 9 ≤ rT r p then rT r p else rT r p + nI 1) else rT r p)) := by
  induction n with
  | zero =>
    show r = _
    have : (fun p => if p < 0 ∧ m.testBit p = true then (if nI 9 ≤ rT r p then rT r p else rT r p + nI 1) else rT r p) = rT r := by
      funext p
      rw [if_neg (fun k => Nat.not_lt_zero p k.1)]
    rw [this]; rfl
  | succ n ih =>
    rw [mu_upS, ih]
    cases hb : m.testBit n
    · rw [if_neg (by decide)]
      have : (fun p => if p < n ∧ m.testBit p = true then (if nI 9 ≤ rT r p then rT r p else rT r p + nI 1) else rT r p) = (fun p => if p < n + 1 ∧ m.testBit p = true then (if nI 9 ≤ rT r p then rT r p else rT r p + nI 1) else rT r p) := by
        funext p
        by_cases e : p = n
        · rw [e, hb, if_neg (fun k => by cases k.2), if_neg (fun k => by cases k.2)]
        · have : (p < n) = (p < n + 1) := propext ⟨fun _ => by omega, fun _ => by omega⟩
          simp only [this]
      rw [this]
    · rw [if_pos rfl]
      unfold sTi
      have e0 : rT (r.1, r.2.1, r.2.2.1, r.2.2.2.1, (fun p => if p < n ∧ m.testBit p = true then (if nI 9 ≤ rT r p then rT r p else rT r p + nI 1) else rT r p)) n = rT r n := by
        show (if n < n ∧ m.testBit n = true then (if nI 9 ≤ rT r n then rT r n else rT r n + nI 1) else rT r n) = _
        rw [if_neg (fun k => Nat.lt_irrefl n k.1)]
      rw [e0]
      show (r.1, r.2.1, r.2.2.1, r.2.2.2.1, upd (fun p => if p < n ∧ m.testBit p = true then (if nI 9 ≤ rT r p then rT r p else rT r p + nI 1) else rT r p) n (if nI 9 ≤ rT r n then rT r n else rT r n + nI 1)) = _
      have : upd (fun p => if p < n ∧ m.testBit p = true then (if nI 9 ≤ rT r p then rT r p else rT r p + nI 1) else rT r p) n (if nI 9 ≤ rT r n then rT r n else rT r n + nI 1) = (fun p => if p < n + 1 ∧ m.testBit p = true then (if nI 9 ≤ rT r p then rT r p else rT r p + nI 1) else rT r p) := by
        funext p
        rw [upd_if]
        by_cases e : p = n
        · rw [if_pos e, e]
          simp only [hb, Nat.lt_succ_self, and_self, if_true]
        · have : (p < n) = (p < n + 1) := propext ⟨fun _ => by omega, fun _ => by omega⟩
          rw [if_neg e]
          simp only [this]
      rw [this]
theorem lc_Let {Λ : mu_Ld} {x : Nat} {r r' : mu_Rw} (hx : x < 1000) (h : lc Λ x r r') : lc Λ x (sLet Λ r x) (sLet Λ r' x) := by
  unfold sLet
  rw [up_U, up_U, lc_H h, h.2.1]
  refine ⟨h.1, ?_, h.2.2.1, fun p hp => ?_⟩
  · show upd (rW r) x _ x = upd (rW r') x _ x
    rw [upd_if, upd_if, if_pos rfl, if_pos rfl]
  · show ((if p < lP Λ ∧ (sH Λ r' (nI x)).testBit p = true then nN else rU r p) = nI x) = ((if p < lP Λ ∧ (sH Λ r' (nI x)).testBit p = true then nN else rU r' p) = nI x) ∧ ((if p < lP Λ ∧ (sH Λ r' (nI x)).testBit p = true then nN else rU r p) = nI x → rT r p = rT r' p)
    obtain ⟨a, b⟩ := h.2.2.2 p hp
    by_cases c : p < lP Λ ∧ (sH Λ r' (nI x)).testBit p = true
    · rw [if_pos c, if_pos c]
      exact ⟨rfl, fun k => by rw [q_nNe2 (by omega)] at k; exact k.elim⟩
    · rw [if_neg c, if_neg c]
      exact ⟨a, b⟩
theorem lc_Ca {Λ : mu_Ld} {x : Nat} {r r' : mu_Rw} (h : lc Λ x r r') : lc Λ x (sCa Λ r x) (sCa Λ r' x) := by
  unfold sCa sTs
  rw [up_T, up_T, lc_H h, h.2.2.1]
  refine ⟨h.1, h.2.1, ?_, fun p hp => ?_⟩
  · show upd (rS r) x _ x = upd (rS r') x _ x
    rw [upd_if, upd_if, if_pos rfl, if_pos rfl]
  · obtain ⟨a, b⟩ := h.2.2.2 p hp
    refine ⟨a, fun k => ?_⟩
    show (if p < lP Λ ∧ (sH Λ r' (nI x)).testBit p = true then (if nI 9 ≤ rT r p then rT r p else rT r p + nI 1) else rT r p) = (if p < lP Λ ∧ (sH Λ r' (nI x)).testBit p = true then (if nI 9 ≤ rT r' p then rT r' p else rT r' p + nI 1) else rT r' p)
    rw [b k]
/-- the box itself -/
theorem lc_Bx {Λ : mu_Ld} {x : Nat} {r r' : mu_Rw} (hx : x < 1000) (h : lc Λ x r r') : lc Λ x (sBx Λ r x).1 (sBx Λ r' x).1 := by
  have h1 := lc_W1 h
  unfold sBx
  rw [lc_Fa h1, lc_B h1]
  split
  · exact lc_Let hx h1
  · split
    · exact lc_Ca h1
    · exact h1
/-- another box -/
theorem lc_oth {Λ : mu_Ld} {x y : Nat} (h : x ≠ y) (r : mu_Rw) (v : Int32) : lc Λ x (wW r y v) r := by
  refine ⟨rfl, ?_, rfl, fun _ _ => ⟨rfl, fun _ => rfl⟩⟩
  show upd (rW r) y v x = rW r x
  rw [upd_if, if_neg h]
theorem lc_LetY {Λ : mu_Ld} {x y : Nat} (hx : x < 1000) (hxy : x ≠ y) (hne : ¬ nI y = nI x) (q : mu_Rw) : lc Λ x (sLet Λ q y) q := by
  have e := up_U (sH Λ q (nI y)) (wW q y (if nI 1 < rW q y / nI 2 then rW q y / nI 2 else nI 1)) (lP Λ)
  have e' : sLet Λ q y = _ := e
  have h2 := lc_oth (Λ := Λ) hxy q (if nI 1 < rW q y / nI 2 then rW q y / nI 2 else nI 1)
  generalize (if nI 1 < rW q y / nI 2 then rW q y / nI 2 else nI 1) = v at e' h2
  rw [e']
  refine ⟨h2.1, h2.2.1, h2.2.2.1, fun p hp => ?_⟩
  show ((if p < lP Λ ∧ (sH Λ q (nI y)).testBit p = true then nN else rU q p) = nI x) = (rU q p = nI x) ∧ ((if p < lP Λ ∧ (sH Λ q (nI y)).testBit p = true then nN else rU q p) = nI x → rT q p = rT q p)
  refine ⟨?_, fun _ => rfl⟩
  by_cases c : p < lP Λ ∧ (sH Λ q (nI y)).testBit p = true
  · rw [if_pos c, q_nNe2 (by omega)]
    have c2 := c.2
    rw [sH_tb q (nI y) hp, decide_eq_true_eq] at c2
    rw [c2]
    exact (eq_false hne).symm
  · rw [if_neg c]
theorem lc_CaY {Λ : mu_Ld} {x y : Nat} (hxy : x ≠ y) (hne : ¬ nI y = nI x) (q : mu_Rw) : lc Λ x (sCa Λ q y) q := by
  have e := up_T (sH Λ q (nI y)) (wS q y (sNx Λ y (rS q y))) (lP Λ)
  have e' : sCa Λ q y = _ := e
  generalize sNx Λ y (rS q y) = v at e'
  rw [e']
  refine ⟨rfl, rfl, ?_, fun p hp => ⟨rfl, fun k => ?_⟩⟩
  · show upd (rS q) y v x = rS q x
    rw [upd_if, if_neg hxy]
  · show (if p < lP Λ ∧ (sH Λ q (nI y)).testBit p = true then (if nI 9 ≤ rT q p then rT q p else rT q p + nI 1) else rT q p) = rT q p
    rw [if_neg]
    intro c
    have c2 := c.2
    rw [sH_tb q (nI y) hp, decide_eq_true_eq] at c2
    have k' : rU q p = nI x := k
    rw [c2] at k'
    exact hne k'
theorem lc_By {Λ : mu_Ld} {x y : Nat} (hx : x < 1000) (hy : y < 1000) (hxy : x ≠ y) (r : mu_Rw) : lc Λ x (sBx Λ r y).1 r := by
  have hne : ¬ nI y = nI x := by
    rw [q_eqI (by omega) (by omega)]
    omega
  have h1 : lc Λ x (sW1 Λ r y) r := lc_oth hxy r _
  have hL := lc_trans (lc_LetY hx hxy hne (sW1 Λ r y)) h1
  have hK := lc_trans (lc_CaY (Λ := Λ) hxy hne (sW1 Λ r y)) h1
  unfold sBx
  split
  · exact hL
  · split
    · exact hK
    · exact h1
theorem lc_Bs {Λ : mu_Ld} {x : Nat} (hx : x < 1000) (r : mu_Rw) : ∀ n, n ≤ 1000 → lc Λ x (sBs Λ r n).1 (if x < n then (sBx Λ r x).1 else r) := by
  intro n
  induction n with
  | zero => intro _; rw [if_neg (Nat.not_lt_zero x)]; exact lc_refl _ _ _
  | succ n ih =>
    intro hn
    have e : (sBs Λ r (n + 1)).1 = (sBx Λ (sBs Λ r n).1 n).1 := rfl
    rw [e]
    have hi := ih (by omega)
    by_cases c : x = n
    · subst c
      rw [if_neg (Nat.lt_irrefl x)] at hi
      rw [if_pos (Nat.lt_succ_self x)]
      exact lc_Bx hx hi
    · have h2 := lc_By (Λ := Λ) hx (show n < 1000 by omega) c (sBs Λ r n).1
      have e2 : (x < n) = (x < n + 1) := propext ⟨fun _ => by omega, fun _ => by omega⟩
      simp only [e2] at hi
      exact lc_trans h2 hi
theorem lc_Re {Λ : mu_Ld} {x : Nat} (hx : x < 1000) (st : Nat) (r : mu_Rw) (n : Nat) : lc Λ x (sRe Λ st r n) r ∧ rU (sRe Λ st r n) = rU r := by
  unfold sRe
  refine mu_up_inv (fun _ q => lc Λ x q r ∧ rU q = rU r) r ⟨lc_refl _ _ _, rfl⟩ n ?_
  intro p q hp ⟨h1, h2⟩
  split
  · rename_i c
    refine ⟨⟨h1.1, h1.2.1, h1.2.2.1, fun k hk => ⟨(h1.2.2.2 k hk).1, fun e => ?_⟩⟩, h2⟩
    show upd (rT q) p _ k = rT r k
    rw [upd_if]
    by_cases d : k = p
    · have e' : rU q k = nI x := e
      rw [d, c.1, q_nNe2 (by omega)] at e'
      exact e'.elim
    · rw [if_neg d]; exact (h1.2.2.2 k hk).2 e
  · exact ⟨h1, h2⟩
/-- a day of one box alone -/
def so (Λ : mu_Ld) (x : Nat) (r : mu_Rw) : mu_Rw := wD (sBx Λ r x).1 (rD (sBx Λ r x).1 + nI 1)
theorem lc_D {Λ : mu_Ld} {x : Nat} {r r' : mu_Rw} (h : lc Λ x r r') : lc Λ x (wD r (rD r + nI 1)) (wD r' (rD r' + nI 1)) := ⟨by show rD r + nI 1 = rD r' + nI 1; rw [h.1], h.2⟩
theorem lc_Dy {Λ : mu_Ld} {x : Nat} (lo : lOK Λ) (hx : x < lB Λ) {r r' : mu_Rw} (h : lc Λ x r r') : lc Λ x (sDy Λ r) (so Λ x r') := by
  have l1 := lo.1
  unfold sDy so
  apply lc_D
  have h1 := lc_Bs (Λ := Λ) (x := x) (by omega) r (lB Λ) (by omega)
  rw [if_pos hx] at h1
  exact lc_trans (lc_Re (by omega) _ _ _).1 (lc_trans h1 (lc_Bx (by omega) h))
def soN (Λ : mu_Ld) (x : Nat) (r : mu_Rw) (n : Nat) : mu_Rw := mu_up (fun _ q => so Λ x q) r n
theorem lc_Dn {Λ : mu_Ld} {x : Nat} (lo : lOK Λ) (hx : x < lB Λ) {r r' : mu_Rw} (h : lc Λ x r r') (n : Nat) : lc Λ x (sDn Λ r n) (soN Λ x r' n) := by
  induction n with
  | zero => exact h
  | succ n ih => exact lc_Dy lo hx ih
/-- the weight of a box behind days is that of the box alone -/
theorem lc_w {Λ : mu_Ld} {x : Nat} (lo : lOK Λ) (hx : x < lB Λ) {r r' : mu_Rw} (h : lc Λ x r r') (n : Nat) : rW (sDn Λ r n) x = rW (soN Λ x r' n) x := (lc_Dn lo hx h n).2.1
