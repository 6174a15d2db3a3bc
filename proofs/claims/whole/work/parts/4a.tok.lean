/-! the text and its tokens -/
theorem z_25 : (25 : Int32) = nI 25 := by decide
theorem z_26 : (26 : Int32) = nI 26 := by decide
theorem z_27 : (27 : Int32) = nI 27 := by decide
theorem z_28 : (28 : Int32) = nI 28 := by decide
theorem z_32 : (32 : Int32) = nI 32 := by decide
theorem z_33 : (33 : Int32) = nI 33 := by decide
theorem z_34 : (34 : Int32) = nI 34 := by decide
theorem z_35 : (35 : Int32) = nI 35 := by decide
theorem z_41 : (41 : Int32) = nI 41 := by decide
theorem z_43 : (43 : Int32) = nI 43 := by decide
theorem z_45 : (45 : Int32) = nI 45 := by decide
theorem z_47 : (47 : Int32) = nI 47 := by decide
theorem z_57 : (57 : Int32) = nI 57 := by decide
theorem z_58 : (58 : Int32) = nI 58 := by decide
theorem z_59 : (59 : Int32) = nI 59 := by decide
theorem z_60 : (60 : Int32) = nI 60 := by decide
theorem z_61 : (61 : Int32) = nI 61 := by decide
theorem z_64 : (64 : Int32) = nI 64 := by decide
theorem z_95 : (95 : Int32) = nI 95 := by decide
theorem z_122 : (122 : Int32) = nI 122 := by decide
theorem z_950 : (950 : Int32) = nI 950 := by decide
theorem z_9999 : (9999 : Int32) = nI 9999 := by decide
abbrev mu_X : Type := Nat × (Nat → Nat)
def tBl (b : Nat) : Bool := decide (b = 32 ∨ b = 10)
def tLe (b : Nat) : Bool := decide (97 ≤ b ∧ b ≤ 122)
def tDi (b : Nat) : Bool := decide (48 ≤ b ∧ b ≤ 57)
def tSg (b : Nat) : Bool := decide (b = 59 ∨ b = 40 ∨ b = 41 ∨ b = 43 ∨ b = 45 ∨ b = 42 ∨ b = 47 ∨ b = 60 ∨ b = 61)
/-- a run of bytes of one sort -/
def rnF (P : Nat → Bool) (n : Nat) : Nat → Nat → Nat
  | 0, p => p
  | k + 1, p => if p < n ∧ P p = true then rnF P n k (p + 1) else p
def rn (P : Nat → Bool) (n p : Nat) : Nat := rnF P n (n - p) p
theorem rn_t {P : Nat → Bool} {n p : Nat} (h : p < n) (h' : P p = true) : rn P n p = rn P n (p + 1) := by
  unfold rn
  have : n - p = (n - (p + 1)) + 1 := by omega
  rw [this, rnF, if_pos ⟨h, h'⟩]
theorem rn_f {P : Nat → Bool} {n p : Nat} (h : ¬ (p < n ∧ P p = true)) : rn P n p = p := by
  unfold rn
  cases n - p with
  | zero => rfl
  | succ k => rw [rnF, if_neg h]
theorem rn_ind {P : Nat → Bool} {n : Nat} (Q : Nat → Prop) (h0 : ∀ p, ¬ (p < n ∧ P p = true) → Q p) (h1 : ∀ p, p < n → P p = true → Q (p + 1) → Q p) : ∀ p, Q p := by
  have key : ∀ k p, n - p = k → Q p := by
    intro k
    induction k with
    | zero => intro p hp; exact h0 p (fun c => by omega)
    | succ k ih =>
      intro p hp
      by_cases c : p < n ∧ P p = true
      · exact h1 p c.1 c.2 (ih (p + 1) (by omega))
      · exact h0 p c
  exact fun p => key _ p rfl
theorem rn_ge (P : Nat → Bool) (n p : Nat) : p ≤ rn P n p := by
  refine rn_ind (P := P) (n := n) (fun p => p ≤ rn P n p) (fun p h => ?_) (fun p h1 h2 h3 => ?_) p
  · rw [rn_f h]; exact Nat.le_refl p
  · rw [rn_t h1 h2]; omega
theorem rn_le (P : Nat → Bool) {n p : Nat} (h : p ≤ n) : rn P n p ≤ n := by
  revert h
  refine rn_ind (P := P) (n := n) (fun p => p ≤ n → rn P n p ≤ n) (fun p h k => ?_) (fun p h1 h2 h3 k => ?_) p
  · rw [rn_f h]; exact k
  · rw [rn_t h1 h2]; exact h3 (by omega)
theorem rn_lo (P : Nat → Bool) (n p : Nat) : ∀ i, p ≤ i → i < rn P n p → i < n ∧ P i = true := by
  refine rn_ind (P := P) (n := n) (fun p => ∀ i, p ≤ i → i < rn P n p → i < n ∧ P i = true) (fun p h i a b => ?_) (fun p h1 h2 h3 i a b => ?_) p
  · rw [rn_f h] at b; omega
  · rw [rn_t h1 h2] at b
    by_cases c : i = p
    · rw [c]; exact ⟨h1, h2⟩
    · exact h3 i (by omega) b
theorem rn_end (P : Nat → Bool) (n p : Nat) : ¬ (rn P n p < n ∧ P (rn P n p) = true) := by
  refine rn_ind (P := P) (n := n) (fun p => ¬ (rn P n p < n ∧ P (rn P n p) = true)) (fun p h => ?_) (fun p h1 h2 h3 => ?_) p
  · rw [rn_f h]; exact h
  · rw [rn_t h1 h2]; exact h3
/-- the token behind a place -/
def tS (X : mu_X) (c : Nat) : Nat := rn (fun i => tBl (X.2 i)) X.1 c
def tK (X : mu_X) (c : Nat) : Nat := if X.1 ≤ tS X c then 0 else if tLe (X.2 (tS X c)) = true then 1 else if tDi (X.2 (tS X c)) = true then 2 else if tSg (X.2 (tS X c)) = true then 3 else 4
def tE (X : mu_X) (c : Nat) : Nat := if tK X c = 0 then tS X c else if tK X c = 1 then rn (fun i => tLe (X.2 i)) X.1 (tS X c) else if tK X c = 2 then rn (fun i => tDi (X.2 i)) X.1 (tS X c) else tS X c + 1
def tLn (X : mu_X) (c : Nat) : Nat := tE X c - tS X c
def dVl (T : Nat → Nat) (s : Nat) : Nat → Nat
  | 0 => 0
  | k + 1 => 10 * dVl T s k + (T (s + k) - 48)
def dF (d : Nat → Nat) : Nat → Nat
  | 0 => 0
  | k + 1 => 32 * dF d k + d k
def dW (T : Nat → Nat) (s k : Nat) : Nat := dF (fun i => T (s + i) - 96) k
def tV (X : mu_X) (c : Nat) : Nat := if tK X c = 2 then dVl X.2 (tS X c) (if tLn X c < 4 then tLn X c else 4) else 0
def tNm (X : mu_X) (c : Nat) : Nat := if tK X c = 2 then dVl X.2 (tS X c) (tLn X c) else 0
def btA (X : mu_X) (p : Nat) : Nat := if p < X.1 then X.2 p else 0
theorem tS_ge (X : mu_X) (c : Nat) : c ≤ tS X c := rn_ge _ _ _
theorem tS_le {X : mu_X} {c : Nat} (h : c ≤ X.1) : tS X c ≤ X.1 := rn_le _ h
theorem tK_4 (X : mu_X) (c : Nat) : tK X c ≤ 4 := by
  unfold tK
  repeat' split
  all_goals omega
theorem tK_0 (X : mu_X) (c : Nat) : tK X c = 0 ↔ X.1 ≤ tS X c := by
  unfold tK
  repeat' split
  all_goals omega
theorem tK_1 {X : mu_X} {c : Nat} (h : tK X c = 1) : tS X c < X.1 ∧ tLe (X.2 (tS X c)) = true := by
  unfold tK at h
  by_cases a : X.1 ≤ tS X c
  · rw [if_pos a] at h; cases h
  · rw [if_neg a] at h
    by_cases b : tLe (X.2 (tS X c)) = true
    · exact ⟨by omega, b⟩
    · rw [if_neg b] at h
      split at h
      · cases h
      · split at h <;> cases h
theorem tK_2 {X : mu_X} {c : Nat} (h : tK X c = 2) : tS X c < X.1 ∧ tDi (X.2 (tS X c)) = true := by
  unfold tK at h
  by_cases a : X.1 ≤ tS X c
  · rw [if_pos a] at h; cases h
  · rw [if_neg a] at h
    by_cases b : tLe (X.2 (tS X c)) = true
    · rw [if_pos b] at h; cases h
    · rw [if_neg b] at h
      by_cases d : tDi (X.2 (tS X c)) = true
      · exact ⟨by omega, d⟩
      · rw [if_neg d] at h
        split at h <;> cases h
theorem tK_pos {X : mu_X} {c : Nat} (h : tK X c ≠ 0) : tS X c < X.1 := by
  have : ¬ X.1 ≤ tS X c := fun k => h ((tK_0 X c).mpr k)
  omega
theorem tE_ge (X : mu_X) (c : Nat) : tS X c ≤ tE X c := by
  unfold tE
  repeat' split
  · exact Nat.le_refl _
  · exact rn_ge _ _ _
  · exact rn_ge _ _ _
  · omega
theorem tE_gt {X : mu_X} {c : Nat} (h : tK X c ≠ 0) : tS X c < tE X c := by
  unfold tE
  rw [if_neg h]
  split
  · rename_i k
    rw [rn_t (tK_1 k).1 (tK_1 k).2]
    have := rn_ge (fun i => tLe (X.2 i)) X.1 (tS X c + 1)
    omega
  · split
    · rename_i k
      rw [rn_t (tK_2 k).1 (tK_2 k).2]
      have := rn_ge (fun i => tDi (X.2 i)) X.1 (tS X c + 1)
      omega
    · omega
theorem tE_le {X : mu_X} {c : Nat} (h : c ≤ X.1) : tE X c ≤ X.1 := by
  have h1 := tS_le h
  by_cases k : tK X c = 0
  · unfold tE; rw [if_pos k]; exact h1
  · have := tK_pos k
    unfold tE
    rw [if_neg k]
    split
    · exact rn_le _ h1
    · split
      · exact rn_le _ h1
      · omega
theorem tE_c (X : mu_X) (c : Nat) : c ≤ tE X c := Nat.le_trans (tS_ge X c) (tE_ge X c)
theorem tE_c' {X : mu_X} {c : Nat} (h : tK X c ≠ 0) : c + 1 ≤ tE X c := Nat.lt_of_le_of_lt (tS_ge X c) (tE_gt h)
theorem dVl_lt {T : Nat → Nat} {s : Nat} : ∀ k, (∀ i, i < k → tDi (T (s + i)) = true) → dVl T s k < 10 ^ k := by
  intro k
  induction k with
  | zero => intro _; exact Nat.zero_lt_one
  | succ k ih =>
    intro h
    have h1 := ih (fun i hi => h i (by omega))
    have h2 := h k (by omega)
    unfold tDi at h2
    rw [decide_eq_true_eq] at h2
    show 10 * dVl T s k + (T (s + k) - 48) < 10 ^ (k + 1)
    rw [Nat.pow_succ]
    omega
theorem tN_di {X : mu_X} {c : Nat} (h : tK X c = 2) : ∀ i, i < tLn X c → tS X c + i < X.1 ∧ tDi (X.2 (tS X c + i)) = true := by
  intro i hi
  have e : tE X c = rn (fun i => tDi (X.2 i)) X.1 (tS X c) := by unfold tE; rw [if_neg (by omega), if_neg (by omega), if_pos h]
  unfold tLn at hi
  rw [e] at hi
  exact rn_lo (fun i => tDi (X.2 i)) X.1 (tS X c) (tS X c + i) (by omega) (by omega)
theorem tW_le {X : mu_X} {c : Nat} (h : tK X c = 1) : ∀ i, i < tLn X c → tS X c + i < X.1 ∧ tLe (X.2 (tS X c + i)) = true := by
  intro i hi
  have e : tE X c = rn (fun i => tLe (X.2 i)) X.1 (tS X c) := by unfold tE; rw [if_neg (by omega), if_pos h]
  unfold tLn at hi
  rw [e] at hi
  exact rn_lo (fun i => tLe (X.2 i)) X.1 (tS X c) (tS X c + i) (by omega) (by omega)
theorem tV_lt (X : mu_X) (c : Nat) : tV X c < 10000 := by
  unfold tV
  split
  · rename_i k
    have h := tN_di k
    have h1 : dVl X.2 (tS X c) (if tLn X c < 4 then tLn X c else 4) < 10 ^ (if tLn X c < 4 then tLn X c else 4) := dVl_lt _ (fun i hi => by
      refine (h i ?_).2
      split at hi <;> omega)
    have h2 : 10 ^ (if tLn X c < 4 then tLn X c else 4) ≤ 10 ^ 4 := Nat.pow_le_pow_right (by omega) (by split <;> omega)
    omega
  · omega
theorem tN_V {X : mu_X} {c : Nat} (h : tLn X c ≤ 4) : tNm X c = tV X c := by
  unfold tNm tV
  by_cases k : tLn X c < 4
  · rw [if_pos k]
  · rw [if_neg k, show tLn X c = 4 by omega]
/-- known words -/
def wl : Nat → List Nat
  | 0 => [119, 101, 105, 103, 104, 116]
  | 1 => [104, 97, 110, 100, 115]
  | 2 => [109, 105, 103, 104, 116]
  | 3 => [108, 101, 97, 110]
  | 4 => [98, 111, 114, 110, 101]
  | 5 => [116, 111, 119, 110]
  | 6 => [100, 97, 121]
  | 7 => [116, 111, 119, 110, 115]
  | 8 => [114, 111, 97, 100]
  | 9 => [98, 111, 120]
  | 10 => [98, 101, 97, 114, 101, 114]
  | 11 => [117, 110, 100, 101, 114]
  | 12 => [116, 97, 108, 107]
  | 13 => [102, 97, 108, 108, 115]
  | 14 => [97, 110, 100]
  | 15 => [111, 114]
  | _ => [110, 111, 116]
def kc (j : Nat) : Nat := dF (fun i => (wl j).getD i 0 - 96) (wl j).length
def kf (w : Nat) : Nat → Nat → Nat
  | 0, _ => 17
  | n + 1, k => if kc k = w then k else kf w n (k + 1)
def kW (X : mu_X) (c : Nat) : Nat := if tK X c = 1 ∧ tLn X c ≤ 6 then kf (dW X.2 (tS X c) (tLn X c)) 17 0 else 17
theorem dF_lt {d : Nat → Nat} : ∀ k, (∀ i, i < k → d i < 32) → dF d k < 32 ^ k := by
  intro k
  induction k with
  | zero => intro _; exact Nat.zero_lt_one
  | succ k ih =>
    intro h
    have h1 := ih (fun i hi => h i (by omega))
    have h2 := h k (by omega)
    show 32 * dF d k + d k < 32 ^ (k + 1)
    rw [Nat.pow_succ]
    omega
theorem dF_inj {d d' : Nat → Nat} : ∀ a b, (∀ i, i < a → 1 ≤ d i ∧ d i < 32) → (∀ i, i < b → 1 ≤ d' i ∧ d' i < 32) → dF d a = dF d' b → a = b ∧ ∀ i, i < a → d i = d' i := by
  intro a
  induction a with
  | zero =>
    intro b _ h2 e
    cases b with
    | zero => exact ⟨rfl, fun i hi => absurd hi (Nat.not_lt_zero i)⟩
    | succ b =>
      have := h2 b (by omega)
      have e' : (0 : Nat) = 32 * dF d' b + d' b := e
      omega
  | succ a ih =>
    intro b h1 h2 e
    have q1 := h1 a (by omega)
    cases b with
    | zero =>
      have e' : 32 * dF d a + d a = (0 : Nat) := e
      omega
    | succ b =>
      have q2 := h2 b (by omega)
      have e' : 32 * dF d a + d a = 32 * dF d' b + d' b := e
      obtain ⟨i1, i2⟩ := ih b (fun i hi => h1 i (by omega)) (fun i hi => h2 i (by omega)) (by omega)
      subst i1
      refine ⟨rfl, fun i hi => ?_⟩
      by_cases c : i = a
      · rw [c]; omega
      · exact i2 i (by omega)
theorem wl_ok : ∀ j, j < 17 → (wl j).length ≤ 6 ∧ 2 ≤ (wl j).length ∧ ∀ i, i < (wl j).length → 97 ≤ (wl j).getD i 0 ∧ (wl j).getD i 0 ≤ 122 := by decide
theorem kf_kc : ∀ j, j < 17 → kf (kc j) 17 0 = j := by decide
theorem kf_of {w : Nat} : ∀ n k j, k + n = 17 → kf w n k = j → j < 17 → kc j = w := by
  intro n
  induction n with
  | zero => intro k j _ e hj; have e' : 17 = j := e; omega
  | succ n ih =>
    intro k j hk e hj
    unfold kf at e
    by_cases c : kc k = w
    · rw [if_pos c] at e; rw [← e]; exact c
    · rw [if_neg c] at e; exact ih (k + 1) j (by omega) e hj
theorem kf_le (w : Nat) : ∀ n k, k + n = 17 → kf w n k ≤ 17 := by
  intro n
  induction n with
  | zero => intro k _; exact Nat.le_refl 17
  | succ n ih =>
    intro k hk
    unfold kf
    split
    · omega
    · exact ih (k + 1) (by omega)
theorem kW_le (X : mu_X) (c : Nat) : kW X c ≤ 17 := by
  unfold kW
  split
  · exact kf_le _ 17 0 rfl
  · exact Nat.le_refl 17
theorem le_di {b : Nat} (h : tLe b = true) : 1 ≤ b - 96 ∧ b - 96 < 32 ∧ 97 ≤ b ∧ b ≤ 122 := by
  unfold tLe at h
  rw [decide_eq_true_eq] at h
  omega
theorem kW_iff (X : mu_X) (c : Nat) {j : Nat} (hj : j < 17) : kW X c = j ↔ tK X c = 1 ∧ tLn X c = (wl j).length ∧ ∀ i, i < (wl j).length → X.2 (tS X c + i) = (wl j).getD i 0 := by
  obtain ⟨o1, o2, o3⟩ := wl_ok j hj
  constructor
  · intro h
    unfold kW at h
    by_cases q : tK X c = 1 ∧ tLn X c ≤ 6
    · rw [if_pos q] at h
      have e := kf_of 17 0 j rfl h hj
      have hw := tW_le q.1
      obtain ⟨a1, a2⟩ := dF_inj (wl j).length (tLn X c) (fun i hi => by have := o3 i hi; omega) (fun i hi => by have := le_di (hw i hi).2; omega) e
      refine ⟨q.1, a1.symm, fun i hi => ?_⟩
      have b1 := a2 i hi
      have b2 := o3 i hi
      have b3 := le_di (hw i (by omega)).2
      omega
    · rw [if_neg q] at h; omega
  · intro ⟨h1, h2, h3⟩
    unfold kW
    rw [if_pos ⟨h1, by omega⟩]
    have : dW X.2 (tS X c) (tLn X c) = kc j := by
      rw [h2]
      unfold dW kc
      have : ∀ k, k ≤ (wl j).length → dF (fun i => X.2 (tS X c + i) - 96) k = dF (fun i => (wl j).getD i 0 - 96) k := by
        intro k
        induction k with
        | zero => intro _; rfl
        | succ k ih =>
          intro hk
          show 32 * dF (fun i => X.2 (tS X c + i) - 96) k + (X.2 (tS X c + k) - 96) = 32 * dF (fun i => (wl j).getD i 0 - 96) k + ((wl j).getD k 0 - 96)
          rw [ih (by omega), h3 k (by omega)]
      exact this _ (Nat.le_refl _)
    rw [this]
    exact kf_kc j hj
theorem kW_1 {X : mu_X} {c : Nat} (h : kW X c < 17) : tK X c = 1 := ((kW_iff X c h).mp rfl).1
theorem kW_len {X : mu_X} {c : Nat} (h : kW X c < 17) : tLn X c = (wl (kW X c)).length := ((kW_iff X c h).mp rfl).2.1
/-- a sign -/
def sg (X : mu_X) (c b : Nat) : Bool := decide (tK X c = 3 ∧ X.2 (tS X c) = b)
/-! bytes of the class -/
def sb (b : Nat) : Int32 := (nI b).toInt8.toInt32
theorem sb_all : ∀ b, b < 256 → (b < 128 → sb b = nI b) ∧ (128 ≤ b → sb b < 0) := by decide +kernel
theorem sb_eq {b v : Nat} (hb : b < 256) (hv : v < 128) : (sb b = nI v) = (b = v) := by
  obtain ⟨h1, h2⟩ := sb_all b hb
  by_cases c : b < 128
  · rw [h1 c, q_eqI (by omega) (by omega)]
  · apply propext
    constructor
    · intro e
      have := h2 (by omega)
      rw [e] at this
      exact absurd this (nI_pos (by omega))
    · intro e; omega
theorem sb_ixF : ∀ b, b < 256 → (en_ixF ((((sb b) &&& 255).toUInt32 % 65536).toInt32) [59, 40, 41, 43, 45, 42, 47, 60, 61] 0 < 0 ↔ tSg b = false) := by decide +kernel
theorem sb_le : ∀ b, b < 256 → ((sb b < 97 → tLe b = false) ∧ ((122 : Int32) < sb b → tLe b = false) ∧ (¬ sb b < 97 → ¬ (122 : Int32) < sb b → tLe b = true)) := by decide +kernel
theorem sb_di : ∀ b, b < 256 → ((sb b < 48 → tDi b = false) ∧ ((57 : Int32) < sb b → tDi b = false) ∧ (¬ sb b < 48 → ¬ (57 : Int32) < sb b → tDi b = true)) := by decide +kernel
theorem c_isLetter (σ : en_S) {b : Nat} (hb : b < 256) : x_rd_isLetter_0 σ (sb b) = rI (tb (tLe b)) σ := by
  obtain ⟨h1, h2, h3⟩ := sb_le b hb
  rw [e_rd_isLetter_0]
  by_cases c1 : sb b < 97
  · rw [if_pos c1, h1 c1]; rfl
  · rw [if_neg c1]
    by_cases c2 : (122 : Int32) < sb b
    · rw [if_pos c2, h2 c2]; rfl
    · rw [if_neg c2, h3 c1 c2]; rfl
theorem c_isDigit (σ : en_S) {b : Nat} (hb : b < 256) : x_rd_isDigit_0 σ (sb b) = rI (tb (tDi b)) σ := by
  obtain ⟨h1, h2, h3⟩ := sb_di b hb
  rw [e_rd_isDigit_0]
  by_cases c1 : sb b < 48
  · rw [if_pos c1, h1 c1]; rfl
  · rw [if_neg c1]
    by_cases c2 : (57 : Int32) < sb b
    · rw [if_pos c2, h2 c2]; rfl
    · rw [if_neg c2, h3 c1 c2]; rfl
/-- what the class's reader holds of the text -/
def XOK (X : mu_X) : Prop := X.1 ≤ 700 ∧ ∀ i, i < X.1 → X.2 i < 256
def CT0 (X : mu_X) (f : Nat → Nat → Int32) : Prop := f 66 2 = nI X.1 ∧ ∀ i, i < X.1 → f 32 i = sb (X.2 i)
def CT (X : mu_X) (c : Nat) (f : Nat → Nat → Int32) : Prop := CT0 X f ∧ f 66 3 = nI (tS X c) ∧ f 66 4 = nI (tE X c) ∧ f 66 5 = nI (tK X c) ∧ f 66 6 = nI (tNm X c)
theorem CT0_of {X : mu_X} {f f' : Nat → Nat → Int32} (h : CT0 X f) (e : f' 66 2 = f 66 2) (e2 : ∀ i, f' 32 i = f 32 i) : CT0 X f' := ⟨by rw [e]; exact h.1, fun i hi => by rw [e2]; exact h.2 i hi⟩
theorem CT_of {X : mu_X} {c : Nat} {f f' : Nat → Nat → Int32} (h : CT X c f) (e : ∀ i, 2 ≤ i → i ≤ 6 → f' 66 i = f 66 i) (e2 : ∀ i, f' 32 i = f 32 i) : CT X c f' :=
  ⟨CT0_of h.1 (e 2 (by omega) (by omega)) e2, by rw [e 3 (by omega) (by omega)]; exact h.2.1, by rw [e 4 (by omega) (by omega)]; exact h.2.2.1, by rw [e 5 (by omega) (by omega)]; exact h.2.2.2.1, by rw [e 6 (by omega) (by omega)]; exact h.2.2.2.2⟩
/-- the reader goes on: what stays -/
def CN (f f' : Nat → Nat → Int32) : Prop := ∀ p i, (p ≠ 66 ∨ i < 3 ∨ 6 < i) → f' p i = f p i
theorem CN_refl (f : Nat → Nat → Int32) : CN f f := fun _ _ _ => rfl
theorem CN_trans {f f' f'' : Nat → Nat → Int32} (h : CN f f') (h' : CN f' f'') : CN f f'' := fun p i a => (h' p i a).trans (h p i a)
theorem CN_u (f : Nat → Nat → Int32) {i : Nat} (v : Int32) (h : 3 ≤ i ∧ i ≤ 6) : CN f (en_u1 f 66 i v) := fun p j a => u1_ne _ _ (by omega)
theorem CN_0 {X : mu_X} {f f' : Nat → Nat → Int32} (h : CT0 X f) (n : CN f f') : CT0 X f' := CT0_of h (n 66 2 (by omega)) (fun i => n 32 i (by omega))
