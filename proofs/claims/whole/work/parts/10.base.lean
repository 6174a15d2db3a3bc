/-! THE MATHEMATICS, base: numbers, masks, loops, stores -/
theorem q_0 : (0 : Int32) = nI 0 := by decide
theorem q_1 : (1 : Int32) = nI 1 := by decide
theorem q_2 : (2 : Int32) = nI 2 := by decide
theorem q_3 : (3 : Int32) = nI 3 := by decide
theorem q_4 : (4 : Int32) = nI 4 := by decide
theorem q_5 : (5 : Int32) = nI 5 := by decide
theorem q_6 : (6 : Int32) = nI 6 := by decide
theorem q_7 : (7 : Int32) = nI 7 := by decide
theorem q_8 : (8 : Int32) = nI 8 := by decide
theorem q_9 : (9 : Int32) = nI 9 := by decide
theorem q_10 : (10 : Int32) = nI 10 := by decide
theorem q_11 : (11 : Int32) = nI 11 := by decide
theorem q_12 : (12 : Int32) = nI 12 := by decide
theorem q_13 : (13 : Int32) = nI 13 := by decide
theorem q_14 : (14 : Int32) = nI 14 := by decide
theorem q_15 : (15 : Int32) = nI 15 := by decide
theorem q_16 : (16 : Int32) = nI 16 := by decide
theorem q_17 : (17 : Int32) = nI 17 := by decide
theorem q_18 : (18 : Int32) = nI 18 := by decide
theorem q_19 : (19 : Int32) = nI 19 := by decide
theorem q_20 : (20 : Int32) = nI 20 := by decide
theorem q_21 : (21 : Int32) = nI 21 := by decide
theorem q_22 : (22 : Int32) = nI 22 := by decide
theorem q_23 : (23 : Int32) = nI 23 := by decide
theorem q_24 : (24 : Int32) = nI 24 := by decide
theorem q_29 : (29 : Int32) = nI 29 := by decide
theorem q_30 : (30 : Int32) = nI 30 := by decide
theorem q_31 : (31 : Int32) = nI 31 := by decide
theorem q_36 : (36 : Int32) = nI 36 := by decide
theorem q_42 : (42 : Int32) = nI 42 := by decide
theorem q_50 : (50 : Int32) = nI 50 := by decide
theorem q_40 : (40 : Int32) = nI 40 := by decide
theorem q_48 : (48 : Int32) = nI 48 := by decide
theorem q_96 : (96 : Int32) = nI 96 := by decide
theorem q_97 : (97 : Int32) = nI 97 := by decide
theorem q_99 : (99 : Int32) = nI 99 := by decide
theorem q_100 : (100 : Int32) = nI 100 := by decide
theorem q_255 : (255 : Int32) = nI 255 := by decide
theorem q_256 : (256 : Int32) = nI 256 := by decide
theorem q_700 : (700 : Int32) = nI 700 := by decide
theorem q_999 : (999 : Int32) = nI 999 := by decide
theorem q_1160 : (1160 : Int32) = nI 1160 := by decide
theorem q_1400 : (1400 : Int32) = nI 1400 := by decide
theorem q_99999 : (99999 : Int32) = nI 99999 := by decide
def nN : Int32 := -1
theorem q_m1 : -nI 1 = nN := by decide
theorem fa_and (a b : Nat) : nI a &&& nI b = nI (a &&& b) := by
  apply Int32.toBitVec_inj.1
  show BitVec.ofNat 32 a &&& BitVec.ofNat 32 b = BitVec.ofNat 32 (a &&& b)
  apply BitVec.eq_of_getLsbD_eq
  intro i hi
  simp [hi]
theorem fa_or (a b : Nat) : nI a ||| nI b = nI (a ||| b) := by
  apply Int32.toBitVec_inj.1
  show BitVec.ofNat 32 a ||| BitVec.ofNat 32 b = BitVec.ofNat 32 (a ||| b)
  apply BitVec.eq_of_getLsbD_eq
  intro i hi
  simp [hi]
theorem q_clamp {n : Nat} (h : n < 2147483648) : (nI n).toNatClampNeg = n := nI_clamp h
theorem q_in {k n : Nat} (h : k < n) (hn : n < 2147483648) : en_in (nI k) n = True := eq_true (nI_in h hn)
theorem q_leI {a b : Nat} (ha : a < 2147483648) (hb : b < 2147483648) : (nI a ≤ nI b) = (a ≤ b) := propext (nI_leI ha hb)
theorem q_ltI {a b : Nat} (ha : a < 2147483648) (hb : b < 2147483648) : (nI a < nI b) = (a < b) := propext (nI_ltI ha hb)
theorem q_eqI {a b : Nat} (ha : a < 2147483648) (hb : b < 2147483648) : (nI a = nI b) = (a = b) := propext (nI_eq ha hb)
theorem q_nNe {a : Nat} (ha : a < 2147483648) : (nI a = nN) = False := by
  apply eq_false
  intro h
  have h1 : (nI a).toInt = nN.toInt := by rw [h]
  rw [nI_toInt (by simpa using ha)] at h1
  have h2 : nN.toInt = -1 := by decide
  omega
theorem q_nNe2 {a : Nat} (ha : a < 2147483648) : (nN = nI a) = False := by
  apply eq_false
  intro h
  have := q_nNe ha
  rw [h] at this
  simp at this
theorem q_nNlt {a : Nat} (ha : a < 2147483648) : (nN < nI a) = True := by
  apply eq_true
  rw [Int32.lt_iff_toInt_lt, nI_toInt (by simpa using ha)]
  have h2 : nN.toInt = -1 := by decide
  omega
theorem s_l : ∀ n, n < 32 → ((nI n &&& nI 31).toBitVec.smod 32).toNat = n := by decide
theorem q_shl {p : Nat} (h : p < 31) : nI 1 <<< (nI p &&& nI 31) = nI (2 ^ p) := by
  have h2 : 2 ^ p < 2 ^ 31 := Nat.pow_lt_pow_right (by omega) h
  have := pk_shlN (n := 1) (nI p &&& nI 31) p (s_l p (by omega)) (by omega)
  rw [this, Nat.one_mul]
theorem q_bit {m p : Nat} (hm : m < 2147483648) (h : p < 31) : (nI m >>> (nI p &&& nI 31)) &&& nI 1 = nI (m.testBit p).toNat := by
  rw [pk_shrN (by simpa using hm) (nI p &&& nI 31) p (s_l p (by omega)), fa_and, Nat.and_one_is_mod, Nat.testBit_eq_decide_div_mod_eq]
  congr 1
  rcases Nat.mod_two_eq_zero_or_one (m / 2 ^ p) with e | e <;> rw [e] <;> rfl
theorem q_bit1 {m p : Nat} (hm : m < 2147483648) (h : p < 31) : ((nI m >>> (nI p &&& nI 31)) &&& nI 1 = nI 1) = (m.testBit p = true) := by
  rw [q_bit hm h]
  cases m.testBit p
  · exact propext ⟨fun k => absurd k (by decide), fun k => absurd k (by decide)⟩
  · exact propext ⟨fun _ => rfl, fun _ => rfl⟩
theorem q_bit0 {m p : Nat} (hm : m < 2147483648) (h : p < 31) : ((nI m >>> (nI p &&& nI 31)) &&& nI 1 = nI 0) = (m.testBit p = false) := by
  rw [q_bit hm h]
  cases m.testBit p
  · exact propext ⟨fun _ => rfl, fun _ => rfl⟩
  · exact propext ⟨fun k => absurd k (by decide), fun k => absurd k (by decide)⟩
/-- results -/
def rI (v : Int32) (σ : en_S) : Option en_O := some (.inl (some (.int v)), σ)
def rV (σ : en_S) : Option en_O := some (.inl none, σ)
theorem c_I (v : Int32) (σ : en_S) (ki : Int32 → en_S → Option en_O) (kx : Nat → en_S → Option en_O) : en_cI (rI v σ) ki kx = ki v σ := rfl
theorem c_V (σ : en_S) (kv : en_S → Option en_O) (kx : Nat → en_S → Option en_O) : en_cV (rV σ) kv kx = kv σ := rfl
theorem r_I (v : Int32) (σ : en_S) : (some (.inl (some (.int v)), σ) : Option en_O) = rI v σ := rfl
theorem r_V (σ : en_S) : (some (.inl none, σ) : Option en_O) = rV σ := rfl
/-- a truth as a number -/
def tb (b : Bool) : Int32 := nI b.toNat
theorem tb_t : tb true = nI 1 := rfl
theorem tb_f : tb false = nI 0 := rfl
theorem tb_01 (b : Bool) : (tb b = nI 0 ∨ tb b = nI 1) = True := by cases b <;> exact eq_true (by decide)
theorem tb_0 (b : Bool) : (tb b = nI 0) = (b = false) := by cases b <;> decide
theorem tb_1 (b : Bool) : (tb b = nI 1) = (b = true) := by cases b <;> decide
/-- loops -/
theorem mu_loop {α : Type} (L : α → Int32 → Option en_O) (F : Nat → α) (n : Nat) (hs : ∀ p, p < n → L (F p) (nI p) = L (F (p + 1)) (nI (p + 1))) : L (F 0) (nI 0) = L (F n) (nI n) := by
  have key : ∀ k, k ≤ n → L (F 0) (nI 0) = L (F k) (nI k) := by
    intro k
    induction k with
    | zero => intro _; rfl
    | succ k ih => intro hk; rw [ih (by omega), hs k (by omega)]
  exact key n (Nat.le_refl n)
theorem mu_inv {α : Type} (L : α → Int32 → Option en_O) (I : Nat → α → Prop) (n : Nat) (a : α) (h0 : I 0 a) (hs : ∀ p a, p < n → I p a → ∃ a', L a (nI p) = L a' (nI (p + 1)) ∧ I (p + 1) a') : ∃ a', L a (nI 0) = L a' (nI n) ∧ I n a' := by
  have key : ∀ k, k ≤ n → ∃ a', L a (nI 0) = L a' (nI k) ∧ I k a' := by
    intro k
    induction k with
    | zero => intro _; exact ⟨a, rfl, h0⟩
    | succ k ih =>
      intro hk
      obtain ⟨a1, e1, i1⟩ := ih (by omega)
      obtain ⟨a2, e2, i2⟩ := hs k a1 (by omega) i1
      exact ⟨a2, e1.trans e2, i2⟩
  exact key n (Nat.le_refl n)
def mu_up {α : Type} (g : Nat → α → α) (a : α) : Nat → α
  | 0 => a
  | n + 1 => g n (mu_up g a n)
theorem mu_up0 {α : Type} (g : Nat → α → α) (a : α) : mu_up g a 0 = a := rfl
theorem mu_upS {α : Type} (g : Nat → α → α) (a : α) (n : Nat) : mu_up g a (n + 1) = g n (mu_up g a n) := rfl
theorem mu_up_congr {α : Type} {g g' : Nat → α → α} (a : α) (n : Nat) (h : ∀ p, p < n → ∀ a, g p a = g' p a) : mu_up g a n = mu_up g' a n := by
  induction n with
  | zero => rfl
  | succ n ih => rw [mu_upS, mu_upS, ih (fun p hp => h p (by omega)), h n (by omega)]
theorem mu_up_inv {α : Type} {g : Nat → α → α} (I : Nat → α → Prop) (a : α) (h0 : I 0 a) (n : Nat) (hs : ∀ p a, p < n → I p a → I (p + 1) (g p a)) : I n (mu_up g a n) := by
  induction n with
  | zero => exact h0
  | succ n ih => exact hs n _ (by omega) (ih (fun p a hp => hs p a (by omega)))
/-- masks -/
def mu_mk (P : Nat → Bool) : Nat → Nat
  | 0 => 0
  | n + 1 => mu_mk P n ||| (if P n then 2 ^ n else 0)
theorem mu_mk_t {P : Nat → Bool} {n : Nat} (h : P n = true) : mu_mk P (n + 1) = mu_mk P n ||| 2 ^ n := by rw [mu_mk, if_pos h]
theorem mu_mk_f {P : Nat → Bool} {n : Nat} (h : P n = false) : mu_mk P (n + 1) = mu_mk P n := by rw [mu_mk, if_neg (by rw [h]; decide), Nat.or_zero]
theorem mu_mk_lt (P : Nat → Bool) (n : Nat) : mu_mk P n < 2 ^ n := by
  induction n with
  | zero => exact Nat.zero_lt_one
  | succ n ih =>
    have h1 : mu_mk P n < 2 ^ (n + 1) := Nat.lt_of_lt_of_le ih (Nat.pow_le_pow_right (by omega) (by omega))
    cases h : P n
    · rw [mu_mk_f h]; exact h1
    · rw [mu_mk_t h]; exact Nat.or_lt_two_pow h1 (Nat.pow_lt_pow_right (by omega) (by omega))
theorem mu_mk_tb (P : Nat → Bool) (n q : Nat) : (mu_mk P n).testBit q = (decide (q < n) && P q) := by
  induction n with
  | zero => simp [mu_mk]
  | succ n ih =>
    cases h : P n
    · rw [mu_mk_f h, ih]
      by_cases hq : q = n
      · subst hq; simp [h]
      · have : (q < n) ↔ (q < n + 1) := by omega
        simp only [this]
    · rw [mu_mk_t h, Nat.testBit_or, ih, Nat.testBit_two_pow]
      by_cases hq : q = n
      · subst hq; simp [h]
      · have h1 : (q < n) ↔ (q < n + 1) := by omega
        have h2 : ¬ n = q := by omega
        simp only [h1, h2, decide_false, Bool.or_false]
theorem mu_lt31 {m n : Nat} (h : m < 2 ^ n) (hn : n ≤ 31) : m < 2147483648 := Nat.lt_of_lt_of_le h (show 2 ^ n ≤ 2 ^ 31 from Nat.pow_le_pow_right (by omega) hn)
theorem mu_mk8 (P : Nat → Bool) {n : Nat} (hn : n ≤ 8) : mu_mk P n < 256 := Nat.lt_of_lt_of_le (mu_mk_lt P n) (show 2 ^ n ≤ 2 ^ 8 from Nat.pow_le_pow_right (by omega) hn)
theorem mu_mk31 (P : Nat → Bool) {n : Nat} (hn : n ≤ 8) : mu_mk P n < 2147483648 := Nat.lt_of_lt_of_le (mu_mk8 P hn) (by omega)
theorem mu_mk_congr {P Q : Nat → Bool} (n : Nat) (h : ∀ p, p < n → P p = Q p) : mu_mk P n = mu_mk Q n := by
  induction n with
  | zero => rfl
  | succ n ih => rw [mu_mk, mu_mk, ih (fun p hp => h p (by omega)), h n (by omega)]
/-- how many bits of eight -/
def mu_bc (m : Nat) : Nat := mu_up (fun p a => a + (m.testBit p).toNat) 0 8
theorem mu_bc_le (m : Nat) : mu_bc m ≤ 8 := by
  have h : ∀ b : Bool, b.toNat ≤ 1 := by decide
  have h0 := h (m.testBit 0); have h1 := h (m.testBit 1); have h2 := h (m.testBit 2); have h3 := h (m.testBit 3)
  have h4 := h (m.testBit 4); have h5 := h (m.testBit 5); have h6 := h (m.testBit 6); have h7 := h (m.testBit 7)
  simp only [mu_bc, mu_up]
  omega
/-- stores -/
theorem u1_at (f : Nat → Nat → Int32) (p i : Nat) (v : Int32) : en_u1 f p i v p i = v := by
  unfold en_u1; rw [if_pos rfl]; exact pk_us
theorem u1_p (f : Nat → Nat → Int32) {p q : Nat} (i : Nat) (v : Int32) (h : q ≠ p) : en_u1 f p i v q = f q := by
  unfold en_u1; rw [if_neg h]
theorem u1_i (f : Nat → Nat → Int32) (p : Nat) {i j : Nat} (v : Int32) (h : j ≠ i) : en_u1 f p i v p j = f p j := by
  unfold en_u1; rw [if_pos rfl]; exact pk_un h
theorem u1_if (f : Nat → Nat → Int32) (p i : Nat) (v : Int32) (j : Nat) : en_u1 f p i v p j = if j = i then v else f p j := by
  by_cases h : j = i
  · subst h; rw [u1_at, if_pos rfl]
  · rw [u1_i _ _ _ h, if_neg h]
theorem u1_ne (f : Nat → Nat → Int32) {p q i j : Nat} (v : Int32) (h : q ≠ p ∨ j ≠ i) : en_u1 f p i v q j = f q j := by
  by_cases hq : q = p
  · subst hq
    exact u1_i _ _ _ (by omega)
  · rw [u1_p _ _ _ hq]
theorem upd_if (f : Nat → Int32) (i : Nat) (v : Int32) (j : Nat) : upd f i v j = if j = i then v else f j := by
  by_cases h : j = i
  · subst h; rw [pk_us, if_pos rfl]
  · rw [pk_un h, if_neg h]
/-- the land and the rows as they are meant -/
abbrev mu_Ld : Type := Nat × Nat × (Nat → Int32) × (Nat → Int32) × (Nat → Nat) × (Nat → Int32) × Option (List Int32) × Option (List Int32)
def lB (Λ : mu_Ld) : Nat := Λ.1
def lP (Λ : mu_Ld) : Nat := Λ.2.1
def lS (Λ : mu_Ld) : Nat → Int32 := Λ.2.2.1
def lH (Λ : mu_Ld) : Nat → Int32 := Λ.2.2.2.1
def lR (Λ : mu_Ld) : Nat → Nat := Λ.2.2.2.2.1
def lT (Λ : mu_Ld) : Nat → Int32 := Λ.2.2.2.2.2.1
def lK (Λ : mu_Ld) : Option (List Int32) := Λ.2.2.2.2.2.2.1
def lF (Λ : mu_Ld) : Option (List Int32) := Λ.2.2.2.2.2.2.2
abbrev mu_Rw : Type := Int32 × (Nat → Int32) × (Nat → Int32) × (Nat → Int32) × (Nat → Int32)
def rD (r : mu_Rw) : Int32 := r.1
def rW (r : mu_Rw) : Nat → Int32 := r.2.1
def rS (r : mu_Rw) : Nat → Int32 := r.2.2.1
def rU (r : mu_Rw) : Nat → Int32 := r.2.2.2.1
def rT (r : mu_Rw) : Nat → Int32 := r.2.2.2.2
def wD (r : mu_Rw) (v : Int32) : mu_Rw := (v, r.2)
def wW (r : mu_Rw) (x : Nat) (v : Int32) : mu_Rw := (r.1, upd r.2.1 x v, r.2.2)
def wS (r : mu_Rw) (x : Nat) (v : Int32) : mu_Rw := (r.1, r.2.1, upd r.2.2.1 x v, r.2.2.2)
def wU (r : mu_Rw) (p : Nat) (v : Int32) : mu_Rw := (r.1, r.2.1, r.2.2.1, upd r.2.2.2.1 p v, r.2.2.2.2)
def wT (r : mu_Rw) (p : Nat) (v : Int32) : mu_Rw := (r.1, r.2.1, r.2.2.1, r.2.2.2.1, upd r.2.2.2.2 p v)
/-- what may be asked -/
def sM (Λ : mu_Ld) (r : mu_Rw) (p : Nat) : Int32 := if nI 0 < lS Λ p - nI 2 * rT r p then lS Λ p - nI 2 * rT r p else nI 0
def sH (Λ : mu_Ld) (r : mu_Rw) (v : Int32) : Nat := mu_mk (fun p => decide (rU r p = v)) (lP Λ)
def sMt (Λ : mu_Ld) (r : mu_Rw) (m : Nat) : Int32 := mu_up (fun p a => if m.testBit p then a + sM Λ r p else a) (nI 0) (lP Λ)
def sBr (Λ : mu_Ld) (r : mu_Rw) (x m : Nat) : Bool := decide (m ≠ 0 ∧ ¬ sMt Λ r m < rW r x)
def sB (Λ : mu_Ld) (r : mu_Rw) (x : Nat) : Bool := sBr Λ r x (sH Λ r (nI x))
def sTl (Λ : mu_Ld) (m : Nat) (n : Nat) : Int32 := mu_up (fun p a => if m.testBit p then (if a < lH Λ p then lH Λ p else a) else a) (nI 0) n
def sSt (Λ : mu_Ld) (m : Nat) (z : Int32) (n : Nat) : Int32 := mu_up (fun p a => if m.testBit p then (if lH Λ p < a then lH Λ p else a) else a) z n
def sLn (Λ : mu_Ld) (m : Nat) : Int32 := if m = 0 then nI 0 else sTl Λ m (lP Λ) - sSt Λ m (nI 9) (lP Λ)
def sTo (Λ : mu_Ld) (r : mu_Rw) (x : Nat) : Int32 := lT Λ (6 * x + (rS r x).toNatClampNeg)
def sV (Λ : mu_Ld) (r : mu_Rw) (x : Nat) : Nat → Int32
  | 0 => rW r x
  | 1 => nI (mu_bc (sH Λ r (nI x)))
  | 2 => sMt Λ r (sH Λ r (nI x))
  | 3 => sLn Λ (sH Λ r (nI x))
  | 4 => tb (sB Λ r x)
  | 5 => sTo Λ r x
  | _ => rD r
def sIn (v a b : Int32) : Int32 := if a ≤ v then (if v ≤ b then v else b) else a
/-- rules: steps as the class keeps them -/
def sJn (s a b : Int32) : Int32 :=
  if s = -9 then (if a = 0 then (if b = 0 then 0 else 1) else 1)
  else if s = -10 then (if a = 0 then 0 else if b = 0 then 0 else 1)
  else if s = -11 then (if b ≤ a then 0 else 1)
  else if s = -12 then (if a = b then 1 else 0)
  else if s = -13 then a + b
  else if s = -14 then a - b
  else if s = -15 then a * b
  else if b = 0 then 0 else a / b
def sSp (V : Nat → Int32) (s : Int32) (q : List Int32) : List Int32 :=
  if -8 < s then (if 0 ≤ s then s else V (-1 - s).toNatClampNeg) :: q
  else if s = -8 then (match q with
    | a :: q => (if a = 0 then 1 else 0) :: q
    | [] => [])
  else (match q with
    | b :: a :: q => sJn s a b :: q
    | q => q)
def sEv (V : Nat → Int32) : List Int32 → List Int32 → List Int32
  | [], q => q
  | s :: l, q => sEv V l (sSp V s q)
def sE (l : List Int32) (V : Nat → Int32) : Int32 := (sEv V l []).headD 0
/-- how many wait, behind a step; that none is wanting and that never more than 48 wait -/
def sDp : List Int32 → Nat → Prop
  | [], n => n = 1
  | s :: l, n => if -8 < s then (n < 48 ∧ -8 < s ∧ sDp l (n + 1)) else if s = -8 then (0 < n ∧ n ≤ 48 ∧ sDp l n) else (1 < n ∧ n ≤ 48 ∧ -17 < s ∧ sDp l (n - 1))
/-- one box on one day: the row, who is stunned, what fell, what was carried -/
def sMo (Λ : mu_Ld) (r : mu_Rw) (x : Nat) : Int32 := match lK Λ with
  | none => if sB Λ r x then nI 1 else nN
  | some l => sIn (sE l (sV Λ r x)) (-9) (nI 9)
def sW1 (Λ : mu_Ld) (r : mu_Rw) (x : Nat) : mu_Rw := wW r x (sIn (rW r x + sMo Λ r x) (nI 1) (nI 99))
def sFa (Λ : mu_Ld) (r : mu_Rw) (x : Nat) : Bool := match lF Λ with
  | none => sB Λ r x && decide (nI 5 < sLn Λ (sH Λ r (nI x)))
  | some l => decide (nI 0 < sE l (sV Λ r x))
def sLet (Λ : mu_Ld) (r : mu_Rw) (x : Nat) : mu_Rw := mu_up (fun p q => if (sH Λ r (nI x)).testBit p then wU q p nN else q) (wW r x (if nI 1 < rW r x / nI 2 then rW r x / nI 2 else nI 1)) (lP Λ)
def sTi (r : mu_Rw) (p : Nat) : mu_Rw := wT r p (if nI 9 ≤ rT r p then rT r p else rT r p + nI 1)
def sTs (Λ : mu_Ld) (m : Nat) (r : mu_Rw) : mu_Rw := mu_up (fun p q => if m.testBit p then sTi q p else q) r (lP Λ)
def sNx (Λ : mu_Ld) (x : Nat) (s : Int32) : Int32 := if s + nI 1 < nI (lR Λ x) then s + nI 1 else nI 0
def sCa (Λ : mu_Ld) (r : mu_Rw) (x : Nat) : mu_Rw := sTs Λ (sH Λ r (nI x)) (wS r x (sNx Λ x (rS r x)))
def sBx (Λ : mu_Ld) (r : mu_Rw) (x : Nat) : mu_Rw × Nat × Nat × Nat :=
  if sFa Λ (sW1 Λ r x) x then (sLet Λ (sW1 Λ r x) x, sH Λ (sW1 Λ r x) (nI x), 2 ^ x, 0)
  else if sB Λ (sW1 Λ r x) x then (sCa Λ (sW1 Λ r x) x, 0, 0, 1)
  else (sW1 Λ r x, 0, 0, 0)
def sBs (Λ : mu_Ld) (r : mu_Rw) (n : Nat) : mu_Rw × Nat × Nat × Nat :=
  mu_up (fun x q => ((sBx Λ q.1 x).1, q.2.1 ||| (sBx Λ q.1 x).2.1, q.2.2.1 ||| (sBx Λ q.1 x).2.2.1, q.2.2.2 + (sBx Λ q.1 x).2.2.2)) (r, 0, 0, 0) n
def sRe (Λ : mu_Ld) (st : Nat) (r : mu_Rw) (n : Nat) : mu_Rw :=
  mu_up (fun p q => if rU q p = nN ∧ st.testBit p = false then wT q p (if nI 0 < rT q p - nI 2 then rT q p - nI 2 else nI 0) else q) r n
def sDy (Λ : mu_Ld) (r : mu_Rw) : mu_Rw :=
  wD (sRe Λ (sBs Λ r (lB Λ)).2.1 (sBs Λ r (lB Λ)).1 (lP Λ)) (rD (sRe Λ (sBs Λ r (lB Λ)).2.1 (sBs Λ r (lB Λ)).1 (lP Λ)) + nI 1)
def sFe (Λ : mu_Ld) (r : mu_Rw) : Nat := (sBs Λ r (lB Λ)).2.2.1
def sCr (Λ : mu_Ld) (r : mu_Rw) : Nat := (sBs Λ r (lB Λ)).2.2.2
/-- what always holds of lands and rows -/
def rlOK : Option (List Int32) → Prop
  | none => True
  | some l => sDp l 0
def lOK (Λ : mu_Ld) : Prop := lB Λ ≤ 6 ∧ lP Λ ≤ 8 ∧ (∀ x, x < lB Λ → 1 ≤ lR Λ x ∧ lR Λ x ≤ 6) ∧ (∀ p, p < lP Λ → ∃ h, 1 ≤ h ∧ h ≤ 9 ∧ lH Λ p = nI h) ∧ rlOK (lK Λ) ∧ rlOK (lF Λ)
def rOK (Λ : mu_Ld) (r : mu_Rw) : Prop := (∀ x, x < lB Λ → ∃ w, 1 ≤ w ∧ w ≤ 99 ∧ rW r x = nI w) ∧ (∀ x, x < lB Λ → ∃ s, s < lR Λ x ∧ rS r x = nI s) ∧ (∀ p, p < lP Λ → rU r p = nN ∨ ∃ x, x < lB Λ ∧ rU r p = nI x) ∧ (∀ p, p < lP Λ → ∃ t, t ≤ 9 ∧ rT r p = nI t)
