/-! one turn of the law: what a call and its wrapper come to -/
def Rl (σ : en_S) : Prop := ∃ A, AOK A ∧ MRel A σ.1 ∧ CRel A σ.1
def lwG (o : Int32 ⊕ Nat) (g : Nat → Nat → Int64) : Nat → Nat → Int64 := match o with
  | .inl w => en_u2 g 30 0 w.toInt64
  | .inr _ => g
theorem tn_w {A : mu_A} {f : Nat → Nat → Int32} {g : Nat → Nat → Int64} {b m : en_S → Option en_O} {k : Nat → Nat} (W : Option en_O) (h : MtG A f b m k) (k0 : k 0 = 0) (k1 : k 1 = 1) (k2 : k 2 = 1 ∨ k 2 = 2) (hW : ∀ o f1, b (f, g) = out o (f1, g) → (∀ e, o = .inr e → e = 1 ∨ e = 2) → W = rI (nI (k (oK o))) (f1, lwG o g)) : ∃ σ', Rl σ' ∧ ∀ K N : en_S → Option en_O, en_cI W (fun r2 σ1 => en_cI (m σ1) (fun r4 σ3 => en_cI (x_m_thrown_0 σ3) (fun r6 σ5 => if r6 = r2 then if r2 = 0 then if lg_cmp (σ5.2 30 0) r4.toInt64 = 0 then K σ5 else N σ5 else K σ5 else N σ5) (fun _ _ => none)) (fun _ _ => none)) (fun _ _ => none) = K σ' := by
  obtain ⟨o, A', ok', hb, he, hm⟩ := h
  obtain ⟨f1, e1, p1, C1⟩ := hb g
  have w1 := hW o f1 e1 he
  obtain ⟨v, f3, g3, m1, m2, m3, m4, m5, m6⟩ := hm f1 (lwG o g) (fun p hp => p1 p (by omega))
  refine ⟨(f3, g3), ⟨A', ok', m4, CRel_hi ok' C1 (fun p hp => m5 p (by omega))⟩, fun K N => ?_⟩
  rw [w1, c_I, m1, c_I, e_m_thrown_0]
  show (if f3 0 0 = nI (k (oK o)) then if nI (k (oK o)) = 0 then if lg_cmp (g3 30 0) v.toInt64 = 0 then K (f3, g3) else N (f3, g3) else K (f3, g3) else N (f3, g3)) = K (f3, g3)
  rw [if_pos m2]
  cases o with
  | inl w =>
    have z : nI (k (oK (.inl w : Int32 ⊕ Nat))) = 0 := by
      show nI (k 0) = 0
      rw [k0]; rfl
    have z2 : lg_cmp (g3 30 0) v.toInt64 = 0 := (lg_cmp_eq _ _).mpr (by
      rw [m6 30 (by omega), m3 w rfl]
      exact u2_at g 30 0 _)
    rw [if_pos z, if_pos z2]
  | inr e =>
    have z : ¬ nI (k (oK (.inr e : Int32 ⊕ Nat))) = 0 := by
      show ¬ nI (k e) = 0
      rcases he e rfl with e1 | e1
      · rw [e1, k1]; decide
      · rw [e1]
        rcases k2 with k2 | k2
        · rw [k2]; decide
        · rw [k2]; decide
    rw [if_neg z]
theorem tn_p {A : mu_A} {f : Nat → Nat → Int32} {g : Nat → Nat → Int64} {b m : en_S → Option en_O} {k : Nat → Nat} (h : Mt A f b m k) (n1 : Nt 1 (b (f, g))) (n2 : Nt 2 (b (f, g))) : ∃ σ', Rl σ' ∧ ∀ K N : en_S → Option en_O, en_cI (b (f, g)) (fun r2 σ1 => en_cI (m σ1) (fun r4 σ3 => if r2 = r4 then K σ3 else N σ3) (fun _ _ => none)) (fun _ _ => none) = K σ' := by
  obtain ⟨o, A', ok', hb, he, hm⟩ := h
  obtain ⟨f1, e1, p1, C1⟩ := hb g
  obtain ⟨v, f3, m1, m2, m3, m4, m5⟩ := hm f1 g (fun p hp => p1 p (by omega))
  refine ⟨(f3, g), ⟨A', ok', m4, CRel_hi ok' C1 (fun p hp => m5 p (by omega))⟩, fun K N => ?_⟩
  cases o with
  | inl w =>
    have e1' : b (f, g) = rI w (f1, g) := e1
    rw [e1', c_I, m1, c_I, if_pos (m3 w rfl).symm]
  | inr e =>
    rcases he e rfl with z | z
    · subst z; exact absurd e1 (n1 _)
    · subst z; exact absurd e1 (n2 _)
theorem tn_v {A : mu_A} {f : Nat → Nat → Int32} {g : Nat → Nat → Int64} {b m : en_S → Option en_O} (h : MtV A f b m) : ∃ σ', Rl σ' ∧ ∀ K : en_S → Option en_O, en_cV (b (f, g)) (fun σ1 => en_cV (m σ1) (fun σ2 => K σ2) (fun _ _ => none)) (fun _ _ => none) = K σ' := by
  obtain ⟨A', ok', hb, hm⟩ := h
  obtain ⟨f1, e1, p1, C1⟩ := hb g
  obtain ⟨f3, m1, m4, m5⟩ := hm f1 g (fun p hp => p1 p (by omega))
  refine ⟨(f3, g), ⟨A', ok', m4, CRel_hi ok' C1 (fun p hp => m5 p (by omega))⟩, fun K => ?_⟩
  rw [e1, c_V, m1, c_V]
/-! the change's answer is 0 or 1 -/
def Bv (o : Option en_O) : Prop := ∀ r σ, o = some (.inl (some (.int r)), σ) → r = 0 ∨ r = 1
theorem Bv_n : Bv none := fun _ _ h => (by cases h)
theorem Bv_x (e : Nat) (σ : en_S) : Bv (some (.inr e, σ)) := fun _ _ h => (by cases h)
theorem Bv_0 (σ : en_S) : Bv (some (.inl (some (.int 0)), σ)) := fun _ _ h => (by cases h; exact Or.inl rfl)
theorem Bv_1 (σ : en_S) : Bv (some (.inl (some (.int 1)), σ)) := fun _ _ h => (by cases h; exact Or.inr rfl)
theorem Bv_i {c : Prop} [Decidable c] {a b : Option en_O} (h1 : Bv a) (h2 : Bv b) : Bv (if c then a else b) := by
  split
  · exact h1
  · exact h2
theorem Bv_cI {o : Option en_O} {ki : Int32 → en_S → Option en_O} {kx : Nat → en_S → Option en_O} (hi : ∀ r σ, Bv (ki r σ)) (hx : ∀ e σ, Bv (kx e σ)) : Bv (en_cI o ki kx) := by
  unfold en_cI
  split
  · exact hi _ _
  · exact hx _ _
  · exact Bv_n
theorem Bv_cV {o : Option en_O} {kv : en_S → Option en_O} {kx : Nat → en_S → Option en_O} (hi : ∀ σ, Bv (kv σ)) (hx : ∀ e σ, Bv (kx e σ)) : Bv (en_cV o kv kx) := by
  unfold en_cV
  split
  · exact hi _
  · exact hx _ _
  · exact Bv_n
theorem Bv_change (σ : en_S) (v1 v2 : Int32) : Bv (x_b_change_0 σ v1 v2) := by
  rw [e_b_change_0]
  exact Bv_cV (fun _ => Bv_cV (fun _ => Bv_i (Bv_i (Bv_i (Bv_cI (fun _ _ => Bv_0 _) (fun _ _ => Bv_x _ _)) (Bv_cV (fun _ => Bv_i (Bv_i (Bv_1 _) Bv_n) Bv_n) (fun _ _ => Bv_x _ _))) Bv_n) Bv_n) (fun _ _ => Bv_x _ _)) (fun _ _ => Bv_x _ _)
/-! the wrappers -/
theorem en_hx_1 (t j : Nat) (k : Nat → Nat → Option en_O) (e : Nat) (σ : en_S) : en_hx 1 (some (t, j)) k e σ = k t j := by
  show (if 1 = 1 then k t j else none) = k t j
  exact if_pos rfl
set_option maxRecDepth 100000 in
theorem hx_land_2 (σ : en_S) (v1 : Int32) : bb_x 0 12000 13 (en_set [some (.ref 31), some (.int v1), some (.ref 30), none] 3 none) [] σ = some (.inl (some (.int 1)), σ) := en_ex_un (G := bb_G) (P := bb_P) (ML := bb_ML) (HD := bb_HD) 4 0 12000 13 (en_set [some (.ref 31), some (.int v1), some (.ref 30), none] 3 none) [] σ
theorem w_land (f f1 : Nat → Nat → Int32) (g : Nat → Nat → Int64) (v1 : Int32) (o : Int32 ⊕ Nat) (h : x_b_land_0 (f, g) v1 = out o (f1, g)) (he : ∀ e, o = .inr e → e = 1 ∨ e = 2) : x_lw_land_0 (f, g) v1 = rI (nI ((fun e => if e = 2 then 1 else e) (oK o))) (f1, lwG o g) := by
  rw [e_lw_land_0, h]
  cases o with
  | inl w => exact rfl
  | inr e =>
    rcases he e rfl with z | z
    · subst z
      exact (nt_no1 (mi := 10002) (by decide +kernel) 0 [some (.ref 31), some (.int v1), none] [] (f, g) (f1, g) h).elim
    · subst z
      rw [show out (.inr 2 : Int32 ⊕ Nat) (f1, g) = some (.inr 2, (f1, g)) from rfl, c_Ix, show bb_hq (99999, 0, 13, 3) 2 = some (13, 3) from rfl, en_hx_1]
      exact hx_land_2 (f1, g) v1
set_option maxRecDepth 100000 in
theorem hx_count_1 (σ : en_S) (v1 : Int32) : bb_x 0 12001 13 (en_set [some (.ref 31), some (.int v1), some (.ref 30), none] 3 none) [] σ = some (.inl (some (.int 1)), σ) := en_ex_un (G := bb_G) (P := bb_P) (ML := bb_ML) (HD := bb_HD) 4 0 12001 13 (en_set [some (.ref 31), some (.int v1), some (.ref 30), none] 3 none) [] σ
theorem w_count (f f1 : Nat → Nat → Int32) (g : Nat → Nat → Int64) (v1 : Int32) (o : Int32 ⊕ Nat) (h : x_b_count_0 (f, g) v1 = out o (f1, g)) (he : ∀ e, o = .inr e → e = 1 ∨ e = 2) : x_lw_count_0 (f, g) v1 = rI (nI (id (oK o))) (f1, lwG o g) := by
  rw [e_lw_count_0, h]
  cases o with
  | inl w => exact rfl
  | inr e =>
    rcases he e rfl with z | z
    · subst z
      rw [show out (.inr 1 : Int32 ⊕ Nat) (f1, g) = some (.inr 1, (f1, g)) from rfl, c_Ix, show bb_hq (13, 3, 99999, 0) 1 = some (13, 3) from rfl, en_hx_1]
      exact hx_count_1 (f1, g) v1
    · subst z
      exact (nt_no2 (mi := 10004) (by decide +kernel) 0 [some (.ref 31), some (.int v1)] [] (f, g) (f1, g) h).elim
set_option maxRecDepth 100000 in
theorem hx_box_1 (σ : en_S) (v1 v2 : Int32) : bb_x 0 12002 15 (en_set [some (.ref 31), some (.int v1), some (.int v2), some (.ref 30), none] 4 none) [] σ = some (.inl (some (.int 1)), σ) := en_ex_un (G := bb_G) (P := bb_P) (ML := bb_ML) (HD := bb_HD) 4 0 12002 15 (en_set [some (.ref 31), some (.int v1), some (.int v2), some (.ref 30), none] 4 none) [] σ
theorem w_box (f f1 : Nat → Nat → Int32) (g : Nat → Nat → Int64) (v1 v2 : Int32) (o : Int32 ⊕ Nat) (h : x_b_box_0 (f, g) v1 v2 = out o (f1, g)) (he : ∀ e, o = .inr e → e = 1 ∨ e = 2) : x_lw_box_0 (f, g) v1 v2 = rI (nI (id (oK o))) (f1, lwG o g) := by
  rw [e_lw_box_0, h]
  cases o with
  | inl w => exact rfl
  | inr e =>
    rcases he e rfl with z | z
    · subst z
      rw [show out (.inr 1 : Int32 ⊕ Nat) (f1, g) = some (.inr 1, (f1, g)) from rfl, c_Ix, show bb_hq (15, 4, 99999, 0) 1 = some (15, 4) from rfl, en_hx_1]
      exact hx_box_1 (f1, g) v1 v2
    · subst z
      exact (nt_no2 (mi := 10005) (by decide +kernel) 0 [some (.ref 31), some (.int v1), some (.int v2)] [] (f, g) (f1, g) h).elim
set_option maxRecDepth 100000 in
theorem hx_bearer_1 (σ : en_S) (v1 v2 : Int32) : bb_x 0 12003 15 (en_set [some (.ref 31), some (.int v1), some (.int v2), some (.ref 30), none] 4 none) [] σ = some (.inl (some (.int 1)), σ) := en_ex_un (G := bb_G) (P := bb_P) (ML := bb_ML) (HD := bb_HD) 4 0 12003 15 (en_set [some (.ref 31), some (.int v1), some (.int v2), some (.ref 30), none] 4 none) [] σ
theorem w_bearer (f f1 : Nat → Nat → Int32) (g : Nat → Nat → Int64) (v1 v2 : Int32) (o : Int32 ⊕ Nat) (h : x_b_bearer_0 (f, g) v1 v2 = out o (f1, g)) (he : ∀ e, o = .inr e → e = 1 ∨ e = 2) : x_lw_bearer_0 (f, g) v1 v2 = rI (nI (id (oK o))) (f1, lwG o g) := by
  rw [e_lw_bearer_0, h]
  cases o with
  | inl w => exact rfl
  | inr e =>
    rcases he e rfl with z | z
    · subst z
      rw [show out (.inr 1 : Int32 ⊕ Nat) (f1, g) = some (.inr 1, (f1, g)) from rfl, c_Ix, show bb_hq (15, 4, 99999, 0) 1 = some (15, 4) from rfl, en_hx_1]
      exact hx_bearer_1 (f1, g) v1 v2
    · subst z
      exact (nt_no2 (mi := 10006) (by decide +kernel) 0 [some (.ref 31), some (.int v1), some (.int v2)] [] (f, g) (f1, g) h).elim
set_option maxRecDepth 100000 in
theorem hx_hand_1 (σ : en_S) (v1 v2 : Int32) : bb_x 0 12004 15 (en_set [some (.ref 31), some (.int v1), some (.int v2), some (.ref 30), none] 4 none) [] σ = some (.inl (some (.int 1)), σ) := en_ex_un (G := bb_G) (P := bb_P) (ML := bb_ML) (HD := bb_HD) 4 0 12004 15 (en_set [some (.ref 31), some (.int v1), some (.int v2), some (.ref 30), none] 4 none) [] σ
theorem w_hand (f f1 : Nat → Nat → Int32) (g : Nat → Nat → Int64) (v1 v2 : Int32) (o : Int32 ⊕ Nat) (h : x_b_hand_0 (f, g) v1 v2 = out o (f1, g)) (he : ∀ e, o = .inr e → e = 1 ∨ e = 2) : x_lw_hand_0 (f, g) v1 v2 = rI (nI (id (oK o))) (f1, lwG o g) := by
  rw [e_lw_hand_0, h]
  cases o with
  | inl w => exact rfl
  | inr e =>
    rcases he e rfl with z | z
    · subst z
      rw [show out (.inr 1 : Int32 ⊕ Nat) (f1, g) = some (.inr 1, (f1, g)) from rfl, c_Ix, show bb_hq (15, 4, 99999, 0) 1 = some (15, 4) from rfl, en_hx_1]
      exact hx_hand_1 (f1, g) v1 v2
    · subst z
      exact (nt_no2 (mi := 10008) (by decide +kernel) 0 [some (.ref 31), some (.int v1), some (.int v2), none] [] (f, g) (f1, g) h).elim
set_option maxRecDepth 100000 in
theorem hx_away_1 (σ : en_S) (v1 : Int32) : bb_x 0 12005 13 (en_set [some (.ref 31), some (.int v1), some (.ref 30), none] 3 none) [] σ = some (.inl (some (.int 1)), σ) := en_ex_un (G := bb_G) (P := bb_P) (ML := bb_ML) (HD := bb_HD) 4 0 12005 13 (en_set [some (.ref 31), some (.int v1), some (.ref 30), none] 3 none) [] σ
theorem w_away (f f1 : Nat → Nat → Int32) (g : Nat → Nat → Int64) (v1 : Int32) (o : Int32 ⊕ Nat) (h : x_b_away_0 (f, g) v1 = out o (f1, g)) (he : ∀ e, o = .inr e → e = 1 ∨ e = 2) : x_lw_away_0 (f, g) v1 = rI (nI (id (oK o))) (f1, lwG o g) := by
  rw [e_lw_away_0, h]
  cases o with
  | inl w => exact rfl
  | inr e =>
    rcases he e rfl with z | z
    · subst z
      rw [show out (.inr 1 : Int32 ⊕ Nat) (f1, g) = some (.inr 1, (f1, g)) from rfl, c_Ix, show bb_hq (13, 3, 99999, 0) 1 = some (13, 3) from rfl, en_hx_1]
      exact hx_away_1 (f1, g) v1
    · subst z
      exact (nt_no2 (mi := 10009) (by decide +kernel) 0 [some (.ref 31), some (.int v1), none] [] (f, g) (f1, g) h).elim
set_option maxRecDepth 100000 in
theorem hx_change_1 (σ : en_S) (v1 v2 : Int32) : bb_x 0 12006 22 (en_set [some (.ref 31), some (.int v1), some (.int v2), some (.ref 30), none] 4 none) [] σ = some (.inl (some (.int 1)), σ) := en_ex_un (G := bb_G) (P := bb_P) (ML := bb_ML) (HD := bb_HD) 4 0 12006 22 (en_set [some (.ref 31), some (.int v1), some (.int v2), some (.ref 30), none] 4 none) [] σ
theorem w_change (f f1 : Nat → Nat → Int32) (g : Nat → Nat → Int64) (v1 v2 : Int32) (o : Int32 ⊕ Nat) (h : x_b_change_0 (f, g) v1 v2 = out o (f1, g)) (he : ∀ e, o = .inr e → e = 1 ∨ e = 2) : x_lw_change_0 (f, g) v1 v2 = rI (nI (id (oK o))) (f1, lwG o g) := by
  rw [e_lw_change_0, h]
  cases o with
  | inl w =>
    have h' : x_b_change_0 (f, g) v1 v2 = some (.inl (some (.int w)), (f1, g)) := h
    show (if w = 0 then some (.inl (some (.int 0)), (f1, en_u2 g 30 0 0)) else some (.inl (some (.int 0)), (f1, en_u2 g 30 0 1))) = (some (.inl (some (.int 0)), (f1, en_u2 g 30 0 w.toInt64)) : Option en_O)
    rcases Bv_change (f, g) v1 v2 w (f1, g) h' with z | z
    · rw [if_pos z, z]; rfl
    · rw [if_neg (by rw [z]; decide), z]; rfl
  | inr e =>
    rcases he e rfl with z | z
    · subst z
      rw [show out (.inr 1 : Int32 ⊕ Nat) (f1, g) = some (.inr 1, (f1, g)) from rfl, c_Ix, show bb_hq (22, 4, 99999, 0) 1 = some (22, 4) from rfl, en_hx_1]
      exact hx_change_1 (f1, g) v1 v2
    · subst z
      exact (nt_no2 (mi := 10010) (by decide +kernel) 0 [some (.ref 31), some (.int v1), some (.int v2), none, none] [] (f, g) (f1, g) h).elim
set_option maxRecDepth 100000 in
theorem hx_slander_1 (σ : en_S) (v1 v2 : Int32) : bb_x 0 12007 15 (en_set [some (.ref 31), some (.int v1), some (.int v2), some (.ref 30), none] 4 none) [] σ = some (.inl (some (.int 1)), σ) := en_ex_un (G := bb_G) (P := bb_P) (ML := bb_ML) (HD := bb_HD) 4 0 12007 15 (en_set [some (.ref 31), some (.int v1), some (.int v2), some (.ref 30), none] 4 none) [] σ
theorem w_slander (f f1 : Nat → Nat → Int32) (g : Nat → Nat → Int64) (v1 v2 : Int32) (o : Int32 ⊕ Nat) (h : x_b_slander_0 (f, g) v1 v2 = out o (f1, g)) (he : ∀ e, o = .inr e → e = 1 ∨ e = 2) : x_lw_slander_0 (f, g) v1 v2 = rI (nI (id (oK o))) (f1, lwG o g) := by
  rw [e_lw_slander_0, h]
  cases o with
  | inl w => exact rfl
  | inr e =>
    rcases he e rfl with z | z
    · subst z
      rw [show out (.inr 1 : Int32 ⊕ Nat) (f1, g) = some (.inr 1, (f1, g)) from rfl, c_Ix, show bb_hq (15, 4, 99999, 0) 1 = some (15, 4) from rfl, en_hx_1]
      exact hx_slander_1 (f1, g) v1 v2
    · subst z
      exact (nt_no2 (mi := 10011) (by decide +kernel) 0 [some (.ref 31), some (.int v1), some (.int v2)] [] (f, g) (f1, g) h).elim
set_option maxRecDepth 100000 in
theorem hx_praise_1 (σ : en_S) (v1 v2 : Int32) : bb_x 0 12008 15 (en_set [some (.ref 31), some (.int v1), some (.int v2), some (.ref 30), none] 4 none) [] σ = some (.inl (some (.int 1)), σ) := en_ex_un (G := bb_G) (P := bb_P) (ML := bb_ML) (HD := bb_HD) 4 0 12008 15 (en_set [some (.ref 31), some (.int v1), some (.int v2), some (.ref 30), none] 4 none) [] σ
theorem w_praise (f f1 : Nat → Nat → Int32) (g : Nat → Nat → Int64) (v1 v2 : Int32) (o : Int32 ⊕ Nat) (h : x_b_praise_0 (f, g) v1 v2 = out o (f1, g)) (he : ∀ e, o = .inr e → e = 1 ∨ e = 2) : x_lw_praise_0 (f, g) v1 v2 = rI (nI (id (oK o))) (f1, lwG o g) := by
  rw [e_lw_praise_0, h]
  cases o with
  | inl w => exact rfl
  | inr e =>
    rcases he e rfl with z | z
    · subst z
      rw [show out (.inr 1 : Int32 ⊕ Nat) (f1, g) = some (.inr 1, (f1, g)) from rfl, c_Ix, show bb_hq (15, 4, 99999, 0) 1 = some (15, 4) from rfl, en_hx_1]
      exact hx_praise_1 (f1, g) v1 v2
    · subst z
      exact (nt_no2 (mi := 10012) (by decide +kernel) 0 [some (.ref 31), some (.int v1), some (.int v2)] [] (f, g) (f1, g) h).elim
set_option maxRecDepth 100000 in
theorem hx_then_1 (σ : en_S) (v1 v2 v3 : Int32) : bb_x 0 12009 17 (en_set [some (.ref 31), some (.int v1), some (.int v2), some (.int v3), some (.ref 30), none] 5 none) [] σ = some (.inl (some (.int 1)), σ) := en_ex_un (G := bb_G) (P := bb_P) (ML := bb_ML) (HD := bb_HD) 4 0 12009 17 (en_set [some (.ref 31), some (.int v1), some (.int v2), some (.int v3), some (.ref 30), none] 5 none) [] σ
set_option maxRecDepth 100000 in
theorem hx_then_2 (σ : en_S) (v1 v2 v3 : Int32) : bb_x 0 12009 21 (en_set [some (.ref 31), some (.int v1), some (.int v2), some (.int v3), some (.ref 30), none] 5 none) [] σ = some (.inl (some (.int 2)), σ) := en_ex_un (G := bb_G) (P := bb_P) (ML := bb_ML) (HD := bb_HD) 4 0 12009 21 (en_set [some (.ref 31), some (.int v1), some (.int v2), some (.int v3), some (.ref 30), none] 5 none) [] σ
theorem w_then (f f1 : Nat → Nat → Int32) (g : Nat → Nat → Int64) (v1 v2 v3 : Int32) (o : Int32 ⊕ Nat) (h : x_b_then_0 (f, g) v1 v2 v3 = out o (f1, g)) (he : ∀ e, o = .inr e → e = 1 ∨ e = 2) : x_lw_then_0 (f, g) v1 v2 v3 = rI (nI (id (oK o))) (f1, lwG o g) := by
  rw [e_lw_then_0, h]
  cases o with
  | inl w => exact rfl
  | inr e =>
    rcases he e rfl with z | z
    · subst z
      rw [show out (.inr 1 : Int32 ⊕ Nat) (f1, g) = some (.inr 1, (f1, g)) from rfl, c_Ix, show bb_hq (17, 5, 21, 5) 1 = some (17, 5) from rfl, en_hx_1]
      exact hx_then_1 (f1, g) v1 v2 v3
    · subst z
      rw [show out (.inr 2 : Int32 ⊕ Nat) (f1, g) = some (.inr 2, (f1, g)) from rfl, c_Ix, show bb_hq (17, 5, 21, 5) 2 = some (21, 5) from rfl, en_hx_1]
      exact hx_then_2 (f1, g) v1 v2 v3
set_option maxRecDepth 100000 in
theorem hx_who_1 (σ : en_S) (v1 v2 v3 : Int32) : bb_x 0 12010 17 (en_set [some (.ref 31), some (.int v1), some (.int v2), some (.int v3), some (.ref 30), none] 5 none) [] σ = some (.inl (some (.int 1)), σ) := en_ex_un (G := bb_G) (P := bb_P) (ML := bb_ML) (HD := bb_HD) 4 0 12010 17 (en_set [some (.ref 31), some (.int v1), some (.int v2), some (.int v3), some (.ref 30), none] 5 none) [] σ
set_option maxRecDepth 100000 in
theorem hx_who_2 (σ : en_S) (v1 v2 v3 : Int32) : bb_x 0 12010 21 (en_set [some (.ref 31), some (.int v1), some (.int v2), some (.int v3), some (.ref 30), none] 5 none) [] σ = some (.inl (some (.int 2)), σ) := en_ex_un (G := bb_G) (P := bb_P) (ML := bb_ML) (HD := bb_HD) 4 0 12010 21 (en_set [some (.ref 31), some (.int v1), some (.int v2), some (.int v3), some (.ref 30), none] 5 none) [] σ
theorem w_who (f f1 : Nat → Nat → Int32) (g : Nat → Nat → Int64) (v1 v2 v3 : Int32) (o : Int32 ⊕ Nat) (h : x_b_who_0 (f, g) v1 v2 v3 = out o (f1, g)) (he : ∀ e, o = .inr e → e = 1 ∨ e = 2) : x_lw_who_0 (f, g) v1 v2 v3 = rI (nI (id (oK o))) (f1, lwG o g) := by
  rw [e_lw_who_0, h]
  cases o with
  | inl w => exact rfl
  | inr e =>
    rcases he e rfl with z | z
    · subst z
      rw [show out (.inr 1 : Int32 ⊕ Nat) (f1, g) = some (.inr 1, (f1, g)) from rfl, c_Ix, show bb_hq (17, 5, 21, 5) 1 = some (17, 5) from rfl, en_hx_1]
      exact hx_who_1 (f1, g) v1 v2 v3
    · subst z
      rw [show out (.inr 2 : Int32 ⊕ Nat) (f1, g) = some (.inr 2, (f1, g)) from rfl, c_Ix, show bb_hq (17, 5, 21, 5) 2 = some (21, 5) from rfl, en_hx_1]
      exact hx_who_2 (f1, g) v1 v2 v3
set_option maxRecDepth 100000 in
theorem hx_fallen_1 (σ : en_S) (v1 : Int32) : bb_x 0 12011 13 (en_set [some (.ref 31), some (.int v1), some (.ref 30), none] 3 none) [] σ = some (.inl (some (.int 1)), σ) := en_ex_un (G := bb_G) (P := bb_P) (ML := bb_ML) (HD := bb_HD) 4 0 12011 13 (en_set [some (.ref 31), some (.int v1), some (.ref 30), none] 3 none) [] σ
theorem w_fallen (f f1 : Nat → Nat → Int32) (g : Nat → Nat → Int64) (v1 : Int32) (o : Int32 ⊕ Nat) (h : x_b_fallen_0 (f, g) v1 = out o (f1, g)) (he : ∀ e, o = .inr e → e = 1 ∨ e = 2) : x_lw_fallen_0 (f, g) v1 = rI (nI (id (oK o))) (f1, lwG o g) := by
  rw [e_lw_fallen_0, h]
  cases o with
  | inl w => exact rfl
  | inr e =>
    rcases he e rfl with z | z
    · subst z
      rw [show out (.inr 1 : Int32 ⊕ Nat) (f1, g) = some (.inr 1, (f1, g)) from rfl, c_Ix, show bb_hq (13, 3, 99999, 0) 1 = some (13, 3) from rfl, en_hx_1]
      exact hx_fallen_1 (f1, g) v1
    · subst z
      exact (nt_no2 (mi := 10016) (by decide +kernel) 0 [some (.ref 31), some (.int v1), none] [] (f, g) (f1, g) h).elim
set_option maxRecDepth 100000 in
theorem hx_rests_1 (σ : en_S) (v1 : Int32) : bb_x 0 12012 13 (en_set [some (.ref 31), some (.int v1), some (.ref 30), none] 3 none) [] σ = some (.inl (some (.int 1)), σ) := en_ex_un (G := bb_G) (P := bb_P) (ML := bb_ML) (HD := bb_HD) 4 0 12012 13 (en_set [some (.ref 31), some (.int v1), some (.ref 30), none] 3 none) [] σ
theorem w_rests (f f1 : Nat → Nat → Int32) (g : Nat → Nat → Int64) (v1 : Int32) (o : Int32 ⊕ Nat) (h : x_b_rests_0 (f, g) v1 = out o (f1, g)) (he : ∀ e, o = .inr e → e = 1 ∨ e = 2) : x_lw_rests_0 (f, g) v1 = rI (nI (id (oK o))) (f1, lwG o g) := by
  rw [e_lw_rests_0, h]
  cases o with
  | inl w => exact rfl
  | inr e =>
    rcases he e rfl with z | z
    · subst z
      rw [show out (.inr 1 : Int32 ⊕ Nat) (f1, g) = some (.inr 1, (f1, g)) from rfl, c_Ix, show bb_hq (13, 3, 99999, 0) 1 = some (13, 3) from rfl, en_hx_1]
      exact hx_rests_1 (f1, g) v1
    · subst z
      exact (nt_no2 (mi := 10017) (by decide +kernel) 0 [some (.ref 31), some (.int v1)] [] (f, g) (f1, g) h).elim
set_option maxRecDepth 100000 in
theorem hx_meet_1 (σ : en_S) (v1 v2 : Int32) : bb_x 0 12013 15 (en_set [some (.ref 31), some (.int v1), some (.int v2), some (.ref 30), none] 4 none) [] σ = some (.inl (some (.int 1)), σ) := en_ex_un (G := bb_G) (P := bb_P) (ML := bb_ML) (HD := bb_HD) 4 0 12013 15 (en_set [some (.ref 31), some (.int v1), some (.int v2), some (.ref 30), none] 4 none) [] σ
theorem w_meet (f f1 : Nat → Nat → Int32) (g : Nat → Nat → Int64) (v1 v2 : Int32) (o : Int32 ⊕ Nat) (h : x_b_meet_0 (f, g) v1 v2 = out o (f1, g)) (he : ∀ e, o = .inr e → e = 1 ∨ e = 2) : x_lw_meet_0 (f, g) v1 v2 = rI (nI (id (oK o))) (f1, lwG o g) := by
  rw [e_lw_meet_0, h]
  cases o with
  | inl w => exact rfl
  | inr e =>
    rcases he e rfl with z | z
    · subst z
      rw [show out (.inr 1 : Int32 ⊕ Nat) (f1, g) = some (.inr 1, (f1, g)) from rfl, c_Ix, show bb_hq (15, 4, 99999, 0) 1 = some (15, 4) from rfl, en_hx_1]
      exact hx_meet_1 (f1, g) v1 v2
    · subst z
      exact (nt_no2 (mi := 10018) (by decide +kernel) 0 [some (.ref 31), some (.int v1), some (.int v2), none] [] (f, g) (f1, g) h).elim
set_option maxRecDepth 100000 in
theorem hx_later_1 (σ : en_S) (v1 v2 : Int32) : bb_x 0 12014 15 (en_set [some (.ref 31), some (.int v1), some (.int v2), some (.ref 30), none] 4 none) [] σ = some (.inl (some (.int 1)), σ) := en_ex_un (G := bb_G) (P := bb_P) (ML := bb_ML) (HD := bb_HD) 4 0 12014 15 (en_set [some (.ref 31), some (.int v1), some (.int v2), some (.ref 30), none] 4 none) [] σ
set_option maxRecDepth 100000 in
theorem hx_later_2 (σ : en_S) (v1 v2 : Int32) : bb_x 0 12014 19 (en_set [some (.ref 31), some (.int v1), some (.int v2), some (.ref 30), none] 4 none) [] σ = some (.inl (some (.int 2)), σ) := en_ex_un (G := bb_G) (P := bb_P) (ML := bb_ML) (HD := bb_HD) 4 0 12014 19 (en_set [some (.ref 31), some (.int v1), some (.int v2), some (.ref 30), none] 4 none) [] σ
theorem w_later (f f1 : Nat → Nat → Int32) (g : Nat → Nat → Int64) (v1 v2 : Int32) (o : Int32 ⊕ Nat) (h : x_b_later_0 (f, g) v1 v2 = out o (f1, g)) (he : ∀ e, o = .inr e → e = 1 ∨ e = 2) : x_lw_later_0 (f, g) v1 v2 = rI (nI (id (oK o))) (f1, lwG o g) := by
  rw [e_lw_later_0, h]
  cases o with
  | inl w => exact rfl
  | inr e =>
    rcases he e rfl with z | z
    · subst z
      rw [show out (.inr 1 : Int32 ⊕ Nat) (f1, g) = some (.inr 1, (f1, g)) from rfl, c_Ix, show bb_hq (15, 4, 19, 4) 1 = some (15, 4) from rfl, en_hx_1]
      exact hx_later_1 (f1, g) v1 v2
    · subst z
      rw [show out (.inr 2 : Int32 ⊕ Nat) (f1, g) = some (.inr 2, (f1, g)) from rfl, c_Ix, show bb_hq (15, 4, 19, 4) 2 = some (19, 4) from rfl, en_hx_1]
      exact hx_later_2 (f1, g) v1 v2
set_option maxRecDepth 100000 in
theorem hx_calls_1 (σ : en_S) (v1 v2 : Int32) : bb_x 0 12015 15 (en_set [some (.ref 31), some (.int v1), some (.int v2), some (.ref 30), none] 4 none) [] σ = some (.inl (some (.int 1)), σ) := en_ex_un (G := bb_G) (P := bb_P) (ML := bb_ML) (HD := bb_HD) 4 0 12015 15 (en_set [some (.ref 31), some (.int v1), some (.int v2), some (.ref 30), none] 4 none) [] σ
set_option maxRecDepth 100000 in
theorem hx_calls_2 (σ : en_S) (v1 v2 : Int32) : bb_x 0 12015 19 (en_set [some (.ref 31), some (.int v1), some (.int v2), some (.ref 30), none] 4 none) [] σ = some (.inl (some (.int 2)), σ) := en_ex_un (G := bb_G) (P := bb_P) (ML := bb_ML) (HD := bb_HD) 4 0 12015 19 (en_set [some (.ref 31), some (.int v1), some (.int v2), some (.ref 30), none] 4 none) [] σ
theorem w_calls (f f1 : Nat → Nat → Int32) (g : Nat → Nat → Int64) (v1 v2 : Int32) (o : Int32 ⊕ Nat) (h : x_b_calls_0 (f, g) v1 v2 = out o (f1, g)) (he : ∀ e, o = .inr e → e = 1 ∨ e = 2) : x_lw_calls_0 (f, g) v1 v2 = rI (nI (id (oK o))) (f1, lwG o g) := by
  rw [e_lw_calls_0, h]
  cases o with
  | inl w => exact rfl
  | inr e =>
    rcases he e rfl with z | z
    · subst z
      rw [show out (.inr 1 : Int32 ⊕ Nat) (f1, g) = some (.inr 1, (f1, g)) from rfl, c_Ix, show bb_hq (15, 4, 19, 4) 1 = some (15, 4) from rfl, en_hx_1]
      exact hx_calls_1 (f1, g) v1 v2
    · subst z
      rw [show out (.inr 2 : Int32 ⊕ Nat) (f1, g) = some (.inr 2, (f1, g)) from rfl, c_Ix, show bb_hq (15, 4, 19, 4) 2 = some (19, 4) from rfl, en_hx_1]
      exact hx_calls_2 (f1, g) v1 v2
set_option maxRecDepth 100000 in
theorem hx_toBear_1 (σ : en_S) (v1 : Int32) : bb_x 0 12016 13 (en_set [some (.ref 31), some (.int v1), some (.ref 30), none] 3 none) [] σ = some (.inl (some (.int 1)), σ) := en_ex_un (G := bb_G) (P := bb_P) (ML := bb_ML) (HD := bb_HD) 4 0 12016 13 (en_set [some (.ref 31), some (.int v1), some (.ref 30), none] 3 none) [] σ
theorem w_toBear (f f1 : Nat → Nat → Int32) (g : Nat → Nat → Int64) (v1 : Int32) (o : Int32 ⊕ Nat) (h : x_b_toBear_0 (f, g) v1 = out o (f1, g)) (he : ∀ e, o = .inr e → e = 1 ∨ e = 2) : x_lw_toBear_0 (f, g) v1 = rI (nI (id (oK o))) (f1, lwG o g) := by
  rw [e_lw_toBear_0, h]
  cases o with
  | inl w => exact rfl
  | inr e =>
    rcases he e rfl with z | z
    · subst z
      rw [show out (.inr 1 : Int32 ⊕ Nat) (f1, g) = some (.inr 1, (f1, g)) from rfl, c_Ix, show bb_hq (13, 3, 99999, 0) 1 = some (13, 3) from rfl, en_hx_1]
      exact hx_toBear_1 (f1, g) v1
    · subst z
      exact (nt_no2 (mi := 10021) (by decide +kernel) 0 [some (.ref 31), some (.int v1)] [] (f, g) (f1, g) h).elim
set_option maxRecDepth 100000 in
theorem hx_crew_1 (σ : en_S) (v1 : Int32) : bb_x 0 12017 13 (en_set [some (.ref 31), some (.int v1), some (.ref 30), none] 3 none) [] σ = some (.inl (some (.int 1)), σ) := en_ex_un (G := bb_G) (P := bb_P) (ML := bb_ML) (HD := bb_HD) 4 0 12017 13 (en_set [some (.ref 31), some (.int v1), some (.ref 30), none] 3 none) [] σ
theorem w_crew (f f1 : Nat → Nat → Int32) (g : Nat → Nat → Int64) (v1 : Int32) (o : Int32 ⊕ Nat) (h : x_b_crew_0 (f, g) v1 = out o (f1, g)) (he : ∀ e, o = .inr e → e = 1 ∨ e = 2) : x_lw_crew_0 (f, g) v1 = rI (nI (id (oK o))) (f1, lwG o g) := by
  rw [e_lw_crew_0, h]
  cases o with
  | inl w => exact rfl
  | inr e =>
    rcases he e rfl with z | z
    · subst z
      rw [show out (.inr 1 : Int32 ⊕ Nat) (f1, g) = some (.inr 1, (f1, g)) from rfl, c_Ix, show bb_hq (13, 3, 99999, 0) 1 = some (13, 3) from rfl, en_hx_1]
      exact hx_crew_1 (f1, g) v1
    · subst z
      exact (nt_no2 (mi := 10022) (by decide +kernel) 0 [some (.ref 31), some (.int v1)] [] (f, g) (f1, g) h).elim
set_option maxRecDepth 100000 in
theorem hx_toSlander_1 (σ : en_S) (v1 : Int32) : bb_x 0 12018 13 (en_set [some (.ref 31), some (.int v1), some (.ref 30), none] 3 none) [] σ = some (.inl (some (.int 1)), σ) := en_ex_un (G := bb_G) (P := bb_P) (ML := bb_ML) (HD := bb_HD) 4 0 12018 13 (en_set [some (.ref 31), some (.int v1), some (.ref 30), none] 3 none) [] σ
theorem w_toSlander (f f1 : Nat → Nat → Int32) (g : Nat → Nat → Int64) (v1 : Int32) (o : Int32 ⊕ Nat) (h : x_b_toSlander_0 (f, g) v1 = out o (f1, g)) (he : ∀ e, o = .inr e → e = 1 ∨ e = 2) : x_lw_toSlander_0 (f, g) v1 = rI (nI (id (oK o))) (f1, lwG o g) := by
  rw [e_lw_toSlander_0, h]
  cases o with
  | inl w => exact rfl
  | inr e =>
    rcases he e rfl with z | z
    · subst z
      rw [show out (.inr 1 : Int32 ⊕ Nat) (f1, g) = some (.inr 1, (f1, g)) from rfl, c_Ix, show bb_hq (13, 3, 99999, 0) 1 = some (13, 3) from rfl, en_hx_1]
      exact hx_toSlander_1 (f1, g) v1
    · subst z
      exact (nt_no2 (mi := 10023) (by decide +kernel) 0 [some (.ref 31), some (.int v1), none] [] (f, g) (f1, g) h).elim
set_option maxRecDepth 100000 in
theorem hx_toWait_1 (σ : en_S) (v1 : Int32) : bb_x 0 12019 13 (en_set [some (.ref 31), some (.int v1), some (.ref 30), none] 3 none) [] σ = some (.inl (some (.int 1)), σ) := en_ex_un (G := bb_G) (P := bb_P) (ML := bb_ML) (HD := bb_HD) 4 0 12019 13 (en_set [some (.ref 31), some (.int v1), some (.ref 30), none] 3 none) [] σ
theorem w_toWait (f f1 : Nat → Nat → Int32) (g : Nat → Nat → Int64) (v1 : Int32) (o : Int32 ⊕ Nat) (h : x_b_toWait_0 (f, g) v1 = out o (f1, g)) (he : ∀ e, o = .inr e → e = 1 ∨ e = 2) : x_lw_toWait_0 (f, g) v1 = rI (nI (id (oK o))) (f1, lwG o g) := by
  rw [e_lw_toWait_0, h]
  cases o with
  | inl w => exact rfl
  | inr e =>
    rcases he e rfl with z | z
    · subst z
      rw [show out (.inr 1 : Int32 ⊕ Nat) (f1, g) = some (.inr 1, (f1, g)) from rfl, c_Ix, show bb_hq (13, 3, 99999, 0) 1 = some (13, 3) from rfl, en_hx_1]
      exact hx_toWait_1 (f1, g) v1
    · subst z
      exact (nt_no2 (mi := 10024) (by decide +kernel) 0 [some (.ref 31), some (.int v1)] [] (f, g) (f1, g) h).elim
set_option maxRecDepth 100000 in
theorem hx_way_1 (σ : en_S) (v1 v2 v3 : Int32) : bb_x 0 12020 17 (en_set [some (.ref 31), some (.int v1), some (.int v2), some (.int v3), some (.ref 30), none] 5 none) [] σ = some (.inl (some (.int 1)), σ) := en_ex_un (G := bb_G) (P := bb_P) (ML := bb_ML) (HD := bb_HD) 4 0 12020 17 (en_set [some (.ref 31), some (.int v1), some (.int v2), some (.int v3), some (.ref 30), none] 5 none) [] σ
theorem w_way (f f1 : Nat → Nat → Int32) (g : Nat → Nat → Int64) (v1 v2 v3 : Int32) (o : Int32 ⊕ Nat) (h : x_b_way_0 (f, g) v1 v2 v3 = out o (f1, g)) (he : ∀ e, o = .inr e → e = 1 ∨ e = 2) : x_lw_way_0 (f, g) v1 v2 v3 = rI (nI (id (oK o))) (f1, lwG o g) := by
  rw [e_lw_way_0, h]
  cases o with
  | inl w => exact rfl
  | inr e =>
    rcases he e rfl with z | z
    · subst z
      rw [show out (.inr 1 : Int32 ⊕ Nat) (f1, g) = some (.inr 1, (f1, g)) from rfl, c_Ix, show bb_hq (17, 5, 99999, 0) 1 = some (17, 5) from rfl, en_hx_1]
      exact hx_way_1 (f1, g) v1 v2 v3
    · subst z
      exact (nt_no2 (mi := 10025) (by decide +kernel) 0 [some (.ref 31), some (.int v1), some (.int v2), some (.int v3)] [] (f, g) (f1, g) h).elim
set_option maxRecDepth 100000 in
theorem hx_see_1 (σ : en_S) (v1 v2 v3 : Int32) : bb_x 0 12021 17 (en_set [some (.ref 31), some (.int v1), some (.int v2), some (.int v3), some (.ref 30), none] 5 none) [] σ = some (.inl (some (.int 1)), σ) := en_ex_un (G := bb_G) (P := bb_P) (ML := bb_ML) (HD := bb_HD) 4 0 12021 17 (en_set [some (.ref 31), some (.int v1), some (.int v2), some (.int v3), some (.ref 30), none] 5 none) [] σ
theorem w_see (f f1 : Nat → Nat → Int32) (g : Nat → Nat → Int64) (v1 v2 v3 : Int32) (o : Int32 ⊕ Nat) (h : x_b_see_0 (f, g) v1 v2 v3 = out o (f1, g)) (he : ∀ e, o = .inr e → e = 1 ∨ e = 2) : x_lw_see_0 (f, g) v1 v2 v3 = rI (nI (id (oK o))) (f1, lwG o g) := by
  rw [e_lw_see_0, h]
  cases o with
  | inl w => exact rfl
  | inr e =>
    rcases he e rfl with z | z
    · subst z
      rw [show out (.inr 1 : Int32 ⊕ Nat) (f1, g) = some (.inr 1, (f1, g)) from rfl, c_Ix, show bb_hq (17, 5, 99999, 0) 1 = some (17, 5) from rfl, en_hx_1]
      exact hx_see_1 (f1, g) v1 v2 v3
    · subst z
      exact (nt_no2 (mi := 10026) (by decide +kernel) 0 [some (.ref 31), some (.int v1), some (.int v2), some (.int v3)] [] (f, g) (f1, g) h).elim
set_option maxRecDepth 100000 in
theorem hx_weighed_1 (σ : en_S) (v1 : Int32) : bb_x 0 12022 13 (en_set [some (.ref 31), some (.int v1), some (.ref 30), none] 3 none) [] σ = some (.inl (some (.int 1)), σ) := en_ex_un (G := bb_G) (P := bb_P) (ML := bb_ML) (HD := bb_HD) 4 0 12022 13 (en_set [some (.ref 31), some (.int v1), some (.ref 30), none] 3 none) [] σ
theorem w_weighed (f f1 : Nat → Nat → Int32) (g : Nat → Nat → Int64) (v1 : Int32) (o : Int32 ⊕ Nat) (h : x_b_weighed_0 (f, g) v1 = out o (f1, g)) (he : ∀ e, o = .inr e → e = 1 ∨ e = 2) : x_lw_weighed_0 (f, g) v1 = rI (nI (id (oK o))) (f1, lwG o g) := by
  rw [e_lw_weighed_0, h]
  cases o with
  | inl w => exact rfl
  | inr e =>
    rcases he e rfl with z | z
    · subst z
      rw [show out (.inr 1 : Int32 ⊕ Nat) (f1, g) = some (.inr 1, (f1, g)) from rfl, c_Ix, show bb_hq (13, 3, 99999, 0) 1 = some (13, 3) from rfl, en_hx_1]
      exact hx_weighed_1 (f1, g) v1
    · subst z
      exact (nt_no2 (mi := 10028) (by decide +kernel) 0 [some (.ref 31), some (.int v1)] [] (f, g) (f1, g) h).elim
set_option maxRecDepth 100000 in
theorem hx_look_1 (σ : en_S) (v1 : Int32) : bb_x 0 12023 13 (en_set [some (.ref 31), some (.int v1), some (.ref 30), none] 3 none) [] σ = some (.inl (some (.int 1)), σ) := en_ex_un (G := bb_G) (P := bb_P) (ML := bb_ML) (HD := bb_HD) 4 0 12023 13 (en_set [some (.ref 31), some (.int v1), some (.ref 30), none] 3 none) [] σ
theorem w_look (f f1 : Nat → Nat → Int32) (g : Nat → Nat → Int64) (v1 : Int32) (o : Int32 ⊕ Nat) (h : x_b_look_0 (f, g) v1 = out o (f1, g)) (he : ∀ e, o = .inr e → e = 1 ∨ e = 2) : x_lw_look_0 (f, g) v1 = rI (nI (id (oK o))) (f1, lwG o g) := by
  rw [e_lw_look_0, h]
  cases o with
  | inl w => exact rfl
  | inr e =>
    rcases he e rfl with z | z
    · subst z
      rw [show out (.inr 1 : Int32 ⊕ Nat) (f1, g) = some (.inr 1, (f1, g)) from rfl, c_Ix, show bb_hq (13, 3, 99999, 0) 1 = some (13, 3) from rfl, en_hx_1]
      exact hx_look_1 (f1, g) v1
    · subst z
      exact (nt_no2 (mi := 10029) (by decide +kernel) 0 [some (.ref 31), some (.int v1)] [] (f, g) (f1, g) h).elim
set_option maxRecDepth 100000 in
theorem hx_rain_1 (σ : en_S) (v1 v2 v3 : Int32) : bb_x 0 12024 17 (en_set [some (.ref 31), some (.int v1), some (.int v2), some (.int v3), some (.ref 30), none] 5 none) [] σ = some (.inl (some (.int 1)), σ) := en_ex_un (G := bb_G) (P := bb_P) (ML := bb_ML) (HD := bb_HD) 4 0 12024 17 (en_set [some (.ref 31), some (.int v1), some (.int v2), some (.int v3), some (.ref 30), none] 5 none) [] σ
set_option maxRecDepth 100000 in
theorem hx_rain_2 (σ : en_S) (v1 v2 v3 : Int32) : bb_x 0 12024 21 (en_set [some (.ref 31), some (.int v1), some (.int v2), some (.int v3), some (.ref 30), none] 5 none) [] σ = some (.inl (some (.int 2)), σ) := en_ex_un (G := bb_G) (P := bb_P) (ML := bb_ML) (HD := bb_HD) 4 0 12024 21 (en_set [some (.ref 31), some (.int v1), some (.int v2), some (.int v3), some (.ref 30), none] 5 none) [] σ
theorem w_rain (f f1 : Nat → Nat → Int32) (g : Nat → Nat → Int64) (v1 v2 v3 : Int32) (o : Int32 ⊕ Nat) (h : x_b_rain_0 (f, g) v1 v2 v3 = out o (f1, g)) (he : ∀ e, o = .inr e → e = 1 ∨ e = 2) : x_lw_rain_0 (f, g) v1 v2 v3 = rI (nI (id (oK o))) (f1, lwG o g) := by
  rw [e_lw_rain_0, h]
  cases o with
  | inl w => exact rfl
  | inr e =>
    rcases he e rfl with z | z
    · subst z
      rw [show out (.inr 1 : Int32 ⊕ Nat) (f1, g) = some (.inr 1, (f1, g)) from rfl, c_Ix, show bb_hq (17, 5, 21, 5) 1 = some (17, 5) from rfl, en_hx_1]
      exact hx_rain_1 (f1, g) v1 v2 v3
    · subst z
      rw [show out (.inr 2 : Int32 ⊕ Nat) (f1, g) = some (.inr 2, (f1, g)) from rfl, c_Ix, show bb_hq (17, 5, 21, 5) 2 = some (21, 5) from rfl, en_hx_1]
      exact hx_rain_2 (f1, g) v1 v2 v3
set_option maxRecDepth 100000 in
theorem hx_game_1 (σ : en_S) (v1 v2 v3 : Int32) : bb_x 0 12025 17 (en_set [some (.ref 31), some (.int v1), some (.int v2), some (.int v3), some (.ref 30), none] 5 none) [] σ = some (.inl (some (.int 1)), σ) := en_ex_un (G := bb_G) (P := bb_P) (ML := bb_ML) (HD := bb_HD) 4 0 12025 17 (en_set [some (.ref 31), some (.int v1), some (.int v2), some (.int v3), some (.ref 30), none] 5 none) [] σ
set_option maxRecDepth 100000 in
theorem hx_game_2 (σ : en_S) (v1 v2 v3 : Int32) : bb_x 0 12025 21 (en_set [some (.ref 31), some (.int v1), some (.int v2), some (.int v3), some (.ref 30), none] 5 none) [] σ = some (.inl (some (.int 2)), σ) := en_ex_un (G := bb_G) (P := bb_P) (ML := bb_ML) (HD := bb_HD) 4 0 12025 21 (en_set [some (.ref 31), some (.int v1), some (.int v2), some (.int v3), some (.ref 30), none] 5 none) [] σ
theorem w_game (f f1 : Nat → Nat → Int32) (g : Nat → Nat → Int64) (v1 v2 v3 : Int32) (o : Int32 ⊕ Nat) (h : x_b_game_0 (f, g) v1 v2 v3 = out o (f1, g)) (he : ∀ e, o = .inr e → e = 1 ∨ e = 2) : x_lw_game_0 (f, g) v1 v2 v3 = rI (nI (id (oK o))) (f1, lwG o g) := by
  rw [e_lw_game_0, h]
  cases o with
  | inl w => exact rfl
  | inr e =>
    rcases he e rfl with z | z
    · subst z
      rw [show out (.inr 1 : Int32 ⊕ Nat) (f1, g) = some (.inr 1, (f1, g)) from rfl, c_Ix, show bb_hq (17, 5, 21, 5) 1 = some (17, 5) from rfl, en_hx_1]
      exact hx_game_1 (f1, g) v1 v2 v3
    · subst z
      rw [show out (.inr 2 : Int32 ⊕ Nat) (f1, g) = some (.inr 2, (f1, g)) from rfl, c_Ix, show bb_hq (17, 5, 21, 5) 2 = some (21, 5) from rfl, en_hx_1]
      exact hx_game_2 (f1, g) v1 v2 v3
set_option maxRecDepth 100000 in
theorem hx_years_1 (σ : en_S) (v1 v2 v3 : Int32) : bb_x 0 12026 17 (en_set [some (.ref 31), some (.int v1), some (.int v2), some (.int v3), some (.ref 30), none] 5 none) [] σ = some (.inl (some (.int 1)), σ) := en_ex_un (G := bb_G) (P := bb_P) (ML := bb_ML) (HD := bb_HD) 4 0 12026 17 (en_set [some (.ref 31), some (.int v1), some (.int v2), some (.int v3), some (.ref 30), none] 5 none) [] σ
set_option maxRecDepth 100000 in
theorem hx_years_2 (σ : en_S) (v1 v2 v3 : Int32) : bb_x 0 12026 21 (en_set [some (.ref 31), some (.int v1), some (.int v2), some (.int v3), some (.ref 30), none] 5 none) [] σ = some (.inl (some (.int 2)), σ) := en_ex_un (G := bb_G) (P := bb_P) (ML := bb_ML) (HD := bb_HD) 4 0 12026 21 (en_set [some (.ref 31), some (.int v1), some (.int v2), some (.int v3), some (.ref 30), none] 5 none) [] σ
theorem w_years (f f1 : Nat → Nat → Int32) (g : Nat → Nat → Int64) (v1 v2 v3 : Int32) (o : Int32 ⊕ Nat) (h : x_b_years_0 (f, g) v1 v2 v3 = out o (f1, g)) (he : ∀ e, o = .inr e → e = 1 ∨ e = 2) : x_lw_years_0 (f, g) v1 v2 v3 = rI (nI (id (oK o))) (f1, lwG o g) := by
  rw [e_lw_years_0, h]
  cases o with
  | inl w => exact rfl
  | inr e =>
    rcases he e rfl with z | z
    · subst z
      rw [show out (.inr 1 : Int32 ⊕ Nat) (f1, g) = some (.inr 1, (f1, g)) from rfl, c_Ix, show bb_hq (17, 5, 21, 5) 1 = some (17, 5) from rfl, en_hx_1]
      exact hx_years_1 (f1, g) v1 v2 v3
    · subst z
      rw [show out (.inr 2 : Int32 ⊕ Nat) (f1, g) = some (.inr 2, (f1, g)) from rfl, c_Ix, show bb_hq (17, 5, 21, 5) 2 = some (21, 5) from rfl, en_hx_1]
      exact hx_years_2 (f1, g) v1 v2 v3
set_option maxRecDepth 100000 in
theorem hx_idle_1 (σ : en_S) (v1 : Int32) : bb_x 0 12027 13 (en_set [some (.ref 31), some (.int v1), some (.ref 30), none] 3 none) [] σ = some (.inl (some (.int 1)), σ) := en_ex_un (G := bb_G) (P := bb_P) (ML := bb_ML) (HD := bb_HD) 4 0 12027 13 (en_set [some (.ref 31), some (.int v1), some (.ref 30), none] 3 none) [] σ
theorem w_idle (f f1 : Nat → Nat → Int32) (g : Nat → Nat → Int64) (v1 : Int32) (o : Int32 ⊕ Nat) (h : x_b_idle_0 (f, g) v1 = out o (f1, g)) (he : ∀ e, o = .inr e → e = 1 ∨ e = 2) : x_lw_idle_0 (f, g) v1 = rI (nI (id (oK o))) (f1, lwG o g) := by
  rw [e_lw_idle_0, h]
  cases o with
  | inl w => exact rfl
  | inr e =>
    rcases he e rfl with z | z
    · subst z
      rw [show out (.inr 1 : Int32 ⊕ Nat) (f1, g) = some (.inr 1, (f1, g)) from rfl, c_Ix, show bb_hq (13, 3, 99999, 0) 1 = some (13, 3) from rfl, en_hx_1]
      exact hx_idle_1 (f1, g) v1
    · subst z
      exact (nt_no2 (mi := 10033) (by decide +kernel) 0 [some (.ref 31), some (.int v1), none, none, none, none] [] (f, g) (f1, g) h).elim
set_option maxRecDepth 100000 in
theorem hx_nearest_1 (σ : en_S) (v1 : Int32) : bb_x 0 12028 13 (en_set [some (.ref 31), some (.int v1), some (.ref 30), none] 3 none) [] σ = some (.inl (some (.int 1)), σ) := en_ex_un (G := bb_G) (P := bb_P) (ML := bb_ML) (HD := bb_HD) 4 0 12028 13 (en_set [some (.ref 31), some (.int v1), some (.ref 30), none] 3 none) [] σ
theorem w_nearest (f f1 : Nat → Nat → Int32) (g : Nat → Nat → Int64) (v1 : Int32) (o : Int32 ⊕ Nat) (h : x_b_nearest_0 (f, g) v1 = out o (f1, g)) (he : ∀ e, o = .inr e → e = 1 ∨ e = 2) : x_lw_nearest_0 (f, g) v1 = rI (nI (id (oK o))) (f1, lwG o g) := by
  rw [e_lw_nearest_0, h]
  cases o with
  | inl w => exact rfl
  | inr e =>
    rcases he e rfl with z | z
    · subst z
      rw [show out (.inr 1 : Int32 ⊕ Nat) (f1, g) = some (.inr 1, (f1, g)) from rfl, c_Ix, show bb_hq (13, 3, 99999, 0) 1 = some (13, 3) from rfl, en_hx_1]
      exact hx_nearest_1 (f1, g) v1
    · subst z
      exact (nt_no2 (mi := 10034) (by decide +kernel) 0 [some (.ref 31), some (.int v1), none, none, none, none, none] [] (f, g) (f1, g) h).elim
set_option maxRecDepth 100000 in
theorem hx_ahead_1 (σ : en_S) (v1 v2 : Int32) : bb_x 0 12029 15 (en_set [some (.ref 31), some (.int v1), some (.int v2), some (.ref 30), none] 4 none) [] σ = some (.inl (some (.int 1)), σ) := en_ex_un (G := bb_G) (P := bb_P) (ML := bb_ML) (HD := bb_HD) 4 0 12029 15 (en_set [some (.ref 31), some (.int v1), some (.int v2), some (.ref 30), none] 4 none) [] σ
theorem w_ahead (f f1 : Nat → Nat → Int32) (g : Nat → Nat → Int64) (v1 v2 : Int32) (o : Int32 ⊕ Nat) (h : x_b_ahead_0 (f, g) v1 v2 = out o (f1, g)) (he : ∀ e, o = .inr e → e = 1 ∨ e = 2) : x_lw_ahead_0 (f, g) v1 v2 = rI (nI (id (oK o))) (f1, lwG o g) := by
  rw [e_lw_ahead_0, h]
  cases o with
  | inl w => exact rfl
  | inr e =>
    rcases he e rfl with z | z
    · subst z
      rw [show out (.inr 1 : Int32 ⊕ Nat) (f1, g) = some (.inr 1, (f1, g)) from rfl, c_Ix, show bb_hq (15, 4, 99999, 0) 1 = some (15, 4) from rfl, en_hx_1]
      exact hx_ahead_1 (f1, g) v1 v2
    · subst z
      exact (nt_no2 (mi := 10035) (by decide +kernel) 0 [some (.ref 31), some (.int v1), some (.int v2), none, none] [] (f, g) (f1, g) h).elim
set_option maxRecDepth 100000 in
theorem hx_alone_1 (σ : en_S) (v1 : Int32) : bb_x 0 12030 13 (en_set [some (.ref 31), some (.int v1), some (.ref 30), none] 3 none) [] σ = some (.inl (some (.int 1)), σ) := en_ex_un (G := bb_G) (P := bb_P) (ML := bb_ML) (HD := bb_HD) 4 0 12030 13 (en_set [some (.ref 31), some (.int v1), some (.ref 30), none] 3 none) [] σ
theorem w_alone (f f1 : Nat → Nat → Int32) (g : Nat → Nat → Int64) (v1 : Int32) (o : Int32 ⊕ Nat) (h : x_b_alone_0 (f, g) v1 = out o (f1, g)) (he : ∀ e, o = .inr e → e = 1 ∨ e = 2) : x_lw_alone_0 (f, g) v1 = rI (nI (id (oK o))) (f1, lwG o g) := by
  rw [e_lw_alone_0, h]
  cases o with
  | inl w => exact rfl
  | inr e =>
    rcases he e rfl with z | z
    · subst z
      rw [show out (.inr 1 : Int32 ⊕ Nat) (f1, g) = some (.inr 1, (f1, g)) from rfl, c_Ix, show bb_hq (13, 3, 99999, 0) 1 = some (13, 3) from rfl, en_hx_1]
      exact hx_alone_1 (f1, g) v1
    · subst z
      exact (nt_no2 (mi := 10036) (by decide +kernel) 0 [some (.ref 31), some (.int v1), none, none] [] (f, g) (f1, g) h).elim
set_option maxRecDepth 100000 in
theorem hx_weariest_2 (σ : en_S) (v1 : Int32) : bb_x 0 12031 13 (en_set [some (.ref 31), some (.int v1), some (.ref 30), none] 3 none) [] σ = some (.inl (some (.int 1)), σ) := en_ex_un (G := bb_G) (P := bb_P) (ML := bb_ML) (HD := bb_HD) 4 0 12031 13 (en_set [some (.ref 31), some (.int v1), some (.ref 30), none] 3 none) [] σ
theorem w_weariest (f f1 : Nat → Nat → Int32) (g : Nat → Nat → Int64) (v1 : Int32) (o : Int32 ⊕ Nat) (h : x_b_weariest_0 (f, g) v1 = out o (f1, g)) (he : ∀ e, o = .inr e → e = 1 ∨ e = 2) : x_lw_weariest_0 (f, g) v1 = rI (nI ((fun e => if e = 2 then 1 else e) (oK o))) (f1, lwG o g) := by
  rw [e_lw_weariest_0, h]
  cases o with
  | inl w => exact rfl
  | inr e =>
    rcases he e rfl with z | z
    · subst z
      exact (nt_no1 (mi := 10037) (by decide +kernel) 0 [some (.ref 31), some (.int v1), none, none, none] [] (f, g) (f1, g) h).elim
    · subst z
      rw [show out (.inr 2 : Int32 ⊕ Nat) (f1, g) = some (.inr 2, (f1, g)) from rfl, c_Ix, show bb_hq (99999, 0, 13, 3) 2 = some (13, 3) from rfl, en_hx_1]
      exact hx_weariest_2 (f1, g) v1
set_option maxRecDepth 100000 in
theorem hx_onRoutes_1 (σ : en_S) (v1 : Int32) : bb_x 0 12032 13 (en_set [some (.ref 31), some (.int v1), some (.ref 30), none] 3 none) [] σ = some (.inl (some (.int 1)), σ) := en_ex_un (G := bb_G) (P := bb_P) (ML := bb_ML) (HD := bb_HD) 4 0 12032 13 (en_set [some (.ref 31), some (.int v1), some (.ref 30), none] 3 none) [] σ
theorem w_onRoutes (f f1 : Nat → Nat → Int32) (g : Nat → Nat → Int64) (v1 : Int32) (o : Int32 ⊕ Nat) (h : x_b_onRoutes_0 (f, g) v1 = out o (f1, g)) (he : ∀ e, o = .inr e → e = 1 ∨ e = 2) : x_lw_onRoutes_0 (f, g) v1 = rI (nI (id (oK o))) (f1, lwG o g) := by
  rw [e_lw_onRoutes_0, h]
  cases o with
  | inl w => exact rfl
  | inr e =>
    rcases he e rfl with z | z
    · subst z
      rw [show out (.inr 1 : Int32 ⊕ Nat) (f1, g) = some (.inr 1, (f1, g)) from rfl, c_Ix, show bb_hq (13, 3, 99999, 0) 1 = some (13, 3) from rfl, en_hx_1]
      exact hx_onRoutes_1 (f1, g) v1
    · subst z
      exact (nt_no2 (mi := 10038) (by decide +kernel) 0 [some (.ref 31), some (.int v1), none, none, none] [] (f, g) (f1, g) h).elim
set_option maxRecDepth 100000 in
theorem hx_reach_1 (σ : en_S) (v1 : Int32) : bb_x 0 12033 13 (en_set [some (.ref 31), some (.int v1), some (.ref 30), none] 3 none) [] σ = some (.inl (some (.int 1)), σ) := en_ex_un (G := bb_G) (P := bb_P) (ML := bb_ML) (HD := bb_HD) 4 0 12033 13 (en_set [some (.ref 31), some (.int v1), some (.ref 30), none] 3 none) [] σ
theorem w_reach (f f1 : Nat → Nat → Int32) (g : Nat → Nat → Int64) (v1 : Int32) (o : Int32 ⊕ Nat) (h : x_b_reach_0 (f, g) v1 = out o (f1, g)) (he : ∀ e, o = .inr e → e = 1 ∨ e = 2) : x_lw_reach_0 (f, g) v1 = rI (nI (id (oK o))) (f1, lwG o g) := by
  rw [e_lw_reach_0, h]
  cases o with
  | inl w => exact rfl
  | inr e =>
    rcases he e rfl with z | z
    · subst z
      rw [show out (.inr 1 : Int32 ⊕ Nat) (f1, g) = some (.inr 1, (f1, g)) from rfl, c_Ix, show bb_hq (13, 3, 99999, 0) 1 = some (13, 3) from rfl, en_hx_1]
      exact hx_reach_1 (f1, g) v1
    · subst z
      exact (nt_no2 (mi := 10039) (by decide +kernel) 0 [some (.ref 31), some (.int v1), none, none] [] (f, g) (f1, g) h).elim
set_option maxRecDepth 100000 in
theorem hx_total_2 (σ : en_S) (v1 : Int32) : bb_x 0 12034 13 (en_set [some (.ref 31), some (.int v1), some (.ref 30), none] 3 none) [] σ = some (.inl (some (.int 1)), σ) := en_ex_un (G := bb_G) (P := bb_P) (ML := bb_ML) (HD := bb_HD) 4 0 12034 13 (en_set [some (.ref 31), some (.int v1), some (.ref 30), none] 3 none) [] σ
theorem w_total (f f1 : Nat → Nat → Int32) (g : Nat → Nat → Int64) (v1 : Int32) (o : Int32 ⊕ Nat) (h : x_b_total_0 (f, g) v1 = out o (f1, g)) (he : ∀ e, o = .inr e → e = 1 ∨ e = 2) : x_lw_total_0 (f, g) v1 = rI (nI ((fun e => if e = 2 then 1 else e) (oK o))) (f1, lwG o g) := by
  rw [e_lw_total_0, h]
  cases o with
  | inl w => exact rfl
  | inr e =>
    rcases he e rfl with z | z
    · subst z
      exact (nt_no1 (mi := 10040) (by decide +kernel) 0 [some (.ref 31), some (.int v1)] [] (f, g) (f1, g) h).elim
    · subst z
      rw [show out (.inr 2 : Int32 ⊕ Nat) (f1, g) = some (.inr 2, (f1, g)) from rfl, c_Ix, show bb_hq (99999, 0, 13, 3) 2 = some (13, 3) from rfl, en_hx_1]
      exact hx_total_2 (f1, g) v1
