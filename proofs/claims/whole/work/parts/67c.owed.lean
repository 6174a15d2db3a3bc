/-! THE LAW'S TURNS, and the store at the start -/
theorem tn_e {X Y : en_K → Option en_O} {T : en_K → en_S → Option en_O} (e : ∀ kf, X kf = Y kf) (h : ∃ σ', Rl σ' ∧ ∀ kf, Y kf = T kf σ') : ∃ σ', Rl σ' ∧ ∀ kf, X kf = T kf σ' := by
  obtain ⟨σ', r, h⟩ := h
  exact ⟨σ', r, fun kf => (e kf).trans (h kf)⟩
theorem tn_c {c : Prop} [Decidable c] {X Y : en_K → Option en_O} {T : en_K → en_S → Option en_O} (h1 : ∃ σ', Rl σ' ∧ ∀ kf, X kf = T kf σ') (h2 : ∃ σ', Rl σ' ∧ ∀ kf, Y kf = T kf σ') : ∃ σ', Rl σ' ∧ ∀ kf, (if c then X kf else Y kf) = T kf σ' := by
  by_cases z : c
  · obtain ⟨σ', r, h⟩ := h1
    exact ⟨σ', r, fun kf => by rw [if_pos z]; exact h kf⟩
  · obtain ⟨σ', r, h⟩ := h2
    exact ⟨σ', r, fun kf => by rw [if_neg z]; exact h kf⟩
theorem tn_n {c : Prop} [Decidable c] {X Y : en_K → Option en_O} {T : en_K → en_S → Option en_O} (z : ¬ c) (h2 : ∃ σ', Rl σ' ∧ ∀ kf, Y kf = T kf σ') : ∃ σ', Rl σ' ∧ ∀ kf, (if c then X kf else Y kf) = T kf σ' := by
  obtain ⟨σ', r, h⟩ := h2
  exact ⟨σ', r, fun kf => by rw [if_neg z]; exact h kf⟩
theorem tn_y {c : Prop} [Decidable c] {X Y : en_K → Option en_O} {T : en_K → en_S → Option en_O} (z : c) (h1 : ∃ σ', Rl σ' ∧ ∀ kf, X kf = T kf σ') : ∃ σ', Rl σ' ∧ ∀ kf, (if c then X kf else Y kf) = T kf σ' := by
  obtain ⟨σ', r, h⟩ := h1
  exact ⟨σ', r, fun kf => by rw [if_pos z]; exact h kf⟩
def zN : List (Nat × Nat × Nat) := [(0, 1, 4), (0, 2, 0), (0, 3, 0), (0, 4, 0), (0, 14, 0), (0, 47, 0), (0, 55, 0), (0, 60, 0), (34, 0, 4), (34, 1, 0), (34, 5, 0), (34, 9, 0), (44, 0, 0), (47, 0, 0), (79, 0, 0), (81, 0, 0), (31, 11, 0), (31, 1, 0)]
def zM : List (Nat × Nat) := [(0, 5), (0, 6), (0, 16), (31, 2)]
set_option maxRecDepth 100000 in
theorem z_N : (zN.all fun z => decide (bd_0.1 z.1 z.2.1 = nI z.2.2)) = true := by decide +kernel
set_option maxRecDepth 100000 in
theorem z_M : (zM.all fun z => decide (bd_0.1 z.1 z.2 = nN)) = true := by decide +kernel
set_option maxRecDepth 100000 in
theorem z_1 : ((List.range 64).all fun i => decide (bd_0.1 1 i = nN)) = true := by decide +kernel
set_option maxRecDepth 100000 in
theorem z_2 : bd_0.1 18 0 = bd_0.1 67 1 ∧ bd_0.1 33 0 = bd_0.1 8 0 ∧ bd_0.1 33 1 = bd_0.1 8 1 ∧ bd_0.1 33 2 = bd_0.1 8 2 := by decide +kernel
theorem z_go (B : Nat → Nat → Int32) (z1 : ∀ p i n, (p, i, n) ∈ zN → B p i = nI n) (z2 : ∀ p i, (p, i) ∈ zM → B p i = nN) (h1 : ∀ a b, a < 8 → b < 8 → B 1 (8 * a + b) = nN) (d : B 18 0 = B 67 1) (hF : ∀ i, i < 3 → B 33 i = B 8 i) : ∃ A, AOK A ∧ MRel A B ∧ CRel A B := by
  have no : ∀ {P : Nat → Prop}, ∀ x, x < 0 → P x := fun x hx => absurd hx (Nat.not_lt_zero x)
  refine ⟨((0, 0, fun _ => 0, fun _ => 0, fun _ => 0, fun _ => 0, none, none), (4, 0, fun _ => 0, fun _ => 0, fun _ => 0), (B 18 0, fun _ => 0, fun _ => 0, fun _ => 0, fun _ => 0), (0, fun _ => (0, fun _ => 0, fun _ => 0, fun _ => 0, fun _ => 0)), (0, fun _ => 0, fun _ => 0, fun _ => 0), none, (0, fun _ => 0), B 8, nN), ?_, ?_, ?_⟩
  · refine ⟨⟨Nat.zero_le _, Nat.zero_le _, no, no, trivial, trivial⟩, ⟨(show 2 ≤ 4 by decide), (show 4 ≤ 8 by decide), Nat.zero_le _, no, fun i j hi => absurd hi (Nat.not_lt_zero i)⟩, no, ⟨no, no, no, no⟩, ⟨Nat.zero_le _, no⟩, ⟨Nat.zero_le _, no⟩, fun z h => ?_, Nat.zero_le _, no⟩
    have h' : (none : Option (mu_Rw × mu_Ps × mu_Sn)) = some z := h
    cases h'
  · exact ⟨⟨z1 0 3 0 (by decide), z1 0 4 0 (by decide), no, no, no, no, z2 0 5 (by decide), z2 0 6 (by decide)⟩, ⟨z1 0 1 4 (by decide), z1 0 2 0 (by decide), no, fun a b ha hb => Or.inl (h1 a b ha hb)⟩, ⟨rfl, no, no, no, no⟩, ⟨z1 0 47 0 (by decide), no⟩, ⟨z1 0 55 0 (by decide), no⟩, z1 0 60 0 (by decide), ⟨z1 0 14 0 (by decide), no⟩, fun i _ => rfl, z2 0 16 (by decide)⟩
  · exact ⟨⟨z1 34 5 0 (by decide), z1 34 9 0 (by decide), no, no, no, no, z1 44 0 0 (by decide), z1 47 0 0 (by decide)⟩, ⟨z1 34 0 4 (by decide), z1 34 1 0 (by decide), no⟩, ⟨d.symm, no, no, no, no⟩, ⟨z1 79 0 0 (by decide), no⟩, ⟨z1 81 0 0 (by decide), no⟩, z1 31 11 0 (by decide), ⟨z1 31 1 0 (by decide), no⟩, hF, z2 31 2 (by decide)⟩
theorem z_aN {B : Nat → Nat → Int32} {l : List (Nat × Nat × Nat)} (h : (l.all fun z => decide (B z.1 z.2.1 = nI z.2.2)) = true) (p i n : Nat) (hm : (p, i, n) ∈ l) : B p i = nI n := of_decide_eq_true (List.all_eq_true.mp h (p, i, n) hm)
theorem z_aM {B : Nat → Nat → Int32} {l : List (Nat × Nat)} (h : (l.all fun z => decide (B z.1 z.2 = nN)) = true) (p i : Nat) (hm : (p, i) ∈ l) : B p i = nN := of_decide_eq_true (List.all_eq_true.mp h (p, i) hm)
theorem z_start : Rl bd_0 := by
  obtain ⟨d, s0, s1, s2⟩ := z_2
  refine z_go bd_0.1 (fun p i n h => ?_) (fun p i h => ?_) (fun a b ha hb => ?_) d (fun i hi => ?_)
  · exact z_aN (B := bd_0.1) z_N p i n h
  · exact z_aM (B := bd_0.1) z_M p i h
  · exact of_decide_eq_true (List.all_eq_true.mp z_1 (8 * a + b) (List.mem_range.mpr (by omega)))
  · rcases (show i = 0 ∨ i = 1 ∨ i = 2 by omega) with z | z | z
    · rw [z]; exact s0
    · rw [z]; exact s1
    · rw [z]; exact s2
theorem tn_owed : lw_Owed Rl := by
  refine ⟨z_start, fun Ls xs σ k hR hL hk => ?_⟩
  refine tn_e (fun kf => e_law_25 Ls xs kf σ (nI (6 * k))) ?_
  refine tn_n (show ¬ nI Ls - 6 < nI (6 * k) by rw [q_6, pk_sub (show 6 ≤ Ls by omega)]; exact nI_nlt (by omega) (by omega)) ?_
  refine tn_y (show en_in (nI (6 * k)) Ls by rw [q_in (show 6 * k < Ls by omega) (by omega)]; trivial) ?_
  refine tn_c (tn_feed (xs := xs) hR hL hk) ?_
  refine tn_c (tn_land (xs := xs) hR hL hk) ?_
  refine tn_c (tn_fault (xs := xs) hR hL hk) ?_
  refine tn_c (tn_count (xs := xs) hR hL hk) ?_
  refine tn_c (tn_box (xs := xs) hR hL hk) ?_
  refine tn_c (tn_bearer (xs := xs) hR hL hk) ?_
  refine tn_c (tn_days (xs := xs) hR hL hk) ?_
  refine tn_c (tn_hand (xs := xs) hR hL hk) ?_
  refine tn_c (tn_away (xs := xs) hR hL hk) ?_
  refine tn_c (tn_change (xs := xs) hR hL hk) ?_
  refine tn_c (tn_slander (xs := xs) hR hL hk) ?_
  refine tn_c (tn_praise (xs := xs) hR hL hk) ?_
  refine tn_c (tn_undo (xs := xs) hR hL hk) ?_
  refine tn_c (tn_then (xs := xs) hR hL hk) ?_
  refine tn_c (tn_who (xs := xs) hR hL hk) ?_
  refine tn_c (tn_fallen (xs := xs) hR hL hk) ?_
  refine tn_c (tn_rests (xs := xs) hR hL hk) ?_
  refine tn_c (tn_meet (xs := xs) hR hL hk) ?_
  refine tn_c (tn_later (xs := xs) hR hL hk) ?_
  refine tn_c (tn_calls (xs := xs) hR hL hk) ?_
  refine tn_c (tn_toBear (xs := xs) hR hL hk) ?_
  refine tn_c (tn_crew (xs := xs) hR hL hk) ?_
  refine tn_c (tn_toSlander (xs := xs) hR hL hk) ?_
  refine tn_c (tn_toWait (xs := xs) hR hL hk) ?_
  refine tn_c (tn_way (xs := xs) hR hL hk) ?_
  refine tn_c (tn_see (xs := xs) hR hL hk) ?_
  refine tn_c (tn_forget (xs := xs) hR hL hk) ?_
  refine tn_c (tn_weighed (xs := xs) hR hL hk) ?_
  refine tn_c (tn_look (xs := xs) hR hL hk) ?_
  refine tn_c (tn_rain (xs := xs) hR hL hk) ?_
  refine tn_c (tn_game (xs := xs) hR hL hk) ?_
  refine tn_c (tn_years (xs := xs) hR hL hk) ?_
  refine tn_c (tn_idle (xs := xs) hR hL hk) ?_
  refine tn_c (tn_nearest (xs := xs) hR hL hk) ?_
  refine tn_c (tn_ahead (xs := xs) hR hL hk) ?_
  refine tn_c (tn_alone (xs := xs) hR hL hk) ?_
  refine tn_c (tn_weariest (xs := xs) hR hL hk) ?_
  refine tn_c (tn_onRoutes (xs := xs) hR hL hk) ?_
  refine tn_c (tn_reach (xs := xs) hR hL hk) ?_
  refine tn_c (tn_total (xs := xs) hR hL hk) ?_
  refine tn_c (tn_image (xs := xs) hR hL hk) ?_
  refine tn_c (tn_restore (xs := xs) hR hL hk) ?_
  exact tn_none (xs := xs) hR
