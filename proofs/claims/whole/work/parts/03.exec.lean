/-! the machine's order: more steps give the same answer -/
def en_le (a b : Option en_O) : Prop := ∀ o, a = some o → b = some o
theorem en_le.rf (a : Option en_O) : en_le a a := fun _ h => h
theorem en_le.nn (b : Option en_O) : en_le none b := fun _ h => by cases h
theorem en_le.ite {c : Prop} [Decidable c] {a b a' b' : Option en_O} (h1 : en_le a a') (h2 : en_le b b') : en_le (if c then a else b) (if c then a' else b') := by
  by_cases h : c
  · rw [if_pos h, if_pos h]; exact h1
  · rw [if_neg h, if_neg h]; exact h2
theorem en_le.cI {o o' : Option en_O} {ki ki' : Int32 → en_S → Option en_O} {kx kx' : Nat → en_S → Option en_O} (h : en_le o o') (hi : ∀ r σ, en_le (ki r σ) (ki' r σ)) (hx : ∀ e σ, en_le (kx e σ) (kx' e σ)) : en_le (en_cI o ki kx) (en_cI o' ki' kx') := by
  cases o with
  | none => exact fun _ h => by cases h
  | some z =>
    rw [h z rfl]
    obtain ⟨v | e, σ⟩ := z
    · cases v with
      | none => exact en_le.rf _
      | some v => cases v <;> first | exact hi _ _ | exact en_le.rf _
    · exact hx _ _
theorem en_le.cJ {o o' : Option en_O} {ki ki' : Int64 → en_S → Option en_O} {kx kx' : Nat → en_S → Option en_O} (h : en_le o o') (hi : ∀ r σ, en_le (ki r σ) (ki' r σ)) (hx : ∀ e σ, en_le (kx e σ) (kx' e σ)) : en_le (en_cJ o ki kx) (en_cJ o' ki' kx') := by
  cases o with
  | none => exact fun _ h => by cases h
  | some z =>
    rw [h z rfl]
    obtain ⟨v | e, σ⟩ := z
    · cases v with
      | none => exact en_le.rf _
      | some v => cases v <;> first | exact hi _ _ | exact en_le.rf _
    · exact hx _ _
theorem en_le.cV {o o' : Option en_O} {ki ki' : en_S → Option en_O} {kx kx' : Nat → en_S → Option en_O} (h : en_le o o') (hi : ∀ σ, en_le (ki σ) (ki' σ)) (hx : ∀ e σ, en_le (kx e σ) (kx' e σ)) : en_le (en_cV o ki kx) (en_cV o' ki' kx') := by
  cases o with
  | none => exact fun _ h => by cases h
  | some z =>
    rw [h z rfl]
    obtain ⟨v | e, σ⟩ := z
    · cases v with
      | none => exact hi _
      | some v => exact en_le.rf _
    · exact hx _ _
theorem en_le.back {rt : Option FieldType} {o o' : Option en_O} {k k' : List Value → en_S → Option en_O} {kx kx' : Nat → en_S → Option en_O} (h : en_le o o') (hi : ∀ v σ, en_le (k v σ) (k' v σ)) (hx : ∀ e σ, en_le (kx e σ) (kx' e σ)) : en_le (en_back rt o k kx) (en_back rt o' k' kx') := by
  unfold en_back
  split
  · exact en_le.cV h (fun _ => hi _ _) hx
  · exact en_le.cJ h (fun _ _ => hi _ _) hx
  · exact en_le.cI h (fun _ _ => hi _ _) hx
  · exact en_le.cI h (fun _ _ => hi _ _) hx
  · exact en_le.rf _
theorem en_le.sw {x : Int32} {pc : Nat} {d : Int} {k k' : Nat → Option en_O} (h : ∀ t, en_le (k t) (k' t)) : ∀ (l : List Int) (lo : Int), en_le (en_sw x pc d k lo l) (en_sw x pc d k' lo l)
  | [], _ => h _
  | _ :: r, _ => en_le.ite (h _) (en_le.sw h r _)
theorem en_le.lk {x : Int32} {pc : Nat} {d : Int} {k k' : Nat → Option en_O} (h : ∀ t, en_le (k t) (k' t)) : ∀ (l : List (Int × Int)), en_le (en_lk x pc d k l) (en_lk x pc d k' l)
  | [] => h _
  | _ :: r => en_le.ite (h _) (en_le.lk h r)
theorem en_le.cif {b : ClassFile.Cond} {x y : Int32} {a a' c c' : Option en_O} (h1 : en_le a a') (h2 : en_le c c') : en_le (en_if b x y a c) (en_if b x y a' c') := by
  cases b <;> first | exact en_le.ite h1 h2 | exact en_le.ite h2 h1
set_option maxHeartbeats 4000000 in
theorem en_step_mono {G : en_G} {mi pc : Nat} {i : Instr} {L : en_L} {st : List Value} {σ : en_S} {k k' : en_K} {call call' : Nat → List Value → en_S → Option en_O} {kx kx' : Nat → en_L → Nat → en_S → Option en_O}
    (hk : ∀ a b c d, en_le (k a b c d) (k' a b c d)) (hc : ∀ a b c, en_le (call a b c) (call' a b c)) (hx : ∀ a b c d, en_le (kx a b c d) (kx' a b c d)) :
    en_le (en_step G mi pc i L st σ k call kx) (en_step G mi pc i L st σ k' call' kx') := by
  unfold en_step
  split <;> (try unfold en_inV) <;> (try unfold en_inS) <;> (repeat' split) <;>
    first
    | exact hk _ _ _ _
    | exact en_le.rf _
    | exact en_le.cif (hk _ _ _ _) (hk _ _ _ _)
    | exact en_le.sw (fun _ => hk _ _ _ _) _ _
    | exact en_le.lk (fun _ => hk _ _ _ _) _
    | exact en_le.back (hc _ _ _) (fun _ _ => hk _ _ _ _) (fun _ _ => hx _ _ _ _)
theorem en_le.hx {x : Nat} {h : Option (Nat × Nat)} {k k' : Nat → Nat → Option en_O} {e : Nat} {σ : en_S} (hk : ∀ t j, en_le (k t j) (k' t j)) : en_le (en_hx x h k e σ) (en_hx x h k' e σ) := by
  cases h with
  | none => exact en_le.rf _
  | some z => exact en_le.ite (hk _ _) (en_le.rf _)
theorem en_run_mono {G : en_G} {P : en_P} {ML : Nat → Nat} {HD : en_H} : ∀ (n x mi pc : Nat) (L : en_L) (st : List Value) (σ : en_S), en_le (en_run G P ML HD n x mi pc L st σ) (en_run G P ML HD (n + 1) x mi pc L st σ)
  | 0, _, _, _, _, _, _ => en_le.nn _
  | n + 1, x, mi, pc, L, st, σ => by
    unfold en_run
    split
    · exact en_le.rf _
    · exact en_step_mono (fun _ _ _ _ => en_run_mono n _ _ _ _ _ _) (fun _ _ _ => en_run_mono n _ _ _ _ _ _) (fun _ _ _ _ => en_le.hx (fun _ _ => en_run_mono n _ _ _ _ _ _))
theorem en_run_le {G : en_G} {P : en_P} {ML : Nat → Nat} {HD : en_H} {n m x mi pc : Nat} {L : en_L} {st : List Value} {σ : en_S} (h : n ≤ m) : en_le (en_run G P ML HD n x mi pc L st σ) (en_run G P ML HD m x mi pc L st σ) := by
  induction h with
  | refl => exact en_le.rf _
  | step _ ih => exact fun o ho => en_run_mono _ _ _ _ _ _ _ o (ih o ho)
/-- the machine without a bound on its steps -/
noncomputable def en_ex (G : en_G) (P : en_P) (ML : Nat → Nat) (HD : en_H) (x mi pc : Nat) (L : en_L) (st : List Value) (σ : en_S) : Option en_O :=
  @dite _ (∃ o n, en_run G P ML HD n x mi pc L st σ = some o) (Classical.propDecidable _) (fun h => some h.choose) (fun _ => none)
theorem en_ex_iff {G : en_G} {P : en_P} {ML : Nat → Nat} {HD : en_H} {x mi pc : Nat} {L : en_L} {st : List Value} {σ : en_S} {o : en_O} : en_ex G P ML HD x mi pc L st σ = some o ↔ ∃ n, en_run G P ML HD n x mi pc L st σ = some o := by
  unfold en_ex
  by_cases h : ∃ o n, en_run G P ML HD n x mi pc L st σ = some o
  · rw [dif_pos h]
    obtain ⟨n, hn⟩ := h.choose_spec
    constructor
    · intro e
      cases e
      exact ⟨n, hn⟩
    · rintro ⟨m, hm⟩
      have h1 := en_run_le (Nat.le_max_left n m) _ hn
      have h2 := en_run_le (Nat.le_max_right n m) _ hm
      rw [h1] at h2
      exact h2
  · rw [dif_neg h]
    constructor
    · intro e
      cases e
    · rintro ⟨m, hm⟩
      exact absurd ⟨o, m, hm⟩ h
def en_ct (f : Nat → Option en_O) (g : Option en_O) : Prop := ∀ o, g = some o → ∃ n, ∀ m, n ≤ m → f m = some o
theorem en_ct.rf (a : Option en_O) : en_ct (fun _ => a) a := fun _ h => ⟨0, fun _ _ => h⟩
theorem en_ct.nn (f : Nat → Option en_O) : en_ct f none := fun _ h => by cases h
theorem en_ct.ite {c : Prop} [Decidable c] {a b : Nat → Option en_O} {a' b' : Option en_O} (h1 : en_ct a a') (h2 : en_ct b b') : en_ct (fun n => if c then a n else b n) (if c then a' else b') := by
  by_cases h : c
  · simp only [if_pos h]; exact h1
  · simp only [if_neg h]; exact h2
theorem en_ct.cI {o : Nat → Option en_O} {o' : Option en_O} {ki : Nat → Int32 → en_S → Option en_O} {ki' : Int32 → en_S → Option en_O} {kx : Nat → Nat → en_S → Option en_O} {kx' : Nat → en_S → Option en_O} (h : en_ct o o') (hi : ∀ r σ, en_ct (fun n => ki n r σ) (ki' r σ)) (hx : ∀ e σ, en_ct (fun n => kx n e σ) (kx' e σ)) : en_ct (fun n => en_cI (o n) (ki n) (kx n)) (en_cI o' ki' kx') := by
  cases o' with
  | none => exact fun _ h => by cases h
  | some z =>
    obtain ⟨N, hN⟩ := h z rfl
    intro r hr
    have key : ∀ f : Nat → Option en_O, en_ct f (some r) → (∀ m, N ≤ m → en_cI (o m) (ki m) (kx m) = f m) → ∃ n, ∀ m, n ≤ m → en_cI (o m) (ki m) (kx m) = some r := by
      intro f hf e
      obtain ⟨M, hM⟩ := hf r rfl
      exact ⟨max N M, fun m hm => by rw [e m (by omega)]; exact hM m (by omega)⟩
    obtain ⟨v | e, σ⟩ := z
    · cases v with
      | none => cases hr
      | some v =>
        cases v <;> first
          | (have h9 := hi _ _ _ hr; obtain ⟨M, hM⟩ := h9; exact ⟨max N M, fun m hm => by (simp only [hN m (by omega)]; exact hM m (by omega))⟩)
          | cases hr
    · obtain ⟨M, hM⟩ := hx _ _ _ hr
      exact ⟨max N M, fun m hm => by (simp only [hN m (by omega)]; exact hM m (by omega))⟩
theorem en_ct.cJ {o : Nat → Option en_O} {o' : Option en_O} {ki : Nat → Int64 → en_S → Option en_O} {ki' : Int64 → en_S → Option en_O} {kx : Nat → Nat → en_S → Option en_O} {kx' : Nat → en_S → Option en_O} (h : en_ct o o') (hi : ∀ r σ, en_ct (fun n => ki n r σ) (ki' r σ)) (hx : ∀ e σ, en_ct (fun n => kx n e σ) (kx' e σ)) : en_ct (fun n => en_cJ (o n) (ki n) (kx n)) (en_cJ o' ki' kx') := by
  cases o' with
  | none => exact fun _ h => by cases h
  | some z =>
    obtain ⟨N, hN⟩ := h z rfl
    intro r hr
    obtain ⟨v | e, σ⟩ := z
    · cases v with
      | none => cases hr
      | some v =>
        cases v <;> first
          | (have h9 := hi _ _ _ hr; obtain ⟨M, hM⟩ := h9; exact ⟨max N M, fun m hm => by (simp only [hN m (by omega)]; exact hM m (by omega))⟩)
          | cases hr
    · obtain ⟨M, hM⟩ := hx _ _ _ hr
      exact ⟨max N M, fun m hm => by (simp only [hN m (by omega)]; exact hM m (by omega))⟩
theorem en_ct.cV {o : Nat → Option en_O} {o' : Option en_O} {ki : Nat → en_S → Option en_O} {ki' : en_S → Option en_O} {kx : Nat → Nat → en_S → Option en_O} {kx' : Nat → en_S → Option en_O} (h : en_ct o o') (hi : ∀ σ, en_ct (fun n => ki n σ) (ki' σ)) (hx : ∀ e σ, en_ct (fun n => kx n e σ) (kx' e σ)) : en_ct (fun n => en_cV (o n) (ki n) (kx n)) (en_cV o' ki' kx') := by
  cases o' with
  | none => exact fun _ h => by cases h
  | some z =>
    obtain ⟨N, hN⟩ := h z rfl
    intro r hr
    obtain ⟨v | e, σ⟩ := z
    · cases v with
      | none =>
        obtain ⟨M, hM⟩ := hi _ _ hr
        exact ⟨max N M, fun m hm => by (simp only [hN m (by omega)]; exact hM m (by omega))⟩
      | some v => cases hr
    · obtain ⟨M, hM⟩ := hx _ _ _ hr
      exact ⟨max N M, fun m hm => by (simp only [hN m (by omega)]; exact hM m (by omega))⟩
theorem en_ct.back {rt : Option FieldType} {o : Nat → Option en_O} {o' : Option en_O} {k : Nat → List Value → en_S → Option en_O} {k' : List Value → en_S → Option en_O} {kx : Nat → Nat → en_S → Option en_O} {kx' : Nat → en_S → Option en_O} (h : en_ct o o') (hi : ∀ v σ, en_ct (fun n => k n v σ) (k' v σ)) (hx : ∀ e σ, en_ct (fun n => kx n e σ) (kx' e σ)) : en_ct (fun n => en_back rt (o n) (k n) (kx n)) (en_back rt o' k' kx') := by
  unfold en_back
  split
  · exact en_ct.cV (ki := fun n σ => k n [] σ) h (fun _ => hi _ _) hx
  · exact en_ct.cJ (ki := fun n r σ => k n [.long r] σ) h (fun _ _ => hi _ _) hx
  · exact en_ct.cI (ki := fun n r σ => k n [.int r] σ) h (fun _ _ => hi _ _) hx
  · exact en_ct.cI (ki := fun n r σ => k n [.int r] σ) h (fun _ _ => hi _ _) hx
  · exact en_ct.rf _
theorem en_ct.sw {x : Int32} {pc : Nat} {d : Int} {k : Nat → Nat → Option en_O} {k' : Nat → Option en_O} (h : ∀ t, en_ct (fun n => k n t) (k' t)) : ∀ (l : List Int) (lo : Int), en_ct (fun n => en_sw x pc d (k n) lo l) (en_sw x pc d k' lo l)
  | [], _ => h _
  | _ :: r, _ => en_ct.ite (h _) (en_ct.sw h r _)
theorem en_ct.lk {x : Int32} {pc : Nat} {d : Int} {k : Nat → Nat → Option en_O} {k' : Nat → Option en_O} (h : ∀ t, en_ct (fun n => k n t) (k' t)) : ∀ (l : List (Int × Int)), en_ct (fun n => en_lk x pc d (k n) l) (en_lk x pc d k' l)
  | [] => h _
  | _ :: r => en_ct.ite (h _) (en_ct.lk h r)
theorem en_ct.cif {b : ClassFile.Cond} {x y : Int32} {a c : Nat → Option en_O} {a' c' : Option en_O} (h1 : en_ct a a') (h2 : en_ct c c') : en_ct (fun n => en_if b x y (a n) (c n)) (en_if b x y a' c') := by
  cases b <;> first | exact en_ct.ite h1 h2 | exact en_ct.ite h2 h1
theorem en_ct.hx {x : Nat} {h : Option (Nat × Nat)} {k : Nat → Nat → Nat → Option en_O} {k' : Nat → Nat → Option en_O} {e : Nat} {σ : en_S} (hk : ∀ t j, en_ct (fun n => k n t j) (k' t j)) : en_ct (fun n => en_hx x h (k n) e σ) (en_hx x h k' e σ) := by
  cases h with
  | none => exact en_ct.rf _
  | some z => exact en_ct.ite (hk _ _) (en_ct.rf _)
set_option maxHeartbeats 4000000 in
theorem en_step_ct {G : en_G} {mi pc : Nat} {i : Instr} {L : en_L} {st : List Value} {σ : en_S} {k : Nat → en_K} {k' : en_K} {call : Nat → Nat → List Value → en_S → Option en_O} {call' : Nat → List Value → en_S → Option en_O} {kx : Nat → Nat → en_L → Nat → en_S → Option en_O} {kx' : Nat → en_L → Nat → en_S → Option en_O}
    (hk : ∀ a b c d, en_ct (fun n => k n a b c d) (k' a b c d)) (hc : ∀ a b c, en_ct (fun n => call n a b c) (call' a b c)) (hx : ∀ a b c d, en_ct (fun n => kx n a b c d) (kx' a b c d)) :
    en_ct (fun n => en_step G mi pc i L st σ (k n) (call n) (kx n)) (en_step G mi pc i L st σ k' call' kx') := by
  unfold en_step
  split <;> (try unfold en_inV) <;> (try unfold en_inS) <;> (repeat' split) <;>
    first
    | exact hk _ _ _ _
    | exact en_ct.rf _
    | exact en_ct.nn _
    | exact en_ct.cif (hk _ _ _ _) (hk _ _ _ _)
    | exact en_ct.sw (k := fun n t => k n t _ _ _) (fun _ => hk _ _ _ _) _ _
    | exact en_ct.lk (k := fun n t => k n t _ _ _) (fun _ => hk _ _ _ _) _
    | exact en_ct.back (k := fun n v σ => k n _ _ _ σ) (kx := fun n => kx n _ _) (hc _ _ _) (fun _ _ => hk _ _ _ _) (fun _ _ => hx _ _ _ _)
theorem en_run_ct {G : en_G} {P : en_P} {ML : Nat → Nat} {HD : en_H} (x mi pc : Nat) (L : en_L) (st : List Value) (σ : en_S) : en_ct (fun n => en_run G P ML HD n x mi pc L st σ) (en_ex G P ML HD x mi pc L st σ) := by
  intro o ho
  obtain ⟨n, hn⟩ := en_ex_iff.mp ho
  exact ⟨n, fun m hm => en_run_le hm _ hn⟩
theorem en_run_ex {G : en_G} {P : en_P} {ML : Nat → Nat} {HD : en_H} (n x mi pc : Nat) (L : en_L) (st : List Value) (σ : en_S) : en_le (en_run G P ML HD n x mi pc L st σ) (en_ex G P ML HD x mi pc L st σ) := fun o ho => en_ex_iff.mpr ⟨n, ho⟩
noncomputable def en_st (G : en_G) (P : en_P) (ML : Nat → Nat) (HD : en_H) (x mi pc : Nat) (i : Instr) (L : en_L) (st : List Value) (σ : en_S) (k : en_K) : Option en_O :=
  en_step G mi pc i L st σ k (fun y as σ' => en_ex G P ML HD 0 y 0 (en_ent (ML y) as) [] σ')
    (fun pc' L' e σ' => en_hx x (HD mi pc' e) (fun t j => en_ex G P ML HD 0 mi t (en_set L' j none) [] σ') e σ')
/-- one step of it -/
theorem en_ex_eq {G : en_G} {P : en_P} {ML : Nat → Nat} {HD : en_H} (x mi pc : Nat) (L : en_L) (st : List Value) (σ : en_S) : en_ex G P ML HD x mi pc L st σ = match en_get (P mi) pc with
    | none => none
    | some (i, m) => en_st G P ML HD x mi pc i (en_msk m L) st σ (en_ex G P ML HD x mi) := by
  apply Option.ext
  intro o
  constructor
  · intro h
    obtain ⟨n, hn⟩ := en_ex_iff.mp h
    cases n with
    | zero => cases hn
    | succ n =>
      unfold en_run at hn
      split at hn
      · cases hn
      · next i m hg =>
        rw [hg]
        exact en_step_mono (fun _ _ _ _ => en_run_ex n _ _ _ _ _ _) (fun _ _ _ => en_run_ex n _ _ _ _ _ _) (fun _ _ _ _ => en_le.hx (fun _ _ => en_run_ex n _ _ _ _ _ _)) o hn
  · intro h
    cases hg : en_get (P mi) pc with
    | none => rw [hg] at h; cases h
    | some z =>
      obtain ⟨i, m⟩ := z
      rw [hg] at h
      have h9 := en_step_ct (k := fun n => en_run G P ML HD n x mi) (call := fun n y as σ' => en_run G P ML HD n 0 y 0 (en_ent (ML y) as) [] σ')
        (kx := fun n pc' L' e σ' => en_hx x (HD mi pc' e) (fun t j => en_run G P ML HD n 0 mi t (en_set L' j none) [] σ') e σ')
        (fun _ _ _ _ => en_run_ct _ _ _ _ _ _) (fun _ _ _ => en_run_ct _ _ _ _ _ _) (fun _ L' _ σ' => en_ct.hx (k := fun n t j => en_run G P ML HD n 0 mi t (en_set L' j none) [] σ') (fun _ _ => en_run_ct _ _ _ _ _ _)) o h
      obtain ⟨n, hn⟩ := h9
      refine en_ex_iff.mpr ⟨n + 1, ?_⟩
      unfold en_run
      rw [hg]
      exact hn n (Nat.le_refl n)
/-- several steps: up to a cut, at most n -/
noncomputable def en_un (G : en_G) (P : en_P) (ML : Nat → Nat) (HD : en_H) (x mi : Nat) : Nat → en_K
  | 0 => fun pc L st σ => en_ex G P ML HD x mi pc L st σ
  | n + 1 => fun pc L st σ => match en_get (P mi) pc with
    | none => none
    | some (i, none) => en_st G P ML HD x mi pc i L st σ (en_un G P ML HD x mi n)
    | some (_, some m) => en_ex G P ML HD x mi pc (en_msk (some m) L) st σ
theorem en_zw (bs : List Bool) (L : en_L) : List.zipWith (fun b v => if b = true then v else none) bs (List.zipWith (fun b v => if b = true then v else none) bs L) = List.zipWith (fun (b : Bool) (v : Option Value) => if b = true then v else none) bs L := by
  induction bs generalizing L with
  | nil => rfl
  | cons b bs ih =>
    cases L with
    | nil => rfl
    | cons v L =>
      simp only [List.zipWith_cons_cons, ih]
      cases b <;> rfl
theorem en_un_eq {G : en_G} {P : en_P} {ML : Nat → Nat} {HD : en_H} (x mi : Nat) : ∀ (n pc : Nat) (L : en_L) (st : List Value) (σ : en_S), en_un G P ML HD x mi n pc L st σ = en_ex G P ML HD x mi pc L st σ
  | 0, _, _, _, _ => rfl
  | n + 1, pc, L, st, σ => by
    rw [en_ex_eq]
    unfold en_un
    split
    · next h => rw [h]
    · next i h =>
      rw [h]
      show en_st G P ML HD x mi pc i L st σ _ = en_st G P ML HD x mi pc i L st σ _
      congr 1
      funext a b c d
      exact en_un_eq x mi n a b c d
    · next i m h =>
      rw [h, en_ex_eq, h]
      exact congrArg (fun z => en_st G P ML HD x mi pc i z st σ (en_ex G P ML HD x mi)) (en_zw m L)
/-- from a cut (or an entry) on: the first step, then up to the next cut -/
theorem en_ex_un {G : en_G} {P : en_P} {ML : Nat → Nat} {HD : en_H} (n x mi pc : Nat) (L : en_L) (st : List Value) (σ : en_S) : en_ex G P ML HD x mi pc L st σ = match en_get (P mi) pc with
    | none => none
    | some (i, m) => en_st G P ML HD x mi pc i (en_msk m L) st σ (en_un G P ML HD x mi n) := by
  rw [en_ex_eq]
  split
  · rfl
  · congr 1
    funext a b c d
    exact (en_un_eq x mi n a b c d).symm
