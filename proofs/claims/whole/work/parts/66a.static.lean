/-! what is never thrown: by the tables -/
theorem en_get_mm : ∀ {l : List (Nat × Instr × Option (List Bool))} {pc : Nat} {i : Instr} {m : Option (List Bool)}, en_get l pc = some (i, m) → (pc, i, m) ∈ l
  | [], _, _, _, h => by cases h
  | (q, i0, m0) :: r, pc, i, m, h => by
    unfold en_get at h
    split at h
    · next e => cases h; subst e; exact List.mem_cons_self
    · exact List.mem_cons_of_mem _ (en_get_mm h)
def Nt (z : Nat) (o : Option en_O) : Prop := ∀ σ, o ≠ some (.inr z, σ)
theorem Nt.nn (z : Nat) : Nt z none := fun _ h => by cases h
theorem Nt.ll (z : Nat) (v : Option Value) (σ : en_S) : Nt z (some (.inl v, σ)) := fun _ h => by cases h
theorem Nt.ite {z : Nat} {c : Prop} [Decidable c] {a b : Option en_O} (h1 : Nt z a) (h2 : Nt z b) : Nt z (if c then a else b) := by
  by_cases h : c
  · rw [if_pos h]; exact h1
  · rw [if_neg h]; exact h2
theorem Nt.cI {z : Nat} {o : Option en_O} {ki : Int32 → en_S → Option en_O} {kx : Nat → en_S → Option en_O} (h : Nt z o) (hi : ∀ r σ, Nt z (ki r σ)) (hx : ∀ e σ, e ≠ z → Nt z (kx e σ)) : Nt z (en_cI o ki kx) := by
  cases o with
  | none => exact Nt.nn z
  | some w =>
    obtain ⟨v | e, σ⟩ := w
    · cases v with
      | none => exact Nt.nn z
      | some v => cases v <;> first | exact hi _ _ | exact Nt.nn z
    · exact hx e σ (fun k => h σ (by rw [k]))
theorem Nt.cJ {z : Nat} {o : Option en_O} {ki : Int64 → en_S → Option en_O} {kx : Nat → en_S → Option en_O} (h : Nt z o) (hi : ∀ r σ, Nt z (ki r σ)) (hx : ∀ e σ, e ≠ z → Nt z (kx e σ)) : Nt z (en_cJ o ki kx) := by
  cases o with
  | none => exact Nt.nn z
  | some w =>
    obtain ⟨v | e, σ⟩ := w
    · cases v with
      | none => exact Nt.nn z
      | some v => cases v <;> first | exact hi _ _ | exact Nt.nn z
    · exact hx e σ (fun k => h σ (by rw [k]))
theorem Nt.cV {z : Nat} {o : Option en_O} {ki : en_S → Option en_O} {kx : Nat → en_S → Option en_O} (h : Nt z o) (hi : ∀ σ, Nt z (ki σ)) (hx : ∀ e σ, e ≠ z → Nt z (kx e σ)) : Nt z (en_cV o ki kx) := by
  cases o with
  | none => exact Nt.nn z
  | some w =>
    obtain ⟨v | e, σ⟩ := w
    · cases v with
      | none => exact hi σ
      | some v => exact Nt.nn z
    · exact hx e σ (fun k => h σ (by rw [k]))
theorem Nt.back {z : Nat} {rt : Option FieldType} {o : Option en_O} {k : List Value → en_S → Option en_O} {kx : Nat → en_S → Option en_O} (h : Nt z o) (hi : ∀ v σ, Nt z (k v σ)) (hx : ∀ e σ, e ≠ z → Nt z (kx e σ)) : Nt z (en_back rt o k kx) := by
  unfold en_back
  split
  · exact Nt.cV h (fun _ => hi _ _) hx
  · exact Nt.cJ h (fun _ _ => hi _ _) hx
  · exact Nt.cI h (fun _ _ => hi _ _) hx
  · exact Nt.cI h (fun _ _ => hi _ _) hx
  · exact Nt.nn z
theorem Nt.sw {z : Nat} {x : Int32} {pc : Nat} {d : Int} {k : Nat → Option en_O} (h : ∀ t, Nt z (k t)) : ∀ (l : List Int) (lo : Int), Nt z (en_sw x pc d k lo l)
  | [], _ => h _
  | _ :: r, _ => Nt.ite (h _) (Nt.sw h r _)
theorem Nt.lk {z : Nat} {x : Int32} {pc : Nat} {d : Int} {k : Nat → Option en_O} (h : ∀ t, Nt z (k t)) : ∀ (l : List (Int × Int)), Nt z (en_lk x pc d k l)
  | [] => h _
  | _ :: r => Nt.ite (h _) (Nt.lk h r)
theorem Nt.cif {z : Nat} {b : ClassFile.Cond} {x y : Int32} {a c : Option en_O} (h1 : Nt z a) (h2 : Nt z c) : Nt z (en_if b x y a c) := by
  cases b <;> first | exact Nt.ite h1 h2 | exact Nt.ite h2 h1
theorem Nt.ret {z : Nat} {rt : Option FieldType} {v : Int32} {σ : en_S} : Nt z (en_retI rt v σ) := by
  unfold en_retI
  split
  · exact Nt.ll _ _ _
  · exact Nt.ite (Nt.ll _ _ _) (Nt.nn z)
  · exact Nt.nn z
set_option maxHeartbeats 4000000 in
theorem en_step_Nt {z : Nat} {G : en_G} {mi pc : Nat} {i : Instr} {L : en_L} {st : List Value} {σ : en_S} {k : en_K} {call : Nat → List Value → en_S → Option en_O} {kx : Nat → en_L → Nat → en_S → Option en_O}
    (hk : ∀ a b c d, Nt z (k a b c d)) (hv : ∀ idx y n ci, i = .invokevirtual idx → en_CL G mi idx = some (0, y, n, ci) → ∀ as σ, Nt z (call y as σ)) (hs : ∀ idx y n ci, i = .invokestatic idx → en_CL G mi idx = some (1, y, n, ci) → ∀ as σ, Nt z (call y as σ)) (hx : ∀ a b e d, e ≠ z → Nt z (kx a b e d)) (hn : ∀ w x, i = .new w → en_TH G mi pc = some x → x ≠ z) :
    Nt z (en_step G mi pc i L st σ k call kx) := by
  unfold en_step
  split <;> (try unfold en_inV) <;> (try unfold en_inS) <;> (repeat' split) <;>
    first
    | exact hk _ _ _ _
    | exact Nt.nn z
    | exact Nt.ll _ _ _
    | exact Nt.ret
    | exact Nt.cif (hk _ _ _ _) (hk _ _ _ _)
    | exact Nt.sw (fun _ => hk _ _ _ _) _ _
    | exact Nt.lk (fun _ => hk _ _ _ _) _
    | exact Nt.back (hv _ _ _ _ rfl (by assumption) _ _) (fun _ _ => hk _ _ _ _) (fun _ _ h => hx _ _ _ _ h)
    | exact Nt.back (hs _ _ _ _ rfl (by assumption) _ _) (fun _ _ => hk _ _ _ _) (fun _ _ h => hx _ _ _ _ h)
    | exact fun _ h => hn _ _ rfl (by assumption) (by cases h; rfl)
theorem Nt.hx {z x : Nat} {h : Option (Nat × Nat)} {k : Nat → Nat → Option en_O} {e : Nat} {σ : en_S} (he : e ≠ z) (hk : ∀ t j, Nt z (k t j)) : Nt z (en_hx x h k e σ) := by
  cases h with
  | none => exact fun _ q => he (by cases q; rfl)
  | some w => exact Nt.ite (hk _ _) (Nt.nn z)
def nt_chk (z : Nat) (T : List Nat) (mi : Nat) (q : Nat × Instr × Option (List Bool)) : Bool := match q.2.1 with
  | .new _ => decide (bb_TH mi q.1 ≠ some z)
  | .invokevirtual idx => (match bb_CL mi idx with
    | some (0, y, _, _) => T.contains y
    | _ => true)
  | .invokestatic idx => (match bb_CL mi idx with
    | some (1, y, _, _) => T.contains y
    | _ => true)
  | _ => true
theorem nt_run {z : Nat} {T : List Nat} (hT : (T.all fun mi => (bb_P mi).all fun q => nt_chk z T mi q) = true) : ∀ (n x mi pc : Nat) (L : en_L) (st : List Value) (σ : en_S), T.contains mi = true → Nt z (en_run bb_G bb_P bb_ML bb_HD n x mi pc L st σ)
  | 0, _, _, _, _, _, _, _ => Nt.nn z
  | n + 1, x, mi, pc, L, st, σ, h => by
    unfold en_run
    split
    · exact Nt.nn z
    · next i m hg =>
      have h1 := List.all_eq_true.mp (List.all_eq_true.mp hT mi (List.contains_iff_mem.mp h)) _ (en_get_mm hg)
      refine en_step_Nt (fun a b c d => nt_run hT n x mi a b c d h) (fun idx y nn ci e hc as σ' => ?_) (fun idx y nn ci e hc as σ' => ?_) (fun a b e d he => Nt.hx he (fun t j => nt_run hT n 0 mi t _ _ _ h)) (fun w v e hw hz => ?_)
      · subst e
        have hc' : bb_CL mi idx = some (0, y, nn, ci) := hc
        simp only [nt_chk, hc'] at h1
        exact nt_run hT n 0 y 0 _ _ _ h1
      · subst e
        have hc' : bb_CL mi idx = some (1, y, nn, ci) := hc
        simp only [nt_chk, hc'] at h1
        exact nt_run hT n 0 y 0 _ _ _ h1
      · subst e
        have hw' : bb_TH mi pc = some v := hw
        simp only [nt_chk, hw', decide_eq_true_eq] at h1
        exact h1 (by rw [hz])
theorem nt_all {z : Nat} {T : List Nat} (hT : (T.all fun mi => (bb_P mi).all fun q => nt_chk z T mi q) = true) {mi : Nat} (h : T.contains mi = true) (pc : Nat) (L : en_L) (st : List Value) (σ : en_S) : Nt z (bb_x 0 mi pc L st σ) := by
  intro σ' e
  obtain ⟨n, hn⟩ := en_ex_iff.mp (show en_ex bb_G bb_P bb_ML bb_HD 0 mi pc L st σ = some (.inr z, σ') from e)
  exact nt_run hT n 0 mi pc L st σ h σ' hn
def nt_T1 : List Nat := [2001, 2002, 2005, 2006, 2007, 2008, 2009, 3001, 3002, 3003, 4001, 4002, 4003, 4004, 4005, 4006, 4007, 4008, 4009, 4010, 4011, 4012, 4013, 4014, 4015, 4016, 4017, 4018, 4019, 4020, 4021, 4022, 4023, 5001, 5002, 5003, 5004, 5005, 7002, 9001, 9002, 9003, 9004, 9006, 9007, 9014, 9018, 9020, 9021, 9022, 9023, 9024, 9025, 9026, 9027, 9028, 10001, 10002, 10003, 10007, 10013, 10027, 10037, 10040, 10041, 10042, 10043, 10044, 10049, 10050, 10051, 10052, 14000, 21017, 21018, 21019, 21020, 21021, 21022, 22017, 22018, 22019, 22020, 22021, 22022, 23017, 23018, 23019, 23020, 23021, 23022, 24017, 24018, 24019, 24020, 24021, 24022, 25017, 25018, 25019, 25020, 25021, 25022, 26017]
set_option maxRecDepth 100000 in
theorem nt_ok1 : (nt_T1.all fun mi => (bb_P mi).all fun q => nt_chk 1 nt_T1 mi q) = true := by decide +kernel
theorem nt_no1 {mi : Nat} (h : nt_T1.contains mi = true) (pc : Nat) (L : en_L) (st : List Value) (σ : en_S) : Nt 1 (bb_x 0 mi pc L st σ) := nt_all nt_ok1 h pc L st σ
def nt_T2 : List Nat := [2003, 2004, 2008, 2009, 2010, 2011, 2012, 2013, 3001, 3002, 3003, 5004, 5005, 6001, 6002, 6003, 6004, 6005, 6006, 6007, 6008, 7001, 7002, 7003, 7004, 8001, 8002, 8003, 8004, 8005, 8006, 8007, 9002, 9003, 9004, 9005, 9006, 9007, 9008, 9009, 9010, 9011, 9012, 9013, 9014, 9017, 9018, 9020, 9021, 9022, 9023, 9024, 9025, 9026, 9027, 9028, 10001, 10003, 10004, 10005, 10006, 10007, 10008, 10009, 10010, 10011, 10012, 10013, 10016, 10017, 10018, 10021, 10022, 10023, 10024, 10025, 10026, 10027, 10028, 10029, 10033, 10034, 10035, 10036, 10038, 10039, 10041, 10042, 10043, 10044, 10045, 10046, 10047, 10048, 10050, 10051, 10053, 13000, 14000]
set_option maxRecDepth 100000 in
theorem nt_ok2 : (nt_T2.all fun mi => (bb_P mi).all fun q => nt_chk 2 nt_T2 mi q) = true := by decide +kernel
theorem nt_no2 {mi : Nat} (h : nt_T2.contains mi = true) (pc : Nat) (L : en_L) (st : List Value) (σ : en_S) : Nt 2 (bb_x 0 mi pc L st σ) := nt_all nt_ok2 h pc L st σ
