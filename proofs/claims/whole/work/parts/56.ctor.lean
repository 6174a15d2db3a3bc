/-! CONSTRUCTORS: a second small machine, over cells that are made one behind the other, on plain numbers (the kernel runs it). -/
abbrev dn_C : Type := (Nat × List Value) ⊕ (Nat × Nat × (Nat → Int32))
abbrev dn_S : Type := List dn_C × Nat × Nat
/-- new (method, index: class), invokespecial (kind 0 Object, 1 a constructor, 2 of a nest mate; callee, entries), fields at the start by class, cells and slots at most by method -/
abbrev dn_T : Type := (Nat → Nat → Option Nat) × (Nat → Nat → Option (Nat × Nat × Nat)) × (Nat → List Value) × (Nat → Nat) × (Nat → Nat)
def dn_NW (Z : dn_T) : Nat → Nat → Option Nat := Z.1
def dn_SP (Z : dn_T) : Nat → Nat → Option (Nat × Nat × Nat) := Z.2.1
def dn_DF (Z : dn_T) : Nat → List Value := Z.2.2.1
def dn_CM (Z : dn_T) : Nat → Nat := Z.2.2.2.1
def dn_SM (Z : dn_T) : Nat → Nat := Z.2.2.2.2
def dn_ty (tyC : Nat → Nat → FieldType) (ci k : Nat) (v : Value) : Bool := match tyC ci k, v with
  | .int, .int _ => true
  | .boolean, .int x => decide (x = 0)
  | .object _, .ref _ => true
  | .array _, .ref _ => true
  | _, _ => false
def dn_at : ArrayType → Option Nat
  | .int => some 0
  | .byte => some 1
  | .boolean => some 2
  | .long => some 3
  | _ => none
def dn_step {ρ : Type} (G : en_G) (Z : dn_T) (tyC : Nat → Nat → FieldType) (mi pc : Nat) (i : Instr) (L : en_L) (st : List Value) (S : dn_S) (k : Nat → en_L → List Value → dn_S → Option ρ) (call : Nat → List Value → dn_S → Option dn_S) (fin : dn_S → Option ρ) : Option ρ := match i with
  | .iconst n => k (pc + 1) L (.int (Int32.ofInt n) :: st) S
  | .bipush n => k (pc + 2) L (.int ((Int8.ofInt n).toInt32) :: st) S
  | .sipush n => k (pc + 3) L (.int ((Int16.ofInt n).toInt32) :: st) S
  | .aload_n j => match L[(j : Nat)]? with
    | some (some (.ref x)) => k (pc + 1) L (.ref x :: st) S
    | _ => none
  | .aload j => match L[j]? with
    | some (some (.ref x)) => k (pc + 2) L (.ref x :: st) S
    | _ => none
  | .iload_n j => match L[(j : Nat)]? with
    | some (some (.int x)) => k (pc + 1) L (.int x :: st) S
    | _ => none
  | .istore_n j => match st with
    | .int x :: r => if (j : Nat) < L.length then k (pc + 1) (en_set L j (some (.int x))) r S else none
    | _ => none
  | .istore j => match st with
    | .int x :: r => if j < L.length then k (pc + 2) (en_set L j (some (.int x))) r S else none
    | _ => none
  | .astore_n j => match st with
    | .ref x :: r => if (j : Nat) < L.length then k (pc + 1) (en_set L j (some (.ref x))) r S else none
    | _ => none
  | .iinc j n => match L[j]? with
    | some (some (.int x)) => k (pc + 3) (en_set L j (some (.int (x + Int32.ofInt n)))) st S
    | _ => none
  | .dup => match st with
    | .ref x :: r => k (pc + 1) L (.ref x :: .ref x :: r) S
    | _ => none
  | .goto off => k (en_tgt pc off) L st S
  | .if_icmp .ge off => match st with
    | .int y :: .int x :: r => if y ≤ x then k (en_tgt pc off) L r S else k (pc + 3) L r S
    | _ => none
  | .new idx => match dn_NW Z mi idx with
    | some ci => if S.1.length < 1000 ∧ S.2.1 + 1 ≤ dn_CM Z mi ∧ S.2.2 + (dn_DF Z ci).length ≤ dn_SM Z mi then k (pc + 3) L (.ref S.1.length :: st) (S.1 ++ [.inl (ci, dn_DF Z ci)], S.2.1 + 1, S.2.2 + (dn_DF Z ci).length) else none
    | none => none
  | .newarray t => match dn_at t, st with
    | some q, .int n :: r => if S.1.length < 1000 ∧ ¬ n < 0 ∧ n.toNatClampNeg ≤ 10000 ∧ S.2.1 + 1 ≤ dn_CM Z mi ∧ S.2.2 + n.toNatClampNeg ≤ dn_SM Z mi then k (pc + 2) L (.ref S.1.length :: r) (S.1 ++ [.inr (q, n.toNatClampNeg, fun _ => 0)], S.2.1 + 1, S.2.2 + n.toNatClampNeg) else none
    | _, _ => none
  | .putfield idx => match en_FD G mi idx, st with
    | some (ci, f), v :: .ref p :: r => (match S.1[p]? with
      | some (.inl (c, fs)) => if c = ci ∧ f < fs.length ∧ dn_ty tyC ci f v = true then k (pc + 3) L r (S.1.set p (.inl (ci, fs.set f v)), S.2) else none
      | _ => none)
    | _, _ => none
  | .getfield idx => match en_FD G mi idx, st with
    | some (ci, f), .ref p :: r => (match S.1[p]? with
      | some (.inl (c, fs)) => if c = ci then (match fs[f]? with
        | some (.ref x) => k (pc + 3) L (.ref x :: r) S
        | _ => none) else none
      | _ => none)
    | _, _ => none
  | .iastore => match st with
    | .int x :: .int j :: .ref p :: r => (match S.1[p]? with
      | some (.inr (0, n, f)) => if en_in j n then k (pc + 1) L r (S.1.set p (.inr (0, n, upd f j.toNatClampNeg x)), S.2) else none
      | _ => none)
    | _ => none
  | .invokespecial idx => match dn_SP Z mi idx with
    | some (0, _, _) => match st with
      | .ref _ :: r => if en_small r = true then k (pc + 3) L r S else none
      | _ => none
    | some (q, y, n) => if (q = 1 ∨ q = 2) ∧ n ≤ st.length ∧ en_small (st.drop n) = true ∧ en_one (st.take n) = true ∧ S.2.1 + dn_CM Z y ≤ dn_CM Z mi ∧ S.2.2 + dn_SM Z y ≤ dn_SM Z mi then (match (st.take n).reverse with
      | .ref p0 :: as => (match call y (.ref p0 :: as) (S.1, 0, 0) with
        | some S' => k (pc + 3) L (st.drop n) (S'.1, S.2.1 + dn_CM Z y, S.2.2 + dn_SM Z y)
        | none => none)
      | _ => none) else none
    | none => none
  | .return_ => match st with
    | [] => fin S
    | _ => none
  | _ => none
def dn_run (G : en_G) (P : en_P) (ML : Nat → Nat) (Z : dn_T) (tyC : Nat → Nat → FieldType) : Nat → Nat → Nat → en_L → List Value → dn_S → Option dn_S
  | 0, _, _, _, _, _ => none
  | n + 1, mi, pc, L, st, S => match en_get (P mi) pc with
    | none => none
    | some (i, _) => dn_step G Z tyC mi pc i L st S (dn_run G P ML Z tyC n mi) (fun y as S' => dn_run G P ML Z tyC n y 0 (en_ent (ML y) as) [] S') some
/-- the law's beginning: up to the pc stop -/
def dn_upto (G : en_G) (P : en_P) (ML : Nat → Nat) (Z : dn_T) (tyC : Nat → Nat → FieldType) (mi stop : Nat) : Nat → Nat → en_L → List Value → dn_S → Option (en_L × List Value × dn_S)
  | 0, _, _, _, _ => none
  | n + 1, pc, L, st, S => if pc = stop then some (L, st, S) else match en_get (P mi) pc with
    | none => none
    | some (i, _) => dn_step G Z tyC mi pc i L st S (dn_upto G P ML Z tyC mi stop n) (fun y as S' => dn_run G P ML Z tyC 2000 y 0 (en_ent (ML y) as) [] S') (fun _ => none)
def dn_len : Instr → Nat
  | .newarray _ => 2
  | .invokespecial _ => 3
  | i => en_len i
def dn_chk (cc : ByteArray) (pc : Nat) (i : Instr) : Bool := match decode cc pc with
  | .ok (j, n) => decide (j = i) && (n == dn_len i) && en_off pc i
  | _ => false
theorem dn_chk_spec {cc : ByteArray} {pc : Nat} {i : Instr} (h : dn_chk cc pc i = true) : decode cc pc = .ok (i, dn_len i) ∧ en_off pc i = true := by
  unfold dn_chk at h
  split at h
  · next j n hj =>
    simp only [Bool.and_eq_true, decide_eq_true_eq, beq_iff_eq] at h
    obtain ⟨⟨rfl, rfl⟩, h3⟩ := h
    exact ⟨hj, h3⟩
  · cases h
def dn_cell (ad : Nat → Nat) (cA : Nat → ClassId) : dn_C → va_E
  | .inl (ci, fs) => .inr (ci, fs.map (en_cv ad))
  | .inr (q, n, f) => if q = 3 then .inl (cA 3, n, .inr (.inl (fun _ => 0))) else .inl (cA q, n, .inl f)
def dn_ws (ad : Nat → Nat) (cA : Nat → ClassId) (cs : List dn_C) : va_W := cs.zipIdx.map (fun q => (ad q.2, dn_cell ad cA q.1))
theorem dn_ws_at {ad : Nat → Nat} {cA : Nat → ClassId} {cs : List dn_C} {p : Nat} {x : dn_C} (h : cs[p]? = some x) : (dn_ws ad cA cs)[p]? = some (ad p, dn_cell ad cA x) := by
  simp [dn_ws, List.getElem?_map, List.getElem?_zipIdx, h]
theorem dn_ws_len {ad : Nat → Nat} {cA : Nat → ClassId} {cs : List dn_C} : (dn_ws ad cA cs).length = cs.length := by simp [dn_ws]
theorem dn_ws_app {ad : Nat → Nat} {cA : Nat → ClassId} {cs : List dn_C} {x : dn_C} : dn_ws ad cA (cs ++ [x]) = dn_ws ad cA cs ++ [(ad cs.length, dn_cell ad cA x)] := by
  simp [dn_ws, List.zipIdx_append]
theorem dn_ws_set {ad : Nat → Nat} {cA : Nat → ClassId} {cs : List dn_C} {p : Nat} {x : dn_C} : dn_ws ad cA (cs.set p x) = (dn_ws ad cA cs).set p (ad p, dn_cell ad cA x) := by
  apply List.ext_getElem?
  intro q
  by_cases hq : q = p
  · subst hq
    by_cases hl : q < cs.length
    · rw [dn_ws_at (List.getElem?_set_self hl), List.getElem?_set_self (by rw [dn_ws_len]; exact hl)]
    · rw [List.getElem?_eq_none (by rw [dn_ws_len, List.length_set]; omega), List.getElem?_eq_none (by rw [List.length_set, dn_ws_len]; omega)]
  · rw [List.getElem?_set_ne (Ne.symm hq)]
    cases hc : cs[q]? with
    | none =>
      have hl : cs.length ≤ q := by simpa using hc
      rw [List.getElem?_eq_none (by rw [dn_ws_len, List.length_set]; omega), List.getElem?_eq_none (by rw [dn_ws_len]; omega)]
    | some z => rw [dn_ws_at hc, dn_ws_at (by rw [List.getElem?_set_ne (Ne.symm hq)]; exact hc)]
theorem dn_D {base : Nat} {ad : Nat → Nat} {cA : Nat → ClassId} {A : Nat → Prop} (had : ∀ k, k < 1000 → ad k = base + k) (hA : ∀ q, base ≤ q → A q) {cs : List dn_C} (hl : cs.length ≤ 1000) : va_D A (dn_ws ad cA cs) := by
  have key : ∀ (k : Nat) (q : Nat × va_E), (dn_ws ad cA cs)[k]? = some q → q.1 = base + k := by
    intro k q hk
    cases hc : cs[k]? with
    | none =>
      have hl : cs.length ≤ k := by simpa using hc
      rw [List.getElem?_eq_none (by rw [dn_ws_len]; exact hl)] at hk
      cases hk
    | some z =>
      rw [dn_ws_at hc] at hk
      cases hk
      exact had k (Nat.lt_of_lt_of_le (List.getElem?_eq_some_iff.mp hc).1 hl)
  refine ⟨fun i j x y hx hy e => ?_, fun k q hk => ?_⟩
  · have a := key i x hx
    have b := key j y hy
    omega
  · rw [key k q hk]
    exact hA _ (Nat.le_add_right _ _)
/-- the world: the cells, and the heap ends behind them -/
def dn_P (base : Nat) (ad : Nat → Nat) (cA : Nat → ClassId) (D : va_G) (cl : List vw_C) (cs : List dn_C) (H : Heap) : Prop := H.size = base + cs.length ∧ cs.length ≤ 1000 ∧ va_P D cl (dn_ws ad cA cs) H
/-- what the tables say of the constructors -/
def dn_TF (G : en_G) (Z : dn_T) (TT : List Cond) (cl : List vw_C) (tyC : Nat → Nat → FieldType) (own : Nat → String) : Prop :=
  (∀ (ci : Nat) (C : String) (T : u_T) (N : Nat), cl[ci]? = some (C, T, N) → (∀ w ∈ u_ws C T N, w ∈ TT) ∧ (∀ k, k < N → parseFieldDescriptor (T k).2.2.1 = some (tyC ci k)) ∧ (∀ a, a < N → ∀ b, b < N → a ≠ b → (T a).2.1 ≠ (T b).2.1) ∧ (dn_DF Z ci).length = N ∧ (∀ k, k < N → defaultValue (tyC ci k) = vp_V (dn_DF Z ci) k) ∧ (∀ v ∈ dn_DF Z ci, ∀ q, v ≠ .ref q) ∧ (∀ k, k < N → (T k).1 = C) ∧ Cond.instantiable C N ∈ TT ∧ Cond.initialized C ∈ TT) ∧
  (∀ mi idx ci k, en_FD G mi idx = some (ci, k) → ∀ (C : String) (T : u_T) (N : Nat), cl[ci]? = some (C, T, N) → k < N ∧ Cond.fieldLink (own mi) idx (T k).1 (T k).2.1 (T k).2.2.1 ∈ TT) ∧
  (∀ mi idx ci, dn_NW Z mi idx = some ci → ∃ (C : String) (T : u_T) (N : Nat), cl[ci]? = some (C, T, N) ∧ Cond.classLink (own mi) idx C ∈ TT) ∧
  (Cond.arrayClass .int ∈ TT ∧ Cond.arrayClass .byte ∈ TT ∧ Cond.arrayClass .boolean ∈ TT ∧ Cond.arrayClass .long ∈ TT)
section DS
variable {p : Program} {l : Launch} {e : Env} {R : Room} {s : State} {m : MethodId} {args : Array Value} {below : List Frame} {meth : Method} {c : Code} {H : Heap} {locs : List Loc} {Q : State → Prop}
variable {ρ : Type} {G : en_G} {Z : dn_T} {base : Nat} {ad : Nat → Nat} {cA : Nat → ClassId} {D : va_G} {cl : List vw_C} {A : Nat → Prop} {TT : List Cond} {tyC : Nat → Nat → FieldType} {own : Nat → String} {cc : ByteArray} {nL mi pc : Nat} {ls : Array Slot} {L : en_L} {st : List Value} {S : dn_S} {k : Nat → en_L → List Value → dn_S → Option ρ} {call : Nat → List Value → dn_S → Option dn_S} {fin : dn_S → Option ρ} {out : ρ} {i : Instr}
set_option maxHeartbeats 4000000 in
theorem dn_sim1 (hT : dn_TF G Z TT cl tyC own) (hx : p.tables.exec = Jvm.exec) (hb : c.code = cc) (hown : s.vm.findClass (own mi) = some m.cls) (hts : ∀ w ∈ TT, w.before args s = true) (hK : va_K D cl (en_tys cA) s)
    (hin : (∃ idx, i = .putfield idx) → meth.name = "<init>") (hpc : ∀ ci f idx, i = .putfield idx → en_FD G mi idx = some (ci, f) → ∃ (C : String) (T : u_T) (N : Nat), cl[ci]? = some (C, T, N) ∧ C = own mi)
    (had : ∀ k, k < 1000 → ad k = base + k) (hA : ∀ q, base ≤ q → A q) (hbase : base ≤ s.heap.size) (hchk : dn_chk cc pc i = true) (hRc : R.cells = dn_CM Z mi) (hRs : R.slots = dn_SM Z mi)
    (h : dn_step G Z tyC mi pc i L st S k call fin = some out) (hl : en_lv ad ls nL L) (hP : dn_P base ad cA D cl S.1 H) (hS : va_S A s.heap H locs)
    (hS1 : S.2.1 ≤ dn_CM Z mi) (hS2 : S.2.2 ≤ dn_SM Z mi)
    (hk : ∀ pc' L' st' S' ls' H' locs', k pc' L' st' S' = some out → S'.2.1 ≤ dn_CM Z mi → S'.2.2 ≤ dn_SM Z mi → en_lv ad ls' nL L' → dn_P base ad cA D cl S'.1 H' → va_S A s.heap H' locs' → W p l e R s m args below meth c H' locs' S'.2.1 S'.2.2 Q (F0 m pc' ls' (st'.map (en_cv ad))))
    (hrest : (∃ idx, i = .invokespecial idx) ∨ i = .return_ → W p l e R s m args below meth c H locs S.2.1 S.2.2 Q (F0 m pc ls (st.map (en_cv ad)))) :
    W p l e R s m args below meth c H locs S.2.1 S.2.2 Q (F0 m pc ls (st.map (en_cv ad))) := by
  obtain ⟨hd, ho⟩ := dn_chk_spec hchk
  obtain ⟨tC, tF, tN, tA0, tA1, tA2, tA3⟩ := hT
  have go : ∀ pc' L' st', k pc' L' st' S = some out → ∀ ls', en_lv ad ls' nL L' → W p l e R s m args below meth c H locs S.2.1 S.2.2 Q (F0 m pc' ls' (st'.map (en_cv ad))) := fun pc' L' st' h1 ls' h3 => hk _ _ _ _ _ _ _ h1 hS1 hS2 h3 hP hS
  have hDD : va_D A (dn_ws ad cA S.1) := dn_D had hA hP.2.1
  cases i with
  | iconst n => exact lv_iconst hx hb hd rfl (go _ _ _ h _ hl)
  | bipush n => exact lv_bipush hx hb hd rfl (go _ _ _ h _ hl)
  | sipush n => exact lv_sipush hx hb hd rfl (go _ _ _ h _ hl)
  | aload_n j =>
    simp only [dn_step] at h
    split at h
    · next x hv => exact lv_aload_n hx hb hd rfl (hl.at hv) (go _ _ _ h _ hl)
    · cases h
  | aload j =>
    simp only [dn_step] at h
    split at h
    · next x hv => exact lv_aload hx hb hd (hl.at hv) (go _ _ _ h _ hl)
    · cases h
  | iload_n j =>
    simp only [dn_step] at h
    split at h
    · next x hv => exact lv_iload_n hx hb hd rfl (hl.at hv) (go _ _ _ h _ hl)
    · cases h
  | istore_n j =>
    simp only [dn_step] at h
    split at h
    · next x r =>
      split at h
      · next hj => exact lv_istore_n hx hb hd rfl hl.has (by rw [← hl.1]; exact hj) rfl (fun ls' h' => go _ _ _ h _ (en_lv.store hl.1 h' (by rw [← hl.1]; exact hj)))
      · cases h
    · cases h
  | istore j =>
    simp only [dn_step] at h
    split at h
    · next x r =>
      split at h
      · next hj => exact lv_istore hx hb hd hl.has (by rw [← hl.1]; exact hj) rfl (fun ls' h' => go _ _ _ h _ (en_lv.store hl.1 h' (by rw [← hl.1]; exact hj)))
      · cases h
    · cases h
  | astore_n j =>
    simp only [dn_step] at h
    split at h
    · next x r =>
      split at h
      · next hj => exact lv_astore_n hx hb hd rfl hl.has (by rw [← hl.1]; exact hj) rfl (fun ls' h' => go _ _ _ h _ (en_lv.store (v := .ref x) hl.1 h' (by rw [← hl.1]; exact hj)))
      · cases h
    · cases h
  | iinc j n =>
    simp only [dn_step] at h
    split at h
    · next x hv =>
      have hm : (j, Value.int x) ∈ en_prs ad L := en_prs_mem.mpr ⟨.int x, hv, rfl⟩
      obtain ⟨q, hq⟩ := List.getElem?_of_mem hm
      have hj : j < nL := by rw [← hl.1]; exact (List.getElem?_eq_some_iff.mp hv).1
      exact lv_iinc hx hb hd hl.has hq rfl hj rfl (fun ls' h' => go _ _ _ h _ (en_lv.store hl.1 h' hj))
    · cases h
  | dup =>
    simp only [dn_step] at h
    split at h
    · exact lv_dup hx hb hd rfl (go _ _ _ h _ hl)
    · cases h
  | goto off =>
    simp only [en_off, decide_eq_true_eq] at ho
    exact lv_goto hx hb hd (en_tgt_eq ho) (go _ _ _ h _ hl)
  | if_icmp b off =>
    simp only [en_off, decide_eq_true_eq] at ho
    cases b <;> simp only [dn_step] at h <;> try (cases h; done)
    split at h
    · next y x r =>
      refine lv_icmp_ge hx hb hd (en_tgt_eq ho) (fun z => ?_) (fun z => ?_)
      · rw [if_pos z] at h; exact go _ _ _ h _ hl
      · rw [if_neg z] at h; exact go _ _ _ h _ hl
    · cases h
  | new idx =>
    simp only [dn_step] at h
    split at h
    · next ci hci =>
      split at h
      · next hc =>
        obtain ⟨c1, c2, c3⟩ := hc
        obtain ⟨C, T, N, e1, e2⟩ := tN _ _ _ hci
        obtain ⟨t1, t2, t3, t4, t5, t6, t7, t8, t9⟩ := tC _ _ _ _ e1
        have hKn := hK.1 ci _ e1
        have hsz : H.size = ad S.1.length := by rw [had _ c1]; exact hP.1
        refine W.newcK (n := N) hx hb hown (hts _ e2) (hts _ t8) (hts _ t9) rfl hd (by rw [hRc]; exact c2) (by rw [hRs, ← t4]; exact c3) hKn.2.1 hsz fun H1 kC hkC f1 z1 o1 => ?_
        rw [← t4]
        refine hk _ _ _ _ ls H1 locs h c2 c3 hl ⟨?_, ?_, ?_⟩ ⟨Nat.le_trans hS.1 (by omega), fun x h1 h2 => (o1 x (Nat.lt_of_lt_of_le h1 (by rw [← hsz]; exact hS.1))).trans (hS.2.1 x h1 h2), hS.2.2⟩
        · rw [z1, had _ c1]
          simp
          omega
        · simp
          omega
        · show va_P D cl (dn_ws ad cA (S.1 ++ [.inl (ci, dn_DF Z ci)])) H1
          rw [dn_ws_app]
          refine va_P.app (hP.2.2.kept (fun k x hx9 => o1 x.1 (by rw [← hsz]; exact (hP.2.2 k x hx9).lt))) (fun k x hx9 => ?_)
          have hz : k < 1 := (List.getElem?_eq_some_iff.mp hx9).1
          rw [show k = 0 by omega] at hx9
          cases hx9
          have e9 : (dn_DF Z ci).map (en_cv ad) = dn_DF Z ci := by
            conv => rhs; rw [← List.map_id (dn_DF Z ci)]
            apply List.map_congr_left
            intro v hv
            cases v with
            | ref q => exact absurd rfl (t6 _ hv q)
            | _ => rfl
          refine ⟨_, e1, ?_⟩
          show t_OB (ad S.1.length) (D.1 ci) N (D.2 ci) H1 (vp_V ((dn_DF Z ci).map (en_cv ad)))
          rw [e9]
          exact (u_born (tyC ci) hts t1 hKn hkC f1 t2).to t5
      · cases h
    · cases h
  | newarray t =>
    simp only [dn_step] at h
    split at h
    · next q n r hq =>
      split at h
      · next hc =>
        obtain ⟨c1, c2, c3, c4, c5⟩ := hc
        have hsz : H.size = ad S.1.length := by rw [had _ c1]; exact hP.1
        have key : ∀ (ty : FieldType) (q0 : Nat), newarray.typeOf t = ty → Cond.arrayClass ty ∈ TT → (en_tys cA)[q0]? = some (cA q0, ty) → q0 = q → componentBytes ty ≤ 8 → (∀ t9 : FieldType, ty = t9 → va_RA s (cA q0) t9 → s.vm.findClass ("[" ++ t9.toString) = some (cA q0)) →
            dn_cell ad cA (.inr (q, n.toNatClampNeg, fun _ => 0)) = dn_cell ad cA (.inr (q, n.toNatClampNeg, fun _ => 0)) → (∀ c9 : ClassId, ∃ a9 : vp_A, dn_cell ad (fun _ => c9) (.inr (q, n.toNatClampNeg, fun _ => 0)) = .inl (c9, a9) ∧ vp_cell c9 a9 = arrV c9 n.toNatClampNeg (fun _ => defaultValue ty)) →
            W p l e R s m args below meth c H locs S.2.1 S.2.2 Q (F0 m pc ls (.int n :: r.map (en_cv ad))) := by
          intro ty q0 hty hin9 htys hq0 hcb hra _ hcell
          subst hty
          refine va_newaK hx hb (hts _ hin9) rfl hd rfl c2 rfl ?_ (by rw [hRc]; exact c4) (by rw [hRs]; exact c5) hsz fun H1 cA' f1 z1 o1 hAr hNm => ?_
          · exact Nat.le_trans (Nat.mul_le_mul c3 hcb) (by decide)
          have hcA : cA' = cA q0 := by
            have h9 := hra _ rfl (hK.2 q0 _ htys).2
            exact Option.some.inj (hNm.symm.trans h9)
          refine hk _ _ _ _ ls H1 locs h c4 c5 hl ⟨?_, ?_, ?_⟩ ⟨Nat.le_trans hS.1 (by omega), fun x h1 h2 => (o1 x (Nat.lt_of_lt_of_le h1 (by rw [← hsz]; exact hS.1))).trans (hS.2.1 x h1 h2), hS.2.2⟩
          · rw [z1, had _ c1]
            simp
            omega
          · simp
            omega
          · show va_P D cl (dn_ws ad cA (S.1 ++ [.inr (q, n.toNatClampNeg, fun _ => 0)])) H1
            rw [dn_ws_app]
            refine va_P.app (hP.2.2.kept (fun k x hx9 => o1 x.1 (by rw [← hsz]; exact (hP.2.2 k x hx9).lt))) (fun k x hx9 => ?_)
            have hz : k < 1 := (List.getElem?_eq_some_iff.mp hx9).1
            rw [show k = 0 by omega] at hx9
            cases hx9
            obtain ⟨a9, g1, g2⟩ := hcell (cA q0)
            have g3 : dn_cell ad cA (.inr (q, n.toNatClampNeg, fun _ => 0)) = .inl (cA q0, a9) := by
              rw [← g1]
              subst hq0
              simp only [dn_cell]
              by_cases h3 : q0 = 3
              · rw [if_pos h3, if_pos h3, h3]
              · rw [if_neg h3, if_neg h3]
            rw [g3]
            show H1[ad S.1.length]? = some (vp_cell _ _)
            rw [g2, ← hcA]
            exact f1
        cases t <;> simp only [dn_at] at hq <;> try (cases hq; done)
        · cases hq
          exact key .boolean 2 rfl tA2 rfl rfl (by decide) (fun t9 ht9 h9 => by subst ht9; exact h9) rfl (fun c9 => ⟨_, rfl, by rw [vp_cell_i]; rfl⟩)
        · cases hq
          exact key .byte 1 rfl tA1 rfl rfl (by decide) (fun t9 ht9 h9 => by subst ht9; exact h9) rfl (fun c9 => ⟨_, rfl, by rw [vp_cell_i]; rfl⟩)
        · cases hq
          exact key .int 0 rfl tA0 rfl rfl (by decide) (fun t9 ht9 h9 => by subst ht9; exact h9) rfl (fun c9 => ⟨_, rfl, by rw [vp_cell_i]; rfl⟩)
        · cases hq
          exact key .long 3 rfl tA3 rfl rfl (by decide) (fun t9 ht9 h9 => by subst ht9; exact h9) rfl (fun c9 => ⟨_, rfl, by rw [vp_cell_l]; rfl⟩)
      · cases h
    · cases h
  | putfield idx =>
    simp only [dn_step] at h
    split at h
    · next ci f v p0 r hf =>
      split at h
      · next c9 fs hs =>
        split at h
        · next hc =>
          obtain ⟨rfl, c2, c3⟩ := hc
          obtain ⟨C, T, N, e1, e2⟩ := hpc _ _ _ rfl hf
          obtain ⟨g1, g2⟩ := tF _ _ _ _ hf _ _ _ e1
          obtain ⟨t1, t2, t3, t4, t5, t6, t7, t8, t9⟩ := tC _ _ _ _ e1
          have hw : (dn_ws ad cA S.1)[p0]? = some (ad p0, .inr (c9, fs.map (en_cv ad))) := dn_ws_at hs
          have hlen : f < (fs.map (en_cv ad)).length := by rw [List.length_map]; exact c2
          have hfit : narrow (tyC c9 f) (en_cv ad v) = en_cv ad v ∧ fits (tyC c9 f) (en_cv ad v) = true := by
            unfold dn_ty at c3
            split at c3
            · next h9 => rw [h9]; exact ⟨rfl, rfl⟩
            · next h9 =>
              rw [h9]
              have := of_decide_eq_true c3
              subst this
              exact ⟨rfl, rfl⟩
            · next h9 => rw [h9]; exact ⟨rfl, rfl⟩
            · next h9 => rw [h9]; exact ⟨rfl, rfl⟩
            · cases c3
          have fin9 : ∀ (H1 : Heap) (locs1 : List Loc), H1.size = H.size → va_P D cl ((dn_ws ad cA S.1).set p0 (ad p0, .inr (c9, (fs.map (en_cv ad)).set f (en_cv ad v)))) H1 → va_S A s.heap H1 locs1 → W p l e R s m args below meth c H1 locs1 S.2.1 S.2.2 Q (F0 m (pc + 3) ls (r.map (en_cv ad))) := by
            intro H1 locs1 hz hP1 hSq
            refine hk (pc + 3) L r (S.1.set p0 (.inl (c9, fs.set f v)), S.2) ls H1 locs1 h hS1 hS2 hl ⟨?_, ?_, ?_⟩ hSq
            · rw [hz, List.length_set]
              exact hP.1
            · rw [List.length_set]
              exact hP.2.1
            · rw [dn_ws_set]
              have e9 : dn_cell ad cA (.inl (c9, fs.set f v)) = .inr (c9, (fs.map (en_cv ad)).set f (en_cv ad v)) := by
                simp only [dn_cell, List.map_set]
              rw [e9]
              exact hP1
          obtain ⟨r9, h1, cell, q1, q2, q3, q4⟩ := hP.2.2 p0 _ hw
          have hr : r9 = (C, T, N) := Option.some.inj (h1.symm.trans e1)
          subst hr
          have hKn := hK.1 c9 _ e1
          obtain ⟨hSl, hfc, kC, hkC, hkind⟩ := hKn
          obtain ⟨cf, kf, fi, fd, hi, hsl⟩ := hSl f g1
          have hap := va_apart (own := own mi) hts t1 (tyC c9) t2 t3 hK e1
          have hst := (u_facts hfc hkC (u_lays hts t1 g1) hi).1
          have done9 : ∀ (H1 : Heap), H1[ad p0]? = some (cell.setSlot (D.2 c9 f) (en_cv ad v)) → H1.size = H.size → (∀ q : Nat, q ≠ ad p0 → H1[q]? = H[q]?) → W p l e R s m args below meth c H1 (locs ++ [⟨ad p0, D.2 c9 f⟩]) S.2.1 S.2.2 Q (F0 m (pc + 3) ls (r.map (en_cv ad))) := by
            intro H1 f1 f2 f3
            refine fin9 H1 _ f2 (hP.2.2.set hDD hw ⟨_, e1, t_OB.to (V := updV (vp_V (fs.map (en_cv ad))) f (en_cv ad v)) ⟨_, f1, q2, q3, t_set q4 hap g1 (en_cv ad v)⟩ (fun j _ => vp_updV_set hlen (en_cv ad v) j)⟩ f3) (hS.put f2 f3 (hDD.2 p0 _ hw))
          cases hfin : (T f).2.2.2 with
          | false =>
            have hlay := hts _ (t1 _ (u_in_lay g1))
            unfold u_lay at hlay
            rw [if_neg (by rw [hfin]; decide)] at hlay
            have h6 := u_store hfc hkC hkind hlay hi (t2 f g1) hfit.1 hfit.2
            refine W.putK hx hb (f := fd) ⟨hown, hts _ g2, ⟨_, _, _, hi⟩, hst⟩ (by rw [q2]; exact h6) q1 q3 (by rw [hsl]; exact k2_hasslot (q4 f g1)) rfl rfl hd fun H' f1 f2 f3 => ?_
            rw [hsl] at f1 ⊢
            exact done9 H' f1 f2 f3
          | true =>
            have hlay := hts _ (t1 _ (u_in_lay g1))
            unfold u_lay at hlay
            rw [if_pos hfin] at hlay
            have hcf : m.cls = cf := by
              obtain ⟨_, _, c', _, _, _, -, -, hf', -, -, -, hown2, -⟩ := Cond.laysFinal_spec hlay
              have e3 : c' = cf := by have := hi.symm.trans hf'; simp at this; exact this.1.symm
              rw [t7 f g1, e2] at hown2
              rw [← e3]; exact Option.some.inj (hown.symm.trans hown2)
            have h6 := u_fits hfc hkC hkind (Or.inr hlay) hi (t2 f g1) hfit.1 hfit.2
            refine W.putFinK hx hb hown (hts _ g2) hi hst hcf (hin ⟨idx, rfl⟩) (by rw [q2]; exact h6) q1 q3 (by rw [hsl]; exact k2_hasslot (q4 f g1)) rfl rfl hd fun H' f1 f2 f3 => ?_
            rw [hsl] at f1 ⊢
            exact done9 H' f1 f2 f3
        · cases h
      · cases h
    · cases h
  | getfield idx =>
    simp only [dn_step] at h
    split at h
    · next ci f p0 r hf =>
      split at h
      · next c9 fs hs =>
        split at h
        · next hc =>
          subst hc
          split at h
          · next x hx9 =>
            have hw : (dn_ws ad cA S.1)[p0]? = some (ad p0, .inr (c9, fs.map (en_cv ad))) := dn_ws_at hs
            obtain ⟨r9, h1, -⟩ := hP.2.2 p0 _ hw
            obtain ⟨C, T, N⟩ := r9
            obtain ⟨g1, g2⟩ := tF _ _ _ _ hf _ _ _ h1
            obtain ⟨t1, -⟩ := tC _ _ _ _ h1
            exact va_get hx hb hts t1 hown hK hP.2.2 p0 hw h1 f g1 (hts _ g2) (fun _ h9 => h9) (v := .ref (ad x)) (by rw [List.getElem?_map, hx9]; rfl) hd (go _ _ _ h _ hl)
          · cases h
        · cases h
      · cases h
    · cases h
  | iastore =>
    simp only [dn_step] at h
    split at h
    · next x j p0 r =>
      split at h
      · next n f hs =>
        split at h
        · next hj =>
          have hw : (dn_ws ad cA S.1)[p0]? = some (ad p0, .inl (cA 0, n, .inl f)) := dn_ws_at hs
          have htys : (en_tys cA)[0]? = some (cA 0, FieldType.int) := rfl
          refine W.iast hx hb (hP.2.2 p0 _ hw) ((hK.2 0 _ htys).1 n (fun j => .int (f j))) (fun q => by cases q) (by show ¬ (j < 0 ∨ (arrV _ _ _).slots.size ≤ _); rw [arrV_size]; exact hj) rfl rfl hd fun H1 f1 f2 f3 => ?_
          refine hk (pc + 1) L r (S.1.set p0 (.inr (0, n, upd f j.toNatClampNeg x)), S.2) ls H1 _ h hS1 hS2 hl ⟨?_, ?_, ?_⟩ (hS.put f2 f3 (hDD.2 p0 _ hw))
          · rw [f2, List.length_set]
            exact hP.1
          · rw [List.length_set]
            exact hP.2.1
          · rw [dn_ws_set]
            refine hP.2.2.set hDD hw ?_ f3
            show H1[ad p0]? = some (vp_cell _ _)
            rw [f1]
            rw [vp_cell_i, vp_cell_i, arrV_store]
            congr 2
            funext q
            by_cases hq : q = j.toNatClampNeg
            · subst hq
              simp [updV, upd]
            · simp [updV, upd, hq]
        · cases h
      · cases h
    · cases h
  | invokespecial idx => exact hrest (Or.inl ⟨idx, rfl⟩)
  | return_ => exact hrest (Or.inr rfl)
  | _ => cases h
end DS
section DM
variable (l : Launch) (G : en_G) (P : en_P) (ML : Nat → Nat) (Z : dn_T) (base : Nat) (ad : Nat → Nat) (cA : Nat → ClassId) (D : va_G) (cl : List vw_C) (A : Nat → Prop) (TT : List Cond) (tyC : Nat → Nat → FieldType) (own : Nat → String) (yN : Nat → MethodName) (CD : Nat → ByteArray) (fr lo : Nat → Nat) (NX : State → Prop)
def dn_B (cs : List dn_C) (U : State) : Prop := dn_P base ad cA D cl cs U.heap ∧ va_K D cl (en_tys cA) U ∧ NX U
def dn_Qc (cs : List dn_C) : Array Value → State → Outcome → State → Prop := fun _ st oc t => oc = .returned none ∧ dn_P base ad cA D cl cs t.heap ∧ va_F A st t
def dn_rm (y : Nat) : Room := { frames := fr y, cells := dn_CM Z y, slots := dn_SM Z y, locals := lo y }
def dn_wd (y : Nat) : Cond := .code (yN y) (CD y) (ML y) none
def dn_Con (y : Nat) (as : List Value) (cs cs' : List dn_C) : Prop :=
  Met l (yN y) (dn_wd ML yN CD y :: TT) (dn_rm Z fr lo y) (va_Pc (as.map (en_cv ad)) (dn_B base ad cA D cl NX cs)) (dn_Qc base ad cA D cl A cs') (dn_CM Z y) (dn_SM Z y) A
def dn_PV (mi : Nat) : Prop := ∀ pc i m, en_get (P mi) pc = some (i, m) → dn_chk (CD mi) pc i = true ∧ ∀ idx, i = .putfield idx → ∀ ci f, en_FD G mi idx = some (ci, f) → ∃ (C : String) (T : u_T) (N : Nat), cl[ci]? = some (C, T, N) ∧ C = own mi
def dn_MV (y : Nat) : Prop := dn_wd ML yN CD y ∈ TT ∧ plainName (yN y).cls = true ∧ (yN y).cls = own y ∧ Cond.initialized (own y) ∈ TT ∧ ((yN y).cls ≠ "java/lang/invoke/MethodHandle" ∧ (yN y).cls ≠ "java/lang/invoke/VarHandle") ∧ 8 ≤ fr y ∧ 200 ≤ lo y ∧ (yN y).name = "<init>" ∧ dn_PV G P cl own CD y
def dn_CF (s : State) : Prop :=
  (∀ mi idx y n, dn_SP Z mi idx = some (0, y, n) → Cond.methodLink (own mi) idx Lib.objectInit ∈ TT ∧ Cond.instanceMethod Lib.objectInit ∈ TT ∧ Cond.code Lib.objectInit ⟨#[0xb1]⟩ 1 none ∈ TT) ∧
  (∀ mi idx q y n, dn_SP Z mi idx = some (q, y, n) → ¬ q = 0 → dn_MV G P ML cl TT own yN CD fr lo y ∧ (Cond.methodLink (own mi) idx (yN y) ∈ TT ∨ ∃ host, va_Nw (Cond.methodLinkNest (own mi) idx (yN y) host) s) ∧ Cond.instanceMethod (yN y) ∈ TT ∧ (parseMethodDescriptor (yN y).desc).map (fun d => d.parameters.length) = some (n - 1) ∧ 1 ≤ n ∧ n ≤ ML y ∧ fr y + 1 ≤ fr mi ∧ 8 + (ML y + 11) + lo y ≤ lo mi)
end DM
section DX
variable {l : Launch} {G : en_G} {P : en_P} {ML : Nat → Nat} {Z : dn_T} {base : Nat} {ad : Nat → Nat} {cA : Nat → ClassId} {D : va_G} {cl : List vw_C} {A : Nat → Prop} {TT : List Cond} {tyC : Nat → Nat → FieldType} {own : Nat → String} {yN : Nat → MethodName} {CD : Nat → ByteArray} {fr lo : Nat → Nat} {NX : State → Prop}
theorem dn_blind (hNm : ∀ u U : State, u.WarmedH U.vm → NX u → NX U) {vs : List Value} {cs : List dn_C} : FrameBlind (va_Pc vs (dn_B base ad cA D cl NX cs)) := by
  intro a U g mk q
  obtain ⟨q0, qP, qK, qN⟩ := q
  exact ⟨q0, qP, va_K.moved (u := U) (U := U.calling g mk a) (Vm.Alike.refl U.vm) qK, hNm U (U.calling g mk a) (State.WarmedH.refl U) qN⟩
theorem dn_after {p : Program} {e : Env} {R : Room} {s : State} {m : MethodId} {args : Array Value} {below : List Frame} {meth : Method} {c : Code} {H : Heap} {locs : List Loc} {cells slots : Nat} {Q : State → Prop} {mc ms pc : Nat} {ls : Array Slot} {st0 rest : List Value} {cs : List dn_C} {a : Array Value}
    (hr : va_Run p l e R s m args below meth c H locs cells slots mc ms (F0 m pc ls st0) rest (dn_Qc base ad cA D cl A cs a) A) (hS : va_S A s.heap H locs)
    (kr : ∀ H1 locs1, dn_P base ad cA D cl cs H1 → va_S A s.heap H1 locs1 → W p l e R s m args below meth c H1 locs1 (cells + mc) (slots + ms) Q (F0 m (pc + 3) ls rest)) :
    W p l e R s m args below meth c H locs cells slots Q (F0 m pc ls st0) := by
  intro T hT X
  obtain ⟨v, st₀, t, T', L, h0, X', hL, e1, e2, ⟨hv, hB, hF⟩, st⟩ := hr T hT X
  obtain ⟨k1, k2, k3⟩ := vx_keep (A1 := A) (free := A) h0 e1 hS (fun _ _ h => h) (fun _ h => h) hL hF
  cases hv
  obtain ⟨t2, a1, b1⟩ := kr T'.heap (locs ++ L) (by rw [e1]; exact hB) k3 T' rfl X'
  exact ⟨t2, st t2 a1, b1⟩
/-- a constructor's call, within a method -/
theorem dn_call {p : Program} {e : Env} {R : Room} {s : State} {m : MethodId} {args : Array Value} {below : List Frame} {meth : Method} {c : Code} {H : Heap} {locs : List Loc} {cells slots : Nat} {Q : State → Prop}
    (hNm : ∀ u U : State, u.WarmedH U.vm → NX u → NX U) (hNX : NX s) (hTg : ∀ w ∈ TT, (w.onTables && w.keeps) = true ∨ ∃ ty, w = .arrayClass ty) (hx : p.tables.exec = Jvm.exec) {mi : Nat} (hb : c.code = CD mi) (hml : c.maxLocals = ML mi) (hown : s.vm.findClass (own mi) = some m.cls) (hts : ∀ w ∈ TT, w.before args s = true) (hK : va_K D cl (en_tys cA) s) (hRf : R.frames = fr mi) (hRl : R.locals = lo mi)
    (hCF : dn_CF G P ML Z cl TT own yN CD fr lo s) {idx q y n pc : Nat} {ls : Array Slot} {st : List Value} {cs cs' : List dn_C} (hsp : dn_SP Z mi idx = some (q, y, n)) (hq : ¬ q = 0) (hn : n ≤ st.length) (hsm : en_small (st.drop n) = true) (hst : ∃ p0 as, (st.take n).reverse = .ref p0 :: as)
    (hcon : dn_Con l ML Z base ad cA D cl A TT yN CD fr lo NX y (st.take n).reverse cs cs') (hd : decode (CD mi) pc = .ok (.invokespecial idx, 3)) (hsz : ls.size = ML mi) (hP : dn_P base ad cA D cl cs H) (hS : va_S A s.heap H locs) (hc : cells + dn_CM Z y ≤ R.cells) (hs : slots + dn_SM Z y ≤ R.slots)
    (kr : ∀ H1 locs1, dn_P base ad cA D cl cs' H1 → va_S A s.heap H1 locs1 → W p l e R s m args below meth c H1 locs1 (cells + dn_CM Z y) (slots + dn_SM Z y) Q (F0 m (pc + 3) ls ((st.drop n).map (en_cv ad)))) :
    W p l e R s m args below meth c H locs cells slots Q (F0 m pc ls (st.map (en_cv ad))) := by
  obtain ⟨v1, v3, v4, v5, v6, v7, v8, v9⟩ := hCF.2 _ _ _ _ _ hsp hq
  obtain ⟨w1, w2, w3, w4, w5, w6, w7, w8, w9⟩ := v1
  obtain ⟨p0, as, has⟩ := hst
  have hasl : as.length = n - 1 := by
    have h1 : (Value.ref p0 :: as).length = n := by rw [← has, List.length_reverse, List.length_take]; omega
    simp at h1
    omega
  have hgd : GoodIn TT (dn_wd ML yN CD y :: TT) := by
    intro w hw
    rcases List.mem_cons.mp hw with rfl | hw
    · exact ⟨w1, hTg _ w1⟩
    · exact ⟨hw, hTg _ hw⟩
  have hstk : st.map (en_cv ad) = (as.map (en_cv ad)).reverse ++ .ref (ad p0) :: (st.drop n).map (en_cv ad) := by
    rw [en_map_rev (n := n), has]
    simp [en_cv]
  have hsm' : (((st.drop n).map (en_cv ad)).map fun v => v.category).sum ≤ 8 := by
    rw [en_cat_map]
    exact of_decide_eq_true hsm
  have hpre : ∀ U : State, U.heap = H → s.WarmedH U.vm → va_Pc (((st.take n).reverse).map (en_cv ad)) (dn_B base ad cA D cl NX cs) (Value.ref (ad p0) :: as.map (en_cv ad)).toArray U := by
    intro U hU hW
    refine ⟨by rw [has]; rfl, by rw [hU]; exact hP, va_K.moved hW.alike hK, hNm _ _ hW hNX⟩
  refine dn_after (mc := dn_CM Z y) (ms := dn_SM Z y) (a := (Value.ref (ad p0) :: as.map (en_cv ad)).toArray) (rest := (st.drop n).map (en_cv ad)) ?_ hS kr
  rcases v3 with v3 | ⟨host, v3⟩
  · have cb := cwI (R := R) (rm := dn_rm Z fr lo y) (mc := dn_CM Z y) (ms := dn_SM Z y) (n - 1) hts hgd rfl rfl rfl (by rw [w3]; exact hts _ w4) (hts _ v3) (hts _ v4) w8 ⟨w5.1, w5.2, v5⟩ ⟨by rw [hRf]; exact v8, by rw [hRl]; exact v9⟩
    exact va_runI (As := as.map (en_cv ad)) (b := ad p0) (rest := (st.drop n).map (en_cv ad)) ⟨hx, hb, hml, hown, hts⟩ hcon cb ⟨dn_blind hNm, hpre⟩ rfl (by rw [List.length_map]; exact hasl) hsz hstk (lv_room hsm') hd ⟨hc, hs⟩
  · have cb : va_CN R s args (own mi) idx (yN y) host (CD y) (ML y) none (dn_wd ML yN CD y :: TT) (dn_rm Z fr lo y) (dn_CM Z y) (dn_SM Z y) (n - 1) :=
      va_cnB (n - 1) hts hgd rfl rfl rfl v3 (by rw [w3]; exact hts _ w4) ⟨w5.1, w5.2, v5⟩ ⟨by rw [hRf]; exact v8, by rw [hRl]; exact v9⟩
    exact va_runIN (As := as.map (en_cv ad)) (b := ad p0) (rest := (st.drop n).map (en_cv ad)) ⟨hx, hb, hml, hown, hts⟩ hcon ⟨cb, w8, hts _ v4⟩ ⟨dn_blind hNm, hpre⟩ rfl (by rw [List.length_map]; exact hasl) hsz hstk (lv_room hsm') hd ⟨hc, hs⟩
set_option maxHeartbeats 4000000 in
theorem dn_main (hT : dn_TF G Z TT cl tyC own) (hTg : ∀ w ∈ TT, (w.onTables && w.keeps) = true ∨ ∃ ty, w = .arrayClass ty) (had : ∀ k, k < 1000 → ad k = base + k) (hA : ∀ q, base ≤ q → A q)
    (hNm : ∀ u U : State, u.WarmedH U.vm → NX u → NX U) (hCF0 : ∀ U : State, NX U → dn_CF G P ML Z cl TT own yN CD fr lo U) : ∀ (n y : Nat) (as : List Value) (cs : List dn_C) (S' : dn_S), dn_MV G P ML cl TT own yN CD fr lo y → en_one as = true → as.length ≤ ML y → dn_run G P ML Z tyC n y 0 (en_ent (ML y) as) [] (cs, 0, 0) = some S' → dn_Con l ML Z base ad cA D cl A TT yN CD fr lo NX y as cs S'.1 := by
  have body : ∀ (n mi : Nat), (∀ (y : Nat) (as : List Value) (cs : List dn_C) (S' : dn_S), dn_MV G P ML cl TT own yN CD fr lo y → en_one as = true → as.length ≤ ML y → ∀ n' < n, dn_run G P ML Z tyC n' y 0 (en_ent (ML y) as) [] (cs, 0, 0) = some S' → dn_Con l ML Z base ad cA D cl A TT yN CD fr lo NX y as cs S'.1) →
      dn_MV G P ML cl TT own yN CD fr lo mi → ∀ (n0 : Nat), n0 ≤ n → ∀ (pc : Nat) (L : en_L) (st : List Value) (S S' : dn_S), dn_run G P ML Z tyC n0 mi pc L st S = some S' → ∀ (p : Program) (e : Env) (R : Room) (s : State) (m : MethodId) (args : Array Value) (below : List Frame) (meth : Method) (c : Code) (H : Heap) (locs : List Loc) (ls : Array Slot),
      p.tables.exec = Jvm.exec → c.code = CD mi → c.maxLocals = ML mi → meth.sig.returnType = none → meth.locks = false → meth.name = "<init>" → s.vm.findClass (own mi) = some m.cls → (∀ w ∈ TT, w.before args s = true) → va_K D cl (en_tys cA) s → NX s → base ≤ s.heap.size → R.frames = fr mi → R.locals = lo mi → R.cells = dn_CM Z mi → R.slots = dn_SM Z mi → S.2.1 ≤ dn_CM Z mi → S.2.2 ≤ dn_SM Z mi →
      en_lv ad ls (ML mi) L → dn_P base ad cA D cl S.1 H → va_S A s.heap H locs → W p l e R s m args below meth c H locs S.2.1 S.2.2 (MQ below (dn_Qc base ad cA D cl A S'.1) args s (dn_CM Z mi) (dn_SM Z mi) A) (F0 m pc ls (st.map (en_cv ad))) := by
    intro n mi ihC hMV n0
    induction n0 with
    | zero => intro _ pc L st S S' h; cases h
    | succ n0 ih =>
      intro hn0 pc L st S S' h p e R s m args below meth c H locs ls hx hb hml hr hlocks hnm hown hts hK hNX hbs hRf hRl hRc hRs hS1 hS2 hl hP hS
      obtain ⟨mv1, mv2, mv3, mv4, mv5, mv6, mv7, mv8, mv9⟩ := id hMV
      unfold dn_run at h
      split at h
      · cases h
      · next i mk hget =>
        obtain ⟨hchk, hpf⟩ := mv9 _ _ _ hget
        obtain ⟨hd, ho⟩ := dn_chk_spec hchk
        have hsz : ls.size = ML mi := hl.2.1
        have step : ∀ pc' L' st' S'' ls' H' locs', dn_run G P ML Z tyC n0 mi pc' L' st' S'' = some S' → S''.2.1 ≤ dn_CM Z mi → S''.2.2 ≤ dn_SM Z mi → en_lv ad ls' (ML mi) L' → dn_P base ad cA D cl S''.1 H' → va_S A s.heap H' locs' → W p l e R s m args below meth c H' locs' S''.2.1 S''.2.2 (MQ below (dn_Qc base ad cA D cl A S'.1) args s (dn_CM Z mi) (dn_SM Z mi) A) (F0 m pc' ls' (st'.map (en_cv ad))) :=
          fun pc' L' st' S'' ls' H' locs' h1 h2 h3 h4 h5 h6 => ih (by omega) pc' L' st' S'' S' h1 p e R s m args below meth c H' locs' ls' hx hb hml hr hlocks hnm hown hts hK hNX hbs hRf hRl hRc hRs h2 h3 h4 h5 h6
        refine dn_sim1 hT hx hb hown hts hK (fun _ => hnm) (fun ci f idx e9 hf => hpf idx e9 ci f hf) had hA hbs hchk hRc hRs h hl hP hS hS1 hS2 (fun pc' L' st' S'' ls' H' locs' hk9 hb1 hb2 hl' hP' hS' => step pc' L' st' S'' ls' H' locs' hk9 hb1 hb2 hl' hP' hS') ?_
        rintro (⟨idx, rfl⟩ | rfl)
        · simp only [dn_step] at h
          split at h
          · next y nn hsp =>
            split at h
            · next p0 r =>
              split at h
              · next hsm =>
                obtain ⟨u1, u2, u3⟩ := (hCF0 s hNX).1 _ _ _ _ hsp
                refine W.objInit hx hb hown (hts _ u1) (hts _ u2) (hts _ u3) rfl (by rw [hml]; exact hsz) rfl hd (by rw [hRf]; omega) ?_ (step _ _ _ _ ls H locs h hS1 hS2 hl hP hS)
                have h8 : ((r.map (en_cv ad)).map fun v => v.category).sum ≤ 8 := by rw [en_cat_map]; exact of_decide_eq_true hsm
                show 2 * 0 + ((r.map (en_cv ad)).map fun v => v.category).sum + 12 ≤ R.locals
                rw [hRl]
                omega
              · cases h
            · cases h
          · next q y nn hno hsp =>
            split at h
            · next hc =>
              obtain ⟨c0, c1, c2, c3, c4, c5⟩ := hc
              split at h
              · next p0 as has =>
                split at h
                · next S2 hS2' =>
                  have hq : ¬ q = 0 := by omega
                  obtain ⟨v1, -, -, -, -, v7, -⟩ := (hCF0 s hNX).2 _ _ _ _ _ hsp hq
                  have hone : en_one (Value.ref p0 :: as) = true := by
                    rw [← has]
                    unfold en_one at c3 ⊢
                    rw [List.all_reverse]
                    exact c3
                  have hasl : (Value.ref p0 :: as).length = nn := by rw [← has, List.length_reverse, List.length_take]; omega
                  have hcon := ihC y (.ref p0 :: as) S.1 S2 v1 hone (by omega) n0 (by omega) hS2'
                  rw [← has] at hcon
                  exact dn_call hNm hNX hTg hx hb hml hown hts hK hRf hRl (hCF0 s hNX) hsp hq c1 c2 ⟨p0, as, has⟩ hcon hd hsz hP hS (by rw [hRc]; exact c4) (by rw [hRs]; exact c5) (fun H1 locs1 hP1 hS1' => step _ _ _ _ ls H1 locs1 h c4 c5 hl hP1 hS1')
                · cases h
              · cases h
            · cases h
          · cases h
        · simp only [dn_step] at h
          split at h
          · cases h
            refine W.widen hS1 hS2 ?_
            exact W.vret hx hb hr (fun t ht hW => ⟨rfl, by rw [ht]; exact hP, hS.F ht⟩) hS.2.2 hd hlocks
          · cases h
  intro n
  induction n using Nat.strongRecOn with
  | _ n ihn =>
    intro y as cs S' hMV hone hlen hrun
    obtain ⟨mv1, mv2, mv3, mv4, mv5, mv6, mv7, mv8, mv9⟩ := id hMV
    refine Met.ofW (cc := CD y) (maxL := ML y) (ret := none) mv2 rfl ?_
    intro p e s m args below meth c s₁ B hml hpc
    obtain ⟨rfl, hP, hK, hNX⟩ := hpc
    have hts := atoms_spec (ws := dn_wd ML yN CD y :: TT) B.pre
    have hown : s.vm.findClass (own y) = some m.cls := by rw [← mv3]; exact findClass_of_methodNamed B.named
    rw [lg_entry_eq]
    exact body n y (fun y as cs S' h1 h2 h3 n' hn' h4 => ihn n' hn' y as cs S' h1 h2 h3 h4) hMV n (Nat.le_refl n) 0 (en_ent (ML y) as) [] (cs, 0, 0) S' hrun p e _ s m _ below meth c s.heap [] _ B.exec B.bytes hml B.returns B.notSynchronized (by rw [← mv8]; exact (name_of_methodNamed B.named B.method).1) hown (fun w hw => hts w (List.mem_cons_of_mem _ hw)) hK hNX (by rw [hP.1]; omega) rfl rfl rfl rfl (Nat.zero_le _) (Nat.zero_le _) (en_entry hone hlen) hP va_S.rf
set_option maxHeartbeats 4000000 in
/-- the law's beginning -/
theorem dn_law (hT : dn_TF G Z TT cl tyC own) (hTg : ∀ w ∈ TT, (w.onTables && w.keeps) = true ∨ ∃ ty, w = .arrayClass ty) (had : ∀ k, k < 1000 → ad k = base + k) (hA : ∀ q, base ≤ q → A q)
    (hNm : ∀ u U : State, u.WarmedH U.vm → NX u → NX U) (hCF0 : ∀ U : State, NX U → dn_CF G P ML Z cl TT own yN CD fr lo U) {mi stop : Nat} (hPV : dn_PV G P cl own CD mi) {p : Program} {e : Env} {R : Room} {s : State} {m : MethodId} {args : Array Value} {below : List Frame} {meth : Method} {c : Code} {Q : State → Prop}
    (hx : p.tables.exec = Jvm.exec) (hb : c.code = CD mi) (hml : c.maxLocals = ML mi) (hown : s.vm.findClass (own mi) = some m.cls) (hts : ∀ w ∈ TT, w.before args s = true) (hK : va_K D cl (en_tys cA) s) (hNX : NX s) (hbs : base ≤ s.heap.size) (hRf : R.frames = fr mi) (hRl : R.locals = lo mi) (hfr : 8 ≤ fr mi) (hlo : 200 ≤ lo mi) (hRc : dn_CM Z mi = R.cells) (hRs : dn_SM Z mi = R.slots)
    (hnp : ∀ pc i mk, en_get (P mi) pc = some (i, mk) → ∀ idx, i ≠ .putfield idx) :
    ∀ (n pc : Nat) (L : en_L) (st : List Value) (S : dn_S) (out : en_L × List Value × dn_S), dn_upto G P ML Z tyC mi stop n pc L st S = some out → S.2.1 ≤ dn_CM Z mi → S.2.2 ≤ dn_SM Z mi → ∀ (H : Heap) (locs : List Loc) (ls : Array Slot), en_lv ad ls (ML mi) L → dn_P base ad cA D cl S.1 H → va_S A s.heap H locs →
    (∀ H' locs' ls', en_lv ad ls' (ML mi) out.1 → dn_P base ad cA D cl out.2.2.1 H' → va_S A s.heap H' locs' → W p l e R s m args below meth c H' locs' out.2.2.2.1 out.2.2.2.2 Q (F0 m stop ls' (out.2.1.map (en_cv ad)))) →
    W p l e R s m args below meth c H locs S.2.1 S.2.2 Q (F0 m pc ls (st.map (en_cv ad))) := by
  intro n
  induction n with
  | zero => intro pc L st S out h; cases h
  | succ n ih =>
    intro pc L st S out h hS1 hS2 H locs ls hl hP hS hfin
    unfold dn_upto at h
    split at h
    · next hpc =>
      subst hpc
      cases h
      exact hfin H locs ls hl hP hS
    · split at h
      · cases h
      · next i mk hget =>
        obtain ⟨hchk, hpf⟩ := hPV _ _ _ hget
        obtain ⟨hd, ho⟩ := dn_chk_spec hchk
        have hsz : ls.size = ML mi := hl.2.1
        refine dn_sim1 hT hx hb hown hts hK (fun ⟨idx, z⟩ => absurd z (hnp _ _ _ hget idx)) (fun ci f idx e9 hf => hpf idx e9 ci f hf) had hA hbs hchk hRc.symm hRs.symm h hl hP hS hS1 hS2 (fun pc' L' st' S'' ls' H' locs' hk9 hb1 hb2 hl' hP' hS' => ih pc' L' st' S'' out hk9 hb1 hb2 H' locs' ls' hl' hP' hS' hfin) ?_
        rintro (⟨idx, rfl⟩ | rfl)
        · simp only [dn_step] at h
          split at h
          · next y nn hsp =>
            split at h
            · next p0 r =>
              split at h
              · next hsm =>
                obtain ⟨u1, u2, u3⟩ := (hCF0 s hNX).1 _ _ _ _ hsp
                refine W.objInit hx hb hown (hts _ u1) (hts _ u2) (hts _ u3) rfl (by rw [hml]; exact hsz) rfl hd (by rw [hRf]; omega) ?_ (ih _ _ _ _ out h hS1 hS2 H locs ls hl hP hS hfin)
                have h8 : ((r.map (en_cv ad)).map fun v => v.category).sum ≤ 8 := by rw [en_cat_map]; exact of_decide_eq_true hsm
                show 2 * 0 + ((r.map (en_cv ad)).map fun v => v.category).sum + 12 ≤ R.locals
                rw [hRl]
                omega
              · cases h
            · cases h
          · next q y nn hno hsp =>
            split at h
            · next hc =>
              obtain ⟨c0, c1, c2, c3, c4, c5⟩ := hc
              split at h
              · next p0 as has =>
                split at h
                · next S2 hS2' =>
                  have hq : ¬ q = 0 := by omega
                  obtain ⟨v1, -, -, -, -, v7, -⟩ := (hCF0 s hNX).2 _ _ _ _ _ hsp hq
                  have hone : en_one (Value.ref p0 :: as) = true := by
                    rw [← has]
                    unfold en_one at c3 ⊢
                    rw [List.all_reverse]
                    exact c3
                  have hasl : (Value.ref p0 :: as).length = nn := by rw [← has, List.length_reverse, List.length_take]; omega
                  have hcon := dn_main (l := l) (cA := cA) (D := D) hT hTg had hA hNm hCF0 2000 y (.ref p0 :: as) S.1 S2 v1 hone (by omega) hS2'
                  rw [← has] at hcon
                  exact dn_call hNm hNX hTg hx hb hml hown hts hK hRf hRl (hCF0 s hNX) hsp hq c1 c2 ⟨p0, as, has⟩ hcon hd hsz hP hS (by rw [← hRc]; exact c4) (by rw [← hRs]; exact c5) (fun H1 locs1 hP1 hS1' => ih _ _ _ _ out h c4 c5 H1 locs1 ls hl hP1 hS1' hfin)
                · cases h
              · cases h
            · cases h
          · cases h
        · simp only [dn_step] at h
          split at h <;> cases h
end DX
