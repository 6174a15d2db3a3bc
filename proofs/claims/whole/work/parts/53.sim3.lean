/-! THE ENGINE'S METHODS: contracts of all of them at once, by the number of steps. -/
section EM
variable (l : Launch) (G : en_G) (P : en_P) (ML : Nat → Nat) (HD : en_H) (ad : Nat → Nat) (cA : Nat → ClassId) (D : va_G) (cl : List vw_C) (A : Nat → Prop) (TT : List Cond) (tyC : Nat → Nat → FieldType) (own : Nat → String) (yN : Nat → MethodName) (CD : Nat → ByteArray) (hh : Nat → List (Nat × Nat × Nat × Nat)) (XN : Nat → String) (fr lo : Nat → Nat) (FX : State → Heap → Prop)
/-- the world of a store, in a state -/
def en_B (σ : en_S) (U : State) : Prop := va_P D cl (en_ws G ad cA σ) U.heap ∧ va_K D cl (en_tys cA) U ∧ FX U U.heap
def en_Qc (o : en_O) : Array Value → State → Outcome → State → Prop := fun _ st oc t => (∃ v, o.1 = .inl v ∧ oc = .returned (v.map (en_cv ad))) ∧ va_P D cl (en_ws G ad cA o.2) t.heap ∧ va_F A st t
def en_Xc (o : en_O) : String → State → State → Prop := fun E st t => (∃ x, o.1 = .inr x ∧ E = XN x) ∧ va_P D cl (en_ws G ad cA o.2) t.heap ∧ va_F A st t
def en_mc (x : Nat) (o : en_O) : Nat := match o.1 with
  | .inl _ => x
  | .inr _ => x + 1
def en_rm (y x : Nat) (o : en_O) : Room := { frames := fr y, cells := en_mc x o, slots := 6 * en_mc x o, locals := lo y }
def en_wd (y : Nat) : Cond := match hh y with
  | [] => .code (yN y) (CD y) (ML y) (en_RT G y)
  | h :: r => .codeWith (yN y) (CD y) (ML y) (en_RT G y) (h :: r)
/-- the contract of a call -/
def en_Con (y x : Nat) (as : List Value) (σ : en_S) (o : en_O) : Prop :=
  vx_Met l (yN y) (en_wd G ML yN CD hh y :: TT) (en_rm fr lo y x o) (va_Pc (as.map (en_cv ad)) (en_B G ad cA D cl FX σ)) (en_Qc G ad cA D cl A o) (en_Xc G ad cA D cl A XN o) (en_mc x o) (6 * en_mc x o) A
/-- what holds within a method -/
def en_cx (mi : Nat) (p : Program) (R : Room) (s : State) (m : MethodId) (args : Array Value) (meth : Method) (c : Code) : Prop :=
  p.tables.exec = Jvm.exec ∧ c.code = CD mi ∧ meth.sig.returnType = en_RT G mi ∧ c.maxLocals = ML mi ∧ meth.locks = false ∧ s.vm.findClass (own mi) = some m.cls ∧ (∀ w ∈ TT, w.before args s = true) ∧ va_K D cl (en_tys cA) s ∧ FX s s.heap ∧ c.exceptionTable.toList = tableOf (hh mi) ∧ R.frames = fr mi ∧ R.locals = lo mi
/-- the tables, of the methods -/
def en_MV (y : Nat) : Prop := en_wd G ML yN CD hh y ∈ TT ∧ plainName (yN y).cls = true ∧ (yN y).cls = own y ∧ Cond.initialized (own y) ∈ TT ∧ ((yN y).cls ≠ "java/lang/invoke/MethodHandle" ∧ (yN y).cls ≠ "java/lang/invoke/VarHandle") ∧ 8 ≤ fr y ∧ 200 ≤ lo y ∧
  ∀ pc i m, en_get (P y) pc = some (i, m) → en_chk (CD y) pc i = true ∧ ∀ bs, m = some bs → bs.length = ML y
def en_CF (s : State) : Prop :=
  (∀ mi idx y n ci, en_CL G mi idx = some (0, y, n, ci) → en_MV G P ML TT own yN CD hh fr lo y ∧ hh y = [] ∧ Cond.methodLink (own mi) idx (yN y) ∈ TT ∧ Cond.instanceMethod (yN y) ∈ TT ∧ Cond.selects (own y) (yN y) (yN y) ∈ TT ∧ (parseMethodDescriptor (yN y).desc).map (fun d => d.parameters.length) = some (n - 1) ∧ 1 ≤ n ∧ n ≤ ML y ∧ ci < 20 ∧ (∃ T N, cl[ci]? = some (own y, T, N)) ∧ fr y + 1 ≤ fr mi ∧ 8 + (ML y + 11) + lo y ≤ lo mi) ∧
  (∀ mi idx y n ci, en_CL G mi idx = some (1, y, n, ci) → en_MV G P ML TT own yN CD hh fr lo y ∧ hh y = [] ∧ (Cond.methodLink (own mi) idx (yN y) ∈ TT ∨ ∃ host, va_Nw (Cond.methodLinkNest (own mi) idx (yN y) host) s) ∧ Cond.static (yN y) ∈ TT ∧ (parseMethodDescriptor (yN y).desc).map (fun d => d.parameters.length) = some n ∧ n ≤ ML y ∧ fr y + 1 ≤ fr mi ∧ 8 + (ML y + 11) + lo y ≤ lo mi) ∧
  (∀ mi idx y n ci, en_CL G mi idx = some (2, y, n, ci) → Cond.methodLink (own mi) idx Lib.Math.max.name ∈ TT ∧ Cond.static Lib.Math.max.name ∈ TT ∧ Cond.initialized "java/lang/Math" ∈ TT ∧ Cond.code Lib.Math.max.name Lib.Math.max.code 2 (some .int) ∈ TT) ∧
  (∀ mi idx y n ci, en_CL G mi idx = some (3, y, n, ci) → Cond.methodLink (own mi) idx Lib.Math.min.name ∈ TT ∧ Cond.static Lib.Math.min.name ∈ TT ∧ Cond.initialized "java/lang/Math" ∈ TT ∧ Cond.code Lib.Math.min.name Lib.Math.min.code 2 (some .int) ∈ TT) ∧
  (∀ mi idx y n ci, en_CL G mi idx = some (4, y, n, ci) → Cond.methodLink (own mi) idx arraycopyName ∈ TT ∧ Cond.native arraycopyName ∈ TT ∧ Cond.static arraycopyName ∈ TT ∧ Cond.initialized "java/lang/System" ∈ TT)
end EM
theorem en_ent_len {n : Nat} {as : List Value} (h : as.length ≤ n) : (en_ent n as).length = n := by
  simp [en_ent]
  omega
theorem en_one_sl {as : List Value} (ad : Nat → Nat) (h : en_one as = true) : lg_sl (as.map (en_cv ad)) = as.map (fun v => Slot.val (en_cv ad v)) := by
  induction as with
  | nil => rfl
  | cons v r ih =>
    unfold en_one at h
    simp only [List.all_cons, Bool.and_eq_true, decide_eq_true_eq] at h
    have h2 : lg_sl (r.map (en_cv ad)) = r.map (fun v => Slot.val (en_cv ad v)) := ih h.2
    have h3 : ¬ (en_cv ad v).category = 2 := by rw [en_cv_cat]; omega
    unfold lg_sl at h2 ⊢
    rw [List.map_cons, List.flatMap_cons, h2, if_neg h3]
    rfl
/-- the locals at a method's entry -/
theorem en_entry {ad : Nat → Nat} {as : List Value} {n : Nat} (h1 : en_one as = true) (hn : as.length ≤ n) : en_lv ad ((lg_sl (as.map (en_cv ad)) ++ List.replicate (n - (lg_sl (as.map (en_cv ad))).length) Slot.unset).toArray) n (en_ent n as) := by
  have hsl := en_one_sl ad h1
  have hlen : (lg_sl (as.map (en_cv ad))).length = as.length := by rw [hsl, List.length_map]
  have he := lv_entry (as.map (en_cv ad)) (n := n) (by rw [hlen]; exact hn)
  refine ⟨en_ent_len hn, he.1, he.2.1, fun i v hi => ?_⟩
  unfold en_ent at hi
  by_cases hl : i < as.length
  · rw [List.getElem?_append_left (by rw [List.length_map]; exact hl), List.getElem?_map] at hi
    rw [List.getElem?_toArray, List.getElem?_append_left (by rw [hlen]; exact hl), hsl, List.getElem?_map]
    cases ha : as[i]? with
    | none => rw [ha] at hi; cases hi
    | some w =>
      rw [ha] at hi
      cases hi
      rfl
  · rw [List.getElem?_append_right (by rw [List.length_map]; omega), List.length_map, List.getElem?_replicate] at hi
    split at hi <;> cases hi
section EA
variable {l : Launch} {G : en_G} {P : en_P} {ML : Nat → Nat} {HD : en_H} {ad : Nat → Nat} {cA : Nat → ClassId} {D : va_G} {cl : List vw_C} {A : Nat → Prop} {TT : List Cond} {tyC : Nat → Nat → FieldType} {own : Nat → String} {yN : Nat → MethodName} {CD : Nat → ByteArray} {hh : Nat → List (Nat × Nat × Nat × Nat)} {XN : Nat → String} {fr lo : Nat → Nat} {FX : State → Heap → Prop}
variable {p : Program} {e : Env} {R : Room} {s : State} {m : MethodId} {args : Array Value} {below : List Frame} {meth : Method} {c : Code} {H : Heap} {locs : List Loc} {cells slots : Nat} {Q : State → Prop}
/-- behind a call, whatever came back -/
theorem en_after {mc ms pc : Nat} {ls : Array Slot} {st0 rest : List Value} {o : en_O} {a : Array Value}
    (hr : vx_Run p l e R s m args below meth c H locs cells slots mc ms (F0 m pc ls st0) rest (en_Qc G ad cA D cl A o a) (en_Xc G ad cA D cl A XN o) A) (hS : va_S A s.heap H locs)
    (kr : ∀ v H1 locs1, o.1 = .inl v → va_P D cl (en_ws G ad cA o.2) H1 → va_S A s.heap H1 locs1 → W p l e R s m args below meth c H1 locs1 (cells + mc) (slots + ms) Q (F0 m (pc + 3) ls ((v.map (en_cv ad)).toList ++ rest)))
    (kt : ∀ x q ce H1 locs1, o.1 = .inr x → va_P D cl (en_ws G ad cA o.2) H1 → va_S A s.heap H1 locs1 → H1[q]? = some ce → ce.vm = .none → s.vm.findClass (XN x) = some ce.cls → vx_W p l e R s m args below meth c H1 locs1 (cells + mc) (slots + ms) Q (F0 m pc ls rest) q) :
    W p l e R s m args below meth c H locs cells slots Q (F0 m pc ls st0) := by
  intro T hT X
  rcases hr T hT X with ⟨v, st₀, t, T', L, h0, X', hL, e1, e2, ⟨⟨w, hw, hv⟩, hB, hF⟩, st⟩ | ⟨q, st₀, t, T', L, E, ce, h0, X', hL, e1, e2, ⟨⟨x, hx, rfl⟩, hB, hF⟩, hce, hcv, hcl, st⟩
  · obtain ⟨k1, k2, k3⟩ := vx_keep (A1 := A) (free := A) h0 e1 hS (fun _ _ h => h) (fun _ h => h) hL hF
    cases hv
    obtain ⟨t2, a1, b1⟩ := kr w T'.heap (locs ++ L) hw (by rw [e1]; exact hB) k3 T' rfl X'
    exact ⟨t2, st t2 a1, b1⟩
  · obtain ⟨k1, k2, k3⟩ := vx_keep (A1 := A) (free := A) h0 e1 hS (fun _ _ h => h) (fun _ h => h) hL hF
    obtain ⟨t2, a1, b1⟩ := kt x q ce T'.heap (locs ++ L) hx (by rw [e1]; exact hB) k3 (by rw [e1]; exact hce) hcv hcl T' rfl X'
    exact ⟨t2, st.trans a1, b1⟩
end EA
