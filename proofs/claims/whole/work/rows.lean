section
/-! ===== BEGIN words of one list among another's, by their places ===== -/
theorem goodIn_r {big : List Cond} (ws : List Cond) (ps : List Nat) (hp : ws = ps.filterMap (fun i => big[i]?)) (h : ws.all goodWord = true) : GoodIn big ws := by
  intro w hw
  have h1 := List.all_eq_true.mp h w hw
  rw [hp] at hw
  obtain ⟨i, -, hi⟩ := List.mem_filterMap.mp hw
  have hm : w ∈ big := by first | exact List.mem_of_getElem? hi | exact List.getElem?_mem hi
  exact ⟨hm, good_of_word h1⟩
theorem goodIn_app {big a b : List Cond} (ha : GoodIn big a) (hb : GoodIn big b) : GoodIn big (a ++ b) := fun w h => (List.mem_append.mp h).elim (ha w) (hb w)
theorem goodIn_ca {big a b : List Cond} {c : Cond} (ha : GoodIn big (c :: a)) (hb : GoodIn big b) : GoodIn big (c :: (a ++ b)) := fun w h => (List.mem_cons.mp h).elim (fun e => ha w (List.mem_cons.mpr (Or.inl e))) (fun h => (List.mem_append.mp h).elim (fun h => ha w (List.mem_cons.mpr (Or.inr h))) (hb w))
theorem goodIn_sub {big ws : List Cond} (hm : ∀ w ∈ ws, w ∈ big) (h : ws.all goodWord = true) : GoodIn big ws := fun w hw => ⟨hm w hw, good_of_word (List.all_eq_true.mp h w hw)⟩
/-! ===== END ===== -/
/-! ===== BEGIN exceptions that leave a method, and their catching by the caller (launches without stack traces) ===== -/
section VXA
/-! The laws vx_back, vx_callV, vx_callS, vx_callSW, vx_throw0, vx_throwS follow proofs of the library, with one case more: JvmDerived/Free/Laws.lean (Back.of_free), Shelf42/LK1.lean (callV, callS), Shelf/KitTraced.lean (throwNew0V, throwNewS). -/
/-- where a method has thrown q: the class by its name, the cell, what was written, the world -/
def vx_T (XC : String → State → State → Prop) (st : State) (q : Addr) (t : State) (mc ms : Nat) (free : Addr → Prop) : Prop :=
  ∃ (E : String) (ce : Cell) (L : List Loc), XC E st t ∧ t.heap[q]? = some ce ∧ ce.vm = .none ∧ st.vm.findClass E = some ce.cls ∧ st.WarmedH t.vm ∧ st.sameButNew ({ t with vm := st.vm } : State) L mc ms ∧ ∀ z ∈ L, free z.base
def vx_Q (Qc : Array Value → State → Outcome → State → Prop) (XC : String → State → State → Prop) (mc ms : Nat) (free : Addr → Prop) : Array Value → State → Outcome → State → Prop := fun a st o t =>
  (Qc a st o t ∧ ∃ L, FrameEnd st o t L mc ms ∧ ∀ q ∈ L, free q.base) ∨ ∃ q, o = .threw q ∧ vx_T XC st q t mc ms free
/-- a callee that returns or throws -/
def vx_Met (l : Launch) (y : MethodName) (ws : List Cond) (rm : Room) (Pc : Array Value → State → Prop) (Qc : Array Value → State → Outcome → State → Prop) (XC : String → State → State → Prop) (mc ms : Nat) (free : Addr → Prop) : Prop :=
  MetFree l y (headSpec ws rm) Pc (fun _ _ _ _ _ => True) (vx_Q Qc XC mc ms free)
def vx_Post (XC : String → State → State → Prop) (mc ms : Nat) (free : Addr → Prop) : Pt → Array Value → Addr → Pt → Prop := fun A a q B =>
  ∃ (g : JFrame) (mk : MethodId) (t : State) (L : List Loc) (E : String) (ce : Cell), B.U.heap = t.heap ∧ B.U.vm = t.vm ∧ XC E (A.U.calling g mk a) t ∧ t.heap[q]? = some ce ∧ ce.vm = .none ∧ A.U.vm.findClass E = some ce.cls ∧ B.locs = A.locs ++ L ∧ (∀ z ∈ L, free z.base) ∧ B.cells = A.cells + mc ∧ B.slots = A.slots + ms
def vx_Back (l : Launch) (R : Room) (p : Program) (e : Env) (below : List Frame) (s : State) (sargs : Array Value) (y : MethodName) (len W9 : Nat)
    (Pre : Pt → Array Value → Prop) (Post : Pt → Array Value → Option Value → Pt → Prop) (PostX : Pt → Array Value → Addr → Pt → Prop) : Prop :=
  ∀ (m : MethodId) (meth : Method) (c : Code) (A : Pt) (g : JFrame) (ig : Instr) (mk : MethodId) (a : Array Value),
    Stand p l e R s m sargs below meth c A.U A.locs A.cells A.slots → g.method = m → g.locals.size = c.maxLocals → decode c.code g.pc = .ok (ig, len) →
    2 * g.monitorRoom + (g.stack.map fun v => v.category).sum ≤ W9 → A.U.methodNamed? y = some mk → Pre A a →
    (∃ (v : Option Value) (B : Pt), Stand p l e R s m sargs below meth c B.U B.locs B.cells B.slots ∧ Post A a v B ∧
      Steps p.tables e below (doInvoke e (A.U.setTop g) [] mk a).1 (B.U.setTop { g with pc := g.pc + len, stack := v.toList ++ g.stack })) ∨
    (∃ (q : Addr) (B : Pt), Stand p l e R s m sargs below meth c B.U B.locs B.cells B.slots ∧ PostX A a q B ∧
      Steps p.tables e below (doInvoke e (A.U.setTop g) [] mk a).1 ((B.U.setTop g).pushFrame (.throwing q)))
section Payer
variable {l : Launch} {R : Room} {p : Program} {e : Env} {below : List Frame} {s : State} {sargs : Array Value} {y : MethodName} {len W9 : Nat}
theorem vx_back {ws : List Cond} {rm : Room} {Pc : Array Value → State → Prop} {Qc : Array Value → State → Outcome → State → Prop} {XC : String → State → State → Prop} {mc ms : Nat} {free : Addr → Prop} {bytes : ByteArray} {maxL : Nat} {ret : Option FieldType}
    (hM : vx_Met l y ws rm Pc Qc XC mc ms free) (hblind : FrameBlind Pc) (hrc : rm.cells = mc) (hrs : rm.slots = ms)
    (hframes : rm.frames + 1 ≤ R.frames) (hlocals : W9 + (maxL + 11) + rm.locals ≤ R.locals)
    (hws : ∀ w ∈ ws, ∀ a' U, s.WarmedH U.vm → w.before a' U = true) (hcode : Cond.code y bytes maxL ret ∈ ws) (hinit : ∀ a' U, s.WarmedH U.vm → (Cond.initialized y.cls).before a' U = true) :
    vx_Back l R p e below s sargs y len W9 (PreOf R mc ms Pc) (PostOf Qc mc ms free) (vx_Post XC mc ms free) := by
  intro m meth c A g ig mk a X hg hsize hdg hW hn hp
  have h1 : (headSpec ws rm).pre.before a A.U = true := atoms_intro fun w hw => hws w hw _ _ X.warmed
  have h2 : (Cond.code y bytes maxL ret).before a A.U = true := hws _ hcode _ _ X.warmed
  have h3 : (Cond.initialized y.cls).before a A.U = true := hinit _ _ X.warmed
  have h4 : A.cells + (headSpec ws rm).room.cells ≤ R.cells := by rw [show (headSpec ws rm).room.cells = mc from hrc]; exact hp.1
  have h5 : A.slots + (headSpec ws rm).room.slots ≤ R.slots := by rw [show (headSpec ws rm).room.slots = ms from hrs]; exact hp.2.1
  have hPc : Pc a (A.U.calling g mk a) := hblind _ _ _ _ hp.2.2
  obtain ⟨U, Ls, c0, s0⟩ := A
  dsimp only [Pt.U, Pt.locs, Pt.cells, Pt.slots] at h1 h2 h3 h4 h5 X hn hPc ⊢
  obtain ⟨methY, cY, hmY, hcY, -, hlY, -, -, -, -⟩ := Cond.code_spec hn h2
  obtain ⟨kY, hkY, -⟩ := className_of_methodNamed hn
  have hinitY : kY.init = .initialized := Cond.initialized_spec (findClass_of_methodNamed hn) hkY h3
  have h : At U g.method c below := by rw [hg]; exact X.here
  have hlocals9 : W9 + (maxL + 11) + (headSpec ws rm).room.locals ≤ R.locals := hlocals
  have happ : (headSpec ws rm).appliesLoose y e.platform (U.calling g mk a) = true :=
    Spec.appliesLoose_calling (g := g) h hdg hn hkY hinitY
      (X.room_calling (g := g) (R' := (headSpec ws rm).room) hsize hmY hcY hframes (by rw [hlY]; omega) h4 h5) h1
  obtain ⟨mid, hmid⟩ := h.above
  have hfr : (U.setTop g).frames = (.java g :: mid) ++ below := by rw [State.frames_setTop' g h.top, hmid]; rfl
  obtain ⟨o, s₂, hsteps, -, hend, hq⟩ := Steps.callFree hM p X.admits X.cas X.clock (acts := []) hfr happ hPc trivial
  have hq' : vx_Q Qc XC mc ms free a (U.calling g mk a) o s₂ := hq
  rw [State.frames_setTop' g h.top] at hend
  obtain ⟨g₀, hg0⟩ := Option.isSome_iff_exists.mp h.top
  obtain ⟨r, hr⟩ := State.topJava?_eq_some.mp hg0
  have hr' : (({ U with heap := s₂.heap, slotsUsed := s₂.slotsUsed } : State).setVm s₂.vm).frames = .java g₀ :: r := hr
  rcases hq' with ⟨hqc, L, hfe, hL⟩ | ⟨q, rfl, E, ce, L, hx, hce, hcv, hcl, hW₂, hsm, hL⟩
  · obtain ⟨⟨v, rfl⟩, hW₂, e2, q2, q3, q4, q5, q6⟩ := id hfe
    have e3 : s₂ = ({ (U.calling g mk a).setFrames s₂.frames with heap := s₂.heap, slotsUsed := s₂.slotsUsed } : State).setVm s₂.vm := by
      have : s₂ = ({ s₂ with vm := (U.calling g mk a).vm } : State).setVm s₂.vm := rfl
      rw [e2] at this
      exact this
    obtain ⟨c₂, i₂, len₂, hc₂, hd₂, hf₂⟩ := hend
    have hW' : U.WarmedH s₂.vm := hW₂
    have hcc : c₂ = c := by
      have h1 : s₂.code? g.method = U.code? g.method := by
        rw [State.code?_eq, State.code?_eq, hW'.alike.method?]
      exact Option.some.inj (hc₂.symm.trans (h1.trans h.code))
    subst hcc
    have hlen : len₂ = len := by rw [hdg] at hd₂; cases hd₂; rfl
    subst hlen
    have hs₂ : s₂ = (({ U with heap := s₂.heap, slotsUsed := s₂.slotsUsed } : State).setVm s₂.vm).setTop { g with pc := g.pc + len₂, stack := v.toList ++ g.stack } := by
      refine e3.trans ?_
      rw [hf₂, State.calling_eq h.top, State.setFrames_setFrames, State.setTop_of_frames _ hr', hr]
      rfl
    have hsame : U.sameButNew ({ U with heap := s₂.heap, slotsUsed := s₂.slotsUsed } : State) L mc ms := by
      refine ⟨?_, q2, q3, q4, q5, q6⟩
      obtain ⟨t, ht, -⟩ := State.frames_cons hr
      show ({ U with heap := s₂.heap, slotsUsed := s₂.slotsUsed } : State) = { U.setFrames U.frames with heap := s₂.heap, slotsUsed := s₂.slotsUsed }
      rw [State.setFrames_self ht]
    subst hg
    refine Or.inl ⟨v, ⟨(({ U with heap := s₂.heap, slotsUsed := s₂.slotsUsed } : State).setVm s₂.vm), Ls ++ L, c0 + mc, s0 + ms⟩,
      ⟨X.admits, X.cas, X.clock, X.frames, X.room, X.hears, X.method, X.code, (X.here.setHeapUsed s₂.heap s₂.slotsUsed).setVm hW'.alike, X.tail, State.WarmedH.trans X.warmed hW', X.limits, X.bytes, X.same.trans (hsame.setVm s.vm)⟩,
      ⟨g, mk, s₂, L, rfl, rfl, hqc, rfl, hL, rfl, rfl⟩, ?_⟩
    show Steps p.tables e below _ ((({ U with heap := s₂.heap, slotsUsed := s₂.slotsUsed } : State).setVm s₂.vm).setTop { g with pc := g.pc + len₂, stack := v.toList ++ g.stack })
    rw [← hs₂]
    exact hsteps
  · obtain ⟨e2, q2, q3, q4, q5, q6⟩ := id hsm
    have e3 : s₂ = ({ (U.calling g mk a).setFrames s₂.frames with heap := s₂.heap, slotsUsed := s₂.slotsUsed } : State).setVm s₂.vm := by
      have : s₂ = ({ s₂ with vm := (U.calling g mk a).vm } : State).setVm s₂.vm := rfl
      rw [e2] at this
      exact this
    have hf₂ : s₂.frames = .throwing q :: .java g :: U.frames.tail := hend
    have hW' : U.WarmedH s₂.vm := hW₂
    have hs₂ : s₂ = ((({ U with heap := s₂.heap, slotsUsed := s₂.slotsUsed } : State).setVm s₂.vm).setTop g).pushFrame (.throwing q) := by
      refine e3.trans ?_
      rw [hf₂, State.calling_eq h.top, State.setFrames_setFrames, State.pushFrame, State.frames_setTop _ hr', State.setTop_of_frames _ hr', State.setFrames_setFrames, hr]
      rfl
    have hsame : U.sameButNew ({ U with heap := s₂.heap, slotsUsed := s₂.slotsUsed } : State) L mc ms := by
      refine ⟨?_, q2, q3, q4, q5, q6⟩
      obtain ⟨t, ht, -⟩ := State.frames_cons hr
      show ({ U with heap := s₂.heap, slotsUsed := s₂.slotsUsed } : State) = { U.setFrames U.frames with heap := s₂.heap, slotsUsed := s₂.slotsUsed }
      rw [State.setFrames_self ht]
    subst hg
    refine Or.inr ⟨q, ⟨(({ U with heap := s₂.heap, slotsUsed := s₂.slotsUsed } : State).setVm s₂.vm), Ls ++ L, c0 + mc, s0 + ms⟩,
      ⟨X.admits, X.cas, X.clock, X.frames, X.room, X.hears, X.method, X.code, (X.here.setHeapUsed s₂.heap s₂.slotsUsed).setVm hW'.alike, X.tail, State.WarmedH.trans X.warmed hW', X.limits, X.bytes, X.same.trans (hsame.setVm s.vm)⟩,
      ⟨g, mk, s₂, L, E, ce, rfl, rfl, hx, hce, hcv, hcl, rfl, hL, rfl, rfl⟩, ?_⟩
    show Steps p.tables e below _ (((({ U with heap := s₂.heap, slotsUsed := s₂.slotsUsed } : State).setVm s₂.vm).setTop g).pushFrame (.throwing q))
    rw [← hs₂]
    exact hsteps
end Payer
section Calls
variable {p : Program} {l : Launch} {e : Env} {R : Room} {s : State} {m : MethodId} {args : Array Value} {below : List Frame} {meth : Method} {c : Code} {T : State} {locs : List Loc} {cells slots : Nat}
theorem vx_callV (X : Stand p l e R s m args below meth c T locs cells slots) (hexec : p.tables.exec = Jvm.exec) {own C : String} {index : Nat} {y : MethodName} {bytes : ByteArray} {maxL : Nat} {ret : Option FieldType}
    (hown : s.vm.findClass own = some m.cls) (hlink : (Cond.methodLink own index y).before args s = true) (hinst : (Cond.instanceMethod y).before args s = true) (hsel : (Cond.selects C y y).before args s = true)
    (hcode : (Cond.code y bytes maxL ret).before args s = true) (hy : y.cls ≠ "java/lang/invoke/MethodHandle" ∧ y.cls ≠ "java/lang/invoke/VarHandle")
    {W9 : Nat} {Pre : Pt → Array Value → Prop} {Post : Pt → Array Value → Option Value → Pt → Prop} {PostX : Pt → Array Value → Addr → Pt → Prop} (hK : vx_Back l R p e below s args y 3 W9 Pre Post PostX)
    {b : Addr} {cellB : Cell} (hcell : T.heap[b]? = some cellB) (hobj : cellB.vm.isStatics = false) (hcls : s.vm.findClass C = some cellB.cls)
    {g : JFrame} (hg : g.method = m) (hsize : g.locals.size = c.maxLocals) {argsL rest : List Value} (hlen : ∀ sig, parseMethodDescriptor y.desc = some sig → argsL.length = sig.parameters.length)
    (hstack : g.stack = argsL.reverse ++ .ref b :: rest) (hW : 2 * g.monitorRoom + (rest.map fun v => v.category).sum ≤ W9) (hdg : decode c.code g.pc = .ok (.invokevirtual index, 3))
    (hpre : ∀ vm₁, s.WarmedH vm₁ → Pre ⟨T.setVm vm₁, locs, cells, slots⟩ (Value.ref b :: argsL).toArray) :
    (∃ (v : Option Value) (vm₁ : Vm) (B : Pt), s.WarmedH vm₁ ∧ Stand p l e R s m args below meth c B.U B.locs B.cells B.slots ∧ Post ⟨T.setVm vm₁, locs, cells, slots⟩ (Value.ref b :: argsL).toArray v B ∧
      ∀ target, Steps p.tables e below (B.U.setTop { g with pc := g.pc + 3, stack := v.toList ++ rest }) target → Steps p.tables e below (T.setTop g) target) ∨
    (∃ (q : Addr) (vm₁ : Vm) (B : Pt), s.WarmedH vm₁ ∧ Stand p l e R s m args below meth c B.U B.locs B.cells B.slots ∧ PostX ⟨T.setVm vm₁, locs, cells, slots⟩ (Value.ref b :: argsL).toArray q B ∧
      Steps p.tables e below (T.setTop g) ((B.U.setTop { g with stack := rest }).pushFrame (.throwing q))) := by
  obtain ⟨mk, methM, hnamed, hmethM, hstM, habM⟩ := Cond.instanceMethod_spec hinst
  obtain ⟨methM', cM, hmethM', -, -, -, -, -, -, hsigM⟩ := Cond.code_spec hnamed hcode
  cases hmethM.symm.trans hmethM'
  obtain ⟨c2, r2, m2, q1, q2, q3, q4, kP, hkP, hkPi⟩ := Cond.selects_spec hsel
  cases hcls.symm.trans q1
  cases (State.methodFound?_of_named hnamed hy).symm.trans q2
  cases hnamed.symm.trans q3
  have hselP : selectMethod e.platform s.vm cellB.cls mk = .method mk := by rw [Launch.admits_selectMethod X.admits]; exact q4
  obtain ⟨vm₁, X₁, hstep₁⟩ := X.invokevirtual hexec hown hlink hnamed hmethM hstM hkP hkPi hy (a := b) (cell := cellB) hcell
    (fun z h => by rw [h] at hobj; cases hobj) hselP hmethM habM hkP hkPi (g := g) hg (argsL := argsL) (rest := rest) (hlen _ hsigM) hstack hdg
  rcases hK m meth c ⟨T.setVm vm₁, locs, cells, slots⟩ { g with stack := rest } (.invokevirtual index) mk (Value.ref b :: argsL).toArray X₁ hg hsize hdg hW (X₁.named hnamed) (hpre vm₁ X₁.warmed) with ⟨v, B, X', hpost, hsteps⟩ | ⟨q, B, X', hpost, hsteps⟩
  · exact Or.inl ⟨v, vm₁, B, X₁.warmed, X', hpost, fun target h => hstep₁ _ fun acts => by rw [doInvoke_state]; exact hsteps.trans h⟩
  · exact Or.inr ⟨q, vm₁, B, X₁.warmed, X', hpost, hstep₁ _ fun acts => by rw [doInvoke_state]; exact hsteps⟩
theorem vx_callS (X : Stand p l e R s m args below meth c T locs cells slots) (hexec : p.tables.exec = Jvm.exec) {own : String} {index : Nat} {y : MethodName} {bytes : ByteArray} {maxL : Nat} {ret : Option FieldType}
    (hown : s.vm.findClass own = some m.cls) (hlink : (Cond.methodLink own index y).before args s = true) (hstat : (Cond.static y).before args s = true) (hinit : (Cond.initialized y.cls).before args s = true)
    (hcode : (Cond.code y bytes maxL ret).before args s = true) (hy : y.cls ≠ "java/lang/invoke/MethodHandle" ∧ y.cls ≠ "java/lang/invoke/VarHandle")
    {W9 : Nat} {Pre : Pt → Array Value → Prop} {Post : Pt → Array Value → Option Value → Pt → Prop} {PostX : Pt → Array Value → Addr → Pt → Prop} (hK : vx_Back l R p e below s args y 3 W9 Pre Post PostX)
    {g : JFrame} (hg : g.method = m) (hsize : g.locals.size = c.maxLocals) {argsL rest : List Value} (hlen : ∀ sig, parseMethodDescriptor y.desc = some sig → argsL.length = sig.parameters.length)
    (hstack : g.stack = argsL.reverse ++ rest) (hW : 2 * g.monitorRoom + (rest.map fun v => v.category).sum ≤ W9) (hdg : decode c.code g.pc = .ok (.invokestatic index, 3))
    (hpre : ∀ vm₁, s.WarmedH vm₁ → Pre ⟨T.setVm vm₁, locs, cells, slots⟩ argsL.toArray) :
    (∃ (v : Option Value) (vm₁ : Vm) (B : Pt), s.WarmedH vm₁ ∧ Stand p l e R s m args below meth c B.U B.locs B.cells B.slots ∧ Post ⟨T.setVm vm₁, locs, cells, slots⟩ argsL.toArray v B ∧
      ∀ target, Steps p.tables e below (B.U.setTop { g with pc := g.pc + 3, stack := v.toList ++ rest }) target → Steps p.tables e below (T.setTop g) target) ∨
    (∃ (q : Addr) (vm₁ : Vm) (B : Pt), s.WarmedH vm₁ ∧ Stand p l e R s m args below meth c B.U B.locs B.cells B.slots ∧ PostX ⟨T.setVm vm₁, locs, cells, slots⟩ argsL.toArray q B ∧
      Steps p.tables e below (T.setTop g) ((B.U.setTop { g with stack := rest }).pushFrame (.throwing q))) := by
  obtain ⟨mk, hnamed⟩ := Cond.code_named hcode
  obtain ⟨methM, cM, hmethM, -, -, -, -, -, -, hsigM⟩ := Cond.code_spec hnamed hcode
  have hstatic : methM.isStatic = true := Cond.static_spec hnamed hmethM hstat
  obtain ⟨kP, hkP, -⟩ := className_of_methodNamed hnamed
  have hinitP : kP.init = .initialized := Cond.initialized_spec (findClass_of_methodNamed hnamed) hkP hinit
  obtain ⟨vm₁, X₁, hstep₁⟩ := X.invokestatic hexec hown hlink hnamed hmethM hstatic hkP hinitP hy (g := g) hg (argsL := argsL) (rest := rest) (hlen _ hsigM) hstack hdg
  rcases hK m meth c ⟨T.setVm vm₁, locs, cells, slots⟩ { g with stack := rest } (.invokestatic index) mk argsL.toArray X₁ hg hsize hdg hW (X₁.named hnamed) (hpre vm₁ X₁.warmed) with ⟨v, B, X', hpost, hsteps⟩ | ⟨q, B, X', hpost, hsteps⟩
  · exact Or.inl ⟨v, vm₁, B, X₁.warmed, X', hpost, fun target h => hstep₁ _ fun acts => by rw [doInvoke_state]; exact hsteps.trans h⟩
  · exact Or.inr ⟨q, vm₁, B, X₁.warmed, X', hpost, hstep₁ _ fun acts => by rw [doInvoke_state]; exact hsteps⟩
end Calls
theorem vx_cls {s : State} {T : State} {vm₁ : Vm} {E : String} {k : ClassId} (hW : s.WarmedH vm₁) (h : (T.setVm vm₁).vm.findClass E = some k) : s.vm.findClass E = some k := by
  have h1 : vm₁.findClass E = some k := h
  rw [hW.alike.findClass] at h1
  exact h1
/-- the method's frame g, with q thrown over it -/
def vx_W (p : Program) (l : Launch) (e : Env) (R : Room) (s : State) (m : MethodId) (args : Array Value) (below : List Frame) (meth : Method) (c : Code) (H : Heap) (locs : List Loc) (cells slots : Nat) (Q : State → Prop) (g : JFrame) (q : Addr) : Prop :=
  ∀ T : State, T.heap = H → Stand p l e R s m args below meth c T locs cells slots → ∃ t, Steps p.tables e below ((T.setTop g).pushFrame (.throwing q)) t ∧ Q t
def vx_Run (p : Program) (l : Launch) (e : Env) (R : Room) (s : State) (m : MethodId) (args : Array Value) (below : List Frame) (meth : Method) (c : Code) (H : Heap) (locs : List Loc) (cells slots mc ms : Nat) (g : JFrame) (rest : List Value) (Qa : State → Outcome → State → Prop) (XC : String → State → State → Prop) (free : Addr → Prop) : Prop :=
  ∀ T : State, T.heap = H → Stand p l e R s m args below meth c T locs cells slots →
    (∃ (v : Option Value) (st₀ t T' : State) (L : List Loc), st₀.heap = H ∧ Stand p l e R s m args below meth c T' (locs ++ L) (cells + mc) (slots + ms) ∧ (∀ q ∈ L, free q.base) ∧ T'.heap = t.heap ∧ T'.vm = t.vm ∧ Qa st₀ (.returned v) t ∧
      Goes p e below T g T' { g with pc := g.pc + 3, stack := v.toList ++ rest }) ∨
    (∃ (q : Addr) (st₀ t T' : State) (L : List Loc) (E : String) (ce : Cell), st₀.heap = H ∧ Stand p l e R s m args below meth c T' (locs ++ L) (cells + mc) (slots + ms) ∧ (∀ z ∈ L, free z.base) ∧ T'.heap = t.heap ∧ T'.vm = t.vm ∧ XC E st₀ t ∧ t.heap[q]? = some ce ∧ ce.vm = .none ∧ s.vm.findClass E = some ce.cls ∧
      Steps p.tables e below (T.setTop g) ((T'.setTop { g with stack := rest }).pushFrame (.throwing q)))
def vx_X {S : Type} (px : S → Prop) (B : String → S → State → Prop) (A : Nat → Prop) : String → State → State → Prop := fun E st t => ∃ u : S, px u ∧ B E u t ∧ va_F A st t
section Runs
variable {p : Program} {l : Launch} {e : Env} {R : Room} {s : State} {m : MethodId} {args : Array Value} {below : List Frame} {meth : Method} {c : Code} {H : Heap} {locs : List Loc} {cells slots : Nat}
variable {y : MethodName} {bytes cc : ByteArray} {maxL nL mc ms n index : Nat} {ret : Option FieldType} {ws : List Cond} {rm : Room} {Pc : Array Value → State → Prop} {Qc : Array Value → State → Outcome → State → Prop} {XC : String → State → State → Prop} {free : Addr → Prop} {Ts : List Cond} {own C : String} {b : Addr} {As rest : List Value} {g : JFrame}
theorem vx_callBack (cb : CallB R s args own index y bytes maxL ret ws rm mc ms n) (hM : vx_Met l y ws rm Pc Qc XC mc ms free) (hbl : FrameBlind Pc) : vx_Back l R p e below s args y 3 8 (PreOf R mc ms Pc) (PostOf Qc mc ms free) (vx_Post XC mc ms free) := by
  obtain ⟨hrc, hrs, hfr, hlo, hws, hcw, -, hini, -⟩ := cb
  exact vx_back (bytes := bytes) (maxL := maxL) (ret := ret) hM hbl hrc hrs hfr hlo hws hcw (fun a' U hW => word_at hW (Or.inl (by first | rfl | simp [Cond.onTables, Cond.keeps, Cond.steady])) hini)
theorem vx_runV (S : CallFix p m c cc nL s args Ts own) (hM : vx_Met l y ws rm Pc Qc XC mc ms free) (cw : CallW R s args own C index y bytes maxL ret ws rm mc ms n) (hp : PreV s H C b Pc As)
    (hg : g.method = m) (hn : As.length = n) (hsize : g.locals.size = nL) (hstack : g.stack = As.reverse ++ .ref b :: rest) (hW : 2 * g.monitorRoom + (rest.map fun v => v.category).sum ≤ 8) (hdg : decode cc g.pc = .ok (.invokevirtual index, 3)) (hf : cells + mc ≤ R.cells ∧ slots + ms ≤ R.slots) :
    vx_Run p l e R s m args below meth c H locs cells slots mc ms g rest (Qc (Value.ref b :: As).toArray) XC free := by
  have hK : vx_Back l R p e below s args y 3 8 (PreOf R mc ms Pc) (PostOf Qc mc ms free) (vx_Post XC mc ms free) := vx_callBack cw.1 hM hp.1
  obtain ⟨⟨-, -, -, -, -, -, hcode, -, hy, hlen, hl⟩, hin, hse⟩ := cw
  obtain ⟨hx, hb, hml, ho, -⟩ := S
  obtain ⟨-, ⟨cellB, hcB, hoB, hclB⟩, hPc⟩ := hp
  intro T hT X
  rcases vx_callV X hx (C := C) (bytes := bytes) (maxL := maxL) (ret := ret) ho hl hin hse hcode hy hK (by rw [hT]; exact hcB) hoB hclB hg (hsize.trans hml.symm) (argsL := As) (rest := rest) (fun sig h => hn.trans (hlen sig h)) hstack hW (by rw [hb]; exact hdg)
    (fun vm₁ hW₁ => ⟨hf.1, hf.2, hPc (T.setVm vm₁) hT hW₁⟩) with ⟨v, vm₁, ⟨U', l2, c2, s2⟩, hW₁, X', ⟨g', mk, t, L, e1, e2, hq, h1, hL, h2, h3⟩, st⟩ | ⟨q, vm₁, ⟨U', l2, c2, s2⟩, hW₁, X', ⟨g', mk, t, L, E, ce, e1, e2, hq, hce, hcv, hcl, h1, hL, h2, h3⟩, st⟩
  · dsimp only [Pt.U, Pt.locs, Pt.cells, Pt.slots] at X' e1 e2 h1 h2 h3 st
    subst h1; subst h2; subst h3
    exact Or.inl ⟨v, (T.setVm vm₁).calling g' mk (Value.ref b :: As).toArray, t, U', L, hT, X', hL, e1, e2, hq, st⟩
  · dsimp only [Pt.U, Pt.locs, Pt.cells, Pt.slots] at X' e1 e2 h1 h2 h3 st hcl
    subst h1; subst h2; subst h3
    exact Or.inr ⟨q, (T.setVm vm₁).calling g' mk (Value.ref b :: As).toArray, t, U', L, E, ce, hT, X', hL, e1, e2, hq, hce, hcv, vx_cls hW₁ hcl, st⟩
theorem vx_runS (S : CallFix p m c cc nL s args Ts own) (hM : vx_Met l y ws rm Pc Qc XC mc ms free) (cw : CallB R s args own index y bytes maxL ret ws rm mc ms n ∧ (Cond.static y).before args s = true) (hp : PreS s H Pc As)
    (hg : g.method = m) (hn : As.length = n) (hsize : g.locals.size = nL) (hstack : g.stack = As.reverse ++ rest) (hW : 2 * g.monitorRoom + (rest.map fun v => v.category).sum ≤ 8) (hdg : decode cc g.pc = .ok (.invokestatic index, 3)) (hf : cells + mc ≤ R.cells ∧ slots + ms ≤ R.slots) :
    vx_Run p l e R s m args below meth c H locs cells slots mc ms g rest (Qc As.toArray) XC free := by
  have hK : vx_Back l R p e below s args y 3 8 (PreOf R mc ms Pc) (PostOf Qc mc ms free) (vx_Post XC mc ms free) := vx_callBack cw.1 hM hp.1
  obtain ⟨⟨-, -, -, -, -, -, hcode, hini, hy, hlen, hl⟩, hstt⟩ := cw
  obtain ⟨hx, hb, hml, ho, -⟩ := S
  intro T hT X
  rcases vx_callS X hx (bytes := bytes) (maxL := maxL) (ret := ret) ho hl hstt hini hcode hy hK hg (hsize.trans hml.symm) (argsL := As) (rest := rest) (fun sig h => hn.trans (hlen sig h)) hstack hW (by rw [hb]; exact hdg)
    (fun vm₁ hW₁ => ⟨hf.1, hf.2, hp.2 (T.setVm vm₁) hT hW₁⟩) with ⟨v, vm₁, ⟨U', l2, c2, s2⟩, hW₁, X', ⟨g', mk, t, L, e1, e2, hq, h1, hL, h2, h3⟩, st⟩ | ⟨q, vm₁, ⟨U', l2, c2, s2⟩, hW₁, X', ⟨g', mk, t, L, E, ce, e1, e2, hq, hce, hcv, hcl, h1, hL, h2, h3⟩, st⟩
  · dsimp only [Pt.U, Pt.locs, Pt.cells, Pt.slots] at X' e1 e2 h1 h2 h3 st
    subst h1; subst h2; subst h3
    exact Or.inl ⟨v, (T.setVm vm₁).calling g' mk As.toArray, t, U', L, hT, X', hL, e1, e2, hq, st⟩
  · dsimp only [Pt.U, Pt.locs, Pt.cells, Pt.slots] at X' e1 e2 h1 h2 h3 st hcl
    subst h1; subst h2; subst h3
    exact Or.inr ⟨q, (T.setVm vm₁).calling g' mk As.toArray, t, U', L, E, ce, hT, X', hL, e1, e2, hq, hce, hcv, vx_cls hW₁ hcl, st⟩
end Runs
section Rows
variable {p : Program} {l : Launch} {e : Env} {R : Room} {s : State} {m : MethodId} {args : Array Value} {below : List Frame} {meth : Method} {c : Code} {H : Heap} {locs : List Loc} {cells slots : Nat} {Q : State → Prop}
variable {mc ms : Nat} {free : Addr → Prop} {A0 A1 : Nat → Prop} {H0 : Heap} {a : Array Value} {pc : Nat} {ls : Array Slot} {st0 rest : List Value}
theorem vx_keep {st₀ t T' : State} {L : List Loc} (h0 : st₀.heap = H) (e1 : T'.heap = t.heap) (hS : va_S A0 H0 H locs) (hA : ∀ q, q < H.size → A1 q → A0 q) (hf : ∀ q, free q → A0 q) (hL : ∀ q ∈ L, free q.base) (hF : va_F A1 st₀ t) :
    H.size ≤ T'.heap.size ∧ (∀ q : Nat, q < H.size → ¬ A1 q → T'.heap[q]? = H[q]?) ∧ va_S A0 H0 T'.heap (locs ++ L) := by
  obtain ⟨hz, hk⟩ := hF
  rw [h0] at hz hk
  exact ⟨by rw [e1]; exact hz, fun q h1 h2 => by rw [e1]; exact hk q h1 h2,
    ⟨Nat.le_trans hS.1 (by rw [e1]; exact hz), fun q h1 h2 => by rw [e1, hk q (Nat.lt_of_lt_of_le h1 hS.1) (fun z => h2 (hA q (Nat.lt_of_lt_of_le h1 hS.1) z))]; exact hS.2.1 q h1 h2, fun q hq => by
      rcases List.mem_append.mp hq with h | h
      · exact hS.2.2 q h
      · exact hf _ (hL q h)⟩⟩
theorem vx_calli {S SX : Type} {post : Int32 → S → Prop} {px : SX → Prop} {B : S → State → Prop} {BX : String → SX → State → Prop} {AX : Nat → Prop} (hr : vx_Run p l e R s m args below meth c H locs cells slots mc ms (F0 m pc ls st0) rest (va_Qi post B A1 a) (vx_X px BX AX) free) (hS : va_S A0 H0 H locs) (hA : ∀ q, q < H.size → A1 q → A0 q) (hf : ∀ q, free q → A0 q) (hAX : ∀ q, q < H.size → AX q → A0 q)
    (kx : ∀ (E : String) (ce : Cell) (q9 : Addr) (u : SX) (t : State) (H1 : Heap) (locs1 : List Loc), t.heap = H1 → s.vm.Alike t.vm → px u → BX E u t → H.size ≤ H1.size → (∀ q : Nat, q < H.size → ¬ AX q → H1[q]? = H[q]?) → va_S A0 H0 H1 locs1 → H1[q9]? = some ce → ce.vm = .none → s.vm.findClass E = some ce.cls → vx_W p l e R s m args below meth c H1 locs1 (cells + mc) (slots + ms) Q (F0 m pc ls rest) q9)
    (kk : ∀ (r : Int32) (u : S) (t : State) (H1 : Heap) (locs1 : List Loc), t.heap = H1 → s.vm.Alike t.vm → post r u → B u t → H.size ≤ H1.size → (∀ q : Nat, q < H.size → ¬ A1 q → H1[q]? = H[q]?) → va_S A0 H0 H1 locs1 → W p l e R s m args below meth c H1 locs1 (cells + mc) (slots + ms) Q (F0 m (pc + 3) ls (.int r :: rest))) : W p l e R s m args below meth c H locs cells slots Q (F0 m pc ls st0) := by
  intro T hT X
  rcases hr T hT X with ⟨v, st₀, t, T', L, h0, X', hL, e1, e2, ⟨⟨r, u, hv, hp, hb⟩, hF⟩, st⟩ | ⟨q, st₀, t, T', L, E, ce, h0, X', hL, e1, e2, ⟨u, hp, hb, hF⟩, hce, hcv, hcl, st⟩
  · cases hv
    obtain ⟨k1, k2, k3⟩ := vx_keep h0 e1 hS hA hf hL hF
    obtain ⟨t2, a1, b1⟩ := kk r u t T'.heap (locs ++ L) e1.symm (by rw [← e2]; exact X'.warmed.alike) hp hb k1 k2 k3 T' rfl X'
    exact ⟨t2, st t2 a1, b1⟩
  · obtain ⟨k1, k2, k3⟩ := vx_keep h0 e1 hS hAX hf hL hF
    obtain ⟨t2, a1, b1⟩ := kx E ce q u t T'.heap (locs ++ L) e1.symm (by rw [← e2]; exact X'.warmed.alike) hp hb k1 k2 k3 (by rw [e1]; exact hce) hcv hcl T' rfl X'
    exact ⟨t2, st.trans a1, b1⟩
theorem vx_calll {S SX : Type} {post : Int64 → S → Prop} {px : SX → Prop} {B : S → State → Prop} {BX : String → SX → State → Prop} {AX : Nat → Prop} (hr : vx_Run p l e R s m args below meth c H locs cells slots mc ms (F0 m pc ls st0) rest (va_Ql post B A1 a) (vx_X px BX AX) free) (hS : va_S A0 H0 H locs) (hA : ∀ q, q < H.size → A1 q → A0 q) (hf : ∀ q, free q → A0 q) (hAX : ∀ q, q < H.size → AX q → A0 q)
    (kx : ∀ (E : String) (ce : Cell) (q9 : Addr) (u : SX) (t : State) (H1 : Heap) (locs1 : List Loc), t.heap = H1 → s.vm.Alike t.vm → px u → BX E u t → H.size ≤ H1.size → (∀ q : Nat, q < H.size → ¬ AX q → H1[q]? = H[q]?) → va_S A0 H0 H1 locs1 → H1[q9]? = some ce → ce.vm = .none → s.vm.findClass E = some ce.cls → vx_W p l e R s m args below meth c H1 locs1 (cells + mc) (slots + ms) Q (F0 m pc ls rest) q9)
    (kk : ∀ (r : Int64) (u : S) (t : State) (H1 : Heap) (locs1 : List Loc), t.heap = H1 → s.vm.Alike t.vm → post r u → B u t → H.size ≤ H1.size → (∀ q : Nat, q < H.size → ¬ A1 q → H1[q]? = H[q]?) → va_S A0 H0 H1 locs1 → W p l e R s m args below meth c H1 locs1 (cells + mc) (slots + ms) Q (F0 m (pc + 3) ls (.long r :: rest))) : W p l e R s m args below meth c H locs cells slots Q (F0 m pc ls st0) := by
  intro T hT X
  rcases hr T hT X with ⟨v, st₀, t, T', L, h0, X', hL, e1, e2, ⟨⟨r, u, hv, hp, hb⟩, hF⟩, st⟩ | ⟨q, st₀, t, T', L, E, ce, h0, X', hL, e1, e2, ⟨u, hp, hb, hF⟩, hce, hcv, hcl, st⟩
  · cases hv
    obtain ⟨k1, k2, k3⟩ := vx_keep h0 e1 hS hA hf hL hF
    obtain ⟨t2, a1, b1⟩ := kk r u t T'.heap (locs ++ L) e1.symm (by rw [← e2]; exact X'.warmed.alike) hp hb k1 k2 k3 T' rfl X'
    exact ⟨t2, st t2 a1, b1⟩
  · obtain ⟨k1, k2, k3⟩ := vx_keep h0 e1 hS hAX hf hL hF
    obtain ⟨t2, a1, b1⟩ := kx E ce q u t T'.heap (locs ++ L) e1.symm (by rw [← e2]; exact X'.warmed.alike) hp hb k1 k2 k3 (by rw [e1]; exact hce) hcv hcl T' rfl X'
    exact ⟨t2, st.trans a1, b1⟩
theorem vx_callf {S SX : Type} {post : UInt32 → S → Prop} {px : SX → Prop} {B : S → State → Prop} {BX : String → SX → State → Prop} {AX : Nat → Prop} (hr : vx_Run p l e R s m args below meth c H locs cells slots mc ms (F0 m pc ls st0) rest (va_Qf post B A1 a) (vx_X px BX AX) free) (hS : va_S A0 H0 H locs) (hA : ∀ q, q < H.size → A1 q → A0 q) (hf : ∀ q, free q → A0 q) (hAX : ∀ q, q < H.size → AX q → A0 q)
    (kx : ∀ (E : String) (ce : Cell) (q9 : Addr) (u : SX) (t : State) (H1 : Heap) (locs1 : List Loc), t.heap = H1 → s.vm.Alike t.vm → px u → BX E u t → H.size ≤ H1.size → (∀ q : Nat, q < H.size → ¬ AX q → H1[q]? = H[q]?) → va_S A0 H0 H1 locs1 → H1[q9]? = some ce → ce.vm = .none → s.vm.findClass E = some ce.cls → vx_W p l e R s m args below meth c H1 locs1 (cells + mc) (slots + ms) Q (F0 m pc ls rest) q9)
    (kk : ∀ (r : UInt32) (u : S) (t : State) (H1 : Heap) (locs1 : List Loc), t.heap = H1 → s.vm.Alike t.vm → post r u → B u t → H.size ≤ H1.size → (∀ q : Nat, q < H.size → ¬ A1 q → H1[q]? = H[q]?) → va_S A0 H0 H1 locs1 → W p l e R s m args below meth c H1 locs1 (cells + mc) (slots + ms) Q (F0 m (pc + 3) ls (.float r :: rest))) : W p l e R s m args below meth c H locs cells slots Q (F0 m pc ls st0) := by
  intro T hT X
  rcases hr T hT X with ⟨v, st₀, t, T', L, h0, X', hL, e1, e2, ⟨⟨r, u, hv, hp, hb⟩, hF⟩, st⟩ | ⟨q, st₀, t, T', L, E, ce, h0, X', hL, e1, e2, ⟨u, hp, hb, hF⟩, hce, hcv, hcl, st⟩
  · cases hv
    obtain ⟨k1, k2, k3⟩ := vx_keep h0 e1 hS hA hf hL hF
    obtain ⟨t2, a1, b1⟩ := kk r u t T'.heap (locs ++ L) e1.symm (by rw [← e2]; exact X'.warmed.alike) hp hb k1 k2 k3 T' rfl X'
    exact ⟨t2, st t2 a1, b1⟩
  · obtain ⟨k1, k2, k3⟩ := vx_keep h0 e1 hS hAX hf hL hF
    obtain ⟨t2, a1, b1⟩ := kx E ce q u t T'.heap (locs ++ L) e1.symm (by rw [← e2]; exact X'.warmed.alike) hp hb k1 k2 k3 (by rw [e1]; exact hce) hcv hcl T' rfl X'
    exact ⟨t2, st.trans a1, b1⟩
theorem vx_calld {S SX : Type} {post : UInt64 → S → Prop} {px : SX → Prop} {B : S → State → Prop} {BX : String → SX → State → Prop} {AX : Nat → Prop} (hr : vx_Run p l e R s m args below meth c H locs cells slots mc ms (F0 m pc ls st0) rest (va_Qd post B A1 a) (vx_X px BX AX) free) (hS : va_S A0 H0 H locs) (hA : ∀ q, q < H.size → A1 q → A0 q) (hf : ∀ q, free q → A0 q) (hAX : ∀ q, q < H.size → AX q → A0 q)
    (kx : ∀ (E : String) (ce : Cell) (q9 : Addr) (u : SX) (t : State) (H1 : Heap) (locs1 : List Loc), t.heap = H1 → s.vm.Alike t.vm → px u → BX E u t → H.size ≤ H1.size → (∀ q : Nat, q < H.size → ¬ AX q → H1[q]? = H[q]?) → va_S A0 H0 H1 locs1 → H1[q9]? = some ce → ce.vm = .none → s.vm.findClass E = some ce.cls → vx_W p l e R s m args below meth c H1 locs1 (cells + mc) (slots + ms) Q (F0 m pc ls rest) q9)
    (kk : ∀ (r : UInt64) (u : S) (t : State) (H1 : Heap) (locs1 : List Loc), t.heap = H1 → s.vm.Alike t.vm → post r u → B u t → H.size ≤ H1.size → (∀ q : Nat, q < H.size → ¬ A1 q → H1[q]? = H[q]?) → va_S A0 H0 H1 locs1 → W p l e R s m args below meth c H1 locs1 (cells + mc) (slots + ms) Q (F0 m (pc + 3) ls (.double r :: rest))) : W p l e R s m args below meth c H locs cells slots Q (F0 m pc ls st0) := by
  intro T hT X
  rcases hr T hT X with ⟨v, st₀, t, T', L, h0, X', hL, e1, e2, ⟨⟨r, u, hv, hp, hb⟩, hF⟩, st⟩ | ⟨q, st₀, t, T', L, E, ce, h0, X', hL, e1, e2, ⟨u, hp, hb, hF⟩, hce, hcv, hcl, st⟩
  · cases hv
    obtain ⟨k1, k2, k3⟩ := vx_keep h0 e1 hS hA hf hL hF
    obtain ⟨t2, a1, b1⟩ := kk r u t T'.heap (locs ++ L) e1.symm (by rw [← e2]; exact X'.warmed.alike) hp hb k1 k2 k3 T' rfl X'
    exact ⟨t2, st t2 a1, b1⟩
  · obtain ⟨k1, k2, k3⟩ := vx_keep h0 e1 hS hAX hf hL hF
    obtain ⟨t2, a1, b1⟩ := kx E ce q u t T'.heap (locs ++ L) e1.symm (by rw [← e2]; exact X'.warmed.alike) hp hb k1 k2 k3 (by rw [e1]; exact hce) hcv hcl T' rfl X'
    exact ⟨t2, st.trans a1, b1⟩
theorem vx_callv {S SX : Type} {post : S → Prop} {px : SX → Prop} {B : S → State → Prop} {BX : String → SX → State → Prop} {AX : Nat → Prop} (hr : vx_Run p l e R s m args below meth c H locs cells slots mc ms (F0 m pc ls st0) rest (va_Qv post B A1 a) (vx_X px BX AX) free) (hS : va_S A0 H0 H locs) (hA : ∀ q, q < H.size → A1 q → A0 q) (hf : ∀ q, free q → A0 q) (hAX : ∀ q, q < H.size → AX q → A0 q)
    (kx : ∀ (E : String) (ce : Cell) (q9 : Addr) (u : SX) (t : State) (H1 : Heap) (locs1 : List Loc), t.heap = H1 → s.vm.Alike t.vm → px u → BX E u t → H.size ≤ H1.size → (∀ q : Nat, q < H.size → ¬ AX q → H1[q]? = H[q]?) → va_S A0 H0 H1 locs1 → H1[q9]? = some ce → ce.vm = .none → s.vm.findClass E = some ce.cls → vx_W p l e R s m args below meth c H1 locs1 (cells + mc) (slots + ms) Q (F0 m pc ls rest) q9)
    (kk : ∀ (u : S) (t : State) (H1 : Heap) (locs1 : List Loc), t.heap = H1 → s.vm.Alike t.vm → post u → B u t → H.size ≤ H1.size → (∀ q : Nat, q < H.size → ¬ A1 q → H1[q]? = H[q]?) → va_S A0 H0 H1 locs1 → W p l e R s m args below meth c H1 locs1 (cells + mc) (slots + ms) Q (F0 m (pc + 3) ls (rest))) : W p l e R s m args below meth c H locs cells slots Q (F0 m pc ls st0) := by
  intro T hT X
  rcases hr T hT X with ⟨v, st₀, t, T', L, h0, X', hL, e1, e2, ⟨⟨u, hv, hp, hb⟩, hF⟩, st⟩ | ⟨q, st₀, t, T', L, E, ce, h0, X', hL, e1, e2, ⟨u, hp, hb, hF⟩, hce, hcv, hcl, st⟩
  · cases hv
    obtain ⟨k1, k2, k3⟩ := vx_keep h0 e1 hS hA hf hL hF
    obtain ⟨t2, a1, b1⟩ := kk u t T'.heap (locs ++ L) e1.symm (by rw [← e2]; exact X'.warmed.alike) hp hb k1 k2 k3 T' rfl X'
    exact ⟨t2, st t2 a1, b1⟩
  · obtain ⟨k1, k2, k3⟩ := vx_keep h0 e1 hS hAX hf hL hF
    obtain ⟨t2, a1, b1⟩ := kx E ce q u t T'.heap (locs ++ L) e1.symm (by rw [← e2]; exact X'.warmed.alike) hp hb k1 k2 k3 (by rw [e1]; exact hce) hcv hcl T' rfl X'
    exact ⟨t2, st.trans a1, b1⟩
/-- caught by the row x of this method's table; the rows ahead don't take it -/
theorem vx_catch {own name : String} {E : String} {ce : Cell} {q : Addr} (hown : s.vm.findClass own = some m.cls) (pre : List ExceptionTableEntry) (x : ExceptionTableEntry) (suf : List ExceptionTableEntry) (hsplit : c.exceptionTable.toList = pre ++ x :: suf)
    (hpass : ∀ z ∈ pre, covers z pc = false ∨ (z.catchType ≠ 0 ∧ ∃ nm : String, (Cond.classLink own z.catchType nm).before args s = true ∧ va_Nc E nm s)) (hx : covers x pc = true) (h0 : x.catchType ≠ 0)
    (hlink : (Cond.classLink own x.catchType name).before args s = true) (hcast : (Cond.castable E name).before args s = true) (hcell : H[q]? = some ce) (hv : ce.vm = .none) (hcl : s.vm.findClass E = some ce.cls)
    (kk : W p l e R s m args below meth c H locs cells slots Q (F0 m x.handlerPc ls [.ref q])) : vx_W p l e R s m args below meth c H locs cells slots Q (F0 m pc ls rest) q := by
  intro T hT X
  have hpl : e.platform.magicAccessors = ({} : Platform).magicAccessors := by rw [X.admits.platform]
  obtain ⟨c3, c4, hc3, hc4, hasg⟩ := Cond.castable_spec hcast
  cases Option.some.inj (hc3.symm.trans hcl)
  obtain ⟨c5, hc5, hcl5⟩ := Cond.classLink_spec hown hlink e.platform hpl
  cases Option.some.inj (hc4.symm.trans hc5)
  obtain ⟨vm', X', st⟩ := X.thenCaughtThrough q (g := F0 m pc ls rest) rfl (Steps.refl _) (by rw [hT]; exact hcell) (by rw [hv]; rfl) (by obtain ⟨k9, h9, -⟩ := Vm.findClass_spec hcl; exact ⟨k9, h9⟩) pre x suf hsplit
    (fun z hz => by
      rcases hpass z hz with h | ⟨hz0, nm, hl1, hn1⟩
      · exact Or.inl h
      · obtain ⟨c6, hc6, hcl6⟩ := Cond.classLink_spec hown hl1 e.platform hpl
        obtain ⟨a8, b8, h1, h2, h3⟩ := hn1
        cases Option.some.inj (h1.symm.trans hcl)
        cases Option.some.inj (h2.symm.trans hc6)
        exact Or.inr ⟨hz0, _, hcl6, h3⟩) hx (Or.inr ⟨h0, c4, hcl5, hasg⟩)
  obtain ⟨t, a1, b1⟩ := kk (T.setVm vm') hT X'
  exact ⟨t, st.trans a1, b1⟩
end Rows
section Ends
variable {p : Program} {l : Launch} {e : Env} {R : Room} {s : State} {m : MethodId} {args : Array Value} {below : List Frame} {meth : Method} {c : Code} {H : Heap} {locs : List Loc} {cells slots : Nat} {Q : State → Prop}
variable {mc ms : Nat} {free : Addr → Prop} {A0 A1 : Nat → Prop} {H0 : Heap} {a : Array Value} {ls : Array Slot} {st0 rest : List Value}
variable {Qc : Array Value → State → Outcome → State → Prop} {XC : String → State → State → Prop}
/-- what a body that may throw owes at its end -/
def vx_MQ (below : List Frame) (Qc : Array Value → State → Outcome → State → Prop) (XC : String → State → State → Prop) (a : Array Value) (s : State) (mc ms : Nat) (free : Addr → Prop) : State → Prop := fun t =>
  ∃ o, t.status = .running ∧ Ended t below o ∧ vx_Q Qc XC mc ms free a s o t
theorem vx_ret {g : JFrame} {mc ms : Nat} (k : W p l e R s m args below meth c H locs cells slots (MQ below Qc args s mc ms free) g) : W p l e R s m args below meth c H locs cells slots (vx_MQ below Qc XC args s mc ms free) g := by
  intro T hT X
  obtain ⟨t, a1, o, b1, b2, b3, b4⟩ := k T hT X
  exact ⟨t, a1, o, b1, b2, Or.inl ⟨b3, b4⟩⟩
/-- not caught here: it goes on to the caller -/
theorem vx_widen {g : JFrame} {q : Addr} {k n : Nat} (h1 : cells ≤ k) (h2 : slots ≤ n) (kk : vx_W p l e R s m args below meth c H locs k n Q g q) : vx_W p l e R s m args below meth c H locs cells slots Q g q := fun T hT X => kk T hT (stand_widen X h1 h2)
theorem vx_out {pc : Nat} {E : String} {ce : Cell} {q : Addr} {mc ms : Nat} (hout : ∀ x ∈ c.exceptionTable.toList, covers x pc = false) (hlocks : meth.locks = false) (hcell : H[q]? = some ce) (hv : ce.vm = .none) (hcl : s.vm.findClass E = some ce.cls)
    (hx : ∀ t : State, t.heap = H → s.vm.Alike t.vm → XC E s t) (hf : ∀ z ∈ locs, free z.base) (hc : cells ≤ mc) (hs : slots ≤ ms) :
    vx_W p l e R s m args below meth c H locs cells slots (vx_MQ below Qc XC args s mc ms free) (F0 m pc ls rest) q := by
  intro T hT X
  obtain ⟨st1, hrun, hend, hW, hsm⟩ := X.leaveThrown q (g := F0 m pc ls rest) rfl rfl rfl hout hlocks
  have hcell9 : (T.setFrames (.throwing q :: below)).heap[q]? = some ce := by
    show T.heap[q]? = some ce
    rw [hT]; exact hcell
  exact ⟨_, st1, .threw q, hrun, hend, Or.inr ⟨q, rfl, E, ce, locs, hx _ hT hW.alike, hcell9, hv, hcl, hW, hsm.mono hc hs, hf⟩⟩
theorem vx_frame {U : State} {k n : Nat} (h : s.sameButNew ({ U with vm := s.vm } : State) locs k n) : s.heap.size ≤ U.heap.size ∧ ∀ q : Nat, q < s.heap.size → (∀ z ∈ locs, z.base ≠ q) → U.heap[q]? = s.heap[q]? := by
  obtain ⟨-, h2, -, -, -, h6⟩ := h
  refine ⟨h2, fun q hq hz => ?_⟩
  obtain ⟨c9, e1, e2, e3, e4⟩ := h6 q _ (Array.getElem?_eq_getElem hq)
  have hs : c9.slots = (s.heap[q]).slots := Array.ext_getElem? fun i => e4 i fun hm => hz _ hm rfl
  have h9 : c9 = s.heap[q] := by
    rw [hs] at e2
    exact e2
  have e5 : U.heap[q]? = some c9 := e1
  rw [e5, h9, Array.getElem?_eq_getElem hq]
/-- the words of a throw but the four that speak of the heap -/
def vx_no (w : Cond) : Bool := decide (w ≠ .isRef (.static Bundle.tN "UNASSIGNED_STACK" Bundle.steD)) && decide (w ≠ .isRef (.static Bundle.tN "SUPPRESSED_SENTINEL" Bundle.listD)) && decide (w ≠ .laysStatic Bundle.tN "UNASSIGNED_STACK" Bundle.steD) && decide (w ≠ .laysStatic Bundle.tN "SUPPRESSED_SENTINEL" Bundle.listD)
def vx_at0 (own : String) (ic : Nat) (X : String) (names : List String) : List Cond := (Bundle.ownAtoms0 own ic X names).filter vx_no
def vx_atS (own : String) (ic : Nat) (X : String) (names : List String) : List Cond := (Bundle.ownAtoms own ic X names).filter vx_no
/-- a word that the tables alone decide, or a good one -/
def vx_ot (w : Cond) : Bool := w.onTables || goodWord w
theorem vx_ot_at {args a' : Array Value} {s U : State} {w : Cond} (hW : s.WarmedH U.vm) (hvm : s.vm = U.vm) (hg : vx_ot w = true) (h : w.before args s = true) : w.before a' U = true := by
  simp only [vx_ot, Bool.or_eq_true] at hg
  rcases hg with hg | hg
  · exact va_tabs hg hvm h
  · exact word_at hW (good_of_word hg) h
/-- a list's words: the good ones out of the method's own list, the others by premises of their own -/
theorem vx_hat {args : Array Value} {s : State} {L B : List Cond} (h1 : ∀ w ∈ L.filter goodWord, w.before args s = true) (h2 : ∀ w ∈ L.filter (fun w => !goodWord w), w ∈ B) (h3 : ∀ w ∈ B, w.before args s = true) : ∀ w ∈ L, w.before args s = true := by
  intro w hw
  by_cases g : goodWord w = true
  · exact h1 w (List.mem_filter.mpr ⟨hw, g⟩)
  · refine h3 w (h2 w (List.mem_filter.mpr ⟨hw, ?_⟩))
    show (!goodWord w) = true
    cases hgw : goodWord w
    · rfl
    · exact absurd hgw g
theorem vx_c {args : Array Value} {s : State} {w : Cond} {B : List Cond} (h : w.before args s = true) (t : ∀ w ∈ B, w.before args s = true) : ∀ w' ∈ w :: B, w'.before args s = true := fun w' h' => (List.mem_cons.mp h').elim (fun e => by rw [e]; exact h) (t w')
theorem vx_n {args : Array Value} {s : State} : ∀ w ∈ ([] : List Cond), w.before args s = true := fun _ h => nomatch h
theorem vx_own {args : Array Value} {s : State} {L : List Cond} (h1 : ∀ w ∈ L.filter vx_no, w.before args s = true)
    (hU : (Cond.isRef (.static Bundle.tN "UNASSIGNED_STACK" Bundle.steD)).before args s = true) (hN : (Cond.isRef (.static Bundle.tN "SUPPRESSED_SENTINEL" Bundle.listD)).before args s = true)
    (lU : (Cond.laysStatic Bundle.tN "UNASSIGNED_STACK" Bundle.steD).before args s = true) (lN : (Cond.laysStatic Bundle.tN "SUPPRESSED_SENTINEL" Bundle.listD).before args s = true) : ∀ w ∈ L, w.before args s = true := by
  intro w hw
  by_cases e1 : w = .isRef (.static Bundle.tN "UNASSIGNED_STACK" Bundle.steD)
  · rw [e1]; exact hU
  · by_cases e2 : w = .isRef (.static Bundle.tN "SUPPRESSED_SENTINEL" Bundle.listD)
    · rw [e2]; exact hN
    · by_cases e3 : w = .laysStatic Bundle.tN "UNASSIGNED_STACK" Bundle.steD
      · rw [e3]; exact lU
      · by_cases e4 : w = .laysStatic Bundle.tN "SUPPRESSED_SENTINEL" Bundle.listD
        · rw [e4]; exact lN
        · exact h1 w (List.mem_filter.mpr ⟨hw, by unfold vx_no; rw [decide_eq_true e1, decide_eq_true e2, decide_eq_true e3, decide_eq_true e4]; rfl⟩)
/-- where a static field lies, its class's statics cell in H -/
def vx_L (C n d : String) (A : Nat → Prop) (U : State) (H : Heap) : Prop := ∃ (c : ClassId) (k : Class) (i : Nat) (f : Field) (a : Nat) (cell : Cell), U.vm.findClass C = some c ∧ U.fieldFound? C n d = some (c, k, i, f) ∧ f.isStatic = true ∧ k.statics = some a ∧ H[a]? = some cell ∧ cell.vm.isStatics = true ∧ cell.cls = c ∧ f.slot < cell.slots.size ∧ k.staticTypes[f.slot]? = some f.type ∧ ¬ A a
theorem vx_L.moved {C n d : String} {A : Nat → Prop} {u U : State} {H : Heap} (hvm : u.vm.Alike U.vm) (h : vx_L C n d A u H) : vx_L C n d A U H := by
  obtain ⟨c, k, i, f, a, cell, h1, h2, h3, h4, h5, h6, h7, h8, h9, h10⟩ := h
  obtain ⟨k', hi', he⟩ := State.fieldFound?_setVm hvm h2
  exact ⟨c, k', i, f, a, cell, by rw [hvm.findClass]; exact h1, hi', h3, by rw [he]; exact h4, h5, h6, h7, h8, by rw [he]; exact h9, h10⟩
theorem vx_L.kept {C n d : String} {A : Nat → Prop} {U : State} {H H1 : Heap} (h : vx_L C n d A U H) (hq : ∀ a : Nat, a < H.size → ¬ A a → H1[a]? = H[a]?) : vx_L C n d A U H1 := by
  obtain ⟨c, k, i, f, a, cell, h1, h2, h3, h4, h5, h6, h7, h8, h9, h10⟩ := h
  exact ⟨c, k, i, f, a, cell, h1, h2, h3, h4, by rw [hq a (Array.getElem?_eq_some_iff.mp h5).1 h10]; exact h5, h6, h7, h8, h9, h10⟩
theorem vx_L.narrow {C n d : String} {A B : Nat → Prop} {U : State} {H : Heap} (h : vx_L C n d A U H) (hAB : ∀ q, B q → A q) : vx_L C n d B U H := by
  obtain ⟨c, k, i, f, a, cell, h1, h2, h3, h4, h5, h6, h7, h8, h9, h10⟩ := h
  exact ⟨c, k, i, f, a, cell, h1, h2, h3, h4, h5, h6, h7, h8, h9, fun z => h10 (hAB _ z)⟩
theorem vx_L.word {C n d : String} {A : Nat → Prop} {s : State} {args : Array Value} (h : vx_L C n d A s s.heap) : (Cond.laysStatic C n d).before args s = true := by
  obtain ⟨c, k, i, f, a, cell, h1, h2, h3, h4, h5, h6, h7, h8, h9, -⟩ := h
  show (Cond.laysStatic C n d).holds args s none s [] = true
  exact Cond.laysStatic_of h1 h2 h3 h4 h5 h6 h7 h8 h9
/-- .. and what it holds: null or some reference -/
def vx_Zq (C n d : String) (A : Nat → Prop) (U : State) (H : Heap) : Prop := va_Zq C n d A U H ∧ vx_L C n d A U H
theorem vx_Zq.moved {C n d : String} {A : Nat → Prop} {u U : State} {H : Heap} (hvm : u.vm.Alike U.vm) (h : vx_Zq C n d A u H) : vx_Zq C n d A U H := ⟨va_Zq.moved hvm h.1, vx_L.moved hvm h.2⟩
theorem vx_Zq.kept {C n d : String} {A : Nat → Prop} {U : State} {H H1 : Heap} (h : vx_Zq C n d A U H) (hq : ∀ a : Nat, a < H.size → ¬ A a → H1[a]? = H[a]?) : vx_Zq C n d A U H1 := ⟨va_Zq.kept h.1 hq, vx_L.kept h.2 hq⟩
theorem vx_Zq.narrow {C n d : String} {A B : Nat → Prop} {U : State} {H : Heap} (h : vx_Zq C n d A U H) (hAB : ∀ q, B q → A q) : vx_Zq C n d B U H := ⟨va_Zq.narrow h.1 hAB, vx_L.narrow h.2 hAB⟩
theorem vx_Zqof {args : Array Value} {s : State} {C n d : String} {A : Nat → Prop} (hl : (Cond.laysStatic C n d).before args s = true) (hini : (Cond.initialized C).before args s = true) (h : (Cond.isRef (.static C n d)).before args s = true) (hA : ∀ a : Nat, a < s.heap.size → ¬ A a) : vx_Zq C n d A s s.heap := by
  refine ⟨va_Zqof hl hini h hA, ?_⟩
  obtain ⟨c, k, i, f, a, cell, h1, h2, h3, h4, h5, h6, h7, h8, h9⟩ := Cond.laysStatic_spec hl
  exact ⟨c, k, i, f, a, cell, h1, h2, h3, h4, h5, h6, h7, h8, h9, hA a (Array.getElem?_eq_some_iff.mp h5).1⟩
theorem vx_isRef {C n d : String} {v : Value} {A : Nat → Prop} {s : State} {args : Array Value} (h : va_Z C n d v A s s.heap) (hv : v.isRef = true) : (Cond.isRef (.static C n d)).before args s = true := by
  obtain ⟨cf, kf, fi, f, a, cell, h1, h2, h3, h4, h5, h6, h7, -⟩ := h
  have he : (Term.static C n d).eval args s none [] s = some v := by
    simp [Term.eval, State.fieldNamed?, h1, h2, h4, h5, h6, h7]
  simp only [Cond.before, Cond.holds, Cond.value, he]
  cases v <;> simp_all [Value.isRef]
theorem vx_isRefq {C n d : String} {A : Nat → Prop} {s : State} {args : Array Value} (h : va_Zq C n d A s s.heap) : (Cond.isRef (.static C n d)).before args s = true := by
  rcases h with h | ⟨t, h⟩
  · exact vx_isRef h rfl
  · exact vx_isRef h rfl
/-- the same frame, seen from here: as if the method were called anew in this heap -/
theorem vx_rebase {T : State} (X : Stand p l e R s m args below meth c T locs cells slots) {R' : Room} (hf : R'.frames ≤ R.frames) (hl : R'.locals ≤ R.locals) (hc : cells + R'.cells ≤ R.cells) (hs : slots + R'.slots ≤ R.slots) :
    Stand p l e R' ((T.setVm s.vm).setFrames (.invoking m args :: below)) m args below meth c T [] 0 0 := by
  have htop : (T.setVm s.vm).topJava?.isSome := X.here.top
  have hF : ((T.setVm s.vm).setFrames (.invoking m args :: below)).frames = .invoking m args :: below := State.frames_setFrames _ (State.cur_lt_of_top htop)
  obtain ⟨g₀, hg0⟩ := Option.isSome_iff_exists.mp htop
  obtain ⟨r, hr⟩ := State.topJava?_eq_some.mp hg0
  have hl9 : e.platform.stackLimits (T.setVm s.vm).me = e.platform.stackLimits s.me := X.limits
  have hb9 : (T.setVm s.vm).me.stackBytes = s.me.stackBytes := X.bytes
  refine ⟨X.admits, X.cas, X.clock, hF, ?_, X.hears, X.method, X.code, X.here, X.tail, X.warmed, ?_, ?_, ?_⟩
  · have h := X.room
    have hU : ((T.setVm s.vm).setFrames (.invoking m args :: below)).localsInUse = s.localsInUse := by
      rw [State.localsInUse_invoking hF (meth := meth) (c := c) X.method X.code, State.localsInUse_invoking X.frames X.method X.code]
    simp only [State.hasRoom, Bool.and_eq_true, decide_eq_true_eq] at h ⊢
    obtain ⟨⟨⟨⟨h1, h2, h3, h4, h5, h6⟩, h7⟩, h8⟩, h9⟩ := h
    rw [X.frames, List.length_cons] at h2 h3
    have q1 := X.heapSize
    have q2 := X.used
    simp only [hF, hU, List.length_cons, State.stackLimits_setFrames, State.stackBytes_setFrames, hl9, hb9]
    refine ⟨⟨⟨⟨by omega, by omega, by omega, by omega, by omega, h6⟩, ?_⟩, ?_⟩, X.book⟩
    · show T.heap.size + R'.cells ≤ e.platform.maxCells
      omega
    · show T.slotsUsed + R'.slots ≤ e.platform.maxSlots
      omega
  · rw [State.stackLimits_setFrames]; rfl
  · rw [State.stackBytes_setFrames]; rfl
  · refine ⟨?_, Nat.le_refl _, Nat.le_refl _, ?_, ?_, fun a c9 h9 => ⟨c9, h9, rfl, rfl, fun _ _ => rfl⟩⟩
    · obtain ⟨t, ht, -⟩ := State.frames_cons hr
      show T.setVm s.vm = { ((T.setVm s.vm).setFrames (.invoking m args :: below)).setFrames (T.setVm s.vm).frames with heap := T.heap, slotsUsed := T.slotsUsed }
      rw [State.setFrames_setFrames, State.setFrames_self ht]
      rfl
    · show T.slotsUsed = T.slotsUsed + ((T.heap.toList.drop T.heap.size).map (·.slots.size)).sum
      rw [List.drop_eq_nil_of_le (Nat.le_of_eq Array.length_toList)]
      rfl
    · show ((T.heap.toList.drop T.heap.size).map (·.slots.size)).sum ≤ 0
      rw [List.drop_eq_nil_of_le (Nat.le_of_eq Array.length_toList)]
      exact Nat.le_refl _
/-- 'throw new E()': new; dup; invokespecial; athrow -/
theorem vx_throw0 {cc : ByteArray} {pc : Nat} (hexec : p.tables.exec = Jvm.exec) (hb : c.code = cc) (hl : l.stackTraces = false) {own cls : String} {names : List String} {ik ic mc ms : Nat} {A : Nat → Prop}
    (hown : s.vm.findClass own = some m.cls) (hcls : Bundle.fit cls = true) (hnames : ∀ n ∈ names, Bundle.fit n = true)
    (hk : (Cond.classLink own ik cls).before args s = true) (hini : (Cond.initialized cls).before args s = true) (hat : ∀ w ∈ vx_at0 own ic cls names, w.before args s = true)
    (hgood : ∀ w ∈ Cond.classLink own ik cls :: Cond.initialized cls :: vx_at0 own ic cls names, vx_ot w = true)
    (hU : vx_Zq Bundle.tN "UNASSIGNED_STACK" Bundle.steD A s s.heap) (hN : vx_Zq Bundle.tN "SUPPRESSED_SENTINEL" Bundle.listD A s s.heap) (hS : va_S A s.heap H locs) (hsize : ls.size = c.maxLocals)
    (d0 : decode cc pc = .ok (.new ik, 3)) (d3 : decode cc (pc + 3) = .ok (.dup, 1)) (d4 : decode cc (pc + 4) = .ok (.invokespecial ic, 3)) (d7 : decode cc (pc + 7) = .ok (.athrow, 1))
    (hout : ∀ x ∈ c.exceptionTable.toList, covers x (pc + 7) = false)
    (hRframes : names.length + 3 < R.frames) (hRlocals : (rest.map fun v => v.category).sum + (13 * (names.length + 1) + 42) ≤ R.locals) (hRcells : cells + 1 ≤ R.cells) (hRslots : slots + 6 ≤ R.slots) (hlocks : meth.locks = false)
    (hx : ∀ t : State, s.vm.Alike t.vm → H.size ≤ t.heap.size → (∀ q : Nat, q < H.size → t.heap[q]? = H[q]?) → XC cls s t)
    (hf : ∀ z ∈ locs, free z.base) (hc : cells + 1 ≤ mc) (hs : slots + 6 ≤ ms) :
    W p l e R s m args below meth c H locs cells slots (vx_MQ below Qc XC args s mc ms free) (F0 m pc ls rest) := by
  intro T hT X
  have htr : e.platform.stackTraces = false := (show e.platform.stackTraces = l.stackTraces by rw [X.admits.platform]).trans hl
  have Y := vx_rebase X (R' := { frames := R.frames, locals := R.locals, cells := 1, slots := 6 }) (Nat.le_refl _) (Nat.le_refl _) hRcells hRslots
  obtain ⟨s', hA⟩ : ∃ z, z = (T.setVm s.vm).setFrames (.invoking m args :: below) := ⟨_, rfl⟩
  rw [← hA] at Y
  have hvm : s'.vm = s.vm := by rw [hA]; rfl
  have hhp : s'.heap = H := by rw [hA]; exact hT
  have hW0 : s.WarmedH s'.vm := by rw [hvm]; exact State.WarmedH.refl s
  have hat' : ∀ w ∈ vx_at0 own ic cls names, w.before args s' = true := fun w hw => vx_ot_at hW0 hvm.symm (hgood w (List.mem_cons_of_mem _ (List.mem_cons_of_mem _ hw))) (hat w hw)
  have hk' : (Cond.classLink own ik cls).before args s' = true := vx_ot_at hW0 hvm.symm (hgood _ List.mem_cons_self) hk
  have hini' : (Cond.initialized cls).before args s' = true := vx_ot_at hW0 hvm.symm (hgood _ (List.mem_cons_of_mem _ List.mem_cons_self)) hini
  have hU' : vx_Zq Bundle.tN "UNASSIGNED_STACK" Bundle.steD A s' s'.heap := by rw [hhp]; exact vx_Zq.moved hW0.alike (hU.kept hS.2.1)
  have hN' : vx_Zq Bundle.tN "SUPPRESSED_SENTINEL" Bundle.listD A s' s'.heap := by rw [hhp]; exact vx_Zq.moved hW0.alike (hN.kept hS.2.1)
  have h : ∀ w ∈ Bundle.ownAtoms0 own ic cls names, w.before args s' = true := vx_own hat' (vx_isRefq hU'.1) (vx_isRefq hN'.1) hU'.2.word hN'.2.word
  have hown' : s'.vm.findClass own = some m.cls := by rw [hvm]; exact hown
  have hins : (Cond.instantiable cls 6).before args s' = true := h _ (by simp [Bundle.ownAtoms0])
  obtain ⟨vm₁, cX, kX, hfX, hkX, -, -, X₁, st1⟩ := Y.newCold hexec (own := own) (C := cls) (index := ik) (n := 6) hown' hk' hins hini'
    (g := F0 m pc ls rest) rfl (by rw [hb]; exact d0) (Nat.le_refl _) (Nat.le_refl _)
  generalize hT1 : (T.setVm vm₁).pushCell { cls := cX, slots := kX.instanceTypes.map defaultValue, vm := .none } = T1 at X₁ st1
  have hcat : (Value.ref T.heap.size).category = 1 := rfl
  have hcellA : T1.heap[T.heap.size]? = some (freshCell cX kX) := by rw [← hT1]; exact State.heap_pushCell_size _ _
  have d3' : decode c.code (pc + 3) = .ok (.dup, 1) := by rw [hb]; exact d3
  obtain ⟨U, hsteps, hrun, hend, hW, hsame, ce, hce, hO⟩ := X₁.ctorThrow0 hexec htr (own := own) (cls := cls) (names := names) (ic := ic) hown' hcls hnames h (fun x hx => nomatch hx) hfX hkX hcellA (by rw [hhp, hT]; exact Nat.le_refl _)
    (g := { method := m, pc := pc + 4, locals := ls, stack := .ref T.heap.size :: .ref T.heap.size :: rest, locked := none }) rfl hsize rfl rfl (rest := rest) rfl
    (by rw [hb]; exact d4) (by rw [hb]; exact d7) hout hRframes (by simp only [List.map_cons, List.sum_cons, hcat]; omega) hlocks
  obtain ⟨f1, f2⟩ := vx_frame hsame
  rw [hhp] at f1 f2
  have hWs : s.WarmedH U.vm := State.WarmedH.trans hW0 hW
  have hcl : s.vm.findClass cls = some ce.cls := by
    have h9 := hO.cls
    rw [hvm] at h9
    exact h9
  have hall : s.sameButNew ({ U with vm := s.vm } : State) locs mc ms := by
    subst hA
    obtain ⟨e1, e2⟩ := hsame
    rw [State.setFrames_setFrames] at e1
    have h2 : (T.setVm s.vm).sameButNew ({ U with vm := s.vm } : State) [] (0 + 1) (0 + 6) := ⟨e1, e2⟩
    have h3 := X.same.trans h2
    rw [List.append_nil] at h3
    exact h3.mono hc hs
  refine ⟨U, ?_, .threw T.heap.size, hrun, hend, Or.inr ⟨T.heap.size, rfl, cls, ce, locs, hx U hWs.alike f1 (fun q hq => f2 q hq (fun z hz => nomatch hz)), hce, hO.vm, hcl, hWs, hall, hf⟩⟩
  refine st1 _ ?_
  show Steps p.tables e below (T1.setTop { method := m, pc := pc + 3, locals := ls, stack := .ref T.heap.size :: rest, locked := none }) _
  jvm_step X₁.here [X₁.here.top, hexec, d3', Value.category]
  exact hsteps
/-- 'throw new E("text")': new; dup; ldc; invokespecial; athrow -/
theorem vx_throwS {cc : ByteArray} {pc : Nat} (hexec : p.tables.exec = Jvm.exec) (hb : c.code = cc) (hl : l.stackTraces = false) {own cls text : String} {names : List String} {ik is ic mc ms sa : Nat} {A : Nat → Prop}
    (hown : s.vm.findClass own = some m.cls) (hcls : Bundle.fit cls = true) (hnames : ∀ n ∈ names, Bundle.fit n = true)
    (hk : (Cond.classLink own ik cls).before args s = true) (hini : (Cond.initialized cls).before args s = true) (hstr : vk_R own is text sa s) (hat : ∀ w ∈ vx_atS own ic cls names, w.before args s = true)
    (hgood : ∀ w ∈ Cond.classLink own ik cls :: Cond.initialized cls :: vx_atS own ic cls names, vx_ot w = true)
    (hU : vx_Zq Bundle.tN "UNASSIGNED_STACK" Bundle.steD A s s.heap) (hN : vx_Zq Bundle.tN "SUPPRESSED_SENTINEL" Bundle.listD A s s.heap) (hS : va_S A s.heap H locs) (hsize : ls.size = c.maxLocals)
    (d0 : decode cc pc = .ok (.new ik, 3)) (d3 : decode cc (pc + 3) = .ok (.dup, 1)) (d4 : decode cc (pc + 4) = .ok (.ldc is, 2)) (d6 : decode cc (pc + 6) = .ok (.invokespecial ic, 3)) (d9 : decode cc (pc + 9) = .ok (.athrow, 1))
    (hout : ∀ x ∈ c.exceptionTable.toList, covers x (pc + 9) = false)
    (hRframes : names.length + 3 < R.frames) (hRlocals : (rest.map fun v => v.category).sum + (13 * (names.length + 1) + 43) ≤ R.locals) (hRcells : cells + 1 ≤ R.cells) (hRslots : slots + 6 ≤ R.slots) (hlocks : meth.locks = false)
    (hx : ∀ t : State, s.vm.Alike t.vm → H.size ≤ t.heap.size → (∀ q : Nat, q < H.size → t.heap[q]? = H[q]?) → XC cls s t)
    (hf : ∀ z ∈ locs, free z.base) (hc : cells + 1 ≤ mc) (hs : slots + 6 ≤ ms) :
    W p l e R s m args below meth c H locs cells slots (vx_MQ below Qc XC args s mc ms free) (F0 m pc ls rest) := by
  intro T hT X
  have htr : e.platform.stackTraces = false := (show e.platform.stackTraces = l.stackTraces by rw [X.admits.platform]).trans hl
  have Y := vx_rebase X (R' := { frames := R.frames, locals := R.locals, cells := 1, slots := 6 }) (Nat.le_refl _) (Nat.le_refl _) hRcells hRslots
  obtain ⟨s', hA⟩ : ∃ z, z = (T.setVm s.vm).setFrames (.invoking m args :: below) := ⟨_, rfl⟩
  rw [← hA] at Y
  have hvm : s'.vm = s.vm := by rw [hA]; rfl
  have hhp : s'.heap = H := by rw [hA]; exact hT
  have hW0 : s.WarmedH s'.vm := by rw [hvm]; exact State.WarmedH.refl s
  have hat' : ∀ w ∈ vx_atS own ic cls names, w.before args s' = true := fun w hw => vx_ot_at hW0 hvm.symm (hgood w (List.mem_cons_of_mem _ (List.mem_cons_of_mem _ hw))) (hat w hw)
  have hk' : (Cond.classLink own ik cls).before args s' = true := vx_ot_at hW0 hvm.symm (hgood _ List.mem_cons_self) hk
  have hini' : (Cond.initialized cls).before args s' = true := vx_ot_at hW0 hvm.symm (hgood _ (List.mem_cons_of_mem _ List.mem_cons_self)) hini
  have hU' : vx_Zq Bundle.tN "UNASSIGNED_STACK" Bundle.steD A s' s'.heap := by rw [hhp]; exact vx_Zq.moved hW0.alike (hU.kept hS.2.1)
  have hN' : vx_Zq Bundle.tN "SUPPRESSED_SENTINEL" Bundle.listD A s' s'.heap := by rw [hhp]; exact vx_Zq.moved hW0.alike (hN.kept hS.2.1)
  have h : ∀ w ∈ Bundle.ownAtoms own ic cls names, w.before args s' = true := vx_own hat' (vx_isRefq hU'.1) (vx_isRefq hN'.1) hU'.2.word hN'.2.word
  have hown' : s'.vm.findClass own = some m.cls := by rw [hvm]; exact hown
  have hins : (Cond.instantiable cls 6).before args s' = true := h _ (by simp [Bundle.ownAtoms])
  obtain ⟨vm₁, cX, kX, hfX, hkX, -, -, X₁, st1⟩ := Y.newCold hexec (own := own) (C := cls) (index := ik) (n := 6) hown' hk' hins hini'
    (g := F0 m pc ls rest) rfl (by rw [hb]; exact d0) (Nat.le_refl _) (Nat.le_refl _)
  generalize hT1 : (T.setVm vm₁).pushCell { cls := cX, slots := kX.instanceTypes.map defaultValue, vm := .none } = T1 at X₁ st1
  have hcat : (Value.ref T.heap.size).category = 1 := rfl
  have hcellA : T1.heap[T.heap.size]? = some (freshCell cX kX) := by rw [← hT1]; exact State.heap_pushCell_size _ _
  have d3' : decode c.code (pc + 3) = .ok (.dup, 1) := by rw [hb]; exact d3
  have d4' : decode c.code (pc + 4) = .ok (.ldc is, 2) := by rw [hb]; exact d4
  have hstr' : vk_R own is text sa s' := vk_R.warm hW0 hstr
  obtain ⟨U, hsteps, hrun, hend, hW, hsame, ce, hce, hO⟩ := X₁.ctorThrowS hexec htr (own := own) (cls := cls) (names := names) (ic := ic) hown' hcls hnames h (fun x hx => nomatch hx) hfX hkX hcellA (by rw [hhp, hT]; exact Nat.le_refl _) (msg := .ref sa) rfl
    (g := { method := m, pc := pc + 6, locals := ls, stack := .ref sa :: .ref T.heap.size :: .ref T.heap.size :: rest, locked := none }) rfl hsize rfl rfl (rest := rest) rfl
    (by rw [hb]; exact d6) (by rw [hb]; exact d9) hout hRframes (by simp only [List.map_cons, List.sum_cons, hcat]; omega) hlocks
  obtain ⟨f1, f2⟩ := vx_frame hsame
  rw [hhp] at f1 f2
  have hWs : s.WarmedH U.vm := State.WarmedH.trans hW0 hW
  have hcl : s.vm.findClass cls = some ce.cls := by
    have h9 := hO.cls
    rw [hvm] at h9
    exact h9
  have hall : s.sameButNew ({ U with vm := s.vm } : State) locs mc ms := by
    subst hA
    obtain ⟨e1, e2⟩ := hsame
    rw [State.setFrames_setFrames] at e1
    have h2 : (T.setVm s.vm).sameButNew ({ U with vm := s.vm } : State) [] (0 + 1) (0 + 6) := ⟨e1, e2⟩
    have h3 := X.same.trans h2
    rw [List.append_nil] at h3
    exact h3.mono hc hs
  refine ⟨U, ?_, .threw T.heap.size, hrun, hend, Or.inr ⟨T.heap.size, rfl, cls, ce, locs, hx U hWs.alike f1 (fun q hq => f2 q hq (fun z hz => nomatch hz)), hce, hO.vm, hcl, hWs, hall, hf⟩⟩
  refine st1 _ ?_
  show Steps p.tables e below (T1.setTop { method := m, pc := pc + 3, locals := ls, stack := .ref T.heap.size :: rest, locked := none }) _
  jvm_step X₁.here [X₁.here.top, hexec, d3', Value.category]
  exact X₁.ldcString hexec (own := own) (text := text) (index := is) (a := sa) hown' hstr'.1 hstr'.2
    (g := { method := m, pc := pc + 4, locals := ls, stack := .ref T.heap.size :: .ref T.heap.size :: rest, locked := none }) rfl d4' _ hsteps
/-- 'throw new E("text")', the text by a wide index -/
theorem vx_throwSW {cc : ByteArray} {pc : Nat} (hexec : p.tables.exec = Jvm.exec) (hb : c.code = cc) (hl : l.stackTraces = false) {own cls text : String} {names : List String} {ik is ic mc ms sa : Nat} {A : Nat → Prop}
    (hown : s.vm.findClass own = some m.cls) (hcls : Bundle.fit cls = true) (hnames : ∀ n ∈ names, Bundle.fit n = true)
    (hk : (Cond.classLink own ik cls).before args s = true) (hini : (Cond.initialized cls).before args s = true) (hstr : vk_R own is text sa s) (hat : ∀ w ∈ vx_atS own ic cls names, w.before args s = true)
    (hgood : ∀ w ∈ Cond.classLink own ik cls :: Cond.initialized cls :: vx_atS own ic cls names, vx_ot w = true)
    (hU : vx_Zq Bundle.tN "UNASSIGNED_STACK" Bundle.steD A s s.heap) (hN : vx_Zq Bundle.tN "SUPPRESSED_SENTINEL" Bundle.listD A s s.heap) (hS : va_S A s.heap H locs) (hsize : ls.size = c.maxLocals)
    (d0 : decode cc pc = .ok (.new ik, 3)) (d3 : decode cc (pc + 3) = .ok (.dup, 1)) (d4 : decode cc (pc + 4) = .ok (.ldc_w is, 3)) (d7 : decode cc (pc + 7) = .ok (.invokespecial ic, 3)) (d10 : decode cc (pc + 10) = .ok (.athrow, 1))
    (hout : ∀ x ∈ c.exceptionTable.toList, covers x (pc + 10) = false)
    (hRframes : names.length + 3 < R.frames) (hRlocals : (rest.map fun v => v.category).sum + (13 * (names.length + 1) + 43) ≤ R.locals) (hRcells : cells + 1 ≤ R.cells) (hRslots : slots + 6 ≤ R.slots) (hlocks : meth.locks = false)
    (hx : ∀ t : State, s.vm.Alike t.vm → H.size ≤ t.heap.size → (∀ q : Nat, q < H.size → t.heap[q]? = H[q]?) → XC cls s t)
    (hf : ∀ z ∈ locs, free z.base) (hc : cells + 1 ≤ mc) (hs : slots + 6 ≤ ms) :
    W p l e R s m args below meth c H locs cells slots (vx_MQ below Qc XC args s mc ms free) (F0 m pc ls rest) := by
  intro T hT X
  have htr : e.platform.stackTraces = false := (show e.platform.stackTraces = l.stackTraces by rw [X.admits.platform]).trans hl
  have Y := vx_rebase X (R' := { frames := R.frames, locals := R.locals, cells := 1, slots := 6 }) (Nat.le_refl _) (Nat.le_refl _) hRcells hRslots
  obtain ⟨s', hA⟩ : ∃ z, z = (T.setVm s.vm).setFrames (.invoking m args :: below) := ⟨_, rfl⟩
  rw [← hA] at Y
  have hvm : s'.vm = s.vm := by rw [hA]; rfl
  have hhp : s'.heap = H := by rw [hA]; exact hT
  have hW0 : s.WarmedH s'.vm := by rw [hvm]; exact State.WarmedH.refl s
  have hat' : ∀ w ∈ vx_atS own ic cls names, w.before args s' = true := fun w hw => vx_ot_at hW0 hvm.symm (hgood w (List.mem_cons_of_mem _ (List.mem_cons_of_mem _ hw))) (hat w hw)
  have hk' : (Cond.classLink own ik cls).before args s' = true := vx_ot_at hW0 hvm.symm (hgood _ List.mem_cons_self) hk
  have hini' : (Cond.initialized cls).before args s' = true := vx_ot_at hW0 hvm.symm (hgood _ (List.mem_cons_of_mem _ List.mem_cons_self)) hini
  have hU' : vx_Zq Bundle.tN "UNASSIGNED_STACK" Bundle.steD A s' s'.heap := by rw [hhp]; exact vx_Zq.moved hW0.alike (hU.kept hS.2.1)
  have hN' : vx_Zq Bundle.tN "SUPPRESSED_SENTINEL" Bundle.listD A s' s'.heap := by rw [hhp]; exact vx_Zq.moved hW0.alike (hN.kept hS.2.1)
  have h : ∀ w ∈ Bundle.ownAtoms own ic cls names, w.before args s' = true := vx_own hat' (vx_isRefq hU'.1) (vx_isRefq hN'.1) hU'.2.word hN'.2.word
  have hown' : s'.vm.findClass own = some m.cls := by rw [hvm]; exact hown
  have hins : (Cond.instantiable cls 6).before args s' = true := h _ (by simp [Bundle.ownAtoms])
  obtain ⟨vm₁, cX, kX, hfX, hkX, -, -, X₁, st1⟩ := Y.newCold hexec (own := own) (C := cls) (index := ik) (n := 6) hown' hk' hins hini'
    (g := F0 m pc ls rest) rfl (by rw [hb]; exact d0) (Nat.le_refl _) (Nat.le_refl _)
  generalize hT1 : (T.setVm vm₁).pushCell { cls := cX, slots := kX.instanceTypes.map defaultValue, vm := .none } = T1 at X₁ st1
  have hcat : (Value.ref T.heap.size).category = 1 := rfl
  have hcellA : T1.heap[T.heap.size]? = some (freshCell cX kX) := by rw [← hT1]; exact State.heap_pushCell_size _ _
  have d3' : decode c.code (pc + 3) = .ok (.dup, 1) := by rw [hb]; exact d3
  have d4' : decode c.code (pc + 4) = .ok (.ldc_w is, 3) := by rw [hb]; exact d4
  have hstr' : vk_R own is text sa s' := vk_R.warm hW0 hstr
  obtain ⟨U, hsteps, hrun, hend, hW, hsame, ce, hce, hO⟩ := X₁.ctorThrowS hexec htr (own := own) (cls := cls) (names := names) (ic := ic) hown' hcls hnames h (fun x hx => nomatch hx) hfX hkX hcellA (by rw [hhp, hT]; exact Nat.le_refl _) (msg := .ref sa) rfl
    (g := { method := m, pc := pc + 7, locals := ls, stack := .ref sa :: .ref T.heap.size :: .ref T.heap.size :: rest, locked := none }) rfl hsize rfl rfl (rest := rest) rfl
    (by rw [hb]; exact d7) (by rw [hb]; exact d10) hout hRframes (by simp only [List.map_cons, List.sum_cons, hcat]; omega) hlocks
  obtain ⟨f1, f2⟩ := vx_frame hsame
  rw [hhp] at f1 f2
  have hWs : s.WarmedH U.vm := State.WarmedH.trans hW0 hW
  have hcl : s.vm.findClass cls = some ce.cls := by
    have h9 := hO.cls
    rw [hvm] at h9
    exact h9
  have hall : s.sameButNew ({ U with vm := s.vm } : State) locs mc ms := by
    subst hA
    obtain ⟨e1, e2⟩ := hsame
    rw [State.setFrames_setFrames] at e1
    have h2 : (T.setVm s.vm).sameButNew ({ U with vm := s.vm } : State) [] (0 + 1) (0 + 6) := ⟨e1, e2⟩
    have h3 := X.same.trans h2
    rw [List.append_nil] at h3
    exact h3.mono hc hs
  refine ⟨U, ?_, .threw T.heap.size, hrun, hend, Or.inr ⟨T.heap.size, rfl, cls, ce, locs, hx U hWs.alike f1 (fun q hq => f2 q hq (fun z hz => nomatch hz)), hce, hO.vm, hcl, hWs, hall, hf⟩⟩
  refine st1 _ ?_
  show Steps p.tables e below (T1.setTop { method := m, pc := pc + 3, locals := ls, stack := .ref T.heap.size :: rest, locked := none }) _
  jvm_step X₁.here [X₁.here.top, hexec, d3', Value.category]
  exact X₁.ldcStringW hexec (own := own) (text := text) (index := is) (a := sa) hown' hstr'.1 hstr'.2
    (g := { method := m, pc := pc + 4, locals := ls, stack := .ref T.heap.size :: .ref T.heap.size :: rest, locked := none }) rfl d4' _ hsteps
end Ends
section Bodies
variable {l : Launch}
theorem vx_ofW {y : MethodName} {ws ws' : List Cond} {rm : Room} {Pc : Array Value → State → Prop} {Qc : Array Value → State → Outcome → State → Prop} {XC : String → State → State → Prop} {mc ms : Nat} {free : Addr → Prop} {cc : ByteArray} {maxL : Nat} {ret : Option FieldType}
    (hy : plainName y.cls = true) (hw : ws = Cond.code y cc maxL ret :: ws')
    (body : ∀ p e s m args below meth c s₁, BodyLoose p l y (headSpec ws rm) cc maxL ret e s m args below meth c s₁ → c.maxLocals = maxL → (∀ x ∈ c.exceptionTable.toList, False) → Pc args s →
      W p l e (headSpec ws rm).room s m args below meth c s.heap [] 0 0 (vx_MQ below Qc XC args s mc ms free) (entryFrame m args maxL)) : vx_Met l y ws rm Pc Qc XC mc ms free := by
  refine MetFree.of_bodyS (code := cc) (maxLocals := maxL) (ret := ret) hy ?_ ?_
  · intro args s m h hn
    obtain ⟨meth, c, h1, h2, h3, h4, h5, h6, -, -⟩ := Cond.code_spec hn (atoms_spec (ws := ws) h _ (by rw [hw]; exact List.mem_cons_self))
    exact ⟨meth, c, h1, h2, h3, h4, h5, h6⟩
  · intro p e s m args below meth c s₁ B hml hP _
    have hh0 : s₁.heap = s.heap := by rw [B.state]; rfl
    have ht : ∀ x ∈ c.exceptionTable.toList, False := by
      obtain ⟨meth9, c9, h1, h2, -, -, -, -, h7, -⟩ := Cond.code_spec B.named (atoms_spec (ws := ws) B.pre _ (by rw [hw]; exact List.mem_cons_self))
      cases Option.some.inj (h1.symm.trans B.method)
      cases Option.some.inj (h2.symm.trans (Stand.of_body B).code)
      intro x hx
      rw [Array.isEmpty_iff.mp h7] at hx
      cases hx
    obtain ⟨t, a1, o, b1, b2, b3⟩ := body p e s m args below meth c s₁ B hml ht hP s₁ hh0 (Stand.of_body B)
    exact ⟨t, o, a1, b1, b2, b3⟩
/-- the table of a body with handlers -/
theorem vx_table {p : Program} {x y : MethodName} {S : Spec} {cc bytes : ByteArray} {maxL maxL' : Nat} {ret ret' : Option FieldType} {e : Env} {s s₁ : State} {m : MethodId} {args : Array Value} {below : List Frame} {meth : Method} {c : Code} {hh : List (Nat × Nat × Nat × Nat)}
    (B : BodyLoose p l y S cc maxL ret e s m args below meth c s₁) (h : (Cond.codeWith y bytes maxL' ret' hh).before args s = true) : c.exceptionTable.toList = tableOf hh := by
  obtain ⟨m9, meth9, c9, hn9, h1, h2, -, -, h6, -⟩ := Cond.codeWith_spec h
  cases Option.some.inj (hn9.symm.trans B.named)
  cases Option.some.inj (h1.symm.trans B.method)
  cases Option.some.inj (h2.symm.trans (Stand.of_body B).code)
  rw [← h6, table_eq]
end Bodies
end VXA
/-! ===== END ===== -/
/-! ===== BEGIN a static call of a method with an exception table ===== -/
section VXS
variable {p : Program} {l : Launch} {e : Env} {R : Room} {s : State} {m : MethodId} {args : Array Value} {below : List Frame} {meth : Method} {c : Code} {T : State} {H : Heap} {locs : List Loc} {cells slots : Nat}
abbrev vx_CSW (R : Room) (s : State) (args : Array Value) (own : String) (index : Nat) (y : MethodName) (bytes : ByteArray) (maxL : Nat) (ret : Option FieldType) (hh : List (Nat × Nat × Nat × Nat)) (ws : List Cond) (rm : Room) (mc ms n : Nat) : Prop :=
  (rm.cells = mc ∧ rm.slots = ms ∧ rm.frames + 1 ≤ R.frames ∧ 8 + (maxL + 11) + rm.locals ≤ R.locals ∧ (∀ w ∈ ws, ∀ (a' : Array Value) (U : State), s.WarmedH U.vm → w.before a' U = true) ∧ Cond.codeWith y bytes maxL ret hh ∈ ws) ∧
  (Cond.codeWith y bytes maxL ret hh).before args s = true ∧ (Cond.initialized y.cls).before args s = true ∧ (y.cls ≠ "java/lang/invoke/MethodHandle" ∧ y.cls ≠ "java/lang/invoke/VarHandle") ∧
  (∀ sig, parseMethodDescriptor y.desc = some sig → n = sig.parameters.length) ∧ (Cond.methodLink own index y).before args s = true ∧ (Cond.static y).before args s = true
theorem vx_cwSW {own : String} {index maxL mc ms : Nat} {y : MethodName} {bytes : ByteArray} {ret : Option FieldType} {hh : List (Nat × Nat × Nat × Nat)} {Ts ws ws' : List Cond} {rm : Room} (n : Nat) (ht : ∀ w ∈ Ts, w.before args s = true) (hT : GoodIn Ts (va_wsS own index y ws)) (hw : ws = Cond.codeWith y bytes maxL ret hh :: ws') (hrc : rm.cells = mc) (hrs : rm.slots = ms)
    (hd : y.cls ≠ "java/lang/invoke/MethodHandle" ∧ y.cls ≠ "java/lang/invoke/VarHandle" ∧ (parseMethodDescriptor y.desc).map (fun d => d.parameters.length) = some n) (hR : rm.frames + 1 ≤ R.frames ∧ 8 + (maxL + 11) + rm.locals ≤ R.locals) :
    vx_CSW R s args own index y bytes maxL ret hh ws rm mc ms n := by
  have ok : ∀ w ∈ va_wsS own index y ws, w.before args s = true := fun w h => ht w (hT w h).1
  have hG : GoodIn Ts ws := fun w h => hT w (by unfold va_wsS; exact List.mem_append_right _ h)
  have hc : Cond.codeWith y bytes maxL ret hh ∈ ws := by rw [hw]; exact List.mem_cons_self
  refine ⟨⟨hrc, hrs, hR.1, hR.2, pay_in ht hG, hc⟩, ht _ (hG _ hc).1, ok _ (by simp [va_wsS]), ⟨hd.1, hd.2.1⟩, fun sig h => ?_, ok _ (by simp [va_wsS]), ok _ (by simp [va_wsS])⟩
  have h2 := hd.2.2
  rw [h] at h2
  exact (Option.some.inj h2).symm
theorem vx_callSW (X : Stand p l e R s m args below meth c T locs cells slots) (hexec : p.tables.exec = Jvm.exec) {own : String} {index : Nat} {y : MethodName} {bytes : ByteArray} {maxL : Nat} {ret : Option FieldType} {hh : List (Nat × Nat × Nat × Nat)}
    (hown : s.vm.findClass own = some m.cls) (hlink : (Cond.methodLink own index y).before args s = true) (hstat : (Cond.static y).before args s = true) (hinit : (Cond.initialized y.cls).before args s = true)
    (hcode : (Cond.codeWith y bytes maxL ret hh).before args s = true) (hy : y.cls ≠ "java/lang/invoke/MethodHandle" ∧ y.cls ≠ "java/lang/invoke/VarHandle")
    {W9 : Nat} {Pre : Pt → Array Value → Prop} {Post : Pt → Array Value → Option Value → Pt → Prop} (hK : Back l R p e below s args y 3 W9 Pre Post)
    {g : JFrame} (hg : g.method = m) (hsize : g.locals.size = c.maxLocals) {argsL rest : List Value} (hlen : ∀ sig, parseMethodDescriptor y.desc = some sig → argsL.length = sig.parameters.length)
    (hstack : g.stack = argsL.reverse ++ rest) (hW : 2 * g.monitorRoom + (rest.map fun v => v.category).sum ≤ W9) (hdg : decode c.code g.pc = .ok (.invokestatic index, 3))
    (hpre : ∀ vm₁, s.WarmedH vm₁ → Pre ⟨T.setVm vm₁, locs, cells, slots⟩ argsL.toArray) :
    ∃ (v : Option Value) (vm₁ : Vm) (B : Pt), s.WarmedH vm₁ ∧ Stand p l e R s m args below meth c B.U B.locs B.cells B.slots ∧ Post ⟨T.setVm vm₁, locs, cells, slots⟩ argsL.toArray v B ∧
      ∀ target, Steps p.tables e below (B.U.setTop { g with pc := g.pc + 3, stack := v.toList ++ rest }) target → Steps p.tables e below (T.setTop g) target := by
  obtain ⟨mk, methM, cM, hnamed, hmethM, -, -, -, -, -, -, hsigM⟩ := Cond.codeWith_spec hcode
  have hstatic : methM.isStatic = true := Cond.static_spec hnamed hmethM hstat
  obtain ⟨kP, hkP, -⟩ := className_of_methodNamed hnamed
  have hinitP : kP.init = .initialized := Cond.initialized_spec (findClass_of_methodNamed hnamed) hkP hinit
  obtain ⟨vm₁, X₁, hstep₁⟩ := X.invokestatic hexec hown hlink hnamed hmethM hstatic hkP hinitP hy (g := g) hg (argsL := argsL) (rest := rest) (hlen _ hsigM) hstack hdg
  obtain ⟨v, B, X', hpost, hsteps⟩ := hK m meth c ⟨T.setVm vm₁, locs, cells, slots⟩ { g with stack := rest } (.invokestatic index) mk argsL.toArray X₁ hg hsize hdg hW (X₁.named hnamed) (hpre vm₁ X₁.warmed)
  exact ⟨v, vm₁, B, X₁.warmed, X', hpost, fun target h => hstep₁ _ fun acts => by rw [doInvoke_state]; exact hsteps.trans h⟩
theorem vx_runSW {y : MethodName} {bytes cc : ByteArray} {maxL nL mc ms n index : Nat} {ret : Option FieldType} {hh : List (Nat × Nat × Nat × Nat)} {ws : List Cond} {rm : Room} {Pc : Array Value → State → Prop} {Qc : Array Value → State → Outcome → State → Prop} {free : Addr → Prop} {Ts : List Cond} {own : String} {As rest : List Value} {g : JFrame}
    (S : CallFix p m c cc nL s args Ts own) (hM : Met l y ws rm Pc Qc mc ms free) (cw : vx_CSW R s args own index y bytes maxL ret hh ws rm mc ms n) (hp : PreS s H Pc As)
    (hg : g.method = m) (hn : As.length = n) (hsize : g.locals.size = nL) (hstack : g.stack = As.reverse ++ rest) (hW : 2 * g.monitorRoom + (rest.map fun v => v.category).sum ≤ 8) (hdg : decode cc g.pc = .ok (.invokestatic index, 3)) (hf : cells + mc ≤ R.cells ∧ slots + ms ≤ R.slots) :
    va_Run p l e R s m args below meth c H locs cells slots mc ms g rest (Qc As.toArray) (free) := by
  obtain ⟨⟨hrc, hrs, hfr, hlo, hws, hcw⟩, hcode, hini, hy, hlen, hl, hstt⟩ := cw
  have hK : Back l R p e below s args y 3 8 (PreOf R mc ms Pc) (PostOf Qc mc ms free) := va_backW (hh := hh) (bytes := bytes) (maxL := maxL) (ret := ret) hM hp.1 hrc hrs hfr hlo hws hcw (fun a' U hW => word_at hW (Or.inl (by first | rfl | simp [Cond.onTables, Cond.keeps, Cond.steady])) hini)
  obtain ⟨hx, hb, hml, ho, -⟩ := S
  intro T hT X
  obtain ⟨v, vm₁, ⟨U', l2, c2, s2⟩, hW₁, X', ⟨g', mk, t, L, e1, e2, hq, h1, hL, h2, h3⟩, st⟩ := vx_callSW X hx (hh := hh) (bytes := bytes) (maxL := maxL) (ret := ret) ho hl hstt hini hcode hy hK hg (hsize.trans hml.symm) (argsL := As) (rest := rest) (fun sig h => hn.trans (hlen sig h)) hstack hW (by rw [hb]; exact hdg)
    (fun vm₁ hW₁ => ⟨hf.1, hf.2, hp.2 (T.setVm vm₁) hT hW₁⟩)
  dsimp only [Pt.U, Pt.locs, Pt.cells, Pt.slots] at X' e1 e2 h1 h2 h3 st
  subst h1; subst h2; subst h3
  exact ⟨v, (T.setVm vm₁).calling g' mk As.toArray, t, U', L, hT, X', hL, e1, e2, hq, st⟩
/-- not caught here, past rows that name other classes: it goes on to the caller -/
theorem vx_outP {p : Program} {l : Launch} {e : Env} {R : Room} {s : State} {m : MethodId} {args : Array Value} {below : List Frame} {meth : Method} {c : Code} {H : Heap} {locs : List Loc} {cells slots : Nat} {free : Addr → Prop} {ls : Array Slot} {rest : List Value} {Qc : Array Value → State → Outcome → State → Prop} {XC : String → State → State → Prop}
    {pc : Nat} {own E : String} {ce : Cell} {q : Addr} {mc ms : Nat} (hown : s.vm.findClass own = some m.cls) (hlocks : meth.locks = false)
    (hpass : ∀ z ∈ c.exceptionTable.toList, covers z pc = false ∨ (z.catchType ≠ 0 ∧ ∃ nm : String, (Cond.classLink own z.catchType nm).before args s = true ∧ va_Nc E nm s)) (hcell : H[q]? = some ce) (hv : ce.vm = .none) (hcl : s.vm.findClass E = some ce.cls)
    (hx : ∀ t : State, t.heap = H → s.vm.Alike t.vm → XC E s t) (hf : ∀ z ∈ locs, free z.base) (hc : cells ≤ mc) (hs : slots ≤ ms) :
    vx_W p l e R s m args below meth c H locs cells slots (vx_MQ below Qc XC args s mc ms free) (F0 m pc ls rest) q := by
  intro T hT X
  have hpl : e.platform.magicAccessors = ({} : Platform).magicAccessors := by rw [X.admits.platform]
  obtain ⟨vm', hW', X', st⟩ := X.outThrough hlocks q (g := F0 m pc ls rest) rfl rfl rfl (cell := ce) (by rw [hT]; exact hcell) (by rw [hv]; rfl)
    (by obtain ⟨k9, h9, -⟩ := Vm.findClass_spec hcl; exact ⟨k9, h9⟩) (fun z hz => by
      rcases hpass z hz with h | ⟨hz0, nm, hl1, hn1⟩
      · exact Or.inl h
      · obtain ⟨c6, hc6, hcl6⟩ := Cond.classLink_spec hown hl1 e.platform hpl
        obtain ⟨a8, b8, h1, h2, h3⟩ := hn1
        cases Option.some.inj (h1.symm.trans hcl)
        cases Option.some.inj (h2.symm.trans hc6)
        exact Or.inr ⟨hz0, _, hcl6, h3⟩)
  obtain ⟨g₀, hfr⟩ := X'.frames_eq
  have hcell9 : ((T.setVm vm').setFrames (.throwing q :: below)).heap[q]? = some ce := by
    show T.heap[q]? = some ce
    rw [hT]; exact hcell
  have hend : Ended ((T.setVm vm').setFrames (.throwing q :: below)) below (.threw q) := State.frames_setFrames _ (State.cur_lt_of_frames hfr)
  refine ⟨(T.setVm vm').setFrames (.throwing q :: below), ?_, .threw q, X'.here.running, hend, Or.inr ⟨q, rfl, E, ce, locs, hx _ hT (X'.ends _).1.alike, hcell9, hv, hcl, (X'.ends _).1, (X'.ends _).2.mono hc hs, hf⟩⟩
  rw [X.pushThrowing_eq]
  exact st
/-- a thing of a world lies in the heap -/
theorem vx_lt {D : va_G} {cl : List vw_C} {ws : va_W} {H1 : Heap} (h : va_P D cl ws H1) {k : Nat} {q : Nat × va_E} (hk : ws[k]? = some q) : q.1 < H1.size := (h k q hk).lt
end VXS
/-! ===== END ===== -/
/-! ===== BEGIN methods with a table of their own: called by a name, returning or throwing ===== -/
section VXH
/-! vx_backW, vx_callVX, vx_callSX, vx_callVW, vx_runVW, vx_runVX, vx_runSX, vx_ofWH follow the same proofs as their sisters above (Free/Laws.lean, Shelf42/LK1.lean); vx_outP calls Shelf42/NT130.lean (outThrough). -/
section
variable {l : Launch} {R : Room} {p : Program} {e : Env} {below : List Frame} {s : State} {sargs : Array Value} {y : MethodName} {len W9 : Nat}
theorem vx_backW {ws : List Cond} {rm : Room} {Pc : Array Value → State → Prop} {Qc : Array Value → State → Outcome → State → Prop} {XC : String → State → State → Prop} {mc ms : Nat} {free : Addr → Prop} {bytes : ByteArray} {maxL : Nat} {ret : Option FieldType} {hh : List (Nat × Nat × Nat × Nat)}
    (hM : vx_Met l y ws rm Pc Qc XC mc ms free) (hblind : FrameBlind Pc) (hrc : rm.cells = mc) (hrs : rm.slots = ms)
    (hframes : rm.frames + 1 ≤ R.frames) (hlocals : W9 + (maxL + 11) + rm.locals ≤ R.locals)
    (hws : ∀ w ∈ ws, ∀ a' U, s.WarmedH U.vm → w.before a' U = true) (hcode : Cond.codeWith y bytes maxL ret hh ∈ ws) (hinit : ∀ a' U, s.WarmedH U.vm → (Cond.initialized y.cls).before a' U = true) :
    vx_Back l R p e below s sargs y len W9 (PreOf R mc ms Pc) (PostOf Qc mc ms free) (vx_Post XC mc ms free) := by
  intro m meth c A g ig mk a X hg hsize hdg hW hn hp
  have h1 : (headSpec ws rm).pre.before a A.U = true := atoms_intro fun w hw => hws w hw _ _ X.warmed
  have h2 : (Cond.codeWith y bytes maxL ret hh).before a A.U = true := hws _ hcode _ _ X.warmed
  have h3 : (Cond.initialized y.cls).before a A.U = true := hinit _ _ X.warmed
  have h4 : A.cells + (headSpec ws rm).room.cells ≤ R.cells := by rw [show (headSpec ws rm).room.cells = mc from hrc]; exact hp.1
  have h5 : A.slots + (headSpec ws rm).room.slots ≤ R.slots := by rw [show (headSpec ws rm).room.slots = ms from hrs]; exact hp.2.1
  have hPc : Pc a (A.U.calling g mk a) := hblind _ _ _ _ hp.2.2
  obtain ⟨U, Ls, c0, s0⟩ := A
  dsimp only [Pt.U, Pt.locs, Pt.cells, Pt.slots] at h1 h2 h3 h4 h5 X hn hPc ⊢
  obtain ⟨m9, methY, cY, hn9, hmY, hcY, -, hlY, -⟩ := Cond.codeWith_spec h2
  cases Option.some.inj (hn9.symm.trans hn)
  obtain ⟨kY, hkY, -⟩ := className_of_methodNamed hn
  have hinitY : kY.init = .initialized := Cond.initialized_spec (findClass_of_methodNamed hn) hkY h3
  have h : At U g.method c below := by rw [hg]; exact X.here
  have hlocals9 : W9 + (maxL + 11) + (headSpec ws rm).room.locals ≤ R.locals := hlocals
  have happ : (headSpec ws rm).appliesLoose y e.platform (U.calling g mk a) = true :=
    Spec.appliesLoose_calling (g := g) h hdg hn hkY hinitY
      (X.room_calling (g := g) (R' := (headSpec ws rm).room) hsize hmY hcY hframes (by rw [hlY]; omega) h4 h5) h1
  obtain ⟨mid, hmid⟩ := h.above
  have hfr : (U.setTop g).frames = (.java g :: mid) ++ below := by rw [State.frames_setTop' g h.top, hmid]; rfl
  obtain ⟨o, s₂, hsteps, -, hend, hq⟩ := Steps.callFree hM p X.admits X.cas X.clock (acts := []) hfr happ hPc trivial
  have hq' : vx_Q Qc XC mc ms free a (U.calling g mk a) o s₂ := hq
  rw [State.frames_setTop' g h.top] at hend
  obtain ⟨g₀, hg0⟩ := Option.isSome_iff_exists.mp h.top
  obtain ⟨r, hr⟩ := State.topJava?_eq_some.mp hg0
  have hr' : (({ U with heap := s₂.heap, slotsUsed := s₂.slotsUsed } : State).setVm s₂.vm).frames = .java g₀ :: r := hr
  rcases hq' with ⟨hqc, L, hfe, hL⟩ | ⟨q, rfl, E, ce, L, hx, hce, hcv, hcl, hW₂, hsm, hL⟩
  · obtain ⟨⟨v, rfl⟩, hW₂, e2, q2, q3, q4, q5, q6⟩ := id hfe
    have e3 : s₂ = ({ (U.calling g mk a).setFrames s₂.frames with heap := s₂.heap, slotsUsed := s₂.slotsUsed } : State).setVm s₂.vm := by
      have : s₂ = ({ s₂ with vm := (U.calling g mk a).vm } : State).setVm s₂.vm := rfl
      rw [e2] at this
      exact this
    obtain ⟨c₂, i₂, len₂, hc₂, hd₂, hf₂⟩ := hend
    have hW' : U.WarmedH s₂.vm := hW₂
    have hcc : c₂ = c := by
      have h1 : s₂.code? g.method = U.code? g.method := by
        rw [State.code?_eq, State.code?_eq, hW'.alike.method?]
      exact Option.some.inj (hc₂.symm.trans (h1.trans h.code))
    subst hcc
    have hlen : len₂ = len := by rw [hdg] at hd₂; cases hd₂; rfl
    subst hlen
    have hs₂ : s₂ = (({ U with heap := s₂.heap, slotsUsed := s₂.slotsUsed } : State).setVm s₂.vm).setTop { g with pc := g.pc + len₂, stack := v.toList ++ g.stack } := by
      refine e3.trans ?_
      rw [hf₂, State.calling_eq h.top, State.setFrames_setFrames, State.setTop_of_frames _ hr', hr]
      rfl
    have hsame : U.sameButNew ({ U with heap := s₂.heap, slotsUsed := s₂.slotsUsed } : State) L mc ms := by
      refine ⟨?_, q2, q3, q4, q5, q6⟩
      obtain ⟨t, ht, -⟩ := State.frames_cons hr
      show ({ U with heap := s₂.heap, slotsUsed := s₂.slotsUsed } : State) = { U.setFrames U.frames with heap := s₂.heap, slotsUsed := s₂.slotsUsed }
      rw [State.setFrames_self ht]
    subst hg
    refine Or.inl ⟨v, ⟨(({ U with heap := s₂.heap, slotsUsed := s₂.slotsUsed } : State).setVm s₂.vm), Ls ++ L, c0 + mc, s0 + ms⟩,
      ⟨X.admits, X.cas, X.clock, X.frames, X.room, X.hears, X.method, X.code, (X.here.setHeapUsed s₂.heap s₂.slotsUsed).setVm hW'.alike, X.tail, State.WarmedH.trans X.warmed hW', X.limits, X.bytes, X.same.trans (hsame.setVm s.vm)⟩,
      ⟨g, mk, s₂, L, rfl, rfl, hqc, rfl, hL, rfl, rfl⟩, ?_⟩
    show Steps p.tables e below _ ((({ U with heap := s₂.heap, slotsUsed := s₂.slotsUsed } : State).setVm s₂.vm).setTop { g with pc := g.pc + len₂, stack := v.toList ++ g.stack })
    rw [← hs₂]
    exact hsteps
  · obtain ⟨e2, q2, q3, q4, q5, q6⟩ := id hsm
    have e3 : s₂ = ({ (U.calling g mk a).setFrames s₂.frames with heap := s₂.heap, slotsUsed := s₂.slotsUsed } : State).setVm s₂.vm := by
      have : s₂ = ({ s₂ with vm := (U.calling g mk a).vm } : State).setVm s₂.vm := rfl
      rw [e2] at this
      exact this
    have hf₂ : s₂.frames = .throwing q :: .java g :: U.frames.tail := hend
    have hW' : U.WarmedH s₂.vm := hW₂
    have hs₂ : s₂ = ((({ U with heap := s₂.heap, slotsUsed := s₂.slotsUsed } : State).setVm s₂.vm).setTop g).pushFrame (.throwing q) := by
      refine e3.trans ?_
      rw [hf₂, State.calling_eq h.top, State.setFrames_setFrames, State.pushFrame, State.frames_setTop _ hr', State.setTop_of_frames _ hr', State.setFrames_setFrames, hr]
      rfl
    have hsame : U.sameButNew ({ U with heap := s₂.heap, slotsUsed := s₂.slotsUsed } : State) L mc ms := by
      refine ⟨?_, q2, q3, q4, q5, q6⟩
      obtain ⟨t, ht, -⟩ := State.frames_cons hr
      show ({ U with heap := s₂.heap, slotsUsed := s₂.slotsUsed } : State) = { U.setFrames U.frames with heap := s₂.heap, slotsUsed := s₂.slotsUsed }
      rw [State.setFrames_self ht]
    subst hg
    refine Or.inr ⟨q, ⟨(({ U with heap := s₂.heap, slotsUsed := s₂.slotsUsed } : State).setVm s₂.vm), Ls ++ L, c0 + mc, s0 + ms⟩,
      ⟨X.admits, X.cas, X.clock, X.frames, X.room, X.hears, X.method, X.code, (X.here.setHeapUsed s₂.heap s₂.slotsUsed).setVm hW'.alike, X.tail, State.WarmedH.trans X.warmed hW', X.limits, X.bytes, X.same.trans (hsame.setVm s.vm)⟩,
      ⟨g, mk, s₂, L, E, ce, rfl, rfl, hx, hce, hcv, hcl, rfl, hL, rfl, rfl⟩, ?_⟩
    show Steps p.tables e below _ (((({ U with heap := s₂.heap, slotsUsed := s₂.slotsUsed } : State).setVm s₂.vm).setTop g).pushFrame (.throwing q))
    rw [← hs₂]
    exact hsteps
end
variable {p : Program} {l : Launch} {e : Env} {R : Room} {s : State} {m : MethodId} {args : Array Value} {below : List Frame} {meth : Method} {c : Code} {T : State} {H : Heap} {locs : List Loc} {cells slots : Nat}
theorem vx_callVX (X : Stand p l e R s m args below meth c T locs cells slots) (hexec : p.tables.exec = Jvm.exec) {own C : String} {index : Nat} {y : MethodName} {bytes : ByteArray} {maxL : Nat} {ret : Option FieldType} {hh : List (Nat × Nat × Nat × Nat)}
    (hown : s.vm.findClass own = some m.cls) (hlink : (Cond.methodLink own index y).before args s = true) (hinst : (Cond.instanceMethod y).before args s = true) (hsel : (Cond.selects C y y).before args s = true)
    (hcode : (Cond.codeWith y bytes maxL ret hh).before args s = true) (hy : y.cls ≠ "java/lang/invoke/MethodHandle" ∧ y.cls ≠ "java/lang/invoke/VarHandle")
    {W9 : Nat} {Pre : Pt → Array Value → Prop} {Post : Pt → Array Value → Option Value → Pt → Prop} {PostX : Pt → Array Value → Addr → Pt → Prop} (hK : vx_Back l R p e below s args y 3 W9 Pre Post PostX)
    {b : Addr} {cellB : Cell} (hcell : T.heap[b]? = some cellB) (hobj : cellB.vm.isStatics = false) (hcls : s.vm.findClass C = some cellB.cls)
    {g : JFrame} (hg : g.method = m) (hsize : g.locals.size = c.maxLocals) {argsL rest : List Value} (hlen : ∀ sig, parseMethodDescriptor y.desc = some sig → argsL.length = sig.parameters.length)
    (hstack : g.stack = argsL.reverse ++ .ref b :: rest) (hW : 2 * g.monitorRoom + (rest.map fun v => v.category).sum ≤ W9) (hdg : decode c.code g.pc = .ok (.invokevirtual index, 3))
    (hpre : ∀ vm₁, s.WarmedH vm₁ → Pre ⟨T.setVm vm₁, locs, cells, slots⟩ (Value.ref b :: argsL).toArray) :
    (∃ (v : Option Value) (vm₁ : Vm) (B : Pt), s.WarmedH vm₁ ∧ Stand p l e R s m args below meth c B.U B.locs B.cells B.slots ∧ Post ⟨T.setVm vm₁, locs, cells, slots⟩ (Value.ref b :: argsL).toArray v B ∧
      ∀ target, Steps p.tables e below (B.U.setTop { g with pc := g.pc + 3, stack := v.toList ++ rest }) target → Steps p.tables e below (T.setTop g) target) ∨
    (∃ (q : Addr) (vm₁ : Vm) (B : Pt), s.WarmedH vm₁ ∧ Stand p l e R s m args below meth c B.U B.locs B.cells B.slots ∧ PostX ⟨T.setVm vm₁, locs, cells, slots⟩ (Value.ref b :: argsL).toArray q B ∧
      Steps p.tables e below (T.setTop g) ((B.U.setTop { g with stack := rest }).pushFrame (.throwing q))) := by
  obtain ⟨mk, methM, hnamed, hmethM, hstM, habM⟩ := Cond.instanceMethod_spec hinst
  obtain ⟨m8, methM', cM, hn8, hmethM', -, -, -, -, -, -, hsigM⟩ := Cond.codeWith_spec hcode
  cases Option.some.inj (hn8.symm.trans hnamed)
  cases hmethM.symm.trans hmethM'
  obtain ⟨c2, r2, m2, q1, q2, q3, q4, kP, hkP, hkPi⟩ := Cond.selects_spec hsel
  cases hcls.symm.trans q1
  cases (State.methodFound?_of_named hnamed hy).symm.trans q2
  cases hnamed.symm.trans q3
  have hselP : selectMethod e.platform s.vm cellB.cls mk = .method mk := by rw [Launch.admits_selectMethod X.admits]; exact q4
  obtain ⟨vm₁, X₁, hstep₁⟩ := X.invokevirtual hexec hown hlink hnamed hmethM hstM hkP hkPi hy (a := b) (cell := cellB) hcell
    (fun z h => by rw [h] at hobj; cases hobj) hselP hmethM habM hkP hkPi (g := g) hg (argsL := argsL) (rest := rest) (hlen _ hsigM) hstack hdg
  rcases hK m meth c ⟨T.setVm vm₁, locs, cells, slots⟩ { g with stack := rest } (.invokevirtual index) mk (Value.ref b :: argsL).toArray X₁ hg hsize hdg hW (X₁.named hnamed) (hpre vm₁ X₁.warmed) with ⟨v, B, X', hpost, hsteps⟩ | ⟨q, B, X', hpost, hsteps⟩
  · exact Or.inl ⟨v, vm₁, B, X₁.warmed, X', hpost, fun target h => hstep₁ _ fun acts => by rw [doInvoke_state]; exact hsteps.trans h⟩
  · exact Or.inr ⟨q, vm₁, B, X₁.warmed, X', hpost, hstep₁ _ fun acts => by rw [doInvoke_state]; exact hsteps⟩
theorem vx_callSX (X : Stand p l e R s m args below meth c T locs cells slots) (hexec : p.tables.exec = Jvm.exec) {own : String} {index : Nat} {y : MethodName} {bytes : ByteArray} {maxL : Nat} {ret : Option FieldType} {hh : List (Nat × Nat × Nat × Nat)}
    (hown : s.vm.findClass own = some m.cls) (hlink : (Cond.methodLink own index y).before args s = true) (hstat : (Cond.static y).before args s = true) (hinit : (Cond.initialized y.cls).before args s = true)
    (hcode : (Cond.codeWith y bytes maxL ret hh).before args s = true) (hy : y.cls ≠ "java/lang/invoke/MethodHandle" ∧ y.cls ≠ "java/lang/invoke/VarHandle")
    {W9 : Nat} {Pre : Pt → Array Value → Prop} {Post : Pt → Array Value → Option Value → Pt → Prop} {PostX : Pt → Array Value → Addr → Pt → Prop} (hK : vx_Back l R p e below s args y 3 W9 Pre Post PostX)
    {g : JFrame} (hg : g.method = m) (hsize : g.locals.size = c.maxLocals) {argsL rest : List Value} (hlen : ∀ sig, parseMethodDescriptor y.desc = some sig → argsL.length = sig.parameters.length)
    (hstack : g.stack = argsL.reverse ++ rest) (hW : 2 * g.monitorRoom + (rest.map fun v => v.category).sum ≤ W9) (hdg : decode c.code g.pc = .ok (.invokestatic index, 3))
    (hpre : ∀ vm₁, s.WarmedH vm₁ → Pre ⟨T.setVm vm₁, locs, cells, slots⟩ argsL.toArray) :
    (∃ (v : Option Value) (vm₁ : Vm) (B : Pt), s.WarmedH vm₁ ∧ Stand p l e R s m args below meth c B.U B.locs B.cells B.slots ∧ Post ⟨T.setVm vm₁, locs, cells, slots⟩ argsL.toArray v B ∧
      ∀ target, Steps p.tables e below (B.U.setTop { g with pc := g.pc + 3, stack := v.toList ++ rest }) target → Steps p.tables e below (T.setTop g) target) ∨
    (∃ (q : Addr) (vm₁ : Vm) (B : Pt), s.WarmedH vm₁ ∧ Stand p l e R s m args below meth c B.U B.locs B.cells B.slots ∧ PostX ⟨T.setVm vm₁, locs, cells, slots⟩ argsL.toArray q B ∧
      Steps p.tables e below (T.setTop g) ((B.U.setTop { g with stack := rest }).pushFrame (.throwing q))) := by
  obtain ⟨mk, methM, cM, hnamed, hmethM, -, -, -, -, -, -, hsigM⟩ := Cond.codeWith_spec hcode
  have hstatic : methM.isStatic = true := Cond.static_spec hnamed hmethM hstat
  obtain ⟨kP, hkP, -⟩ := className_of_methodNamed hnamed
  have hinitP : kP.init = .initialized := Cond.initialized_spec (findClass_of_methodNamed hnamed) hkP hinit
  obtain ⟨vm₁, X₁, hstep₁⟩ := X.invokestatic hexec hown hlink hnamed hmethM hstatic hkP hinitP hy (g := g) hg (argsL := argsL) (rest := rest) (hlen _ hsigM) hstack hdg
  rcases hK m meth c ⟨T.setVm vm₁, locs, cells, slots⟩ { g with stack := rest } (.invokestatic index) mk argsL.toArray X₁ hg hsize hdg hW (X₁.named hnamed) (hpre vm₁ X₁.warmed) with ⟨v, B, X', hpost, hsteps⟩ | ⟨q, B, X', hpost, hsteps⟩
  · exact Or.inl ⟨v, vm₁, B, X₁.warmed, X', hpost, fun target h => hstep₁ _ fun acts => by rw [doInvoke_state]; exact hsteps.trans h⟩
  · exact Or.inr ⟨q, vm₁, B, X₁.warmed, X', hpost, hstep₁ _ fun acts => by rw [doInvoke_state]; exact hsteps⟩
theorem vx_callVW (X : Stand p l e R s m args below meth c T locs cells slots) (hexec : p.tables.exec = Jvm.exec) {own C : String} {index : Nat} {y : MethodName} {bytes : ByteArray} {maxL : Nat} {ret : Option FieldType} {hh : List (Nat × Nat × Nat × Nat)}
    (hown : s.vm.findClass own = some m.cls) (hlink : (Cond.methodLink own index y).before args s = true) (hinst : (Cond.instanceMethod y).before args s = true) (hsel : (Cond.selects C y y).before args s = true)
    (hcode : (Cond.codeWith y bytes maxL ret hh).before args s = true) (hy : y.cls ≠ "java/lang/invoke/MethodHandle" ∧ y.cls ≠ "java/lang/invoke/VarHandle")
    {W9 : Nat} {Pre : Pt → Array Value → Prop} {Post : Pt → Array Value → Option Value → Pt → Prop} (hK : Back l R p e below s args y 3 W9 Pre Post)
    {b : Addr} {cellB : Cell} (hcell : T.heap[b]? = some cellB) (hobj : cellB.vm.isStatics = false) (hcls : s.vm.findClass C = some cellB.cls)
    {g : JFrame} (hg : g.method = m) (hsize : g.locals.size = c.maxLocals) {argsL rest : List Value} (hlen : ∀ sig, parseMethodDescriptor y.desc = some sig → argsL.length = sig.parameters.length)
    (hstack : g.stack = argsL.reverse ++ .ref b :: rest) (hW : 2 * g.monitorRoom + (rest.map fun v => v.category).sum ≤ W9) (hdg : decode c.code g.pc = .ok (.invokevirtual index, 3))
    (hpre : ∀ vm₁, s.WarmedH vm₁ → Pre ⟨T.setVm vm₁, locs, cells, slots⟩ (Value.ref b :: argsL).toArray) :
    ∃ (v : Option Value) (vm₁ : Vm) (B : Pt), s.WarmedH vm₁ ∧ Stand p l e R s m args below meth c B.U B.locs B.cells B.slots ∧ Post ⟨T.setVm vm₁, locs, cells, slots⟩ (Value.ref b :: argsL).toArray v B ∧
      ∀ target, Steps p.tables e below (B.U.setTop { g with pc := g.pc + 3, stack := v.toList ++ rest }) target → Steps p.tables e below (T.setTop g) target := by
  obtain ⟨mk, methM, hnamed, hmethM, hstM, habM⟩ := Cond.instanceMethod_spec hinst
  obtain ⟨m8, methM', cM, hn8, hmethM', -, -, -, -, -, -, hsigM⟩ := Cond.codeWith_spec hcode
  cases Option.some.inj (hn8.symm.trans hnamed)
  cases hmethM.symm.trans hmethM'
  obtain ⟨c2, r2, m2, q1, q2, q3, q4, kP, hkP, hkPi⟩ := Cond.selects_spec hsel
  cases hcls.symm.trans q1
  cases (State.methodFound?_of_named hnamed hy).symm.trans q2
  cases hnamed.symm.trans q3
  have hselP : selectMethod e.platform s.vm cellB.cls mk = .method mk := by rw [Launch.admits_selectMethod X.admits]; exact q4
  obtain ⟨vm₁, X₁, hstep₁⟩ := X.invokevirtual hexec hown hlink hnamed hmethM hstM hkP hkPi hy (a := b) (cell := cellB) hcell
    (fun z h => by rw [h] at hobj; cases hobj) hselP hmethM habM hkP hkPi (g := g) hg (argsL := argsL) (rest := rest) (hlen _ hsigM) hstack hdg
  obtain ⟨v, B, X', hpost, hsteps⟩ := hK m meth c ⟨T.setVm vm₁, locs, cells, slots⟩ { g with stack := rest } (.invokevirtual index) mk (Value.ref b :: argsL).toArray X₁ hg hsize hdg hW (X₁.named hnamed) (hpre vm₁ X₁.warmed)
  exact ⟨v, vm₁, B, X₁.warmed, X', hpost, fun target h => hstep₁ _ fun acts => by rw [doInvoke_state]; exact hsteps.trans h⟩
abbrev vx_CVW (R : Room) (s : State) (args : Array Value) (own C : String) (index : Nat) (y : MethodName) (bytes : ByteArray) (maxL : Nat) (ret : Option FieldType) (hh : List (Nat × Nat × Nat × Nat)) (ws : List Cond) (rm : Room) (mc ms n : Nat) : Prop :=
  (rm.cells = mc ∧ rm.slots = ms ∧ rm.frames + 1 ≤ R.frames ∧ 8 + (maxL + 11) + rm.locals ≤ R.locals ∧ (∀ w ∈ ws, ∀ (a' : Array Value) (U : State), s.WarmedH U.vm → w.before a' U = true) ∧ Cond.codeWith y bytes maxL ret hh ∈ ws) ∧
  (Cond.codeWith y bytes maxL ret hh).before args s = true ∧ (Cond.initialized y.cls).before args s = true ∧ (y.cls ≠ "java/lang/invoke/MethodHandle" ∧ y.cls ≠ "java/lang/invoke/VarHandle") ∧
  (∀ sig, parseMethodDescriptor y.desc = some sig → n = sig.parameters.length) ∧ (Cond.methodLink own index y).before args s = true ∧ (Cond.instanceMethod y).before args s = true ∧ (Cond.selects C y y).before args s = true
theorem vx_cwVW {own C : String} {index maxL mc ms : Nat} {y : MethodName} {bytes : ByteArray} {ret : Option FieldType} {hh : List (Nat × Nat × Nat × Nat)} {Ts ws ws' : List Cond} {rm : Room} (n : Nat) (ht : ∀ w ∈ Ts, w.before args s = true) (hT : GoodIn Ts (wsV own index C y ws)) (hw : ws = Cond.codeWith y bytes maxL ret hh :: ws') (hrc : rm.cells = mc) (hrs : rm.slots = ms)
    (hd : y.cls = C ∧ y.cls ≠ "java/lang/invoke/MethodHandle" ∧ y.cls ≠ "java/lang/invoke/VarHandle" ∧ (parseMethodDescriptor y.desc).map (fun d => d.parameters.length) = some n) (hR : rm.frames + 1 ≤ R.frames ∧ 8 + (maxL + 11) + rm.locals ≤ R.locals) :
    vx_CVW R s args own C index y bytes maxL ret hh ws rm mc ms n := by
  obtain ⟨hC, hd⟩ := hd
  subst hC
  have ok : ∀ w ∈ wsV own index y.cls y ws, w.before args s = true := fun w h => ht w (hT w h).1
  have hG : GoodIn Ts ws := fun w h => hT w (by unfold wsV; exact List.mem_append_right _ h)
  have hc : Cond.codeWith y bytes maxL ret hh ∈ ws := by rw [hw]; exact List.mem_cons_self
  refine ⟨⟨hrc, hrs, hR.1, hR.2, pay_in ht hG, hc⟩, ht _ (hG _ hc).1, ok _ (by simp [wsV]), ⟨hd.1, hd.2.1⟩, fun sig h => ?_, ok _ (by simp [wsV]), ok _ (by simp [wsV]), ok _ (by simp [wsV])⟩
  have h2 := hd.2.2
  rw [h] at h2
  exact (Option.some.inj h2).symm
theorem vx_runVW {y : MethodName} {bytes cc : ByteArray} {maxL nL mc ms n index : Nat} {ret : Option FieldType} {hh : List (Nat × Nat × Nat × Nat)} {ws : List Cond} {rm : Room} {Pc : Array Value → State → Prop} {Qc : Array Value → State → Outcome → State → Prop} {free : Addr → Prop} {Ts : List Cond} {own C : String} {b : Addr} {As rest : List Value} {g : JFrame}
    (S : CallFix p m c cc nL s args Ts own) (hM : Met l y ws rm Pc Qc mc ms free) (cw : vx_CVW R s args own C index y bytes maxL ret hh ws rm mc ms n) (hp : PreV s H C b Pc As)
    (hg : g.method = m) (hn : As.length = n) (hsize : g.locals.size = nL) (hstack : g.stack = As.reverse ++ .ref b :: rest) (hW : 2 * g.monitorRoom + (rest.map fun v => v.category).sum ≤ 8) (hdg : decode cc g.pc = .ok (.invokevirtual index, 3)) (hf : cells + mc ≤ R.cells ∧ slots + ms ≤ R.slots) :
    va_Run p l e R s m args below meth c H locs cells slots mc ms g rest (Qc (Value.ref b :: As).toArray) free := by
  obtain ⟨⟨hrc, hrs, hfr, hlo, hws, hcw⟩, hcode, hini, hy, hlen, hl, hin, hse⟩ := cw
  have hK : Back l R p e below s args y 3 8 (PreOf R mc ms Pc) (PostOf Qc mc ms free) := va_backW (hh := hh) (bytes := bytes) (maxL := maxL) (ret := ret) hM hp.1 hrc hrs hfr hlo hws hcw (fun a' U hW => word_at hW (Or.inl (by first | rfl | simp [Cond.onTables, Cond.keeps, Cond.steady])) hini)
  obtain ⟨hx, hb, hml, ho, -⟩ := S
  obtain ⟨-, ⟨cellB, hcB, hoB, hclB⟩, hPc⟩ := hp
  intro T hT X
  obtain ⟨v, vm₁, ⟨U', l2, c2, s2⟩, hW₁, X', ⟨g', mk, t, L, e1, e2, hq, h1, hL, h2, h3⟩, st⟩ := vx_callVW X hx (C := C) (hh := hh) (bytes := bytes) (maxL := maxL) (ret := ret) ho hl hin hse hcode hy hK (by rw [hT]; exact hcB) hoB hclB hg (hsize.trans hml.symm) (argsL := As) (rest := rest) (fun sig h => hn.trans (hlen sig h)) hstack hW (by rw [hb]; exact hdg)
    (fun vm₁ hW₁ => ⟨hf.1, hf.2, hPc (T.setVm vm₁) hT hW₁⟩)
  dsimp only [Pt.U, Pt.locs, Pt.cells, Pt.slots] at X' e1 e2 h1 h2 h3 st
  subst h1; subst h2; subst h3
  exact ⟨v, (T.setVm vm₁).calling g' mk (Value.ref b :: As).toArray, t, U', L, hT, X', hL, e1, e2, hq, st⟩
section
variable {y : MethodName} {bytes cc : ByteArray} {maxL nL mc ms n index : Nat} {ret : Option FieldType} {ws : List Cond} {rm : Room} {Pc : Array Value → State → Prop} {Qc : Array Value → State → Outcome → State → Prop} {XC : String → State → State → Prop} {free : Addr → Prop} {Ts : List Cond} {own C : String} {b : Addr} {As rest : List Value} {g : JFrame}
theorem vx_runVX {hh : List (Nat × Nat × Nat × Nat)} (S : CallFix p m c cc nL s args Ts own) (hM : vx_Met l y ws rm Pc Qc XC mc ms free) (cw : vx_CVW R s args own C index y bytes maxL ret hh ws rm mc ms n) (hp : PreV s H C b Pc As)
    (hg : g.method = m) (hn : As.length = n) (hsize : g.locals.size = nL) (hstack : g.stack = As.reverse ++ .ref b :: rest) (hW : 2 * g.monitorRoom + (rest.map fun v => v.category).sum ≤ 8) (hdg : decode cc g.pc = .ok (.invokevirtual index, 3)) (hf : cells + mc ≤ R.cells ∧ slots + ms ≤ R.slots) :
    vx_Run p l e R s m args below meth c H locs cells slots mc ms g rest (Qc (Value.ref b :: As).toArray) XC free := by
  obtain ⟨⟨hrc, hrs, hfr, hlo, hws, hcw⟩, hcode, hini, hy, hlen, hl, hin, hse⟩ := cw
  have hK : vx_Back l R p e below s args y 3 8 (PreOf R mc ms Pc) (PostOf Qc mc ms free) (vx_Post XC mc ms free) := vx_backW (hh := hh) (bytes := bytes) (maxL := maxL) (ret := ret) hM hp.1 hrc hrs hfr hlo hws hcw (fun a' U hW => word_at hW (Or.inl (by first | rfl | simp [Cond.onTables, Cond.keeps, Cond.steady])) hini)
  obtain ⟨hx, hb, hml, ho, -⟩ := S
  obtain ⟨-, ⟨cellB, hcB, hoB, hclB⟩, hPc⟩ := hp
  intro T hT X
  rcases vx_callVX X hx (C := C) (hh := hh) (bytes := bytes) (maxL := maxL) (ret := ret) ho hl hin hse hcode hy hK (by rw [hT]; exact hcB) hoB hclB hg (hsize.trans hml.symm) (argsL := As) (rest := rest) (fun sig h => hn.trans (hlen sig h)) hstack hW (by rw [hb]; exact hdg)
    (fun vm₁ hW₁ => ⟨hf.1, hf.2, hPc (T.setVm vm₁) hT hW₁⟩) with ⟨v, vm₁, ⟨U', l2, c2, s2⟩, hW₁, X', ⟨g', mk, t, L, e1, e2, hq, h1, hL, h2, h3⟩, st⟩ | ⟨q, vm₁, ⟨U', l2, c2, s2⟩, hW₁, X', ⟨g', mk, t, L, E, ce, e1, e2, hq, hce, hcv, hcl, h1, hL, h2, h3⟩, st⟩
  · dsimp only [Pt.U, Pt.locs, Pt.cells, Pt.slots] at X' e1 e2 h1 h2 h3 st
    subst h1; subst h2; subst h3
    exact Or.inl ⟨v, (T.setVm vm₁).calling g' mk (Value.ref b :: As).toArray, t, U', L, hT, X', hL, e1, e2, hq, st⟩
  · dsimp only [Pt.U, Pt.locs, Pt.cells, Pt.slots] at X' e1 e2 h1 h2 h3 st hcl
    subst h1; subst h2; subst h3
    exact Or.inr ⟨q, (T.setVm vm₁).calling g' mk (Value.ref b :: As).toArray, t, U', L, E, ce, hT, X', hL, e1, e2, hq, hce, hcv, vx_cls hW₁ hcl, st⟩
theorem vx_runSX {hh : List (Nat × Nat × Nat × Nat)} (S : CallFix p m c cc nL s args Ts own) (hM : vx_Met l y ws rm Pc Qc XC mc ms free) (cw : vx_CSW R s args own index y bytes maxL ret hh ws rm mc ms n) (hp : PreS s H Pc As)
    (hg : g.method = m) (hn : As.length = n) (hsize : g.locals.size = nL) (hstack : g.stack = As.reverse ++ rest) (hW : 2 * g.monitorRoom + (rest.map fun v => v.category).sum ≤ 8) (hdg : decode cc g.pc = .ok (.invokestatic index, 3)) (hf : cells + mc ≤ R.cells ∧ slots + ms ≤ R.slots) :
    vx_Run p l e R s m args below meth c H locs cells slots mc ms g rest (Qc As.toArray) XC free := by
  obtain ⟨⟨hrc, hrs, hfr, hlo, hws, hcw⟩, hcode, hini, hy, hlen, hl, hstt⟩ := cw
  have hK : vx_Back l R p e below s args y 3 8 (PreOf R mc ms Pc) (PostOf Qc mc ms free) (vx_Post XC mc ms free) := vx_backW (hh := hh) (bytes := bytes) (maxL := maxL) (ret := ret) hM hp.1 hrc hrs hfr hlo hws hcw (fun a' U hW => word_at hW (Or.inl (by first | rfl | simp [Cond.onTables, Cond.keeps, Cond.steady])) hini)
  obtain ⟨hx, hb, hml, ho, -⟩ := S
  intro T hT X
  rcases vx_callSX X hx (hh := hh) (bytes := bytes) (maxL := maxL) (ret := ret) ho hl hstt hini hcode hy hK hg (hsize.trans hml.symm) (argsL := As) (rest := rest) (fun sig h => hn.trans (hlen sig h)) hstack hW (by rw [hb]; exact hdg)
    (fun vm₁ hW₁ => ⟨hf.1, hf.2, hp.2 (T.setVm vm₁) hT hW₁⟩) with ⟨v, vm₁, ⟨U', l2, c2, s2⟩, hW₁, X', ⟨g', mk, t, L, e1, e2, hq, h1, hL, h2, h3⟩, st⟩ | ⟨q, vm₁, ⟨U', l2, c2, s2⟩, hW₁, X', ⟨g', mk, t, L, E, ce, e1, e2, hq, hce, hcv, hcl, h1, hL, h2, h3⟩, st⟩
  · dsimp only [Pt.U, Pt.locs, Pt.cells, Pt.slots] at X' e1 e2 h1 h2 h3 st
    subst h1; subst h2; subst h3
    exact Or.inl ⟨v, (T.setVm vm₁).calling g' mk As.toArray, t, U', L, hT, X', hL, e1, e2, hq, st⟩
  · dsimp only [Pt.U, Pt.locs, Pt.cells, Pt.slots] at X' e1 e2 h1 h2 h3 st hcl
    subst h1; subst h2; subst h3
    exact Or.inr ⟨q, (T.setVm vm₁).calling g' mk As.toArray, t, U', L, E, ce, hT, X', hL, e1, e2, hq, hce, hcv, vx_cls hW₁ hcl, st⟩
end
end VXH
theorem vx_ofWH {l : Launch} {y : MethodName} {ws ws' : List Cond} {rm : Room} {Pc : Array Value → State → Prop} {Qc : Array Value → State → Outcome → State → Prop} {XC : String → State → State → Prop} {mc ms : Nat} {free : Addr → Prop} {cc : ByteArray} {maxL : Nat} {ret : Option FieldType} {hh : List (Nat × Nat × Nat × Nat)}
    (hy : plainName y.cls = true) (hw : ws = Cond.codeWith y cc maxL ret hh :: ws')
    (body : ∀ p e s m args below meth c s₁, BodyLoose p l y (headSpec ws rm) cc maxL ret e s m args below meth c s₁ → c.maxLocals = maxL → Pc args s →
      W p l e (headSpec ws rm).room s m args below meth c s.heap [] 0 0 (vx_MQ below Qc XC args s mc ms free) (entryFrame m args maxL)) : vx_Met l y ws rm Pc Qc XC mc ms free := by
  refine MetFree.of_bodyS (code := cc) (maxLocals := maxL) (ret := ret) hy ?_ ?_
  · intro args s m h hn
    obtain ⟨m9, meth, c, hn9, h1, h2, h3, h4, -, h5, h6, -⟩ := Cond.codeWith_spec (atoms_spec (ws := ws) h _ (by rw [hw]; exact List.mem_cons_self))
    cases hn.symm.trans hn9
    exact ⟨meth, c, h1, h2, h3, h4, h5, h6⟩
  · intro p e s m args below meth c s₁ B hml hP _
    have hh0 : s₁.heap = s.heap := by rw [B.state]; rfl
    obtain ⟨t, a1, o, b1, b2, b3⟩ := body p e s m args below meth c s₁ B hml hP s₁ hh0 (Stand.of_body B)
    exact ⟨t, o, a1, b1, b2, b3⟩
/-! ===== END ===== -/
/-! ===== BEGIN a private method of a nest mate that may throw (follows va_callVN, va_callSN, va_runVN, va_runSN) ===== -/
section
variable {p : Program} {l : Launch} {e : Env} {R : Room} {s : State} {m : MethodId} {args : Array Value} {below : List Frame} {meth : Method} {c : Code} {H : Heap} {locs : List Loc} {cells slots : Nat}
variable {T : State}
theorem vx_callVN (X : Stand p l e R s m args below meth c T locs cells slots) (hexec : p.tables.exec = Jvm.exec) {own C : String} {index : Nat} {host : String} {y : MethodName} {bytes : ByteArray} {maxL : Nat} {ret : Option FieldType}
    (hown : s.vm.findClass own = some m.cls) (hlink : (Cond.methodLinkNest own index y host).before args s = true) (hinst : (Cond.instanceMethod y).before args s = true) (hsel : (Cond.selects C y y).before args s = true)
    (hcode : (Cond.code y bytes maxL ret).before args s = true) (hy : y.cls ≠ "java/lang/invoke/MethodHandle" ∧ y.cls ≠ "java/lang/invoke/VarHandle")
    {W : Nat} {Pre : Pt → Array Value → Prop} {Post : Pt → Array Value → Option Value → Pt → Prop} {PostX : Pt → Array Value → Addr → Pt → Prop} (hK : vx_Back l R p e below s args y 3 W Pre Post PostX)
    {b : Addr} {cellB : Cell} (hcell : T.heap[b]? = some cellB) (hobj : cellB.vm.isStatics = false) (hcls : s.vm.findClass C = some cellB.cls)
    {g : JFrame} (hg : g.method = m) (hsize : g.locals.size = c.maxLocals) {argsL rest : List Value} (hlen : ∀ sig, parseMethodDescriptor y.desc = some sig → argsL.length = sig.parameters.length)
    (hstack : g.stack = argsL.reverse ++ .ref b :: rest) (hW : 2 * g.monitorRoom + (rest.map fun v => v.category).sum ≤ W) (hdg : decode c.code g.pc = .ok (.invokevirtual index, 3))
    (hpre : ∀ vm₁, s.WarmedH vm₁ → Pre ⟨T.setVm vm₁, locs, cells, slots⟩ (Value.ref b :: argsL).toArray) :
    (∃ (v : Option Value) (vm₁ : Vm) (B : Pt), s.WarmedH vm₁ ∧ Stand p l e R s m args below meth c B.U B.locs B.cells B.slots ∧ Post ⟨T.setVm vm₁, locs, cells, slots⟩ (Value.ref b :: argsL).toArray v B ∧
      ∀ target, Steps p.tables e below (B.U.setTop { g with pc := g.pc + 3, stack := v.toList ++ rest }) target → Steps p.tables e below (T.setTop g) target) ∨
    (∃ (q : Addr) (vm₁ : Vm) (B : Pt), s.WarmedH vm₁ ∧ Stand p l e R s m args below meth c B.U B.locs B.cells B.slots ∧ PostX ⟨T.setVm vm₁, locs, cells, slots⟩ (Value.ref b :: argsL).toArray q B ∧
      Steps p.tables e below (T.setTop g) ((B.U.setTop { g with stack := rest }).pushFrame (.throwing q))) := by
  obtain ⟨mk, methM, hnamed, hmethM, hstM, habM⟩ := Cond.instanceMethod_spec hinst
  obtain ⟨methM', cM, hmethM', -, -, -, -, -, -, hsigM⟩ := Cond.code_spec hnamed hcode
  cases hmethM.symm.trans hmethM'
  obtain ⟨c2, r2, m2, q1, q2, q3, q4, kP, hkP, hkPi⟩ := Cond.selects_spec hsel
  cases hcls.symm.trans q1
  cases (State.methodFound?_of_named hnamed hy).symm.trans q2
  cases hnamed.symm.trans q3
  have hselP : selectMethod e.platform s.vm cellB.cls mk = .method mk := by rw [Launch.admits_selectMethod X.admits]; exact q4
  obtain ⟨vm₁, X₁, hstep₁⟩ := X.invokevirtualNest hexec hown hlink hnamed hmethM hstM hkP hkPi hy (a := b) (cell := cellB) hcell
    (fun z h => by rw [h] at hobj; cases hobj) hselP hmethM habM hkP hkPi (g := g) hg (argsL := argsL) (rest := rest) (hlen _ hsigM) hstack hdg
  rcases hK m meth c ⟨T.setVm vm₁, locs, cells, slots⟩ { g with stack := rest } (.invokevirtual index) mk (Value.ref b :: argsL).toArray X₁ hg hsize hdg hW (X₁.named hnamed) (hpre vm₁ X₁.warmed) with ⟨v, B, X', hpost, hsteps⟩ | ⟨q, B, X', hpost, hsteps⟩
  · exact Or.inl ⟨v, vm₁, B, X₁.warmed, X', hpost, fun target h => hstep₁ _ fun acts => by rw [doInvoke_state]; exact hsteps.trans h⟩
  · exact Or.inr ⟨q, vm₁, B, X₁.warmed, X', hpost, hstep₁ _ fun acts => by rw [doInvoke_state]; exact hsteps⟩
theorem vx_callSN (X : Stand p l e R s m args below meth c T locs cells slots) (hexec : p.tables.exec = Jvm.exec) {own : String} {index : Nat} {host : String} {y : MethodName} {bytes : ByteArray} {maxL : Nat} {ret : Option FieldType}
    (hown : s.vm.findClass own = some m.cls) (hlink : (Cond.methodLinkNest own index y host).before args s = true) (hstat : (Cond.static y).before args s = true) (hinit : (Cond.initialized y.cls).before args s = true)
    (hcode : (Cond.code y bytes maxL ret).before args s = true) (hy : y.cls ≠ "java/lang/invoke/MethodHandle" ∧ y.cls ≠ "java/lang/invoke/VarHandle")
    {W : Nat} {Pre : Pt → Array Value → Prop} {Post : Pt → Array Value → Option Value → Pt → Prop} {PostX : Pt → Array Value → Addr → Pt → Prop} (hK : vx_Back l R p e below s args y 3 W Pre Post PostX)
    {g : JFrame} (hg : g.method = m) (hsize : g.locals.size = c.maxLocals) {argsL rest : List Value} (hlen : ∀ sig, parseMethodDescriptor y.desc = some sig → argsL.length = sig.parameters.length)
    (hstack : g.stack = argsL.reverse ++ rest) (hW : 2 * g.monitorRoom + (rest.map fun v => v.category).sum ≤ W) (hdg : decode c.code g.pc = .ok (.invokestatic index, 3))
    (hpre : ∀ vm₁, s.WarmedH vm₁ → Pre ⟨T.setVm vm₁, locs, cells, slots⟩ argsL.toArray) :
    (∃ (v : Option Value) (vm₁ : Vm) (B : Pt), s.WarmedH vm₁ ∧ Stand p l e R s m args below meth c B.U B.locs B.cells B.slots ∧ Post ⟨T.setVm vm₁, locs, cells, slots⟩ argsL.toArray v B ∧
      ∀ target, Steps p.tables e below (B.U.setTop { g with pc := g.pc + 3, stack := v.toList ++ rest }) target → Steps p.tables e below (T.setTop g) target) ∨
    (∃ (q : Addr) (vm₁ : Vm) (B : Pt), s.WarmedH vm₁ ∧ Stand p l e R s m args below meth c B.U B.locs B.cells B.slots ∧ PostX ⟨T.setVm vm₁, locs, cells, slots⟩ argsL.toArray q B ∧
      Steps p.tables e below (T.setTop g) ((B.U.setTop { g with stack := rest }).pushFrame (.throwing q))) := by
  obtain ⟨mk, hnamed⟩ := Cond.code_named hcode
  obtain ⟨methM, cM, hmethM, -, -, -, -, -, -, hsigM⟩ := Cond.code_spec hnamed hcode
  have hstatic : methM.isStatic = true := Cond.static_spec hnamed hmethM hstat
  obtain ⟨kP, hkP, -⟩ := className_of_methodNamed hnamed
  have hinitP : kP.init = .initialized := Cond.initialized_spec (findClass_of_methodNamed hnamed) hkP hinit
  obtain ⟨vm₁, X₁, hstep₁⟩ := X.invokestaticNest hexec hown hlink hnamed hmethM hstatic hkP hinitP hy (g := g) hg (argsL := argsL) (rest := rest) (hlen _ hsigM) hstack hdg
  rcases hK m meth c ⟨T.setVm vm₁, locs, cells, slots⟩ { g with stack := rest } (.invokestatic index) mk argsL.toArray X₁ hg hsize hdg hW (X₁.named hnamed) (hpre vm₁ X₁.warmed) with ⟨v, B, X', hpost, hsteps⟩ | ⟨q, B, X', hpost, hsteps⟩
  · exact Or.inl ⟨v, vm₁, B, X₁.warmed, X', hpost, fun target h => hstep₁ _ fun acts => by rw [doInvoke_state]; exact hsteps.trans h⟩
  · exact Or.inr ⟨q, vm₁, B, X₁.warmed, X', hpost, hstep₁ _ fun acts => by rw [doInvoke_state]; exact hsteps⟩
theorem vx_runVN {y : MethodName} {bytes cc : ByteArray} {maxL nL mc ms n index : Nat} {ret : Option FieldType} {ws : List Cond} {rm : Room} {Pc : Array Value → State → Prop} {Qc : Array Value → State → Outcome → State → Prop} {XC : String → State → State → Prop} {free : Addr → Prop} {Ts : List Cond} {own C host : String} {b : Addr} {As rest : List Value} {g : JFrame}
    (S : CallFix p m c cc nL s args Ts own) (hM : vx_Met l y ws rm Pc Qc XC mc ms free) (cw : va_CN R s args own index y host bytes maxL ret ws rm mc ms n ∧ (Cond.instanceMethod y).before args s = true ∧ (Cond.selects C y y).before args s = true) (hp : PreV s H C b Pc As)
    (hg : g.method = m) (hn : As.length = n) (hsize : g.locals.size = nL) (hstack : g.stack = As.reverse ++ .ref b :: rest) (hW : 2 * g.monitorRoom + (rest.map fun v => v.category).sum ≤ 8) (hdg : decode cc g.pc = .ok (.invokevirtual index, 3)) (hf : cells + mc ≤ R.cells ∧ slots + ms ≤ R.slots) :
    vx_Run p l e R s m args below meth c H locs cells slots mc ms g rest (Qc (Value.ref b :: As).toArray) XC free := by
  obtain ⟨⟨⟨hrc, hrs, hfr, hlo, hws, hcw⟩, hcode, hini, hy, hlen, hl⟩, hx1, hx2⟩ := cw
  have hK : vx_Back l R p e below s args y 3 8 (PreOf R mc ms Pc) (PostOf Qc mc ms free) (vx_Post XC mc ms free) := vx_back (bytes := bytes) (maxL := maxL) (ret := ret) hM hp.1 hrc hrs hfr hlo hws hcw (fun a' U hW => word_at hW (Or.inl (by first | rfl | simp [Cond.onTables, Cond.keeps, Cond.steady])) hini)
  obtain ⟨hx, hb, hml, ho, -⟩ := S
  obtain ⟨-, ⟨cellB, hcB, hoB, hclB⟩, hPc⟩ := hp
  intro T hT X
  rcases vx_callVN X hx (C := C) (bytes := bytes) (maxL := maxL) (ret := ret) ho hl hx1 hx2 hcode hy hK (by rw [hT]; exact hcB) hoB hclB hg (hsize.trans hml.symm) (argsL := As) (rest := rest) (fun sig h => hn.trans (hlen sig h)) hstack hW (by rw [hb]; exact hdg)
    (fun vm₁ hW₁ => ⟨hf.1, hf.2, hPc (T.setVm vm₁) hT hW₁⟩) with ⟨v, vm₁, ⟨U', l2, c2, s2⟩, hW₁, X', ⟨g', mk, t, L, e1, e2, hq, h1, hL, h2, h3⟩, st⟩ | ⟨q, vm₁, ⟨U', l2, c2, s2⟩, hW₁, X', ⟨g', mk, t, L, E, ce, e1, e2, hq, hce, hcv, hcl, h1, hL, h2, h3⟩, st⟩
  · dsimp only [Pt.U, Pt.locs, Pt.cells, Pt.slots] at X' e1 e2 h1 h2 h3 st
    subst h1; subst h2; subst h3
    exact Or.inl ⟨v, (T.setVm vm₁).calling g' mk (Value.ref b :: As).toArray, t, U', L, hT, X', hL, e1, e2, hq, st⟩
  · dsimp only [Pt.U, Pt.locs, Pt.cells, Pt.slots] at X' e1 e2 h1 h2 h3 st hcl
    subst h1; subst h2; subst h3
    exact Or.inr ⟨q, (T.setVm vm₁).calling g' mk (Value.ref b :: As).toArray, t, U', L, E, ce, hT, X', hL, e1, e2, hq, hce, hcv, vx_cls hW₁ hcl, st⟩
theorem vx_runSN {y : MethodName} {bytes cc : ByteArray} {maxL nL mc ms n index : Nat} {ret : Option FieldType} {ws : List Cond} {rm : Room} {Pc : Array Value → State → Prop} {Qc : Array Value → State → Outcome → State → Prop} {XC : String → State → State → Prop} {free : Addr → Prop} {Ts : List Cond} {own host : String} {As rest : List Value} {g : JFrame}
    (S : CallFix p m c cc nL s args Ts own) (hM : vx_Met l y ws rm Pc Qc XC mc ms free) (cw : va_CN R s args own index y host bytes maxL ret ws rm mc ms n ∧ (Cond.static y).before args s = true ∧ True) (hp : PreS s H Pc As)
    (hg : g.method = m) (hn : As.length = n) (hsize : g.locals.size = nL) (hstack : g.stack = As.reverse ++ rest) (hW : 2 * g.monitorRoom + (rest.map fun v => v.category).sum ≤ 8) (hdg : decode cc g.pc = .ok (.invokestatic index, 3)) (hf : cells + mc ≤ R.cells ∧ slots + ms ≤ R.slots) :
    vx_Run p l e R s m args below meth c H locs cells slots mc ms g rest (Qc As.toArray) XC free := by
  obtain ⟨⟨⟨hrc, hrs, hfr, hlo, hws, hcw⟩, hcode, hini, hy, hlen, hl⟩, hx1, hx2⟩ := cw
  have hK : vx_Back l R p e below s args y 3 8 (PreOf R mc ms Pc) (PostOf Qc mc ms free) (vx_Post XC mc ms free) := vx_back (bytes := bytes) (maxL := maxL) (ret := ret) hM hp.1 hrc hrs hfr hlo hws hcw (fun a' U hW => word_at hW (Or.inl (by first | rfl | simp [Cond.onTables, Cond.keeps, Cond.steady])) hini)
  obtain ⟨hx, hb, hml, ho, -⟩ := S
  have hPc := hp.2
  intro T hT X
  rcases vx_callSN X hx (bytes := bytes) (maxL := maxL) (ret := ret) ho hl hx1 hini hcode hy hK hg (hsize.trans hml.symm) (argsL := As) (rest := rest) (fun sig h => hn.trans (hlen sig h)) hstack hW (by rw [hb]; exact hdg)
    (fun vm₁ hW₁ => ⟨hf.1, hf.2, hPc (T.setVm vm₁) hT hW₁⟩) with ⟨v, vm₁, ⟨U', l2, c2, s2⟩, hW₁, X', ⟨g', mk, t, L, e1, e2, hq, h1, hL, h2, h3⟩, st⟩ | ⟨q, vm₁, ⟨U', l2, c2, s2⟩, hW₁, X', ⟨g', mk, t, L, E, ce, e1, e2, hq, hce, hcv, hcl, h1, hL, h2, h3⟩, st⟩
  · dsimp only [Pt.U, Pt.locs, Pt.cells, Pt.slots] at X' e1 e2 h1 h2 h3 st
    subst h1; subst h2; subst h3
    exact Or.inl ⟨v, (T.setVm vm₁).calling g' mk As.toArray, t, U', L, hT, X', hL, e1, e2, hq, st⟩
  · dsimp only [Pt.U, Pt.locs, Pt.cells, Pt.slots] at X' e1 e2 h1 h2 h3 st hcl
    subst h1; subst h2; subst h3
    exact Or.inr ⟨q, (T.setVm vm₁).calling g' mk As.toArray, t, U', L, E, ce, hT, X', hL, e1, e2, hq, hce, hcv, vx_cls hW₁ hcl, st⟩
end
/-! ===== END ===== -/
end
section
/-! THE ENGINE: an abstract machine over a world of fixed shape (cells by their places, contents by functions), and its tables. -/
abbrev en_S : Type := (Nat → Nat → Int32) × (Nat → Nat → Int64)
abbrev en_O : Type := (Option Value ⊕ Nat) × en_S
abbrev en_L : Type := List (Option Value)
/-- fields (method, pool index: class, slot), calls (kind, callee, stack entries, class), ldc, ldc2, throws (method, pc: kind), return types, shape, strings -/
abbrev en_G : Type := (Nat → Nat → Option (Nat × Nat)) × (Nat → Nat → Option (Nat × Nat × Nat × Nat)) × (Nat → Nat → Option (Int32 ⊕ Nat)) × (Nat → Nat → Option Int64) × (Nat → Nat → Option Nat) × (Nat → Option FieldType) × List (Nat × List Nat) × (Nat → List Int32)
def en_FD (G : en_G) : Nat → Nat → Option (Nat × Nat) := G.1
def en_CL (G : en_G) : Nat → Nat → Option (Nat × Nat × Nat × Nat) := G.2.1
def en_KC (G : en_G) : Nat → Nat → Option (Int32 ⊕ Nat) := G.2.2.1
def en_KL (G : en_G) : Nat → Nat → Option Int64 := G.2.2.2.1
def en_TH (G : en_G) : Nat → Nat → Option Nat := G.2.2.2.2.1
def en_RT (G : en_G) : Nat → Option FieldType := G.2.2.2.2.2.1
def en_SH (G : en_G) : List (Nat × List Nat) := G.2.2.2.2.2.2.1
def en_SB (G : en_G) : Nat → List Int32 := G.2.2.2.2.2.2.2
/-- an index that is in its row -/
abbrev en_in (i : Int32) (n : Nat) : Prop := ¬ (i < 0 ∨ n ≤ i.toNatClampNeg)
/-- storing a local: a long that reaches into it is lost -/
def en_clr (L : en_L) : Nat → en_L
  | 0 => L
  | j + 1 => match L[j]? with
    | some (some (.long _)) => L.set j none
    | some (some (.double _)) => L.set j none
    | _ => L
def en_set (L : en_L) (i : Nat) (v : Option Value) : en_L := (en_clr L i).set i v
def en_fld (G : en_G) (σ : en_S) (p ci k : Nat) : Option Value := match (en_SH G)[p]? with
  | some (c, ds) => if c = ci then (match ds[k]? with
    | some 0 => some (.int (σ.1 p k))
    | some 1 => some (.long (σ.2 p k))
    | some 2 => some (.int (σ.1 p k))
    | some (q + 3) => some (.ref q)
    | none => none) else none
  | none => none
def en_u1 (f : Nat → Nat → Int32) (p i : Nat) (v : Int32) : Nat → Nat → Int32 := fun q => if q = p then upd (f p) i v else f q
def en_u2 (f : Nat → Nat → Int64) (p i : Nat) (v : Int64) : Nat → Nat → Int64 := fun q => if q = p then vp_updL (f p) i v else f q
def en_uf (f : Nat → Nat → Int32) (p : Nat) (g : Nat → Int32) : Nat → Nat → Int32 := fun q => if q = p then g else f q
def en_put (G : en_G) (σ : en_S) (p ci k : Nat) (v : Value) : Option en_S := match (en_SH G)[p]? with
  | some (c, ds) => if c = ci then (match ds[k]?, v with
    | some 0, .int x => some (en_u1 σ.1 p k x, σ.2)
    | some 1, .long x => some (σ.1, en_u2 σ.2 p k x)
    | some 2, .int x => if x = 0 ∨ x = 1 then some (en_u1 σ.1 p k x, σ.2) else none
    | _, _ => none) else none
  | none => none
def en_arr (G : en_G) (p kind : Nat) : Option Nat := match (en_SH G)[p]? with
  | some (c, n :: _) => if c = kind then some n else none
  | _ => none
def en_cI (o : Option en_O) (ki : Int32 → en_S → Option en_O) (kx : Nat → en_S → Option en_O) : Option en_O := match o with
  | some (.inl (some (.int r)), σ) => ki r σ
  | some (.inr e, σ) => kx e σ
  | _ => none
def en_cJ (o : Option en_O) (kl : Int64 → en_S → Option en_O) (kx : Nat → en_S → Option en_O) : Option en_O := match o with
  | some (.inl (some (.long r)), σ) => kl r σ
  | some (.inr e, σ) => kx e σ
  | _ => none
def en_cV (o : Option en_O) (kv : en_S → Option en_O) (kx : Nat → en_S → Option en_O) : Option en_O := match o with
  | some (.inl none, σ) => kv σ
  | some (.inr e, σ) => kx e σ
  | _ => none
abbrev en_K : Type := Nat → en_L → List Value → en_S → Option en_O
/-- what comes back from a call, by its type -/
def en_back (rt : Option FieldType) (o : Option en_O) (k : List Value → en_S → Option en_O) (kx : Nat → en_S → Option en_O) : Option en_O := match rt with
  | none => en_cV o (fun σ => k [] σ) kx
  | some .long => en_cJ o (fun r σ => k [.long r] σ) kx
  | some .int => en_cI o (fun r σ => k [.int r] σ) kx
  | some .boolean => en_cI o (fun r σ => k [.int r] σ) kx
  | _ => none
def en_retI (rt : Option FieldType) (v : Int32) (σ : en_S) : Option en_O := match rt with
  | some .int => some (.inl (some (.int v)), σ)
  | some .boolean => if v = 0 ∨ v = 1 then some (.inl (some (.int v)), σ) else none
  | _ => none
def en_tgt (pc : Nat) (off : Int) : Nat := ((pc : Int) + off).toNat
/-- tableswitch: row by row -/
def en_sw (x : Int32) (pc : Nat) (dflt : Int) (k : Nat → Option en_O) : Int → List Int → Option en_O
  | _, [] => k (en_tgt pc dflt)
  | lo, o :: r => if x = Int32.ofInt lo then k (en_tgt pc o) else en_sw x pc dflt k (lo + 1) r
def en_lk (x : Int32) (pc : Nat) (dflt : Int) (k : Nat → Option en_O) : List (Int × Int) → Option en_O
  | [] => k (en_tgt pc dflt)
  | o :: r => if x = Int32.ofInt o.1 then k (en_tgt pc o.2) else en_lk x pc dflt k r
/-- indexOf on what is left of a text, from place k on -/
def en_ixF (c : Int32) : List Int32 → Nat → Int32
  | [], _ => -1
  | b :: l, k => if b &&& 255 = c then nI k else en_ixF c l (k + 1)
def en_cat (v : Value) : Nat := v.category
def en_ushr (x y : Int32) : Int32 := (x.toUInt32 >>> (y.toUInt32 &&& Int32.toUInt32 31)).toInt32
def en_small (st : List Value) : Bool := decide ((st.map fun v => v.category).sum ≤ 8)
def en_one (as : List Value) : Bool := as.all fun v => decide (v.category = 1)
/-- calls of instance methods: 0 a method, 5 length, 6 charAt, 7 indexOf -/
def en_inV (G : en_G) (mi idx pc : Nat) (L : en_L) (st : List Value) (σ : en_S) (k : en_K) (call : Nat → List Value → en_S → Option en_O) (kx : Nat → en_L → Nat → en_S → Option en_O) : Option en_O := match en_CL G mi idx with
  | some (0, y, n, ci) => if n ≤ st.length ∧ en_small (st.drop n) = true ∧ en_one (st.take n) = true then (match (st.take n).reverse with
      | .ref p :: as => if ((en_SH G)[p]?).map (·.1) = some ci then en_back (en_RT G y) (call y (.ref p :: as) σ) (fun v σ => k (pc + 3) L (v ++ st.drop n) σ) (kx pc L) else none
      | _ => none) else none
  | some (5, _, _, _) => match st with
    | .ref p :: r => if 1000 ≤ p ∧ en_small r = true then k (pc + 3) L (.int (nI (en_SB G (p - 1000)).length) :: r) σ else none
    | _ => none
  | some (6, _, _, _) => match st with
    | .int i :: .ref p :: r => if 1000 ≤ p ∧ en_small r = true ∧ en_in i (en_SB G (p - 1000)).length then k (pc + 3) L (.int ((en_SB G (p - 1000)).getD i.toNatClampNeg 0 &&& 255) :: r) σ else none
    | _ => none
  | some (7, _, _, _) => match st with
    | .int c :: .ref p :: r => if 1000 ≤ p ∧ en_small r = true then k (pc + 3) L (.int (en_ixF c (en_SB G (p - 1000)) 0) :: r) σ else none
    | _ => none
  | _ => none
/-- calls of static methods: 1 a method, 2 Math.max, 3 Math.min, 4 arraycopy -/
def en_inS (G : en_G) (mi idx pc : Nat) (L : en_L) (st : List Value) (σ : en_S) (k : en_K) (call : Nat → List Value → en_S → Option en_O) (kx : Nat → en_L → Nat → en_S → Option en_O) : Option en_O := match en_CL G mi idx with
  | some (1, y, n, _) => if n ≤ st.length ∧ en_small (st.drop n) = true ∧ en_one (st.take n) = true then en_back (en_RT G y) (call y (st.take n).reverse σ) (fun v σ => k (pc + 3) L (v ++ st.drop n) σ) (kx pc L) else none
  | some (2, _, _, _) => match st with
    | .int y :: .int x :: r => if en_small r = true then k (pc + 3) L (.int (if x < y then y else x) :: r) σ else none
    | _ => none
  | some (3, _, _, _) => match st with
    | .int y :: .int x :: r => if en_small r = true then k (pc + 3) L (.int (if y < x then y else x) :: r) σ else none
    | _ => none
  | some (4, _, _, _) => match st with
    | .int n :: .int dp :: .ref q :: .int sp :: .ref p :: r => if en_small r = true then (match en_arr G p 20, en_arr G q 20 with
        | some n0, some n1 => if ¬ sp < 0 ∧ ¬ dp < 0 ∧ ¬ n < 0 ∧ sp.toNatClampNeg + n.toNatClampNeg ≤ n0 ∧ dp.toNatClampNeg + n.toNatClampNeg ≤ n1 then k (pc + 3) L r (en_uf σ.1 q (va_cpy (σ.1 p) (σ.1 q) sp.toNatClampNeg dp.toNatClampNeg n.toNatClampNeg), σ.2) else none
        | _, _ => none) else none
    | _ => none
  | _ => none
def en_if (b : ClassFile.Cond) (x y : Int32) (kt kf : Option en_O) : Option en_O := match b with
  | .eq => if x = y then kt else kf
  | .ne => if x = y then kf else kt
  | .lt => if x < y then kt else kf
  | .ge => if y ≤ x then kt else kf
  | .gt => if y < x then kt else kf
  | .le => if x ≤ y then kt else kf
def en_step (G : en_G) (mi pc : Nat) (i : Instr) (L : en_L) (st : List Value) (σ : en_S) (k : en_K) (call : Nat → List Value → en_S → Option en_O) (kx : Nat → en_L → Nat → en_S → Option en_O) : Option en_O := match i with
  | .iconst n => k (pc + 1) L (.int (Int32.ofInt n) :: st) σ
  | .bipush n => k (pc + 2) L (.int ((Int8.ofInt n).toInt32) :: st) σ
  | .sipush n => k (pc + 3) L (.int ((Int16.ofInt n).toInt32) :: st) σ
  | .lconst n => k (pc + 1) L (.long (Int64.ofNat (n : Nat)) :: st) σ
  | .ldc idx => match en_KC G mi idx with
    | some (.inl v) => k (pc + 2) L (.int v :: st) σ
    | some (.inr q) => k (pc + 2) L (.ref q :: st) σ
    | none => none
  | .ldc_w idx => match en_KC G mi idx with
    | some (.inl v) => k (pc + 3) L (.int v :: st) σ
    | _ => none
  | .ldc2_w idx => match en_KL G mi idx with
    | some v => k (pc + 3) L (.long v :: st) σ
    | none => none
  | .iload_n j => match L[(j : Nat)]? with
    | some (some (.int x)) => k (pc + 1) L (.int x :: st) σ
    | _ => none
  | .iload j => match L[j]? with
    | some (some (.int x)) => k (pc + 2) L (.int x :: st) σ
    | _ => none
  | .lload j => match L[j]? with
    | some (some (.long x)) => k (pc + 2) L (.long x :: st) σ
    | _ => none
  | .aload_n j => match L[(j : Nat)]? with
    | some (some (.ref x)) => k (pc + 1) L (.ref x :: st) σ
    | _ => none
  | .aload j => match L[j]? with
    | some (some (.ref x)) => k (pc + 2) L (.ref x :: st) σ
    | _ => none
  | .istore_n j => match st with
    | .int x :: r => if (j : Nat) < L.length then k (pc + 1) (en_set L j (some (.int x))) r σ else none
    | _ => none
  | .istore j => match st with
    | .int x :: r => if j < L.length then k (pc + 2) (en_set L j (some (.int x))) r σ else none
    | _ => none
  | .lstore j => match st with
    | .long x :: r => if j + 1 < L.length then k (pc + 2) ((en_set L j (some (.long x))).set (j + 1) none) r σ else none
    | _ => none
  | .iinc j n => match L[j]? with
    | some (some (.int x)) => k (pc + 3) (en_set L j (some (.int (x + Int32.ofInt n)))) st σ
    | _ => none
  | .iadd => match st with
    | .int y :: .int x :: r => k (pc + 1) L (.int (x + y) :: r) σ
    | _ => none
  | .isub => match st with
    | .int y :: .int x :: r => k (pc + 1) L (.int (x - y) :: r) σ
    | _ => none
  | .imul => match st with
    | .int y :: .int x :: r => k (pc + 1) L (.int (x * y) :: r) σ
    | _ => none
  | .idiv => match st with
    | .int y :: .int x :: r => if y = 0 then none else k (pc + 1) L (.int (x / y) :: r) σ
    | _ => none
  | .irem => match st with
    | .int y :: .int x :: r => if y = 0 then none else k (pc + 1) L (.int (x - x / y * y) :: r) σ
    | _ => none
  | .iand => match st with
    | .int y :: .int x :: r => k (pc + 1) L (.int (x &&& y) :: r) σ
    | _ => none
  | .ior => match st with
    | .int y :: .int x :: r => k (pc + 1) L (.int (x ||| y) :: r) σ
    | _ => none
  | .ixor => match st with
    | .int y :: .int x :: r => k (pc + 1) L (.int (x ^^^ y) :: r) σ
    | _ => none
  | .ishl => match st with
    | .int y :: .int x :: r => k (pc + 1) L (.int (x <<< (y &&& 31)) :: r) σ
    | _ => none
  | .ishr => match st with
    | .int y :: .int x :: r => k (pc + 1) L (.int (x >>> (y &&& 31)) :: r) σ
    | _ => none
  | .iushr => match st with
    | .int y :: .int x :: r => k (pc + 1) L (.int ((x.toUInt32 >>> (y.toUInt32 &&& Int32.toUInt32 31)).toInt32) :: r) σ
    | _ => none
  | .ineg => match st with
    | .int x :: r => k (pc + 1) L (.int (-x) :: r) σ
    | _ => none
  | .lshl => match st with
    | .int y :: .long x :: r => k (pc + 1) L (.long (x <<< (y.toInt64 &&& 63)) :: r) σ
    | _ => none
  | .lor => match st with
    | .long y :: .long x :: r => k (pc + 1) L (.long (x ||| y) :: r) σ
    | _ => none
  | .lsub => match st with
    | .long y :: .long x :: r => k (pc + 1) L (.long (x - y) :: r) σ
    | _ => none
  | .lcmp => match st with
    | .long y :: .long x :: r => k (pc + 1) L (.int (lg_cmp x y) :: r) σ
    | _ => none
  | .i2l => match st with
    | .int x :: r => k (pc + 1) L (.long x.toInt64 :: r) σ
    | _ => none
  | .i2b => match st with
    | .int x :: r => k (pc + 1) L (.int x.toInt8.toInt32 :: r) σ
    | _ => none
  | .i2c => match st with
    | .int x :: r => k (pc + 1) L (.int (x.toUInt32 % 65536).toInt32 :: r) σ
    | _ => none
  | .dup => match st with
    | .int x :: r => k (pc + 1) L (.int x :: .int x :: r) σ
    | .ref x :: r => k (pc + 1) L (.ref x :: .ref x :: r) σ
    | _ => none
  | .dup2 => match st with
    | .int x :: .ref y :: r => k (pc + 1) L (.int x :: .ref y :: .int x :: .ref y :: r) σ
    | _ => none
  | .pop => match st with
    | .int _ :: r => k (pc + 1) L r σ
    | _ => none
  | .ifCond b off => match st with
    | .int x :: r => en_if b x 0 (k (en_tgt pc off) L r σ) (k (pc + 3) L r σ)
    | _ => none
  | .if_icmp b off => match st with
    | .int y :: .int x :: r => en_if b x y (k (en_tgt pc off) L r σ) (k (pc + 3) L r σ)
    | _ => none
  | .goto off => k (en_tgt pc off) L st σ
  | .tableswitch dflt lo _ offs => match st with
    | .int x :: r => en_sw x pc dflt (fun t => k t L r σ) lo offs.toList
    | _ => none
  | .lookupswitch dflt ps => match st with
    | .int x :: r => en_lk x pc dflt (fun t => k t L r σ) ps.toList
    | _ => none
  | .getfield idx => match en_FD G mi idx, st with
    | some (ci, f), .ref p :: r => (match en_fld G σ p ci f with
      | some v => k (pc + 3) L (v :: r) σ
      | none => none)
    | _, _ => none
  | .putfield idx => match en_FD G mi idx, st with
    | some (ci, f), v :: .ref p :: r => (match en_put G σ p ci f v with
      | some σ' => k (pc + 3) L r σ'
      | none => none)
    | _, _ => none
  | .iaload => match st with
    | .int j :: .ref p :: r => (match en_arr G p 20 with
      | some n => if en_in j n then k (pc + 1) L (.int (σ.1 p j.toNatClampNeg) :: r) σ else none
      | none => none)
    | _ => none
  | .laload => match st with
    | .int j :: .ref p :: r => (match en_arr G p 23 with
      | some n => if en_in j n then k (pc + 1) L (.long (σ.2 p j.toNatClampNeg) :: r) σ else none
      | none => none)
    | _ => none
  | .baload => match st with
    | .int j :: .ref p :: r => (match en_arr G p 21 with
      | some n => if en_in j n then k (pc + 1) L (.int (σ.1 p j.toNatClampNeg) :: r) σ else none
      | none => (match en_arr G p 22 with
        | some n => if en_in j n then k (pc + 1) L (.int (σ.1 p j.toNatClampNeg) :: r) σ else none
        | none => none))
    | _ => none
  | .iastore => match st with
    | .int x :: .int j :: .ref p :: r => (match en_arr G p 20 with
      | some n => if en_in j n then k (pc + 1) L r (en_u1 σ.1 p j.toNatClampNeg x, σ.2) else none
      | none => none)
    | _ => none
  | .lastore => match st with
    | .long x :: .int j :: .ref p :: r => (match en_arr G p 23 with
      | some n => if en_in j n then k (pc + 1) L r (σ.1, en_u2 σ.2 p j.toNatClampNeg x) else none
      | none => none)
    | _ => none
  | .bastore => match st with
    | .int x :: .int j :: .ref p :: r => (match en_arr G p 21 with
      | some n => if en_in j n then k (pc + 1) L r (en_u1 σ.1 p j.toNatClampNeg (vp_nar .byte x), σ.2) else none
      | none => (match en_arr G p 22 with
        | some n => if en_in j n then k (pc + 1) L r (en_u1 σ.1 p j.toNatClampNeg (vp_nar .boolean x), σ.2) else none
        | none => none))
    | _ => none
  | .arraylength => match st with
    | .ref p :: r => (match en_arr G p 20 with
      | some n => k (pc + 1) L (.int (Int32.ofNat n) :: r) σ
      | none => (match en_arr G p 21 with
        | some n => k (pc + 1) L (.int (Int32.ofNat n) :: r) σ
        | none => none))
    | _ => none
  | .invokevirtual idx => en_inV G mi idx pc L st σ k call kx
  | .invokestatic idx => en_inS G mi idx pc L st σ k call kx
  | .new _ => match en_TH G mi pc with
    | some x => if en_small st = true then some (.inr x, σ) else none
    | none => none
  | .ireturn => match st with
    | [.int v] => en_retI (en_RT G mi) v σ
    | _ => none
  | .lreturn => match st with
    | [.long v] => if en_RT G mi = some .long then some (.inl (some (.long v)), σ) else none
    | _ => none
  | .return_ => match st with
    | [] => if en_RT G mi = none then some (.inl none, σ) else none
    | _ => none
  | _ => none
/-- a method's rows: (pc, instruction, the locals that live there where it is a cut) -/
abbrev en_P : Type := Nat → List (Nat × Instr × Option (List Bool))
def en_get : List (Nat × Instr × Option (List Bool)) → Nat → Option (Instr × Option (List Bool))
  | [], _ => none
  | (q, i, m) :: r, pc => if q = pc then some (i, m) else en_get r pc
def en_msk : Option (List Bool) → en_L → en_L
  | none, L => L
  | some bs, L => List.zipWith (fun b v => if b = true then v else none) bs L
def en_ent (n : Nat) (as : List Value) : en_L := as.map some ++ List.replicate (n - as.length) none
/-- the handler of a method for what its callee throws: (kind, its pc, the local that takes it, where it goes on) -/
abbrev en_H : Type := Nat → Nat → Nat → Option (Nat × Nat)
def en_hx (x : Nat) (h : Option (Nat × Nat)) (k : Nat → Nat → Option en_O) (e : Nat) (σ : en_S) : Option en_O := match h with
  | none => some (.inr e, σ)
  | some (t, j) => if x = 1 then k t j else none
/-- the machine: n steps at most; x: how often it may catch; ML: locals of a method -/
def en_run (G : en_G) (P : en_P) (ML : Nat → Nat) (HD : en_H) : Nat → Nat → Nat → Nat → en_L → List Value → en_S → Option en_O
  | 0, _, _, _, _, _, _ => none
  | n + 1, x, mi, pc, L, st, σ => match en_get (P mi) pc with
    | none => none
    | some (i, m) => en_step G mi pc i (en_msk m L) st σ (fun pc' L' st' σ' => en_run G P ML HD n x mi pc' L' st' σ') (fun y as σ' => en_run G P ML HD n 0 y 0 (en_ent (ML y) as) [] σ')
      (fun pc' L' e σ' => en_hx x (HD mi pc' e) (fun t j => en_run G P ML HD n 0 mi t (en_set L' j none) [] σ') e σ')
end
section
/-! the machine's order: more steps give the same answer -/
def en_le (a b : Option en_O) : Prop := ∀ o, a = some o → b = some o
theorem en_le.rf (a : Option en_O) : en_le a a := fun _ h => h
theorem en_le.nn (b : Option en_O) : en_le none b := fun _ h => by cases h
theorem en_le.ite {c : Prop} [Decidable c] {a b a' b' : Option en_O} (h1 : en_le a a') (h2 : en_le b b') : en_le (if c then a else b) (if c then a' else b') := by
  by_cases h : c
  · rw [if_pos h, if_pos h]; exact h1
  · rw [if_neg h, if_neg h]; exact h2
theorem en_le.cI {o o' : Option en_O} {ki ki' : Int32 → en_S → Option en_O} {kx kx' : Nat → en_S → Option en_O} (h : en_le o o') (hi : ∀ r σ, en_le (ki r σ) (ki' r σ)) (hx : ∀ e σ, en_le (kx e σ) (kx' e σ)) : en_le (en_cI o ki kx) (en_cI o' ki' kx') := by
  cases o with
  | none => exact fun _ h => by cases h
  | some z =>
    rw [h z rfl]
    obtain ⟨v | e, σ⟩ := z
    · cases v with
      | none => exact en_le.rf _
      | some v => cases v <;> first | exact hi _ _ | exact en_le.rf _
    · exact hx _ _
theorem en_le.cJ {o o' : Option en_O} {ki ki' : Int64 → en_S → Option en_O} {kx kx' : Nat → en_S → Option en_O} (h : en_le o o') (hi : ∀ r σ, en_le (ki r σ) (ki' r σ)) (hx : ∀ e σ, en_le (kx e σ) (kx' e σ)) : en_le (en_cJ o ki kx) (en_cJ o' ki' kx') := by
  cases o with
  | none => exact fun _ h => by cases h
  | some z =>
    rw [h z rfl]
    obtain ⟨v | e, σ⟩ := z
    · cases v with
      | none => exact en_le.rf _
      | some v => cases v <;> first | exact hi _ _ | exact en_le.rf _
    · exact hx _ _
theorem en_le.cV {o o' : Option en_O} {ki ki' : en_S → Option en_O} {kx kx' : Nat → en_S → Option en_O} (h : en_le o o') (hi : ∀ σ, en_le (ki σ) (ki' σ)) (hx : ∀ e σ, en_le (kx e σ) (kx' e σ)) : en_le (en_cV o ki kx) (en_cV o' ki' kx') := by
  cases o with
  | none => exact fun _ h => by cases h
  | some z =>
    rw [h z rfl]
    obtain ⟨v | e, σ⟩ := z
    · cases v with
      | none => exact hi _
      | some v => exact en_le.rf _
    · exact hx _ _
theorem en_le.back {rt : Option FieldType} {o o' : Option en_O} {k k' : List Value → en_S → Option en_O} {kx kx' : Nat → en_S → Option en_O} (h : en_le o o') (hi : ∀ v σ, en_le (k v σ) (k' v σ)) (hx : ∀ e σ, en_le (kx e σ) (kx' e σ)) : en_le (en_back rt o k kx) (en_back rt o' k' kx') := by
  unfold en_back
  split
  · exact en_le.cV h (fun _ => hi _ _) hx
  · exact en_le.cJ h (fun _ _ => hi _ _) hx
  · exact en_le.cI h (fun _ _ => hi _ _) hx
  · exact en_le.cI h (fun _ _ => hi _ _) hx
  · exact en_le.rf _
theorem en_le.sw {x : Int32} {pc : Nat} {d : Int} {k k' : Nat → Option en_O} (h : ∀ t, en_le (k t) (k' t)) : ∀ (l : List Int) (lo : Int), en_le (en_sw x pc d k lo l) (en_sw x pc d k' lo l)
  | [], _ => h _
  | _ :: r, _ => en_le.ite (h _) (en_le.sw h r _)
theorem en_le.lk {x : Int32} {pc : Nat} {d : Int} {k k' : Nat → Option en_O} (h : ∀ t, en_le (k t) (k' t)) : ∀ (l : List (Int × Int)), en_le (en_lk x pc d k l) (en_lk x pc d k' l)
  | [] => h _
  | _ :: r => en_le.ite (h _) (en_le.lk h r)
theorem en_le.cif {b : ClassFile.Cond} {x y : Int32} {a a' c c' : Option en_O} (h1 : en_le a a') (h2 : en_le c c') : en_le (en_if b x y a c) (en_if b x y a' c') := by
  cases b <;> first | exact en_le.ite h1 h2 | exact en_le.ite h2 h1
set_option maxHeartbeats 4000000 in
theorem en_step_mono {G : en_G} {mi pc : Nat} {i : Instr} {L : en_L} {st : List Value} {σ : en_S} {k k' : en_K} {call call' : Nat → List Value → en_S → Option en_O} {kx kx' : Nat → en_L → Nat → en_S → Option en_O}
    (hk : ∀ a b c d, en_le (k a b c d) (k' a b c d)) (hc : ∀ a b c, en_le (call a b c) (call' a b c)) (hx : ∀ a b c d, en_le (kx a b c d) (kx' a b c d)) :
    en_le (en_step G mi pc i L st σ k call kx) (en_step G mi pc i L st σ k' call' kx') := by
  unfold en_step
  split <;> (try unfold en_inV) <;> (try unfold en_inS) <;> (repeat' split) <;>
    first
    | exact hk _ _ _ _
    | exact en_le.rf _
    | exact en_le.cif (hk _ _ _ _) (hk _ _ _ _)
    | exact en_le.sw (fun _ => hk _ _ _ _) _ _
    | exact en_le.lk (fun _ => hk _ _ _ _) _
    | exact en_le.back (hc _ _ _) (fun _ _ => hk _ _ _ _) (fun _ _ => hx _ _ _ _)
theorem en_le.hx {x : Nat} {h : Option (Nat × Nat)} {k k' : Nat → Nat → Option en_O} {e : Nat} {σ : en_S} (hk : ∀ t j, en_le (k t j) (k' t j)) : en_le (en_hx x h k e σ) (en_hx x h k' e σ) := by
  cases h with
  | none => exact en_le.rf _
  | some z => exact en_le.ite (hk _ _) (en_le.rf _)
theorem en_run_mono {G : en_G} {P : en_P} {ML : Nat → Nat} {HD : en_H} : ∀ (n x mi pc : Nat) (L : en_L) (st : List Value) (σ : en_S), en_le (en_run G P ML HD n x mi pc L st σ) (en_run G P ML HD (n + 1) x mi pc L st σ)
  | 0, _, _, _, _, _, _ => en_le.nn _
  | n + 1, x, mi, pc, L, st, σ => by
    unfold en_run
    split
    · exact en_le.rf _
    · exact en_step_mono (fun _ _ _ _ => en_run_mono n _ _ _ _ _ _) (fun _ _ _ => en_run_mono n _ _ _ _ _ _) (fun _ _ _ _ => en_le.hx (fun _ _ => en_run_mono n _ _ _ _ _ _))
theorem en_run_le {G : en_G} {P : en_P} {ML : Nat → Nat} {HD : en_H} {n m x mi pc : Nat} {L : en_L} {st : List Value} {σ : en_S} (h : n ≤ m) : en_le (en_run G P ML HD n x mi pc L st σ) (en_run G P ML HD m x mi pc L st σ) := by
  induction h with
  | refl => exact en_le.rf _
  | step _ ih => exact fun o ho => en_run_mono _ _ _ _ _ _ _ o (ih o ho)
/-- the machine without a bound on its steps -/
noncomputable def en_ex (G : en_G) (P : en_P) (ML : Nat → Nat) (HD : en_H) (x mi pc : Nat) (L : en_L) (st : List Value) (σ : en_S) : Option en_O :=
  @dite _ (∃ o n, en_run G P ML HD n x mi pc L st σ = some o) (Classical.propDecidable _) (fun h => some h.choose) (fun _ => none)
theorem en_ex_iff {G : en_G} {P : en_P} {ML : Nat → Nat} {HD : en_H} {x mi pc : Nat} {L : en_L} {st : List Value} {σ : en_S} {o : en_O} : en_ex G P ML HD x mi pc L st σ = some o ↔ ∃ n, en_run G P ML HD n x mi pc L st σ = some o := by
  unfold en_ex
  by_cases h : ∃ o n, en_run G P ML HD n x mi pc L st σ = some o
  · rw [dif_pos h]
    obtain ⟨n, hn⟩ := h.choose_spec
    constructor
    · intro e
      cases e
      exact ⟨n, hn⟩
    · rintro ⟨m, hm⟩
      have h1 := en_run_le (Nat.le_max_left n m) _ hn
      have h2 := en_run_le (Nat.le_max_right n m) _ hm
      rw [h1] at h2
      exact h2
  · rw [dif_neg h]
    constructor
    · intro e
      cases e
    · rintro ⟨m, hm⟩
      exact absurd ⟨o, m, hm⟩ h
def en_ct (f : Nat → Option en_O) (g : Option en_O) : Prop := ∀ o, g = some o → ∃ n, ∀ m, n ≤ m → f m = some o
theorem en_ct.rf (a : Option en_O) : en_ct (fun _ => a) a := fun _ h => ⟨0, fun _ _ => h⟩
theorem en_ct.nn (f : Nat → Option en_O) : en_ct f none := fun _ h => by cases h
theorem en_ct.ite {c : Prop} [Decidable c] {a b : Nat → Option en_O} {a' b' : Option en_O} (h1 : en_ct a a') (h2 : en_ct b b') : en_ct (fun n => if c then a n else b n) (if c then a' else b') := by
  by_cases h : c
  · simp only [if_pos h]; exact h1
  · simp only [if_neg h]; exact h2
theorem en_ct.cI {o : Nat → Option en_O} {o' : Option en_O} {ki : Nat → Int32 → en_S → Option en_O} {ki' : Int32 → en_S → Option en_O} {kx : Nat → Nat → en_S → Option en_O} {kx' : Nat → en_S → Option en_O} (h : en_ct o o') (hi : ∀ r σ, en_ct (fun n => ki n r σ) (ki' r σ)) (hx : ∀ e σ, en_ct (fun n => kx n e σ) (kx' e σ)) : en_ct (fun n => en_cI (o n) (ki n) (kx n)) (en_cI o' ki' kx') := by
  cases o' with
  | none => exact fun _ h => by cases h
  | some z =>
    obtain ⟨N, hN⟩ := h z rfl
    intro r hr
    have key : ∀ f : Nat → Option en_O, en_ct f (some r) → (∀ m, N ≤ m → en_cI (o m) (ki m) (kx m) = f m) → ∃ n, ∀ m, n ≤ m → en_cI (o m) (ki m) (kx m) = some r := by
      intro f hf e
      obtain ⟨M, hM⟩ := hf r rfl
      exact ⟨max N M, fun m hm => by rw [e m (by omega)]; exact hM m (by omega)⟩
    obtain ⟨v | e, σ⟩ := z
    · cases v with
      | none => cases hr
      | some v =>
        cases v <;> first
          | (have h9 := hi _ _ _ hr; obtain ⟨M, hM⟩ := h9; exact ⟨max N M, fun m hm => by (simp only [hN m (by omega)]; exact hM m (by omega))⟩)
          | cases hr
    · obtain ⟨M, hM⟩ := hx _ _ _ hr
      exact ⟨max N M, fun m hm => by (simp only [hN m (by omega)]; exact hM m (by omega))⟩
theorem en_ct.cJ {o : Nat → Option en_O} {o' : Option en_O} {ki : Nat → Int64 → en_S → Option en_O} {ki' : Int64 → en_S → Option en_O} {kx : Nat → Nat → en_S → Option en_O} {kx' : Nat → en_S → Option en_O} (h : en_ct o o') (hi : ∀ r σ, en_ct (fun n => ki n r σ) (ki' r σ)) (hx : ∀ e σ, en_ct (fun n => kx n e σ) (kx' e σ)) : en_ct (fun n => en_cJ (o n) (ki n) (kx n)) (en_cJ o' ki' kx') := by
  cases o' with
  | none => exact fun _ h => by cases h
  | some z =>
    obtain ⟨N, hN⟩ := h z rfl
    intro r hr
    obtain ⟨v | e, σ⟩ := z
    · cases v with
      | none => cases hr
      | some v =>
        cases v <;> first
          | (have h9 := hi _ _ _ hr; obtain ⟨M, hM⟩ := h9; exact ⟨max N M, fun m hm => by (simp only [hN m (by omega)]; exact hM m (by omega))⟩)
          | cases hr
    · obtain ⟨M, hM⟩ := hx _ _ _ hr
      exact ⟨max N M, fun m hm => by (simp only [hN m (by omega)]; exact hM m (by omega))⟩
theorem en_ct.cV {o : Nat → Option en_O} {o' : Option en_O} {ki : Nat → en_S → Option en_O} {ki' : en_S → Option en_O} {kx : Nat → Nat → en_S → Option en_O} {kx' : Nat → en_S → Option en_O} (h : en_ct o o') (hi : ∀ σ, en_ct (fun n => ki n σ) (ki' σ)) (hx : ∀ e σ, en_ct (fun n => kx n e σ) (kx' e σ)) : en_ct (fun n => en_cV (o n) (ki n) (kx n)) (en_cV o' ki' kx') := by
  cases o' with
  | none => exact fun _ h => by cases h
  | some z =>
    obtain ⟨N, hN⟩ := h z rfl
    intro r hr
    obtain ⟨v | e, σ⟩ := z
    · cases v with
      | none =>
        obtain ⟨M, hM⟩ := hi _ _ hr
        exact ⟨max N M, fun m hm => by (simp only [hN m (by omega)]; exact hM m (by omega))⟩
      | some v => cases hr
    · obtain ⟨M, hM⟩ := hx _ _ _ hr
      exact ⟨max N M, fun m hm => by (simp only [hN m (by omega)]; exact hM m (by omega))⟩
theorem en_ct.back {rt : Option FieldType} {o : Nat → Option en_O} {o' : Option en_O} {k : Nat → List Value → en_S → Option en_O} {k' : List Value → en_S → Option en_O} {kx : Nat → Nat → en_S → Option en_O} {kx' : Nat → en_S → Option en_O} (h : en_ct o o') (hi : ∀ v σ, en_ct (fun n => k n v σ) (k' v σ)) (hx : ∀ e σ, en_ct (fun n => kx n e σ) (kx' e σ)) : en_ct (fun n => en_back rt (o n) (k n) (kx n)) (en_back rt o' k' kx') := by
  unfold en_back
  split
  · exact en_ct.cV (ki := fun n σ => k n [] σ) h (fun _ => hi _ _) hx
  · exact en_ct.cJ (ki := fun n r σ => k n [.long r] σ) h (fun _ _ => hi _ _) hx
  · exact en_ct.cI (ki := fun n r σ => k n [.int r] σ) h (fun _ _ => hi _ _) hx
  · exact en_ct.cI (ki := fun n r σ => k n [.int r] σ) h (fun _ _ => hi _ _) hx
  · exact en_ct.rf _
theorem en_ct.sw {x : Int32} {pc : Nat} {d : Int} {k : Nat → Nat → Option en_O} {k' : Nat → Option en_O} (h : ∀ t, en_ct (fun n => k n t) (k' t)) : ∀ (l : List Int) (lo : Int), en_ct (fun n => en_sw x pc d (k n) lo l) (en_sw x pc d k' lo l)
  | [], _ => h _
  | _ :: r, _ => en_ct.ite (h _) (en_ct.sw h r _)
theorem en_ct.lk {x : Int32} {pc : Nat} {d : Int} {k : Nat → Nat → Option en_O} {k' : Nat → Option en_O} (h : ∀ t, en_ct (fun n => k n t) (k' t)) : ∀ (l : List (Int × Int)), en_ct (fun n => en_lk x pc d (k n) l) (en_lk x pc d k' l)
  | [] => h _
  | _ :: r => en_ct.ite (h _) (en_ct.lk h r)
theorem en_ct.cif {b : ClassFile.Cond} {x y : Int32} {a c : Nat → Option en_O} {a' c' : Option en_O} (h1 : en_ct a a') (h2 : en_ct c c') : en_ct (fun n => en_if b x y (a n) (c n)) (en_if b x y a' c') := by
  cases b <;> first | exact en_ct.ite h1 h2 | exact en_ct.ite h2 h1
theorem en_ct.hx {x : Nat} {h : Option (Nat × Nat)} {k : Nat → Nat → Nat → Option en_O} {k' : Nat → Nat → Option en_O} {e : Nat} {σ : en_S} (hk : ∀ t j, en_ct (fun n => k n t j) (k' t j)) : en_ct (fun n => en_hx x h (k n) e σ) (en_hx x h k' e σ) := by
  cases h with
  | none => exact en_ct.rf _
  | some z => exact en_ct.ite (hk _ _) (en_ct.rf _)
set_option maxHeartbeats 4000000 in
theorem en_step_ct {G : en_G} {mi pc : Nat} {i : Instr} {L : en_L} {st : List Value} {σ : en_S} {k : Nat → en_K} {k' : en_K} {call : Nat → Nat → List Value → en_S → Option en_O} {call' : Nat → List Value → en_S → Option en_O} {kx : Nat → Nat → en_L → Nat → en_S → Option en_O} {kx' : Nat → en_L → Nat → en_S → Option en_O}
    (hk : ∀ a b c d, en_ct (fun n => k n a b c d) (k' a b c d)) (hc : ∀ a b c, en_ct (fun n => call n a b c) (call' a b c)) (hx : ∀ a b c d, en_ct (fun n => kx n a b c d) (kx' a b c d)) :
    en_ct (fun n => en_step G mi pc i L st σ (k n) (call n) (kx n)) (en_step G mi pc i L st σ k' call' kx') := by
  unfold en_step
  split <;> (try unfold en_inV) <;> (try unfold en_inS) <;> (repeat' split) <;>
    first
    | exact hk _ _ _ _
    | exact en_ct.rf _
    | exact en_ct.nn _
    | exact en_ct.cif (hk _ _ _ _) (hk _ _ _ _)
    | exact en_ct.sw (k := fun n t => k n t _ _ _) (fun _ => hk _ _ _ _) _ _
    | exact en_ct.lk (k := fun n t => k n t _ _ _) (fun _ => hk _ _ _ _) _
    | exact en_ct.back (k := fun n v σ => k n _ _ _ σ) (kx := fun n => kx n _ _) (hc _ _ _) (fun _ _ => hk _ _ _ _) (fun _ _ => hx _ _ _ _)
theorem en_run_ct {G : en_G} {P : en_P} {ML : Nat → Nat} {HD : en_H} (x mi pc : Nat) (L : en_L) (st : List Value) (σ : en_S) : en_ct (fun n => en_run G P ML HD n x mi pc L st σ) (en_ex G P ML HD x mi pc L st σ) := by
  intro o ho
  obtain ⟨n, hn⟩ := en_ex_iff.mp ho
  exact ⟨n, fun m hm => en_run_le hm _ hn⟩
theorem en_run_ex {G : en_G} {P : en_P} {ML : Nat → Nat} {HD : en_H} (n x mi pc : Nat) (L : en_L) (st : List Value) (σ : en_S) : en_le (en_run G P ML HD n x mi pc L st σ) (en_ex G P ML HD x mi pc L st σ) := fun o ho => en_ex_iff.mpr ⟨n, ho⟩
noncomputable def en_st (G : en_G) (P : en_P) (ML : Nat → Nat) (HD : en_H) (x mi pc : Nat) (i : Instr) (L : en_L) (st : List Value) (σ : en_S) (k : en_K) : Option en_O :=
  en_step G mi pc i L st σ k (fun y as σ' => en_ex G P ML HD 0 y 0 (en_ent (ML y) as) [] σ')
    (fun pc' L' e σ' => en_hx x (HD mi pc' e) (fun t j => en_ex G P ML HD 0 mi t (en_set L' j none) [] σ') e σ')
/-- one step of it -/
theorem en_ex_eq {G : en_G} {P : en_P} {ML : Nat → Nat} {HD : en_H} (x mi pc : Nat) (L : en_L) (st : List Value) (σ : en_S) : en_ex G P ML HD x mi pc L st σ = match en_get (P mi) pc with
    | none => none
    | some (i, m) => en_st G P ML HD x mi pc i (en_msk m L) st σ (en_ex G P ML HD x mi) := by
  apply Option.ext
  intro o
  constructor
  · intro h
    obtain ⟨n, hn⟩ := en_ex_iff.mp h
    cases n with
    | zero => cases hn
    | succ n =>
      unfold en_run at hn
      split at hn
      · cases hn
      · next i m hg =>
        rw [hg]
        exact en_step_mono (fun _ _ _ _ => en_run_ex n _ _ _ _ _ _) (fun _ _ _ => en_run_ex n _ _ _ _ _ _) (fun _ _ _ _ => en_le.hx (fun _ _ => en_run_ex n _ _ _ _ _ _)) o hn
  · intro h
    cases hg : en_get (P mi) pc with
    | none => rw [hg] at h; cases h
    | some z =>
      obtain ⟨i, m⟩ := z
      rw [hg] at h
      have h9 := en_step_ct (k := fun n => en_run G P ML HD n x mi) (call := fun n y as σ' => en_run G P ML HD n 0 y 0 (en_ent (ML y) as) [] σ')
        (kx := fun n pc' L' e σ' => en_hx x (HD mi pc' e) (fun t j => en_run G P ML HD n 0 mi t (en_set L' j none) [] σ') e σ')
        (fun _ _ _ _ => en_run_ct _ _ _ _ _ _) (fun _ _ _ => en_run_ct _ _ _ _ _ _) (fun _ L' _ σ' => en_ct.hx (k := fun n t j => en_run G P ML HD n 0 mi t (en_set L' j none) [] σ') (fun _ _ => en_run_ct _ _ _ _ _ _)) o h
      obtain ⟨n, hn⟩ := h9
      refine en_ex_iff.mpr ⟨n + 1, ?_⟩
      unfold en_run
      rw [hg]
      exact hn n (Nat.le_refl n)
/-- several steps: up to a cut, at most n -/
noncomputable def en_un (G : en_G) (P : en_P) (ML : Nat → Nat) (HD : en_H) (x mi : Nat) : Nat → en_K
  | 0 => fun pc L st σ => en_ex G P ML HD x mi pc L st σ
  | n + 1 => fun pc L st σ => match en_get (P mi) pc with
    | none => none
    | some (i, none) => en_st G P ML HD x mi pc i L st σ (en_un G P ML HD x mi n)
    | some (_, some m) => en_ex G P ML HD x mi pc (en_msk (some m) L) st σ
theorem en_zw (bs : List Bool) (L : en_L) : List.zipWith (fun b v => if b = true then v else none) bs (List.zipWith (fun b v => if b = true then v else none) bs L) = List.zipWith (fun (b : Bool) (v : Option Value) => if b = true then v else none) bs L := by
  induction bs generalizing L with
  | nil => rfl
  | cons b bs ih =>
    cases L with
    | nil => rfl
    | cons v L =>
      simp only [List.zipWith_cons_cons, ih]
      cases b <;> rfl
theorem en_un_eq {G : en_G} {P : en_P} {ML : Nat → Nat} {HD : en_H} (x mi : Nat) : ∀ (n pc : Nat) (L : en_L) (st : List Value) (σ : en_S), en_un G P ML HD x mi n pc L st σ = en_ex G P ML HD x mi pc L st σ
  | 0, _, _, _, _ => rfl
  | n + 1, pc, L, st, σ => by
    rw [en_ex_eq]
    unfold en_un
    split
    · next h => rw [h]
    · next i h =>
      rw [h]
      show en_st G P ML HD x mi pc i L st σ _ = en_st G P ML HD x mi pc i L st σ _
      congr 1
      funext a b c d
      exact en_un_eq x mi n a b c d
    · next i m h =>
      rw [h, en_ex_eq, h]
      exact congrArg (fun z => en_st G P ML HD x mi pc i z st σ (en_ex G P ML HD x mi)) (en_zw m L)
/-- from a cut (or an entry) on: the first step, then up to the next cut -/
theorem en_ex_un {G : en_G} {P : en_P} {ML : Nat → Nat} {HD : en_H} (n x mi pc : Nat) (L : en_L) (st : List Value) (σ : en_S) : en_ex G P ML HD x mi pc L st σ = match en_get (P mi) pc with
    | none => none
    | some (i, m) => en_st G P ML HD x mi pc i (en_msk m L) st σ (en_un G P ML HD x mi n) := by
  rw [en_ex_eq]
  split
  · rfl
  · congr 1
    funext a b c d
    exact (en_un_eq x mi n a b c d).symm
end
section
/-! THE ENGINE AND THE MACHINE: the world of a store, and each instruction. -/
def en_cv (ad : Nat → Nat) : Value → Value
  | .ref k => .ref (ad k)
  | v => v
def en_slv (ad : Nat → Nat) (p : Nat) (σ : en_S) (k : Nat) : Nat → Value
  | 0 => .int (σ.1 p k)
  | 1 => .long (σ.2 p k)
  | 2 => .int (σ.1 p k)
  | q + 3 => .ref (ad q)
def en_fs (ad : Nat → Nat) (p : Nat) (σ : en_S) (ds : List Nat) : List Value := ds.zipIdx.map (fun q => en_slv ad p σ q.2 q.1)
def en_cell (ad : Nat → Nat) (cA : Nat → ClassId) (sh : Nat × List Nat) (p : Nat) (σ : en_S) : va_E :=
  if sh.1 < 20 then .inr (sh.1, en_fs ad p σ sh.2) else if sh.1 = 23 then .inl (cA 3, sh.2.headD 0, .inr (.inl (σ.2 p))) else .inl (cA (sh.1 - 20), sh.2.headD 0, .inl (σ.1 p))
def en_ws (G : en_G) (ad : Nat → Nat) (cA : Nat → ClassId) (σ : en_S) : va_W := (en_SH G).zipIdx.map (fun q => (ad q.2, en_cell ad cA q.1 q.2 σ))
def en_tys (cA : Nat → ClassId) : List (ClassId × FieldType) := [(cA 0, .int), (cA 1, .byte), (cA 2, .boolean), (cA 3, .long)]
theorem en_fs_at {ad : Nat → Nat} {p : Nat} {σ : en_S} {ds : List Nat} {k d : Nat} (h : ds[k]? = some d) : (en_fs ad p σ ds)[k]? = some (en_slv ad p σ k d) := by
  simp [en_fs, List.getElem?_map, List.getElem?_zipIdx, h]
theorem en_fs_len {ad : Nat → Nat} {p : Nat} {σ : en_S} {ds : List Nat} : (en_fs ad p σ ds).length = ds.length := by simp [en_fs]
theorem en_ws_at {G : en_G} {ad : Nat → Nat} {cA : Nat → ClassId} {σ : en_S} {p : Nat} {sh : Nat × List Nat} (h : (en_SH G)[p]? = some sh) : (en_ws G ad cA σ)[p]? = some (ad p, en_cell ad cA sh p σ) := by
  simp [en_ws, List.getElem?_map, List.getElem?_zipIdx, h]
theorem en_ws_no {G : en_G} {ad : Nat → Nat} {cA : Nat → ClassId} {σ : en_S} {p : Nat} (h : (en_SH G)[p]? = none) : (en_ws G ad cA σ)[p]? = none := by
  simp [en_ws, List.getElem?_map, List.getElem?_zipIdx, h]
theorem en_cell_eq {ad : Nat → Nat} {cA : Nat → ClassId} {sh : Nat × List Nat} {p : Nat} {σ σ' : en_S} (h1 : σ.1 p = σ'.1 p) (h2 : σ.2 p = σ'.2 p) : en_cell ad cA sh p σ = en_cell ad cA sh p σ' := by
  have h3 : ∀ k d, en_slv ad p σ k d = en_slv ad p σ' k d := by
    intro k d
    match d with
    | 0 => simp [en_slv, h1]
    | 1 => simp [en_slv, h2]
    | 2 => simp [en_slv, h1]
    | q + 3 => rfl
  unfold en_cell en_fs
  simp only [h1, h2, h3]
/-- writing one cell -/
theorem en_ws_set {G : en_G} {ad : Nat → Nat} {cA : Nat → ClassId} {σ σ' : en_S} {p : Nat} {sh : Nat × List Nat} (h : (en_SH G)[p]? = some sh) (h1 : ∀ q, q ≠ p → σ.1 q = σ'.1 q) (h2 : ∀ q, q ≠ p → σ.2 q = σ'.2 q) : (en_ws G ad cA σ).set p (ad p, en_cell ad cA sh p σ') = en_ws G ad cA σ' := by
  apply List.ext_getElem?
  intro q
  by_cases hq : q = p
  · subst hq
    rw [en_ws_at h]
    have hl := (List.getElem?_eq_some_iff.mp (en_ws_at (ad := ad) (cA := cA) (σ := σ) h)).1
    rw [List.getElem?_set_self hl]
  · rw [List.getElem?_set_ne (Ne.symm hq)]
    cases hs : (en_SH G)[q]? with
    | none => rw [en_ws_no hs, en_ws_no hs]
    | some z => rw [en_ws_at hs, en_ws_at hs, en_cell_eq (h1 q hq) (h2 q hq)]
theorem en_D {G : en_G} {ad : Nat → Nat} {cA : Nat → ClassId} {A : Nat → Prop} (hi : ∀ i j, i < (en_SH G).length → j < (en_SH G).length → ad i = ad j → i = j) (hA : ∀ i, i < (en_SH G).length → A (ad i)) (σ : en_S) : va_D A (en_ws G ad cA σ) := by
  have key : ∀ (k : Nat) (q : Nat × va_E), (en_ws G ad cA σ)[k]? = some q → k < (en_SH G).length ∧ q.1 = ad k := by
    intro k q hk
    cases hs : (en_SH G)[k]? with
    | none => rw [en_ws_no hs] at hk; cases hk
    | some z =>
      rw [en_ws_at hs] at hk
      cases hk
      exact ⟨(List.getElem?_eq_some_iff.mp hs).1, rfl⟩
  refine ⟨fun i j x y hx hy e => ?_, fun k q hk => ?_⟩
  · obtain ⟨a1, a2⟩ := key i x hx
    obtain ⟨b1, b2⟩ := key j y hy
    exact hi i j a1 b1 (by rw [← a2, ← b2]; exact e)
  · obtain ⟨a1, a2⟩ := key k q hk
    rw [a2]
    exact hA k a1
/-- the locals -/
def en_lv (ad : Nat → Nat) (ls : Array Slot) (n : Nat) (L : en_L) : Prop := L.length = n ∧ ls.size = n ∧ lv_wf ls ∧ ∀ (i : Nat) (v : Value), L[i]? = some (some v) → ls[i]? = some (.val (en_cv ad v))
def en_prs (ad : Nat → Nat) (L : en_L) : List (Nat × Value) := (List.range L.length).filterMap (fun i => match L[i]? with
  | some (some v) => some (i, en_cv ad v)
  | _ => none)
theorem en_prs_mem {ad : Nat → Nat} {L : en_L} {i : Nat} {w : Value} : (i, w) ∈ en_prs ad L ↔ ∃ v, L[i]? = some (some v) ∧ w = en_cv ad v := by
  unfold en_prs
  rw [List.mem_filterMap]
  constructor
  · rintro ⟨j, -, h⟩
    split at h
    · next v hv =>
      cases h
      exact ⟨v, hv, rfl⟩
    · cases h
  · rintro ⟨v, hv, rfl⟩
    refine ⟨i, List.mem_range.mpr (List.getElem?_eq_some_iff.mp hv).1, ?_⟩
    rw [hv]
theorem en_lv.has {ad : Nat → Nat} {ls : Array Slot} {n : Nat} {L : en_L} (h : en_lv ad ls n L) : lv_has ls n (en_prs ad L) := by
  refine ⟨h.2.1, h.2.2.1, ?_⟩
  rintro ⟨i, w⟩ hq
  obtain ⟨v, hv, rfl⟩ := en_prs_mem.mp hq
  exact h.2.2.2 i v hv
theorem en_lv.at {ad : Nat → Nat} {ls : Array Slot} {n : Nat} {L : en_L} (h : en_lv ad ls n L) {i : Nat} {v : Value} (hi : L[i]? = some (some v)) : ls[i]? = some (.val (en_cv ad v)) := h.2.2.2 i v hi
theorem en_clr_len {L : en_L} {i : Nat} : (en_clr L i).length = L.length := by
  unfold en_clr
  split
  · rfl
  · split
    · exact List.length_set
    · exact List.length_set
    · rfl
theorem en_set_len {L : en_L} {i : Nat} {v : Option Value} : (en_set L i v).length = L.length := by
  unfold en_set
  rw [List.length_set, en_clr_len]
theorem en_cv_cat {ad : Nat → Nat} (v : Value) : (en_cv ad v).category = v.category := by cases v <;> rfl
theorem en_cv2 {ad : Nat → Nat} {v : Value} (h : (en_cv ad v).category = 2) : (∃ x, v = .long x) ∨ ∃ x, v = .double x := by
  cases v with
  | long x => exact Or.inl ⟨x, rfl⟩
  | double x => exact Or.inr ⟨x, rfl⟩
  | _ => simp [en_cv, Value.category] at h
/-- what is known behind a store -/
theorem en_set_at {L : en_L} {i j : Nat} {o : Option Value} {w : Value} (h : (en_set L i o)[j]? = some (some w)) (hj : j ≠ i) : L[j]? = some (some w) ∧ ¬ (j + 1 = i ∧ ((∃ x, w = .long x) ∨ ∃ x, w = .double x)) := by
  unfold en_set at h
  rw [List.getElem?_set_ne (Ne.symm hj)] at h
  unfold en_clr at h
  split at h
  · exact ⟨h, fun z => by omega⟩
  · next i' =>
    split at h
    · next x hx =>
      by_cases hji : j = i'
      · subst hji
        have hl := (List.getElem?_eq_some_iff.mp hx).1
        rw [List.getElem?_set_self hl] at h
        cases h
      · rw [List.getElem?_set_ne (Ne.symm hji)] at h
        exact ⟨h, fun z => hji (by omega)⟩
    · next x hx =>
      by_cases hji : j = i'
      · subst hji
        have hl := (List.getElem?_eq_some_iff.mp hx).1
        rw [List.getElem?_set_self hl] at h
        cases h
      · rw [List.getElem?_set_ne (Ne.symm hji)] at h
        exact ⟨h, fun z => hji (by omega)⟩
    · next hno hno2 =>
      refine ⟨h, fun z => ?_⟩
      obtain ⟨z1, ⟨x, rfl⟩ | ⟨x, rfl⟩⟩ := z
      · have : j = i' := by omega
        subst this
        exact hno x h
      · have : j = i' := by omega
        subst this
        exact hno2 x h
theorem en_lv.store {ad : Nat → Nat} {ls' : Array Slot} {n : Nat} {L : en_L} {i : Nat} {v : Value} (hL : L.length = n)
    (h : lv_has ls' n ((i, en_cv ad v) :: (en_prs ad L).filter (fun q => !(q.1 == i) && !(q.1 + 1 == i && q.2.category == 2)))) (hi : i < n) : en_lv ad ls' n (en_set L i (some v)) := by
  refine ⟨by rw [en_set_len]; exact hL, h.1, h.2.1, fun j w hj => ?_⟩
  by_cases hji : j = i
  · subst hji
    unfold en_set at hj
    rw [List.getElem?_set_self (by rw [en_clr_len]; omega)] at hj
    cases hj
    exact h.2.2 _ List.mem_cons_self
  · obtain ⟨h1, h2⟩ := en_set_at hj hji
    refine h.2.2 (j, en_cv ad w) (List.mem_cons_of_mem _ (List.mem_filter.mpr ⟨en_prs_mem.mpr ⟨w, h1, rfl⟩, ?_⟩))
    simp only [Bool.and_eq_true, Bool.not_eq_true', beq_eq_false_iff_ne, ne_eq, Bool.and_eq_false_iff]
    refine ⟨hji, ?_⟩
    by_cases hc : (en_cv ad w).category = 2
    · left
      intro e
      exact h2 ⟨e, en_cv2 hc⟩
    · right
      exact hc
/-- a local that is forgotten -/
theorem en_lv.drop {ad : Nat → Nat} {ls' : Array Slot} {n : Nat} {L : en_L} {i : Nat} {w : Value} (hL : L.length = n)
    (h : lv_has ls' n ((i, w) :: (en_prs ad L).filter (fun q => !(q.1 == i) && !(q.1 + 1 == i && q.2.category == 2)))) : en_lv ad ls' n (en_set L i none) := by
  refine ⟨by rw [en_set_len]; exact hL, h.1, h.2.1, fun j u hj => ?_⟩
  by_cases hji : j = i
  · subst hji
    unfold en_set at hj
    by_cases hl : j < (en_clr L j).length
    · rw [List.getElem?_set_self hl] at hj
      cases hj
    · rw [List.getElem?_eq_none (by rw [List.length_set]; omega)] at hj
      cases hj
  · obtain ⟨h1, h2⟩ := en_set_at hj hji
    refine h.2.2 (j, en_cv ad u) (List.mem_cons_of_mem _ (List.mem_filter.mpr ⟨en_prs_mem.mpr ⟨u, h1, rfl⟩, ?_⟩))
    simp only [Bool.and_eq_true, Bool.not_eq_true', beq_eq_false_iff_ne, ne_eq, Bool.and_eq_false_iff]
    refine ⟨hji, ?_⟩
    by_cases hc : (en_cv ad u).category = 2
    · left
      intro e
      exact h2 ⟨e, en_cv2 hc⟩
    · right
      exact hc
theorem en_lv.msk {ad : Nat → Nat} {ls : Array Slot} {n : Nat} {L : en_L} (h : en_lv ad ls n L) (m : Option (List Bool)) (hm : ∀ bs, m = some bs → bs.length = n) : en_lv ad ls n (en_msk m L) := by
  cases m with
  | none => exact h
  | some bs =>
    refine ⟨?_, h.2.1, h.2.2.1, fun i v hi => ?_⟩
    · show (List.zipWith _ bs L).length = n
      rw [List.length_zipWith, hm bs rfl, h.1, Nat.min_self]
    · have hi' : (List.zipWith (fun (b : Bool) (v : Option Value) => if b = true then v else none) bs L)[i]? = some (some v) := hi
      rw [List.getElem?_zipWith] at hi'
      cases hb : bs[i]? with
      | none => rw [hb] at hi'; cases hi'
      | some b =>
        cases hL : L[i]? with
        | none => rw [hb, hL] at hi'; cases hi'
        | some u =>
          rw [hb, hL] at hi'
          cases b with
          | false => cases hi'
          | true =>
            simp at hi'
            rw [hi'] at hL
            exact h.2.2.2 i v hL
/-- how long an instruction is; 0: a switch -/
def en_len : Instr → Nat
  | .bipush _ => 2
  | .sipush _ => 3
  | .ldc _ => 2
  | .ldc_w _ => 3
  | .ldc2_w _ => 3
  | .iload _ => 2
  | .lload _ => 2
  | .aload _ => 2
  | .istore _ => 2
  | .lstore _ => 2
  | .astore _ => 2
  | .iinc _ _ => 3
  | .ifCond _ _ => 3
  | .if_icmp _ _ => 3
  | .goto _ => 3
  | .tableswitch _ _ _ _ => 0
  | .lookupswitch _ _ => 0
  | .getfield _ => 3
  | .putfield _ => 3
  | .invokevirtual _ => 3
  | .invokestatic _ => 3
  | .new _ => 3
  | _ => 1
/-- its jumps lie behind the method's beginning; a switch's rows are as they are read -/
def en_off (pc : Nat) : Instr → Bool
  | .ifCond _ off => decide (0 ≤ (pc : Int) + off)
  | .if_icmp _ off => decide (0 ≤ (pc : Int) + off)
  | .goto off => decide (0 ≤ (pc : Int) + off)
  | .tableswitch d lo hi offs => decide (0 ≤ (pc : Int) + d) && offs.toList.all (fun o => decide (0 ≤ (pc : Int) + o)) && decide (hi - lo + 1 = (offs.toList.length : Int)) && decide (-1000 ≤ lo) && decide (hi ≤ 1000)
  | .lookupswitch d ps => decide (0 ≤ (pc : Int) + d) && ps.toList.all (fun o => decide (0 ≤ (pc : Int) + o.2) && decide (-1000 ≤ o.1) && decide (o.1 ≤ 1000)) && (ps.toList.zip (ps.toList.drop 1)).all (fun (a, next) => a.1 < next.1)
  | _ => true
def en_chk (cc : ByteArray) (pc : Nat) (i : Instr) : Bool := match decode cc pc with
  | .ok (j, n) => decide (j = i) && (en_len i == 0 || n == en_len i) && en_off pc i
  | _ => false
theorem en_chk_spec {cc : ByteArray} {pc : Nat} {i : Instr} (h : en_chk cc pc i = true) : ∃ n, decode cc pc = .ok (i, n) ∧ (¬ en_len i = 0 → n = en_len i) ∧ en_off pc i = true := by
  unfold en_chk at h
  split at h
  · next j n hj =>
    simp only [Bool.and_eq_true, decide_eq_true_eq, Bool.or_eq_true, beq_iff_eq] at h
    obtain ⟨⟨rfl, h2⟩, h3⟩ := h
    exact ⟨n, hj, fun z => h2.resolve_left z, h3⟩
  · cases h
theorem en_tgt_eq {pc : Nat} {off : Int} (h : 0 ≤ (pc : Int) + off) : (pc : Int) + off = (en_tgt pc off : Int) := by
  unfold en_tgt
  omega
theorem en_ofInt {x : Int32} {a : Int} (h1 : -1000 ≤ a) (h2 : a ≤ 1000) : x = Int32.ofInt a ↔ x.toInt = a := by
  constructor
  · rintro rfl
    exact Int32.toInt_ofInt_of_le (by omega) (by omega)
  · intro h
    rw [← h, Int32.ofInt_toInt]
end
section
/-- what the tables say -/
def en_TF (G : en_G) (TT : List Cond) (cl : List vw_C) (tyC : Nat → Nat → FieldType) (own : Nat → String) : Prop :=
  (∀ (ci : Nat) (C : String) (T : u_T) (N : Nat), cl[ci]? = some (C, T, N) → (∀ w ∈ u_ws C T N, w ∈ TT) ∧ (∀ k, k < N → parseFieldDescriptor (T k).2.2.1 = some (tyC ci k)) ∧ (∀ a, a < N → ∀ b, b < N → a ≠ b → (T a).2.1 ≠ (T b).2.1) ∧ ∀ k, k < N → (tyC ci k = .int ∨ tyC ci k = .long ∨ tyC ci k = .boolean) → (T k).2.2.2 = false) ∧
  (∀ (p c : Nat) (ds : List Nat), (en_SH G)[p]? = some (c, ds) → c < 20 → ∃ (C : String) (T : u_T) (N : Nat), cl[c]? = some (C, T, N) ∧ ds.length = N ∧ ∀ k d, ds[k]? = some d → (d = 0 → tyC c k = .int) ∧ (d = 1 → tyC c k = .long) ∧ (d = 2 → tyC c k = .boolean)) ∧
  (∀ mi idx ci k, en_FD G mi idx = some (ci, k) → ci < 20 ∧ ∀ (C : String) (T : u_T) (N : Nat), cl[ci]? = some (C, T, N) → k < N ∧ Cond.fieldLink (own mi) idx (T k).1 (T k).2.1 (T k).2.2.1 ∈ TT) ∧
  (∀ mi idx v, en_KC G mi idx = some (.inl v) → Cond.constant (own mi) idx v ∈ TT) ∧
  (∀ mi idx v, en_KL G mi idx = some v → Cond.constantLong (own mi) idx v ∈ TT)
theorem en_arr_spec {G : en_G} {p kind n : Nat} (h : en_arr G p kind = some n) : ∃ r, (en_SH G)[p]? = some (kind, n :: r) := by
  unfold en_arr at h
  split at h
  · next c m r hs =>
    split at h
    · next hc => cases h; subst hc; exact ⟨r, hs⟩
    · cases h
  · cases h
theorem en_fld_spec {G : en_G} {ad : Nat → Nat} {σ : en_S} {p ci k : Nat} {v : Value} (h : en_fld G σ p ci k = some v) : ∃ ds d, (en_SH G)[p]? = some (ci, ds) ∧ ds[k]? = some d ∧ en_slv ad p σ k d = en_cv ad v := by
  unfold en_fld at h
  split at h
  · next c ds hs =>
    split at h
    · next hc =>
      subst hc
      split at h
      · next hd => cases h; exact ⟨ds, 0, hs, hd, rfl⟩
      · next hd => cases h; exact ⟨ds, 1, hs, hd, rfl⟩
      · next hd => cases h; exact ⟨ds, 2, hs, hd, rfl⟩
      · next q hd => cases h; exact ⟨ds, q + 3, hs, hd, rfl⟩
      · cases h
    · cases h
  · cases h
theorem en_put_spec {G : en_G} {σ σ' : en_S} {p ci k : Nat} {v : Value} (h : en_put G σ p ci k v = some σ') : ∃ ds d, (en_SH G)[p]? = some (ci, ds) ∧ ds[k]? = some d ∧
    ((d = 0 ∧ ∃ x, v = .int x ∧ σ' = (en_u1 σ.1 p k x, σ.2)) ∨ (d = 1 ∧ ∃ x, v = .long x ∧ σ' = (σ.1, en_u2 σ.2 p k x)) ∨ (d = 2 ∧ ∃ x, v = .int x ∧ (x = 0 ∨ x = 1) ∧ σ' = (en_u1 σ.1 p k x, σ.2))) := by
  unfold en_put at h
  split at h
  · next c ds hs =>
    split at h
    · next hc =>
      subst hc
      split at h
      · next x hd => cases h; exact ⟨ds, 0, hs, hd, Or.inl ⟨rfl, x, rfl, rfl⟩⟩
      · next x hd => cases h; exact ⟨ds, 1, hs, hd, Or.inr (Or.inl ⟨rfl, x, rfl, rfl⟩)⟩
      · next x hd =>
        split at h
        · next hx => cases h; exact ⟨ds, 2, hs, hd, Or.inr (Or.inr ⟨rfl, x, rfl, hx, rfl⟩)⟩
        · cases h
      · cases h
    · cases h
  · cases h
theorem en_fs_set {ad : Nat → Nat} {p : Nat} {σ σ' : en_S} {ds : List Nat} {k d : Nat} (hd : ds[k]? = some d) (h : ∀ j e, j ≠ k → en_slv ad p σ j e = en_slv ad p σ' j e) : (en_fs ad p σ ds).set k (en_slv ad p σ' k d) = en_fs ad p σ' ds := by
  apply List.ext_getElem?
  intro j
  by_cases hj : j = k
  · subst hj
    rw [List.getElem?_set_self (by rw [en_fs_len]; exact (List.getElem?_eq_some_iff.mp hd).1), en_fs_at hd]
  · rw [List.getElem?_set_ne (Ne.symm hj)]
    cases he : ds[j]? with
    | none =>
      have hl : ds.length ≤ j := by simpa using he
      rw [List.getElem?_eq_none (by rw [en_fs_len]; exact hl), List.getElem?_eq_none (by rw [en_fs_len]; exact hl)]
    | some e => rw [en_fs_at he, en_fs_at he, h j e hj]
theorem en_u1_ne {f : Nat → Nat → Int32} {p i q : Nat} {v : Int32} (h : q ≠ p) : f q = en_u1 f p i v q := by
  unfold en_u1
  rw [if_neg h]
theorem en_u1_eq {f : Nat → Nat → Int32} {p i : Nat} {v : Int32} : en_u1 f p i v p = upd (f p) i v := by
  unfold en_u1
  rw [if_pos rfl]
theorem en_u2_ne {f : Nat → Nat → Int64} {p i q : Nat} {v : Int64} (h : q ≠ p) : f q = en_u2 f p i v q := by
  unfold en_u2
  rw [if_neg h]
theorem en_u2_eq {f : Nat → Nat → Int64} {p i : Nat} {v : Int64} : en_u2 f p i v p = vp_updL (f p) i v := by
  unfold en_u2
  rw [if_pos rfl]
theorem en_uf_ne {f : Nat → Nat → Int32} {p q : Nat} {g : Nat → Int32} (h : q ≠ p) : f q = en_uf f p g q := by
  unfold en_uf
  rw [if_neg h]
theorem en_uf_eq {f : Nat → Nat → Int32} {p : Nat} {g : Nat → Int32} : en_uf f p g p = g := by
  unfold en_uf
  rw [if_pos rfl]
theorem en_slv1 {ad : Nat → Nat} {p : Nat} {σ : en_S} {k j e : Nat} {x : Int32} (h : j ≠ k) : en_slv ad p σ j e = en_slv ad p (en_u1 σ.1 p k x, σ.2) j e := by
  match e with
  | 0 => simp [en_slv, en_u1_eq, upd, h]
  | 1 => rfl
  | 2 => simp [en_slv, en_u1_eq, upd, h]
  | q + 3 => rfl
theorem en_slv2 {ad : Nat → Nat} {p : Nat} {σ : en_S} {k j e : Nat} {x : Int64} (h : j ≠ k) : en_slv ad p σ j e = en_slv ad p (σ.1, en_u2 σ.2 p k x) j e := by
  match e with
  | 0 => rfl
  | 1 => simp [en_slv, en_u2_eq, vp_updL, h]
  | 2 => rfl
  | q + 3 => rfl
section ES
variable {p : Program} {l : Launch} {e : Env} {R : Room} {s : State} {m : MethodId} {args : Array Value} {below : List Frame} {meth : Method} {c : Code} {H : Heap} {locs : List Loc} {cells slots : Nat} {Q : State → Prop}
variable {G : en_G} {ad : Nat → Nat} {cA : Nat → ClassId} {D : va_G} {cl : List vw_C} {A : Nat → Prop} {TT : List Cond} {tyC : Nat → Nat → FieldType} {own : Nat → String} {cc : ByteArray} {nL mi pc : Nat} {ls : Array Slot} {L : en_L} {st : List Value} {σ : en_S} {k : en_K} {call : Nat → List Value → en_S → Option en_O} {kx : Nat → en_L → Nat → en_S → Option en_O} {out : en_O} {i : Instr}
set_option maxHeartbeats 4000000 in
theorem en_sim1 (hT : en_TF G TT cl tyC own) (hx : p.tables.exec = Jvm.exec) (hb : c.code = cc) (hown : s.vm.findClass (own mi) = some m.cls) (hts : ∀ w ∈ TT, w.before args s = true) (hK : va_K D cl (en_tys cA) s)
    (hstr : ∀ idx q, en_KC G mi idx = some (.inr q) → ∃ tx, vk_R (own mi) idx tx (ad q) s)
    (hDD : ∀ σ, va_D A (en_ws G ad cA σ)) (hchk : en_chk cc pc i = true)
    (h : en_step G mi pc i L st σ k call kx = some out) (hl : en_lv ad ls nL L) (hP : va_P D cl (en_ws G ad cA σ) H) (hS : va_S A s.heap H locs)
    (hk : ∀ pc' L' st' σ' ls' H' locs', k pc' L' st' σ' = some out → en_lv ad ls' nL L' → va_P D cl (en_ws G ad cA σ') H' → va_S A s.heap H' locs' → W p l e R s m args below meth c H' locs' cells slots Q (F0 m pc' ls' (st'.map (en_cv ad))))
    (hrest : (∃ idx, i = .invokevirtual idx) ∨ (∃ idx, i = .invokestatic idx) ∨ (∃ idx, i = .new idx) ∨ i = .ireturn ∨ i = .lreturn ∨ i = .return_ → W p l e R s m args below meth c H locs cells slots Q (F0 m pc ls (st.map (en_cv ad)))) :
    W p l e R s m args below meth c H locs cells slots Q (F0 m pc ls (st.map (en_cv ad))) := by
  obtain ⟨n9, hd9, hn9, ho⟩ := en_chk_spec hchk
  have hd : ¬ en_len i = 0 → decode cc pc = .ok (i, en_len i) := fun z => by rw [hd9, hn9 z]
  obtain ⟨tC, tS, tF, tK, tL⟩ := hT
  have go : ∀ pc' L' st' σ', k pc' L' st' σ' = some out → σ' = σ → ∀ ls', en_lv ad ls' nL L' → W p l e R s m args below meth c H locs cells slots Q (F0 m pc' ls' (st'.map (en_cv ad))) := by
    intro pc' L' st' σ' h1 h2 ls' h3
    subst h2
    exact hk _ _ _ _ _ _ _ h1 h3 hP hS
  cases i with
  | iconst n => exact lv_iconst hx hb (hd (by simp [en_len])) rfl (go _ _ _ _ h rfl _ hl)
  | bipush n => exact lv_bipush hx hb (hd (by simp [en_len])) rfl (go _ _ _ _ h rfl _ hl)
  | sipush n => exact lv_sipush hx hb (hd (by simp [en_len])) rfl (go _ _ _ _ h rfl _ hl)
  | lconst n => exact lv_lconst hx hb (hd (by simp [en_len])) rfl (go _ _ _ _ h rfl _ hl)
  | ldc idx =>
    simp only [en_step] at h
    split at h
    · next v hv => exact lv_ldc hx hb hown (hts _ (tK _ _ _ hv)) (hd (by simp [en_len])) (go _ _ _ _ h rfl _ hl)
    · next q hq =>
      obtain ⟨tx, hR⟩ := hstr _ _ hq
      exact va_ldcS hx hb hown hR (hd (by simp [en_len])) (go _ _ _ _ h rfl _ hl)
    · cases h
  | ldc_w idx =>
    simp only [en_step] at h
    split at h
    · next v hv => exact lv_ldcw hx hb hown (hts _ (tK _ _ _ hv)) (hd (by simp [en_len])) (go _ _ _ _ h rfl _ hl)
    · cases h
  | ldc2_w idx =>
    simp only [en_step] at h
    split at h
    · next v hv => exact lv_ldc2 hx hb hown (hts _ (tL _ _ _ hv)) (hd (by simp [en_len])) (go _ _ _ _ h rfl _ hl)
    · cases h
  | iload_n j =>
    simp only [en_step] at h
    split at h
    · next x hv => exact lv_iload_n hx hb (hd (by simp [en_len])) rfl (hl.at hv) (go _ _ _ _ h rfl _ hl)
    · cases h
  | iload j =>
    simp only [en_step] at h
    split at h
    · next x hv => exact lv_iload hx hb (hd (by simp [en_len])) (hl.at hv) (go _ _ _ _ h rfl _ hl)
    · cases h
  | lload j =>
    simp only [en_step] at h
    split at h
    · next x hv => exact lv_lload hx hb (hd (by simp [en_len])) (hl.at hv) (go _ _ _ _ h rfl _ hl)
    · cases h
  | aload_n j =>
    simp only [en_step] at h
    split at h
    · next x hv => exact lv_aload_n hx hb (hd (by simp [en_len])) rfl (hl.at hv) (go _ _ _ _ h rfl _ hl)
    · cases h
  | aload j =>
    simp only [en_step] at h
    split at h
    · next x hv => exact lv_aload hx hb (hd (by simp [en_len])) (hl.at hv) (go _ _ _ _ h rfl _ hl)
    · cases h
  | istore_n j =>
    simp only [en_step] at h
    split at h
    · next x r =>
      split at h
      · next hj => exact lv_istore_n hx hb (hd (by simp [en_len])) rfl hl.has (by rw [← hl.1]; exact hj) rfl (fun ls' h' => go _ _ _ _ h rfl _ (en_lv.store hl.1 h' (by rw [← hl.1]; exact hj)))
      · cases h
    · cases h
  | istore j =>
    simp only [en_step] at h
    split at h
    · next x r =>
      split at h
      · next hj => exact lv_istore hx hb (hd (by simp [en_len])) hl.has (by rw [← hl.1]; exact hj) rfl (fun ls' h' => go _ _ _ _ h rfl _ (en_lv.store hl.1 h' (by rw [← hl.1]; exact hj)))
      · cases h
    · cases h
  | lstore j =>
    simp only [en_step] at h
    split at h
    · next x r =>
      split at h
      · next hj =>
        refine lv_lstore hx hb (hd (by simp [en_len])) hl.has (by rw [← hl.1]; exact hj) rfl (fun ls' h' => go _ _ _ _ h rfl _ ?_)
        refine ⟨by rw [List.length_set, en_set_len]; exact hl.1, h'.1, h'.2.1, fun a w ha => ?_⟩
        by_cases e1 : a = j + 1
        · subst e1
          rw [List.getElem?_set_self (by rw [en_set_len]; exact hj)] at ha
          cases ha
        · rw [List.getElem?_set_ne (Ne.symm e1)] at ha
          by_cases e2 : a = j
          · subst e2
            unfold en_set at ha
            rw [List.getElem?_set_self (by rw [en_clr_len]; omega)] at ha
            cases ha
            exact h'.2.2 _ List.mem_cons_self
          · obtain ⟨h1, h2⟩ := en_set_at ha e2
            refine h'.2.2 (a, en_cv ad w) (List.mem_cons_of_mem _ (List.mem_filter.mpr ⟨en_prs_mem.mpr ⟨w, h1, rfl⟩, ?_⟩))
            simp only [Bool.and_eq_true, Bool.not_eq_true', beq_eq_false_iff_ne, ne_eq, Bool.and_eq_false_iff]
            refine ⟨e2, e1, ?_⟩
            by_cases hc : (en_cv ad w).category = 2
            · left
              intro e
              exact h2 ⟨e, en_cv2 hc⟩
            · right
              exact hc
      · cases h
    · cases h
  | iinc j n =>
    simp only [en_step] at h
    split at h
    · next x hv =>
      have hm : (j, Value.int x) ∈ en_prs ad L := en_prs_mem.mpr ⟨.int x, hv, rfl⟩
      obtain ⟨q, hq⟩ := List.getElem?_of_mem hm
      have hj : j < nL := by rw [← hl.1]; exact (List.getElem?_eq_some_iff.mp hv).1
      exact lv_iinc hx hb (hd (by simp [en_len])) hl.has hq rfl hj rfl (fun ls' h' => go _ _ _ _ h rfl _ (en_lv.store hl.1 h' hj))
    · cases h
  | iadd =>
    simp only [en_step] at h
    split at h
    · exact lv_iadd hx hb (hd (by simp [en_len])) (go _ _ _ _ h rfl _ hl)
    · cases h
  | isub =>
    simp only [en_step] at h
    split at h
    · exact lv_isub hx hb (hd (by simp [en_len])) (go _ _ _ _ h rfl _ hl)
    · cases h
  | imul =>
    simp only [en_step] at h
    split at h
    · exact lv_imul hx hb (hd (by simp [en_len])) (go _ _ _ _ h rfl _ hl)
    · cases h
  | idiv =>
    simp only [en_step] at h
    split at h
    · split at h
      · cases h
      · next hy => exact lv_idiv hx hb (hd (by simp [en_len])) hy (go _ _ _ _ h rfl _ hl)
    · cases h
  | irem =>
    simp only [en_step] at h
    split at h
    · split at h
      · cases h
      · next hy => exact lv_irem hx hb (hd (by simp [en_len])) hy (go _ _ _ _ h rfl _ hl)
    · cases h
  | iand =>
    simp only [en_step] at h
    split at h
    · exact lv_iand hx hb (hd (by simp [en_len])) (go _ _ _ _ h rfl _ hl)
    · cases h
  | ior =>
    simp only [en_step] at h
    split at h
    · exact lv_ior hx hb (hd (by simp [en_len])) (go _ _ _ _ h rfl _ hl)
    · cases h
  | ixor =>
    simp only [en_step] at h
    split at h
    · exact lv_ixor hx hb (hd (by simp [en_len])) (go _ _ _ _ h rfl _ hl)
    · cases h
  | ishl =>
    simp only [en_step] at h
    split at h
    · exact lv_ishl hx hb (hd (by simp [en_len])) (go _ _ _ _ h rfl _ hl)
    · cases h
  | ishr =>
    simp only [en_step] at h
    split at h
    · exact lv_ishr hx hb (hd (by simp [en_len])) (go _ _ _ _ h rfl _ hl)
    · cases h
  | iushr =>
    simp only [en_step] at h
    split at h
    · exact lv_iushr hx hb (hd (by simp [en_len])) rfl (go _ _ _ _ h rfl _ hl)
    · cases h
  | ineg =>
    simp only [en_step] at h
    split at h
    · exact lv_ineg hx hb (hd (by simp [en_len])) (go _ _ _ _ h rfl _ hl)
    · cases h
  | lshl =>
    simp only [en_step] at h
    split at h
    · exact lv_lshl hx hb (hd (by simp [en_len])) rfl (go _ _ _ _ h rfl _ hl)
    · cases h
  | lor =>
    simp only [en_step] at h
    split at h
    · exact lv_lor hx hb (hd (by simp [en_len])) (go _ _ _ _ h rfl _ hl)
    · cases h
  | lsub =>
    simp only [en_step] at h
    split at h
    · exact lv_lsub hx hb (hd (by simp [en_len])) (go _ _ _ _ h rfl _ hl)
    · cases h
  | lcmp =>
    simp only [en_step] at h
    split at h
    · exact W.lcmp hx hb (hd (by simp [en_len])) (go _ _ _ _ h rfl _ hl)
    · cases h
  | i2l =>
    simp only [en_step] at h
    split at h
    · exact lv_i2l hx hb (hd (by simp [en_len])) rfl (go _ _ _ _ h rfl _ hl)
    · cases h
  | i2b =>
    simp only [en_step] at h
    split at h
    · exact lv_i2b hx hb (hd (by simp [en_len])) rfl (go _ _ _ _ h rfl _ hl)
    · cases h
  | i2c =>
    simp only [en_step] at h
    split at h
    · exact lv_i2c hx hb (hd (by simp [en_len])) rfl (go _ _ _ _ h rfl _ hl)
    · cases h
  | dup =>
    simp only [en_step] at h
    split at h
    · exact lv_dup hx hb (hd (by simp [en_len])) rfl (go _ _ _ _ h rfl _ hl)
    · exact lv_dup hx hb (hd (by simp [en_len])) rfl (go _ _ _ _ h rfl _ hl)
    · cases h
  | dup2 =>
    simp only [en_step] at h
    split at h
    · exact lv_dup2_11 hx hb (hd (by simp [en_len])) rfl rfl (go _ _ _ _ h rfl _ hl)
    · cases h
  | pop =>
    simp only [en_step] at h
    split at h
    · exact lv_pop hx hb (hd (by simp [en_len])) rfl (go _ _ _ _ h rfl _ hl)
    · cases h
  | goto off =>
    simp only [en_off, decide_eq_true_eq] at ho
    exact lv_goto hx hb (hd (by simp [en_len])) (en_tgt_eq ho) (go _ _ _ _ h rfl _ hl)
  | ifCond b off =>
    simp only [en_off, decide_eq_true_eq] at ho
    simp only [en_step] at h
    split at h
    · next x r =>
      cases b <;> simp only [en_if] at h
      · refine lv_if_eq hx hb (hd (by simp [en_len])) (en_tgt_eq ho) (fun z => ?_) (fun z => ?_)
        · rw [if_pos z] at h; exact go _ _ _ _ h rfl _ hl
        · rw [if_neg z] at h; exact go _ _ _ _ h rfl _ hl
      · refine lv_if_ne hx hb (hd (by simp [en_len])) (en_tgt_eq ho) (fun z => ?_) (fun z => ?_)
        · rw [if_neg z] at h; exact go _ _ _ _ h rfl _ hl
        · rw [if_pos z] at h; exact go _ _ _ _ h rfl _ hl
      · refine lv_if_lt hx hb (hd (by simp [en_len])) (en_tgt_eq ho) (fun z => ?_) (fun z => ?_)
        · rw [if_pos z] at h; exact go _ _ _ _ h rfl _ hl
        · rw [if_neg z] at h; exact go _ _ _ _ h rfl _ hl
      · refine lv_if_ge hx hb (hd (by simp [en_len])) (en_tgt_eq ho) (fun z => ?_) (fun z => ?_)
        · rw [if_pos z] at h; exact go _ _ _ _ h rfl _ hl
        · rw [if_neg z] at h; exact go _ _ _ _ h rfl _ hl
      · refine lv_if_gt hx hb (hd (by simp [en_len])) (en_tgt_eq ho) (fun z => ?_) (fun z => ?_)
        · rw [if_pos z] at h; exact go _ _ _ _ h rfl _ hl
        · rw [if_neg z] at h; exact go _ _ _ _ h rfl _ hl
      · refine lv_if_le hx hb (hd (by simp [en_len])) (en_tgt_eq ho) (fun z => ?_) (fun z => ?_)
        · rw [if_pos z] at h; exact go _ _ _ _ h rfl _ hl
        · rw [if_neg z] at h; exact go _ _ _ _ h rfl _ hl
    · cases h
  | if_icmp b off =>
    simp only [en_off, decide_eq_true_eq] at ho
    simp only [en_step] at h
    split at h
    · next y x r =>
      cases b <;> simp only [en_if] at h
      · refine lv_icmp_eq hx hb (hd (by simp [en_len])) (en_tgt_eq ho) (fun z => ?_) (fun z => ?_)
        · rw [if_pos z] at h; exact go _ _ _ _ h rfl _ hl
        · rw [if_neg z] at h; exact go _ _ _ _ h rfl _ hl
      · refine lv_icmp_ne hx hb (hd (by simp [en_len])) (en_tgt_eq ho) (fun z => ?_) (fun z => ?_)
        · rw [if_neg z] at h; exact go _ _ _ _ h rfl _ hl
        · rw [if_pos z] at h; exact go _ _ _ _ h rfl _ hl
      · refine lv_icmp_lt hx hb (hd (by simp [en_len])) (en_tgt_eq ho) (fun z => ?_) (fun z => ?_)
        · rw [if_pos z] at h; exact go _ _ _ _ h rfl _ hl
        · rw [if_neg z] at h; exact go _ _ _ _ h rfl _ hl
      · refine lv_icmp_ge hx hb (hd (by simp [en_len])) (en_tgt_eq ho) (fun z => ?_) (fun z => ?_)
        · rw [if_pos z] at h; exact go _ _ _ _ h rfl _ hl
        · rw [if_neg z] at h; exact go _ _ _ _ h rfl _ hl
      · refine lv_icmp_gt hx hb (hd (by simp [en_len])) (en_tgt_eq ho) (fun z => ?_) (fun z => ?_)
        · rw [if_pos z] at h; exact go _ _ _ _ h rfl _ hl
        · rw [if_neg z] at h; exact go _ _ _ _ h rfl _ hl
      · refine lv_icmp_le hx hb (hd (by simp [en_len])) (en_tgt_eq ho) (fun z => ?_) (fun z => ?_)
        · rw [if_pos z] at h; exact go _ _ _ _ h rfl _ hl
        · rw [if_neg z] at h; exact go _ _ _ _ h rfl _ hl
    · cases h
  | tableswitch dflt lo hi offs =>
    simp only [en_off, Bool.and_eq_true, decide_eq_true_eq, List.all_eq_true] at ho
    obtain ⟨⟨⟨⟨o1, o2⟩, o3⟩, o4⟩, o5⟩ := ho
    simp only [en_step] at h
    split at h
    · next x r =>
      have key : ∀ (l0 : List Int) (a : Nat), offs.toList.drop a = l0 → en_sw x pc dflt (fun t => k t L r σ) (lo + a) l0 = some out → ¬ (lo ≤ x.toInt ∧ x.toInt < lo + a) →
          W p l e R s m args below meth c H locs cells slots Q (F0 m pc ls (.int x :: r.map (en_cv ad))) := by
        intro l0
        induction l0 with
        | nil =>
          intro a ha h0 hno
          have hla : offs.toList.length ≤ a := List.drop_eq_nil_iff.mp ha
          exact lv_tableOut hx hb hd9 (by omega) (en_tgt_eq o1) (go _ _ _ _ h0 rfl _ hl)
        | cons o r9 ih =>
          intro a ha h0 hno
          have hla : a < offs.toList.length := by
            rcases Nat.lt_or_ge a offs.toList.length with z | z
            · exact z
            · rw [List.drop_eq_nil_of_le z] at ha; cases ha
          have hget : offs.toList[a]? = some o := by
            have := List.getElem?_drop (xs := offs.toList) (i := a) (j := 0)
            rw [ha] at this
            simpa using this.symm
          simp only [en_sw] at h0
          split at h0
          · next hx0 =>
            have e1 := (en_ofInt (by omega) (by omega)).mp hx0
            refine lv_tableIn hx hb hd9 (by omega) (by omega) (off := o) ?_ (en_tgt_eq (o2 o (List.mem_of_getElem? hget))) (go _ _ _ _ h0 rfl _ hl)
            rw [show (x.toInt - lo).toNat = a by omega, ← Array.getElem?_toList]
            exact hget
          · next hx0 =>
            refine ih (a + 1) ?_ ?_ ?_
            · have h9 := congrArg (List.drop 1) ha
              rw [List.drop_drop] at h9
              rw [Nat.add_comm] at h9
              simpa [Nat.add_comm] using h9
            · rw [show lo + ((a + 1 : Nat) : Int) = lo + a + 1 by omega]
              exact h0
            · intro z
              have e1 : ¬ x.toInt = lo + a := fun q => hx0 ((en_ofInt (by omega) (by omega)).mpr q)
              omega
      exact key offs.toList 0 rfl (by rw [show lo + ((0 : Nat) : Int) = lo by omega]; exact h) (by omega)
    · cases h
  | lookupswitch dflt ps =>
    simp only [en_off, Bool.and_eq_true, decide_eq_true_eq, List.all_eq_true] at ho
    obtain ⟨⟨o1, o2⟩, o3⟩ := ho
    simp only [en_step] at h
    split at h
    · next x r =>
      have key : ∀ (l0 : List (Int × Int)), (∀ q ∈ l0, q ∈ ps.toList) → en_lk x pc dflt (fun t => k t L r σ) l0 = some out → ∃ t, k t L r σ = some out ∧ (pc : Int) + Op.lookupswitch.offset l0 dflt x.toInt = (t : Int) := by
        intro l0
        induction l0 with
        | nil => exact fun _ h0 => ⟨_, h0, en_tgt_eq o1⟩
        | cons o r9 ih =>
          intro hm h0
          obtain ⟨⟨q1, q2⟩, q3⟩ := o2 o (hm o List.mem_cons_self)
          simp only [en_lk] at h0
          split at h0
          · next hx0 =>
            have e1 := (en_ofInt (by omega) (by omega)).mp hx0
            refine ⟨_, h0, ?_⟩
            simp only [Op.lookupswitch.offset]
            rw [if_pos (by simpa using e1.symm)]
            exact en_tgt_eq q1
          · next hx0 =>
            have e1 : ¬ x.toInt = o.1 := fun q => hx0 ((en_ofInt (by omega) (by omega)).mpr q)
            obtain ⟨t, a1, a2⟩ := ih (fun q hq => hm q (List.mem_cons_of_mem _ hq)) h0
            refine ⟨t, a1, ?_⟩
            simp only [Op.lookupswitch.offset]
            rw [if_neg (by simpa using fun z => e1 z.symm)]
            exact a2
      obtain ⟨t, a1, a2⟩ := key ps.toList (fun _ h => h) h
      exact lv_lookup hx hb hd9 (List.all_eq_true.mpr (fun x hx9 => decide_eq_true (o3 x hx9))) rfl a2 (go _ _ _ _ a1 rfl _ hl)
    · cases h
  | getfield idx =>
    simp only [en_step] at h
    split at h
    · next ci f p0 r hf =>
      split at h
      · next v hv =>
        obtain ⟨ds, d, h1, h2, h3⟩ := en_fld_spec (ad := ad) hv
        obtain ⟨f1, f2⟩ := tF _ _ _ _ hf
        obtain ⟨C, T, N, c1, c2, c3⟩ := tS _ _ _ h1 f1
        obtain ⟨g1, g2⟩ := f2 _ _ _ c1
        have hw := en_ws_at (ad := ad) (cA := cA) (σ := σ) h1
        have hw' : (en_ws G ad cA σ)[p0]? = some (ad p0, .inr (ci, en_fs ad p0 σ ds)) := by
          rw [hw]
          unfold en_cell
          rw [if_pos f1]
        exact va_get hx hb hts (tC _ _ _ _ c1).1 hown hK hP p0 hw' c1 f g1 (hts _ g2) (fun _ h9 => h9) (by rw [en_fs_at h2, h3]) (hd (by simp [en_len])) (go _ _ _ _ h rfl _ hl)
      · cases h
    · cases h
  | putfield idx =>
    simp only [en_step] at h
    split at h
    · next ci f v p0 r hf =>
      split at h
      · next σ' hv =>
        obtain ⟨ds, d, h1, h2, h3⟩ := en_put_spec hv
        obtain ⟨f1, f2⟩ := tF _ _ _ _ hf
        obtain ⟨C, T, N, c1, c2, c3⟩ := tS _ _ _ h1 f1
        obtain ⟨g1, g2⟩ := f2 _ _ _ c1
        obtain ⟨t1, t2, t3, t4⟩ := tC _ _ _ _ c1
        obtain ⟨y1, y2, y3⟩ := c3 _ _ h2
        have hw := en_ws_at (ad := ad) (cA := cA) (σ := σ) h1
        have hw' : (en_ws G ad cA σ)[p0]? = some (ad p0, .inr (ci, en_fs ad p0 σ ds)) := by
          rw [hw]
          unfold en_cell
          rw [if_pos f1]
        have hlen : f < (en_fs ad p0 σ ds).length := by rw [en_fs_len]; exact (List.getElem?_eq_some_iff.mp h2).1
        have fin : ∀ (σ' : en_S), (en_fs ad p0 σ ds).set f (en_slv ad p0 σ' f d) = en_fs ad p0 σ' ds → (∀ q, q ≠ p0 → σ.1 q = σ'.1 q) → (∀ q, q ≠ p0 → σ.2 q = σ'.2 q) → (en_ws G ad cA σ).set p0 (ad p0, .inr (ci, (en_fs ad p0 σ ds).set f (en_slv ad p0 σ' f d))) = en_ws G ad cA σ' := by
          intro σ' e1 e2 e3
          rw [← en_ws_set h1 e2 e3, e1]
          unfold en_cell
          rw [if_pos f1]
        rcases h3 with ⟨rfl, x, rfl, rfl⟩ | ⟨rfl, x, rfl, rfl⟩ | ⟨rfl, x, rfl, hx01, rfl⟩
        · refine va_put hx hb hts t1 (tyC ci) t2 t3 hown hK hP (hDD σ) hS p0 hw' c1 f g1 (hts _ g2) (fun _ h9 => h9) (t4 f g1 (Or.inl (y1 rfl))) (t2 f g1) (v := .int x) (by rw [y1 rfl]; rfl) (by rw [y1 rfl]; rfl) hlen (hd (by simp [en_len])) (fun H1 locs1 hP1 _ hS1 => hk _ _ _ _ _ _ _ h hl ?_ hS1)
          have e9 : en_slv ad p0 (en_u1 σ.1 p0 f x, σ.2) f 0 = .int x := by simp [en_slv, en_u1_eq, upd]
          rw [← fin (en_u1 σ.1 p0 f x, σ.2) (en_fs_set h2 (fun j e hj => en_slv1 hj)) (fun q hq => en_u1_ne hq) (fun _ _ => rfl), e9]
          exact hP1
        · refine va_put hx hb hts t1 (tyC ci) t2 t3 hown hK hP (hDD σ) hS p0 hw' c1 f g1 (hts _ g2) (fun _ h9 => h9) (t4 f g1 (Or.inr (Or.inl (y2 rfl)))) (t2 f g1) (v := .long x) (by rw [y2 rfl]; rfl) (by rw [y2 rfl]; rfl) hlen (hd (by simp [en_len])) (fun H1 locs1 hP1 _ hS1 => hk _ _ _ _ _ _ _ h hl ?_ hS1)
          have e9 : en_slv ad p0 (σ.1, en_u2 σ.2 p0 f x) f 1 = .long x := by simp [en_slv, en_u2_eq, vp_updL]
          rw [← fin (σ.1, en_u2 σ.2 p0 f x) (en_fs_set h2 (fun j e hj => en_slv2 hj)) (fun _ _ => rfl) (fun q hq => en_u2_ne hq), e9]
          exact hP1
        · refine va_put hx hb hts t1 (tyC ci) t2 t3 hown hK hP (hDD σ) hS p0 hw' c1 f g1 (hts _ g2) (fun _ h9 => h9) (t4 f g1 (Or.inr (Or.inr (y3 rfl)))) (t2 f g1) (v := .int x) (by rw [y3 rfl]; rcases hx01 with rfl | rfl <;> rfl) (by rw [y3 rfl]; rcases hx01 with rfl | rfl <;> rfl) hlen (hd (by simp [en_len])) (fun H1 locs1 hP1 _ hS1 => hk _ _ _ _ _ _ _ h hl ?_ hS1)
          have e9 : en_slv ad p0 (en_u1 σ.1 p0 f x, σ.2) f 2 = .int x := by simp [en_slv, en_u1_eq, upd]
          rw [← fin (en_u1 σ.1 p0 f x, σ.2) (en_fs_set h2 (fun j e hj => en_slv1 hj)) (fun q hq => en_u1_ne hq) (fun _ _ => rfl), e9]
          exact hP1
      · cases h
    · cases h
  | iaload =>
    simp only [en_step] at h
    split at h
    · next j p0 r =>
      split at h
      · next n hn =>
        split at h
        · next hj =>
          obtain ⟨r9, h1⟩ := en_arr_spec hn
          exact va_iald hx hb hK hP p0 0 (en_ws_at h1) rfl hj (hd (by simp [en_len])) (go _ _ _ _ h rfl _ hl)
        · cases h
      · cases h
    · cases h
  | laload =>
    simp only [en_step] at h
    split at h
    · next j p0 r =>
      split at h
      · next n hn =>
        split at h
        · next hj =>
          obtain ⟨r9, h1⟩ := en_arr_spec hn
          exact va_lald hx hb hK hP p0 3 (en_ws_at h1) rfl hj (hd (by simp [en_len])) (go _ _ _ _ h rfl _ hl)
        · cases h
      · cases h
    · cases h
  | baload =>
    simp only [en_step] at h
    split at h
    · next j p0 r =>
      split at h
      · next n hn =>
        split at h
        · next hj =>
          obtain ⟨r9, h1⟩ := en_arr_spec hn
          exact va_bald hx hb hK hP p0 1 (en_ws_at h1) rfl hj (hd (by simp [en_len])) (go _ _ _ _ h rfl _ hl)
        · cases h
      · split at h
        · next n hn =>
          split at h
          · next hj =>
            obtain ⟨r9, h1⟩ := en_arr_spec hn
            exact va_zald hx hb hK hP p0 2 (en_ws_at h1) rfl hj (hd (by simp [en_len])) (go _ _ _ _ h rfl _ hl)
          · cases h
        · cases h
    · cases h
  | iastore =>
    simp only [en_step] at h
    split at h
    · next x j p0 r =>
      split at h
      · next n hn =>
        split at h
        · next hj =>
          obtain ⟨r9, h1⟩ := en_arr_spec hn
          refine va_iast hx hb hK hP (hDD σ) hS p0 0 (en_ws_at h1) rfl hj (hd (by simp [en_len])) (fun H1 locs1 hP1 _ hS1 => hk _ _ _ _ _ _ _ h hl ?_ hS1)
          rw [← en_ws_set h1 (σ := σ) (σ' := (en_u1 σ.1 p0 j.toNatClampNeg x, σ.2)) (fun q hq => en_u1_ne hq) (fun _ _ => rfl)]
          have e9 : en_cell ad cA (20, n :: r9) p0 (en_u1 σ.1 p0 j.toNatClampNeg x, σ.2) = .inl (cA 0, n, .inl (upd (σ.1 p0) j.toNatClampNeg x)) := by
            simp [en_cell, en_u1_eq]
          rw [e9]
          exact hP1
        · cases h
      · cases h
    · cases h
  | lastore =>
    simp only [en_step] at h
    split at h
    · next x j p0 r =>
      split at h
      · next n hn =>
        split at h
        · next hj =>
          obtain ⟨r9, h1⟩ := en_arr_spec hn
          refine va_last hx hb hK hP (hDD σ) hS p0 3 (en_ws_at h1) rfl hj (hd (by simp [en_len])) (fun H1 locs1 hP1 _ hS1 => hk _ _ _ _ _ _ _ h hl ?_ hS1)
          rw [← en_ws_set h1 (σ := σ) (σ' := (σ.1, en_u2 σ.2 p0 j.toNatClampNeg x)) (fun _ _ => rfl) (fun q hq => en_u2_ne hq)]
          have e9 : en_cell ad cA (23, n :: r9) p0 (σ.1, en_u2 σ.2 p0 j.toNatClampNeg x) = .inl (cA 3, n, .inr (.inl (vp_updL (σ.2 p0) j.toNatClampNeg x))) := by
            simp [en_cell, en_u2_eq]
          rw [e9]
          exact hP1
        · cases h
      · cases h
    · cases h
  | bastore =>
    simp only [en_step] at h
    split at h
    · next x j p0 r =>
      split at h
      · next n hn =>
        split at h
        · next hj =>
          obtain ⟨r9, h1⟩ := en_arr_spec hn
          refine va_bast hx hb hK hP (hDD σ) hS p0 1 (en_ws_at h1) rfl hj (hd (by simp [en_len])) (fun H1 locs1 hP1 _ hS1 => hk _ _ _ _ _ _ _ h hl ?_ hS1)
          rw [← en_ws_set h1 (σ := σ) (σ' := (en_u1 σ.1 p0 j.toNatClampNeg (vp_nar .byte x), σ.2)) (fun q hq => en_u1_ne hq) (fun _ _ => rfl)]
          have e9 : en_cell ad cA (21, n :: r9) p0 (en_u1 σ.1 p0 j.toNatClampNeg (vp_nar .byte x), σ.2) = .inl (cA 1, n, .inl (upd (σ.1 p0) j.toNatClampNeg (vp_nar .byte x))) := by
            simp [en_cell, en_u1_eq]
          rw [e9]
          exact hP1
        · cases h
      · split at h
        · next n hn =>
          split at h
          · next hj =>
            obtain ⟨r9, h1⟩ := en_arr_spec hn
            refine va_zast hx hb hK hP (hDD σ) hS p0 2 (en_ws_at h1) rfl hj (hd (by simp [en_len])) (fun H1 locs1 hP1 _ hS1 => hk _ _ _ _ _ _ _ h hl ?_ hS1)
            rw [← en_ws_set h1 (σ := σ) (σ' := (en_u1 σ.1 p0 j.toNatClampNeg (vp_nar .boolean x), σ.2)) (fun q hq => en_u1_ne hq) (fun _ _ => rfl)]
            have e9 : en_cell ad cA (22, n :: r9) p0 (en_u1 σ.1 p0 j.toNatClampNeg (vp_nar .boolean x), σ.2) = .inl (cA 2, n, .inl (upd (σ.1 p0) j.toNatClampNeg (vp_nar .boolean x))) := by
              simp [en_cell, en_u1_eq]
            rw [e9]
            exact hP1
          · cases h
        · cases h
    · cases h
  | arraylength =>
    simp only [en_step] at h
    split at h
    · next p0 r =>
      split at h
      · next n hn =>
        obtain ⟨r9, h1⟩ := en_arr_spec hn
        exact va_alen hx hb hK hP p0 0 (en_ws_at h1) rfl rfl (hd (by simp [en_len])) (go _ _ _ _ h rfl _ hl)
      · split at h
        · next n hn =>
          obtain ⟨r9, h1⟩ := en_arr_spec hn
          exact va_alen hx hb hK hP p0 1 (en_ws_at h1) rfl rfl (hd (by simp [en_len])) (go _ _ _ _ h rfl _ hl)
        · cases h
    · cases h
  | invokevirtual idx => exact hrest (Or.inl ⟨idx, rfl⟩)
  | invokestatic idx => exact hrest (Or.inr (Or.inl ⟨idx, rfl⟩))
  | new idx => exact hrest (Or.inr (Or.inr (Or.inl ⟨idx, rfl⟩)))
  | ireturn => exact hrest (Or.inr (Or.inr (Or.inr (Or.inl rfl))))
  | lreturn => exact hrest (Or.inr (Or.inr (Or.inr (Or.inr (Or.inl rfl)))))
  | return_ => exact hrest (Or.inr (Or.inr (Or.inr (Or.inr (Or.inr rfl)))))
  | _ => cases h
end ES
end
section
/-! THE ENGINE'S METHODS: contracts of all of them at once, by the number of steps. -/
section EM
variable (l : Launch) (G : en_G) (P : en_P) (ML : Nat → Nat) (HD : en_H) (ad : Nat → Nat) (cA : Nat → ClassId) (D : va_G) (cl : List vw_C) (A : Nat → Prop) (TT : List Cond) (tyC : Nat → Nat → FieldType) (own : Nat → String) (yN : Nat → MethodName) (CD : Nat → ByteArray) (hh : Nat → List (Nat × Nat × Nat × Nat)) (XN : Nat → String) (fr lo : Nat → Nat) (FX : State → Heap → Prop)
/-- the world of a store, in a state -/
def en_B (σ : en_S) (U : State) : Prop := va_P D cl (en_ws G ad cA σ) U.heap ∧ va_K D cl (en_tys cA) U ∧ FX U U.heap
def en_Qc (o : en_O) : Array Value → State → Outcome → State → Prop := fun _ st oc t => (∃ v, o.1 = .inl v ∧ oc = .returned (v.map (en_cv ad))) ∧ va_P D cl (en_ws G ad cA o.2) t.heap ∧ va_F A st t
def en_Xc (o : en_O) : String → State → State → Prop := fun E st t => (∃ x, o.1 = .inr x ∧ E = XN x) ∧ va_P D cl (en_ws G ad cA o.2) t.heap ∧ va_F A st t
def en_mc (x : Nat) (o : en_O) : Nat := match o.1 with
  | .inl _ => x
  | .inr _ => x + 1
def en_rm (y x : Nat) (o : en_O) : Room := { frames := fr y, cells := en_mc x o, slots := 6 * en_mc x o, locals := lo y }
def en_wd (y : Nat) : Cond := match hh y with
  | [] => .code (yN y) (CD y) (ML y) (en_RT G y)
  | h :: r => .codeWith (yN y) (CD y) (ML y) (en_RT G y) (h :: r)
/-- the contract of a call -/
def en_Con (y x : Nat) (as : List Value) (σ : en_S) (o : en_O) : Prop :=
  vx_Met l (yN y) (en_wd G ML yN CD hh y :: TT) (en_rm fr lo y x o) (va_Pc (as.map (en_cv ad)) (en_B G ad cA D cl FX σ)) (en_Qc G ad cA D cl A o) (en_Xc G ad cA D cl A XN o) (en_mc x o) (6 * en_mc x o) A
/-- what holds within a method -/
def en_cx (mi : Nat) (p : Program) (R : Room) (s : State) (m : MethodId) (args : Array Value) (meth : Method) (c : Code) : Prop :=
  p.tables.exec = Jvm.exec ∧ c.code = CD mi ∧ meth.sig.returnType = en_RT G mi ∧ c.maxLocals = ML mi ∧ meth.locks = false ∧ s.vm.findClass (own mi) = some m.cls ∧ (∀ w ∈ TT, w.before args s = true) ∧ va_K D cl (en_tys cA) s ∧ FX s s.heap ∧ c.exceptionTable.toList = tableOf (hh mi) ∧ R.frames = fr mi ∧ R.locals = lo mi
/-- the tables, of the methods -/
def en_MV (y : Nat) : Prop := en_wd G ML yN CD hh y ∈ TT ∧ plainName (yN y).cls = true ∧ (yN y).cls = own y ∧ Cond.initialized (own y) ∈ TT ∧ ((yN y).cls ≠ "java/lang/invoke/MethodHandle" ∧ (yN y).cls ≠ "java/lang/invoke/VarHandle") ∧ 8 ≤ fr y ∧ 200 ≤ lo y ∧
  ∀ pc i m, en_get (P y) pc = some (i, m) → en_chk (CD y) pc i = true ∧ ∀ bs, m = some bs → bs.length = ML y
def en_CF (s : State) : Prop :=
  (∀ mi idx y n ci, en_CL G mi idx = some (0, y, n, ci) → en_MV G P ML TT own yN CD hh fr lo y ∧ hh y = [] ∧ Cond.methodLink (own mi) idx (yN y) ∈ TT ∧ Cond.instanceMethod (yN y) ∈ TT ∧ Cond.selects (own y) (yN y) (yN y) ∈ TT ∧ (parseMethodDescriptor (yN y).desc).map (fun d => d.parameters.length) = some (n - 1) ∧ 1 ≤ n ∧ n ≤ ML y ∧ ci < 20 ∧ (∃ T N, cl[ci]? = some (own y, T, N)) ∧ fr y + 1 ≤ fr mi ∧ 8 + (ML y + 11) + lo y ≤ lo mi) ∧
  (∀ mi idx y n ci, en_CL G mi idx = some (1, y, n, ci) → en_MV G P ML TT own yN CD hh fr lo y ∧ hh y = [] ∧ (Cond.methodLink (own mi) idx (yN y) ∈ TT ∨ ∃ host, va_Nw (Cond.methodLinkNest (own mi) idx (yN y) host) s) ∧ Cond.static (yN y) ∈ TT ∧ (parseMethodDescriptor (yN y).desc).map (fun d => d.parameters.length) = some n ∧ n ≤ ML y ∧ fr y + 1 ≤ fr mi ∧ 8 + (ML y + 11) + lo y ≤ lo mi) ∧
  (∀ mi idx y n ci, en_CL G mi idx = some (2, y, n, ci) → Cond.methodLink (own mi) idx Lib.Math.max.name ∈ TT ∧ Cond.static Lib.Math.max.name ∈ TT ∧ Cond.initialized "java/lang/Math" ∈ TT ∧ Cond.code Lib.Math.max.name Lib.Math.max.code 2 (some .int) ∈ TT) ∧
  (∀ mi idx y n ci, en_CL G mi idx = some (3, y, n, ci) → Cond.methodLink (own mi) idx Lib.Math.min.name ∈ TT ∧ Cond.static Lib.Math.min.name ∈ TT ∧ Cond.initialized "java/lang/Math" ∈ TT ∧ Cond.code Lib.Math.min.name Lib.Math.min.code 2 (some .int) ∈ TT) ∧
  (∀ mi idx y n ci, en_CL G mi idx = some (4, y, n, ci) → Cond.methodLink (own mi) idx arraycopyName ∈ TT ∧ Cond.native arraycopyName ∈ TT ∧ Cond.static arraycopyName ∈ TT ∧ Cond.initialized "java/lang/System" ∈ TT)
end EM
theorem en_ent_len {n : Nat} {as : List Value} (h : as.length ≤ n) : (en_ent n as).length = n := by
  simp [en_ent]
  omega
theorem en_one_sl {as : List Value} (ad : Nat → Nat) (h : en_one as = true) : lg_sl (as.map (en_cv ad)) = as.map (fun v => Slot.val (en_cv ad v)) := by
  induction as with
  | nil => rfl
  | cons v r ih =>
    unfold en_one at h
    simp only [List.all_cons, Bool.and_eq_true, decide_eq_true_eq] at h
    have h2 : lg_sl (r.map (en_cv ad)) = r.map (fun v => Slot.val (en_cv ad v)) := ih h.2
    have h3 : ¬ (en_cv ad v).category = 2 := by rw [en_cv_cat]; omega
    unfold lg_sl at h2 ⊢
    rw [List.map_cons, List.flatMap_cons, h2, if_neg h3]
    rfl
/-- the locals at a method's entry -/
theorem en_entry {ad : Nat → Nat} {as : List Value} {n : Nat} (h1 : en_one as = true) (hn : as.length ≤ n) : en_lv ad ((lg_sl (as.map (en_cv ad)) ++ List.replicate (n - (lg_sl (as.map (en_cv ad))).length) Slot.unset).toArray) n (en_ent n as) := by
  have hsl := en_one_sl ad h1
  have hlen : (lg_sl (as.map (en_cv ad))).length = as.length := by rw [hsl, List.length_map]
  have he := lv_entry (as.map (en_cv ad)) (n := n) (by rw [hlen]; exact hn)
  refine ⟨en_ent_len hn, he.1, he.2.1, fun i v hi => ?_⟩
  unfold en_ent at hi
  by_cases hl : i < as.length
  · rw [List.getElem?_append_left (by rw [List.length_map]; exact hl), List.getElem?_map] at hi
    rw [List.getElem?_toArray, List.getElem?_append_left (by rw [hlen]; exact hl), hsl, List.getElem?_map]
    cases ha : as[i]? with
    | none => rw [ha] at hi; cases hi
    | some w =>
      rw [ha] at hi
      cases hi
      rfl
  · rw [List.getElem?_append_right (by rw [List.length_map]; omega), List.length_map, List.getElem?_replicate] at hi
    split at hi <;> cases hi
section EA
variable {l : Launch} {G : en_G} {P : en_P} {ML : Nat → Nat} {HD : en_H} {ad : Nat → Nat} {cA : Nat → ClassId} {D : va_G} {cl : List vw_C} {A : Nat → Prop} {TT : List Cond} {tyC : Nat → Nat → FieldType} {own : Nat → String} {yN : Nat → MethodName} {CD : Nat → ByteArray} {hh : Nat → List (Nat × Nat × Nat × Nat)} {XN : Nat → String} {fr lo : Nat → Nat} {FX : State → Heap → Prop}
variable {p : Program} {e : Env} {R : Room} {s : State} {m : MethodId} {args : Array Value} {below : List Frame} {meth : Method} {c : Code} {H : Heap} {locs : List Loc} {cells slots : Nat} {Q : State → Prop}
/-- behind a call, whatever came back -/
theorem en_after {mc ms pc : Nat} {ls : Array Slot} {st0 rest : List Value} {o : en_O} {a : Array Value}
    (hr : vx_Run p l e R s m args below meth c H locs cells slots mc ms (F0 m pc ls st0) rest (en_Qc G ad cA D cl A o a) (en_Xc G ad cA D cl A XN o) A) (hS : va_S A s.heap H locs)
    (kr : ∀ v H1 locs1, o.1 = .inl v → va_P D cl (en_ws G ad cA o.2) H1 → va_S A s.heap H1 locs1 → W p l e R s m args below meth c H1 locs1 (cells + mc) (slots + ms) Q (F0 m (pc + 3) ls ((v.map (en_cv ad)).toList ++ rest)))
    (kt : ∀ x q ce H1 locs1, o.1 = .inr x → va_P D cl (en_ws G ad cA o.2) H1 → va_S A s.heap H1 locs1 → H1[q]? = some ce → ce.vm = .none → s.vm.findClass (XN x) = some ce.cls → vx_W p l e R s m args below meth c H1 locs1 (cells + mc) (slots + ms) Q (F0 m pc ls rest) q) :
    W p l e R s m args below meth c H locs cells slots Q (F0 m pc ls st0) := by
  intro T hT X
  rcases hr T hT X with ⟨v, st₀, t, T', L, h0, X', hL, e1, e2, ⟨⟨w, hw, hv⟩, hB, hF⟩, st⟩ | ⟨q, st₀, t, T', L, E, ce, h0, X', hL, e1, e2, ⟨⟨x, hx, rfl⟩, hB, hF⟩, hce, hcv, hcl, st⟩
  · obtain ⟨k1, k2, k3⟩ := vx_keep (A1 := A) (free := A) h0 e1 hS (fun _ _ h => h) (fun _ h => h) hL hF
    cases hv
    obtain ⟨t2, a1, b1⟩ := kr w T'.heap (locs ++ L) hw (by rw [e1]; exact hB) k3 T' rfl X'
    exact ⟨t2, st t2 a1, b1⟩
  · obtain ⟨k1, k2, k3⟩ := vx_keep (A1 := A) (free := A) h0 e1 hS (fun _ _ h => h) (fun _ h => h) hL hF
    obtain ⟨t2, a1, b1⟩ := kt x q ce T'.heap (locs ++ L) hx (by rw [e1]; exact hB) k3 (by rw [e1]; exact hce) hcv hcl T' rfl X'
    exact ⟨t2, st.trans a1, b1⟩
end EA
end
section
section ER
variable (l : Launch) (G : en_G) (P : en_P) (ML : Nat → Nat) (HD : en_H) (ad : Nat → Nat) (cA : Nat → ClassId) (D : va_G) (cl : List vw_C) (A : Nat → Prop) (TT : List Cond) (tyC : Nat → Nat → FieldType) (own : Nat → String) (yN : Nat → MethodName) (CD : Nat → ByteArray) (hh : Nat → List (Nat × Nat × Nat × Nat)) (XN : Nat → String) (fr lo : Nat → Nat) (FX : State → Heap → Prop)
/-- a throw -/
def en_RTh : Prop := ∀ (mi pc idx x : Nat), en_TH G mi pc = some x → hh mi = [] → ∀ (p : Program) (e : Env) (R : Room) (s : State) (m : MethodId) (args : Array Value) (below : List Frame) (meth : Method) (c : Code) (H : Heap) (locs : List Loc) (cells slots : Nat) (ls : Array Slot) (rest : List Value) (Qc : Array Value → State → Outcome → State → Prop) (XC : String → State → State → Prop) (mc ms : Nat),
  en_cx G ML cA D cl TT own CD hh fr lo FX mi p R s m args meth c → en_chk (CD mi) pc (.new idx) = true → ls.size = ML mi → va_S A s.heap H locs → (rest.map fun v => v.category).sum ≤ 8 → cells + 1 ≤ R.cells → slots + 6 ≤ R.slots → cells + 1 ≤ mc → slots + 6 ≤ ms →
  (∀ t : State, s.vm.Alike t.vm → H.size ≤ t.heap.size → (∀ q : Nat, q < H.size → t.heap[q]? = H[q]?) → XC (XN x) s t) →
  W p l e R s m args below meth c H locs cells slots (vx_MQ below Qc XC args s mc ms A) (F0 m pc ls rest)
/-- the methods of String constants -/
def en_RSt : Prop := ∀ (mi pc idx kd y n ci i : Nat), en_CL G mi idx = some (kd, y, n, ci) → ∀ (p : Program) (e : Env) (R : Room) (s : State) (m : MethodId) (args : Array Value) (below : List Frame) (meth : Method) (c : Code) (H : Heap) (locs : List Loc) (cells slots : Nat) (Q : State → Prop) (ls : Array Slot) (rest : List Value),
  en_cx G ML cA D cl TT own CD hh fr lo FX mi p R s m args meth c → decode (CD mi) pc = .ok (.invokevirtual idx, 3) → ls.size = ML mi → va_S A s.heap H locs → (rest.map fun v => v.category).sum ≤ 8 → cells ≤ R.cells → slots ≤ R.slots →
  (kd = 5 → W p l e R s m args below meth c H locs cells slots Q (F0 m (pc + 3) ls (.int (nI (en_SB G i).length) :: rest)) → W p l e R s m args below meth c H locs cells slots Q (F0 m pc ls (.ref (ad (1000 + i)) :: rest))) ∧
  (kd = 6 → ∀ j : Int32, en_in j (en_SB G i).length → W p l e R s m args below meth c H locs cells slots Q (F0 m (pc + 3) ls (.int ((en_SB G i).getD j.toNatClampNeg 0 &&& 255) :: rest)) → W p l e R s m args below meth c H locs cells slots Q (F0 m pc ls (.int j :: .ref (ad (1000 + i)) :: rest))) ∧
  (kd = 7 → ∀ j : Int32, W p l e R s m args below meth c H locs cells slots Q (F0 m (pc + 3) ls (.int (en_ixF j (en_SB G i) 0) :: rest)) → W p l e R s m args below meth c H locs cells slots Q (F0 m pc ls (.int j :: .ref (ad (1000 + i)) :: rest)))
/-- a handler -/
def en_RHd : Prop := ∀ (mi pc x t j : Nat), HD mi pc x = some (t, j) → en_get (P mi) t ≠ none → ∀ (p : Program) (e : Env) (R : Room) (s : State) (m : MethodId) (args : Array Value) (below : List Frame) (meth : Method) (c : Code) (H : Heap) (locs : List Loc) (cells slots : Nat) (Q : State → Prop) (ls : Array Slot) (rest : List Value) (L : en_L) (q : Addr) (ce : Cell),
  en_cx G ML cA D cl TT own CD hh fr lo FX mi p R s m args meth c → en_lv ad ls (ML mi) L → H[q]? = some ce → ce.vm = .none → s.vm.findClass (XN x) = some ce.cls →
  (∀ ls', en_lv ad ls' (ML mi) (en_set L j none) → W p l e R s m args below meth c H locs cells slots Q (F0 m t ls' [])) →
  vx_W p l e R s m args below meth c H locs cells slots Q (F0 m pc ls rest) q
/-- all that is given -/
def en_ALL : Prop := en_TF G TT cl tyC own ∧ (∀ w ∈ TT, (w.onTables && w.keeps) = true ∨ ∃ ty, w = .arrayClass ty) ∧ (∀ σ, va_D A (en_ws G ad cA σ)) ∧
  (∀ (u U : State) (H : Heap), u.WarmedH U.vm → FX u H → FX U H) ∧ (∀ (U : State) (H H1 : Heap), FX U H → (∀ a : Nat, a < H.size → ¬ A a → H1[a]? = H[a]?) → FX U H1) ∧
  (∀ (U : State) (H : Heap), FX U H → en_CF G P ML cl TT own yN CD hh fr lo U) ∧ (∀ (U : State) (H : Heap), FX U H → ∀ mi idx q, en_KC G mi idx = some (.inr q) → ∃ tx, vk_R (own mi) idx tx (ad q) U) ∧
  en_RTh l G ML cA D cl A TT own CD hh XN fr lo FX ∧ en_RSt l G ML ad cA D cl A TT own CD hh fr lo FX ∧ en_RHd l G P ML HD ad cA D cl TT own CD hh XN fr lo FX ∧ (∀ mi pc x, HD mi pc x = none → hh mi = []) ∧ (∀ mi pc x, en_TH G mi pc = some x → hh mi = [])
end ER
section EX
variable {l : Launch} {G : en_G} {P : en_P} {ML : Nat → Nat} {HD : en_H} {ad : Nat → Nat} {cA : Nat → ClassId} {D : va_G} {cl : List vw_C} {A : Nat → Prop} {TT : List Cond} {tyC : Nat → Nat → FieldType} {own : Nat → String} {yN : Nat → MethodName} {CD : Nat → ByteArray} {hh : Nat → List (Nat × Nat × Nat × Nat)} {XN : Nat → String} {fr lo : Nat → Nat} {FX : State → Heap → Prop}
theorem en_blind (hm : ∀ (u U : State) (H : Heap), u.WarmedH U.vm → FX u H → FX U H) {vs : List Value} {σ : en_S} : FrameBlind (va_Pc vs (en_B G ad cA D cl FX σ)) := by
  intro a U g mk q
  obtain ⟨q0, qP, qK, qF⟩ := q
  exact ⟨q0, qP, va_K.moved (u := U) (U := U.calling g mk a) (Vm.Alike.refl U.vm) qK, hm U (U.calling g mk a) _ (State.WarmedH.refl U) qF⟩
/-- a callee's words -/
theorem en_good (hg : ∀ w ∈ TT, (w.onTables && w.keeps) = true ∨ ∃ ty, w = .arrayClass ty) {y : Nat} (h : en_wd G ML yN CD hh y ∈ TT) : GoodIn TT (en_wd G ML yN CD hh y :: TT) := by
  intro w hw
  rcases List.mem_cons.mp hw with rfl | hw
  · exact ⟨h, hg _ h⟩
  · exact ⟨hw, hg _ hw⟩
theorem en_map_rev {ad : Nat → Nat} {st : List Value} {n : Nat} : st.map (en_cv ad) = (((st.take n).reverse).map (en_cv ad)).reverse ++ (st.drop n).map (en_cv ad) := by
  rw [← List.map_reverse, List.reverse_reverse, ← List.map_append, List.take_append_drop]
theorem en_cat_map {ad : Nat → Nat} {st : List Value} : ((st.map (en_cv ad)).map fun v => v.category).sum = (st.map fun v => v.category).sum := by
  rw [List.map_map]
  congr 1
  apply List.map_congr_left
  intro v _
  exact en_cv_cat v
theorem en_back_spec {rt : Option FieldType} {o : Option en_O} {k : List Value → en_S → Option en_O} {kx : Nat → en_S → Option en_O} {out : en_O} (h : en_back rt o k kx = some out) : ∃ o', o = some o' ∧ ((∃ v, o'.1 = .inl v ∧ k v.toList o'.2 = some out) ∨ ∃ x, o'.1 = .inr x ∧ kx x o'.2 = some out) := by
  cases o with
  | none => unfold en_back at h; split at h <;> cases h
  | some z =>
    refine ⟨z, rfl, ?_⟩
    obtain ⟨v | x, σ⟩ := z
    · left
      refine ⟨v, rfl, ?_⟩
      unfold en_back at h
      cases v with
      | none => split at h <;> first | exact h | cases h
      | some v => cases v <;> split at h <;> first | exact h | cases h
    · right
      refine ⟨x, rfl, ?_⟩
      unfold en_back at h
      split at h <;> first | exact h | cases h
set_option maxHeartbeats 4000000 in
theorem en_main (hA : en_ALL l G P ML HD ad cA D cl A TT tyC own yN CD hh XN fr lo FX) : ∀ n : Nat,
    (∀ (x mi pc : Nat) (L : en_L) (st : List Value) (σ : en_S) (out : en_O), en_MV G P ML TT own yN CD hh fr lo mi → en_run G P ML HD n x mi pc L st σ = some out → ∀ (cu X : Nat), cu + x ≤ X → ∀ (p : Program) (e : Env) (R : Room) (s : State) (m : MethodId) (args : Array Value) (below : List Frame) (meth : Method) (c : Code) (H : Heap) (locs : List Loc) (ls : Array Slot),
      en_cx G ML cA D cl TT own CD hh fr lo FX mi p R s m args meth c → R.cells = en_mc X out → R.slots = 6 * en_mc X out → en_lv ad ls (ML mi) L → va_P D cl (en_ws G ad cA σ) H → va_S A s.heap H locs →
      W p l e R s m args below meth c H locs cu (6 * cu) (vx_MQ below (en_Qc G ad cA D cl A out) (en_Xc G ad cA D cl A XN out) args s (en_mc X out) (6 * en_mc X out) A) (F0 m pc ls (st.map (en_cv ad)))) ∧
    (∀ (x y : Nat) (as : List Value) (σ : en_S) (o : en_O), en_MV G P ML TT own yN CD hh fr lo y → en_one as = true → as.length ≤ ML y → en_run G P ML HD n x y 0 (en_ent (ML y) as) [] σ = some o → en_Con l G ML ad cA D cl A TT yN CD hh XN fr lo FX y x as σ o) := by
  obtain ⟨hT, hTg, hDD, hFXm, hFXk, hCF, hSt, hThr, hStr, hHd, hNo, hThN⟩ := hA
  intro n
  induction n with
  | zero => exact ⟨fun _ _ _ _ _ _ _ _ h => (by cases h), fun _ _ _ _ _ _ _ _ h => (by cases h)⟩
  | succ n ih =>
    obtain ⟨ihB, ihC⟩ := ih
    have body : ∀ (x mi pc : Nat) (L : en_L) (st : List Value) (σ : en_S) (out : en_O), en_MV G P ML TT own yN CD hh fr lo mi → en_run G P ML HD (n + 1) x mi pc L st σ = some out → ∀ (cu X : Nat), cu + x ≤ X → ∀ (p : Program) (e : Env) (R : Room) (s : State) (m : MethodId) (args : Array Value) (below : List Frame) (meth : Method) (c : Code) (H : Heap) (locs : List Loc) (ls : Array Slot),
        en_cx G ML cA D cl TT own CD hh fr lo FX mi p R s m args meth c → R.cells = en_mc X out → R.slots = 6 * en_mc X out → en_lv ad ls (ML mi) L → va_P D cl (en_ws G ad cA σ) H → va_S A s.heap H locs →
        W p l e R s m args below meth c H locs cu (6 * cu) (vx_MQ below (en_Qc G ad cA D cl A out) (en_Xc G ad cA D cl A XN out) args s (en_mc X out) (6 * en_mc X out) A) (F0 m pc ls (st.map (en_cv ad))) := by
      intro x mi pc L0 st σ out hMV hrun cu X hcu p e R s m args below meth c H locs ls hcx hRc hRs hl0 hP hS
      have hcx0 := hcx
      obtain ⟨hx, hb, hr, hml, hlocks, hown, hts, hK, hFX, htab, hRf, hRl⟩ := hcx
      obtain ⟨mv1, mv2, mv3, mv4, mv5, mv6, mv7, mv8⟩ := id hMV
      unfold en_run at hrun
      split at hrun
      · cases hrun
      · next i mk hget =>
        obtain ⟨hchk, hmk⟩ := mv8 _ _ _ hget
        have hl := hl0.msk mk hmk
        generalize en_msk mk L0 = L at hl hrun
        obtain ⟨cf0, cf1, cf2, cf3, cf4⟩ := hCF s s.heap hFX
        obtain ⟨n9, hd9, hn9, ho9⟩ := en_chk_spec hchk
        have hXm : X ≤ en_mc X out := by unfold en_mc; split <;> omega
        have hmcR : cu ≤ R.cells := by rw [hRc]; omega
        have hmsR : 6 * cu ≤ R.slots := by rw [hRs]; omega
        have hsz : ls.size = ML mi := hl.2.1
        have hout : hh mi = [] → ∀ z ∈ c.exceptionTable.toList, covers z pc = false := by
          intro h0 z hz
          rw [htab, h0] at hz
          cases hz
        /- what a callee threw -/
        have thrown : ∀ (y : Nat) (σ' : en_S) (rest : List Value) (H1 : Heap) (locs1 : List Loc) (q : Addr) (ce : Cell) (k9 n9 : Nat), en_hx x (HD mi pc y) (fun t j => en_run G P ML HD n 0 mi t (en_set L j none) [] σ') y σ' = some out → k9 = cu + 1 → n9 = 6 * cu + 6 * 1 →
            va_P D cl (en_ws G ad cA σ') H1 → va_S A s.heap H1 locs1 → H1[q]? = some ce → ce.vm = .none → s.vm.findClass (XN y) = some ce.cls → vx_W p l e R s m args below meth c H1 locs1 k9 n9 (vx_MQ below (en_Qc G ad cA D cl A out) (en_Xc G ad cA D cl A XN out) args s (en_mc X out) (6 * en_mc X out) A) (F0 m pc ls rest) q := by
          intro y σ' rest H1 locs1 q ce k9 n9 hh9 ek en hP1 hS1 hce hcv hcl
          subst ek; subst en
          unfold en_hx at hh9
          split at hh9
          · next hno =>
            cases hh9
            refine vx_out (hout (hNo _ _ _ hno)) hlocks hce hcv hcl (fun t ht _ => ⟨⟨y, rfl, rfl⟩, by rw [ht]; exact hP1, hS1.F ht⟩) hS1.2.2 ?_ ?_
            · show cu + 1 ≤ X + 1
              omega
            · show 6 * cu + 6 * 1 ≤ 6 * (X + 1)
              omega
          · next t j hsome =>
            split at hh9
            · next hx1 =>
              have hne : en_get (P mi) t ≠ none := by
                intro h0
                cases n with
                | zero => cases hh9
                | succ n =>
                  unfold en_run at hh9
                  dsimp only at hh9
                  rw [h0] at hh9
                  cases hh9
              refine hHd mi pc y t j hsome hne p e R s m args below meth c H1 locs1 _ _ _ ls rest L q ce hcx0 hl hce hcv hcl (fun ls' hl' => ?_)
              have h8 := ihB 0 mi t (en_set L j none) [] σ' out hMV hh9 (cu + 1) X (by omega) p e R s m args below meth c H1 locs1 ls' hcx0 hRc hRs hl' hP1 hS1
              rw [show 6 * (cu + 1) = 6 * cu + 6 * 1 by omega] at h8
              exact h8
            · cases hh9
        /- a call that came back or threw -/
        have called : ∀ (y nn : Nat) (as rest : List Value) (idx : Nat), en_back (en_RT G y) (en_run G P ML HD n 0 y 0 (en_ent (ML y) as) [] σ) (fun v σ' => en_run G P ML HD n x mi (pc + 3) L (v ++ rest) σ') (fun e' σ' => en_hx x (HD mi pc e') (fun t j => en_run G P ML HD n 0 mi t (en_set L j none) [] σ') e' σ') = some out →
            (∀ o', en_run G P ML HD n 0 y 0 (en_ent (ML y) as) [] σ = some o' → (∀ z, o'.1 = .inr z → cu + 1 ≤ R.cells ∧ 6 * cu + 6 * 1 ≤ R.slots) → vx_Run p l e R s m args below meth c H locs cu (6 * cu) (en_mc 0 o') (6 * en_mc 0 o') (F0 m pc ls (st.map (en_cv ad))) (rest.map (en_cv ad)) (en_Qc G ad cA D cl A o' ((as.map (en_cv ad)).toArray)) (en_Xc G ad cA D cl A XN o') A) →
            W p l e R s m args below meth c H locs cu (6 * cu) (vx_MQ below (en_Qc G ad cA D cl A out) (en_Xc G ad cA D cl A XN out) args s (en_mc X out) (6 * en_mc X out) A) (F0 m pc ls (st.map (en_cv ad))) := by
          intro y nn as rest idx hbk hrn
          obtain ⟨o', ho', hcase⟩ := en_back_spec hbk
          have hroom : ∀ z, o'.1 = .inr z → cu + 1 ≤ R.cells ∧ 6 * cu + 6 * 1 ≤ R.slots := by
            intro z hz
            rw [hRc, hRs]
            rcases hcase with ⟨v, hv, -⟩ | ⟨z', hz', hk9⟩
            · rw [hv] at hz; cases hz
            · unfold en_hx at hk9
              split at hk9
              · cases hk9
                show cu + 1 ≤ X + 1 ∧ 6 * cu + 6 * 1 ≤ 6 * (X + 1)
                omega
              · split at hk9
                · next hx1 => omega
                · cases hk9
          refine en_after (o := o') (hrn o' ho' hroom) hS (fun v H1 locs1 hv hP1 hS1 => ?_) (fun z q ce H1 locs1 hz hP1 hS1 hce hcv hcl => ?_)
          · rcases hcase with ⟨v', hv', hk9⟩ | ⟨z', hz', -⟩
            · have e1 : v' = v := by rw [hv'] at hv; cases hv; rfl
              subst e1
              have em : en_mc 0 o' = 0 := by unfold en_mc; rw [hv']
              rw [em]
              have h8 := ihB x mi (pc + 3) L (v'.toList ++ rest) o'.2 out hMV hk9 cu X hcu p e R s m args below meth c H1 locs1 ls hcx0 hRc hRs hl hP1 hS1
              rw [List.map_append] at h8
              have e2 : (v'.map (en_cv ad)).toList = v'.toList.map (en_cv ad) := by cases v' <;> rfl
              rw [e2]
              exact h8
            · rw [hz'] at hv; cases hv
          · rcases hcase with ⟨v', hv', -⟩ | ⟨z', hz', hk9⟩
            · rw [hv'] at hz; cases hz
            · have e1 : z' = z := by rw [hz'] at hz; cases hz; rfl
              subst e1
              have em : en_mc 0 o' = 1 := by unfold en_mc; rw [hz']
              rw [em]
              exact thrown z' o'.2 _ H1 locs1 q ce _ _ hk9 rfl rfl hP1 hS1 hce hcv hcl
        have pre : ∀ (as : List Value) (U : State), U.heap = H → s.WarmedH U.vm → va_Pc (as.map (en_cv ad)) (en_B G ad cA D cl FX σ) ((as.map (en_cv ad)).toArray) U := by
          intro as U hU hW
          exact ⟨rfl, by rw [hU]; exact hP, va_K.moved hW.alike hK, hFXm s U _ hW (by rw [hU]; exact hFXk _ _ _ hFX hS.2.1)⟩
        refine en_sim1 hT hx hb hown hts hK (hSt s s.heap hFX mi) hDD hchk hrun hl hP hS (fun pc' L' st' σ' ls' H' locs' hk9 hl' hP' hS' => ihB x mi pc' L' st' σ' out hMV hk9 cu X hcu p e R s m args below meth c H' locs' ls' hcx0 hRc hRs hl' hP' hS') ?_
        rintro (⟨idx, rfl⟩ | ⟨idx, rfl⟩ | ⟨idx, rfl⟩ | rfl | rfl | rfl)
        · have hdV : decode (CD mi) pc = .ok (.invokevirtual idx, 3) := by rw [hd9, hn9 (by simp [en_len])]; rfl
          simp only [en_step] at hrun
          unfold en_inV at hrun
          split at hrun
          · next y nn ci hcl =>
            split at hrun
            · next hc1 =>
              obtain ⟨hc1, hc2, hc3⟩ := hc1
              split at hrun
              · next p0 as has =>
                split at hrun
                · next hsh =>
                  obtain ⟨v1, v2, v3, v4, v5, v6, v7, v8, v9, ⟨T, N, v10⟩, v11, v12⟩ := cf0 _ _ _ _ _ hcl
                  have hasl : (Value.ref p0 :: as).length = nn := by rw [← has, List.length_reverse, List.length_take]; omega
                  have hone : en_one (Value.ref p0 :: as) = true := by
                    rw [← has]
                    unfold en_one at hc3 ⊢
                    rw [List.all_reverse]
                    exact hc3
                  refine called y nn (.ref p0 :: as) (st.drop nn) idx hrun (fun o' ho' hroom => ?_)
                  have hcon := ihC 0 y (.ref p0 :: as) σ o' v1 hone (by omega) ho'
                  obtain ⟨w1, w2, w3, w4, w5, w6, w7, w8⟩ := id v1
                  have hwd : en_wd G ML yN CD hh y = .code (yN y) (CD y) (ML y) (en_RT G y) := by unfold en_wd; rw [v2]
                  have cb : CallB R s args (own mi) idx (yN y) (CD y) (ML y) (en_RT G y) (en_wd G ML yN CD hh y :: TT) (en_rm fr lo y 0 o') (en_mc 0 o') (6 * en_mc 0 o') (nn - 1) :=
                    callB_of (nn - 1) hts (en_good hTg w1) (by rw [hwd]) rfl rfl (by rw [w3]; exact hts _ w4) (hts _ v3) ⟨w5.1, w5.2, v6⟩ ⟨by rw [hRf]; exact v11, by rw [hRl]; exact v12⟩
                  cases hs0 : (en_SH G)[p0]? with
                  | none => rw [hs0] at hsh; cases hsh
                  | some z =>
                    obtain ⟨c0, ds⟩ := z
                    rw [hs0] at hsh
                    have hc0 : c0 = ci := by simpa using hsh
                    subst hc0
                    have hw' : (en_ws G ad cA σ)[p0]? = some (ad p0, .inr (c0, en_fs ad p0 σ ds)) := by
                      rw [en_ws_at hs0]
                      unfold en_cell
                      rw [if_pos v9]
                    have hrec := va_recv hK hP v10 hw'
                    have hstk : st.map (en_cv ad) = (as.map (en_cv ad)).reverse ++ .ref (ad p0) :: (st.drop nn).map (en_cv ad) := by
                      rw [en_map_rev (n := nn), has]
                      simp [en_cv]
                    refine vx_runV (Pc := va_Pc ((Value.ref p0 :: as).map (en_cv ad)) (en_B G ad cA D cl FX σ)) (As := as.map (en_cv ad)) (b := ad p0) (rest := (st.drop nn).map (en_cv ad)) ⟨hx, hb, hml, hown, hts⟩ hcon ⟨cb, hts _ v4, hts _ v5⟩ ⟨en_blind hFXm, hrec, fun U hU hW => pre (.ref p0 :: as) U hU hW⟩ rfl ?_ hsz hstk (lv_room ?_) hdV ?_
                    · rw [List.length_map]
                      simp at hasl
                      omega
                    · rw [en_cat_map]
                      unfold en_small at hc2
                      exact of_decide_eq_true hc2
                    · unfold en_mc
                      split
                      · exact ⟨by simpa using hmcR, by simpa using hmsR⟩
                      · next z hz => exact hroom z hz
                · cases hrun
              · cases hrun
            · cases hrun
          · next y nn ci hcl =>
            split at hrun
            · next p0 r =>
              split at hrun
              · next hc =>
                obtain ⟨i9, rfl⟩ : ∃ i9 : Nat, p0 = 1000 + i9 := ⟨p0 - 1000, (Nat.add_sub_cancel' hc.1).symm⟩
                rw [Nat.add_sub_cancel_left] at hrun
                exact (hStr mi pc idx 5 y nn ci i9 hcl p e R s m args below meth c H locs _ _ _ ls (r.map (en_cv ad)) hcx0 hdV hsz hS (by rw [en_cat_map]; exact of_decide_eq_true hc.2) hmcR hmsR).1 rfl (ihB x mi _ L _ σ out hMV hrun cu X hcu p e R s m args below meth c H locs ls hcx0 hRc hRs hl hP hS)
              · cases hrun
            · cases hrun
          · next y nn ci hcl =>
            split at hrun
            · next j p0 r =>
              split at hrun
              · next hc =>
                obtain ⟨i9, rfl⟩ : ∃ i9 : Nat, p0 = 1000 + i9 := ⟨p0 - 1000, (Nat.add_sub_cancel' hc.1).symm⟩
                rw [Nat.add_sub_cancel_left] at hrun hc
                exact (hStr mi pc idx 6 y nn ci i9 hcl p e R s m args below meth c H locs _ _ _ ls (r.map (en_cv ad)) hcx0 hdV hsz hS (by rw [en_cat_map]; exact of_decide_eq_true hc.2.1) hmcR hmsR).2.1 rfl j hc.2.2 (ihB x mi _ L _ σ out hMV hrun cu X hcu p e R s m args below meth c H locs ls hcx0 hRc hRs hl hP hS)
              · cases hrun
            · cases hrun
          · next y nn ci hcl =>
            split at hrun
            · next j p0 r =>
              split at hrun
              · next hc =>
                obtain ⟨i9, rfl⟩ : ∃ i9 : Nat, p0 = 1000 + i9 := ⟨p0 - 1000, (Nat.add_sub_cancel' hc.1).symm⟩
                rw [Nat.add_sub_cancel_left] at hrun
                exact (hStr mi pc idx 7 y nn ci i9 hcl p e R s m args below meth c H locs _ _ _ ls (r.map (en_cv ad)) hcx0 hdV hsz hS (by rw [en_cat_map]; exact of_decide_eq_true hc.2) hmcR hmsR).2.2 rfl j (ihB x mi _ L _ σ out hMV hrun cu X hcu p e R s m args below meth c H locs ls hcx0 hRc hRs hl hP hS)
              · cases hrun
            · cases hrun
          · cases hrun
        · have hdS : decode (CD mi) pc = .ok (.invokestatic idx, 3) := by rw [hd9, hn9 (by simp [en_len])]; rfl
          simp only [en_step] at hrun
          unfold en_inS at hrun
          split at hrun
          · next y nn ci hcl =>
            split at hrun
            · next hc1 =>
              obtain ⟨hc1, hc2, hc3⟩ := hc1
              obtain ⟨v1, v2, v3, v4, v5, v6, v7, v8⟩ := cf1 _ _ _ _ _ hcl
              have hasl : ((st.take nn).reverse).length = nn := by rw [List.length_reverse, List.length_take]; omega
              have hone : en_one (st.take nn).reverse = true := by
                unfold en_one at hc3 ⊢
                rw [List.all_reverse]
                exact hc3
              refine called y nn (st.take nn).reverse (st.drop nn) idx hrun (fun o' ho' hroom => ?_)
              have hcon := ihC 0 y (st.take nn).reverse σ o' v1 hone (by omega) ho'
              obtain ⟨w1, w2, w3, w4, w5, w6, w7, w8⟩ := id v1
              have hwd : en_wd G ML yN CD hh y = .code (yN y) (CD y) (ML y) (en_RT G y) := by unfold en_wd; rw [v2]
              have hcells : cu + en_mc 0 o' ≤ R.cells ∧ 6 * cu + 6 * en_mc 0 o' ≤ R.slots := by
                unfold en_mc
                split
                · exact ⟨by simpa using hmcR, by simpa using hmsR⟩
                · next z hz => exact hroom z hz
              have hsm : (((st.drop nn).map (en_cv ad)).map fun v => v.category).sum ≤ 8 := by
                rw [en_cat_map]
                unfold en_small at hc2
                exact of_decide_eq_true hc2
              rcases v3 with v3 | ⟨host, v3⟩
              · have cb : CallB R s args (own mi) idx (yN y) (CD y) (ML y) (en_RT G y) (en_wd G ML yN CD hh y :: TT) (en_rm fr lo y 0 o') (en_mc 0 o') (6 * en_mc 0 o') nn :=
                  callB_of nn hts (en_good hTg w1) (by rw [hwd]) rfl rfl (by rw [w3]; exact hts _ w4) (hts _ v3) ⟨w5.1, w5.2, v5⟩ ⟨by rw [hRf]; exact v7, by rw [hRl]; exact v8⟩
                exact vx_runS (Pc := va_Pc (((st.take nn).reverse).map (en_cv ad)) (en_B G ad cA D cl FX σ)) (As := ((st.take nn).reverse).map (en_cv ad)) (rest := (st.drop nn).map (en_cv ad)) ⟨hx, hb, hml, hown, hts⟩ hcon ⟨cb, hts _ v4⟩ ⟨en_blind hFXm, fun U hU hW => pre _ U hU hW⟩ rfl (by rw [List.length_map]; exact hasl) hsz en_map_rev (lv_room hsm) hdS hcells
              · have cb : va_CN R s args (own mi) idx (yN y) host (CD y) (ML y) (en_RT G y) (en_wd G ML yN CD hh y :: TT) (en_rm fr lo y 0 o') (en_mc 0 o') (6 * en_mc 0 o') nn :=
                  va_cnB nn hts (en_good hTg w1) (by rw [hwd]) rfl rfl v3 (by rw [w3]; exact hts _ w4) ⟨w5.1, w5.2, v5⟩ ⟨by rw [hRf]; exact v7, by rw [hRl]; exact v8⟩
                exact vx_runSN (Pc := va_Pc (((st.take nn).reverse).map (en_cv ad)) (en_B G ad cA D cl FX σ)) (As := ((st.take nn).reverse).map (en_cv ad)) (rest := (st.drop nn).map (en_cv ad)) ⟨hx, hb, hml, hown, hts⟩ hcon ⟨cb, hts _ v4, trivial⟩ ⟨en_blind hFXm, fun U hU hW => pre _ U hU hW⟩ rfl (by rw [List.length_map]; exact hasl) hsz en_map_rev (lv_room hsm) hdS hcells
            · cases hrun
          · next y nn ci hcl =>
            split at hrun
            · next b a r =>
              split at hrun
              · next hc =>
                obtain ⟨u1, u2, u3, u4⟩ := cf2 _ _ _ _ _ hcl
                have hsm : ((r.map (en_cv ad)).map fun v => v.category).sum ≤ 8 := by rw [en_cat_map]; exact of_decide_eq_true hc
                exact va_mmax hx hb (by rw [hml, hsz]) hown (hts _ u1) (hts _ u2) (hts _ u3) (hts _ u4) (by rw [hRf]; omega) (by rw [hRl]; omega) hmcR hmsR hdS (ihB x mi _ L _ σ out hMV hrun cu X hcu p e R s m args below meth c H locs ls hcx0 hRc hRs hl hP hS)
              · cases hrun
            · cases hrun
          · next y nn ci hcl =>
            split at hrun
            · next b a r =>
              split at hrun
              · next hc =>
                obtain ⟨u1, u2, u3, u4⟩ := cf3 _ _ _ _ _ hcl
                have hsm : ((r.map (en_cv ad)).map fun v => v.category).sum ≤ 8 := by rw [en_cat_map]; exact of_decide_eq_true hc
                exact va_mmin hx hb (by rw [hml, hsz]) hown (hts _ u1) (hts _ u2) (hts _ u3) (hts _ u4) (by rw [hRf]; omega) (by rw [hRl]; omega) hmcR hmsR hdS (ihB x mi _ L _ σ out hMV hrun cu X hcu p e R s m args below meth c H locs ls hcx0 hRc hRs hl hP hS)
              · cases hrun
            · cases hrun
          · next y nn ci hcl =>
            split at hrun
            · next n0 dp q0 sp p0 r =>
              split at hrun
              · next hc =>
                split at hrun
                · next m0 m1 hm0 hm1 =>
                  split at hrun
                  · next hcc =>
                    obtain ⟨c1, c2, c3, c4, c5⟩ := hcc
                    obtain ⟨u1, u2, u3, u4⟩ := cf4 _ _ _ _ _ hcl
                    obtain ⟨r0, h0⟩ := en_arr_spec hm0
                    obtain ⟨r1, h1⟩ := en_arr_spec hm1
                    have hsm : ((r.map (en_cv ad)).map fun v => v.category).sum ≤ 8 := by rw [en_cat_map]; exact of_decide_eq_true hc
                    have hnf : nativeFrameWords "java/lang/System" "arraycopy" 5 = 7 := by decide +kernel
                    refine va_copyi hx hb (by rw [hml, hsz]) hown (hts _ u1) (hts _ u2) (hts _ u3) (hts _ u4) hK hP (hDD σ) hS p0 q0 0 0 (ty := .int) (en_ws_at h0) (en_ws_at h1) rfl rfl rfl c1 c2 c3 c4 c5 (fun i _ => rfl) (by rw [hRf]; omega) (by rw [hRl, hnf]; omega) hdS (fun H1 locs1 hP1 _ hS1 => ihB x mi _ L _ _ out hMV hrun cu X hcu p e R s m args below meth c H1 locs1 ls hcx0 hRc hRs hl ?_ hS1)
                    rw [← en_ws_set h1 (σ := σ) (σ' := (en_uf σ.1 q0 (va_cpy (σ.1 p0) (σ.1 q0) sp.toNatClampNeg dp.toNatClampNeg n0.toNatClampNeg), σ.2)) (fun q hq => en_uf_ne hq) (fun _ _ => rfl)]
                    have e9 : en_cell ad cA (20, m1 :: r1) q0 (en_uf σ.1 q0 (va_cpy (σ.1 p0) (σ.1 q0) sp.toNatClampNeg dp.toNatClampNeg n0.toNatClampNeg), σ.2) = .inl (cA 0, m1, .inl (va_cpy (σ.1 p0) (σ.1 q0) sp.toNatClampNeg dp.toNatClampNeg n0.toNatClampNeg)) := by
                      simp [en_cell, en_uf_eq]
                    rw [e9]
                    exact hP1
                  · cases hrun
                · cases hrun
              · cases hrun
            · cases hrun
          · cases hrun
        · simp only [en_step] at hrun
          split at hrun
          · next x9 hth =>
            split at hrun
            · next hsm0 =>
             cases hrun
             have hsm : ((st.map (en_cv ad)).map fun v => v.category).sum ≤ 8 := by
              rw [en_cat_map]
              exact of_decide_eq_true hsm0
             refine hThr mi pc idx x9 hth (hThN _ _ _ hth) p e R s m args below meth c H locs cu (6 * cu) ls (st.map (en_cv ad)) _ _ _ _ hcx0 hchk hsz hS hsm ?_ ?_ ?_ ?_ (fun t _ h2 h3 => ⟨⟨x9, rfl, rfl⟩, ?_, ?_⟩)
             · rw [hRc]; show cu + 1 ≤ X + 1; omega
             · rw [hRs]; show 6 * cu + 6 ≤ 6 * (X + 1); omega
             · show cu + 1 ≤ X + 1; omega
             · show 6 * cu + 6 ≤ 6 * (X + 1); omega
             · exact hP.kept (fun k q hq => h3 q.1 (hP k q hq).lt)
             · exact ⟨Nat.le_trans hS.1 h2, fun q h4 h5 => by rw [h3 q (Nat.lt_of_lt_of_le h4 hS.1)]; exact hS.2.1 q h4 h5⟩
            · cases hrun
          · cases hrun
        · have hdR : decode (CD mi) pc = .ok (.ireturn, 1) := by rw [hd9, hn9 (by simp [en_len])]; rfl
          simp only [en_step] at hrun
          split at hrun
          · next v =>
            unfold en_retI at hrun
            split at hrun
            · next hrt =>
              cases hrun
              refine vx_ret (W.widen (k := X) (n := 6 * X) (by omega) (by omega) ?_)
              exact W.iret hx hb (by rw [hr]; exact hrt) (fun t ht hW => ⟨⟨_, rfl, rfl⟩, by rw [ht]; exact hP, hS.F ht⟩) hS.2.2 hdR hlocks
            · next hrt =>
              split at hrun
              · next h01 =>
                cases hrun
                refine vx_ret (W.widen (k := X) (n := 6 * X) (by omega) (by omega) ?_)
                exact W.zret (ty := .boolean) hx hb (by rw [hr]; exact hrt) (by rcases h01 with rfl | rfl <;> rfl) (fun t ht hW => ⟨⟨_, rfl, rfl⟩, by rw [ht]; exact hP, hS.F ht⟩) hS.2.2 hdR hlocks
              · cases hrun
            · cases hrun
          · cases hrun
        · have hdR : decode (CD mi) pc = .ok (.lreturn, 1) := by rw [hd9, hn9 (by simp [en_len])]; rfl
          simp only [en_step] at hrun
          split at hrun
          · next v =>
            split at hrun
            · next hrt =>
              cases hrun
              refine vx_ret (W.widen (k := X) (n := 6 * X) (by omega) (by omega) ?_)
              exact W.lret hx hb (by rw [hr]; exact hrt) (fun t ht hW => ⟨⟨_, rfl, rfl⟩, by rw [ht]; exact hP, hS.F ht⟩) hS.2.2 hdR hlocks
            · cases hrun
          · cases hrun
        · have hdR : decode (CD mi) pc = .ok (.return_, 1) := by rw [hd9, hn9 (by simp [en_len])]; rfl
          simp only [en_step] at hrun
          split at hrun
          · split at hrun
            · next hrt =>
              cases hrun
              refine vx_ret (W.widen (k := X) (n := 6 * X) (by omega) (by omega) ?_)
              exact W.vret hx hb (by rw [hr]; exact hrt) (fun t ht hW => ⟨⟨_, rfl, rfl⟩, by rw [ht]; exact hP, hS.F ht⟩) hS.2.2 hdR hlocks
            · cases hrun
          · cases hrun
    refine ⟨body, fun x y as σ o hMV hone hlen hrun => ?_⟩
    obtain ⟨mv1, mv2, mv3, mv4, mv5, mv6, mv7, mv8⟩ := id hMV
    unfold en_Con
    have fin : ∀ (p : Program) (e : Env) (s : State) (m : MethodId) (args : Array Value) (below : List Frame) (meth : Method) (c : Code) (s₁ : State), BodyLoose p l (yN y) (headSpec (en_wd G ML yN CD hh y :: TT) (en_rm fr lo y x o)) (CD y) (ML y) (en_RT G y) e s m args below meth c s₁ → c.maxLocals = ML y → c.exceptionTable.toList = tableOf (hh y) → va_Pc (as.map (en_cv ad)) (en_B G ad cA D cl FX σ) args s →
        W p l e (headSpec (en_wd G ML yN CD hh y :: TT) (en_rm fr lo y x o)).room s m args below meth c s.heap [] 0 0 (vx_MQ below (en_Qc G ad cA D cl A o) (en_Xc G ad cA D cl A XN o) args s (en_mc x o) (6 * en_mc x o) A) (entryFrame m args (ML y)) := by
      intro p e s m args below meth c s₁ B hml htab hpc
      obtain ⟨rfl, hP, hK, hF⟩ := hpc
      have hts := atoms_spec (ws := en_wd G ML yN CD hh y :: TT) B.pre
      have hown : s.vm.findClass (own y) = some m.cls := by rw [← mv3]; exact findClass_of_methodNamed B.named
      rw [lg_entry_eq]
      exact body x y 0 (en_ent (ML y) as) [] σ o hMV hrun 0 x (by omega) p e _ s m _ below meth c s.heap [] _ ⟨B.exec, B.bytes, B.returns, hml, B.notSynchronized, hown, fun w hw => hts w (List.mem_cons_of_mem _ hw), hK, hF, htab, rfl, rfl⟩ rfl rfl (en_entry hone hlen) hP va_S.rf
    cases hhy : hh y with
    | nil =>
      have hwd : en_wd G ML yN CD hh y = .code (yN y) (CD y) (ML y) (en_RT G y) := by unfold en_wd; rw [hhy]
      refine vx_ofW (cc := CD y) (maxL := ML y) (ret := en_RT G y) mv2 (by rw [hwd]) ?_
      intro p e s m args below meth c s₁ B hml hno hpc
      refine fin p e s m args below meth c s₁ B hml ?_ hpc
      rw [hhy]
      cases ht : c.exceptionTable.toList with
      | nil => rfl
      | cons a r => exact (hno a (by rw [ht]; exact List.mem_cons_self)).elim
    | cons h0 r0 =>
      have hwd : en_wd G ML yN CD hh y = .codeWith (yN y) (CD y) (ML y) (en_RT G y) (h0 :: r0) := by unfold en_wd; rw [hhy]
      refine vx_ofWH (cc := CD y) (maxL := ML y) (ret := en_RT G y) (hh := h0 :: r0) mv2 (by rw [hwd]) ?_
      intro p e s m args below meth c s₁ B hml hpc
      refine fin p e s m args below meth c s₁ B hml ?_ hpc
      rw [hhy]
      have hts := atoms_spec (ws := en_wd G ML yN CD hh y :: TT) B.pre
      exact vx_table (x := yN y) B (by have h9 := hts _ List.mem_cons_self; rw [hwd] at h9; exact h9)
end EX
end
section
/-! THE LAW'S OWN BODY: its script is place 2000; it goes from cut to cut. -/
def en_ls (G : en_G) (Ls : Nat) (xs : Nat → Int32) (mi pc : Nat) (i : Instr) (L : en_L) (st : List Value) (σ : en_S) (k : en_K) (call callX : Nat → List Value → en_S → Option en_O) : Option en_O := match i, st with
  | .iaload, .int j :: .ref 2000 :: r => if en_in j Ls then k (pc + 1) L (.int (xs j.toNatClampNeg) :: r) σ else none
  | .arraylength, .ref 2000 :: r => k (pc + 1) L (.int (Int32.ofNat Ls) :: r) σ
  | .invokestatic idx, st => match en_CL G mi idx with
    | some (9, y, n, _) => if n ≤ st.length ∧ en_small (st.drop n) = true ∧ en_one (st.take n) = true then en_back (en_RT G y) (callX y (st.take n).reverse σ) (fun v σ => k (pc + 3) L (v ++ st.drop n) σ) (fun _ _ => none) else none
    | _ => none
  | i, st => en_step G mi pc i L st σ k call (fun _ _ _ _ => none)
/-- up to a cut, where kf takes over; at most n steps -/
noncomputable def en_uk (G : en_G) (P : en_P) (ML : Nat → Nat) (HD : en_H) (Ls : Nat) (xs : Nat → Int32) (mi : Nat) (kf : en_K) : Nat → en_K
  | 0 => fun _ _ _ _ => none
  | n + 1 => fun pc L st σ => match en_get (P mi) pc with
    | none => none
    | some (i, none) => en_ls G Ls xs mi pc i L st σ (en_uk G P ML HD Ls xs mi kf n) (fun y as σ' => en_ex G P ML HD 0 y 0 (en_ent (ML y) as) [] σ') (fun y as σ' => en_ex G P ML HD 1 y 0 (en_ent (ML y) as) [] σ')
    | some (_, some m) => kf pc (en_msk (some m) L) st σ
/-- what the law's body doesn't do -/
def en_li : Instr → Bool
  | .new _ => false
  | .lreturn => false
  | .return_ => false
  | _ => true
section EL
variable {l : Launch} {G : en_G} {P : en_P} {ML : Nat → Nat} {HD : en_H} {ad : Nat → Nat} {cA : Nat → ClassId} {D : va_G} {cl : List vw_C} {A : Nat → Prop} {TT : List Cond} {tyC : Nat → Nat → FieldType} {own : Nat → String} {yN : Nat → MethodName} {CD : Nat → ByteArray} {hh : Nat → List (Nat × Nat × Nat × Nat)} {XN : Nat → String} {fr lo : Nat → Nat} {FX : State → Heap → Prop}
variable {p : Program} {e : Env} {R : Room} {s : State} {m : MethodId} {args : Array Value} {below : List Frame} {meth : Method} {c : Code} {Q : State → Prop}
set_option maxHeartbeats 4000000 in
theorem en_law (hA : en_ALL l G P ML HD ad cA D cl A TT tyC own yN CD hh XN fr lo FX) {mi Ls b : Nat} {xs : Nat → Int32} {kf : en_K} {c0 s0 : Nat}
    (hx : p.tables.exec = Jvm.exec) (hb : c.code = CD mi) (hml : c.maxLocals = ML mi) (hown : s.vm.findClass (own mi) = some m.cls) (hts : ∀ w ∈ TT, w.before args s = true) (hK : va_K D cl (en_tys cA) s) (hFX : FX s s.heap) (hRf : R.frames = fr mi) (hRl : R.locals = lo mi) (hRc : R.cells = 601024) (hRs : R.slots = 7293034)
    (hX : va_X b Ls xs s s.heap) (hbl : b < s.heap.size) (hbA : ¬ A b) (hb2 : ad 2000 = b) (h2000 : (en_SH G)[2000]? = none)
    (hprog : ∀ pc i mk, en_get (P mi) pc = some (i, mk) → en_chk (CD mi) pc i = true ∧ (∀ bs, mk = some bs → bs.length = ML mi) ∧ en_li i = true) (hkind : ∀ idx k y n ci, en_CL G mi idx = some (k, y, n, ci) → k = 0 ∨ k = 9)
    (hst9 : ∀ idx y n ci, en_CL G mi idx = some (9, y, n, ci) → en_MV G P ML TT own yN CD hh fr lo y ∧ (∃ h r, hh y = h :: r) ∧ Cond.methodLink (own mi) idx (yN y) ∈ TT ∧ Cond.static (yN y) ∈ TT ∧ (parseMethodDescriptor (yN y).desc).map (fun d => d.parameters.length) = some n ∧ n ≤ ML y ∧ fr y + 1 ≤ fr mi ∧ 8 + (ML y + 11) + lo y ≤ lo mi) :
    ∀ (n pc : Nat) (L : en_L) (st : List Value) (σ : en_S) (out : en_O) (cu : Nat) (H : Heap) (locs : List Loc) (ls : Array Slot), en_uk G P ML HD Ls xs mi kf n pc L st σ = some out → c0 + cu + n ≤ 600000 → s0 + 6 * (cu + n) ≤ 7200000 → en_lv ad ls (ML mi) L → va_P D cl (en_ws G ad cA σ) H → va_S A s.heap H locs →
    (∀ pc' L' st' σ' ls' H' locs' cu', kf pc' L' st' σ' = some out → cu' ≤ cu + n → en_lv ad ls' (ML mi) L' → va_P D cl (en_ws G ad cA σ') H' → va_S A s.heap H' locs' → W p l e R s m args below meth c H' locs' (c0 + cu') (s0 + 6 * cu') Q (F0 m pc' ls' (st'.map (en_cv ad)))) →
    (∀ pc' σ' v ls' H' locs' cu', decode (CD mi) pc' = .ok (.ireturn, 1) → out = (.inl (some (.int v)), σ') → cu' ≤ cu + n → va_S A s.heap H' locs' → W p l e R s m args below meth c H' locs' (c0 + cu') (s0 + 6 * cu') Q (F0 m pc' ls' [.int v])) →
    W p l e R s m args below meth c H locs (c0 + cu) (s0 + 6 * cu) Q (F0 m pc ls (st.map (en_cv ad))) := by
  obtain ⟨hT, hTg, hDD, hFXm, hFXk, hCF, hSt, hThr, hStr, hHd, hNo, hThN⟩ := id hA
  obtain ⟨cf0, cf1, cf2, cf3, cf4⟩ := hCF s s.heap hFX
  intro n
  induction n with
  | zero => intro pc L st σ out cu H locs ls h; cases h
  | succ n ih =>
    intro pc L st σ out cu H locs ls h hcu hsu hl hP hS hk hret
    unfold en_uk at h
    split at h
    · cases h
    · next i hget =>
      obtain ⟨hchk, -, hli⟩ := hprog _ _ _ hget
      obtain ⟨n9, hd9, hn9, ho9⟩ := en_chk_spec hchk
      have hsz : ls.size = ML mi := hl.2.1
      have hcR : c0 + cu ≤ R.cells := by rw [hRc]; omega
      have hsR : s0 + 6 * cu ≤ R.slots := by rw [hRs]; omega
      have go : ∀ (d : Nat), d ≤ 1 → ∀ pc' L' st' σ' ls' H' locs', en_uk G P ML HD Ls xs mi kf n pc' L' st' σ' = some out → en_lv ad ls' (ML mi) L' → va_P D cl (en_ws G ad cA σ') H' → va_S A s.heap H' locs' →
          W p l e R s m args below meth c H' locs' (c0 + (cu + d)) (s0 + 6 * (cu + d)) Q (F0 m pc' ls' (st'.map (en_cv ad))) := by
        intro d hd pc' L' st' σ' ls' H' locs' h1 h2 h3 h4
        exact ih pc' L' st' σ' out (cu + d) H' locs' ls' h1 (by omega) (by omega) h2 h3 h4 (fun a1 a2 a3 a4 a5 a6 a7 a8 b1 b2 => hk a1 a2 a3 a4 a5 a6 a7 a8 b1 (by omega)) (fun a1 a2 a3 a4 a5 a6 a7 b0 b1 b2 => hret a1 a2 a3 a4 a5 a6 a7 b0 b1 (by omega))
      have pre : ∀ (as : List Value) (U : State), U.heap = H → s.WarmedH U.vm → va_Pc (as.map (en_cv ad)) (en_B G ad cA D cl FX σ) ((as.map (en_cv ad)).toArray) U := by
        intro as U hU hW
        exact ⟨rfl, by rw [hU]; exact hP, va_K.moved hW.alike hK, hFXm s U _ hW (by rw [hU]; exact hFXk _ _ _ hFX hS.2.1)⟩
      unfold en_ls at h
      split at h
      · next j r =>
        split at h
        · next hj =>
          have hdd : decode (CD mi) pc = .ok (.iaload, 1) := by rw [hd9, hn9 (by simp [en_len])]; rfl
          have h8 := go 0 (by omega) _ _ _ _ ls H locs h hl hP hS
          show W p l e R s m args below meth c H locs (c0 + cu) (s0 + 6 * cu) Q (F0 m pc ls (.int j :: .ref (ad 2000) :: r.map (en_cv ad)))
          rw [hb2]
          exact va_sld hx hb hX hbl hbA hS hj hdd h8
        · cases h
      · next r =>
        have hdd : decode (CD mi) pc = .ok (.arraylength, 1) := by rw [hd9, hn9 (by simp [en_len])]; rfl
        have h8 := go 0 (by omega) _ _ _ _ ls H locs h hl hP hS
        show W p l e R s m args below meth c H locs (c0 + cu) (s0 + 6 * cu) Q (F0 m pc ls (.ref (ad 2000) :: r.map (en_cv ad)))
        rw [hb2]
        exact va_slen hx hb hX hbl hbA hS hdd h8
      · next idx =>
        have hdS : decode (CD mi) pc = .ok (.invokestatic idx, 3) := by rw [hd9, hn9 (by simp [en_len])]; rfl
        split at h
        · next y nn ci hcl =>
          split at h
          · next hc1 =>
            obtain ⟨hc1, hc2, hc3⟩ := hc1
            obtain ⟨v1, ⟨h0, r0, v2⟩, v3, v4, v5, v6, v7, v8⟩ := hst9 _ _ _ _ hcl
            have hasl : ((st.take nn).reverse).length = nn := by rw [List.length_reverse, List.length_take]; omega
            have hone : en_one (st.take nn).reverse = true := by
              unfold en_one at hc3 ⊢
              rw [List.all_reverse]
              exact hc3
            obtain ⟨o', ho', hcase⟩ := en_back_spec h
            obtain ⟨N, hN⟩ := en_ex_iff.mp ho'
            have hcon := (en_main hA N).2 1 y (st.take nn).reverse σ o' v1 hone (by omega) hN
            obtain ⟨w1, w2, w3, w4, w5, w6, w7, w8⟩ := id v1
            rcases hcase with ⟨v, hv, hk9⟩ | ⟨z, hz, hk9⟩
            · have em : en_mc 1 o' = 1 := by unfold en_mc; rw [hv]
              have hwd : en_wd G ML yN CD hh y = .codeWith (yN y) (CD y) (ML y) (en_RT G y) (h0 :: r0) := by unfold en_wd; rw [v2]
              have hsm : (((st.drop nn).map (en_cv ad)).map fun v => v.category).sum ≤ 8 := by
                rw [en_cat_map]
                unfold en_small at hc2
                exact of_decide_eq_true hc2
              have hgd : GoodIn TT (en_wd G ML yN CD hh y :: TT) := en_good hTg w1
              have hcm : Cond.codeWith (yN y) (CD y) (ML y) (en_RT G y) (h0 :: r0) ∈ en_wd G ML yN CD hh y :: TT := by rw [hwd]; exact List.mem_cons_self
              have cb : vx_CSW R s args (own mi) idx (yN y) (CD y) (ML y) (en_RT G y) (h0 :: r0) (en_wd G ML yN CD hh y :: TT) (en_rm fr lo y 1 o') (en_mc 1 o') (6 * en_mc 1 o') nn :=
                ⟨⟨rfl, rfl, by rw [hRf]; exact v7, by rw [hRl]; exact v8, pay_in hts hgd, hcm⟩, hts _ (by rw [← hwd]; exact w1), by rw [w3]; exact hts _ w4, w5, fun sig hsg => by rw [hsg] at v5; exact (Option.some.inj v5).symm, hts _ v3, hts _ v4⟩
              have hrun := vx_runSX (l := l) (e := e) (below := below) (meth := meth) (H := H) (locs := locs) (cells := c0 + cu) (slots := s0 + 6 * cu) (g := F0 m pc ls (st.map (en_cv ad))) (Pc := va_Pc (((st.take nn).reverse).map (en_cv ad)) (en_B G ad cA D cl FX σ)) (As := ((st.take nn).reverse).map (en_cv ad)) (rest := (st.drop nn).map (en_cv ad)) ⟨hx, hb, hml, hown, hts⟩ hcon cb ⟨en_blind hFXm, fun U hU hW => pre _ U hU hW⟩ rfl (by rw [List.length_map]; exact hasl) hsz en_map_rev (lv_room hsm) hdS (by rw [em, hRc, hRs]; omega)
              refine en_after (o := o') hrun hS (fun v' H1 locs1 hv' hP1 hS1 => ?_) (fun z q ce H1 locs1 hz hP1 hS1 hce hcv hcl => by rw [hv] at hz; cases hz)
              have e1 : v' = v := by rw [hv] at hv'; cases hv'; rfl
              subst e1
              have h8 := go 1 (by omega) _ _ _ _ ls H1 locs1 hk9 hl hP1 hS1
              rw [List.map_append] at h8
              have e2 : (v'.map (en_cv ad)).toList = v'.toList.map (en_cv ad) := by cases v' <;> rfl
              rw [e2, em, show c0 + cu + 1 = c0 + (cu + 1) by omega, show s0 + 6 * cu + 6 * 1 = s0 + 6 * (cu + 1) by omega]
              exact h8
            · cases hk9
          · cases h
        · cases h
      · next hn1 hn2 hn3 =>
        refine en_sim1 hT hx hb hown hts hK (hSt s s.heap hFX mi) hDD hchk h hl hP hS (fun pc' L' st' σ' ls' H' locs' hk9 hl' hP' hS' => go 0 (by omega) pc' L' st' σ' ls' H' locs' hk9 hl' hP' hS') ?_
        rintro (⟨idx, rfl⟩ | ⟨idx, rfl⟩ | ⟨idx, rfl⟩ | rfl | rfl | rfl)
        · have hdV : decode (CD mi) pc = .ok (.invokevirtual idx, 3) := by rw [hd9, hn9 (by simp [en_len])]; rfl
          simp only [en_step] at h
          unfold en_inV at h
          split at h
          · next y nn ci hcl =>
            split at h
            · next hc1 =>
              obtain ⟨hc1, hc2, hc3⟩ := hc1
              split at h
              · next p0 as has =>
                split at h
                · next hsh =>
                  obtain ⟨v1, v2, v3, v4, v5, v6, v7, v8, v9, ⟨T, N0, v10⟩, v11, v12⟩ := cf0 _ _ _ _ _ hcl
                  have hasl : (Value.ref p0 :: as).length = nn := by rw [← has, List.length_reverse, List.length_take]; omega
                  have hone : en_one (Value.ref p0 :: as) = true := by
                    rw [← has]
                    unfold en_one at hc3 ⊢
                    rw [List.all_reverse]
                    exact hc3
                  obtain ⟨o', ho', hcase⟩ := en_back_spec h
                  obtain ⟨N, hN⟩ := en_ex_iff.mp ho'
                  have hcon := (en_main hA N).2 0 y (.ref p0 :: as) σ o' v1 hone (by omega) hN
                  obtain ⟨w1, w2, w3, w4, w5, w6, w7, w8⟩ := id v1
                  rcases hcase with ⟨v, hv, hk9⟩ | ⟨z, hz, hk9⟩
                  · have em : en_mc 0 o' = 0 := by unfold en_mc; rw [hv]
                    have hwd : en_wd G ML yN CD hh y = .code (yN y) (CD y) (ML y) (en_RT G y) := by unfold en_wd; rw [v2]
                    have cb : CallB R s args (own mi) idx (yN y) (CD y) (ML y) (en_RT G y) (en_wd G ML yN CD hh y :: TT) (en_rm fr lo y 0 o') (en_mc 0 o') (6 * en_mc 0 o') (nn - 1) :=
                      callB_of (nn - 1) hts (en_good hTg w1) (by rw [hwd]) rfl rfl (by rw [w3]; exact hts _ w4) (hts _ v3) ⟨w5.1, w5.2, v6⟩ ⟨by rw [hRf]; exact v11, by rw [hRl]; exact v12⟩
                    cases hs0 : (en_SH G)[p0]? with
                    | none => rw [hs0] at hsh; cases hsh
                    | some z =>
                      obtain ⟨cc0, ds⟩ := z
                      rw [hs0] at hsh
                      have hc0 : cc0 = ci := by simpa using hsh
                      subst hc0
                      have hw' : (en_ws G ad cA σ)[p0]? = some (ad p0, .inr (cc0, en_fs ad p0 σ ds)) := by
                        rw [en_ws_at hs0]
                        unfold en_cell
                        rw [if_pos v9]
                      have hrec := va_recv hK hP v10 hw'
                      have hstk : st.map (en_cv ad) = (as.map (en_cv ad)).reverse ++ .ref (ad p0) :: (st.drop nn).map (en_cv ad) := by
                        rw [en_map_rev (n := nn), has]
                        simp [en_cv]
                      have hrun := vx_runV (l := l) (e := e) (below := below) (meth := meth) (locs := locs) (cells := c0 + cu) (slots := s0 + 6 * cu) (g := F0 m pc ls (st.map (en_cv ad))) (Pc := va_Pc ((Value.ref p0 :: as).map (en_cv ad)) (en_B G ad cA D cl FX σ)) (As := as.map (en_cv ad)) (b := ad p0) (rest := (st.drop nn).map (en_cv ad)) ⟨hx, hb, hml, hown, hts⟩ hcon ⟨cb, hts _ v4, hts _ v5⟩ ⟨en_blind hFXm, hrec, fun U hU hW => pre (.ref p0 :: as) U hU hW⟩ rfl (by
                          rw [List.length_map]
                          simp at hasl
                          omega) hsz hstk (lv_room (by
                          rw [en_cat_map]
                          unfold en_small at hc2
                          exact of_decide_eq_true hc2)) hdV (by rw [em]; omega)
                      refine en_after (o := o') hrun hS (fun v' H1 locs1 hv' hP1 hS1 => ?_) (fun z q ce H1 locs1 hz hP1 hS1 hce hcv hcl => by rw [hv] at hz; cases hz)
                      have e1 : v' = v := by rw [hv] at hv'; cases hv'; rfl
                      subst e1
                      have h8 := go 0 (by omega) _ _ _ _ ls H1 locs1 hk9 hl hP1 hS1
                      rw [List.map_append] at h8
                      have e2 : (v'.map (en_cv ad)).toList = v'.toList.map (en_cv ad) := by cases v' <;> rfl
                      rw [e2, em]
                      exact h8
                  · cases hk9
                · cases h
              · cases h
            · cases h
          · next y nn ci hcl => rcases hkind _ _ _ _ _ hcl with z | z <;> cases z
          · next y nn ci hcl => rcases hkind _ _ _ _ _ hcl with z | z <;> cases z
          · next y nn ci hcl => rcases hkind _ _ _ _ _ hcl with z | z <;> cases z
          · cases h
        · first | exact (hn1 idx rfl).elim | exact (hn2 idx rfl).elim | simp_all
        · cases hli
        · have hdR : decode (CD mi) pc = .ok (.ireturn, 1) := by rw [hd9, hn9 (by simp [en_len])]; rfl
          simp only [en_step] at h
          split at h
          · next v =>
            have hout : out = (.inl (some (.int v)), σ) := by
              unfold en_retI at h
              split at h
              · cases h; rfl
              · split at h
                · cases h; rfl
                · cases h
              · cases h
            exact hret pc σ v ls H locs cu hdR hout (by omega) hS
          · cases h
        · cases hli
        · cases hli
    · next i mk hget =>
      obtain ⟨hchk, hmk, -⟩ := hprog _ _ _ hget
      exact hk _ _ _ _ ls H locs cu h (by omega) (hl.msk (some mk) hmk) hP hS
end EL
end
section
/-! CONSTRUCTORS: a second small machine, over cells that are made one behind the other, on plain numbers (the kernel runs it). -/
abbrev dn_C : Type := (Nat × List Value) ⊕ (Nat × Nat × (Nat → Int32))
abbrev dn_S : Type := List dn_C × Nat × Nat
/-- new (method, index: class), invokespecial (kind 0 Object, 1 a constructor, 2 of a nest mate; callee, entries), fields at the start by class, cells and slots at most by method -/
abbrev dn_T : Type := (Nat → Nat → Option Nat) × (Nat → Nat → Option (Nat × Nat × Nat)) × (Nat → List Value) × (Nat → Nat) × (Nat → Nat)
def dn_NW (Z : dn_T) : Nat → Nat → Option Nat := Z.1
def dn_SP (Z : dn_T) : Nat → Nat → Option (Nat × Nat × Nat) := Z.2.1
def dn_DF (Z : dn_T) : Nat → List Value := Z.2.2.1
def dn_CM (Z : dn_T) : Nat → Nat := Z.2.2.2.1
def dn_SM (Z : dn_T) : Nat → Nat := Z.2.2.2.2
def dn_ty (tyC : Nat → Nat → FieldType) (ci k : Nat) (v : Value) : Bool := match tyC ci k, v with
  | .int, .int _ => true
  | .boolean, .int x => decide (x = 0)
  | .object _, .ref _ => true
  | .array _, .ref _ => true
  | _, _ => false
def dn_at : ArrayType → Option Nat
  | .int => some 0
  | .byte => some 1
  | .boolean => some 2
  | .long => some 3
  | _ => none
def dn_step {ρ : Type} (G : en_G) (Z : dn_T) (tyC : Nat → Nat → FieldType) (mi pc : Nat) (i : Instr) (L : en_L) (st : List Value) (S : dn_S) (k : Nat → en_L → List Value → dn_S → Option ρ) (call : Nat → List Value → dn_S → Option dn_S) (fin : dn_S → Option ρ) : Option ρ := match i with
  | .iconst n => k (pc + 1) L (.int (Int32.ofInt n) :: st) S
  | .bipush n => k (pc + 2) L (.int ((Int8.ofInt n).toInt32) :: st) S
  | .sipush n => k (pc + 3) L (.int ((Int16.ofInt n).toInt32) :: st) S
  | .aload_n j => match L[(j : Nat)]? with
    | some (some (.ref x)) => k (pc + 1) L (.ref x :: st) S
    | _ => none
  | .aload j => match L[j]? with
    | some (some (.ref x)) => k (pc + 2) L (.ref x :: st) S
    | _ => none
  | .iload_n j => match L[(j : Nat)]? with
    | some (some (.int x)) => k (pc + 1) L (.int x :: st) S
    | _ => none
  | .istore_n j => match st with
    | .int x :: r => if (j : Nat) < L.length then k (pc + 1) (en_set L j (some (.int x))) r S else none
    | _ => none
  | .istore j => match st with
    | .int x :: r => if j < L.length then k (pc + 2) (en_set L j (some (.int x))) r S else none
    | _ => none
  | .astore_n j => match st with
    | .ref x :: r => if (j : Nat) < L.length then k (pc + 1) (en_set L j (some (.ref x))) r S else none
    | _ => none
  | .iinc j n => match L[j]? with
    | some (some (.int x)) => k (pc + 3) (en_set L j (some (.int (x + Int32.ofInt n)))) st S
    | _ => none
  | .dup => match st with
    | .ref x :: r => k (pc + 1) L (.ref x :: .ref x :: r) S
    | _ => none
  | .goto off => k (en_tgt pc off) L st S
  | .if_icmp .ge off => match st with
    | .int y :: .int x :: r => if y ≤ x then k (en_tgt pc off) L r S else k (pc + 3) L r S
    | _ => none
  | .new idx => match dn_NW Z mi idx with
    | some ci => if S.1.length < 1000 ∧ S.2.1 + 1 ≤ dn_CM Z mi ∧ S.2.2 + (dn_DF Z ci).length ≤ dn_SM Z mi then k (pc + 3) L (.ref S.1.length :: st) (S.1 ++ [.inl (ci, dn_DF Z ci)], S.2.1 + 1, S.2.2 + (dn_DF Z ci).length) else none
    | none => none
  | .newarray t => match dn_at t, st with
    | some q, .int n :: r => if S.1.length < 1000 ∧ ¬ n < 0 ∧ n.toNatClampNeg ≤ 10000 ∧ S.2.1 + 1 ≤ dn_CM Z mi ∧ S.2.2 + n.toNatClampNeg ≤ dn_SM Z mi then k (pc + 2) L (.ref S.1.length :: r) (S.1 ++ [.inr (q, n.toNatClampNeg, fun _ => 0)], S.2.1 + 1, S.2.2 + n.toNatClampNeg) else none
    | _, _ => none
  | .putfield idx => match en_FD G mi idx, st with
    | some (ci, f), v :: .ref p :: r => (match S.1[p]? with
      | some (.inl (c, fs)) => if c = ci ∧ f < fs.length ∧ dn_ty tyC ci f v = true then k (pc + 3) L r (S.1.set p (.inl (ci, fs.set f v)), S.2) else none
      | _ => none)
    | _, _ => none
  | .getfield idx => match en_FD G mi idx, st with
    | some (ci, f), .ref p :: r => (match S.1[p]? with
      | some (.inl (c, fs)) => if c = ci then (match fs[f]? with
        | some (.ref x) => k (pc + 3) L (.ref x :: r) S
        | _ => none) else none
      | _ => none)
    | _, _ => none
  | .iastore => match st with
    | .int x :: .int j :: .ref p :: r => (match S.1[p]? with
      | some (.inr (0, n, f)) => if en_in j n then k (pc + 1) L r (S.1.set p (.inr (0, n, upd f j.toNatClampNeg x)), S.2) else none
      | _ => none)
    | _ => none
  | .invokespecial idx => match dn_SP Z mi idx with
    | some (0, _, _) => match st with
      | .ref _ :: r => if en_small r = true then k (pc + 3) L r S else none
      | _ => none
    | some (q, y, n) => if (q = 1 ∨ q = 2) ∧ n ≤ st.length ∧ en_small (st.drop n) = true ∧ en_one (st.take n) = true ∧ S.2.1 + dn_CM Z y ≤ dn_CM Z mi ∧ S.2.2 + dn_SM Z y ≤ dn_SM Z mi then (match (st.take n).reverse with
      | .ref p0 :: as => (match call y (.ref p0 :: as) (S.1, 0, 0) with
        | some S' => k (pc + 3) L (st.drop n) (S'.1, S.2.1 + dn_CM Z y, S.2.2 + dn_SM Z y)
        | none => none)
      | _ => none) else none
    | none => none
  | .return_ => match st with
    | [] => fin S
    | _ => none
  | _ => none
def dn_run (G : en_G) (P : en_P) (ML : Nat → Nat) (Z : dn_T) (tyC : Nat → Nat → FieldType) : Nat → Nat → Nat → en_L → List Value → dn_S → Option dn_S
  | 0, _, _, _, _, _ => none
  | n + 1, mi, pc, L, st, S => match en_get (P mi) pc with
    | none => none
    | some (i, _) => dn_step G Z tyC mi pc i L st S (dn_run G P ML Z tyC n mi) (fun y as S' => dn_run G P ML Z tyC n y 0 (en_ent (ML y) as) [] S') some
/-- the law's beginning: up to the pc stop -/
def dn_upto (G : en_G) (P : en_P) (ML : Nat → Nat) (Z : dn_T) (tyC : Nat → Nat → FieldType) (mi stop : Nat) : Nat → Nat → en_L → List Value → dn_S → Option (en_L × List Value × dn_S)
  | 0, _, _, _, _ => none
  | n + 1, pc, L, st, S => if pc = stop then some (L, st, S) else match en_get (P mi) pc with
    | none => none
    | some (i, _) => dn_step G Z tyC mi pc i L st S (dn_upto G P ML Z tyC mi stop n) (fun y as S' => dn_run G P ML Z tyC 2000 y 0 (en_ent (ML y) as) [] S') (fun _ => none)
def dn_len : Instr → Nat
  | .newarray _ => 2
  | .invokespecial _ => 3
  | i => en_len i
def dn_chk (cc : ByteArray) (pc : Nat) (i : Instr) : Bool := match decode cc pc with
  | .ok (j, n) => decide (j = i) && (n == dn_len i) && en_off pc i
  | _ => false
theorem dn_chk_spec {cc : ByteArray} {pc : Nat} {i : Instr} (h : dn_chk cc pc i = true) : decode cc pc = .ok (i, dn_len i) ∧ en_off pc i = true := by
  unfold dn_chk at h
  split at h
  · next j n hj =>
    simp only [Bool.and_eq_true, decide_eq_true_eq, beq_iff_eq] at h
    obtain ⟨⟨rfl, rfl⟩, h3⟩ := h
    exact ⟨hj, h3⟩
  · cases h
def dn_cell (ad : Nat → Nat) (cA : Nat → ClassId) : dn_C → va_E
  | .inl (ci, fs) => .inr (ci, fs.map (en_cv ad))
  | .inr (q, n, f) => if q = 3 then .inl (cA 3, n, .inr (.inl (fun _ => 0))) else .inl (cA q, n, .inl f)
def dn_ws (ad : Nat → Nat) (cA : Nat → ClassId) (cs : List dn_C) : va_W := cs.zipIdx.map (fun q => (ad q.2, dn_cell ad cA q.1))
theorem dn_ws_at {ad : Nat → Nat} {cA : Nat → ClassId} {cs : List dn_C} {p : Nat} {x : dn_C} (h : cs[p]? = some x) : (dn_ws ad cA cs)[p]? = some (ad p, dn_cell ad cA x) := by
  simp [dn_ws, List.getElem?_map, List.getElem?_zipIdx, h]
theorem dn_ws_len {ad : Nat → Nat} {cA : Nat → ClassId} {cs : List dn_C} : (dn_ws ad cA cs).length = cs.length := by simp [dn_ws]
theorem dn_ws_app {ad : Nat → Nat} {cA : Nat → ClassId} {cs : List dn_C} {x : dn_C} : dn_ws ad cA (cs ++ [x]) = dn_ws ad cA cs ++ [(ad cs.length, dn_cell ad cA x)] := by
  simp [dn_ws, List.zipIdx_append]
theorem dn_ws_set {ad : Nat → Nat} {cA : Nat → ClassId} {cs : List dn_C} {p : Nat} {x : dn_C} : dn_ws ad cA (cs.set p x) = (dn_ws ad cA cs).set p (ad p, dn_cell ad cA x) := by
  apply List.ext_getElem?
  intro q
  by_cases hq : q = p
  · subst hq
    by_cases hl : q < cs.length
    · rw [dn_ws_at (List.getElem?_set_self hl), List.getElem?_set_self (by rw [dn_ws_len]; exact hl)]
    · rw [List.getElem?_eq_none (by rw [dn_ws_len, List.length_set]; omega), List.getElem?_eq_none (by rw [List.length_set, dn_ws_len]; omega)]
  · rw [List.getElem?_set_ne (Ne.symm hq)]
    cases hc : cs[q]? with
    | none =>
      have hl : cs.length ≤ q := by simpa using hc
      rw [List.getElem?_eq_none (by rw [dn_ws_len, List.length_set]; omega), List.getElem?_eq_none (by rw [dn_ws_len]; omega)]
    | some z => rw [dn_ws_at hc, dn_ws_at (by rw [List.getElem?_set_ne (Ne.symm hq)]; exact hc)]
theorem dn_D {base : Nat} {ad : Nat → Nat} {cA : Nat → ClassId} {A : Nat → Prop} (had : ∀ k, k < 1000 → ad k = base + k) (hA : ∀ q, base ≤ q → A q) {cs : List dn_C} (hl : cs.length ≤ 1000) : va_D A (dn_ws ad cA cs) := by
  have key : ∀ (k : Nat) (q : Nat × va_E), (dn_ws ad cA cs)[k]? = some q → q.1 = base + k := by
    intro k q hk
    cases hc : cs[k]? with
    | none =>
      have hl : cs.length ≤ k := by simpa using hc
      rw [List.getElem?_eq_none (by rw [dn_ws_len]; exact hl)] at hk
      cases hk
    | some z =>
      rw [dn_ws_at hc] at hk
      cases hk
      exact had k (Nat.lt_of_lt_of_le (List.getElem?_eq_some_iff.mp hc).1 hl)
  refine ⟨fun i j x y hx hy e => ?_, fun k q hk => ?_⟩
  · have a := key i x hx
    have b := key j y hy
    omega
  · rw [key k q hk]
    exact hA _ (Nat.le_add_right _ _)
/-- the world: the cells, and the heap ends behind them -/
def dn_P (base : Nat) (ad : Nat → Nat) (cA : Nat → ClassId) (D : va_G) (cl : List vw_C) (cs : List dn_C) (H : Heap) : Prop := H.size = base + cs.length ∧ cs.length ≤ 1000 ∧ va_P D cl (dn_ws ad cA cs) H
/-- what the tables say of the constructors -/
def dn_TF (G : en_G) (Z : dn_T) (TT : List Cond) (cl : List vw_C) (tyC : Nat → Nat → FieldType) (own : Nat → String) : Prop :=
  (∀ (ci : Nat) (C : String) (T : u_T) (N : Nat), cl[ci]? = some (C, T, N) → (∀ w ∈ u_ws C T N, w ∈ TT) ∧ (∀ k, k < N → parseFieldDescriptor (T k).2.2.1 = some (tyC ci k)) ∧ (∀ a, a < N → ∀ b, b < N → a ≠ b → (T a).2.1 ≠ (T b).2.1) ∧ (dn_DF Z ci).length = N ∧ (∀ k, k < N → defaultValue (tyC ci k) = vp_V (dn_DF Z ci) k) ∧ (∀ v ∈ dn_DF Z ci, ∀ q, v ≠ .ref q) ∧ (∀ k, k < N → (T k).1 = C) ∧ Cond.instantiable C N ∈ TT ∧ Cond.initialized C ∈ TT) ∧
  (∀ mi idx ci k, en_FD G mi idx = some (ci, k) → ∀ (C : String) (T : u_T) (N : Nat), cl[ci]? = some (C, T, N) → k < N ∧ Cond.fieldLink (own mi) idx (T k).1 (T k).2.1 (T k).2.2.1 ∈ TT) ∧
  (∀ mi idx ci, dn_NW Z mi idx = some ci → ∃ (C : String) (T : u_T) (N : Nat), cl[ci]? = some (C, T, N) ∧ Cond.classLink (own mi) idx C ∈ TT) ∧
  (Cond.arrayClass .int ∈ TT ∧ Cond.arrayClass .byte ∈ TT ∧ Cond.arrayClass .boolean ∈ TT ∧ Cond.arrayClass .long ∈ TT)
section DS
variable {p : Program} {l : Launch} {e : Env} {R : Room} {s : State} {m : MethodId} {args : Array Value} {below : List Frame} {meth : Method} {c : Code} {H : Heap} {locs : List Loc} {Q : State → Prop}
variable {ρ : Type} {G : en_G} {Z : dn_T} {base : Nat} {ad : Nat → Nat} {cA : Nat → ClassId} {D : va_G} {cl : List vw_C} {A : Nat → Prop} {TT : List Cond} {tyC : Nat → Nat → FieldType} {own : Nat → String} {cc : ByteArray} {nL mi pc : Nat} {ls : Array Slot} {L : en_L} {st : List Value} {S : dn_S} {k : Nat → en_L → List Value → dn_S → Option ρ} {call : Nat → List Value → dn_S → Option dn_S} {fin : dn_S → Option ρ} {out : ρ} {i : Instr}
set_option maxHeartbeats 4000000 in
theorem dn_sim1 (hT : dn_TF G Z TT cl tyC own) (hx : p.tables.exec = Jvm.exec) (hb : c.code = cc) (hown : s.vm.findClass (own mi) = some m.cls) (hts : ∀ w ∈ TT, w.before args s = true) (hK : va_K D cl (en_tys cA) s)
    (hin : (∃ idx, i = .putfield idx) → meth.name = "<init>") (hpc : ∀ ci f idx, i = .putfield idx → en_FD G mi idx = some (ci, f) → ∃ (C : String) (T : u_T) (N : Nat), cl[ci]? = some (C, T, N) ∧ C = own mi)
    (had : ∀ k, k < 1000 → ad k = base + k) (hA : ∀ q, base ≤ q → A q) (hbase : base ≤ s.heap.size) (hchk : dn_chk cc pc i = true) (hRc : R.cells = dn_CM Z mi) (hRs : R.slots = dn_SM Z mi)
    (h : dn_step G Z tyC mi pc i L st S k call fin = some out) (hl : en_lv ad ls nL L) (hP : dn_P base ad cA D cl S.1 H) (hS : va_S A s.heap H locs)
    (hS1 : S.2.1 ≤ dn_CM Z mi) (hS2 : S.2.2 ≤ dn_SM Z mi)
    (hk : ∀ pc' L' st' S' ls' H' locs', k pc' L' st' S' = some out → S'.2.1 ≤ dn_CM Z mi → S'.2.2 ≤ dn_SM Z mi → en_lv ad ls' nL L' → dn_P base ad cA D cl S'.1 H' → va_S A s.heap H' locs' → W p l e R s m args below meth c H' locs' S'.2.1 S'.2.2 Q (F0 m pc' ls' (st'.map (en_cv ad))))
    (hrest : (∃ idx, i = .invokespecial idx) ∨ i = .return_ → W p l e R s m args below meth c H locs S.2.1 S.2.2 Q (F0 m pc ls (st.map (en_cv ad)))) :
    W p l e R s m args below meth c H locs S.2.1 S.2.2 Q (F0 m pc ls (st.map (en_cv ad))) := by
  obtain ⟨hd, ho⟩ := dn_chk_spec hchk
  obtain ⟨tC, tF, tN, tA0, tA1, tA2, tA3⟩ := hT
  have go : ∀ pc' L' st', k pc' L' st' S = some out → ∀ ls', en_lv ad ls' nL L' → W p l e R s m args below meth c H locs S.2.1 S.2.2 Q (F0 m pc' ls' (st'.map (en_cv ad))) := fun pc' L' st' h1 ls' h3 => hk _ _ _ _ _ _ _ h1 hS1 hS2 h3 hP hS
  have hDD : va_D A (dn_ws ad cA S.1) := dn_D had hA hP.2.1
  cases i with
  | iconst n => exact lv_iconst hx hb hd rfl (go _ _ _ h _ hl)
  | bipush n => exact lv_bipush hx hb hd rfl (go _ _ _ h _ hl)
  | sipush n => exact lv_sipush hx hb hd rfl (go _ _ _ h _ hl)
  | aload_n j =>
    simp only [dn_step] at h
    split at h
    · next x hv => exact lv_aload_n hx hb hd rfl (hl.at hv) (go _ _ _ h _ hl)
    · cases h
  | aload j =>
    simp only [dn_step] at h
    split at h
    · next x hv => exact lv_aload hx hb hd (hl.at hv) (go _ _ _ h _ hl)
    · cases h
  | iload_n j =>
    simp only [dn_step] at h
    split at h
    · next x hv => exact lv_iload_n hx hb hd rfl (hl.at hv) (go _ _ _ h _ hl)
    · cases h
  | istore_n j =>
    simp only [dn_step] at h
    split at h
    · next x r =>
      split at h
      · next hj => exact lv_istore_n hx hb hd rfl hl.has (by rw [← hl.1]; exact hj) rfl (fun ls' h' => go _ _ _ h _ (en_lv.store hl.1 h' (by rw [← hl.1]; exact hj)))
      · cases h
    · cases h
  | istore j =>
    simp only [dn_step] at h
    split at h
    · next x r =>
      split at h
      · next hj => exact lv_istore hx hb hd hl.has (by rw [← hl.1]; exact hj) rfl (fun ls' h' => go _ _ _ h _ (en_lv.store hl.1 h' (by rw [← hl.1]; exact hj)))
      · cases h
    · cases h
  | astore_n j =>
    simp only [dn_step] at h
    split at h
    · next x r =>
      split at h
      · next hj => exact lv_astore_n hx hb hd rfl hl.has (by rw [← hl.1]; exact hj) rfl (fun ls' h' => go _ _ _ h _ (en_lv.store (v := .ref x) hl.1 h' (by rw [← hl.1]; exact hj)))
      · cases h
    · cases h
  | iinc j n =>
    simp only [dn_step] at h
    split at h
    · next x hv =>
      have hm : (j, Value.int x) ∈ en_prs ad L := en_prs_mem.mpr ⟨.int x, hv, rfl⟩
      obtain ⟨q, hq⟩ := List.getElem?_of_mem hm
      have hj : j < nL := by rw [← hl.1]; exact (List.getElem?_eq_some_iff.mp hv).1
      exact lv_iinc hx hb hd hl.has hq rfl hj rfl (fun ls' h' => go _ _ _ h _ (en_lv.store hl.1 h' hj))
    · cases h
  | dup =>
    simp only [dn_step] at h
    split at h
    · exact lv_dup hx hb hd rfl (go _ _ _ h _ hl)
    · cases h
  | goto off =>
    simp only [en_off, decide_eq_true_eq] at ho
    exact lv_goto hx hb hd (en_tgt_eq ho) (go _ _ _ h _ hl)
  | if_icmp b off =>
    simp only [en_off, decide_eq_true_eq] at ho
    cases b <;> simp only [dn_step] at h <;> try (cases h; done)
    split at h
    · next y x r =>
      refine lv_icmp_ge hx hb hd (en_tgt_eq ho) (fun z => ?_) (fun z => ?_)
      · rw [if_pos z] at h; exact go _ _ _ h _ hl
      · rw [if_neg z] at h; exact go _ _ _ h _ hl
    · cases h
  | new idx =>
    simp only [dn_step] at h
    split at h
    · next ci hci =>
      split at h
      · next hc =>
        obtain ⟨c1, c2, c3⟩ := hc
        obtain ⟨C, T, N, e1, e2⟩ := tN _ _ _ hci
        obtain ⟨t1, t2, t3, t4, t5, t6, t7, t8, t9⟩ := tC _ _ _ _ e1
        have hKn := hK.1 ci _ e1
        have hsz : H.size = ad S.1.length := by rw [had _ c1]; exact hP.1
        refine W.newcK (n := N) hx hb hown (hts _ e2) (hts _ t8) (hts _ t9) rfl hd (by rw [hRc]; exact c2) (by rw [hRs, ← t4]; exact c3) hKn.2.1 hsz fun H1 kC hkC f1 z1 o1 => ?_
        rw [← t4]
        refine hk _ _ _ _ ls H1 locs h c2 c3 hl ⟨?_, ?_, ?_⟩ ⟨Nat.le_trans hS.1 (by omega), fun x h1 h2 => (o1 x (Nat.lt_of_lt_of_le h1 (by rw [← hsz]; exact hS.1))).trans (hS.2.1 x h1 h2), hS.2.2⟩
        · rw [z1, had _ c1]
          simp
          omega
        · simp
          omega
        · show va_P D cl (dn_ws ad cA (S.1 ++ [.inl (ci, dn_DF Z ci)])) H1
          rw [dn_ws_app]
          refine va_P.app (hP.2.2.kept (fun k x hx9 => o1 x.1 (by rw [← hsz]; exact (hP.2.2 k x hx9).lt))) (fun k x hx9 => ?_)
          have hz : k < 1 := (List.getElem?_eq_some_iff.mp hx9).1
          rw [show k = 0 by omega] at hx9
          cases hx9
          have e9 : (dn_DF Z ci).map (en_cv ad) = dn_DF Z ci := by
            conv => rhs; rw [← List.map_id (dn_DF Z ci)]
            apply List.map_congr_left
            intro v hv
            cases v with
            | ref q => exact absurd rfl (t6 _ hv q)
            | _ => rfl
          refine ⟨_, e1, ?_⟩
          show t_OB (ad S.1.length) (D.1 ci) N (D.2 ci) H1 (vp_V ((dn_DF Z ci).map (en_cv ad)))
          rw [e9]
          exact (u_born (tyC ci) hts t1 hKn hkC f1 t2).to t5
      · cases h
    · cases h
  | newarray t =>
    simp only [dn_step] at h
    split at h
    · next q n r hq =>
      split at h
      · next hc =>
        obtain ⟨c1, c2, c3, c4, c5⟩ := hc
        have hsz : H.size = ad S.1.length := by rw [had _ c1]; exact hP.1
        have key : ∀ (ty : FieldType) (q0 : Nat), newarray.typeOf t = ty → Cond.arrayClass ty ∈ TT → (en_tys cA)[q0]? = some (cA q0, ty) → q0 = q → componentBytes ty ≤ 8 → (∀ t9 : FieldType, ty = t9 → va_RA s (cA q0) t9 → s.vm.findClass ("[" ++ t9.toString) = some (cA q0)) →
            dn_cell ad cA (.inr (q, n.toNatClampNeg, fun _ => 0)) = dn_cell ad cA (.inr (q, n.toNatClampNeg, fun _ => 0)) → (∀ c9 : ClassId, ∃ a9 : vp_A, dn_cell ad (fun _ => c9) (.inr (q, n.toNatClampNeg, fun _ => 0)) = .inl (c9, a9) ∧ vp_cell c9 a9 = arrV c9 n.toNatClampNeg (fun _ => defaultValue ty)) →
            W p l e R s m args below meth c H locs S.2.1 S.2.2 Q (F0 m pc ls (.int n :: r.map (en_cv ad))) := by
          intro ty q0 hty hin9 htys hq0 hcb hra _ hcell
          subst hty
          refine va_newaK hx hb (hts _ hin9) rfl hd rfl c2 rfl ?_ (by rw [hRc]; exact c4) (by rw [hRs]; exact c5) hsz fun H1 cA' f1 z1 o1 hAr hNm => ?_
          · exact Nat.le_trans (Nat.mul_le_mul c3 hcb) (by decide)
          have hcA : cA' = cA q0 := by
            have h9 := hra _ rfl (hK.2 q0 _ htys).2
            exact Option.some.inj (hNm.symm.trans h9)
          refine hk _ _ _ _ ls H1 locs h c4 c5 hl ⟨?_, ?_, ?_⟩ ⟨Nat.le_trans hS.1 (by omega), fun x h1 h2 => (o1 x (Nat.lt_of_lt_of_le h1 (by rw [← hsz]; exact hS.1))).trans (hS.2.1 x h1 h2), hS.2.2⟩
          · rw [z1, had _ c1]
            simp
            omega
          · simp
            omega
          · show va_P D cl (dn_ws ad cA (S.1 ++ [.inr (q, n.toNatClampNeg, fun _ => 0)])) H1
            rw [dn_ws_app]
            refine va_P.app (hP.2.2.kept (fun k x hx9 => o1 x.1 (by rw [← hsz]; exact (hP.2.2 k x hx9).lt))) (fun k x hx9 => ?_)
            have hz : k < 1 := (List.getElem?_eq_some_iff.mp hx9).1
            rw [show k = 0 by omega] at hx9
            cases hx9
            obtain ⟨a9, g1, g2⟩ := hcell (cA q0)
            have g3 : dn_cell ad cA (.inr (q, n.toNatClampNeg, fun _ => 0)) = .inl (cA q0, a9) := by
              rw [← g1]
              subst hq0
              simp only [dn_cell]
              by_cases h3 : q0 = 3
              · rw [if_pos h3, if_pos h3, h3]
              · rw [if_neg h3, if_neg h3]
            rw [g3]
            show H1[ad S.1.length]? = some (vp_cell _ _)
            rw [g2, ← hcA]
            exact f1
        cases t <;> simp only [dn_at] at hq <;> try (cases hq; done)
        · cases hq
          exact key .boolean 2 rfl tA2 rfl rfl (by decide) (fun t9 ht9 h9 => by subst ht9; exact h9) rfl (fun c9 => ⟨_, rfl, by rw [vp_cell_i]; rfl⟩)
        · cases hq
          exact key .byte 1 rfl tA1 rfl rfl (by decide) (fun t9 ht9 h9 => by subst ht9; exact h9) rfl (fun c9 => ⟨_, rfl, by rw [vp_cell_i]; rfl⟩)
        · cases hq
          exact key .int 0 rfl tA0 rfl rfl (by decide) (fun t9 ht9 h9 => by subst ht9; exact h9) rfl (fun c9 => ⟨_, rfl, by rw [vp_cell_i]; rfl⟩)
        · cases hq
          exact key .long 3 rfl tA3 rfl rfl (by decide) (fun t9 ht9 h9 => by subst ht9; exact h9) rfl (fun c9 => ⟨_, rfl, by rw [vp_cell_l]; rfl⟩)
      · cases h
    · cases h
  | putfield idx =>
    simp only [dn_step] at h
    split at h
    · next ci f v p0 r hf =>
      split at h
      · next c9 fs hs =>
        split at h
        · next hc =>
          obtain ⟨rfl, c2, c3⟩ := hc
          obtain ⟨C, T, N, e1, e2⟩ := hpc _ _ _ rfl hf
          obtain ⟨g1, g2⟩ := tF _ _ _ _ hf _ _ _ e1
          obtain ⟨t1, t2, t3, t4, t5, t6, t7, t8, t9⟩ := tC _ _ _ _ e1
          have hw : (dn_ws ad cA S.1)[p0]? = some (ad p0, .inr (c9, fs.map (en_cv ad))) := dn_ws_at hs
          have hlen : f < (fs.map (en_cv ad)).length := by rw [List.length_map]; exact c2
          have hfit : narrow (tyC c9 f) (en_cv ad v) = en_cv ad v ∧ fits (tyC c9 f) (en_cv ad v) = true := by
            unfold dn_ty at c3
            split at c3
            · next h9 => rw [h9]; exact ⟨rfl, rfl⟩
            · next h9 =>
              rw [h9]
              have := of_decide_eq_true c3
              subst this
              exact ⟨rfl, rfl⟩
            · next h9 => rw [h9]; exact ⟨rfl, rfl⟩
            · next h9 => rw [h9]; exact ⟨rfl, rfl⟩
            · cases c3
          have fin9 : ∀ (H1 : Heap) (locs1 : List Loc), H1.size = H.size → va_P D cl ((dn_ws ad cA S.1).set p0 (ad p0, .inr (c9, (fs.map (en_cv ad)).set f (en_cv ad v)))) H1 → va_S A s.heap H1 locs1 → W p l e R s m args below meth c H1 locs1 S.2.1 S.2.2 Q (F0 m (pc + 3) ls (r.map (en_cv ad))) := by
            intro H1 locs1 hz hP1 hSq
            refine hk (pc + 3) L r (S.1.set p0 (.inl (c9, fs.set f v)), S.2) ls H1 locs1 h hS1 hS2 hl ⟨?_, ?_, ?_⟩ hSq
            · rw [hz, List.length_set]
              exact hP.1
            · rw [List.length_set]
              exact hP.2.1
            · rw [dn_ws_set]
              have e9 : dn_cell ad cA (.inl (c9, fs.set f v)) = .inr (c9, (fs.map (en_cv ad)).set f (en_cv ad v)) := by
                simp only [dn_cell, List.map_set]
              rw [e9]
              exact hP1
          obtain ⟨r9, h1, cell, q1, q2, q3, q4⟩ := hP.2.2 p0 _ hw
          have hr : r9 = (C, T, N) := Option.some.inj (h1.symm.trans e1)
          subst hr
          have hKn := hK.1 c9 _ e1
          obtain ⟨hSl, hfc, kC, hkC, hkind⟩ := hKn
          obtain ⟨cf, kf, fi, fd, hi, hsl⟩ := hSl f g1
          have hap := va_apart (own := own mi) hts t1 (tyC c9) t2 t3 hK e1
          have hst := (u_facts hfc hkC (u_lays hts t1 g1) hi).1
          have done9 : ∀ (H1 : Heap), H1[ad p0]? = some (cell.setSlot (D.2 c9 f) (en_cv ad v)) → H1.size = H.size → (∀ q : Nat, q ≠ ad p0 → H1[q]? = H[q]?) → W p l e R s m args below meth c H1 (locs ++ [⟨ad p0, D.2 c9 f⟩]) S.2.1 S.2.2 Q (F0 m (pc + 3) ls (r.map (en_cv ad))) := by
            intro H1 f1 f2 f3
            refine fin9 H1 _ f2 (hP.2.2.set hDD hw ⟨_, e1, t_OB.to (V := updV (vp_V (fs.map (en_cv ad))) f (en_cv ad v)) ⟨_, f1, q2, q3, t_set q4 hap g1 (en_cv ad v)⟩ (fun j _ => vp_updV_set hlen (en_cv ad v) j)⟩ f3) (hS.put f2 f3 (hDD.2 p0 _ hw))
          cases hfin : (T f).2.2.2 with
          | false =>
            have hlay := hts _ (t1 _ (u_in_lay g1))
            unfold u_lay at hlay
            rw [if_neg (by rw [hfin]; decide)] at hlay
            have h6 := u_store hfc hkC hkind hlay hi (t2 f g1) hfit.1 hfit.2
            refine W.putK hx hb (f := fd) ⟨hown, hts _ g2, ⟨_, _, _, hi⟩, hst⟩ (by rw [q2]; exact h6) q1 q3 (by rw [hsl]; exact k2_hasslot (q4 f g1)) rfl rfl hd fun H' f1 f2 f3 => ?_
            rw [hsl] at f1 ⊢
            exact done9 H' f1 f2 f3
          | true =>
            have hlay := hts _ (t1 _ (u_in_lay g1))
            unfold u_lay at hlay
            rw [if_pos hfin] at hlay
            have hcf : m.cls = cf := by
              obtain ⟨_, _, c', _, _, _, -, -, hf', -, -, -, hown2, -⟩ := Cond.laysFinal_spec hlay
              have e3 : c' = cf := by have := hi.symm.trans hf'; simp at this; exact this.1.symm
              rw [t7 f g1, e2] at hown2
              rw [← e3]; exact Option.some.inj (hown.symm.trans hown2)
            have h6 := u_fits hfc hkC hkind (Or.inr hlay) hi (t2 f g1) hfit.1 hfit.2
            refine W.putFinK hx hb hown (hts _ g2) hi hst hcf (hin ⟨idx, rfl⟩) (by rw [q2]; exact h6) q1 q3 (by rw [hsl]; exact k2_hasslot (q4 f g1)) rfl rfl hd fun H' f1 f2 f3 => ?_
            rw [hsl] at f1 ⊢
            exact done9 H' f1 f2 f3
        · cases h
      · cases h
    · cases h
  | getfield idx =>
    simp only [dn_step] at h
    split at h
    · next ci f p0 r hf =>
      split at h
      · next c9 fs hs =>
        split at h
        · next hc =>
          subst hc
          split at h
          · next x hx9 =>
            have hw : (dn_ws ad cA S.1)[p0]? = some (ad p0, .inr (c9, fs.map (en_cv ad))) := dn_ws_at hs
            obtain ⟨r9, h1, -⟩ := hP.2.2 p0 _ hw
            obtain ⟨C, T, N⟩ := r9
            obtain ⟨g1, g2⟩ := tF _ _ _ _ hf _ _ _ h1
            obtain ⟨t1, -⟩ := tC _ _ _ _ h1
            exact va_get hx hb hts t1 hown hK hP.2.2 p0 hw h1 f g1 (hts _ g2) (fun _ h9 => h9) (v := .ref (ad x)) (by rw [List.getElem?_map, hx9]; rfl) hd (go _ _ _ h _ hl)
          · cases h
        · cases h
      · cases h
    · cases h
  | iastore =>
    simp only [dn_step] at h
    split at h
    · next x j p0 r =>
      split at h
      · next n f hs =>
        split at h
        · next hj =>
          have hw : (dn_ws ad cA S.1)[p0]? = some (ad p0, .inl (cA 0, n, .inl f)) := dn_ws_at hs
          have htys : (en_tys cA)[0]? = some (cA 0, FieldType.int) := rfl
          refine W.iast hx hb (hP.2.2 p0 _ hw) ((hK.2 0 _ htys).1 n (fun j => .int (f j))) (fun q => by cases q) (by show ¬ (j < 0 ∨ (arrV _ _ _).slots.size ≤ _); rw [arrV_size]; exact hj) rfl rfl hd fun H1 f1 f2 f3 => ?_
          refine hk (pc + 1) L r (S.1.set p0 (.inr (0, n, upd f j.toNatClampNeg x)), S.2) ls H1 _ h hS1 hS2 hl ⟨?_, ?_, ?_⟩ (hS.put f2 f3 (hDD.2 p0 _ hw))
          · rw [f2, List.length_set]
            exact hP.1
          · rw [List.length_set]
            exact hP.2.1
          · rw [dn_ws_set]
            refine hP.2.2.set hDD hw ?_ f3
            show H1[ad p0]? = some (vp_cell _ _)
            rw [f1]
            rw [vp_cell_i, vp_cell_i, arrV_store]
            congr 2
            funext q
            by_cases hq : q = j.toNatClampNeg
            · subst hq
              simp [updV, upd]
            · simp [updV, upd, hq]
        · cases h
      · cases h
    · cases h
  | invokespecial idx => exact hrest (Or.inl ⟨idx, rfl⟩)
  | return_ => exact hrest (Or.inr rfl)
  | _ => cases h
end DS
section DM
variable (l : Launch) (G : en_G) (P : en_P) (ML : Nat → Nat) (Z : dn_T) (base : Nat) (ad : Nat → Nat) (cA : Nat → ClassId) (D : va_G) (cl : List vw_C) (A : Nat → Prop) (TT : List Cond) (tyC : Nat → Nat → FieldType) (own : Nat → String) (yN : Nat → MethodName) (CD : Nat → ByteArray) (fr lo : Nat → Nat) (NX : State → Prop)
def dn_B (cs : List dn_C) (U : State) : Prop := dn_P base ad cA D cl cs U.heap ∧ va_K D cl (en_tys cA) U ∧ NX U
def dn_Qc (cs : List dn_C) : Array Value → State → Outcome → State → Prop := fun _ st oc t => oc = .returned none ∧ dn_P base ad cA D cl cs t.heap ∧ va_F A st t
def dn_rm (y : Nat) : Room := { frames := fr y, cells := dn_CM Z y, slots := dn_SM Z y, locals := lo y }
def dn_wd (y : Nat) : Cond := .code (yN y) (CD y) (ML y) none
def dn_Con (y : Nat) (as : List Value) (cs cs' : List dn_C) : Prop :=
  Met l (yN y) (dn_wd ML yN CD y :: TT) (dn_rm Z fr lo y) (va_Pc (as.map (en_cv ad)) (dn_B base ad cA D cl NX cs)) (dn_Qc base ad cA D cl A cs') (dn_CM Z y) (dn_SM Z y) A
def dn_PV (mi : Nat) : Prop := ∀ pc i m, en_get (P mi) pc = some (i, m) → dn_chk (CD mi) pc i = true ∧ ∀ idx, i = .putfield idx → ∀ ci f, en_FD G mi idx = some (ci, f) → ∃ (C : String) (T : u_T) (N : Nat), cl[ci]? = some (C, T, N) ∧ C = own mi
def dn_MV (y : Nat) : Prop := dn_wd ML yN CD y ∈ TT ∧ plainName (yN y).cls = true ∧ (yN y).cls = own y ∧ Cond.initialized (own y) ∈ TT ∧ ((yN y).cls ≠ "java/lang/invoke/MethodHandle" ∧ (yN y).cls ≠ "java/lang/invoke/VarHandle") ∧ 8 ≤ fr y ∧ 200 ≤ lo y ∧ (yN y).name = "<init>" ∧ dn_PV G P cl own CD y
def dn_CF (s : State) : Prop :=
  (∀ mi idx y n, dn_SP Z mi idx = some (0, y, n) → Cond.methodLink (own mi) idx Lib.objectInit ∈ TT ∧ Cond.instanceMethod Lib.objectInit ∈ TT ∧ Cond.code Lib.objectInit ⟨#[0xb1]⟩ 1 none ∈ TT) ∧
  (∀ mi idx q y n, dn_SP Z mi idx = some (q, y, n) → ¬ q = 0 → dn_MV G P ML cl TT own yN CD fr lo y ∧ (Cond.methodLink (own mi) idx (yN y) ∈ TT ∨ ∃ host, va_Nw (Cond.methodLinkNest (own mi) idx (yN y) host) s) ∧ Cond.instanceMethod (yN y) ∈ TT ∧ (parseMethodDescriptor (yN y).desc).map (fun d => d.parameters.length) = some (n - 1) ∧ 1 ≤ n ∧ n ≤ ML y ∧ fr y + 1 ≤ fr mi ∧ 8 + (ML y + 11) + lo y ≤ lo mi)
end DM
section DX
variable {l : Launch} {G : en_G} {P : en_P} {ML : Nat → Nat} {Z : dn_T} {base : Nat} {ad : Nat → Nat} {cA : Nat → ClassId} {D : va_G} {cl : List vw_C} {A : Nat → Prop} {TT : List Cond} {tyC : Nat → Nat → FieldType} {own : Nat → String} {yN : Nat → MethodName} {CD : Nat → ByteArray} {fr lo : Nat → Nat} {NX : State → Prop}
theorem dn_blind (hNm : ∀ u U : State, u.WarmedH U.vm → NX u → NX U) {vs : List Value} {cs : List dn_C} : FrameBlind (va_Pc vs (dn_B base ad cA D cl NX cs)) := by
  intro a U g mk q
  obtain ⟨q0, qP, qK, qN⟩ := q
  exact ⟨q0, qP, va_K.moved (u := U) (U := U.calling g mk a) (Vm.Alike.refl U.vm) qK, hNm U (U.calling g mk a) (State.WarmedH.refl U) qN⟩
theorem dn_after {p : Program} {e : Env} {R : Room} {s : State} {m : MethodId} {args : Array Value} {below : List Frame} {meth : Method} {c : Code} {H : Heap} {locs : List Loc} {cells slots : Nat} {Q : State → Prop} {mc ms pc : Nat} {ls : Array Slot} {st0 rest : List Value} {cs : List dn_C} {a : Array Value}
    (hr : va_Run p l e R s m args below meth c H locs cells slots mc ms (F0 m pc ls st0) rest (dn_Qc base ad cA D cl A cs a) A) (hS : va_S A s.heap H locs)
    (kr : ∀ H1 locs1, dn_P base ad cA D cl cs H1 → va_S A s.heap H1 locs1 → W p l e R s m args below meth c H1 locs1 (cells + mc) (slots + ms) Q (F0 m (pc + 3) ls rest)) :
    W p l e R s m args below meth c H locs cells slots Q (F0 m pc ls st0) := by
  intro T hT X
  obtain ⟨v, st₀, t, T', L, h0, X', hL, e1, e2, ⟨hv, hB, hF⟩, st⟩ := hr T hT X
  obtain ⟨k1, k2, k3⟩ := vx_keep (A1 := A) (free := A) h0 e1 hS (fun _ _ h => h) (fun _ h => h) hL hF
  cases hv
  obtain ⟨t2, a1, b1⟩ := kr T'.heap (locs ++ L) (by rw [e1]; exact hB) k3 T' rfl X'
  exact ⟨t2, st t2 a1, b1⟩
/-- a constructor's call, within a method -/
theorem dn_call {p : Program} {e : Env} {R : Room} {s : State} {m : MethodId} {args : Array Value} {below : List Frame} {meth : Method} {c : Code} {H : Heap} {locs : List Loc} {cells slots : Nat} {Q : State → Prop}
    (hNm : ∀ u U : State, u.WarmedH U.vm → NX u → NX U) (hNX : NX s) (hTg : ∀ w ∈ TT, (w.onTables && w.keeps) = true ∨ ∃ ty, w = .arrayClass ty) (hx : p.tables.exec = Jvm.exec) {mi : Nat} (hb : c.code = CD mi) (hml : c.maxLocals = ML mi) (hown : s.vm.findClass (own mi) = some m.cls) (hts : ∀ w ∈ TT, w.before args s = true) (hK : va_K D cl (en_tys cA) s) (hRf : R.frames = fr mi) (hRl : R.locals = lo mi)
    (hCF : dn_CF G P ML Z cl TT own yN CD fr lo s) {idx q y n pc : Nat} {ls : Array Slot} {st : List Value} {cs cs' : List dn_C} (hsp : dn_SP Z mi idx = some (q, y, n)) (hq : ¬ q = 0) (hn : n ≤ st.length) (hsm : en_small (st.drop n) = true) (hst : ∃ p0 as, (st.take n).reverse = .ref p0 :: as)
    (hcon : dn_Con l ML Z base ad cA D cl A TT yN CD fr lo NX y (st.take n).reverse cs cs') (hd : decode (CD mi) pc = .ok (.invokespecial idx, 3)) (hsz : ls.size = ML mi) (hP : dn_P base ad cA D cl cs H) (hS : va_S A s.heap H locs) (hc : cells + dn_CM Z y ≤ R.cells) (hs : slots + dn_SM Z y ≤ R.slots)
    (kr : ∀ H1 locs1, dn_P base ad cA D cl cs' H1 → va_S A s.heap H1 locs1 → W p l e R s m args below meth c H1 locs1 (cells + dn_CM Z y) (slots + dn_SM Z y) Q (F0 m (pc + 3) ls ((st.drop n).map (en_cv ad)))) :
    W p l e R s m args below meth c H locs cells slots Q (F0 m pc ls (st.map (en_cv ad))) := by
  obtain ⟨v1, v3, v4, v5, v6, v7, v8, v9⟩ := hCF.2 _ _ _ _ _ hsp hq
  obtain ⟨w1, w2, w3, w4, w5, w6, w7, w8, w9⟩ := v1
  obtain ⟨p0, as, has⟩ := hst
  have hasl : as.length = n - 1 := by
    have h1 : (Value.ref p0 :: as).length = n := by rw [← has, List.length_reverse, List.length_take]; omega
    simp at h1
    omega
  have hgd : GoodIn TT (dn_wd ML yN CD y :: TT) := by
    intro w hw
    rcases List.mem_cons.mp hw with rfl | hw
    · exact ⟨w1, hTg _ w1⟩
    · exact ⟨hw, hTg _ hw⟩
  have hstk : st.map (en_cv ad) = (as.map (en_cv ad)).reverse ++ .ref (ad p0) :: (st.drop n).map (en_cv ad) := by
    rw [en_map_rev (n := n), has]
    simp [en_cv]
  have hsm' : (((st.drop n).map (en_cv ad)).map fun v => v.category).sum ≤ 8 := by
    rw [en_cat_map]
    exact of_decide_eq_true hsm
  have hpre : ∀ U : State, U.heap = H → s.WarmedH U.vm → va_Pc (((st.take n).reverse).map (en_cv ad)) (dn_B base ad cA D cl NX cs) (Value.ref (ad p0) :: as.map (en_cv ad)).toArray U := by
    intro U hU hW
    refine ⟨by rw [has]; rfl, by rw [hU]; exact hP, va_K.moved hW.alike hK, hNm _ _ hW hNX⟩
  refine dn_after (mc := dn_CM Z y) (ms := dn_SM Z y) (a := (Value.ref (ad p0) :: as.map (en_cv ad)).toArray) (rest := (st.drop n).map (en_cv ad)) ?_ hS kr
  rcases v3 with v3 | ⟨host, v3⟩
  · have cb := cwI (R := R) (rm := dn_rm Z fr lo y) (mc := dn_CM Z y) (ms := dn_SM Z y) (n - 1) hts hgd rfl rfl rfl (by rw [w3]; exact hts _ w4) (hts _ v3) (hts _ v4) w8 ⟨w5.1, w5.2, v5⟩ ⟨by rw [hRf]; exact v8, by rw [hRl]; exact v9⟩
    exact va_runI (As := as.map (en_cv ad)) (b := ad p0) (rest := (st.drop n).map (en_cv ad)) ⟨hx, hb, hml, hown, hts⟩ hcon cb ⟨dn_blind hNm, hpre⟩ rfl (by rw [List.length_map]; exact hasl) hsz hstk (lv_room hsm') hd ⟨hc, hs⟩
  · have cb : va_CN R s args (own mi) idx (yN y) host (CD y) (ML y) none (dn_wd ML yN CD y :: TT) (dn_rm Z fr lo y) (dn_CM Z y) (dn_SM Z y) (n - 1) :=
      va_cnB (n - 1) hts hgd rfl rfl rfl v3 (by rw [w3]; exact hts _ w4) ⟨w5.1, w5.2, v5⟩ ⟨by rw [hRf]; exact v8, by rw [hRl]; exact v9⟩
    exact va_runIN (As := as.map (en_cv ad)) (b := ad p0) (rest := (st.drop n).map (en_cv ad)) ⟨hx, hb, hml, hown, hts⟩ hcon ⟨cb, w8, hts _ v4⟩ ⟨dn_blind hNm, hpre⟩ rfl (by rw [List.length_map]; exact hasl) hsz hstk (lv_room hsm') hd ⟨hc, hs⟩
set_option maxHeartbeats 4000000 in
theorem dn_main (hT : dn_TF G Z TT cl tyC own) (hTg : ∀ w ∈ TT, (w.onTables && w.keeps) = true ∨ ∃ ty, w = .arrayClass ty) (had : ∀ k, k < 1000 → ad k = base + k) (hA : ∀ q, base ≤ q → A q)
    (hNm : ∀ u U : State, u.WarmedH U.vm → NX u → NX U) (hCF0 : ∀ U : State, NX U → dn_CF G P ML Z cl TT own yN CD fr lo U) : ∀ (n y : Nat) (as : List Value) (cs : List dn_C) (S' : dn_S), dn_MV G P ML cl TT own yN CD fr lo y → en_one as = true → as.length ≤ ML y → dn_run G P ML Z tyC n y 0 (en_ent (ML y) as) [] (cs, 0, 0) = some S' → dn_Con l ML Z base ad cA D cl A TT yN CD fr lo NX y as cs S'.1 := by
  have body : ∀ (n mi : Nat), (∀ (y : Nat) (as : List Value) (cs : List dn_C) (S' : dn_S), dn_MV G P ML cl TT own yN CD fr lo y → en_one as = true → as.length ≤ ML y → ∀ n' < n, dn_run G P ML Z tyC n' y 0 (en_ent (ML y) as) [] (cs, 0, 0) = some S' → dn_Con l ML Z base ad cA D cl A TT yN CD fr lo NX y as cs S'.1) →
      dn_MV G P ML cl TT own yN CD fr lo mi → ∀ (n0 : Nat), n0 ≤ n → ∀ (pc : Nat) (L : en_L) (st : List Value) (S S' : dn_S), dn_run G P ML Z tyC n0 mi pc L st S = some S' → ∀ (p : Program) (e : Env) (R : Room) (s : State) (m : MethodId) (args : Array Value) (below : List Frame) (meth : Method) (c : Code) (H : Heap) (locs : List Loc) (ls : Array Slot),
      p.tables.exec = Jvm.exec → c.code = CD mi → c.maxLocals = ML mi → meth.sig.returnType = none → meth.locks = false → meth.name = "<init>" → s.vm.findClass (own mi) = some m.cls → (∀ w ∈ TT, w.before args s = true) → va_K D cl (en_tys cA) s → NX s → base ≤ s.heap.size → R.frames = fr mi → R.locals = lo mi → R.cells = dn_CM Z mi → R.slots = dn_SM Z mi → S.2.1 ≤ dn_CM Z mi → S.2.2 ≤ dn_SM Z mi →
      en_lv ad ls (ML mi) L → dn_P base ad cA D cl S.1 H → va_S A s.heap H locs → W p l e R s m args below meth c H locs S.2.1 S.2.2 (MQ below (dn_Qc base ad cA D cl A S'.1) args s (dn_CM Z mi) (dn_SM Z mi) A) (F0 m pc ls (st.map (en_cv ad))) := by
    intro n mi ihC hMV n0
    induction n0 with
    | zero => intro _ pc L st S S' h; cases h
    | succ n0 ih =>
      intro hn0 pc L st S S' h p e R s m args below meth c H locs ls hx hb hml hr hlocks hnm hown hts hK hNX hbs hRf hRl hRc hRs hS1 hS2 hl hP hS
      obtain ⟨mv1, mv2, mv3, mv4, mv5, mv6, mv7, mv8, mv9⟩ := id hMV
      unfold dn_run at h
      split at h
      · cases h
      · next i mk hget =>
        obtain ⟨hchk, hpf⟩ := mv9 _ _ _ hget
        obtain ⟨hd, ho⟩ := dn_chk_spec hchk
        have hsz : ls.size = ML mi := hl.2.1
        have step : ∀ pc' L' st' S'' ls' H' locs', dn_run G P ML Z tyC n0 mi pc' L' st' S'' = some S' → S''.2.1 ≤ dn_CM Z mi → S''.2.2 ≤ dn_SM Z mi → en_lv ad ls' (ML mi) L' → dn_P base ad cA D cl S''.1 H' → va_S A s.heap H' locs' → W p l e R s m args below meth c H' locs' S''.2.1 S''.2.2 (MQ below (dn_Qc base ad cA D cl A S'.1) args s (dn_CM Z mi) (dn_SM Z mi) A) (F0 m pc' ls' (st'.map (en_cv ad))) :=
          fun pc' L' st' S'' ls' H' locs' h1 h2 h3 h4 h5 h6 => ih (by omega) pc' L' st' S'' S' h1 p e R s m args below meth c H' locs' ls' hx hb hml hr hlocks hnm hown hts hK hNX hbs hRf hRl hRc hRs h2 h3 h4 h5 h6
        refine dn_sim1 hT hx hb hown hts hK (fun _ => hnm) (fun ci f idx e9 hf => hpf idx e9 ci f hf) had hA hbs hchk hRc hRs h hl hP hS hS1 hS2 (fun pc' L' st' S'' ls' H' locs' hk9 hb1 hb2 hl' hP' hS' => step pc' L' st' S'' ls' H' locs' hk9 hb1 hb2 hl' hP' hS') ?_
        rintro (⟨idx, rfl⟩ | rfl)
        · simp only [dn_step] at h
          split at h
          · next y nn hsp =>
            split at h
            · next p0 r =>
              split at h
              · next hsm =>
                obtain ⟨u1, u2, u3⟩ := (hCF0 s hNX).1 _ _ _ _ hsp
                refine W.objInit hx hb hown (hts _ u1) (hts _ u2) (hts _ u3) rfl (by rw [hml]; exact hsz) rfl hd (by rw [hRf]; omega) ?_ (step _ _ _ _ ls H locs h hS1 hS2 hl hP hS)
                have h8 : ((r.map (en_cv ad)).map fun v => v.category).sum ≤ 8 := by rw [en_cat_map]; exact of_decide_eq_true hsm
                show 2 * 0 + ((r.map (en_cv ad)).map fun v => v.category).sum + 12 ≤ R.locals
                rw [hRl]
                omega
              · cases h
            · cases h
          · next q y nn hno hsp =>
            split at h
            · next hc =>
              obtain ⟨c0, c1, c2, c3, c4, c5⟩ := hc
              split at h
              · next p0 as has =>
                split at h
                · next S2 hS2' =>
                  have hq : ¬ q = 0 := by omega
                  obtain ⟨v1, -, -, -, -, v7, -⟩ := (hCF0 s hNX).2 _ _ _ _ _ hsp hq
                  have hone : en_one (Value.ref p0 :: as) = true := by
                    rw [← has]
                    unfold en_one at c3 ⊢
                    rw [List.all_reverse]
                    exact c3
                  have hasl : (Value.ref p0 :: as).length = nn := by rw [← has, List.length_reverse, List.length_take]; omega
                  have hcon := ihC y (.ref p0 :: as) S.1 S2 v1 hone (by omega) n0 (by omega) hS2'
                  rw [← has] at hcon
                  exact dn_call hNm hNX hTg hx hb hml hown hts hK hRf hRl (hCF0 s hNX) hsp hq c1 c2 ⟨p0, as, has⟩ hcon hd hsz hP hS (by rw [hRc]; exact c4) (by rw [hRs]; exact c5) (fun H1 locs1 hP1 hS1' => step _ _ _ _ ls H1 locs1 h c4 c5 hl hP1 hS1')
                · cases h
              · cases h
            · cases h
          · cases h
        · simp only [dn_step] at h
          split at h
          · cases h
            refine W.widen hS1 hS2 ?_
            exact W.vret hx hb hr (fun t ht hW => ⟨rfl, by rw [ht]; exact hP, hS.F ht⟩) hS.2.2 hd hlocks
          · cases h
  intro n
  induction n using Nat.strongRecOn with
  | _ n ihn =>
    intro y as cs S' hMV hone hlen hrun
    obtain ⟨mv1, mv2, mv3, mv4, mv5, mv6, mv7, mv8, mv9⟩ := id hMV
    refine Met.ofW (cc := CD y) (maxL := ML y) (ret := none) mv2 rfl ?_
    intro p e s m args below meth c s₁ B hml hpc
    obtain ⟨rfl, hP, hK, hNX⟩ := hpc
    have hts := atoms_spec (ws := dn_wd ML yN CD y :: TT) B.pre
    have hown : s.vm.findClass (own y) = some m.cls := by rw [← mv3]; exact findClass_of_methodNamed B.named
    rw [lg_entry_eq]
    exact body n y (fun y as cs S' h1 h2 h3 n' hn' h4 => ihn n' hn' y as cs S' h1 h2 h3 h4) hMV n (Nat.le_refl n) 0 (en_ent (ML y) as) [] (cs, 0, 0) S' hrun p e _ s m _ below meth c s.heap [] _ B.exec B.bytes hml B.returns B.notSynchronized (by rw [← mv8]; exact (name_of_methodNamed B.named B.method).1) hown (fun w hw => hts w (List.mem_cons_of_mem _ hw)) hK hNX (by rw [hP.1]; omega) rfl rfl rfl rfl (Nat.zero_le _) (Nat.zero_le _) (en_entry hone hlen) hP va_S.rf
set_option maxHeartbeats 4000000 in
/-- the law's beginning -/
theorem dn_law (hT : dn_TF G Z TT cl tyC own) (hTg : ∀ w ∈ TT, (w.onTables && w.keeps) = true ∨ ∃ ty, w = .arrayClass ty) (had : ∀ k, k < 1000 → ad k = base + k) (hA : ∀ q, base ≤ q → A q)
    (hNm : ∀ u U : State, u.WarmedH U.vm → NX u → NX U) (hCF0 : ∀ U : State, NX U → dn_CF G P ML Z cl TT own yN CD fr lo U) {mi stop : Nat} (hPV : dn_PV G P cl own CD mi) {p : Program} {e : Env} {R : Room} {s : State} {m : MethodId} {args : Array Value} {below : List Frame} {meth : Method} {c : Code} {Q : State → Prop}
    (hx : p.tables.exec = Jvm.exec) (hb : c.code = CD mi) (hml : c.maxLocals = ML mi) (hown : s.vm.findClass (own mi) = some m.cls) (hts : ∀ w ∈ TT, w.before args s = true) (hK : va_K D cl (en_tys cA) s) (hNX : NX s) (hbs : base ≤ s.heap.size) (hRf : R.frames = fr mi) (hRl : R.locals = lo mi) (hfr : 8 ≤ fr mi) (hlo : 200 ≤ lo mi) (hRc : dn_CM Z mi = R.cells) (hRs : dn_SM Z mi = R.slots)
    (hnp : ∀ pc i mk, en_get (P mi) pc = some (i, mk) → ∀ idx, i ≠ .putfield idx) :
    ∀ (n pc : Nat) (L : en_L) (st : List Value) (S : dn_S) (out : en_L × List Value × dn_S), dn_upto G P ML Z tyC mi stop n pc L st S = some out → S.2.1 ≤ dn_CM Z mi → S.2.2 ≤ dn_SM Z mi → ∀ (H : Heap) (locs : List Loc) (ls : Array Slot), en_lv ad ls (ML mi) L → dn_P base ad cA D cl S.1 H → va_S A s.heap H locs →
    (∀ H' locs' ls', en_lv ad ls' (ML mi) out.1 → dn_P base ad cA D cl out.2.2.1 H' → va_S A s.heap H' locs' → W p l e R s m args below meth c H' locs' out.2.2.2.1 out.2.2.2.2 Q (F0 m stop ls' (out.2.1.map (en_cv ad)))) →
    W p l e R s m args below meth c H locs S.2.1 S.2.2 Q (F0 m pc ls (st.map (en_cv ad))) := by
  intro n
  induction n with
  | zero => intro pc L st S out h; cases h
  | succ n ih =>
    intro pc L st S out h hS1 hS2 H locs ls hl hP hS hfin
    unfold dn_upto at h
    split at h
    · next hpc =>
      subst hpc
      cases h
      exact hfin H locs ls hl hP hS
    · split at h
      · cases h
      · next i mk hget =>
        obtain ⟨hchk, hpf⟩ := hPV _ _ _ hget
        obtain ⟨hd, ho⟩ := dn_chk_spec hchk
        have hsz : ls.size = ML mi := hl.2.1
        refine dn_sim1 hT hx hb hown hts hK (fun ⟨idx, z⟩ => absurd z (hnp _ _ _ hget idx)) (fun ci f idx e9 hf => hpf idx e9 ci f hf) had hA hbs hchk hRc.symm hRs.symm h hl hP hS hS1 hS2 (fun pc' L' st' S'' ls' H' locs' hk9 hb1 hb2 hl' hP' hS' => ih pc' L' st' S'' out hk9 hb1 hb2 H' locs' ls' hl' hP' hS' hfin) ?_
        rintro (⟨idx, rfl⟩ | rfl)
        · simp only [dn_step] at h
          split at h
          · next y nn hsp =>
            split at h
            · next p0 r =>
              split at h
              · next hsm =>
                obtain ⟨u1, u2, u3⟩ := (hCF0 s hNX).1 _ _ _ _ hsp
                refine W.objInit hx hb hown (hts _ u1) (hts _ u2) (hts _ u3) rfl (by rw [hml]; exact hsz) rfl hd (by rw [hRf]; omega) ?_ (ih _ _ _ _ out h hS1 hS2 H locs ls hl hP hS hfin)
                have h8 : ((r.map (en_cv ad)).map fun v => v.category).sum ≤ 8 := by rw [en_cat_map]; exact of_decide_eq_true hsm
                show 2 * 0 + ((r.map (en_cv ad)).map fun v => v.category).sum + 12 ≤ R.locals
                rw [hRl]
                omega
              · cases h
            · cases h
          · next q y nn hno hsp =>
            split at h
            · next hc =>
              obtain ⟨c0, c1, c2, c3, c4, c5⟩ := hc
              split at h
              · next p0 as has =>
                split at h
                · next S2 hS2' =>
                  have hq : ¬ q = 0 := by omega
                  obtain ⟨v1, -, -, -, -, v7, -⟩ := (hCF0 s hNX).2 _ _ _ _ _ hsp hq
                  have hone : en_one (Value.ref p0 :: as) = true := by
                    rw [← has]
                    unfold en_one at c3 ⊢
                    rw [List.all_reverse]
                    exact c3
                  have hasl : (Value.ref p0 :: as).length = nn := by rw [← has, List.length_reverse, List.length_take]; omega
                  have hcon := dn_main (l := l) (cA := cA) (D := D) hT hTg had hA hNm hCF0 2000 y (.ref p0 :: as) S.1 S2 v1 hone (by omega) hS2'
                  rw [← has] at hcon
                  exact dn_call hNm hNX hTg hx hb hml hown hts hK hRf hRl (hCF0 s hNX) hsp hq c1 c2 ⟨p0, as, has⟩ hcon hd hsz hP hS (by rw [← hRc]; exact c4) (by rw [← hRs]; exact c5) (fun H1 locs1 hP1 hS1' => ih _ _ _ _ out h c4 c5 H1 locs1 ls hl hP1 hS1' hfin)
                · cases h
              · cases h
            · cases h
          · cases h
        · simp only [dn_step] at h
          split at h <;> cases h
end DX
end
section
/-! THROWS: an exception made of a text and thrown at once (begun from kit/laws/EXCEPTIONS: vx_ctorMadeS, vx_makeS; here the constructor's own index and bytes are free) -/
def ex_atoms (own : String) (ic : Nat) (X : String) (ix : Nat) (rx : ByteArray) : List Cond :=
  Bundle.throwableAtoms ++ Bundle.throwableSAtoms ++ Bundle.passSAtoms X "java/lang/RuntimeException" ix rx ++ Bundle.chainSAtoms "java/lang/RuntimeException" ["java/lang/Exception"] ++
  [.methodLink own ic (Bundle.initS X), .instantiable X 6, .castable X X, .selects X Bundle.tFill0 Bundle.tFill0, .selects X Bundle.tFill Bundle.tFill,
   .lays X Bundle.tN "cause" "Ljava/lang/Throwable;", .lays X Bundle.tN "stackTrace" Bundle.steD, .lays X Bundle.tN "suppressedExceptions" Bundle.listD, .lays X Bundle.tN "detailMessage" "Ljava/lang/String;",
   .isRef (.static Bundle.tN "UNASSIGNED_STACK" Bundle.steD), .isRef (.static Bundle.tN "SUPPRESSED_SENTINEL" Bundle.listD),
   .fieldLink Bundle.tN 198 Bundle.tN "backtrace" "Ljava/lang/Object;", .lays Bundle.tN Bundle.tN "backtrace" "Ljava/lang/Object;", .lays X Bundle.tN "backtrace" "Ljava/lang/Object;"]
section XK
variable {p : Program} {l : Launch} {e : Env} {R : Room} {s : State} {m₀ : MethodId} {args : Array Value} {below : List Frame} {meth : Method} {c : Code} {W : State} {locs : List Loc} {cells slots : Nat}
set_option maxHeartbeats 1000000 in
theorem ex_made (X : Stand p l e R s m₀ args below meth c W locs cells slots) (hexec : p.tables.exec = Jvm.exec) (htr : e.platform.stackTraces = false) {own cls : String} {ic ix : Nat} {rx : ByteArray}
    (hown : s.vm.findClass own = some m₀.cls) (hcls : Bundle.fit cls = true) (x0 : decode rx 0 = .ok (.aload_n 0, 1)) (x1 : decode rx 1 = .ok (.aload_n 1, 1)) (x2 : decode rx 2 = .ok (.invokespecial ix, 3)) (x5 : decode rx 5 = .ok (.return_, 1))
    (h : ∀ a ∈ ex_atoms own ic cls ix rx, a.before args s = true)
    (hlocs : ∀ x ∈ locs, ∀ cell, s.heap[x.base]? = some cell → cell.vm.isStatics = false)
    {a : Addr} {cX : ClassId} {kX : Class} (hfoundX : s.vm.findClass cls = some cX) (hkX : s.vm.classes[cX]? = some kX) (hcell : W.heap[a]? = some (freshCell cX kX)) (hnew : s.heap.size ≤ a)
    {msg : Value} (hmsg : msg.isRef = true)
    {g : JFrame} (hg : g.method = m₀) (hsize : g.locals.size = c.maxLocals) {rest : List Value} (hstack : g.stack = msg :: .ref a :: .ref a :: rest)
    (hd6 : decode c.code g.pc = .ok (.invokespecial ic, 3))
    (hRframes : 5 < R.frames) (hRlocals : 2 * g.monitorRoom + ((Value.ref a :: rest).map fun v => v.category).sum + (81) ≤ R.locals) :
    ∃ (V : State) (ce : Cell) (L : List Loc), Stand p l e R s m₀ args below meth c (V.setCell a ce) (locs ++ L) cells slots ∧ (∀ y ∈ L, y.base = a) ∧ a < V.heap.size ∧ ce.cls = cX ∧ ce.vm = .none ∧
      ∀ target, Steps p.tables e below ((V.setCell a ce).setTop { g with stack := .ref a :: rest, pc := g.pc + 3 }) target → Steps p.tables e below (W.setTop g) target := by
  have howns : e.platform.frameOwnsMonitors = true := by rw [X.admits.platform]
  have hfin : e.platform.finalization = false := by rw [X.admits.platform]
  have hpl : e.platform.magicAccessors = ({} : Platform).magicAccessors := by rw [X.admits.platform]
  have a' : ∀ x, x ∈ ex_atoms own ic cls ix rx → x.holds args s none s [] = true := fun x hx => h x hx
  obtain ⟨T, Z0, L, -, Y⟩ := ThrowableC.of_atoms (args := args) howns hfin hpl (fun x hx => h x (by simp [ex_atoms, hx]))
  obtain ⟨Z, M, LZ, LM, hnZ⟩ := Init0T.ofS_atoms (args := args) hpl L Y (fun x hx => h x (by simp [ex_atoms, hx]))
  obtain ⟨P1, L1, hP1m, hs1⟩ := PassC.ofS_atoms (args := args) (s := s) hpl (X := cls) (Y := "java/lang/RuntimeException") (Bundle.fit_spec hcls).1 (by decide) x0 x1 x2 x5 (fun x hx => h x (by simp [ex_atoms, hx]))
  obtain ⟨P2, Ps2, hlen2, L2, hL2, hm2, hsup2, hpass2⟩ := Bundle.chainS (args := args) hpl hnZ ["java/lang/Exception"] "java/lang/RuntimeException" (by decide +kernel) (by decide +kernel) (fun x hx => h x (by simp [ex_atoms, hx]))
  obtain ⟨Ps, hPs⟩ : ∃ z, z = P2 :: Ps2 := ⟨_, rfl⟩
  have hlen : Ps.length = 2 := by rw [hPs, List.length_cons, hlen2]; rfl
  have hL : ∀ P, P ∈ Ps → P.LinksS e.platform s := by
    intro Q hQ
    rw [hPs] at hQ
    rcases List.mem_cons.mp hQ with rfl | hQ
    · exact L2
    · exact hL2 Q hQ
  have hlink1 : P1.sup = firstOf (Z.m T.toThrowableT) (Ps.map (·.toPassT)) := by
    rw [hPs]
    exact Option.some.inj (hs1.symm.trans hm2)
  have hlink : PassesOn (Z.m T.toThrowableT) (Ps.map (·.toPassT)) := by
    rw [hPs]
    exact ⟨hsup2, hpass2⟩
  have hfound : s.vm.findClass cls = some P1.m.cls := findClass_of_methodNamed hP1m
  cases Option.some.inj (hfoundX.symm.trans hfound)
  obtain ⟨c1, kX', hc1, hk, hord, -, -, hn6⟩ := Cond.instantiable_spec (a' (.instantiable cls 6) (by simp [ex_atoms]))
  cases Option.some.inj (hc1.symm.trans hfound)
  cases Option.some.inj (hkX.symm.trans hk)
  have hsel0 : selectMethod e.platform s.vm P1.m.cls T.fill0 = .method T.fill0 := by
    obtain ⟨c2, r2, m2, q1, q2, q3, q4, -⟩ := Cond.selects_spec (a' (.selects cls Bundle.tFill0 Bundle.tFill0) (by simp [ex_atoms]))
    cases Option.some.inj (q1.symm.trans hfound)
    cases Option.some.inj (q2.symm.trans (State.methodFound?_of_named Y.fill0 (by decide)))
    cases Option.some.inj (q3.symm.trans Y.fill0)
    rw [Launch.admits_selectMethod X.admits]; exact q4
  have hselF : selectMethod e.platform s.vm P1.m.cls T.fill = .method T.fill := by
    obtain ⟨c2, r2, m2, q1, q2, q3, q4, -⟩ := Cond.selects_spec (a' (.selects cls Bundle.tFill Bundle.tFill) (by simp [ex_atoms]))
    cases Option.some.inj (q1.symm.trans hfound)
    cases Option.some.inj (q2.symm.trans (State.methodFound?_of_named Y.fill (by decide)))
    cases Option.some.inj (q3.symm.trans Y.fill)
    rw [Launch.admits_selectMethod X.admits]; exact q4
  obtain ⟨cellS0, hcS0, hiss⟩ := Y.statics
  obtain ⟨u0, hu0⟩ := Cond.staticRefV Y.unassigned L.unassignedStatic L.statics hcS0 hiss (a' (.isRef (.static Bundle.tN "UNASSIGNED_STACK" Bundle.steD)) (by simp [ex_atoms]))
  obtain ⟨sen, hsen⟩ := Cond.staticRefV Y.sentinel L.sentinelStatic L.statics hcS0 hiss (a' (.isRef (.static Bundle.tN "SUPPRESSED_SENTINEL" Bundle.listD)) (by simp [ex_atoms]))
  obtain ⟨ci198, i198, fB, hk198, hg198, ha198, hsB, -, hnB, htB, hffB⟩ := Cond.ownField (t := .object "java/lang/Object") Y.found L.cls (by decide +kernel) (a' (.fieldLink Bundle.tN 198 Bundle.tN "backtrace" "Ljava/lang/Object;") (by simp [ex_atoms])) (a' (.lays Bundle.tN Bundle.tN "backtrace" "Ljava/lang/Object;") (by simp [ex_atoms])) e.platform hpl
  obtain ⟨cellS, hcS', heS, -, hkeep⟩ := X.same.2.2.2.2.2 T.aS cellS0 hcS0
  have hcellS : W.heap[T.aS]? = some cellS := hcS'
  have hout' : ∀ i, (⟨T.aS, i⟩ : Loc) ∉ locs := fun i hmem => by
    have := hlocs _ hmem cellS0 hcS0
    rw [hiss] at this; cases this
  have hknownS : cellS.vm ≠ .unknown := by
    rw [heS]; intro hu
    rw [show cellS0.vm = .unknown from hu] at hiss
    cases hiss
  have hneS : T.aS ≠ a := Nat.ne_of_lt (Nat.lt_of_lt_of_le (Array.getElem?_eq_some_iff.mp hcS0).1 hnew)
  obtain ⟨iM, hffM⟩ := Y.msg
  obtain ⟨tyC, dC, hdC, hdnC⟩ := Cond.laysAt hfound hk Y.cause (a' (.lays cls Bundle.tN "cause" "Ljava/lang/Throwable;") (by simp [ex_atoms]))
  obtain ⟨tyS, dS, hdS, hdnS⟩ := Cond.laysAt hfound hk Y.stack (a' (.lays cls Bundle.tN "stackTrace" Bundle.steD) (by simp [ex_atoms]))
  obtain ⟨tyP, dP, hdP, hdnP⟩ := Cond.laysAt hfound hk Y.supp (a' (.lays cls Bundle.tN "suppressedExceptions" Bundle.listD) (by simp [ex_atoms]))
  obtain ⟨tyM, dM, hdM, hdnM⟩ := Cond.laysAt hfound hk hffM (a' (.lays cls Bundle.tN "detailMessage" "Ljava/lang/String;") (by simp [ex_atoms]))
  obtain ⟨tyB, dB, hdB, hdnB⟩ := Cond.laysAt hfound hk hffB (a' (.lays cls Bundle.tN "backtrace" "Ljava/lang/Object;") (by simp [ex_atoms]))
  have bC := Cond.laysApart hdB hdC hdnB hdnC (by rw [hnB, Y.causeName]; decide)
  have bS := Cond.laysApart hdB hdS hdnB hdnS (by rw [hnB, Y.stackName]; decide)
  have bP := Cond.laysApart hdB hdP hdnB hdnP (by rw [hnB, Y.suppName]; decide)
  have hskip : SkipFacts T e.platform s (fun u => u) u0 ((preparedCellV T.toThrowableT (freshCell P1.m.cls kX) a u0 sen).withEntry W.cur) :=
    ⟨{ ci198 := ci198, i198 := i198, fBack := fB }, ⟨hk198, hg198, ha198, hsB⟩, by
      have := fresh_default (c := P1.m.cls) tyB
      rw [htB] at this
      simpa [preparedCellV, Cell.setSlot, Cell.withEntry, Array.getElem?_setIfInBounds, bC, bS, bP, bC.symm, bS.symm, bP.symm, defaultValue] using this, fun _ _ => rfl⟩
  obtain ⟨tm, methC, cdC, kC, vm₁, hnC, -, -, -, -, -, -, -, hW₁, st1⟩ := Steps.initColdS (tb := p.tables) (e := e) (below := below) (s := s) (U := W) X.here hexec X.warmed hpl hown (t := Bundle.initS cls) rfl rfl (Bundle.fit_spec hcls).2
    (a' (.methodLink own ic (Bundle.initS cls)) (by simp [ex_atoms])) (h (.instanceMethod (Bundle.initS cls)) (by simp [ex_atoms, Bundle.passSAtoms])) (bytes := rx) (maxL := 2) (h (.code (Bundle.initS cls) rx 2 none) (by simp [ex_atoms, Bundle.passSAtoms]))
    (f := g) hg (a := a) (msg := msg) (rest := .ref a :: rest) hstack hd6
  cases Option.some.inj (hnC.symm.trans hP1m)
  have X₁ := X.noted hW₁
  obtain ⟨vm₂, X₂, st2⟩ := X₁.ctorMessageOffV hexec (g := { g with stack := .ref a :: rest }) hg hsize T L Z LZ M LM (P1 :: Ps)
    (fun P hP => by rcases List.mem_cons.mp hP with rfl | hP; exact L1; exact hL P hP) ⟨hlink1, hlink⟩ (u0 := u0) (sen := sen) (self := a) hmsg (cell := freshCell P1.m.cls kX) (cellS := cellS)
    hcell (fun _ => by simp) (by simp) rfl rfl hsel0 hselF hcellS hneS hknownS (by rw [hkeep _ (hout' _)]; exact hu0) (by rw [hkeep _ (hout' _)]; exact hsen)
    (Takes.of_laid hk hord tyC (by rw [Y.causeType]; rfl)) (Takes.of_laid hk hord tyS (by rw [Y.stackType]; exact fits_refV_array _ u0)) (Takes.of_laid hk hord tyP (by rw [Y.suppType]; exact fits_refV_object _ sen))
    (Takes.of_laid hk hord tyM (by rw [Y.msgType]; exact fits_refV_object _ ⟨msg, hmsg⟩)) Y.objLocals hskip htr [] hd6
    (by simp only [List.length_cons, hlen]; omega) (by simp only [List.length_cons, hlen]; exact hRlocals)
  have hlt : a < ((W.setVm vm₁).setVm vm₂).heap.size := (Array.getElem?_eq_some_iff.mp hcell).1
  refine ⟨(W.setVm vm₁).setVm vm₂, _, _, X₂, fun y hy => ?_, hlt, rfl, rfl, fun target hwalk => st1 _ (fun acts => ?_)⟩
  · simp only [List.mem_cons, List.not_mem_nil, or_false] at hy
    rcases hy with rfl | rfl | rfl | rfl | rfl <;> rfl
  · rw [doInvoke_state]
    exact st2 _ hwalk
end XK
section XA
variable {p : Program} {l : Launch} {e : Env} {R : Room} {s : State} {m : MethodId} {args : Array Value} {below : List Frame} {meth : Method} {c : Code} {H : Heap} {locs : List Loc} {cells slots : Nat} {Q : State → Prop} {ls : Array Slot} {rest : List Value}
theorem vx_athrow {cc : ByteArray} {pc : Nat} (hexec : p.tables.exec = Jvm.exec) (hb : c.code = cc) {q : Addr} (hdg : decode cc pc = .ok (.athrow, 1)) (k : vx_W p l e R s m args below meth c H locs cells slots Q (F0 m pc ls rest) q) : W p l e R s m args below meth c H locs cells slots Q (F0 m pc ls (.ref q :: rest)) := by
  intro T hT X
  obtain ⟨t, st, hq⟩ := k T hT X
  refine ⟨t, ?_, hq⟩
  have hdg' : decode c.code pc = .ok (.athrow, 1) := by rw [hb]; exact hdg
  jvm_step X.here [X.here.top, hexec, hdg', athrow.wp_sem]
  exact st
end XA
section XB
variable {p : Program} {l : Launch} {e : Env} {R : Room} {s : State} {m : MethodId} {args : Array Value} {below : List Frame} {meth : Method} {c : Code} {H : Heap} {locs : List Loc} {cells slots : Nat}
/-- a frame seen from a rebased start, seen from the first start again -/
theorem vx_back9 {T S : State} {R' : Room} {k n : Nat} (X : Stand p l e R s m args below meth c T locs cells slots) (Y : Stand p l e R' ((T.setVm s.vm).setFrames (.invoking m args :: below)) m args below meth c T [] 0 0) (Z : Stand p l e R' ((T.setVm s.vm).setFrames (.invoking m args :: below)) m args below meth c S [] k n) :
    Stand p l e R s m args below meth c S locs (cells + k) (slots + n) := by
  have hW0 : s.WarmedH ((T.setVm s.vm).setFrames (.invoking m args :: below)).vm := State.WarmedH.refl s
  refine { admits := X.admits, cas := X.cas, clock := X.clock, frames := X.frames, room := X.room, hears := X.hears, method := X.method, code := X.code, here := Z.here, tail := Z.tail, warmed := State.WarmedH.trans hW0 Z.warmed, limits := Z.limits.trans (Y.limits.symm.trans X.limits), bytes := Z.bytes.trans (Y.bytes.symm.trans X.bytes), same := ?_ }
  obtain ⟨e1, e2⟩ := Z.same
  rw [State.setFrames_setFrames] at e1
  have h2 : (T.setVm s.vm).sameButNew (S.setVm s.vm) [] k n := ⟨e1, e2⟩
  have h3 := X.same.trans h2
  rw [List.append_nil] at h3
  exact h3
end XB
section XT
variable {p : Program} {l : Launch} {e : Env} {R : Room} {s : State} {m : MethodId} {args : Array Value} {below : List Frame} {meth : Method} {c : Code} {H : Heap} {locs : List Loc} {cells slots : Nat} {ls : Array Slot} {rest : List Value} {Qc : Array Value → State → Outcome → State → Prop} {XC : String → State → State → Prop} {mc ms : Nat}
set_option maxHeartbeats 1000000 in
theorem ex_throw {cc : ByteArray} {pc : Nat} (hexec : p.tables.exec = Jvm.exec) (hb : c.code = cc) (hl : l.stackTraces = false) {own cls text : String} {ik is ic ix sa kw : Nat} {rx : ByteArray} {A : Nat → Prop}
    (hown : s.vm.findClass own = some m.cls) (hcls : Bundle.fit cls = true) (x0 : decode rx 0 = .ok (.aload_n 0, 1)) (x1 : decode rx 1 = .ok (.aload_n 1, 1)) (x2 : decode rx 2 = .ok (.invokespecial ix, 3)) (x5 : decode rx 5 = .ok (.return_, 1))
    (hk : (Cond.classLink own ik cls).before args s = true) (hini : (Cond.initialized cls).before args s = true) (hstr : vk_R own is text sa s) (hat : ∀ w ∈ (ex_atoms own ic cls ix rx).filter vx_no, w.before args s = true)
    (hgood : ∀ w ∈ Cond.classLink own ik cls :: Cond.initialized cls :: (ex_atoms own ic cls ix rx).filter vx_no, vx_ot w = true)
    (hU : vx_Zq Bundle.tN "UNASSIGNED_STACK" Bundle.steD A s s.heap) (hN : vx_Zq Bundle.tN "SUPPRESSED_SENTINEL" Bundle.listD A s s.heap) (hS : va_S A s.heap H locs) (hsize : ls.size = c.maxLocals)
    (d0 : decode cc pc = .ok (.new ik, 3)) (d3 : decode cc (pc + 3) = .ok (.dup, 1)) (d4 : (kw = 6 ∧ decode cc (pc + 4) = .ok (.ldc is, 2)) ∨ (kw = 7 ∧ decode cc (pc + 4) = .ok (.ldc_w is, 3))) (d6 : decode cc (pc + kw) = .ok (.invokespecial ic, 3)) (d9 : decode cc (pc + kw + 3) = .ok (.athrow, 1))
    (hout : ∀ x ∈ c.exceptionTable.toList, covers x (pc + kw + 3) = false)
    (hRframes : 5 < R.frames) (hRlocals : (rest.map fun v => v.category).sum + 82 ≤ R.locals) (hRcells : cells + 1 ≤ R.cells) (hRslots : slots + 6 ≤ R.slots) (hlocks : meth.locks = false)
    (hx : ∀ t : State, s.vm.Alike t.vm → H.size ≤ t.heap.size → (∀ q : Nat, q < H.size → t.heap[q]? = H[q]?) → XC cls s t)
    (hc : cells + 1 ≤ mc) (hs : slots + 6 ≤ ms) :
    W p l e R s m args below meth c H locs cells slots (vx_MQ below Qc XC args s mc ms A) (F0 m pc ls rest) := by
  intro T hT X
  subst hT
  have htr : e.platform.stackTraces = false := (show e.platform.stackTraces = l.stackTraces by rw [X.admits.platform]).trans hl
  have Y := vx_rebase X (R' := { frames := R.frames, locals := R.locals, cells := 1, slots := 6 }) (Nat.le_refl _) (Nat.le_refl _) hRcells hRslots
  obtain ⟨s', hA'⟩ : ∃ z, z = (T.setVm s.vm).setFrames (.invoking m args :: below) := ⟨_, rfl⟩
  rw [← hA'] at Y
  have hvm : s'.vm = s.vm := by rw [hA']; rfl
  have hhp : s'.heap = T.heap := by rw [hA']; rfl
  have hW0 : s.WarmedH s'.vm := by rw [hvm]; exact State.WarmedH.refl s
  have hat' : ∀ w ∈ (ex_atoms own ic cls ix rx).filter vx_no, w.before args s' = true := fun w hw => vx_ot_at hW0 hvm.symm (hgood w (List.mem_cons_of_mem _ (List.mem_cons_of_mem _ hw))) (hat w hw)
  have hk' : (Cond.classLink own ik cls).before args s' = true := vx_ot_at hW0 hvm.symm (hgood _ List.mem_cons_self) hk
  have hini' : (Cond.initialized cls).before args s' = true := vx_ot_at hW0 hvm.symm (hgood _ (List.mem_cons_of_mem _ List.mem_cons_self)) hini
  have hU' : vx_Zq Bundle.tN "UNASSIGNED_STACK" Bundle.steD A s' s'.heap := by rw [hhp]; exact vx_Zq.moved hW0.alike (hU.kept hS.2.1)
  have hN' : vx_Zq Bundle.tN "SUPPRESSED_SENTINEL" Bundle.listD A s' s'.heap := by rw [hhp]; exact vx_Zq.moved hW0.alike (hN.kept hS.2.1)
  have h : ∀ w ∈ ex_atoms own ic cls ix rx, w.before args s' = true := vx_own hat' (vx_isRefq hU'.1) (vx_isRefq hN'.1) hU'.2.word hN'.2.word
  have hown' : s'.vm.findClass own = some m.cls := by rw [hvm]; exact hown
  have hins : (Cond.instantiable cls 6).before args s' = true := h _ (by simp [ex_atoms])
  obtain ⟨vm₁, cX, kX, hfX, hkX, -, -, X₁, st1⟩ := Y.newCold hexec (own := own) (C := cls) (index := ik) (n := 6) hown' hk' hins hini'
    (g := F0 m pc ls rest) rfl (by rw [hb]; exact d0) (Nat.le_refl _) (Nat.le_refl _)
  generalize hT1 : (T.setVm vm₁).pushCell { cls := cX, slots := kX.instanceTypes.map defaultValue, vm := .none } = T1 at X₁ st1
  have hcat : (Value.ref T.heap.size).category = 1 := rfl
  have hcellA : T1.heap[T.heap.size]? = some (freshCell cX kX) := by rw [← hT1]; exact State.heap_pushCell_size _ _
  have d3' : decode c.code (pc + 3) = .ok (.dup, 1) := by rw [hb]; exact d3
  have hstr' : vk_R own is text sa s' := vk_R.warm hW0 hstr
  obtain ⟨V, ce, L, Z, hL, hlt, hcl9, hvm9, st⟩ := ex_made X₁ hexec htr (own := own) (cls := cls) (ic := ic) hown' hcls x0 x1 x2 x5 h (fun x hx => nomatch hx) hfX hkX hcellA (by rw [hhp]; exact Nat.le_refl _) (msg := .ref sa) rfl
    (g := { method := m, pc := pc + kw, locals := ls, stack := .ref sa :: .ref T.heap.size :: .ref T.heap.size :: rest, locked := none }) rfl hsize (rest := rest) rfl
    (by rw [hb]; exact d6) hRframes (by simp only [List.map_cons, List.sum_cons, hcat]; omega)
  have Z0 := Stand.forget (locs := []) Z (fun y hy => by rw [hL y hy, hhp]; exact Nat.le_refl _)
  obtain ⟨f1, f2⟩ := vx_frame Z0.same
  rw [hhp] at f1 f2
  have hcid : s.vm.findClass cls = some ce.cls := by
    rw [hcl9]
    rw [hvm] at hfX
    exact hfX
  have hh : (V.setCell T.heap.size ce).heap[T.heap.size]? = some ce := heapAt_setCell_self (s := V) ce hlt
  subst hA'
  have X5 := vx_back9 X Y Z0
  have X6 : Stand p l e R s m args below meth c (V.setCell T.heap.size ce) locs (cells + 1) (slots + 6) := { X5 with same := X5.same.mono (by omega) (by omega) }
  have hw : W p l e R s m args below meth c (V.setCell T.heap.size ce).heap locs (cells + 1) (slots + 6) (vx_MQ below Qc XC args s mc ms A) (F0 m (pc + kw + 3) ls (.ref T.heap.size :: rest)) :=
    vx_athrow hexec hb d9 (vx_out hout hlocks hh hvm9 hcid (fun t ht hal => hx t hal (by rw [ht]; exact f1) (fun q hq => by rw [ht]; exact f2 q hq (fun z hz => nomatch hz))) hS.2.2 hc hs)
  obtain ⟨t, a1, b1⟩ := hw _ rfl X6
  refine ⟨t, st1 _ ?_, b1⟩
  show Steps p.tables e below (T1.setTop { method := m, pc := pc + 3, locals := ls, stack := .ref T.heap.size :: rest, locked := none }) _
  jvm_step X₁.here [X₁.here.top, hexec, d3', Value.category]
  rcases d4 with ⟨rfl, d4⟩ | ⟨rfl, d4⟩
  · exact X₁.ldcString hexec (own := own) (text := text) (index := is) (a := sa) hown' hstr'.1 hstr'.2
      (g := { method := m, pc := pc + 4, locals := ls, stack := .ref T.heap.size :: .ref T.heap.size :: rest, locked := none }) rfl (by rw [hb]; exact d4) _ (st _ a1)
  · exact X₁.ldcStringW hexec (own := own) (text := text) (index := is) (a := sa) hown' hstr'.1 hstr'.2
      (g := { method := m, pc := pc + 4, locals := ls, stack := .ref T.heap.size :: .ref T.heap.size :: rest, locked := none }) rfl (by rw [hb]; exact d4) _ (st _ a1)
end XT
end
