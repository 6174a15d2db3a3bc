/-! STRINGS: contracts of the JDK's own methods over the Reader's literals -/
def js_S (adK adV : Nat → Nat) (A : Nat → Prop) (U : State) (H : Heap) : Prop :=
  ∀ i : Nat, i < 18 → va_O "java/lang/String" (adK i) A U H ∧ va_OF "java/lang/String" "coder" "B" (.int 0) (adK i) A U H ∧ va_OF "java/lang/String" "value" "[B" (.ref (adV i)) (adK i) A U H ∧ va_T .byte (adV i) (bb_SB i).length (fun j => .int ((bb_SB i).getD j 0)) A U H
def js_FX (adK adV : Nat → Nat) (A : Nat → Prop) (U : State) (H : Heap) : Prop := js_S adK adV A U H ∧ va_Z "java/lang/String" "COMPACT_STRINGS" "Z" (.int 1) A U H ∧ va_Zq "jdk/internal/util/Preconditions" "SIOOBE_FORMATTER" "Ljava/util/function/BiFunction;" A U H
theorem js_FX.moved {adK adV : Nat → Nat} {A : Nat → Prop} {u U : State} {H : Heap} (hvm : u.vm.Alike U.vm) (h : js_FX adK adV A u H) : js_FX adK adV A U H :=
  ⟨fun i hi => ⟨va_O.moved hvm (h.1 i hi).1, va_OF.moved hvm (h.1 i hi).2.1, va_OF.moved hvm (h.1 i hi).2.2.1, va_T.moved hvm (h.1 i hi).2.2.2⟩, va_Z.moved hvm h.2.1, va_Zq.moved hvm h.2.2⟩
theorem js_FX.kept {adK adV : Nat → Nat} {A : Nat → Prop} {U : State} {H H1 : Heap} (h : js_FX adK adV A U H) (hq : ∀ a : Nat, a < H.size → ¬ A a → H1[a]? = H[a]?) : js_FX adK adV A U H1 :=
  ⟨fun i hi => ⟨(h.1 i hi).1.kept hq, (h.1 i hi).2.1.kept hq, (h.1 i hi).2.2.1.kept hq, (h.1 i hi).2.2.2.kept hq⟩, h.2.1.kept hq, h.2.2.kept hq⟩
def js_Q (v : Option Value) : Array Value → State → Outcome → State → Prop := fun _ st o t => o = .returned v ∧ t.heap = st.heap
def js_C (l : Launch) (adK adV : Nat → Nat) (A : Nat → Prop) (y : MethodName) (cc : ByteArray) (maxL : Nat) (ret : Option FieldType) (f lo : Nat) (as : List Value) (v : Option Value) : Prop :=
  Met l y (Cond.code y cc maxL ret :: bb_T) { frames := f, cells := 0, slots := 0, locals := lo } (va_Pc as (fun U => js_FX adK adV A U U.heap)) (js_Q v) 0 0 (fun _ => False)
theorem js_blind {adK adV : Nat → Nat} {A : Nat → Prop} {as : List Value} : FrameBlind (va_Pc as (fun U => js_FX adK adV A U U.heap)) := fun a U g mk q => ⟨q.1, js_FX.moved (u := U) (U := U.calling g mk a) (Vm.Alike.refl U.vm) q.2⟩
theorem js_all : ∀ i, i < 18 → ((bb_SB i).length < 2 ^ 31 ∧ ∀ b ∈ bb_SB i, b.toInt8.toInt32 = b) := by decide +kernel
theorem js_wS : Cond.initialized "java/lang/String" ∈ bb_T := bi_spec (i := 128) (by decide +kernel)
theorem js_wL : Cond.initialized "java/lang/StringLatin1" ∈ bb_T := bi_spec (i := 129) (by decide +kernel)
theorem js_wP : Cond.initialized "jdk/internal/util/Preconditions" ∈ bb_T := bi_spec (i := 131) (by decide +kernel)
theorem js_wMax : Cond.initialized "java/lang/Math" ∈ bb_T ∧ Cond.static Lib.Math.max.name ∈ bb_T ∧ Cond.code Lib.Math.max.name Lib.Math.max.code 2 (some .int) ∈ bb_T := ⟨bi_spec (i := 127) (by decide +kernel), bi_spec (i := 543) (by decide +kernel), bi_spec (i := 544) (by decide +kernel)⟩
theorem js_wMin : Cond.initialized "java/lang/Math" ∈ bb_T ∧ Cond.static Lib.Math.min.name ∈ bb_T ∧ Cond.code Lib.Math.min.name Lib.Math.min.code 2 (some .int) ∈ bb_T := ⟨bi_spec (i := 127) (by decide +kernel), bi_spec (i := 546) (by decide +kernel), bi_spec (i := 547) (by decide +kernel)⟩
section JC
variable {p : Program} {l : Launch} {e : Env} {R : Room} {s : State} {m : MethodId} {args : Array Value} {below : List Frame} {meth : Method} {c : Code} {H : Heap} {locs : List Loc} {cells slots : Nat} {Q : State → Prop} {cc : ByteArray} {pc : Nat} {ls : Array Slot} {rest : List Value} {adK adV : Nat → Nat} {A : Nat → Prop}
theorem js_good {y : MethodName} {cy : ByteArray} {maxL : Nat} {ret : Option FieldType} (w1 : Cond.code y cy maxL ret ∈ bb_T) : GoodIn bb_T (Cond.code y cy maxL ret :: bb_T) := by
  intro w hw
  rcases List.mem_cons.mp hw with rfl | hw
  · exact ⟨w1, bb_T_good _ w1⟩
  · exact ⟨hw, bb_T_good _ hw⟩
theorem js_callS (hx : p.tables.exec = Jvm.exec) (hb : c.code = cc) (hml : c.maxLocals = ls.size) {own : String} {idx : Nat} {y : MethodName} {cy : ByteArray} {maxL f lo : Nat} {ret : Option FieldType} {As : List Value} {v : Option Value} (hown : s.vm.findClass own = some m.cls) (hts : ∀ w ∈ bb_T, w.before args s = true) (hF : js_FX adK adV A s s.heap) (hS : va_S A s.heap H locs)
    (hC : js_C l adK adV A y cy maxL ret f lo As v) (w1 : Cond.code y cy maxL ret ∈ bb_T) (w2 : Cond.initialized y.cls ∈ bb_T) (w3 : Cond.methodLink own idx y ∈ bb_T) (w4 : Cond.static y ∈ bb_T) {n : Nat} (hn : y.cls ≠ "java/lang/invoke/MethodHandle" ∧ y.cls ≠ "java/lang/invoke/VarHandle" ∧ (parseMethodDescriptor y.desc).map (fun d => d.parameters.length) = some n) (hAn : As.length = n)
    (hR : f + 1 ≤ R.frames ∧ 8 + (maxL + 11) + lo ≤ R.locals) (hcs : cells ≤ R.cells ∧ slots ≤ R.slots) (hsm : (rest.map fun v => v.category).sum ≤ 8) (hdg : decode cc pc = .ok (.invokestatic idx, 3)) {st0 : List Value} (hst : st0 = As.reverse ++ rest)
    (k : W p l e R s m args below meth c H locs cells slots Q (F0 m (pc + 3) ls (v.toList ++ rest))) : W p l e R s m args below meth c H locs cells slots Q (F0 m pc ls st0) := by
  have hr := va_runS (l := l) (e := e) (below := below) (meth := meth) (H := H) (locs := locs) (cells := cells) (slots := slots) (g := F0 m pc ls st0) (rest := rest) (As := As) ⟨hx, hb, hml, hown, hts⟩ hC ⟨callB_of n hts (js_good w1) rfl rfl rfl (hts _ w2) (hts _ w3) hn hR, hts _ w4⟩ ⟨js_blind, fun U hU hW => ⟨rfl, by show js_FX adK adV A U U.heap; rw [hU]; exact js_FX.moved hW.alike (hF.kept hS.2.1)⟩⟩ rfl hAn rfl hst (lv_room hsm) hdg ⟨hcs.1, hcs.2⟩
  intro T hT X
  obtain ⟨v', st₀, t, T', L, h0, X', hL, e1, e2, ⟨hv, hh⟩, st⟩ := hr T hT X
  have hL0 : L = [] := List.eq_nil_iff_forall_not_mem.mpr (fun q hq => hL q hq)
  subst hL0
  rw [List.append_nil] at X'
  cases hv
  obtain ⟨t2, a1, b1⟩ := k T' (e1.trans (hh.trans h0)) X'
  exact ⟨t2, st t2 a1, b1⟩
theorem js_callV (hx : p.tables.exec = Jvm.exec) (hb : c.code = cc) (hml : c.maxLocals = ls.size) {own : String} {idx i : Nat} {y : MethodName} {cy : ByteArray} {maxL f lo : Nat} {ret : Option FieldType} {As : List Value} {v : Option Value} (hown : s.vm.findClass own = some m.cls) (hts : ∀ w ∈ bb_T, w.before args s = true) (hF : js_FX adK adV A s s.heap) (hS : va_S A s.heap H locs) (hi : i < 18)
    (hC : js_C l adK adV A y cy maxL ret f lo (.ref (adK i) :: As) v) (w1 : Cond.code y cy maxL ret ∈ bb_T) (w2 : Cond.initialized y.cls ∈ bb_T) (w3 : Cond.methodLink own idx y ∈ bb_T) (w4 : Cond.instanceMethod y ∈ bb_T) (w5 : Cond.selects "java/lang/String" y y ∈ bb_T) {n : Nat} (hn : y.cls ≠ "java/lang/invoke/MethodHandle" ∧ y.cls ≠ "java/lang/invoke/VarHandle" ∧ (parseMethodDescriptor y.desc).map (fun d => d.parameters.length) = some n) (hAn : As.length = n)
    (hR : f + 1 ≤ R.frames ∧ 8 + (maxL + 11) + lo ≤ R.locals) (hcs : cells ≤ R.cells ∧ slots ≤ R.slots) (hsm : (rest.map fun v => v.category).sum ≤ 8) (hdg : decode cc pc = .ok (.invokevirtual idx, 3)) {st0 : List Value} (hst : st0 = As.reverse ++ .ref (adK i) :: rest)
    (k : W p l e R s m args below meth c H locs cells slots Q (F0 m (pc + 3) ls (v.toList ++ rest))) : W p l e R s m args below meth c H locs cells slots Q (F0 m pc ls st0) := by
  have hrec : ∃ cell : Cell, H[adK i]? = some cell ∧ cell.vm.isStatics = false ∧ s.vm.findClass "java/lang/String" = some cell.cls := by
    obtain ⟨cell, h1, h2, h3, -⟩ := (hF.1 i hi).1.kept hS.2.1
    exact ⟨cell, h1, h2, h3⟩
  have hr := va_runV (l := l) (e := e) (below := below) (meth := meth) (H := H) (locs := locs) (cells := cells) (slots := slots) (g := F0 m pc ls st0) (rest := rest) (As := As) (b := adK i) ⟨hx, hb, hml, hown, hts⟩ hC ⟨callB_of n hts (js_good w1) rfl rfl rfl (hts _ w2) (hts _ w3) hn hR, hts _ w4, hts _ w5⟩ ⟨js_blind, hrec, fun U hU hW => ⟨rfl, by show js_FX adK adV A U U.heap; rw [hU]; exact js_FX.moved hW.alike (hF.kept hS.2.1)⟩⟩ rfl hAn rfl hst (lv_room hsm) hdg ⟨hcs.1, hcs.2⟩
  intro T hT X
  obtain ⟨v', st₀, t, T', L, h0, X', hL, e1, e2, ⟨hv, hh⟩, st⟩ := hr T hT X
  have hL0 : L = [] := List.eq_nil_iff_forall_not_mem.mpr (fun q hq => hL q hq)
  subst hL0
  rw [List.append_nil] at X'
  cases hv
  obtain ⟨t2, a1, b1⟩ := k T' (e1.trans (hh.trans h0)) X'
  exact ⟨t2, st t2 a1, b1⟩
end JC
section JM
variable {l : Launch} {adK adV : Nat → Nat} {A : Nat → Prop}
theorem js_of {y : MethodName} {cc : ByteArray} {maxL : Nat} {ret : Option FieldType} {f lo : Nat} {as : List Value} {v : Option Value} (hy : plainName y.cls = true) (hlen : (lg_sl as).length ≤ maxL)
    (body : ∀ (p : Program) (e : Env) (s : State) (m : MethodId) (below : List Frame) (meth : Method) (c : Code) (ls : Array Slot), p.tables.exec = Jvm.exec → c.code = cc → meth.sig.returnType = ret → s.vm.findClass y.cls = some m.cls → (∀ w ∈ bb_T, w.before as.toArray s = true) → js_FX adK adV A s s.heap → meth.locks = false → c.maxLocals = ls.size → lv_has ls maxL (lv_args 0 as) → va_S A s.heap s.heap [] →
      W p l e { frames := f, cells := 0, slots := 0, locals := lo } s m as.toArray below meth c s.heap [] 0 0 (MQ below (js_Q v) as.toArray s 0 0 (fun _ => False)) (F0 m 0 ls [])) : js_C l adK adV A y cc maxL ret f lo as v := by
  refine Met.ofW (cc := cc) (maxL := maxL) (ret := ret) hy rfl ?_
  intro p e s m args below meth c s₁ B hml hv
  obtain ⟨rfl, hF⟩ := hv
  have hts0 := atoms_spec (ws := Cond.code y cc maxL ret :: bb_T) B.pre
  have hl := lv_entry as (n := maxL) hlen
  rw [lg_entry_eq]
  exact body p e s m below meth c _ B.exec B.bytes B.returns (findClass_of_methodNamed B.named) (fun w hw => hts0 w (List.mem_cons_of_mem _ hw)) hF B.notSynchronized (hml.trans hl.1.symm) hl va_S.rf
theorem js_isLatin1 {i : Nat} (hi : i < 18) : js_C l adK adV A ⟨"java/lang/String", "isLatin1", "()Z"⟩ prog_22_method_154_code 1 (some .boolean) 0 0 [.ref (adK i)] (some (.int 1)) := by
  refine js_of (by decide) (Nat.le_of_ble_eq_true rfl) ?_
  intro p e s m below meth c ls hx hb hr hown hts hF hlocks hml hl hS
  have hl : lv_has ls 1 [(0, .ref (adK i))] := hl
  refine va_gets (own := "java/lang/String") (ref := "java/lang/String") (index := 38) hx hb hF.2.1 hS hown (hts _ (bi_spec (i := 744) (by decide +kernel))) (fun _ h => h) (by decide +kernel) ?_
  refine lv_if_eq (off := 14) (tgt := 17) hx hb (by decide +kernel) (by decide) (fun z => absurd z (by decide)) (fun _ => ?_)
  refine lv_aload_n (k := 0) (i := 0) hx hb (by decide +kernel) rfl (lv_at hl 0 rfl) ?_
  refine vk_getf (own := "java/lang/String") (ref := "java/lang/String") (index := 15) hx hb (hF.1 i hi).2.1 hS hown (hts _ (bi_spec (i := 2138) (by decide +kernel))) (fun _ h => h) (by decide +kernel) ?_
  refine lv_if_ne (off := 7) (tgt := 17) hx hb (by decide +kernel) (by decide) (fun z => absurd rfl z) (fun _ => ?_)
  refine lv_iconst (n := 1) (v := 1) hx hb (by decide +kernel) rfl ?_
  refine lv_goto (off := 4) (tgt := 18) hx hb (by decide +kernel) (by decide) ?_
  exact W.zret (ty := .boolean) hx hb hr rfl (fun t ht _ => ⟨rfl, ht⟩) (fun q hq => nomatch hq) (by decide +kernel) hlocks
theorem js_coder {i : Nat} (hi : i < 18) : js_C l adK adV A ⟨"java/lang/String", "coder", "()B"⟩ prog_22_method_152_code 1 (some .byte) 0 0 [.ref (adK i)] (some (.int 0)) := by
  refine js_of (by decide) (Nat.le_of_ble_eq_true rfl) ?_
  intro p e s m below meth c ls hx hb hr hown hts hF hlocks hml hl hS
  have hl : lv_has ls 1 [(0, .ref (adK i))] := hl
  refine va_gets (own := "java/lang/String") (ref := "java/lang/String") (index := 38) hx hb hF.2.1 hS hown (hts _ (bi_spec (i := 744) (by decide +kernel))) (fun _ h => h) (by decide +kernel) ?_
  refine lv_if_eq (off := 10) (tgt := 13) hx hb (by decide +kernel) (by decide) (fun z => absurd z (by decide)) (fun _ => ?_)
  refine lv_aload_n (k := 0) (i := 0) hx hb (by decide +kernel) rfl (lv_at hl 0 rfl) ?_
  refine vk_getf (own := "java/lang/String") (ref := "java/lang/String") (index := 15) hx hb (hF.1 i hi).2.1 hS hown (hts _ (bi_spec (i := 2138) (by decide +kernel))) (fun _ h => h) (by decide +kernel) ?_
  refine lv_goto (off := 4) (tgt := 14) hx hb (by decide +kernel) (by decide) ?_
  exact W.zret (ty := .byte) hx hb hr rfl (fun t ht _ => ⟨rfl, ht⟩) (fun q hq => nomatch hq) (by decide +kernel) hlocks
theorem js_length {i : Nat} (hi : i < 18) : js_C l adK adV A ⟨"java/lang/String", "length", "()I"⟩ prog_22_method_54_code 1 (some .int) 1 20 [.ref (adK i)] (some (.int (nI (bb_SB i).length))) := by
  refine js_of (by decide) (Nat.le_of_ble_eq_true rfl) ?_
  intro p e s m below meth c ls hx hb hr hown hts hF hlocks hml hl hS
  have hl : lv_has ls 1 [(0, .ref (adK i))] := hl
  refine lv_aload_n (k := 0) (i := 0) hx hb (by decide +kernel) rfl (lv_at hl 0 rfl) ?_
  refine vk_getf (own := "java/lang/String") (ref := "java/lang/String") (index := 9) hx hb (hF.1 i hi).2.2.1 hS hown (hts _ (bi_spec (i := 2139) (by decide +kernel))) (fun _ h => h) (by decide +kernel) ?_
  refine va_tlen (v := nI (bb_SB i).length) hx hb (hF.1 i hi).2.2.2 hS rfl (by decide +kernel) ?_
  refine lv_aload_n (k := 0) (i := 0) hx hb (by decide +kernel) rfl (lv_at hl 0 rfl) ?_
  refine js_callV (own := "java/lang/String") (idx := 335) (n := 0) (As := []) (rest := [.int (nI (bb_SB i).length)]) hx hb hml hown hts hF hS hi (js_coder hi) (bi_spec (i := 753) (by decide +kernel)) (js_wS) (bi_spec (i := 750) (by decide +kernel)) (bi_spec (i := 751) (by decide +kernel)) (bi_spec (i := 752) (by decide +kernel)) ⟨by decide, by decide, by decide +kernel⟩ rfl ⟨Nat.le_of_ble_eq_true rfl, Nat.le_of_ble_eq_true rfl⟩ ⟨Nat.le_refl _, Nat.le_refl _⟩ (Nat.le_of_ble_eq_true rfl) (by decide +kernel) rfl ?_
  refine lv_ishr hx hb (by decide +kernel) ?_
  rw [sc_shr0 (js_all i hi).1]
  exact W.iret hx hb hr (fun t ht _ => ⟨rfl, ht⟩) (fun q hq => nomatch hq) (by decide +kernel) hlocks
theorem js_preCheck {j : Int32} {n : Nat} {w : Value} (hw : w = .null ∨ ∃ t, w = .ref t) (h1 : ¬ j < 0) (h2 : j < nI n) : js_C l adK adV A ⟨"jdk/internal/util/Preconditions", "checkIndex", "(IILjava/util/function/BiFunction;)I"⟩ prog_31_method_11_code 3 (some .int) 0 0 [.int j, .int (nI n), w] (some (.int j)) := by
  refine js_of (by decide) (by rcases hw with rfl | ⟨t, rfl⟩ <;> exact Nat.le_of_ble_eq_true rfl) ?_
  intro p e s m below meth c ls hx hb hr hown hts hF hlocks hml hl hS
  have hl : lv_has ls 3 [(0, .int j), (1, .int (nI n)), (2, w)] := hl
  refine lv_iload_n (k := 0) (i := 0) hx hb (by decide +kernel) rfl (lv_at hl 0 rfl) ?_
  refine lv_if_lt (off := 8) (tgt := 9) hx hb (by decide +kernel) (by decide) (fun z => absurd z h1) (fun _ => ?_)
  refine lv_iload_n (k := 0) (i := 0) hx hb (by decide +kernel) rfl (lv_at hl 0 rfl) ?_
  refine lv_iload_n (k := 1) (i := 1) hx hb (by decide +kernel) rfl (lv_at hl 1 rfl) ?_
  refine lv_icmp_lt (off := 10) (tgt := 16) hx hb (by decide +kernel) (by decide) (fun _ => ?_) (fun z => absurd h2 z)
  refine lv_iload_n (k := 0) (i := 0) hx hb (by decide +kernel) rfl (lv_at hl 0 rfl) ?_
  exact W.iret hx hb hr (fun t ht _ => ⟨rfl, ht⟩) (fun q hq => nomatch hq) (by decide +kernel) hlocks
theorem js_check {j : Int32} {n : Nat} (h1 : ¬ j < 0) (h2 : j < nI n) : js_C l adK adV A ⟨"java/lang/String", "checkIndex", "(II)V"⟩ prog_22_method_155_code 2 none 1 22 [.int j, .int (nI n)] none := by
  refine js_of (by decide) (Nat.le_of_ble_eq_true rfl) ?_
  intro p e s m below meth c ls hx hb hr hown hts hF hlocks hml hl hS
  have hl : lv_has ls 2 [(0, .int j), (1, .int (nI n))] := hl
  refine lv_iload_n (k := 0) (i := 0) hx hb (by decide +kernel) rfl (lv_at hl 0 rfl) ?_
  refine lv_iload_n (k := 1) (i := 1) hx hb (by decide +kernel) rfl (lv_at hl 1 rfl) ?_
  have go : ∀ w : Value, (w = .null ∨ ∃ t, w = .ref t) → va_Z "jdk/internal/util/Preconditions" "SIOOBE_FORMATTER" "Ljava/util/function/BiFunction;" w A s s.heap → W p l e { frames := 1, cells := 0, slots := 0, locals := 22 } s m [.int j, .int (nI n)].toArray below meth c s.heap [] 0 0 (MQ below (js_Q none) [.int j, .int (nI n)].toArray s 0 0 (fun _ => False)) (F0 m 2 ls [.int (nI n), .int j]) := by
    intro w hw hZ
    refine va_gets (own := "java/lang/String") (ref := "jdk/internal/util/Preconditions") (index := 1053) hx hb hZ hS hown (hts _ (bi_spec (i := 783) (by decide +kernel))) (fun _ h => h) (by decide +kernel) ?_
    refine js_callS (own := "java/lang/String") (idx := 1059) (n := 3) (As := [.int j, .int (nI n), w]) (rest := []) hx hb hml hown hts hF hS (js_preCheck hw h1 h2) (bi_spec (i := 836) (by decide +kernel)) (js_wP) (bi_spec (i := 834) (by decide +kernel)) (bi_spec (i := 835) (by decide +kernel)) ⟨by decide, by decide, by decide +kernel⟩ rfl ⟨Nat.le_of_ble_eq_true rfl, Nat.le_of_ble_eq_true rfl⟩ ⟨Nat.le_refl _, Nat.le_refl _⟩ (Nat.le_of_ble_eq_true rfl) (by decide +kernel) rfl ?_
    refine lv_pop hx hb (by decide +kernel) rfl ?_
    exact W.vret hx hb hr (fun t ht _ => ⟨rfl, ht⟩) (fun q hq => nomatch hq) (by decide +kernel) hlocks
  rcases hF.2.2 with h | ⟨t, h⟩
  · exact go _ (Or.inl rfl) h
  · exact go _ (Or.inr ⟨t, rfl⟩) h
theorem js_in {j : Int32} {n : Nat} (h : vp_in j n) (hn : n < 2 ^ 31) : ¬ j < 0 ∧ j < nI n := by
  have h0 : ¬ j < 0 := fun z => h (Or.inl z)
  obtain ⟨q, hq, rfl⟩ := nI_of h0
  refine ⟨h0, nI_lt ?_ hn⟩
  have h1 : ¬ n ≤ (nI q).toNatClampNeg := fun z => h (Or.inr z)
  rw [nI_clamp hq] at h1
  omega
theorem js_latCharAt {i : Nat} (hi : i < 18) {j : Int32} (hj : vp_in j (bb_SB i).length) : js_C l adK adV A ⟨"java/lang/StringLatin1", "charAt", "([BI)C"⟩ prog_23_method_2_code 2 (some .char) 2 60 [.ref (adV i), .int j] (some (.int ((bb_SB i).getD j.toNatClampNeg 0 &&& 255))) := by
  refine js_of (by decide) (Nat.le_of_ble_eq_true rfl) ?_
  intro p e s m below meth c ls hx hb hr hown hts hF hlocks hml hl hS
  have hl : lv_has ls 2 [(0, .ref (adV i)), (1, .int j)] := hl
  obtain ⟨q1, q2⟩ := js_in hj (js_all i hi).1
  refine lv_iload_n (k := 1) (i := 1) hx hb (by decide +kernel) rfl (lv_at hl 1 rfl) ?_
  refine lv_aload_n (k := 0) (i := 0) hx hb (by decide +kernel) rfl (lv_at hl 0 rfl) ?_
  refine va_tlen (v := nI (bb_SB i).length) hx hb (hF.1 i hi).2.2.2 hS rfl (by decide +kernel) ?_
  refine js_callS (own := "java/lang/StringLatin1") (idx := 9) (n := 2) (As := [.int j, .int (nI (bb_SB i).length)]) (rest := []) hx hb hml hown hts hF hS (js_check q1 q2) (bi_spec (i := 833) (by decide +kernel)) (js_wS) (bi_spec (i := 831) (by decide +kernel)) (bi_spec (i := 832) (by decide +kernel)) ⟨by decide, by decide, by decide +kernel⟩ rfl ⟨Nat.le_of_ble_eq_true rfl, Nat.le_of_ble_eq_true rfl⟩ ⟨Nat.le_refl _, Nat.le_refl _⟩ (Nat.le_of_ble_eq_true rfl) (by decide +kernel) rfl ?_
  refine lv_aload_n (k := 0) (i := 0) hx hb (by decide +kernel) rfl (lv_at hl 0 rfl) ?_
  refine lv_iload_n (k := 1) (i := 1) hx hb (by decide +kernel) rfl (lv_at hl 1 rfl) ?_
  refine va_tb hx hb (hF.1 i hi).2.2.2 hS hj rfl (by decide +kernel) ?_
  refine lv_sipush (n := 255) (v := 255) hx hb (by decide +kernel) (by decide) ?_
  refine lv_iand hx hb (by decide +kernel) ?_
  refine lv_i2c hx hb (by decide +kernel) (sc_c2 _) ?_
  exact W.zret (ty := .char) hx hb hr (sc_nar _) (fun t ht _ => ⟨rfl, ht⟩) (fun q hq => nomatch hq) (by decide +kernel) hlocks
theorem js_charAt {i : Nat} (hi : i < 18) {j : Int32} (hj : vp_in j (bb_SB i).length) : js_C l adK adV A ⟨"java/lang/String", "charAt", "(I)C"⟩ prog_22_method_56_code 2 (some .char) 3 90 [.ref (adK i), .int j] (some (.int ((bb_SB i).getD j.toNatClampNeg 0 &&& 255))) := by
  refine js_of (by decide) (Nat.le_of_ble_eq_true rfl) ?_
  intro p e s m below meth c ls hx hb hr hown hts hF hlocks hml hl hS
  have hl : lv_has ls 2 [(0, .ref (adK i)), (1, .int j)] := hl
  refine lv_aload_n (k := 0) (i := 0) hx hb (by decide +kernel) rfl (lv_at hl 0 rfl) ?_
  refine js_callV (own := "java/lang/String") (idx := 492) (n := 0) (As := []) (rest := []) hx hb hml hown hts hF hS hi (js_isLatin1 hi) (bi_spec (i := 743) (by decide +kernel)) (js_wS) (bi_spec (i := 740) (by decide +kernel)) (bi_spec (i := 741) (by decide +kernel)) (bi_spec (i := 742) (by decide +kernel)) ⟨by decide, by decide, by decide +kernel⟩ rfl ⟨Nat.le_of_ble_eq_true rfl, Nat.le_of_ble_eq_true rfl⟩ ⟨Nat.le_refl _, Nat.le_refl _⟩ (Nat.le_of_ble_eq_true rfl) (by decide +kernel) rfl ?_
  refine lv_if_eq (off := 12) (tgt := 16) hx hb (by decide +kernel) (by decide) (fun z => absurd z (by decide)) (fun _ => ?_)
  refine lv_aload_n (k := 0) (i := 0) hx hb (by decide +kernel) rfl (lv_at hl 0 rfl) ?_
  refine vk_getf (own := "java/lang/String") (ref := "java/lang/String") (index := 9) hx hb (hF.1 i hi).2.2.1 hS hown (hts _ (bi_spec (i := 2139) (by decide +kernel))) (fun _ h => h) (by decide +kernel) ?_
  refine lv_iload_n (k := 1) (i := 1) hx hb (by decide +kernel) rfl (lv_at hl 1 rfl) ?_
  refine js_callS (own := "java/lang/String") (idx := 495) (n := 2) (As := [.ref (adV i), .int j]) (rest := []) hx hb hml hown hts hF hS (js_latCharAt hi hj) (bi_spec (i := 830) (by decide +kernel)) (js_wL) (bi_spec (i := 828) (by decide +kernel)) (bi_spec (i := 829) (by decide +kernel)) ⟨by decide, by decide, by decide +kernel⟩ rfl ⟨Nat.le_of_ble_eq_true rfl, Nat.le_of_ble_eq_true rfl⟩ ⟨Nat.le_refl _, Nat.le_refl _⟩ (Nat.le_of_ble_eq_true rfl) (by decide +kernel) rfl ?_
  exact W.zret (ty := .char) hx hb hr (sc_nar _) (fun t ht _ => ⟨rfl, ht⟩) (fun q hq => nomatch hq) (by decide +kernel) hlocks
theorem js_canEncode {c0 : Int32} : js_C l adK adV A ⟨"java/lang/StringLatin1", "canEncode", "(I)Z"⟩ prog_23_method_4_code 1 (some .boolean) 0 0 [.int c0] (some (.int (if c0 < 0 ∨ 255 < c0 then 0 else 1))) := by
  refine js_of (by decide) (Nat.le_of_ble_eq_true rfl) ?_
  intro p e s m below meth c ls hx hb hr hown hts hF hlocks hml hl hS
  have hl : lv_has ls 1 [(0, .int c0)] := hl
  refine lv_iload_n (k := 0) (i := 0) hx hb (by decide +kernel) rfl (lv_at hl 0 rfl) ?_
  have no : (c0 < 0 ∨ 255 < c0) → W p l e { frames := 0, cells := 0, slots := 0, locals := 0 } s m [.int c0].toArray below meth c s.heap [] 0 0 (MQ below (js_Q (some (.int (if c0 < 0 ∨ 255 < c0 then 0 else 1)))) [.int c0].toArray s 0 0 (fun _ => False)) (F0 m 15 ls []) := by
    intro z
    rw [if_pos z]
    refine lv_iconst (n := 0) (v := 0) hx hb (by decide +kernel) rfl ?_
    exact W.zret (ty := .boolean) hx hb hr rfl (fun t ht _ => ⟨rfl, ht⟩) (fun q hq => nomatch hq) (by decide +kernel) hlocks
  refine lv_if_lt (off := 14) (tgt := 15) hx hb (by decide +kernel) (by decide) (fun z => no (Or.inl z)) (fun z1 => ?_)
  refine lv_iload_n (k := 0) (i := 0) hx hb (by decide +kernel) rfl (lv_at hl 0 rfl) ?_
  refine lv_sipush (n := 255) (v := 255) hx hb (by decide +kernel) (by decide) ?_
  refine lv_icmp_gt (off := 7) (tgt := 15) hx hb (by decide +kernel) (by decide) (fun z => no (Or.inr z)) (fun z2 => ?_)
  rw [if_neg (fun z => z.elim z1 z2)]
  refine lv_iconst (n := 1) (v := 1) hx hb (by decide +kernel) rfl ?_
  refine lv_goto (off := 4) (tgt := 16) hx hb (by decide +kernel) (by decide) ?_
  exact W.zret (ty := .boolean) hx hb hr rfl (fun t ht _ => ⟨rfl, ht⟩) (fun q hq => nomatch hq) (by decide +kernel) hlocks
theorem js_indexOfChar {i : Nat} (hi : i < 18) {n : Nat} (hn : n < 256) : js_C l adK adV A ⟨"java/lang/StringLatin1", "indexOfChar", "([BIII)I"⟩ prog_23_method_23_code 6 (some .int) 0 0 [.ref (adV i), .int (nI n), .int 0, .int (nI (bb_SB i).length)] (some (.int (en_ixF (nI n) (bb_SB i) 0))) := by
  refine js_of (by decide) (Nat.le_of_ble_eq_true rfl) ?_
  intro p e s m below meth c ls hx hb hr hown hts hF hlocks hml hl hS
  have hl : lv_has ls 6 [(0, .ref (adV i)), (1, .int (nI n)), (2, .int 0), (3, .int (nI (bb_SB i).length))] := hl
  obtain ⟨hL, hB⟩ := js_all i hi
  have loop : ∀ (t : List Int32) (k : Nat) (ls : Array Slot), k ≤ (bb_SB i).length → (bb_SB i).drop k = t → lv_has ls 6 [(5, .int (nI k)), (4, .int (nI n).toInt8.toInt32), (0, .ref (adV i)), (1, .int (nI n)), (2, .int 0), (3, .int (nI (bb_SB i).length))] →
      W p l e { frames := 0, cells := 0, slots := 0, locals := 0 } s m [.ref (adV i), .int (nI n), .int 0, .int (nI (bb_SB i).length)].toArray below meth c s.heap [] 0 0 (MQ below (js_Q (some (.int (en_ixF (nI n) t k)))) [.ref (adV i), .int (nI n), .int 0, .int (nI (bb_SB i).length)].toArray s 0 0 (fun _ => False)) (F0 m 7 ls []) := by
    intro t
    induction t with
    | nil =>
      intro k ls hk he hl
      have q : (bb_SB i).length ≤ k := List.drop_eq_nil_iff.mp he
      refine lv_iload (i := 5) hx hb (by decide +kernel) (lv_at hl 0 rfl) ?_
      refine lv_iload_n (k := 3) (i := 3) hx hb (by decide +kernel) rfl (lv_at hl 5 rfl) ?_
      refine lv_icmp_ge (off := 21) (tgt := 31) hx hb (by decide +kernel) (by decide) (fun _ => ?_) (fun z => absurd (nI_le q (by omega)) z)
      refine lv_iconst (n := -1) (v := -1) hx hb (by decide +kernel) rfl ?_
      exact W.iret hx hb hr (fun t ht _ => ⟨rfl, ht⟩) (fun q hq => nomatch hq) (by decide +kernel) hlocks
    | cons b t ih =>
      intro k ls hk he hl
      obtain ⟨h1, h2, h3, h4⟩ := sc_dropC he
      refine lv_iload (i := 5) hx hb (by decide +kernel) (lv_at hl 0 rfl) ?_
      refine lv_iload_n (k := 3) (i := 3) hx hb (by decide +kernel) rfl (lv_at hl 5 rfl) ?_
      refine lv_icmp_ge (off := 21) (tgt := 31) hx hb (by decide +kernel) (by decide) (fun z => absurd z (nI_ge h1 hL)) (fun _ => ?_)
      refine lv_aload_n (k := 0) (i := 0) hx hb (by decide +kernel) rfl (lv_at hl 2 rfl) ?_
      refine lv_iload (i := 5) hx hb (by decide +kernel) (lv_at hl 0 rfl) ?_
      refine va_tb (v := .int b) hx hb (hF.1 i hi).2.2.2 hS (vp_in_nI h1 hL) (by rw [nI_clamp (by omega), h2]) (by decide +kernel) ?_
      refine lv_iload (i := 4) hx hb (by decide +kernel) (lv_at hl 1 rfl) ?_
      refine lv_icmp_ne (off := 6) (tgt := 25) hx hb (by decide +kernel) (by decide) (fun z => ?_) (fun z => ?_)
      · have hc : ¬ b &&& 255 = nI n := fun y => z ((sc_eq (hB b h4) hn).mpr y)
        rw [en_ixF, if_neg hc]
        refine lv_iinc (i := 5) (n := 1) (k := 0) (v := nI (k + 1)) hx hb (by decide +kernel) hl rfl (by rw [nI_succ]; rfl) (by omega) rfl (fun ls' hl' => ?_)
        refine lv_goto (off := -21) (tgt := 7) hx hb (by decide +kernel) (by decide) ?_
        exact ih (k + 1) ls' (by omega) h3 hl'
      · have hc : b &&& 255 = nI n := (sc_eq (hB b h4) hn).mp z
        rw [en_ixF, if_pos hc]
        refine lv_iload (i := 5) hx hb (by decide +kernel) (lv_at hl 0 rfl) ?_
        exact W.iret hx hb hr (fun t ht _ => ⟨rfl, ht⟩) (fun q hq => nomatch hq) (by decide +kernel) hlocks
  refine lv_iload_n (k := 1) (i := 1) hx hb (by decide +kernel) rfl (lv_at hl 1 rfl) ?_
  refine lv_i2b hx hb (by decide +kernel) rfl ?_
  refine lv_istore (i := 4) hx hb (by decide +kernel) hl (by omega) rfl (fun ls hl => ?_)
  refine lv_iload_n (k := 2) (i := 2) hx hb (by decide +kernel) rfl (lv_at hl 3 rfl) ?_
  refine lv_istore (i := 5) hx hb (by decide +kernel) hl (by omega) rfl (fun ls hl => ?_)
  exact loop (bb_SB i) 0 ls (Nat.zero_le _) rfl hl
theorem js_out {c : Int32} (h : ∀ b : Int32, ¬ b &&& 255 = c) : ∀ (l : List Int32) (k : Nat), en_ixF c l k = -1 := by
  intro l
  induction l with
  | nil => intro k; rfl
  | cons b l ih => intro k; rw [en_ixF, if_neg (h b)]; exact ih (k + 1)
theorem js_ne : ∀ i, i < 18 → 0 < (bb_SB i).length := by decide +kernel
theorem js_latIndexOf {i : Nat} (hi : i < 18) {c0 : Int32} : js_C l adK adV A ⟨"java/lang/StringLatin1", "indexOf", "([BIII)I"⟩ prog_23_method_22_code 4 (some .int) 1 60 [.ref (adV i), .int c0, .int 0, .int (nI (bb_SB i).length)] (some (.int (en_ixF c0 (bb_SB i) 0))) := by
  refine js_of (by decide) (Nat.le_of_ble_eq_true rfl) ?_
  intro p e s m below meth c ls hx hb hr hown hts hF hlocks hml hl hS
  have hl : lv_has ls 4 [(0, .ref (adV i)), (1, .int c0), (2, .int 0), (3, .int (nI (bb_SB i).length))] := hl
  obtain ⟨hL, hB⟩ := js_all i hi
  refine lv_iload_n (k := 1) (i := 1) hx hb (by decide +kernel) rfl (lv_at hl 1 rfl) ?_
  refine js_callS (own := "java/lang/StringLatin1") (idx := 88) (n := 1) (As := [.int c0]) (rest := []) hx hb hml hown hts hF hS js_canEncode (bi_spec (i := 759) (by decide +kernel)) (js_wL) (bi_spec (i := 757) (by decide +kernel)) (bi_spec (i := 758) (by decide +kernel)) ⟨by decide, by decide, by decide +kernel⟩ rfl ⟨Nat.le_of_ble_eq_true rfl, Nat.le_of_ble_eq_true rfl⟩ ⟨Nat.le_refl _, Nat.le_refl _⟩ (Nat.le_of_ble_eq_true rfl) (by decide +kernel) rfl ?_
  by_cases z : c0 < 0 ∨ 255 < c0
  · rw [if_pos z]
    refine lv_if_ne (off := 5) (tgt := 9) hx hb (by decide +kernel) (by decide) (fun y => absurd rfl y) (fun _ => ?_)
    have o : en_ixF c0 (bb_SB i) 0 = -1 := by
      refine js_out (fun b e => ?_) _ _
      obtain ⟨j, hj, e2⟩ := pk_andE b (m := 255) 8 (by decide)
      rw [← e, e2] at z
      rcases z with z | z
      · exact nI_pos (by omega) z
      · exact nI_nlt (a := 255) (b := j) (by omega) (by omega) z
    rw [o]
    refine lv_iconst (n := -1) (v := -1) hx hb (by decide +kernel) rfl ?_
    exact W.iret hx hb hr (fun t ht _ => ⟨rfl, ht⟩) (fun q hq => nomatch hq) (by decide +kernel) hlocks
  · rw [if_neg z]
    have z1 : ¬ c0 < 0 := fun y => z (Or.inl y)
    have z2 : ¬ 255 < c0 := fun y => z (Or.inr y)
    obtain ⟨n, hn, rfl⟩ := nI_of z1
    have h256 : n < 256 := by
      rcases Nat.lt_or_ge n 256 with q | q
      · exact q
      · exact absurd (nI_lt (a := 255) (b := n) (by omega) hn) z2
    refine lv_if_ne (off := 5) (tgt := 9) hx hb (by decide +kernel) (by decide) (fun _ => ?_) (fun y => absurd y (by decide))
    refine lv_iload_n (k := 2) (i := 2) hx hb (by decide +kernel) rfl (lv_at hl 2 rfl) ?_
    refine lv_iconst (n := 0) (v := 0) hx hb (by decide +kernel) rfl ?_
    refine va_mmax (index := 92) hx hb hml hown (hts _ (bi_spec (i := 760) (by decide +kernel))) (hts _ js_wMax.2.1) (hts _ js_wMax.1) (hts _ js_wMax.2.2) (Nat.le_of_ble_eq_true rfl) (Nat.le_of_ble_eq_true rfl) (Nat.le_refl _) (Nat.le_refl _) (by decide +kernel) ?_
    refine lv_istore_n (k := 2) (i := 2) hx hb (by decide +kernel) rfl hl (by omega) rfl (fun ls9 hl9 => ?_)
    have hml9 : c.maxLocals = ls9.size := by rw [hml, hl.1, hl9.1]
    refine lv_iload_n (k := 3) (i := 3) hx hb (by decide +kernel) rfl (lv_at hl9 3 rfl) ?_
    refine lv_aload_n (k := 0) (i := 0) hx hb (by decide +kernel) rfl (lv_at hl9 1 rfl) ?_
    refine va_tlen (v := nI (bb_SB i).length) hx hb (hF.1 i hi).2.2.2 hS rfl (by decide +kernel) ?_
    refine va_mmin (index := 38) hx hb hml9 hown (hts _ (bi_spec (i := 761) (by decide +kernel))) (hts _ js_wMin.2.1) (hts _ js_wMin.1) (hts _ js_wMin.2.2) (Nat.le_of_ble_eq_true rfl) (Nat.le_of_ble_eq_true rfl) (Nat.le_refl _) (Nat.le_refl _) (by decide +kernel) ?_
    rw [ite_self]
    refine lv_istore_n (k := 3) (i := 3) hx hb (by decide +kernel) rfl hl9 (by omega) rfl (fun ls8 hl8 => ?_)
    have hml8 : c.maxLocals = ls8.size := by rw [hml, hl.1, hl8.1]
    have e0 : (if (0 : Int32) < 0 then (0 : Int32) else 0) = 0 := by decide
    refine lv_iload_n (k := 2) (i := 2) hx hb (by decide +kernel) rfl (lv_at hl8 1 rfl) ?_
    refine lv_iload_n (k := 3) (i := 3) hx hb (by decide +kernel) rfl (lv_at hl8 0 rfl) ?_
    rw [e0]
    refine lv_icmp_lt (off := 5) (tgt := 29) hx hb (by decide +kernel) (by decide) (fun _ => ?_) (fun y => absurd (nI_lt (a := 0) (js_ne i hi) hL) y)
    refine lv_aload_n (k := 0) (i := 0) hx hb (by decide +kernel) rfl (lv_at hl8 2 rfl) ?_
    refine lv_iload_n (k := 1) (i := 1) hx hb (by decide +kernel) rfl (lv_at hl8 3 rfl) ?_
    refine lv_iload_n (k := 2) (i := 2) hx hb (by decide +kernel) rfl (lv_at hl8 1 rfl) ?_
    refine lv_iload_n (k := 3) (i := 3) hx hb (by decide +kernel) rfl (lv_at hl8 0 rfl) ?_
    rw [e0]
    refine js_callS (own := "java/lang/StringLatin1") (idx := 95) (n := 4) (As := [.ref (adV i), .int (nI n), .int 0, .int (nI (bb_SB i).length)]) (rest := []) hx hb hml8 hown hts hF hS (js_indexOfChar hi h256) (bi_spec (i := 764) (by decide +kernel)) (js_wL) (bi_spec (i := 762) (by decide +kernel)) (bi_spec (i := 763) (by decide +kernel)) ⟨by decide, by decide, by decide +kernel⟩ rfl ⟨Nat.le_of_ble_eq_true rfl, Nat.le_of_ble_eq_true rfl⟩ ⟨Nat.le_refl _, Nat.le_refl _⟩ (Nat.le_of_ble_eq_true rfl) (by decide +kernel) rfl ?_
    exact W.iret hx hb hr (fun t ht _ => ⟨rfl, ht⟩) (fun q hq => nomatch hq) (by decide +kernel) hlocks
theorem js_indexOf2 {i : Nat} (hi : i < 18) {c0 : Int32} : js_C l adK adV A ⟨"java/lang/String", "indexOf", "(II)I"⟩ prog_22_method_80_code 3 (some .int) 2 90 [.ref (adK i), .int c0, .int 0] (some (.int (en_ixF c0 (bb_SB i) 0))) := by
  refine js_of (by decide) (Nat.le_of_ble_eq_true rfl) ?_
  intro p e s m below meth c ls hx hb hr hown hts hF hlocks hml hl hS
  have hl : lv_has ls 3 [(0, .ref (adK i)), (1, .int c0), (2, .int 0)] := hl
  refine lv_aload_n (k := 0) (i := 0) hx hb (by decide +kernel) rfl (lv_at hl 0 rfl) ?_
  refine js_callV (own := "java/lang/String") (idx := 492) (n := 0) (As := []) (rest := []) hx hb hml hown hts hF hS hi (js_isLatin1 hi) (bi_spec (i := 743) (by decide +kernel)) (js_wS) (bi_spec (i := 740) (by decide +kernel)) (bi_spec (i := 741) (by decide +kernel)) (bi_spec (i := 742) (by decide +kernel)) ⟨by decide, by decide, by decide +kernel⟩ rfl ⟨Nat.le_of_ble_eq_true rfl, Nat.le_of_ble_eq_true rfl⟩ ⟨Nat.le_refl _, Nat.le_refl _⟩ (Nat.le_of_ble_eq_true rfl) (by decide +kernel) rfl ?_
  refine lv_if_eq (off := 19) (tgt := 23) hx hb (by decide +kernel) (by decide) (fun z => absurd z (by decide)) (fun _ => ?_)
  refine lv_aload_n (k := 0) (i := 0) hx hb (by decide +kernel) rfl (lv_at hl 0 rfl) ?_
  refine vk_getf (own := "java/lang/String") (ref := "java/lang/String") (index := 9) hx hb (hF.1 i hi).2.2.1 hS hown (hts _ (bi_spec (i := 2139) (by decide +kernel))) (fun _ h => h) (by decide +kernel) ?_
  refine lv_iload_n (k := 1) (i := 1) hx hb (by decide +kernel) rfl (lv_at hl 1 rfl) ?_
  refine lv_iload_n (k := 2) (i := 2) hx hb (by decide +kernel) rfl (lv_at hl 2 rfl) ?_
  refine lv_aload_n (k := 0) (i := 0) hx hb (by decide +kernel) rfl (lv_at hl 0 rfl) ?_
  refine js_callV (own := "java/lang/String") (idx := 505) (n := 0) (As := []) (rest := [.int 0, .int c0, .ref (adV i)]) hx hb hml hown hts hF hS hi (js_length hi) (bi_spec (i := 749) (by decide +kernel)) (js_wS) (bi_spec (i := 746) (by decide +kernel)) (bi_spec (i := 747) (by decide +kernel)) (bi_spec (i := 748) (by decide +kernel)) ⟨by decide, by decide, by decide +kernel⟩ rfl ⟨Nat.le_of_ble_eq_true rfl, Nat.le_of_ble_eq_true rfl⟩ ⟨Nat.le_refl _, Nat.le_refl _⟩ (Nat.le_of_ble_eq_true rfl) (by decide +kernel) rfl ?_
  refine js_callS (own := "java/lang/String") (idx := 637) (n := 4) (As := [.ref (adV i), .int c0, .int 0, .int (nI (bb_SB i).length)]) (rest := []) hx hb hml hown hts hF hS (js_latIndexOf hi) (bi_spec (i := 756) (by decide +kernel)) (js_wL) (bi_spec (i := 754) (by decide +kernel)) (bi_spec (i := 755) (by decide +kernel)) ⟨by decide, by decide, by decide +kernel⟩ rfl ⟨Nat.le_of_ble_eq_true rfl, Nat.le_of_ble_eq_true rfl⟩ ⟨Nat.le_refl _, Nat.le_refl _⟩ (Nat.le_of_ble_eq_true rfl) (by decide +kernel) rfl ?_
  refine lv_goto (off := 16) (tgt := 36) hx hb (by decide +kernel) (by decide) ?_
  exact W.iret hx hb hr (fun t ht _ => ⟨rfl, ht⟩) (fun q hq => nomatch hq) (by decide +kernel) hlocks
theorem js_indexOf {i : Nat} (hi : i < 18) {c0 : Int32} : js_C l adK adV A ⟨"java/lang/String", "indexOf", "(I)I"⟩ prog_22_method_79_code 2 (some .int) 3 120 [.ref (adK i), .int c0] (some (.int (en_ixF c0 (bb_SB i) 0))) := by
  refine js_of (by decide) (Nat.le_of_ble_eq_true rfl) ?_
  intro p e s m below meth c ls hx hb hr hown hts hF hlocks hml hl hS
  have hl : lv_has ls 2 [(0, .ref (adK i)), (1, .int c0)] := hl
  refine lv_aload_n (k := 0) (i := 0) hx hb (by decide +kernel) rfl (lv_at hl 0 rfl) ?_
  refine lv_iload_n (k := 1) (i := 1) hx hb (by decide +kernel) rfl (lv_at hl 1 rfl) ?_
  refine lv_iconst (n := 0) (v := 0) hx hb (by decide +kernel) rfl ?_
  refine js_callV (own := "java/lang/String") (idx := 633) (n := 2) (As := [.int c0, .int 0]) (rest := []) hx hb hml hown hts hF hS hi (js_indexOf2 hi) (bi_spec (i := 739) (by decide +kernel)) (js_wS) (bi_spec (i := 736) (by decide +kernel)) (bi_spec (i := 737) (by decide +kernel)) (bi_spec (i := 738) (by decide +kernel)) ⟨by decide, by decide, by decide +kernel⟩ rfl ⟨Nat.le_of_ble_eq_true rfl, Nat.le_of_ble_eq_true rfl⟩ ⟨Nat.le_refl _, Nat.le_refl _⟩ (Nat.le_of_ble_eq_true rfl) (by decide +kernel) rfl ?_
  exact W.iret hx hb hr (fun t ht _ => ⟨rfl, ht⟩) (fun q hq => nomatch hq) (by decide +kernel) hlocks
end JM
