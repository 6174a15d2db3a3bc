/-! THE THREE RULES: throws, the methods of String constants, handlers; and what is known of the old cells -/
def bb_nd : List Cond := [.declares (Bundle.initS "java/lang/RuntimeException"), .declares (Bundle.initS "java/lang/Exception"), .declares (Bundle.initS "java/lang/Throwable"), .castable "java/util/NoSuchElementException" "java/util/NoSuchElementException", .castable "java/lang/IllegalArgumentException" "java/lang/IllegalArgumentException"]
def bb_st : List ((Nat × String) × Nat) := [((76, ";()+-*/<="), 0), ((91, "towns"), 1), ((100, "road"), 2), ((105, "box"), 3), ((110, "bearer"), 4), ((115, "talk"), 5), ((124, "falls"), 6), ((177, "under"), 7), ((191, "or"), 8), ((199, "and"), 9), ((201, "not"), 10), ((215, "weight"), 11), ((216, "hands"), 12), ((218, "might"), 13), ((220, "lean"), 14), ((222, "borne"), 15), ((224, "town"), 16), ((226, "day"), 17)]
def bb_tx : List (Nat × String) := [(116, "the tape has not so many bytes"), (168, "no such count"), (192, "no such thing of a box"), (215, "no such thing of a bearer"), (321, "both are one"), (361, "no such box"), (363, "no such bearer"), (365, "no such town"), (367, "no such what"), (369, "a number that is too low or too high")]
/-- what is known of the old cells and the tables, wherever the walk stands -/
def bb_FX (adK adV : Nat → Nat) (A : Nat → Prop) (U : State) (H : Heap) : Prop :=
  (∀ w ∈ bb_nw, va_Nw w U) ∧ (∀ w ∈ bb_nd, va_Nw w U) ∧ va_Nc "java/lang/IllegalArgumentException" "java/util/NoSuchElementException" U ∧ vx_Zq Bundle.tN "UNASSIGNED_STACK" Bundle.steD A U H ∧ vx_Zq Bundle.tN "SUPPRESSED_SENTINEL" Bundle.listD A U H ∧
  (∀ q ∈ bb_st, vk_R "BoxBearers$Reader" q.1.1 q.1.2 (adK q.2) U) ∧ (∀ q ∈ bb_tx, ∃ sa, vk_R "BoxBearers" q.1 q.2 sa U) ∧ js_FX adK adV A U H
def bb_wk : Cond → Bool
  | .methodLinkNest .. => true
  | .declares _ => true
  | .castable .. => true
  | _ => false
theorem bb_wk_nw : bb_nw.all bb_wk = true := by decide +kernel
theorem bb_wk_nd : bb_nd.all bb_wk = true := by decide +kernel
theorem bb_wk_warm {w : Cond} (h : bb_wk w = true) {s U : State} (hW : s.WarmedH U.vm) (hZ : va_Nw w s) : va_Nw w U := by
  cases w <;> first | exact va_Nw.warmM hW hZ | exact va_Nw.warmD hW hZ | exact va_Nw.warmC hW hZ | cases h
theorem bb_FX_warm {adK adV : Nat → Nat} {A : Nat → Prop} {u U : State} {H : Heap} (hW : u.WarmedH U.vm) (h : bb_FX adK adV A u H) : bb_FX adK adV A U H := by
  obtain ⟨h1, h2, h3, h4, h5, h6, h7, h8⟩ := h
  exact ⟨fun w hw => bb_wk_warm (List.all_eq_true.mp bb_wk_nw w hw) hW (h1 w hw), fun w hw => bb_wk_warm (List.all_eq_true.mp bb_wk_nd w hw) hW (h2 w hw), va_Nc.moved hW.alike h3, vx_Zq.moved hW.alike h4, vx_Zq.moved hW.alike h5,
    fun q hq => vk_R.warm hW (h6 q hq), fun q hq => (h7 q hq).imp (fun _ h => vk_R.warm hW h), js_FX.moved hW.alike h8⟩
theorem bb_FX_kept {adK adV : Nat → Nat} {A : Nat → Prop} {U : State} {H H1 : Heap} (h : bb_FX adK adV A U H) (hq : ∀ a : Nat, a < H.size → ¬ A a → H1[a]? = H[a]?) : bb_FX adK adV A U H1 := by
  obtain ⟨h1, h2, h3, h4, h5, h6, h7, h8⟩ := h
  exact ⟨h1, h2, h3, h4.kept hq, h5.kept hq, h6, h7, h8.kept hq⟩
def bx_I : List Cond := (ex_atoms "BoxBearers" 118 "java/lang/IllegalArgumentException" 7 prog_18_method_2_code).filter vx_no
set_option maxRecDepth 100000 in
theorem bx_I_ok : bi_2 bx_I [[123], [664], [673], [676], [679], [681], [665], [666], [143], [144], [667], [672], [677], [697], [654], [698], [656], [699], [658], [668], [670], [660], [693], [694], [696], [660], [684], [685], [686], [687], [9999], [687], [688], [689], [690], [9999], [690], [691], [692], [693], [9999], [683], [643], [9999], [651], [652], [653], [655], [657], [659], [663], [662], [661]] (fun w i => if i = [9999] then bb_nd.contains w else bi (i.headD 0) w) = true := by decide +kernel
theorem bx_I_at {args : Array Value} {s : State} (hts : ∀ w ∈ bb_T, w.before args s = true) (hnd : ∀ w ∈ bb_nd, va_Nw w s) : ∀ w ∈ (ex_atoms "BoxBearers" 118 "java/lang/IllegalArgumentException" 7 prog_18_method_2_code).filter vx_no, w.before args s = true := by
  intro w hw
  obtain ⟨i, hi⟩ := bi_2s bx_I_ok w hw
  have hi : (if i = [9999] then bb_nd.contains w else bi (i.headD 0) w) = true := hi
  split at hi
  · have hm : w ∈ bb_nd := by simpa using hi
    have hk := List.all_eq_true.mp bb_wk_nd w hm
    have ho : w.onTables = true := by cases w <;> first | rfl | cases hk
    exact va_Nw.use ho (hnd w hm)
  · exact hts w (bi_spec hi)
set_option maxRecDepth 100000 in
theorem bx_I_ot : ∀ w ∈ Cond.classLink "BoxBearers" 114 "java/lang/IllegalArgumentException" :: Cond.initialized "java/lang/IllegalArgumentException" :: (ex_atoms "BoxBearers" 118 "java/lang/IllegalArgumentException" 7 prog_18_method_2_code).filter vx_no, vx_ot w = true := by decide +kernel
def bx_N : List Cond := (ex_atoms "BoxBearers" 170 "java/util/NoSuchElementException" 13 prog_30_method_4_code).filter vx_no
set_option maxRecDepth 100000 in
theorem bx_N_ok : bi_2 bx_N [[123], [664], [673], [676], [679], [681], [665], [666], [143], [144], [667], [672], [677], [697], [654], [698], [656], [699], [658], [668], [670], [660], [693], [694], [696], [660], [1005], [1006], [1007], [687], [9999], [687], [688], [689], [690], [9999], [690], [691], [692], [693], [9999], [1004], [995], [9999], [997], [675], [998], [999], [1000], [1001], [663], [662], [1002]] (fun w i => if i = [9999] then bb_nd.contains w else bi (i.headD 0) w) = true := by decide +kernel
theorem bx_N_at {args : Array Value} {s : State} (hts : ∀ w ∈ bb_T, w.before args s = true) (hnd : ∀ w ∈ bb_nd, va_Nw w s) : ∀ w ∈ (ex_atoms "BoxBearers" 170 "java/util/NoSuchElementException" 13 prog_30_method_4_code).filter vx_no, w.before args s = true := by
  intro w hw
  obtain ⟨i, hi⟩ := bi_2s bx_N_ok w hw
  have hi : (if i = [9999] then bb_nd.contains w else bi (i.headD 0) w) = true := hi
  split at hi
  · have hm : w ∈ bb_nd := by simpa using hi
    have hk := List.all_eq_true.mp bb_wk_nd w hm
    have ho : w.onTables = true := by cases w <;> first | rfl | cases hk
    exact va_Nw.use ho (hnd w hm)
  · exact hts w (bi_spec hi)
set_option maxRecDepth 100000 in
theorem bx_N_ot : ∀ w ∈ Cond.classLink "BoxBearers" 166 "java/util/NoSuchElementException" :: Cond.initialized "java/util/NoSuchElementException" :: (ex_atoms "BoxBearers" 170 "java/util/NoSuchElementException" 13 prog_30_method_4_code).filter vx_no, vx_ot w = true := by decide +kernel
theorem bb_nT {l : Launch} (h : l.flags = flags0) : l.stackTraces = false := by
  unfold Launch.stackTraces
  rw [h]
  decide +kernel
section BR
variable {l : Launch} {adK adV : Nat → Nat} {cA : Nat → ClassId} {D : va_G} {A : Nat → Prop} {ad : Nat → Nat}
theorem bb_site {mi pc x ik is ic ix kw idx : Nat} {cls text : String} {rx : ByteArray} (hl : l.stackTraces = false) (hown : bb_own mi = "BoxBearers") (hcls : Bundle.fit cls = true) (hX : bb_XN x = cls) (x0 : decode rx 0 = .ok (.aload_n 0, 1)) (x1 : decode rx 1 = .ok (.aload_n 1, 1)) (x2 : decode rx 2 = .ok (.invokespecial ix, 3)) (x5 : decode rx 5 = .ok (.return_, 1))
    (w1 : Cond.classLink "BoxBearers" ik cls ∈ bb_T) (w2 : Cond.initialized cls ∈ bb_T) (w3 : (is, text) ∈ bb_tx) (hat : ∀ (args : Array Value) (s : State), (∀ w ∈ bb_T, w.before args s = true) → (∀ w ∈ bb_nd, va_Nw w s) → ∀ w ∈ (ex_atoms "BoxBearers" ic cls ix rx).filter vx_no, w.before args s = true)
    (hot : ∀ w ∈ Cond.classLink "BoxBearers" ik cls :: Cond.initialized cls :: (ex_atoms "BoxBearers" ic cls ix rx).filter vx_no, vx_ot w = true)
    (d0 : decode (bb_CD mi) pc = .ok (.new ik, 3)) (d3 : decode (bb_CD mi) (pc + 3) = .ok (.dup, 1)) (d4 : (kw = 6 ∧ decode (bb_CD mi) (pc + 4) = .ok (.ldc is, 2)) ∨ (kw = 7 ∧ decode (bb_CD mi) (pc + 4) = .ok (.ldc_w is, 3))) (d6 : decode (bb_CD mi) (pc + kw) = .ok (.invokespecial ic, 3)) (d9 : decode (bb_CD mi) (pc + kw + 3) = .ok (.athrow, 1))
    (hfr : 8 ≤ bb_fr mi) (hlo : 200 ≤ bb_lo mi) (hhh : bb_hh mi = []) :
    ∀ (p : Program) (e : Env) (R : Room) (s : State) (m : MethodId) (args : Array Value) (below : List Frame) (meth : Method) (c : Code) (H : Heap) (locs : List Loc) (cells slots : Nat) (ls : Array Slot) (rest : List Value) (Qc : Array Value → State → Outcome → State → Prop) (XC : String → State → State → Prop) (mc ms : Nat),
  en_cx bb_G bb_ML cA D bb_cl bb_T bb_own bb_CD bb_hh bb_fr bb_lo (bb_FX adK adV A) mi p R s m args meth c → en_chk (bb_CD mi) pc (.new idx) = true → ls.size = bb_ML mi → va_S A s.heap H locs → (rest.map fun v => v.category).sum ≤ 8 → cells + 1 ≤ R.cells → slots + 6 ≤ R.slots → cells + 1 ≤ mc → slots + 6 ≤ ms →
  (∀ t : State, s.vm.Alike t.vm → H.size ≤ t.heap.size → (∀ q : Nat, q < H.size → t.heap[q]? = H[q]?) → XC (bb_XN x) s t) →
  W p l e R s m args below meth c H locs cells slots (vx_MQ below Qc XC args s mc ms A) (F0 m pc ls rest) := by
  intro p e R s m args below meth c H locs cells slots ls rest Qc XC mc ms hcx _ hsz hS hsm hc hs hmc hms hx9
  obtain ⟨hx, hb, hr, hml, hlocks, hown9, hts, hK, hFX, htab, hRf, hRl⟩ := hcx
  rw [hown] at hown9
  obtain ⟨f1, f2, f3, f4, f5, f6, f7, f8⟩ := hFX
  obtain ⟨sa, hsa⟩ := f7 _ w3
  exact ex_throw hx hb hl hown9 hcls x0 x1 x2 x5 (hts _ w1) (hts _ w2) hsa (hat args s hts f2) hot f4 f5 hS (by rw [hsz, hml]) d0 d3 d4 d6 d9 (fun z hz => by rw [htab, hhh] at hz; cases hz) (by omega) (by omega) hc hs hlocks (fun t h1 h2 h3 => by rw [← hX]; exact hx9 t h1 h2 h3) hmc hms
theorem bb_key5 {mi pc K : Nat} (h : pc < 100000) (e : 100000 * mi + pc = K) : mi = K / 100000 ∧ pc = K % 100000 := by omega
set_option maxHeartbeats 4000000 in
theorem bb_RTh (hl : l.stackTraces = false) : en_RTh l bb_G bb_ML cA D bb_cl A bb_T bb_own bb_CD bb_hh bb_XN bb_fr bb_lo (bb_FX adK adV A) := by
  intro mi pc idx x h hh0
  have h0 : (if pc < 100000 then en_as bk_t (100000 * mi + pc) else none) = some x := h
  split at h0
  · next hp =>
    have hm := en_as_mem h0
    unfold bk_t at hm
    simp only [List.mem_cons, Prod.mk.injEq, List.not_mem_nil, or_false] at hm
    rcases hm with ⟨e1, rfl⟩ | ⟨e1, rfl⟩ | ⟨e1, rfl⟩ | ⟨e1, rfl⟩ | ⟨e1, rfl⟩ | ⟨e1, rfl⟩ | ⟨e1, rfl⟩ | ⟨e1, rfl⟩ | ⟨e1, rfl⟩ | ⟨e1, rfl⟩
    · obtain ⟨a, b⟩ := bb_key5 hp e1; subst a; subst b; exact bb_site (kw := 6) (is := 116) (ic := 118) (ix := 7) (ik := 114) (cls := "java/lang/IllegalArgumentException") (text := "the tape has not so many bytes") (rx := prog_18_method_2_code) hl (by decide +kernel) (by decide +kernel) (by decide +kernel) (by decide +kernel) (by decide +kernel) (by decide +kernel) (by decide +kernel) (bi_spec (i := 642) (by decide +kernel)) (bi_spec (i := 126) (by decide +kernel)) (by decide +kernel) (fun _ _ => bx_I_at) bx_I_ot (by decide +kernel) (by decide +kernel) (Or.inl ⟨rfl, by decide +kernel⟩) (by decide +kernel) (by decide +kernel) (by decide +kernel) (by decide +kernel) (by decide +kernel)
    · obtain ⟨a, b⟩ := bb_key5 hp e1; subst a; subst b; exact bb_site (kw := 6) (is := 168) (ic := 170) (ix := 13) (ik := 166) (cls := "java/util/NoSuchElementException") (text := "no such count") (rx := prog_30_method_4_code) hl (by decide +kernel) (by decide +kernel) (by decide +kernel) (by decide +kernel) (by decide +kernel) (by decide +kernel) (by decide +kernel) (bi_spec (i := 994) (by decide +kernel)) (bi_spec (i := 135) (by decide +kernel)) (by decide +kernel) (fun _ _ => bx_N_at) bx_N_ot (by decide +kernel) (by decide +kernel) (Or.inl ⟨rfl, by decide +kernel⟩) (by decide +kernel) (by decide +kernel) (by decide +kernel) (by decide +kernel) (by decide +kernel)
    · obtain ⟨a, b⟩ := bb_key5 hp e1; subst a; subst b; exact bb_site (kw := 6) (is := 192) (ic := 170) (ix := 13) (ik := 166) (cls := "java/util/NoSuchElementException") (text := "no such thing of a box") (rx := prog_30_method_4_code) hl (by decide +kernel) (by decide +kernel) (by decide +kernel) (by decide +kernel) (by decide +kernel) (by decide +kernel) (by decide +kernel) (bi_spec (i := 994) (by decide +kernel)) (bi_spec (i := 135) (by decide +kernel)) (by decide +kernel) (fun _ _ => bx_N_at) bx_N_ot (by decide +kernel) (by decide +kernel) (Or.inl ⟨rfl, by decide +kernel⟩) (by decide +kernel) (by decide +kernel) (by decide +kernel) (by decide +kernel) (by decide +kernel)
    · obtain ⟨a, b⟩ := bb_key5 hp e1; subst a; subst b; exact bb_site (kw := 6) (is := 215) (ic := 170) (ix := 13) (ik := 166) (cls := "java/util/NoSuchElementException") (text := "no such thing of a bearer") (rx := prog_30_method_4_code) hl (by decide +kernel) (by decide +kernel) (by decide +kernel) (by decide +kernel) (by decide +kernel) (by decide +kernel) (by decide +kernel) (bi_spec (i := 994) (by decide +kernel)) (bi_spec (i := 135) (by decide +kernel)) (by decide +kernel) (fun _ _ => bx_N_at) bx_N_ot (by decide +kernel) (by decide +kernel) (Or.inl ⟨rfl, by decide +kernel⟩) (by decide +kernel) (by decide +kernel) (by decide +kernel) (by decide +kernel) (by decide +kernel)
    · obtain ⟨a, b⟩ := bb_key5 hp e1; subst a; subst b; exact bb_site (kw := 7) (is := 321) (ic := 118) (ix := 7) (ik := 114) (cls := "java/lang/IllegalArgumentException") (text := "both are one") (rx := prog_18_method_2_code) hl (by decide +kernel) (by decide +kernel) (by decide +kernel) (by decide +kernel) (by decide +kernel) (by decide +kernel) (by decide +kernel) (bi_spec (i := 642) (by decide +kernel)) (bi_spec (i := 126) (by decide +kernel)) (by decide +kernel) (fun _ _ => bx_I_at) bx_I_ot (by decide +kernel) (by decide +kernel) (Or.inr ⟨rfl, by decide +kernel⟩) (by decide +kernel) (by decide +kernel) (by decide +kernel) (by decide +kernel) (by decide +kernel)
    · obtain ⟨a, b⟩ := bb_key5 hp e1; subst a; subst b; exact bb_site (kw := 7) (is := 361) (ic := 170) (ix := 13) (ik := 166) (cls := "java/util/NoSuchElementException") (text := "no such box") (rx := prog_30_method_4_code) hl (by decide +kernel) (by decide +kernel) (by decide +kernel) (by decide +kernel) (by decide +kernel) (by decide +kernel) (by decide +kernel) (bi_spec (i := 994) (by decide +kernel)) (bi_spec (i := 135) (by decide +kernel)) (by decide +kernel) (fun _ _ => bx_N_at) bx_N_ot (by decide +kernel) (by decide +kernel) (Or.inr ⟨rfl, by decide +kernel⟩) (by decide +kernel) (by decide +kernel) (by decide +kernel) (by decide +kernel) (by decide +kernel)
    · obtain ⟨a, b⟩ := bb_key5 hp e1; subst a; subst b; exact bb_site (kw := 7) (is := 363) (ic := 170) (ix := 13) (ik := 166) (cls := "java/util/NoSuchElementException") (text := "no such bearer") (rx := prog_30_method_4_code) hl (by decide +kernel) (by decide +kernel) (by decide +kernel) (by decide +kernel) (by decide +kernel) (by decide +kernel) (by decide +kernel) (bi_spec (i := 994) (by decide +kernel)) (bi_spec (i := 135) (by decide +kernel)) (by decide +kernel) (fun _ _ => bx_N_at) bx_N_ot (by decide +kernel) (by decide +kernel) (Or.inr ⟨rfl, by decide +kernel⟩) (by decide +kernel) (by decide +kernel) (by decide +kernel) (by decide +kernel) (by decide +kernel)
    · obtain ⟨a, b⟩ := bb_key5 hp e1; subst a; subst b; exact bb_site (kw := 7) (is := 365) (ic := 170) (ix := 13) (ik := 166) (cls := "java/util/NoSuchElementException") (text := "no such town") (rx := prog_30_method_4_code) hl (by decide +kernel) (by decide +kernel) (by decide +kernel) (by decide +kernel) (by decide +kernel) (by decide +kernel) (by decide +kernel) (bi_spec (i := 994) (by decide +kernel)) (bi_spec (i := 135) (by decide +kernel)) (by decide +kernel) (fun _ _ => bx_N_at) bx_N_ot (by decide +kernel) (by decide +kernel) (Or.inr ⟨rfl, by decide +kernel⟩) (by decide +kernel) (by decide +kernel) (by decide +kernel) (by decide +kernel) (by decide +kernel)
    · obtain ⟨a, b⟩ := bb_key5 hp e1; subst a; subst b; exact bb_site (kw := 7) (is := 367) (ic := 170) (ix := 13) (ik := 166) (cls := "java/util/NoSuchElementException") (text := "no such what") (rx := prog_30_method_4_code) hl (by decide +kernel) (by decide +kernel) (by decide +kernel) (by decide +kernel) (by decide +kernel) (by decide +kernel) (by decide +kernel) (bi_spec (i := 994) (by decide +kernel)) (bi_spec (i := 135) (by decide +kernel)) (by decide +kernel) (fun _ _ => bx_N_at) bx_N_ot (by decide +kernel) (by decide +kernel) (Or.inr ⟨rfl, by decide +kernel⟩) (by decide +kernel) (by decide +kernel) (by decide +kernel) (by decide +kernel) (by decide +kernel)
    · obtain ⟨a, b⟩ := bb_key5 hp e1; subst a; subst b; exact bb_site (kw := 7) (is := 369) (ic := 118) (ix := 7) (ik := 114) (cls := "java/lang/IllegalArgumentException") (text := "a number that is too low or too high") (rx := prog_18_method_2_code) hl (by decide +kernel) (by decide +kernel) (by decide +kernel) (by decide +kernel) (by decide +kernel) (by decide +kernel) (by decide +kernel) (bi_spec (i := 642) (by decide +kernel)) (bi_spec (i := 126) (by decide +kernel)) (by decide +kernel) (fun _ _ => bx_I_at) bx_I_ot (by decide +kernel) (by decide +kernel) (Or.inr ⟨rfl, by decide +kernel⟩) (by decide +kernel) (by decide +kernel) (by decide +kernel) (by decide +kernel) (by decide +kernel)
  · cases h0
def bb_c5 (r : Nat) (e : Nat × (Nat × Nat × Nat × Nat)) : Bool := match e.2.1 with
  | 5 => decide (bb_ow.getD (bb_cc (1000 * r)) "" = "BoxBearers$Reader") && (e.1 % 1000 == 84)
  | 6 => decide (bb_ow.getD (bb_cc (1000 * r)) "" = "BoxBearers$Reader") && (e.1 % 1000 == 87)
  | 7 => decide (bb_ow.getD (bb_cc (1000 * r)) "" = "BoxBearers$Reader") && (e.1 % 1000 == 78)
  | _ => true
theorem bb_c5_ok : (bb_CLL.zipIdx.all fun q => q.1.all (bb_c5 q.2)) = true := by decide +kernel
theorem bb_c5_at {mi idx : Nat} {z : Nat × Nat × Nat × Nat} (h : en_CL bb_G mi idx = some z) : bb_c5 (mi / 1000) (1000 * (mi % 1000) + idx, z) = true ∧ idx < 1000 := by
  have h0 : (if idx < 1000 then en_as (bb_CLL.getD (mi / 1000) []) (1000 * (mi % 1000) + idx) else none) = some z := h
  split at h0
  · next hi =>
    obtain ⟨r, h1, h2⟩ := bb_getD (en_as_mem h0)
    have h3 := List.all_eq_true.mp bb_c5_ok (r, mi / 1000) (List.mem_of_getElem? (i := mi / 1000) (by simp [List.getElem?_zipIdx, h1]))
    exact ⟨List.all_eq_true.mp h3 _ h2, hi⟩
  · cases h0
theorem bb_cc3 {mi : Nat} : bb_cc (1000 * (mi / 1000)) = bb_cc mi := by
  unfold bb_cc
  rw [show 1000 * (mi / 1000) / 1000 = mi / 1000 by omega]
theorem bb_key6 {mi idx : Nat} (h : idx < 1000) : (1000 * (mi % 1000) + idx) % 1000 = idx := by omega
theorem bb_c8_ok : (bb_CLL.zipIdx.all fun q => q.1.all fun e => decide (8 ≤ bb_fr (1000 * q.2 + e.1 / 1000)) && decide (200 ≤ bb_lo (1000 * q.2 + e.1 / 1000))) = true := by decide +kernel
theorem bb_SB_out {i : Nat} (h : ¬ i < 18) : bb_SB i = bb_SB 0 := by
  unfold bb_SB
  rw [List.getD_eq_getElem?_getD, List.getElem?_eq_none (by have : bk_s.length = 18 := rfl; omega)]
  rfl
def bb_ix (i : Nat) : Nat := if i < 18 then i else 0
theorem bb_ix_lt (i : Nat) : bb_ix i < 18 := by unfold bb_ix; split <;> omega
theorem bb_ix_SB (i : Nat) : bb_SB i = bb_SB (bb_ix i) := by
  unfold bb_ix
  split
  · rfl
  · next h => exact bb_SB_out h
theorem bb_fr8 {mi idx : Nat} {z : Nat × Nat × Nat × Nat} (h : en_CL bb_G mi idx = some z) : 8 ≤ bb_fr mi ∧ 200 ≤ bb_lo mi := by
  have h0 : (if idx < 1000 then en_as (bb_CLL.getD (mi / 1000) []) (1000 * (mi % 1000) + idx) else none) = some z := h
  split at h0
  · next hi =>
    obtain ⟨r, h1, h2⟩ := bb_getD (en_as_mem h0)
    have h3 := List.all_eq_true.mp bb_c8_ok (r, mi / 1000) (List.mem_of_getElem? (i := mi / 1000) (by simp [List.getElem?_zipIdx, h1]))
    have h4 := List.all_eq_true.mp h3 _ h2
    dsimp only at h4
    rw [show 1000 * (mi / 1000) + (1000 * (mi % 1000) + idx) / 1000 = mi by omega] at h4
    simpa using h4
  · cases h0
set_option maxHeartbeats 4000000 in
theorem bb_RSt (had : ∀ i, ad (1000 + i) = adK (bb_ix i)) : en_RSt l bb_G bb_ML ad cA D bb_cl A bb_T bb_own bb_CD bb_hh bb_fr bb_lo (bb_FX adK adV A) := by
  intro mi pc idx kd y n ci i hcl p e R s m args below meth c H locs cells slots Q ls rest hcx hd hsz hS hsm hc hs
  obtain ⟨hx, hb, hr, hml, hlocks, hown9, hts, hK, hFX, htab, hRf, hRl⟩ := hcx
  obtain ⟨f1, f2, f3, f4, f5, f6, f7, f8⟩ := hFX
  obtain ⟨g1, g2⟩ := bb_fr8 hcl
  obtain ⟨c1, c2⟩ := bb_c5_at hcl
  have hml' : c.maxLocals = ls.size := by rw [hsz, hml]
  rw [had i, show en_SB bb_G i = bb_SB (bb_ix i) from bb_ix_SB i]
  refine ⟨fun hk => ?_, fun hk => ?_, fun hk => ?_⟩
  · subst hk
    simp only [bb_c5, bb_cc3, bb_key6 c2, Bool.and_eq_true, decide_eq_true_eq, beq_iff_eq] at c1
    intro k
    have e1 : bb_own mi = "BoxBearers$Reader" := c1.1
    rw [e1] at hown9
    obtain ⟨-, rfl⟩ := c1
    exact js_callV (own := "BoxBearers$Reader") (idx := 84) (n := 0) (As := []) (rest := rest) hx hb hml' hown9 hts f8 hS (bb_ix_lt i) (js_length (bb_ix_lt i)) (bi_spec (i := 749) (by decide +kernel)) js_wS (bi_spec (i := 823) (by decide +kernel)) (bi_spec (i := 747) (by decide +kernel)) (bi_spec (i := 748) (by decide +kernel)) ⟨by decide, by decide, by decide +kernel⟩ rfl ⟨by omega, by omega⟩ ⟨hc, hs⟩ hsm hd rfl k
  · subst hk
    simp only [bb_c5, bb_cc3, bb_key6 c2, Bool.and_eq_true, decide_eq_true_eq, beq_iff_eq] at c1
    intro j hj k
    have e1 : bb_own mi = "BoxBearers$Reader" := c1.1
    rw [e1] at hown9
    obtain ⟨-, rfl⟩ := c1
    exact js_callV (own := "BoxBearers$Reader") (idx := 87) (n := 1) (As := [.int j]) (rest := rest) hx hb hml' hown9 hts f8 hS (bb_ix_lt i) (js_charAt (bb_ix_lt i) hj) (bi_spec (i := 827) (by decide +kernel)) js_wS (bi_spec (i := 824) (by decide +kernel)) (bi_spec (i := 825) (by decide +kernel)) (bi_spec (i := 826) (by decide +kernel)) ⟨by decide, by decide, by decide +kernel⟩ rfl ⟨by omega, by omega⟩ ⟨hc, hs⟩ hsm hd rfl k
  · subst hk
    simp only [bb_c5, bb_cc3, bb_key6 c2, Bool.and_eq_true, decide_eq_true_eq, beq_iff_eq] at c1
    intro j k
    have e1 : bb_own mi = "BoxBearers$Reader" := c1.1
    rw [e1] at hown9
    obtain ⟨-, rfl⟩ := c1
    exact js_callV (own := "BoxBearers$Reader") (idx := 78) (n := 1) (As := [.int j]) (rest := rest) hx hb hml' hown9 hts f8 hS (bb_ix_lt i) (js_indexOf (bb_ix_lt i)) (bi_spec (i := 735) (by decide +kernel)) js_wS (bi_spec (i := 732) (by decide +kernel)) (bi_spec (i := 733) (by decide +kernel)) (bi_spec (i := 734) (by decide +kernel)) ⟨by decide, by decide, by decide +kernel⟩ rfl ⟨by omega, by omega⟩ ⟨hc, hs⟩ hsm hd rfl k
def bb_hr (cc : ByteArray) (n h t j : Nat) : Bool := decide (j < n) && (match decode cc h with
  | .ok (.astore_n k, 1) => (k : Nat) == j && (t == h + 1)
  | .ok (.astore k, 2) => k == j && (t == h + 2)
  | _ => false)
def bb_h1 (q : Nat × ((Nat × Nat × Nat × Nat) × List (Nat × Nat × Nat × Nat))) : Bool := decide (bb_own q.1 = "BoxBearersLaw") && ((bb_P q.1).all fun r => r.1 != 99999) && (match q.2.2 with
  | [(_, _, h, ct)] => (ct == 18 && bb_hr (bb_CD q.1) (bb_ML q.1) h q.2.1.1 q.2.1.2.1 && (q.2.1.2.2.1 == 99999)) || (ct == 13 && bb_hr (bb_CD q.1) (bb_ML q.1) h q.2.1.2.2.1 q.2.1.2.2.2 && (q.2.1.1 == 99999))
  | [(a, b, h, ct), (a', b', h', ct')] => ct == 18 && ct' == 13 && a == a' && b == b' && bb_hr (bb_CD q.1) (bb_ML q.1) h q.2.1.1 q.2.1.2.1 && bb_hr (bb_CD q.1) (bb_ML q.1) h' q.2.1.2.2.1 q.2.1.2.2.2
  | _ => false)
set_option maxRecDepth 100000 in
theorem bb_h1_ok : bk_h.all bb_h1 = true := by decide +kernel
theorem bb_get99 {l : List (Nat × Instr × Option (List Bool))} (h : (l.all fun r => r.1 != 99999) = true) : en_get l 99999 = none := by
  cases hg : en_get l 99999 with
  | none => rfl
  | some z =>
    obtain ⟨i, m⟩ := z
    have h1 := List.all_eq_true.mp h _ (en_get_mem hg)
    simp at h1
section BH
variable {p : Program} {e : Env} {R : Room} {s : State} {m : MethodId} {args : Array Value} {below : List Frame} {meth : Method} {c : Code} {H : Heap} {locs : List Loc} {cells slots : Nat} {Q : State → Prop}
theorem bb_ast {cc : ByteArray} {n h t j : Nat} {ls : Array Slot} {L : en_L} {q : Addr} (hx : p.tables.exec = Jvm.exec) (hb : c.code = cc) (hr : bb_hr cc n h t j = true) (hlv : en_lv ad ls n L)
    (k : ∀ ls', en_lv ad ls' n (en_set L j none) → W p l e R s m args below meth c H locs cells slots Q (F0 m t ls' [])) : W p l e R s m args below meth c H locs cells slots Q (F0 m h ls [.ref q]) := by
  unfold bb_hr at hr
  simp only [Bool.and_eq_true, decide_eq_true_eq] at hr
  obtain ⟨hj, hr⟩ := hr
  split at hr
  · next k9 hd =>
    simp only [Bool.and_eq_true, beq_iff_eq] at hr
    obtain ⟨rfl, rfl⟩ := hr
    exact lv_astore_n hx hb hd rfl hlv.has hj rfl (fun ls' h' => k ls' (en_lv.drop hlv.1 h'))
  · next k9 hd =>
    simp only [Bool.and_eq_true, beq_iff_eq] at hr
    obtain ⟨rfl, rfl⟩ := hr
    exact lv_astore hx hb hd hlv.has hj rfl (fun ls' h' => k ls' (en_lv.drop hlv.1 h'))
  · cases hr
end BH
set_option maxHeartbeats 4000000 in
theorem bb_RHd : en_RHd l bb_G bb_P bb_ML bb_HD ad cA D bb_cl bb_T bb_own bb_CD bb_hh bb_XN bb_fr bb_lo (bb_FX adK adV A) := by
  intro mi pc x t j hd hne p e R s m args below meth c H locs cells slots Q ls rest L q ce hcx hlv hce hcv hcl k
  obtain ⟨hx, hb, hr, hml, hlocks, hown9, hts, hK, hFX, htab, hRf, hRl⟩ := hcx
  obtain ⟨f1, f2, f3, f4, f5, f6, f7, f8⟩ := hFX
  unfold bb_HD at hd
  split at hd
  · next h12 =>
    split at hd
    · next z hz =>
      have hm := List.all_eq_true.mp bb_h1_ok _ (en_as_mem hz)
      have hhh : bb_hh mi = z.2 := by
        unfold bb_hh
        rw [h12]
        show (match en_as bk_h mi with | some z => z.2 | none => []) = z.2
        rw [hz]
      unfold bb_h1 at hm
      simp only [Bool.and_eq_true, decide_eq_true_eq] at hm
      obtain ⟨⟨e1, e2⟩, hm⟩ := hm
      have h99 := bb_get99 e2
      rw [e1] at hown9
      rw [hhh] at htab
      obtain ⟨⟨t1, j1, t2, j2⟩, rows⟩ := z
      dsimp only at hm hd htab
      have wN : (Cond.classLink "BoxBearersLaw" 18 "java/util/NoSuchElementException").before args s = true := hts _ (bi_spec (i := 964) (by decide +kernel))
      have wI : (Cond.classLink "BoxBearersLaw" 13 "java/lang/IllegalArgumentException").before args s = true := hts _ (bi_spec (i := 637) (by decide +kernel))
      have cN : (Cond.castable "java/util/NoSuchElementException" "java/util/NoSuchElementException").before args s = true := va_Nw.use rfl (f2 _ (by decide +kernel))
      have cI : (Cond.castable "java/lang/IllegalArgumentException" "java/lang/IllegalArgumentException").before args s = true := va_Nw.use rfl (f2 _ (by decide +kernel))
      split at hm
      · next a b h ct =>
        cases hcv9 : (Nat.ble a pc && Nat.blt pc b) with
        | false =>
          simp only [List.headD_cons, hcv9, cond_false, Option.some.injEq, Prod.mk.injEq] at hd
          rw [← hd.1] at hne
          exact absurd h99 hne
        | true =>
          simp only [List.headD_cons, hcv9, cond_true] at hd
          have hcov : covers ⟨a, b, h, ct⟩ pc = true := by
            simp only [Bool.and_eq_true, Nat.ble_eq, Nat.blt_eq] at hcv9
            simp [covers, hcv9.1, hcv9.2]
          have htab' : c.exceptionTable.toList = [] ++ ⟨a, b, h, ct⟩ :: [] := htab
          simp only [Bool.or_eq_true, Bool.and_eq_true, beq_iff_eq] at hm
          rcases hm with ⟨⟨rfl, g1⟩, g2⟩ | ⟨⟨rfl, g1⟩, g2⟩
          · unfold bb_hq at hd
            split at hd
            · next hx1 =>
              cases hd
              subst hx1
              exact vx_catch hown9 [] _ [] htab' (fun z hz => by cases hz) hcov (show (18 : Nat) ≠ 0 by decide) wN cN hce hcv hcl (bb_ast hx hb g1 hlv k)
            · split at hd
              · cases hd
                rw [g2] at hne
                exact absurd h99 hne
              · cases hd
                exact absurd h99 hne
          · unfold bb_hq at hd
            split at hd
            · cases hd
              rw [g2] at hne
              exact absurd h99 hne
            · next hx1 =>
              split at hd
              · next hx2 =>
                cases hd
                subst hx2
                exact vx_catch hown9 [] _ [] htab' (fun z hz => by cases hz) hcov (show (13 : Nat) ≠ 0 by decide) wI cI hce hcv hcl (bb_ast hx hb g1 hlv k)
              · cases hd
                exact absurd h99 hne
      · next a b h ct a' b' h' ct' =>
        cases hcv9 : (Nat.ble a pc && Nat.blt pc b) with
        | false =>
          simp only [List.headD_cons, hcv9, cond_false, Option.some.injEq, Prod.mk.injEq] at hd
          rw [← hd.1] at hne
          exact absurd h99 hne
        | true =>
          simp only [List.headD_cons, hcv9, cond_true] at hd
          simp only [Bool.and_eq_true, beq_iff_eq] at hm
          obtain ⟨⟨⟨⟨⟨rfl, rfl⟩, rfl⟩, rfl⟩, g1⟩, g2⟩ := hm
          have hcov : ∀ h0 c0 : Nat, covers ⟨a, b, h0, c0⟩ pc = true := by
            intro h0 c0
            simp only [Bool.and_eq_true, Nat.ble_eq, Nat.blt_eq] at hcv9
            simp [covers, hcv9.1, hcv9.2]
          unfold bb_hq at hd
          split at hd
          · next hx1 =>
            cases hd
            subst hx1
            exact vx_catch hown9 [] ⟨a, b, h, 18⟩ [⟨a, b, h', 13⟩] htab (fun z hz => by cases hz) (hcov _ _) (show (18 : Nat) ≠ 0 by decide) wN cN hce hcv hcl (bb_ast hx hb g1 hlv k)
          · split at hd
            · next hx2 =>
              cases hd
              subst hx2
              exact vx_catch hown9 [⟨a, b, h, 18⟩] ⟨a, b, h', 13⟩ [] htab (fun z hz => by
                rcases List.mem_singleton.mp hz with rfl
                exact Or.inr ⟨show (18 : Nat) ≠ 0 by decide, _, wN, f3⟩) (hcov _ _) (show (13 : Nat) ≠ 0 by decide) wI cI hce hcv hcl (bb_ast hx hb g2 hlv k)
            · cases hd
              exact absurd h99 hne
      · cases hm
    · cases hd
  · cases hd
end BR
