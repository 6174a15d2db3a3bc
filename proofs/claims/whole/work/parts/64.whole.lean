/-! THE LAW FROM ITS ENTRY: the objects are made; then its loop, turn by turn, over a relation of stores that is still to be given -/
def lw_P (b : Addr) (xs : List Int32) (args : Array Value) (s : State) : Prop := args = #[.ref b] ∧ s.IntsAt b xs ∧ xs.length ≤ 3072 ∧ (Jvm.Cond.and given_1 narrow_1).before args s = true
def lw_Q (_ : Array Value) (s : State) (o : Outcome) (t : State) : Prop := o = .returned (some (.int 1)) ∧ Framed s o t [] 601024 7293034
def lw_Z (below : List Frame) (a : Array Value) (s : State) : State → Prop := fun t => ∃ o, t.status = .running ∧ Ended t below o ∧ lw_Q a s o t
theorem lw_ret {p : Program} {l : Launch} {e : Env} {s : State} {m : MethodId} {below : List Frame} {meth : Method} {c : Code} {b : Nat} (hx : p.tables.exec = Jvm.exec) (hb : c.code = code) (hr : meth.sig.returnType = ret) (hlocks : meth.locks = false) {pc : Nat} {H : Heap} {ls : Array Slot} (hdg : decode code pc = .ok (.ireturn, 1)) : W p l e room_1 s m #[Value.ref b] below meth c H [] 601024 7293034 (lw_Z below #[Value.ref b] s) (F0 m pc ls [.int 1]) := by
  intro T hT X
  obtain ⟨fs, hret, hrun, hended, hW, hframe⟩ := X.leave (v := some (.int 1)) (hlocks := hlocks) (fun h => by rw [hr] at h; cases h)
  have hmeth' : T.vm.method? m = some meth := X.method'
  refine ⟨T.setFrames fs, ?_, .returned (some (.int 1)), hrun, hended, rfl, ⟨_, rfl⟩, hW, hframe⟩
  jvm_step X.here [X.here.top, hx, hb, hdg, hmeth', hr, ret, narrow_b1]
  (try refine ⟨rfl, ?_⟩); (try refine ⟨rfl, ?_⟩)
  first | (intro acts; rw [hret _ acts rfl rfl rfl]) | rw [hret _ _ rfl rfl rfl]
  exact Steps.refl _
def lw_At (p : Program) (s : State) (m : MethodId) (meth : Method) (c : Code) (b L : Nat) (xs : Nat → Int32) : Prop :=
  p.tables.exec = Jvm.exec ∧ c.code = code ∧ meth.sig.returnType = ret ∧ c.maxLocals = 7 ∧ s.vm.findClass R_law = some m.cls ∧ (∀ w ∈ lw_tbl, w.before #[Value.ref b] s = true) ∧ va_X b L xs s s.heap ∧ b < s.heap.size ∧ meth.locks = false ∧ (Jvm.Cond.and given_1 narrow_1).before #[Value.ref b] s = true
/-- the locals of the law at the head of its loop -/
def lw_L (v : Int32) : en_L := [some (.ref 900), some (.ref 31), some (.ref 0), some (.ref 30), some (.int v), none, none]
/-- what is owed of the stores: they stand in a relation at the start, and each turn of the loop keeps it -/
def lw_Owed (Rel : en_S → Prop) : Prop := Rel bd_0 ∧ ∀ (Ls : Nat) (xs : Nat → Int32) (σ : en_S) (k : Nat), Rel σ → Ls ≤ 3072 → 6 * k + 6 ≤ Ls → ∃ σ', Rel σ' ∧ ∀ kf : en_K, en_uk bb_G bb_P bb_ML bb_HD Ls xs 12035 kf 100 25 (lw_L (nI (6 * k))) [.int (nI (6 * k))] σ = kf 23 (lw_L (nI (6 * (k + 1)))) [] σ'
def js_tm (i : Nat) : Term := Term.string "BoxBearers$Reader" ((bb_st.map fun q => q.1.1).getD i 0)
set_option maxRecDepth 100000 in
theorem js_w1 : ∀ i, i < 18 → (Cond.exactly (js_tm i) "java/lang/String") ∈ flatC (Jvm.Cond.and given_1 narrow_1) := by decide +kernel
set_option maxRecDepth 100000 in
theorem js_w2 : ∀ i, i < 18 → (Cond.eq (.field (js_tm i) "java/lang/String" "coder" "B") (.int 0)) ∈ flatC (Jvm.Cond.and given_1 narrow_1) := by decide +kernel
set_option maxRecDepth 100000 in
theorem js_w3 : ∀ i, i < 18 → (Cond.arrayOf (.field (js_tm i) "java/lang/String" "value" "[B") .byte) ∈ flatC (Jvm.Cond.and given_1 narrow_1) := by decide +kernel
set_option maxRecDepth 100000 in
theorem js_w4 : ∀ i, i < 18 → (Cond.eq (.length (.field (js_tm i) "java/lang/String" "value" "[B")) (.int (Int32.ofNat (bb_SB i).length))) ∈ flatC (Jvm.Cond.and given_1 narrow_1) := by decide +kernel
set_option maxRecDepth 100000 in
theorem js_w5 : ∀ i, i < 18 → ∀ j, j < (bb_SB i).length → (Cond.eq (.elem (.field (js_tm i) "java/lang/String" "value" "[B") (.int (Int32.ofNat j))) (.int ((bb_SB i).getD j 0))) ∈ flatC (Jvm.Cond.and given_1 narrow_1) := by decide +kernel
set_option maxRecDepth 100000 in
theorem js_w6 : ∀ q ∈ bb_tx, (Cond.exactly (Term.string "BoxBearers" q.1) "java/lang/String") ∈ flatC (Jvm.Cond.and given_1 narrow_1) := by decide +kernel
set_option maxRecDepth 100000 in
theorem js_w7 : ∀ q ∈ bb_tx, (Cond.stringRef "BoxBearers" q.1 q.2) ∈ lw_tbl := by decide +kernel
set_option maxRecDepth 100000 in
theorem js_w8 : ∀ q ∈ bb_st, (Cond.stringRef "BoxBearers$Reader" q.1.1 q.1.2) ∈ lw_tbl ∧ q.2 < 18 ∧ js_tm q.2 = Term.string "BoxBearers$Reader" q.1.1 := by decide +kernel
set_option maxRecDepth 100000 in
theorem js_w9 : ∀ w ∈ bb_nd, w ∈ lw_tbl := by decide +kernel
theorem js_Sof {args : Array Value} {s : State} {A : Nat → Prop} (hs : ∀ w ∈ flatC (Jvm.Cond.and given_1 narrow_1), w.before args s = true) (hA : ∀ a : Nat, a < s.heap.size → ¬ A a) :
    ∃ adK adV : Nat → Nat, js_S adK adV A s s.heap ∧ ∀ i : Nat, i < 18 → (js_tm i).eval args s none [] s = some (.ref (adK i)) := by
  have h0 : ∀ i : Nat, ∃ q : Nat × Nat, i < 18 → (js_tm i).eval args s none [] s = some (.ref q.1) ∧ va_O "java/lang/String" q.1 A s s.heap ∧ va_OF "java/lang/String" "coder" "B" (.int 0) q.1 A s s.heap ∧ va_OF "java/lang/String" "value" "[B" (.ref q.2) q.1 A s s.heap ∧ va_T .byte q.2 (bb_SB i).length (fun j => .int ((bb_SB i).getD j 0)) A s s.heap := by
    intro i
    by_cases hi : i < 18
    · obtain ⟨a, c, cA, kA, q1, q2, q3, q4, q5, q6, -⟩ := Cond.exactly_spec (args := args) (first := s) (o := none) (s := s) (idx := []) (t := js_tm i) (cls := "java/lang/String") (hs _ (js_w1 i hi))
      obtain ⟨t, ht, hT⟩ := va_Tof (f := fun j => .int ((bb_SB i).getD j 0)) (A := A) (js_all i hi).1 (hs _ (js_w3 i hi)) (va_eqt (hs _ (js_w4 i hi))) (fun j hj => va_eqt (hs _ (js_w5 i hi j hj))) hA
      exact ⟨(a, t), fun _ => ⟨q1, ⟨cA, q3, q5, by rw [q6]; exact q2, hA a (Array.getElem?_eq_some_iff.mp q3).1⟩, vk_OFof q1 (va_eqt (hs _ (js_w2 i hi))) hA, vk_OFof q1 ht hA, hT⟩⟩
    · exact ⟨(0, 0), fun h => absurd h hi⟩
  obtain ⟨ad, had⟩ := Classical.axiomOfChoice h0
  exact ⟨fun i => (ad i).1, fun i => (ad i).2, fun i hi => (had i hi).2, fun i hi => (had i hi).1⟩
set_option maxRecDepth 100000 in
theorem js_FXof {args : Array Value} {s : State} {A : Nat → Prop} (hts : ∀ w ∈ lw_tbl, w.before args s = true) (hgv : (Jvm.Cond.and given_1 narrow_1).before args s = true) (hA : ∀ a : Nat, a < s.heap.size → ¬ A a) : ∃ adK adV : Nat → Nat, bb_FX adK adV A s s.heap := by
  have hs := flat_of_before _ hgv
  obtain ⟨adK, adV, h1, h2⟩ := js_Sof hs hA
  have lay : ∀ w, w ∈ lw_tbl → w.before args s = true := hts
  refine ⟨adK, adV, fun w hw => ?_, fun w hw => ?_, va_Nc.of (hs (.not (.castable "java/lang/IllegalArgumentException" "java/util/NoSuchElementException")) (by decide +kernel)), ?_, ?_, fun q hq => ?_, fun q hq => ?_, h1, ?_, ?_⟩
  · have hk := List.all_eq_true.mp bb_wk_nw w hw
    have ho : w.onTables = true := by cases w <;> first | rfl | cases hk
    exact va_Nw.of ho (hts _ (bb_nw_in w hw))
  · have hk := List.all_eq_true.mp bb_wk_nd w hw
    have ho : w.onTables = true := by cases w <;> first | rfl | cases hk
    exact va_Nw.of ho (hts _ (js_w9 w hw))
  · exact vx_Zqof (hts (.laysStatic Bundle.tN "UNASSIGNED_STACK" Bundle.steD) (by decide +kernel)) (hts (.initialized Bundle.tN) (by decide +kernel)) (hs (.isRef (.static Bundle.tN "UNASSIGNED_STACK" Bundle.steD)) (by decide +kernel)) hA
  · exact vx_Zqof (hts (.laysStatic Bundle.tN "SUPPRESSED_SENTINEL" Bundle.listD) (by decide +kernel)) (hts (.initialized Bundle.tN) (by decide +kernel)) (hs (.isRef (.static Bundle.tN "SUPPRESSED_SENTINEL" Bundle.listD)) (by decide +kernel)) hA
  · obtain ⟨g1, g2, g3⟩ := js_w8 q hq
    have h3 := h2 q.2 g2
    rw [g3] at h3
    exact vk_R.of (A := args) (hts _ g1) h3
  · obtain ⟨a, c, cA, kA, q1, -⟩ := Cond.exactly_spec (args := args) (first := s) (o := none) (s := s) (idx := []) (t := Term.string "BoxBearers" q.1) (cls := "java/lang/String") (hs _ (js_w6 q hq))
    exact ⟨a, vk_R.of (A := args) (hts _ (js_w7 q hq)) q1⟩
  · exact va_Zof (hts (.laysStatic "java/lang/String" "COMPACT_STRINGS" "Z") (by decide +kernel)) (hts (.initialized "java/lang/String") (by decide +kernel)) (va_eqt (hs (.eq (.static "java/lang/String" "COMPACT_STRINGS" "Z") (.int 1)) (by decide +kernel))) hA
  · exact va_Zqof (hts (.laysStatic "jdk/internal/util/Preconditions" "SIOOBE_FORMATTER" "Ljava/util/function/BiFunction;") (by decide +kernel)) (hts (.initialized "jdk/internal/util/Preconditions") (by decide +kernel)) (hs (.isRef (.static "jdk/internal/util/Preconditions" "SIOOBE_FORMATTER" "Ljava/util/function/BiFunction;")) (by decide +kernel)) hA
theorem bb_arr {args : Array Value} {s : State} {ty : FieldType} (h : (Cond.arrayClass ty).before args s = true) : ∃ c : ClassId, ArrOfT s c ty ∧ s.vm.findClass ("[" ++ ty.toString) = some c := by
  obtain ⟨c, k, comp, h1, h2, h3⟩ := Cond.arrayClass_spec (show (Cond.arrayClass ty).holds args s none s [] = true from h)
  exact ⟨c, fun n z => ⟨fun k h => (by cases h), k, h2, comp, h3⟩, h1⟩
theorem bb_Kof {args : Array Value} {s : State} (hts : ∀ w ∈ bb_T, w.before args s = true) : ∃ (D : va_G) (cA : Nat → ClassId), va_K D bb_cl (en_tys cA) s := by
  have h0 : ∀ ci : Nat, ∃ z : ClassId × (Nat → Nat), ∀ q : vw_C, bb_cl[ci]? = some q → u_Kn s q.1 q.2.1 q.2.2 z.1 z.2 := by
    intro ci
    cases hc : bb_cl[ci]? with
    | none => exact ⟨(0, fun _ => 0), fun q hq => by cases hq⟩
    | some q =>
      obtain ⟨C, T, N⟩ := q
      obtain ⟨a1, -⟩ := bb_TF1 ci C T N hc
      obtain ⟨-, -, b3, -⟩ := bd_TF1 ci C T N hc
      obtain ⟨c, iS, hK⟩ := u_known (C := C) (T := T) (N := N) (n := N) hts a1 (hts _ b3)
      exact ⟨(c, iS), fun q hq => by cases hq; exact hK⟩
  obtain ⟨f, hf⟩ := Classical.axiomOfChoice h0
  obtain ⟨-, -, -, w1, w2, w3, w4⟩ := bd_TF
  obtain ⟨c0, a0, b0⟩ := bb_arr (hts _ w1)
  obtain ⟨c1, a1, b1⟩ := bb_arr (hts _ w2)
  obtain ⟨c2, a2, b2⟩ := bb_arr (hts _ w3)
  obtain ⟨c3, a3, b3⟩ := bb_arr (hts _ w4)
  refine ⟨(fun ci => (f ci).1, fun ci => (f ci).2), fun k => if k = 0 then c0 else if k = 1 then c1 else if k = 2 then c2 else c3, fun ci q hq => hf ci q hq, fun k q hq => ?_⟩
  match k, hq with
  | 0, hq => cases hq; exact ⟨a0, b0⟩
  | 1, hq => cases hq; exact ⟨a1, b1⟩
  | 2, hq => cases hq; exact ⟨a2, b2⟩
  | 3, hq => cases hq; exact ⟨a3, b3⟩
  | k + 4, hq => simp [en_tys] at hq
set_option maxRecDepth 100000 in
theorem bd_hnp : ∀ pc i mk, en_get (bd_P 12035) pc = some (i, mk) → ∀ idx, i ≠ .putfield idx := by
  intro pc i mk hg idx e
  subst e
  have h : (bd_pre.all fun q => match q.2.1 with | .putfield _ => false | _ => true) = true := by decide +kernel
  have h1 := List.all_eq_true.mp h _ (en_get_mem (show en_get bd_pre pc = some (.putfield idx, mk) from hg))
  cases h1
theorem bb_lprog : ∀ pc i mk, en_get (bb_P 12035) pc = some (i, mk) → en_chk (bb_CD 12035) pc i = true ∧ (∀ bs, mk = some bs → bs.length = bb_ML 12035) ∧ en_li i = true := by
  intro pc i mk hg
  have h := List.all_eq_true.mp bb_lp_ok _ (en_get_mem hg)
  unfold bb_lp at h
  simp only [Bool.and_eq_true] at h
  refine ⟨h.1.1, fun bs hb => ?_, h.2⟩
  subst hb
  simpa using h.1.2
def bb_lk (e : Nat × (Nat × Nat × Nat × Nat)) : Bool := !(e.1 / 1000 == 35) || (e.2.1 == 0) || (e.2.1 == 9)
theorem bb_lk_ok : bc_12.all bb_lk = true := by decide +kernel
theorem bb_lkind : ∀ idx k y n ci, en_CL bb_G 12035 idx = some (k, y, n, ci) → k = 0 ∨ k = 9 := by
  intro idx k y n ci h
  have h0 : (if idx < 1000 then en_as (bb_CLL.getD 12 []) (1000 * 35 + idx) else none) = some (k, y, n, ci) := h
  split at h0
  · next hi =>
    have h1 := List.all_eq_true.mp bb_lk_ok _ (en_as_mem (show en_as bc_12 (1000 * 35 + idx) = some (k, y, n, ci) from h0))
    simp only [bb_lk, Bool.or_eq_true, Bool.not_eq_true', beq_eq_false_iff_ne, ne_eq, beq_iff_eq] at h1
    rcases h1 with (h1 | h1) | h1
    · exact absurd (by omega) h1
    · exact Or.inl h1
    · exact Or.inr h1
  · cases h0
theorem bb_lst9 : ∀ idx y n ci, en_CL bb_G 12035 idx = some (9, y, n, ci) → en_MV bb_G bb_P bb_ML bb_T bb_own bb_yN bb_CD bb_hh bb_fr bb_lo y ∧ (∃ h r, bb_hh y = h :: r) ∧ Cond.methodLink (bb_own 12035) idx (bb_yN y) ∈ bb_T ∧ Cond.static (bb_yN y) ∈ bb_T ∧ (parseMethodDescriptor (bb_yN y).desc).map (fun d => d.parameters.length) = some n ∧ n ≤ bb_ML y ∧ bb_fr y + 1 ≤ bb_fr 12035 ∧ 8 + (bb_ML y + 11) + bb_lo y ≤ bb_lo 12035 := by
  intro idx y n ci h
  obtain ⟨i, h1, hi⟩ := bb_cl_at h
  simp only [bb_c1, (bb_key3 (mi := 12035) hi).1, (bb_key3 (mi := 12035) hi).2, Bool.and_eq_true, decide_eq_true_eq, List.contains_iff_mem] at h1
  obtain ⟨⟨⟨⟨⟨⟨⟨a1, a2⟩, a3⟩, a4⟩, a5⟩, a6⟩, a7⟩, a8⟩ := h1
  refine ⟨bb_MV y a1, ?_, bi_spec a3, bi_spec a4, a5, a6, a7, a8⟩
  cases hh : bb_hh y with
  | nil => exact absurd hh a2
  | cons h r => exact ⟨h, r, rfl⟩
theorem lw_lt {Ls a : Nat} (h : Ls < a + 6) (hL : Ls ≤ 3072) (ha : a ≤ Ls) : Int32.ofNat Ls - 6 < nI a := by
  rw [Int32.lt_iff_toInt_lt]
  have h1 : (Int32.ofNat Ls).toInt = Ls := Int32.toInt_ofNat_of_lt (by omega)
  have h2 : (nI a).toInt = a := Int32.toInt_ofNat_of_lt (by omega)
  have h6 : (6 : Int32).toInt = 6 := rfl
  rw [Jvm.Kit.i32_sub (by omega) (by omega), h1, h2, h6]
  omega
set_option maxRecDepth 100000 in
theorem lw_end (Ls : Nat) (xs : Nat → Int32) (kf : en_K) (σ : en_S) (v4 : Int32) : en_uk bb_G bb_P bb_ML bb_HD Ls xs 12035 kf 100 25 (lw_L v4) [.int v4] σ = if Int32.ofNat Ls - 6 < v4 then some (.inl (some (.int 1)), σ) else en_uk bb_G bb_P bb_ML bb_HD Ls xs 12035 kf 95 33 (lw_L v4) [] σ := rfl
section LW
variable {p : Program} {l : Launch} {e : Env} {s : State} {m : MethodId} {below : List Frame} {meth : Method} {c : Code}
set_option maxHeartbeats 4000000 in
/-- the loop: from its head on -/
theorem lw_loop {Rel : en_S → Prop} (hO : lw_Owed Rel) (hfl : l.stackTraces = false) {b Ls : Nat} {xs : Nat → Int32} (hL : Ls ≤ 3072) (C0 : lw_At p s m meth c b Ls xs) {ad adK adV : Nat → Nat} {cA : Nat → ClassId} {D : va_G}
    (had : ∀ i, ad (1000 + i) = adK (bb_ix i)) (hinj : ∀ i j, i < 106 → j < 106 → ad i = ad j → i = j) (hadA : ∀ i, i < 106 → s.heap.size ≤ ad i) (hb2 : ad 900 = b) (hK : va_K D bb_cl (en_tys cA) s) (hFX : bb_FX adK adV (fun q => s.heap.size ≤ q) s s.heap) {c0 s0 : Nat} (hc0 : c0 ≤ 1000) (hs0 : s0 ≤ 600000) :
    ∀ (d k : Nat) (σ : en_S) (cu : Nat) (H : Heap) (locs : List Loc) (ls : Array Slot), Rel σ → 6 * k ≤ Ls → Ls < 6 * (k + d) → cu ≤ 200 * k → en_lv ad ls 7 (lw_L (nI (6 * k))) → va_P D bb_cl (en_ws bb_G ad cA σ) H → va_S (fun q => s.heap.size ≤ q) s.heap H locs →
      W p l e room_1 s m #[Value.ref b] below meth c H locs (c0 + cu) (s0 + 6 * cu) (lw_Z below #[Value.ref b] s) (F0 m 23 ls []) := by
  obtain ⟨hx, hb, hr, hml, hown, hts, hX, hbl, hlocks, hgv⟩ := id C0
  have hts' : ∀ w ∈ bb_T, w.before #[Value.ref b] s = true := fun w hw => hts w (bb_T_in w hw)
  have hALL := bb_ALL (l := l) (adK := adK) (adV := adV) (cA := cA) (D := D) (A := fun q => s.heap.size ≤ q) (ad := ad) hfl had hinj hadA
  have hcd : bb_CD 12035 = code := rfl
  have law := fun kf : en_K => en_law (kf := kf) (e := e) (below := below) (meth := meth) (Q := lw_Z below #[Value.ref b] s) (R := room_1) (c0 := c0) (s0 := s0) (b := b) hALL (mi := 12035) (Ls := Ls) (xs := xs) hx (by rw [hcd]; exact hb) (hml.trans (by decide +kernel)) (by rw [show bb_own 12035 = R_law by decide +kernel]; exact hown) hts' hK hFX (by decide +kernel) (by decide +kernel) rfl rfl hX hbl (Nat.not_le.mpr hbl) hb2 rfl bb_lprog bb_lkind bb_lst9
  intro d
  induction d with
  | zero => intro k σ cu H locs ls _ h1 h2; omega
  | succ d ih =>
    intro k σ cu H locs ls hR h1 h2 hcu hlv hP hS
    have hat : ls[4]? = some (.val (.int (nI (6 * k)))) := hlv.at (i := 4) (v := .int (nI (6 * k))) rfl
    refine lv_iload (i := 4) hx hb (by decide +kernel) hat ?_
    by_cases hend : 6 * k + 6 ≤ Ls
    · obtain ⟨σ', hR', he⟩ := hO.2 Ls xs σ k hR hL hend
      refine law (fun pc L st τ => if pc = 23 ∧ L = lw_L (nI (6 * (k + 1))) ∧ st = [] then some (.inl none, τ) else none) 100 25 (lw_L (nI (6 * k))) [.int (nI (6 * k))] σ (.inl none, σ') cu H locs ls ((he _).trans (if_pos ⟨rfl, rfl, rfl⟩)) (by omega) (by omega) hlv hP hS (fun pc' L' st' τ ls' H' locs' cu' hk hcu' hl' hP' hS' => ?_) (fun pc' τ v ls' H' locs' cu' _ ho => by cases ho)
      have hk : (if pc' = 23 ∧ L' = lw_L (nI (6 * (k + 1))) ∧ st' = [] then some ((.inl none, τ) : en_O) else none) = some (.inl none, σ') := hk
      by_cases hc : pc' = 23 ∧ L' = lw_L (nI (6 * (k + 1))) ∧ st' = []
      · have h9 : some ((.inl none, τ) : en_O) = some (.inl none, σ') := (if_pos hc).symm.trans hk
        have hττ : τ = σ' := (Prod.mk.inj (Option.some.inj h9)).2
        obtain ⟨rfl, rfl, rfl⟩ := hc
        subst hττ
        exact ih (k + 1) τ cu' H' locs' ls' hR' (by omega) (by omega) (by omega) hl' hP' hS'
      · have h9 : (none : Option en_O) = some (.inl none, σ') := (if_neg hc).symm.trans hk
        cases h9
    · refine law (fun _ _ _ _ => none) 100 25 (lw_L (nI (6 * k))) [.int (nI (6 * k))] σ (.inl (some (.int 1)), σ) cu H locs ls ?_ (by omega) (by omega) hlv hP hS (fun pc' L' st' τ ls' H' locs' cu' hk => by cases hk) (fun pc' τ v ls' H' locs' cu' hd ho hcu' hS' => ?_)
      · rw [lw_end, if_pos (lw_lt (by omega) hL h1)]
      · cases ho
        refine va_forget (fun q hq => hS'.2.2 q hq) (W.widen (k := 601024) (n := 7293034) (by omega) (by omega) ?_)
        exact lw_ret hx hb hr hlocks (by rw [← hcd]; exact hd)
set_option maxHeartbeats 4000000 in
theorem lw_start {Rel : en_S → Prop} (hO : lw_Owed Rel) (hflags : l.flags = flags0) {b Ls : Nat} {xs : Nat → Int32} (hL : Ls ≤ 3072) (C0 : lw_At p s m meth c b Ls xs) : W p l e room_1 s m #[Value.ref b] below meth c s.heap [] 0 0 (lw_Z below #[Value.ref b] s) (entryFrame m ([Value.ref b] : List Value).toArray 7) := by
  obtain ⟨hx, hb, hr, hml, hown, hts, hX, hbl, hlocks, hgv⟩ := id C0
  have hts' : ∀ w ∈ bb_T, w.before #[Value.ref b] s = true := fun w hw => hts w (bb_T_in w hw)
  have hnA : ∀ a : Nat, a < s.heap.size → ¬ (fun q : Nat => s.heap.size ≤ q) a := fun a h => Nat.not_le.mpr h
  obtain ⟨adK, adV, hFX⟩ := js_FXof hts hgv hnA
  obtain ⟨D, cA, hK⟩ := bb_Kof hts'
  obtain ⟨S, hrun, hlen, hc0, hs0, hcs, hmt⟩ := bd_run_eq
  obtain ⟨ad', had'⟩ : ∃ f : Nat → Nat, f = fun k => if k < 1000 then s.heap.size + k else b := ⟨_, rfl⟩
  obtain ⟨ad, had⟩ : ∃ f : Nat → Nat, f = fun k => if k < 106 then s.heap.size + bd_pl k else if k = 900 then b else adK (bb_ix (k - 1000)) := ⟨_, rfl⟩
  have hcd : bb_CD 12035 = code := rfl
  have ha1 : ∀ k, k < 1000 → ad' k = s.heap.size + k := fun k hk => by rw [had']; exact if_pos hk
  have ha2 : ∀ q, q < 106 → ad q = ad' (bd_pl q) := by
    intro q hq
    have hp : bd_pl q < 1000 := by unfold bd_pl; split <;> (try split) <;> omega
    rw [ha1 _ hp, had]
    exact if_pos hq
  have h2000 : ad 900 = b := by rw [had]; rfl
  have hix : ∀ i, ad (1000 + i) = adK (bb_ix i) := by
    intro i
    have h1 : ¬ (1000 + i < 106) := by omega
    have h2 : ¬ (1000 + i = 900) := by omega
    rw [had]
    show (if 1000 + i < 106 then _ else if 1000 + i = 900 then b else adK (bb_ix (1000 + i - 1000))) = _
    rw [if_neg h1, if_neg h2, show 1000 + i - 1000 = i by omega]
  have hinj : ∀ i j, i < 106 → j < 106 → ad i = ad j → i = j := by
    intro i j hi hj h
    have h1 : bd_pl i < 1000 := by unfold bd_pl; split <;> (try split) <;> omega
    have h2 : bd_pl j < 1000 := by unfold bd_pl; split <;> (try split) <;> omega
    rw [ha2 i hi, ha2 j hj, ha1 _ h1, ha1 _ h2] at h
    have h3 : bd_pl i = bd_pl j := by omega
    unfold bd_pl at h3
    split at h3 <;> split at h3 <;> (try split at h3) <;> (try split at h3) <;> omega
  have hadA : ∀ i, i < 106 → s.heap.size ≤ ad i := by
    intro i hi
    have h1 : bd_pl i < 1000 := by unfold bd_pl; split <;> (try split) <;> omega
    rw [ha2 i hi, ha1 _ h1]
    omega
  have hl := en_entry (ad := ad') (as := [.ref 2000]) (n := 7) rfl (by decide)
  have e2 : ad' 2000 = b := by rw [had']; rfl
  rw [lg_entry_eq]
  have e3 : ([Value.ref b] : List Value) = [Value.ref 2000].map (en_cv ad') := by
    show _ = [Value.ref (ad' 2000)]
    rw [e2]
  have hl0 : en_lv ad' ((lg_sl ([Value.ref b] : List Value) ++ List.replicate (7 - (lg_sl ([Value.ref b] : List Value)).length) Slot.unset).toArray) 7 [some (.ref 2000), none, none, none, none, none, none] := by
    rw [e3]
    exact hl
  refine dn_law (e := e) (below := below) (meth := meth) (G := bb_G) (P := bd_P) (ML := bb_ML) (Z := bd_Z) (base := s.heap.size) (ad := ad') (cA := cA) (D := D) (cl := bb_cl) (A := fun q => s.heap.size ≤ q) (TT := bb_T) (tyC := bb_ty) (own := bb_own) (yN := bb_yN) (CD := bb_CD) (fr := bb_fr) (lo := bb_lo) (NX := fun U => ∀ w ∈ bb_nw, va_Nw w U) (R := room_1)
    bd_TF bb_T_good ha1 (fun q h => h) (fun u U hW h w hw => bb_wk_warm (List.all_eq_true.mp bb_wk_nw w hw) hW (h w hw)) (fun U h => bd_CF h) (mi := 12035) (stop := 23) bd_PVL hx (by rw [hcd]; exact hb) (hml.trans (by decide +kernel)) (by rw [show bb_own 12035 = R_law by decide +kernel]; exact hown) hts' hK hFX.1 (Nat.le_refl _) (by decide +kernel) (by decide +kernel) (by decide +kernel) (by decide +kernel) (by decide +kernel) (by decide +kernel) bd_hnp 50 0 [some (.ref 2000), none, none, none, none, none, none] [] ([], 0, 0) _ hrun (Nat.zero_le _) (Nat.zero_le _) s.heap [] _ hl0 ⟨by simp, by simp, fun k q h => by simp [dn_ws] at h⟩ va_S.rf (fun H' locs' ls' hl' hP' hS' => ?_)
  have hlv : en_lv ad ls' 7 (lw_L (nI (6 * 0))) := by
    refine ⟨rfl, hl'.2.1, hl'.2.2.1, fun i v hi => ?_⟩
    match i, hi with
    | 0, hi =>
      cases hi
      rw [hl'.at (i := 0) (v := .ref 2000) rfl]
      show some (Slot.val (.ref (ad' 2000))) = some (.val (.ref (ad 900)))
      rw [e2, h2000]
    | 1, hi =>
      cases hi
      rw [hl'.at (i := 1) (v := .ref 0) rfl]
      show some (Slot.val (.ref (ad' 0))) = some (.val (.ref (ad 31)))
      rw [ha2 31 (by omega)]
      rfl
    | 2, hi =>
      cases hi
      rw [hl'.at (i := 2) (v := .ref 75) rfl]
      show some (Slot.val (.ref (ad' 75))) = some (.val (.ref (ad 0)))
      rw [ha2 0 (by omega)]
      rfl
    | 3, hi =>
      cases hi
      rw [hl'.at (i := 3) (v := .ref 105) rfl]
      show some (Slot.val (.ref (ad' 105))) = some (.val (.ref (ad 30)))
      rw [ha2 30 (by omega)]
      rfl
    | 4, hi =>
      cases hi
      exact hl'.at (i := 4) (v := .int 0) rfl
    | 5, hi => cases hi
    | 6, hi => cases hi
    | n + 7, hi => cases hi
  have hgo := lw_loop (e := e) (below := below) hO (bb_nT hflags) hL C0 hix hinj hadA h2000 hK hFX hc0 hs0 (Ls + 1) 0 bd_0 0 H' locs' ls' hO.1 (by omega) (by omega) (by omega) hlv (bd_world hcs hmt ha2 hP') hS'
  exact hgo
end LW
