/-! THE CONSTRUCTORS of this claim: the small machine's tables, run by the kernel; the cells in the engine's places -/
def bd_nw : List (Nat × Nat) := [(2000052, 5), (10000024, 2), (10000034, 4), (10000043, 9), (10000055, 3), (10000062, 7), (10000082, 8), (10000091, 6), (10000100, 1), (12035008, 10), (12035123, 0)]
def bd_NW : Nat → Nat → Option Nat := fun mi idx => if idx < 1000 then en_as bd_nw (1000 * mi + idx) else none
def bd_sp : List (Nat × (Nat × Nat × Nat)) := [(1, (0, 0, 1)), (1000001, (0, 0, 1)), (2000003, (0, 0, 1)), (2000054, (2, 5000, 1)), (3000003, (0, 0, 1)), (4000003, (0, 0, 1)), (5000003, (0, 0, 1)), (6000003, (0, 0, 1)), (7000003, (0, 0, 1)), (8000003, (0, 0, 1)), (9000005, (0, 0, 1)), (10000001, (0, 0, 1)), (10000026, (2, 2000, 1)), (10000036, (1, 4000, 3)), (10000045, (1, 9000, 2)), (10000057, (2, 3000, 1)), (10000064, (2, 7000, 1)), (10000084, (1, 8000, 2)), (10000093, (1, 6000, 4)), (10000102, (2, 1000, 1)), (12035122, (1, 10000, 1)), (12035125, (1, 0, 1))]
def bd_SP : Nat → Nat → Option (Nat × Nat × Nat) := fun mi idx => if idx < 1000 then en_as bd_sp (1000 * mi + idx) else none
def bd_DFl : List (List Value) := [[.int 0, .int 0, .int 0, .int 0, .int 0, .int 0, .int 0, .null, .null, .null, .null, .null, .null, .null, .int 0, .int 0, .int 0, .null, .int 0, .int 0, .int 0, .int 0, .int 0, .int 0, .int 0, .long 0, .int 0, .int 0, .int 0, .int 0, .int 0, .int 0, .int 0, .int 0, .int 0, .int 0, .null, .null, .null, .null, .null, .null, .null, .null, .null, .null, .null, .int 0, .null, .null, .int 0, .int 0, .int 0, .null, .null, .int 0, .null, .null, .null, .int 0, .int 0, .int 0, .int 0, .null, .null, .null], [.int 0], [.int 0, .int 0, .null, .null, .null, .int 0, .null, .null, .null, .int 0, .null, .null, .null, .null, .null], [.int 0, .null], [.null, .null, .int 0, .int 0, .int 0, .int 0, .int 0, .int 0, .int 0, .int 0, .int 0], [.int 0, .int 0, .null, .null], [.null, .null, .null, .null, .null, .null, .int 0, .int 0, .int 0], [.int 0, .null, .null, .null], [.null, .null, .null], [.null, .int 0, .null, .null, .null, .null, .int 0, .int 0, .null], [.null, .int 0, .int 0, .null, .null, .null, .null, .null, .null, .null, .null, .int 0, .null, .null, .null, .null, .null, .null, .null]]
def bd_DF : Nat → List Value := fun ci => bd_DFl.getD ci []
def bd_cm : List (Nat × Nat) := [(0, 29), (1000, 0), (2000, 15), (3000, 1), (4000, 0), (5000, 2), (6000, 3), (7000, 3), (8000, 2), (9000, 5), (10000, 74), (12035, 601024)]
def bd_sm : List (Nat × Nat) := [(0, 116000), (1000, 0), (2000, 52008), (3000, 4000), (4000, 0), (5000, 8000), (6000, 12000), (7000, 12000), (8000, 8000), (9000, 20000), (10000, 228109), (12035, 7293034)]
def bd_CM : Nat → Nat := fun mi => (en_as bd_cm mi).getD 0
def bd_SM : Nat → Nat := fun mi => (en_as bd_sm mi).getD 0
def bd_Z : dn_T := (bd_NW, bd_SP, bd_DF, bd_CM, bd_SM)
def bd_pre : List (Nat × Instr × Option (List Bool)) := [(0, .new 8, none), (3, .dup, none), (4, .invokespecial 122, none), (7, .astore_n 1, none), (8, .new 123, none), (11, .dup, none), (12, .invokespecial 125, none), (15, .astore_n 2, none), (16, .iconst 1, none), (17, .newarray .long, none), (19, .astore_n 3, none), (20, .iconst 0, none), (21, .istore 4, none)]
def bd_P : en_P := fun mi => if mi = 12035 then bd_pre else bb_P mi
theorem bdf_0 : ∀ k, k < 66 → defaultValue (tyX10 k) = vp_V (bd_DF 0) k ∧ (TX10 k).1 = RX10 := by decide +kernel
theorem bdf_1 : ∀ k, k < 1 → defaultValue (tyX0 k) = vp_V (bd_DF 1) k ∧ (TX0 k).1 = RX0 := by decide +kernel
theorem bdf_2 : ∀ k, k < 15 → defaultValue (tyX1 k) = vp_V (bd_DF 2) k ∧ (TX1 k).1 = RX1 := by decide +kernel
theorem bdf_3 : ∀ k, k < 2 → defaultValue (tyX2 k) = vp_V (bd_DF 3) k ∧ (TX2 k).1 = RX2 := by decide +kernel
theorem bdf_4 : ∀ k, k < 11 → defaultValue (tyX3 k) = vp_V (bd_DF 4) k ∧ (TX3 k).1 = RX3 := by decide +kernel
theorem bdf_5 : ∀ k, k < 4 → defaultValue (tyX4 k) = vp_V (bd_DF 5) k ∧ (TX4 k).1 = RX4 := by decide +kernel
theorem bdf_6 : ∀ k, k < 9 → defaultValue (tyX5 k) = vp_V (bd_DF 6) k ∧ (TX5 k).1 = RX5 := by decide +kernel
theorem bdf_7 : ∀ k, k < 4 → defaultValue (tyX6 k) = vp_V (bd_DF 7) k ∧ (TX6 k).1 = RX6 := by decide +kernel
theorem bdf_8 : ∀ k, k < 3 → defaultValue (tyX7 k) = vp_V (bd_DF 8) k ∧ (TX7 k).1 = RX7 := by decide +kernel
theorem bdf_9 : ∀ k, k < 9 → defaultValue (tyX8 k) = vp_V (bd_DF 9) k ∧ (TX8 k).1 = RX8 := by decide +kernel
theorem bdf_10 : ∀ k, k < 19 → defaultValue (tyX9 k) = vp_V (bd_DF 10) k ∧ (TX9 k).1 = RX9 := by decide +kernel
theorem bd_nr : (bd_DFl.all fun l => l.all fun v => match v with | .ref _ => false | _ => true) = true := by decide +kernel
theorem bd_nr' {ci : Nat} : ∀ v ∈ bd_DF ci, ∀ q, v ≠ .ref q := by
  intro v hv q e
  subst e
  obtain ⟨r, h1, h2⟩ := bb_getD hv
  have h3 := List.all_eq_true.mp (List.all_eq_true.mp bd_nr r (List.mem_of_getElem? h1)) _ h2
  cases h3
theorem bd_TF1 : ∀ (ci : Nat) (C : String) (T : u_T) (N : Nat), bb_cl[ci]? = some (C, T, N) → (bd_DF ci).length = N ∧ (∀ k, k < N → defaultValue (bb_ty ci k) = vp_V (bd_DF ci) k ∧ (T k).1 = C) ∧ Cond.instantiable C N ∈ bb_T ∧ Cond.initialized C ∈ bb_T
  | 0, _, _, _, h => by cases h; exact ⟨by decide +kernel, bdf_0, bi_spec (i := 1449) (by decide +kernel), bi_spec (i := 122) (by decide +kernel)⟩
  | 1, _, _, _, h => by cases h; exact ⟨by decide +kernel, bdf_1, bi_spec (i := 422) (by decide +kernel), bi_spec (i := 121) (by decide +kernel)⟩
  | 2, _, _, _, h => by cases h; exact ⟨by decide +kernel, bdf_2, bi_spec (i := 146) (by decide +kernel), bi_spec (i := 113) (by decide +kernel)⟩
  | 3, _, _, _, h => by cases h; exact ⟨by decide +kernel, bdf_3, bi_spec (i := 335) (by decide +kernel), bi_spec (i := 117) (by decide +kernel)⟩
  | 4, _, _, _, h => by cases h; exact ⟨by decide +kernel, bdf_4, bi_spec (i := 249) (by decide +kernel), bi_spec (i := 115) (by decide +kernel)⟩
  | 5, _, _, _, h => by cases h; exact ⟨by decide +kernel, bdf_5, bi_spec (i := 152) (by decide +kernel), bi_spec (i := 114) (by decide +kernel)⟩
  | 6, _, _, _, h => by cases h; exact ⟨by decide +kernel, bdf_6, bi_spec (i := 385) (by decide +kernel), bi_spec (i := 120) (by decide +kernel)⟩
  | 7, _, _, _, h => by cases h; exact ⟨by decide +kernel, bdf_7, bi_spec (i := 349) (by decide +kernel), bi_spec (i := 118) (by decide +kernel)⟩
  | 8, _, _, _, h => by cases h; exact ⟨by decide +kernel, bdf_8, bi_spec (i := 369) (by decide +kernel), bi_spec (i := 119) (by decide +kernel)⟩
  | 9, _, _, _, h => by cases h; exact ⟨by decide +kernel, bdf_9, bi_spec (i := 290) (by decide +kernel), bi_spec (i := 116) (by decide +kernel)⟩
  | 10, _, _, _, h => by cases h; exact ⟨by decide +kernel, bdf_10, bi_spec (i := 138) (by decide +kernel), bi_spec (i := 112) (by decide +kernel)⟩
  | n + 11, _, _, _, h => by simp [bb_cl] at h
def bd_n1 (e : Nat × Nat) (i : List Nat) : Bool := match bb_cl[e.2]? with
  | some (C, _, _) => bi (i.headD 0) (Cond.classLink (bb_own (e.1 / 1000)) (e.1 % 1000) C)
  | none => false
theorem bd_n1_ok : bi_2 bd_nw [[151], [145], [248], [289], [334], [348], [368], [384], [421], [137], [1448]] bd_n1 = true := by decide +kernel
theorem bd_k3 {mi idx : Nat} (h : idx < 1000) : (1000 * mi + idx) / 1000 = mi ∧ (1000 * mi + idx) % 1000 = idx := by omega
theorem bd_TF : dn_TF bb_G bd_Z bb_T bb_cl bb_ty bb_own := by
  refine ⟨fun ci C T N h => ?_, fun mi idx ci k h => (bb_TF3 mi idx ci k h).2, fun mi idx ci h => ?_, bi_spec (i := 173) (by decide +kernel), bi_spec (i := 172) (by decide +kernel), bi_spec (i := 1653) (by decide +kernel), bi_spec (i := 2121) (by decide +kernel)⟩
  · obtain ⟨a1, a2, a3, -⟩ := bb_TF1 ci C T N h
    obtain ⟨b1, b2, b3, b4⟩ := bd_TF1 ci C T N h
    exact ⟨a1, a2, a3, b1, fun k hk => (b2 k hk).1, bd_nr', fun k hk => (b2 k hk).2, b3, b4⟩
  · have h0 : (if idx < 1000 then en_as bd_nw (1000 * mi + idx) else none) = some ci := h
    split at h0
    · next hi =>
      obtain ⟨i, h1⟩ := bi_2s bd_n1_ok _ (en_as_mem h0)
      unfold bd_n1 at h1
      simp only [(bd_k3 (mi := mi) hi).1, (bd_k3 (mi := mi) hi).2] at h1
      split at h1
      · next C T N hc => exact ⟨C, T, N, hc, bi_spec h1⟩
      · cases h1
    · cases h0
def bd_pv (mi : Nat) : Bool := (bd_P mi).all fun q => dn_chk (bb_CD mi) q.1 q.2.1 && (match q.2.1 with
  | .putfield idx => (match en_FD bb_G mi idx with
    | some (ci, _) => (match bb_cl[ci]? with
      | some (C, _, _) => decide (C = bb_own mi)
      | none => false)
    | none => true)
  | _ => true)
theorem bd_pv_ok {mi : Nat} (h : bd_pv mi = true) : dn_PV bb_G bd_P bb_cl bb_own bb_CD mi := by
  intro pc i m hg
  have h1 := List.all_eq_true.mp h _ (en_get_mem hg)
  simp only [Bool.and_eq_true] at h1
  refine ⟨h1.1, fun idx hi ci f hf => ?_⟩
  subst hi
  have h2 := h1.2
  dsimp only at h2
  rw [hf] at h2
  dsimp only at h2
  split at h2
  · next C T N hc => exact ⟨C, T, N, hc, of_decide_eq_true h2⟩
  · cases h2
def bd_mv (y : Nat) (i : List Nat) : Bool := bi (i.getD 0 0) (dn_wd bb_ML bb_yN bb_CD y) && plainName (bb_yN y).cls && decide ((bb_yN y).cls = bb_own y) && bi (i.getD 1 0) (Cond.initialized (bb_own y)) && decide ((bb_yN y).cls ≠ "java/lang/invoke/MethodHandle") && decide ((bb_yN y).cls ≠ "java/lang/invoke/VarHandle") && decide (8 ≤ bb_fr y) && decide (200 ≤ bb_lo y) && decide ((bb_yN y).name = "<init>") && bd_pv y
theorem bd_mv_ok {y : Nat} {i : List Nat} (h : bd_mv y i = true) : dn_MV bb_G bd_P bb_ML bb_cl bb_T bb_own bb_yN bb_CD bb_fr bb_lo y := by
  unfold bd_mv at h
  simp only [Bool.and_eq_true, decide_eq_true_eq] at h
  obtain ⟨⟨⟨⟨⟨⟨⟨⟨⟨h1, h2⟩, h3⟩, h4⟩, h5⟩, h6⟩, h7⟩, h8⟩, h9⟩, h10⟩ := h
  exact ⟨bi_spec h1, h2, h3, bi_spec h4, ⟨h5, h6⟩, h7, h8, h9, bd_pv_ok h10⟩
def bd_vl : List Nat := [0, 1000, 2000, 3000, 4000, 5000, 6000, 7000, 8000, 9000, 10000]
set_option maxRecDepth 100000 in
theorem bd_mvw : bi_2 bd_vl [[1452, 122], [425, 121], [149, 113], [338, 117], [252, 115], [155, 114], [388, 120], [352, 118], [372, 119], [293, 116], [141, 112]] bd_mv = true := by decide +kernel
theorem bd_MV : ∀ y ∈ bd_vl, dn_MV bb_G bd_P bb_ML bb_cl bb_T bb_own bb_yN bb_CD bb_fr bb_lo y := fun y hy => by
  obtain ⟨i, hi⟩ := bi_2s bd_mvw y hy
  exact bd_mv_ok hi
set_option maxRecDepth 100000 in
theorem bd_PVL : dn_PV bb_G bd_P bb_cl bb_own bb_CD 12035 := bd_pv_ok (by decide +kernel)
def bd_s1 (e : Nat × (Nat × Nat × Nat)) (i : List Nat) : Bool :=
  let mi := e.1 / 1000
  let idx := e.1 % 1000
  let y := e.2.2.1
  let n := e.2.2.2
  match e.2.1 with
  | 0 => bi (i.getD 0 0) (Cond.methodLink (bb_own mi) idx Lib.objectInit) && bi (i.getD 1 0) (Cond.instanceMethod Lib.objectInit) && bi (i.getD 2 0) (Cond.code Lib.objectInit ⟨#[0xb1]⟩ 1 none)
  | _ => bd_vl.contains y && (bi (i.getD 0 0) (Cond.methodLink (bb_own mi) idx (bb_yN y)) || bb_nw.contains (Cond.methodLinkNest (bb_own mi) idx (bb_yN y) "BoxBearers")) && bi (i.getD 1 0) (Cond.instanceMethod (bb_yN y)) && decide ((parseMethodDescriptor (bb_yN y).desc).map (fun d => d.parameters.length) = some (n - 1)) && decide (1 ≤ n) && decide (n ≤ bb_ML y) && decide (bb_fr y + 1 ≤ bb_fr mi) && decide (8 + (bb_ML y + 11) + bb_lo y ≤ bb_lo mi)
set_option maxRecDepth 100000 in
theorem bd_s1_ok : bi_2 bd_sp [[1453, 143, 144], [426, 143, 144], [150, 143, 144], [0, 154], [339, 143, 144], [253, 143, 144], [156, 143, 144], [389, 143, 144], [353, 143, 144], [373, 143, 144], [294, 143, 144], [142, 143, 144], [0, 148], [250, 251], [291, 292], [0, 337], [0, 351], [370, 371], [386, 387], [0, 424], [139, 140], [1450, 1451]] bd_s1 = true := by decide +kernel
theorem bd_sp_at {mi idx : Nat} {z : Nat × Nat × Nat} (h : dn_SP bd_Z mi idx = some z) : ∃ i, bd_s1 (1000 * mi + idx, z) i = true ∧ idx < 1000 := by
  have h0 : (if idx < 1000 then en_as bd_sp (1000 * mi + idx) else none) = some z := h
  split at h0
  · next hi =>
    obtain ⟨i, h1⟩ := bi_2s bd_s1_ok _ (en_as_mem h0)
    exact ⟨i, h1, hi⟩
  · cases h0
theorem bd_CF {U : State} (hN : ∀ w ∈ bb_nw, va_Nw w U) : dn_CF bb_G bd_P bb_ML bd_Z bb_cl bb_T bb_own bb_yN bb_CD bb_fr bb_lo U := by
  refine ⟨fun mi idx y n h => ?_, fun mi idx q y n h hq => ?_⟩
  · obtain ⟨i, h1, hi⟩ := bd_sp_at h
    simp only [bd_s1, (bd_k3 (mi := mi) hi).1, (bd_k3 (mi := mi) hi).2, Bool.and_eq_true] at h1
    exact ⟨bi_spec h1.1.1, bi_spec h1.1.2, bi_spec h1.2⟩
  · obtain ⟨i, h1, hi⟩ := bd_sp_at h
    unfold bd_s1 at h1
    simp only [(bd_k3 (mi := mi) hi).1, (bd_k3 (mi := mi) hi).2] at h1
    simp only [Bool.and_eq_true, Bool.or_eq_true, decide_eq_true_eq, List.contains_iff_mem] at h1
    obtain ⟨⟨⟨⟨⟨⟨⟨a1, a2⟩, a3⟩, a4⟩, a5⟩, a6⟩, a7⟩, a8⟩ := h1
    refine ⟨bd_MV y a1, ?_, bi_spec a3, a4, a5, a6, a7, a8⟩
    rcases a2 with a2 | a2
    · exact Or.inl (bi_spec a2)
    · exact Or.inr ⟨_, hN _ a2⟩
/-- a place's cell, by the order in which the cells are made -/
def bd_pl (p : Nat) : Nat := if p < 30 then 75 + p else if p = 30 then 105 else p - 31
def bd_run : Option (en_L × List Value × dn_S) := dn_upto bb_G bd_P bb_ML bd_Z bb_ty 12035 23 50 0 [some (.ref 2000), none, none, none, none, none, none] [] ([], 0, 0)
def bd_cs : List dn_C := match bd_run with
  | some z => z.2.2.1
  | none => []
def bd_v : Option dn_C → Nat → Int32
  | some (.inl (_, fs)), k => (match fs[k]? with
    | some (.int x) => x
    | _ => 0)
  | some (.inr (_, _, f)), k => f k
  | none, _ => 0
/-- the store at the start -/
def bd_0 : en_S := (fun p => bd_v bd_cs[bd_pl p]?, fun _ _ => 0)
def bd_mk (d : Nat) (v : Value) : Bool := match d, v with
  | 0, .int _ => true
  | 1, .long x => decide (x = 0)
  | 2, .int _ => true
  | q + 3, .ref r => decide (q < 106) && (r == bd_pl q)
  | _, _ => false
def bd_mt (sh : Nat × List Nat) (x : dn_C) : Bool := match x with
  | .inl (ci, fs) => (sh.1 == ci) && decide (ci < 20) && (sh.2.length == fs.length) && (sh.2.zip fs).all (fun q => bd_mk q.1 q.2)
  | .inr (q, n, _) => (sh.1 == 20 + q) && decide (q < 4) && (sh.2.headD 0 == n)
def bd_chk : Bool := match bd_run with
  | some (L, st, S) => decide (L = [some (.ref 2000), some (.ref 0), some (.ref 75), some (.ref 105), some (.int 0), none, none]) && decide (st = []) && (S.1.length == 106) && (bk_sh.length == 106) && (bk_sh.zipIdx.all fun q => match S.1[bd_pl q.2]? with
    | some x => bd_mt q.1 x
    | none => false) && decide (S.2.1 ≤ 1000) && decide (S.2.2 ≤ 600000)
  | none => false
set_option maxRecDepth 1000000 in
theorem bd_chk_ok : bd_chk = true := by decide +kernel
theorem bd_mt_cell {ad ad' : Nat → Nat} {cA : Nat → ClassId} {sh : Nat × List Nat} {x : dn_C} {p : Nat} {σ : en_S} (h : bd_mt sh x = true) (had : ∀ q, q < 106 → ad q = ad' (bd_pl q)) (h1 : σ.1 p = bd_v (some x)) (h2 : σ.2 p = fun _ => 0) : en_cell ad cA sh p σ = dn_cell ad' cA x := by
  obtain ⟨c, ds⟩ := sh
  cases x with
  | inl z =>
    obtain ⟨ci, fs⟩ := z
    simp only [bd_mt, Bool.and_eq_true, beq_iff_eq, decide_eq_true_eq] at h
    obtain ⟨⟨⟨rfl, g1⟩, g2⟩, g3⟩ := h
    unfold en_cell dn_cell
    rw [if_pos g1]
    show Sum.inr (c, en_fs ad p σ ds) = Sum.inr (c, fs.map (en_cv ad'))
    congr 2
    apply List.ext_getElem?
    intro k
    rw [List.getElem?_map]
    cases hd : ds[k]? with
    | none =>
      have hl : ds.length ≤ k := by simpa using hd
      rw [List.getElem?_eq_none (by rw [en_fs_len]; exact hl), List.getElem?_eq_none (by omega)]
      rfl
    | some d =>
      have hk : k < fs.length := by rw [← g2]; exact (List.getElem?_eq_some_iff.mp hd).1
      rw [en_fs_at hd, List.getElem?_eq_getElem hk]
      have hm : bd_mk d fs[k] = true := List.all_eq_true.mp g3 (d, fs[k]) (List.mem_of_getElem? (i := k) (by rw [List.getElem?_zip_eq_some]; exact ⟨hd, List.getElem?_eq_getElem hk⟩))
      have hv : σ.1 p k = (match fs[k]? with
        | some (.int x) => x
        | _ => 0) := by rw [h1]; rfl
      rw [List.getElem?_eq_getElem hk] at hv
      show some (en_slv ad p σ k d) = some (en_cv ad' fs[k])
      congr 1
      generalize fs[k] = v at hm hv
      unfold bd_mk at hm
      split at hm
      · simp only [en_slv, en_cv, hv]
      · simp only [en_slv, en_cv, h2]
        rw [of_decide_eq_true hm]
      · simp only [en_slv, en_cv, hv]
      · simp only [Bool.and_eq_true, decide_eq_true_eq, beq_iff_eq] at hm
        simp only [en_slv, en_cv]
        rw [had _ hm.1, hm.2]
      · cases hm
  | inr z =>
    obtain ⟨q, n, f⟩ := z
    simp only [bd_mt, Bool.and_eq_true, beq_iff_eq, decide_eq_true_eq] at h
    obtain ⟨⟨rfl, g1⟩, g2⟩ := h
    have hf : bd_v (some (.inr (q, n, f))) = f := rfl
    unfold en_cell dn_cell
    dsimp only
    rw [if_neg (by omega), h1, h2, hf, g2]
    by_cases h3 : q = 3
    · rw [if_pos (by omega), if_pos h3]
    · rw [if_neg (by omega), if_neg h3, show 20 + q - 20 = q by omega]
theorem bd_run_eq : ∃ S : dn_S, bd_run = some ([some (.ref 2000), some (.ref 0), some (.ref 75), some (.ref 105), some (.int 0), none, none], [], S) ∧ S.1.length = 106 ∧ S.2.1 ≤ 1000 ∧ S.2.2 ≤ 600000 ∧ bd_cs = S.1 ∧ ∀ p sh, bk_sh[p]? = some sh → ∃ x, S.1[bd_pl p]? = some x ∧ bd_mt sh x = true := by
  have h := bd_chk_ok
  unfold bd_chk at h
  split at h
  · next L st S hr =>
    simp only [Bool.and_eq_true, decide_eq_true_eq, beq_iff_eq] at h
    obtain ⟨⟨⟨⟨⟨⟨rfl, rfl⟩, h3⟩, h4⟩, h5⟩, h6⟩, h7⟩ := h
    refine ⟨S, hr, h3, h6, h7, by unfold bd_cs; rw [hr], fun p sh hp => ?_⟩
    have h8 := List.all_eq_true.mp h5 (sh, p) (List.mem_of_getElem? (i := p) (by simp [List.getElem?_zipIdx, hp]))
    dsimp only at h8
    split at h8
    · next x hx => exact ⟨x, hx, h8⟩
    · cases h8
  · cases h
theorem bd_sh_len : bk_sh.length = 106 := by decide +kernel
/-- the engine's world, out of the cells that were made -/
theorem bd_world {base : Nat} {ad ad' : Nat → Nat} {cA : Nat → ClassId} {D : va_G} {H : Heap} {S : dn_S} (hS : bd_cs = S.1) (hx : ∀ p sh, bk_sh[p]? = some sh → ∃ x, S.1[bd_pl p]? = some x ∧ bd_mt sh x = true) (had : ∀ q, q < 106 → ad q = ad' (bd_pl q)) (hP : dn_P base ad' cA D bb_cl S.1 H) : va_P D bb_cl (en_ws bb_G ad cA bd_0) H := by
  intro p z hz
  cases hs : (en_SH bb_G)[p]? with
  | none => rw [en_ws_no hs] at hz; cases hz
  | some sh =>
    rw [en_ws_at hs] at hz
    cases hz
    obtain ⟨x, hx1, hx2⟩ := hx p sh hs
    have hp : p < 106 := by rw [← bd_sh_len]; exact (List.getElem?_eq_some_iff.mp hs).1
    have h1 : bd_0.1 p = bd_v (some x) := by
      simp only [bd_0]
      rw [hS, hx1]
    rw [bd_mt_cell hx2 had h1 rfl, had p hp]
    exact hP.2.2 (bd_pl p) _ (dn_ws_at hx1)
