/-- what the tables say -/
def en_TF (G : en_G) (TT : List Cond) (cl : List vw_C) (tyC : Nat → Nat → FieldType) (own : Nat → String) : Prop :=
  (∀ (ci : Nat) (C : String) (T : u_T) (N : Nat), cl[ci]? = some (C, T, N) → (∀ w ∈ u_ws C T N, w ∈ TT) ∧ (∀ k, k < N → parseFieldDescriptor (T k).2.2.1 = some (tyC ci k)) ∧ (∀ a, a < N → ∀ b, b < N → a ≠ b → (T a).2.1 ≠ (T b).2.1) ∧ ∀ k, k < N → (tyC ci k = .int ∨ tyC ci k = .long ∨ tyC ci k = .boolean) → (T k).2.2.2 = false) ∧
  (∀ (p c : Nat) (ds : List Nat), (en_SH G)[p]? = some (c, ds) → c < 20 → ∃ (C : String) (T : u_T) (N : Nat), cl[c]? = some (C, T, N) ∧ ds.length = N ∧ ∀ k d, ds[k]? = some d → (d = 0 → tyC c k = .int) ∧ (d = 1 → tyC c k = .long) ∧ (d = 2 → tyC c k = .boolean)) ∧
  (∀ mi idx ci k, en_FD G mi idx = some (ci, k) → ci < 20 ∧ ∀ (C : String) (T : u_T) (N : Nat), cl[ci]? = some (C, T, N) → k < N ∧ Cond.fieldLink (own mi) idx (T k).1 (T k).2.1 (T k).2.2.1 ∈ TT) ∧
  (∀ mi idx v, en_KC G mi idx = some (.inl v) → Cond.constant (own mi) idx v ∈ TT) ∧
  (∀ mi idx v, en_KL G mi idx = some v → Cond.constantLong (own mi) idx v ∈ TT)
theorem en_arr_spec {G : en_G} {p kind n : Nat} (h : en_arr G p kind = some n) : ∃ r, (en_SH G)[p]? = some (kind, n :: r) := by
  unfold en_arr at h
  split at h
  · next c m r hs =>
    split at h
    · next hc => cases h; subst hc; exact ⟨r, hs⟩
    · cases h
  · cases h
theorem en_fld_spec {G : en_G} {ad : Nat → Nat} {σ : en_S} {p ci k : Nat} {v : Value} (h : en_fld G σ p ci k = some v) : ∃ ds d, (en_SH G)[p]? = some (ci, ds) ∧ ds[k]? = some d ∧ en_slv ad p σ k d = en_cv ad v := by
  unfold en_fld at h
  split at h
  · next c ds hs =>
    split at h
    · next hc =>
      subst hc
      split at h
      · next hd => cases h; exact ⟨ds, 0, hs, hd, rfl⟩
      · next hd => cases h; exact ⟨ds, 1, hs, hd, rfl⟩
      · next hd => cases h; exact ⟨ds, 2, hs, hd, rfl⟩
      · next q hd => cases h; exact ⟨ds, q + 3, hs, hd, rfl⟩
      · cases h
    · cases h
  · cases h
theorem en_put_spec {G : en_G} {σ σ' : en_S} {p ci k : Nat} {v : Value} (h : en_put G σ p ci k v = some σ') : ∃ ds d, (en_SH G)[p]? = some (ci, ds) ∧ ds[k]? = some d ∧
    ((d = 0 ∧ ∃ x, v = .int x ∧ σ' = (en_u1 σ.1 p k x, σ.2)) ∨ (d = 1 ∧ ∃ x, v = .long x ∧ σ' = (σ.1, en_u2 σ.2 p k x)) ∨ (d = 2 ∧ ∃ x, v = .int x ∧ (x = 0 ∨ x = 1) ∧ σ' = (en_u1 σ.1 p k x, σ.2))) := by
  unfold en_put at h
  split at h
  · next c ds hs =>
    split at h
    · next hc =>
      subst hc
      split at h
      · next x hd => cases h; exact ⟨ds, 0, hs, hd, Or.inl ⟨rfl, x, rfl, rfl⟩⟩
      · next x hd => cases h; exact ⟨ds, 1, hs, hd, Or.inr (Or.inl ⟨rfl, x, rfl, rfl⟩)⟩
      · next x hd =>
        split at h
        · next hx => cases h; exact ⟨ds, 2, hs, hd, Or.inr (Or.inr ⟨rfl, x, rfl, hx, rfl⟩)⟩
        · cases h
      · cases h
    · cases h
  · cases h
theorem en_fs_set {ad : Nat → Nat} {p : Nat} {σ σ' : en_S} {ds : List Nat} {k d : Nat} (hd : ds[k]? = some d) (h : ∀ j e, j ≠ k → en_slv ad p σ j e = en_slv ad p σ' j e) : (en_fs ad p σ ds).set k (en_slv ad p σ' k d) = en_fs ad p σ' ds := by
  apply List.ext_getElem?
  intro j
  by_cases hj : j = k
  · subst hj
    rw [List.getElem?_set_self (by rw [en_fs_len]; exact (List.getElem?_eq_some_iff.mp hd).1), en_fs_at hd]
  · rw [List.getElem?_set_ne (Ne.symm hj)]
    cases he : ds[j]? with
    | none =>
      have hl : ds.length ≤ j := by simpa using he
      rw [List.getElem?_eq_none (by rw [en_fs_len]; exact hl), List.getElem?_eq_none (by rw [en_fs_len]; exact hl)]
    | some e => rw [en_fs_at he, en_fs_at he, h j e hj]
theorem en_u1_ne {f : Nat → Nat → Int32} {p i q : Nat} {v : Int32} (h : q ≠ p) : f q = en_u1 f p i v q := by
  unfold en_u1
  rw [if_neg h]
theorem en_u1_eq {f : Nat → Nat → Int32} {p i : Nat} {v : Int32} : en_u1 f p i v p = upd (f p) i v := by
  unfold en_u1
  rw [if_pos rfl]
theorem en_u2_ne {f : Nat → Nat → Int64} {p i q : Nat} {v : Int64} (h : q ≠ p) : f q = en_u2 f p i v q := by
  unfold en_u2
  rw [if_neg h]
theorem en_u2_eq {f : Nat → Nat → Int64} {p i : Nat} {v : Int64} : en_u2 f p i v p = vp_updL (f p) i v := by
  unfold en_u2
  rw [if_pos rfl]
theorem en_uf_ne {f : Nat → Nat → Int32} {p q : Nat} {g : Nat → Int32} (h : q ≠ p) : f q = en_uf f p g q := by
  unfold en_uf
  rw [if_neg h]
theorem en_uf_eq {f : Nat → Nat → Int32} {p : Nat} {g : Nat → Int32} : en_uf f p g p = g := by
  unfold en_uf
  rw [if_pos rfl]
theorem en_slv1 {ad : Nat → Nat} {p : Nat} {σ : en_S} {k j e : Nat} {x : Int32} (h : j ≠ k) : en_slv ad p σ j e = en_slv ad p (en_u1 σ.1 p k x, σ.2) j e := by
  match e with
  | 0 => simp [en_slv, en_u1_eq, upd, h]
  | 1 => rfl
  | 2 => simp [en_slv, en_u1_eq, upd, h]
  | q + 3 => rfl
theorem en_slv2 {ad : Nat → Nat} {p : Nat} {σ : en_S} {k j e : Nat} {x : Int64} (h : j ≠ k) : en_slv ad p σ j e = en_slv ad p (σ.1, en_u2 σ.2 p k x) j e := by
  match e with
  | 0 => rfl
  | 1 => simp [en_slv, en_u2_eq, vp_updL, h]
  | 2 => rfl
  | q + 3 => rfl
section ES
variable {p : Program} {l : Launch} {e : Env} {R : Room} {s : State} {m : MethodId} {args : Array Value} {below : List Frame} {meth : Method} {c : Code} {H : Heap} {locs : List Loc} {cells slots : Nat} {Q : State → Prop}
variable {G : en_G} {ad : Nat → Nat} {cA : Nat → ClassId} {D : va_G} {cl : List vw_C} {A : Nat → Prop} {TT : List Cond} {tyC : Nat → Nat → FieldType} {own : Nat → String} {cc : ByteArray} {nL mi pc : Nat} {ls : Array Slot} {L : en_L} {st : List Value} {σ : en_S} {k : en_K} {call : Nat → List Value → en_S → Option en_O} {kx : Nat → en_L → Nat → en_S → Option en_O} {out : en_O} {i : Instr}
set_option maxHeartbeats 4000000 in
theorem en_sim1 (hT : en_TF G TT cl tyC own) (hx : p.tables.exec = Jvm.exec) (hb : c.code = cc) (hown : s.vm.findClass (own mi) = some m.cls) (hts : ∀ w ∈ TT, w.before args s = true) (hK : va_K D cl (en_tys cA) s)
    (hstr : ∀ idx q, en_KC G mi idx = some (.inr q) → ∃ tx, vk_R (own mi) idx tx (ad q) s)
    (hDD : ∀ σ, va_D A (en_ws G ad cA σ)) (hchk : en_chk cc pc i = true)
    (h : en_step G mi pc i L st σ k call kx = some out) (hl : en_lv ad ls nL L) (hP : va_P D cl (en_ws G ad cA σ) H) (hS : va_S A s.heap H locs)
    (hk : ∀ pc' L' st' σ' ls' H' locs', k pc' L' st' σ' = some out → en_lv ad ls' nL L' → va_P D cl (en_ws G ad cA σ') H' → va_S A s.heap H' locs' → W p l e R s m args below meth c H' locs' cells slots Q (F0 m pc' ls' (st'.map (en_cv ad))))
    (hrest : (∃ idx, i = .invokevirtual idx) ∨ (∃ idx, i = .invokestatic idx) ∨ (∃ idx, i = .new idx) ∨ i = .ireturn ∨ i = .lreturn ∨ i = .return_ → W p l e R s m args below meth c H locs cells slots Q (F0 m pc ls (st.map (en_cv ad)))) :
    W p l e R s m args below meth c H locs cells slots Q (F0 m pc ls (st.map (en_cv ad))) := by
  obtain ⟨n9, hd9, hn9, ho⟩ := en_chk_spec hchk
  have hd : ¬ en_len i = 0 → decode cc pc = .ok (i, en_len i) := fun z => by rw [hd9, hn9 z]
  obtain ⟨tC, tS, tF, tK, tL⟩ := hT
  have go : ∀ pc' L' st' σ', k pc' L' st' σ' = some out → σ' = σ → ∀ ls', en_lv ad ls' nL L' → W p l e R s m args below meth c H locs cells slots Q (F0 m pc' ls' (st'.map (en_cv ad))) := by
    intro pc' L' st' σ' h1 h2 ls' h3
    subst h2
    exact hk _ _ _ _ _ _ _ h1 h3 hP hS
  cases i with
  | iconst n => exact lv_iconst hx hb (hd (by simp [en_len])) rfl (go _ _ _ _ h rfl _ hl)
  | bipush n => exact lv_bipush hx hb (hd (by simp [en_len])) rfl (go _ _ _ _ h rfl _ hl)
  | sipush n => exact lv_sipush hx hb (hd (by simp [en_len])) rfl (go _ _ _ _ h rfl _ hl)
  | lconst n => exact lv_lconst hx hb (hd (by simp [en_len])) rfl (go _ _ _ _ h rfl _ hl)
  | ldc idx =>
    simp only [en_step] at h
    split at h
    · next v hv => exact lv_ldc hx hb hown (hts _ (tK _ _ _ hv)) (hd (by simp [en_len])) (go _ _ _ _ h rfl _ hl)
    · next q hq =>
      obtain ⟨tx, hR⟩ := hstr _ _ hq
      exact va_ldcS hx hb hown hR (hd (by simp [en_len])) (go _ _ _ _ h rfl _ hl)
    · cases h
  | ldc_w idx =>
    simp only [en_step] at h
    split at h
    · next v hv => exact lv_ldcw hx hb hown (hts _ (tK _ _ _ hv)) (hd (by simp [en_len])) (go _ _ _ _ h rfl _ hl)
    · cases h
  | ldc2_w idx =>
    simp only [en_step] at h
    split at h
    · next v hv => exact lv_ldc2 hx hb hown (hts _ (tL _ _ _ hv)) (hd (by simp [en_len])) (go _ _ _ _ h rfl _ hl)
    · cases h
  | iload_n j =>
    simp only [en_step] at h
    split at h
    · next x hv => exact lv_iload_n hx hb (hd (by simp [en_len])) rfl (hl.at hv) (go _ _ _ _ h rfl _ hl)
    · cases h
  | iload j =>
    simp only [en_step] at h
    split at h
    · next x hv => exact lv_iload hx hb (hd (by simp [en_len])) (hl.at hv) (go _ _ _ _ h rfl _ hl)
    · cases h
  | lload j =>
    simp only [en_step] at h
    split at h
    · next x hv => exact lv_lload hx hb (hd (by simp [en_len])) (hl.at hv) (go _ _ _ _ h rfl _ hl)
    · cases h
  | aload_n j =>
    simp only [en_step] at h
    split at h
    · next x hv => exact lv_aload_n hx hb (hd (by simp [en_len])) rfl (hl.at hv) (go _ _ _ _ h rfl _ hl)
    · cases h
  | aload j =>
    simp only [en_step] at h
    split at h
    · next x hv => exact lv_aload hx hb (hd (by simp [en_len])) (hl.at hv) (go _ _ _ _ h rfl _ hl)
    · cases h
  | istore_n j =>
    simp only [en_step] at h
    split at h
    · next x r =>
      split at h
      · next hj => exact lv_istore_n hx hb (hd (by simp [en_len])) rfl hl.has (by rw [← hl.1]; exact hj) rfl (fun ls' h' => go _ _ _ _ h rfl _ (en_lv.store hl.1 h' (by rw [← hl.1]; exact hj)))
      · cases h
    · cases h
  | istore j =>
    simp only [en_step] at h
    split at h
    · next x r =>
      split at h
      · next hj => exact lv_istore hx hb (hd (by simp [en_len])) hl.has (by rw [← hl.1]; exact hj) rfl (fun ls' h' => go _ _ _ _ h rfl _ (en_lv.store hl.1 h' (by rw [← hl.1]; exact hj)))
      · cases h
    · cases h
  | lstore j =>
    simp only [en_step] at h
    split at h
    · next x r =>
      split at h
      · next hj =>
        refine lv_lstore hx hb (hd (by simp [en_len])) hl.has (by rw [← hl.1]; exact hj) rfl (fun ls' h' => go _ _ _ _ h rfl _ ?_)
        refine ⟨by rw [List.length_set, en_set_len]; exact hl.1, h'.1, h'.2.1, fun a w ha => ?_⟩
        by_cases e1 : a = j + 1
        · subst e1
          rw [List.getElem?_set_self (by rw [en_set_len]; exact hj)] at ha
          cases ha
        · rw [List.getElem?_set_ne (Ne.symm e1)] at ha
          by_cases e2 : a = j
          · subst e2
            unfold en_set at ha
            rw [List.getElem?_set_self (by rw [en_clr_len]; omega)] at ha
            cases ha
            exact h'.2.2 _ List.mem_cons_self
          · obtain ⟨h1, h2⟩ := en_set_at ha e2
            refine h'.2.2 (a, en_cv ad w) (List.mem_cons_of_mem _ (List.mem_filter.mpr ⟨en_prs_mem.mpr ⟨w, h1, rfl⟩, ?_⟩))
            simp only [Bool.and_eq_true, Bool.not_eq_true', beq_eq_false_iff_ne, ne_eq, Bool.and_eq_false_iff]
            refine ⟨e2, e1, ?_⟩
            by_cases hc : (en_cv ad w).category = 2
            · left
              intro e
              exact h2 ⟨e, en_cv2 hc⟩
            · right
              exact hc
      · cases h
    · cases h
  | iinc j n =>
    simp only [en_step] at h
    split at h
    · next x hv =>
      have hm : (j, Value.int x) ∈ en_prs ad L := en_prs_mem.mpr ⟨.int x, hv, rfl⟩
      obtain ⟨q, hq⟩ := List.getElem?_of_mem hm
      have hj : j < nL := by rw [← hl.1]; exact (List.getElem?_eq_some_iff.mp hv).1
      exact lv_iinc hx hb (hd (by simp [en_len])) hl.has hq rfl hj rfl (fun ls' h' => go _ _ _ _ h rfl _ (en_lv.store hl.1 h' hj))
    · cases h
  | iadd =>
    simp only [en_step] at h
    split at h
    · exact lv_iadd hx hb (hd (by simp [en_len])) (go _ _ _ _ h rfl _ hl)
    · cases h
  | isub =>
    simp only [en_step] at h
    split at h
    · exact lv_isub hx hb (hd (by simp [en_len])) (go _ _ _ _ h rfl _ hl)
    · cases h
  | imul =>
    simp only [en_step] at h
    split at h
    · exact lv_imul hx hb (hd (by simp [en_len])) (go _ _ _ _ h rfl _ hl)
    · cases h
  | idiv =>
    simp only [en_step] at h
    split at h
    · split at h
      · cases h
      · next hy => exact lv_idiv hx hb (hd (by simp [en_len])) hy (go _ _ _ _ h rfl _ hl)
    · cases h
  | irem =>
    simp only [en_step] at h
    split at h
    · split at h
      · cases h
      · next hy => exact lv_irem hx hb (hd (by simp [en_len])) hy (go _ _ _ _ h rfl _ hl)
    · cases h
  | iand =>
    simp only [en_step] at h
    split at h
    · exact lv_iand hx hb (hd (by simp [en_len])) (go _ _ _ _ h rfl _ hl)
    · cases h
  | ior =>
    simp only [en_step] at h
    split at h
    · exact lv_ior hx hb (hd (by simp [en_len])) (go _ _ _ _ h rfl _ hl)
    · cases h
  | ixor =>
    simp only [en_step] at h
    split at h
    · exact lv_ixor hx hb (hd (by simp [en_len])) (go _ _ _ _ h rfl _ hl)
    · cases h
  | ishl =>
    simp only [en_step] at h
    split at h
    · exact lv_ishl hx hb (hd (by simp [en_len])) (go _ _ _ _ h rfl _ hl)
    · cases h
  | ishr =>
    simp only [en_step] at h
    split at h
    · exact lv_ishr hx hb (hd (by simp [en_len])) (go _ _ _ _ h rfl _ hl)
    · cases h
  | iushr =>
    simp only [en_step] at h
    split at h
    · exact lv_iushr hx hb (hd (by simp [en_len])) rfl (go _ _ _ _ h rfl _ hl)
    · cases h
  | ineg =>
    simp only [en_step] at h
    split at h
    · exact lv_ineg hx hb (hd (by simp [en_len])) (go _ _ _ _ h rfl _ hl)
    · cases h
  | lshl =>
    simp only [en_step] at h
    split at h
    · exact lv_lshl hx hb (hd (by simp [en_len])) rfl (go _ _ _ _ h rfl _ hl)
    · cases h
  | lor =>
    simp only [en_step] at h
    split at h
    · exact lv_lor hx hb (hd (by simp [en_len])) (go _ _ _ _ h rfl _ hl)
    · cases h
  | lsub =>
    simp only [en_step] at h
    split at h
    · exact lv_lsub hx hb (hd (by simp [en_len])) (go _ _ _ _ h rfl _ hl)
    · cases h
  | lcmp =>
    simp only [en_step] at h
    split at h
    · exact W.lcmp hx hb (hd (by simp [en_len])) (go _ _ _ _ h rfl _ hl)
    · cases h
  | i2l =>
    simp only [en_step] at h
    split at h
    · exact lv_i2l hx hb (hd (by simp [en_len])) rfl (go _ _ _ _ h rfl _ hl)
    · cases h
  | i2b =>
    simp only [en_step] at h
    split at h
    · exact lv_i2b hx hb (hd (by simp [en_len])) rfl (go _ _ _ _ h rfl _ hl)
    · cases h
  | i2c =>
    simp only [en_step] at h
    split at h
    · exact lv_i2c hx hb (hd (by simp [en_len])) rfl (go _ _ _ _ h rfl _ hl)
    · cases h
  | dup =>
    simp only [en_step] at h
    split at h
    · exact lv_dup hx hb (hd (by simp [en_len])) rfl (go _ _ _ _ h rfl _ hl)
    · exact lv_dup hx hb (hd (by simp [en_len])) rfl (go _ _ _ _ h rfl _ hl)
    · cases h
  | dup2 =>
    simp only [en_step] at h
    split at h
    · exact lv_dup2_11 hx hb (hd (by simp [en_len])) rfl rfl (go _ _ _ _ h rfl _ hl)
    · cases h
  | pop =>
    simp only [en_step] at h
    split at h
    · exact lv_pop hx hb (hd (by simp [en_len])) rfl (go _ _ _ _ h rfl _ hl)
    · cases h
  | goto off =>
    simp only [en_off, decide_eq_true_eq] at ho
    exact lv_goto hx hb (hd (by simp [en_len])) (en_tgt_eq ho) (go _ _ _ _ h rfl _ hl)
  | ifCond b off =>
    simp only [en_off, decide_eq_true_eq] at ho
    simp only [en_step] at h
    split at h
    · next x r =>
      cases b <;> simp only [en_if] at h
      · refine lv_if_eq hx hb (hd (by simp [en_len])) (en_tgt_eq ho) (fun z => ?_) (fun z => ?_)
        · rw [if_pos z] at h; exact go _ _ _ _ h rfl _ hl
        · rw [if_neg z] at h; exact go _ _ _ _ h rfl _ hl
      · refine lv_if_ne hx hb (hd (by simp [en_len])) (en_tgt_eq ho) (fun z => ?_) (fun z => ?_)
        · rw [if_neg z] at h; exact go _ _ _ _ h rfl _ hl
        · rw [if_pos z] at h; exact go _ _ _ _ h rfl _ hl
      · refine lv_if_lt hx hb (hd (by simp [en_len])) (en_tgt_eq ho) (fun z => ?_) (fun z => ?_)
        · rw [if_pos z] at h; exact go _ _ _ _ h rfl _ hl
        · rw [if_neg z] at h; exact go _ _ _ _ h rfl _ hl
      · refine lv_if_ge hx hb (hd (by simp [en_len])) (en_tgt_eq ho) (fun z => ?_) (fun z => ?_)
        · rw [if_pos z] at h; exact go _ _ _ _ h rfl _ hl
        · rw [if_neg z] at h; exact go _ _ _ _ h rfl _ hl
      · refine lv_if_gt hx hb (hd (by simp [en_len])) (en_tgt_eq ho) (fun z => ?_) (fun z => ?_)
        · rw [if_pos z] at h; exact go _ _ _ _ h rfl _ hl
        · rw [if_neg z] at h; exact go _ _ _ _ h rfl _ hl
      · refine lv_if_le hx hb (hd (by simp [en_len])) (en_tgt_eq ho) (fun z => ?_) (fun z => ?_)
        · rw [if_pos z] at h; exact go _ _ _ _ h rfl _ hl
        · rw [if_neg z] at h; exact go _ _ _ _ h rfl _ hl
    · cases h
  | if_icmp b off =>
    simp only [en_off, decide_eq_true_eq] at ho
    simp only [en_step] at h
    split at h
    · next y x r =>
      cases b <;> simp only [en_if] at h
      · refine lv_icmp_eq hx hb (hd (by simp [en_len])) (en_tgt_eq ho) (fun z => ?_) (fun z => ?_)
        · rw [if_pos z] at h; exact go _ _ _ _ h rfl _ hl
        · rw [if_neg z] at h; exact go _ _ _ _ h rfl _ hl
      · refine lv_icmp_ne hx hb (hd (by simp [en_len])) (en_tgt_eq ho) (fun z => ?_) (fun z => ?_)
        · rw [if_neg z] at h; exact go _ _ _ _ h rfl _ hl
        · rw [if_pos z] at h; exact go _ _ _ _ h rfl _ hl
      · refine lv_icmp_lt hx hb (hd (by simp [en_len])) (en_tgt_eq ho) (fun z => ?_) (fun z => ?_)
        · rw [if_pos z] at h; exact go _ _ _ _ h rfl _ hl
        · rw [if_neg z] at h; exact go _ _ _ _ h rfl _ hl
      · refine lv_icmp_ge hx hb (hd (by simp [en_len])) (en_tgt_eq ho) (fun z => ?_) (fun z => ?_)
        · rw [if_pos z] at h; exact go _ _ _ _ h rfl _ hl
        · rw [if_neg z] at h; exact go _ _ _ _ h rfl _ hl
      · refine lv_icmp_gt hx hb (hd (by simp [en_len])) (en_tgt_eq ho) (fun z => ?_) (fun z => ?_)
        · rw [if_pos z] at h; exact go _ _ _ _ h rfl _ hl
        · rw [if_neg z] at h; exact go _ _ _ _ h rfl _ hl
      · refine lv_icmp_le hx hb (hd (by simp [en_len])) (en_tgt_eq ho) (fun z => ?_) (fun z => ?_)
        · rw [if_pos z] at h; exact go _ _ _ _ h rfl _ hl
        · rw [if_neg z] at h; exact go _ _ _ _ h rfl _ hl
    · cases h
  | tableswitch dflt lo hi offs =>
    simp only [en_off, Bool.and_eq_true, decide_eq_true_eq, List.all_eq_true] at ho
    obtain ⟨⟨⟨⟨o1, o2⟩, o3⟩, o4⟩, o5⟩ := ho
    simp only [en_step] at h
    split at h
    · next x r =>
      have key : ∀ (l0 : List Int) (a : Nat), offs.toList.drop a = l0 → en_sw x pc dflt (fun t => k t L r σ) (lo + a) l0 = some out → ¬ (lo ≤ x.toInt ∧ x.toInt < lo + a) →
          W p l e R s m args below meth c H locs cells slots Q (F0 m pc ls (.int x :: r.map (en_cv ad))) := by
        intro l0
        induction l0 with
        | nil =>
          intro a ha h0 hno
          have hla : offs.toList.length ≤ a := List.drop_eq_nil_iff.mp ha
          exact lv_tableOut hx hb hd9 (by omega) (en_tgt_eq o1) (go _ _ _ _ h0 rfl _ hl)
        | cons o r9 ih =>
          intro a ha h0 hno
          have hla : a < offs.toList.length := by
            rcases Nat.lt_or_ge a offs.toList.length with z | z
            · exact z
            · rw [List.drop_eq_nil_of_le z] at ha; cases ha
          have hget : offs.toList[a]? = some o := by
            have := List.getElem?_drop (xs := offs.toList) (i := a) (j := 0)
            rw [ha] at this
            simpa using this.symm
          simp only [en_sw] at h0
          split at h0
          · next hx0 =>
            have e1 := (en_ofInt (by omega) (by omega)).mp hx0
            refine lv_tableIn hx hb hd9 (by omega) (by omega) (off := o) ?_ (en_tgt_eq (o2 o (List.mem_of_getElem? hget))) (go _ _ _ _ h0 rfl _ hl)
            rw [show (x.toInt - lo).toNat = a by omega, ← Array.getElem?_toList]
            exact hget
          · next hx0 =>
            refine ih (a + 1) ?_ ?_ ?_
            · have h9 := congrArg (List.drop 1) ha
              rw [List.drop_drop] at h9
              rw [Nat.add_comm] at h9
              simpa [Nat.add_comm] using h9
            · rw [show lo + ((a + 1 : Nat) : Int) = lo + a + 1 by omega]
              exact h0
            · intro z
              have e1 : ¬ x.toInt = lo + a := fun q => hx0 ((en_ofInt (by omega) (by omega)).mpr q)
              omega
      exact key offs.toList 0 rfl (by rw [show lo + ((0 : Nat) : Int) = lo by omega]; exact h) (by omega)
    · cases h
  | lookupswitch dflt ps =>
    simp only [en_off, Bool.and_eq_true, decide_eq_true_eq, List.all_eq_true] at ho
    obtain ⟨⟨o1, o2⟩, o3⟩ := ho
    simp only [en_step] at h
    split at h
    · next x r =>
      have key : ∀ (l0 : List (Int × Int)), (∀ q ∈ l0, q ∈ ps.toList) → en_lk x pc dflt (fun t => k t L r σ) l0 = some out → ∃ t, k t L r σ = some out ∧ (pc : Int) + Op.lookupswitch.offset l0 dflt x.toInt = (t : Int) := by
        intro l0
        induction l0 with
        | nil => exact fun _ h0 => ⟨_, h0, en_tgt_eq o1⟩
        | cons o r9 ih =>
          intro hm h0
          obtain ⟨⟨q1, q2⟩, q3⟩ := o2 o (hm o List.mem_cons_self)
          simp only [en_lk] at h0
          split at h0
          · next hx0 =>
            have e1 := (en_ofInt (by omega) (by omega)).mp hx0
            refine ⟨_, h0, ?_⟩
            simp only [Op.lookupswitch.offset]
            rw [if_pos (by simpa using e1.symm)]
            exact en_tgt_eq q1
          · next hx0 =>
            have e1 : ¬ x.toInt = o.1 := fun q => hx0 ((en_ofInt (by omega) (by omega)).mpr q)
            obtain ⟨t, a1, a2⟩ := ih (fun q hq => hm q (List.mem_cons_of_mem _ hq)) h0
            refine ⟨t, a1, ?_⟩
            simp only [Op.lookupswitch.offset]
            rw [if_neg (by simpa using fun z => e1 z.symm)]
            exact a2
      obtain ⟨t, a1, a2⟩ := key ps.toList (fun _ h => h) h
      exact lv_lookup hx hb hd9 (List.all_eq_true.mpr (fun x hx9 => decide_eq_true (o3 x hx9))) rfl a2 (go _ _ _ _ a1 rfl _ hl)
    · cases h
  | getfield idx =>
    simp only [en_step] at h
    split at h
    · next ci f p0 r hf =>
      split at h
      · next v hv =>
        obtain ⟨ds, d, h1, h2, h3⟩ := en_fld_spec (ad := ad) hv
        obtain ⟨f1, f2⟩ := tF _ _ _ _ hf
        obtain ⟨C, T, N, c1, c2, c3⟩ := tS _ _ _ h1 f1
        obtain ⟨g1, g2⟩ := f2 _ _ _ c1
        have hw := en_ws_at (ad := ad) (cA := cA) (σ := σ) h1
        have hw' : (en_ws G ad cA σ)[p0]? = some (ad p0, .inr (ci, en_fs ad p0 σ ds)) := by
          rw [hw]
          unfold en_cell
          rw [if_pos f1]
        exact va_get hx hb hts (tC _ _ _ _ c1).1 hown hK hP p0 hw' c1 f g1 (hts _ g2) (fun _ h9 => h9) (by rw [en_fs_at h2, h3]) (hd (by simp [en_len])) (go _ _ _ _ h rfl _ hl)
      · cases h
    · cases h
  | putfield idx =>
    simp only [en_step] at h
    split at h
    · next ci f v p0 r hf =>
      split at h
      · next σ' hv =>
        obtain ⟨ds, d, h1, h2, h3⟩ := en_put_spec hv
        obtain ⟨f1, f2⟩ := tF _ _ _ _ hf
        obtain ⟨C, T, N, c1, c2, c3⟩ := tS _ _ _ h1 f1
        obtain ⟨g1, g2⟩ := f2 _ _ _ c1
        obtain ⟨t1, t2, t3, t4⟩ := tC _ _ _ _ c1
        obtain ⟨y1, y2, y3⟩ := c3 _ _ h2
        have hw := en_ws_at (ad := ad) (cA := cA) (σ := σ) h1
        have hw' : (en_ws G ad cA σ)[p0]? = some (ad p0, .inr (ci, en_fs ad p0 σ ds)) := by
          rw [hw]
          unfold en_cell
          rw [if_pos f1]
        have hlen : f < (en_fs ad p0 σ ds).length := by rw [en_fs_len]; exact (List.getElem?_eq_some_iff.mp h2).1
        have fin : ∀ (σ' : en_S), (en_fs ad p0 σ ds).set f (en_slv ad p0 σ' f d) = en_fs ad p0 σ' ds → (∀ q, q ≠ p0 → σ.1 q = σ'.1 q) → (∀ q, q ≠ p0 → σ.2 q = σ'.2 q) → (en_ws G ad cA σ).set p0 (ad p0, .inr (ci, (en_fs ad p0 σ ds).set f (en_slv ad p0 σ' f d))) = en_ws G ad cA σ' := by
          intro σ' e1 e2 e3
          rw [← en_ws_set h1 e2 e3, e1]
          unfold en_cell
          rw [if_pos f1]
        rcases h3 with ⟨rfl, x, rfl, rfl⟩ | ⟨rfl, x, rfl, rfl⟩ | ⟨rfl, x, rfl, hx01, rfl⟩
        · refine va_put hx hb hts t1 (tyC ci) t2 t3 hown hK hP (hDD σ) hS p0 hw' c1 f g1 (hts _ g2) (fun _ h9 => h9) (t4 f g1 (Or.inl (y1 rfl))) (t2 f g1) (v := .int x) (by rw [y1 rfl]; rfl) (by rw [y1 rfl]; rfl) hlen (hd (by simp [en_len])) (fun H1 locs1 hP1 _ hS1 => hk _ _ _ _ _ _ _ h hl ?_ hS1)
          have e9 : en_slv ad p0 (en_u1 σ.1 p0 f x, σ.2) f 0 = .int x := by simp [en_slv, en_u1_eq, upd]
          rw [← fin (en_u1 σ.1 p0 f x, σ.2) (en_fs_set h2 (fun j e hj => en_slv1 hj)) (fun q hq => en_u1_ne hq) (fun _ _ => rfl), e9]
          exact hP1
        · refine va_put hx hb hts t1 (tyC ci) t2 t3 hown hK hP (hDD σ) hS p0 hw' c1 f g1 (hts _ g2) (fun _ h9 => h9) (t4 f g1 (Or.inr (Or.inl (y2 rfl)))) (t2 f g1) (v := .long x) (by rw [y2 rfl]; rfl) (by rw [y2 rfl]; rfl) hlen (hd (by simp [en_len])) (fun H1 locs1 hP1 _ hS1 => hk _ _ _ _ _ _ _ h hl ?_ hS1)
          have e9 : en_slv ad p0 (σ.1, en_u2 σ.2 p0 f x) f 1 = .long x := by simp [en_slv, en_u2_eq, vp_updL]
          rw [← fin (σ.1, en_u2 σ.2 p0 f x) (en_fs_set h2 (fun j e hj => en_slv2 hj)) (fun _ _ => rfl) (fun q hq => en_u2_ne hq), e9]
          exact hP1
        · refine va_put hx hb hts t1 (tyC ci) t2 t3 hown hK hP (hDD σ) hS p0 hw' c1 f g1 (hts _ g2) (fun _ h9 => h9) (t4 f g1 (Or.inr (Or.inr (y3 rfl)))) (t2 f g1) (v := .int x) (by rw [y3 rfl]; rcases hx01 with rfl | rfl <;> rfl) (by rw [y3 rfl]; rcases hx01 with rfl | rfl <;> rfl) hlen (hd (by simp [en_len])) (fun H1 locs1 hP1 _ hS1 => hk _ _ _ _ _ _ _ h hl ?_ hS1)
          have e9 : en_slv ad p0 (en_u1 σ.1 p0 f x, σ.2) f 2 = .int x := by simp [en_slv, en_u1_eq, upd]
          rw [← fin (en_u1 σ.1 p0 f x, σ.2) (en_fs_set h2 (fun j e hj => en_slv1 hj)) (fun q hq => en_u1_ne hq) (fun _ _ => rfl), e9]
          exact hP1
      · cases h
    · cases h
  | iaload =>
    simp only [en_step] at h
    split at h
    · next j p0 r =>
      split at h
      · next n hn =>
        split at h
        · next hj =>
          obtain ⟨r9, h1⟩ := en_arr_spec hn
          exact va_iald hx hb hK hP p0 0 (en_ws_at h1) rfl hj (hd (by simp [en_len])) (go _ _ _ _ h rfl _ hl)
        · cases h
      · cases h
    · cases h
  | laload =>
    simp only [en_step] at h
    split at h
    · next j p0 r =>
      split at h
      · next n hn =>
        split at h
        · next hj =>
          obtain ⟨r9, h1⟩ := en_arr_spec hn
          exact va_lald hx hb hK hP p0 3 (en_ws_at h1) rfl hj (hd (by simp [en_len])) (go _ _ _ _ h rfl _ hl)
        · cases h
      · cases h
    · cases h
  | baload =>
    simp only [en_step] at h
    split at h
    · next j p0 r =>
      split at h
      · next n hn =>
        split at h
        · next hj =>
          obtain ⟨r9, h1⟩ := en_arr_spec hn
          exact va_bald hx hb hK hP p0 1 (en_ws_at h1) rfl hj (hd (by simp [en_len])) (go _ _ _ _ h rfl _ hl)
        · cases h
      · split at h
        · next n hn =>
          split at h
          · next hj =>
            obtain ⟨r9, h1⟩ := en_arr_spec hn
            exact va_zald hx hb hK hP p0 2 (en_ws_at h1) rfl hj (hd (by simp [en_len])) (go _ _ _ _ h rfl _ hl)
          · cases h
        · cases h
    · cases h
  | iastore =>
    simp only [en_step] at h
    split at h
    · next x j p0 r =>
      split at h
      · next n hn =>
        split at h
        · next hj =>
          obtain ⟨r9, h1⟩ := en_arr_spec hn
          refine va_iast hx hb hK hP (hDD σ) hS p0 0 (en_ws_at h1) rfl hj (hd (by simp [en_len])) (fun H1 locs1 hP1 _ hS1 => hk _ _ _ _ _ _ _ h hl ?_ hS1)
          rw [← en_ws_set h1 (σ := σ) (σ' := (en_u1 σ.1 p0 j.toNatClampNeg x, σ.2)) (fun q hq => en_u1_ne hq) (fun _ _ => rfl)]
          have e9 : en_cell ad cA (20, n :: r9) p0 (en_u1 σ.1 p0 j.toNatClampNeg x, σ.2) = .inl (cA 0, n, .inl (upd (σ.1 p0) j.toNatClampNeg x)) := by
            simp [en_cell, en_u1_eq]
          rw [e9]
          exact hP1
        · cases h
      · cases h
    · cases h
  | lastore =>
    simp only [en_step] at h
    split at h
    · next x j p0 r =>
      split at h
      · next n hn =>
        split at h
        · next hj =>
          obtain ⟨r9, h1⟩ := en_arr_spec hn
          refine va_last hx hb hK hP (hDD σ) hS p0 3 (en_ws_at h1) rfl hj (hd (by simp [en_len])) (fun H1 locs1 hP1 _ hS1 => hk _ _ _ _ _ _ _ h hl ?_ hS1)
          rw [← en_ws_set h1 (σ := σ) (σ' := (σ.1, en_u2 σ.2 p0 j.toNatClampNeg x)) (fun _ _ => rfl) (fun q hq => en_u2_ne hq)]
          have e9 : en_cell ad cA (23, n :: r9) p0 (σ.1, en_u2 σ.2 p0 j.toNatClampNeg x) = .inl (cA 3, n, .inr (.inl (vp_updL (σ.2 p0) j.toNatClampNeg x))) := by
            simp [en_cell, en_u2_eq]
          rw [e9]
          exact hP1
        · cases h
      · cases h
    · cases h
  | bastore =>
    simp only [en_step] at h
    split at h
    · next x j p0 r =>
      split at h
      · next n hn =>
        split at h
        · next hj =>
          obtain ⟨r9, h1⟩ := en_arr_spec hn
          refine va_bast hx hb hK hP (hDD σ) hS p0 1 (en_ws_at h1) rfl hj (hd (by simp [en_len])) (fun H1 locs1 hP1 _ hS1 => hk _ _ _ _ _ _ _ h hl ?_ hS1)
          rw [← en_ws_set h1 (σ := σ) (σ' := (en_u1 σ.1 p0 j.toNatClampNeg (vp_nar .byte x), σ.2)) (fun q hq => en_u1_ne hq) (fun _ _ => rfl)]
          have e9 : en_cell ad cA (21, n :: r9) p0 (en_u1 σ.1 p0 j.toNatClampNeg (vp_nar .byte x), σ.2) = .inl (cA 1, n, .inl (upd (σ.1 p0) j.toNatClampNeg (vp_nar .byte x))) := by
            simp [en_cell, en_u1_eq]
          rw [e9]
          exact hP1
        · cases h
      · split at h
        · next n hn =>
          split at h
          · next hj =>
            obtain ⟨r9, h1⟩ := en_arr_spec hn
            refine va_zast hx hb hK hP (hDD σ) hS p0 2 (en_ws_at h1) rfl hj (hd (by simp [en_len])) (fun H1 locs1 hP1 _ hS1 => hk _ _ _ _ _ _ _ h hl ?_ hS1)
            rw [← en_ws_set h1 (σ := σ) (σ' := (en_u1 σ.1 p0 j.toNatClampNeg (vp_nar .boolean x), σ.2)) (fun q hq => en_u1_ne hq) (fun _ _ => rfl)]
            have e9 : en_cell ad cA (22, n :: r9) p0 (en_u1 σ.1 p0 j.toNatClampNeg (vp_nar .boolean x), σ.2) = .inl (cA 2, n, .inl (upd (σ.1 p0) j.toNatClampNeg (vp_nar .boolean x))) := by
              simp [en_cell, en_u1_eq]
            rw [e9]
            exact hP1
          · cases h
        · cases h
    · cases h
  | arraylength =>
    simp only [en_step] at h
    split at h
    · next p0 r =>
      split at h
      · next n hn =>
        obtain ⟨r9, h1⟩ := en_arr_spec hn
        exact va_alen hx hb hK hP p0 0 (en_ws_at h1) rfl rfl (hd (by simp [en_len])) (go _ _ _ _ h rfl _ hl)
      · split at h
        · next n hn =>
          obtain ⟨r9, h1⟩ := en_arr_spec hn
          exact va_alen hx hb hK hP p0 1 (en_ws_at h1) rfl rfl (hd (by simp [en_len])) (go _ _ _ _ h rfl _ hl)
        · cases h
    · cases h
  | invokevirtual idx => exact hrest (Or.inl ⟨idx, rfl⟩)
  | invokestatic idx => exact hrest (Or.inr (Or.inl ⟨idx, rfl⟩))
  | new idx => exact hrest (Or.inr (Or.inr (Or.inl ⟨idx, rfl⟩)))
  | ireturn => exact hrest (Or.inr (Or.inr (Or.inr (Or.inl rfl))))
  | lreturn => exact hrest (Or.inr (Or.inr (Or.inr (Or.inr (Or.inl rfl)))))
  | return_ => exact hrest (Or.inr (Or.inr (Or.inr (Or.inr (Or.inr rfl)))))
  | _ => cases h
end ES
