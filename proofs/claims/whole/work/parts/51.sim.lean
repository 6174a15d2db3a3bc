/-! THE ENGINE AND THE MACHINE: the world of a store, and each instruction. -/
def en_cv (ad : Nat → Nat) : Value → Value
  | .ref k => .ref (ad k)
  | v => v
def en_slv (ad : Nat → Nat) (p : Nat) (σ : en_S) (k : Nat) : Nat → Value
  | 0 => .int (σ.1 p k)
  | 1 => .long (σ.2 p k)
  | 2 => .int (σ.1 p k)
  | q + 3 => .ref (ad q)
def en_fs (ad : Nat → Nat) (p : Nat) (σ : en_S) (ds : List Nat) : List Value := ds.zipIdx.map (fun q => en_slv ad p σ q.2 q.1)
def en_cell (ad : Nat → Nat) (cA : Nat → ClassId) (sh : Nat × List Nat) (p : Nat) (σ : en_S) : va_E :=
  if sh.1 < 20 then .inr (sh.1, en_fs ad p σ sh.2) else if sh.1 = 23 then .inl (cA 3, sh.2.headD 0, .inr (.inl (σ.2 p))) else .inl (cA (sh.1 - 20), sh.2.headD 0, .inl (σ.1 p))
def en_ws (G : en_G) (ad : Nat → Nat) (cA : Nat → ClassId) (σ : en_S) : va_W := (en_SH G).zipIdx.map (fun q => (ad q.2, en_cell ad cA q.1 q.2 σ))
def en_tys (cA : Nat → ClassId) : List (ClassId × FieldType) := [(cA 0, .int), (cA 1, .byte), (cA 2, .boolean), (cA 3, .long)]
theorem en_fs_at {ad : Nat → Nat} {p : Nat} {σ : en_S} {ds : List Nat} {k d : Nat} (h : ds[k]? = some d) : (en_fs ad p σ ds)[k]? = some (en_slv ad p σ k d) := by
  simp [en_fs, List.getElem?_map, List.getElem?_zipIdx, h]
theorem en_fs_len {ad : Nat → Nat} {p : Nat} {σ : en_S} {ds : List Nat} : (en_fs ad p σ ds).length = ds.length := by simp [en_fs]
theorem en_ws_at {G : en_G} {ad : Nat → Nat} {cA : Nat → ClassId} {σ : en_S} {p : Nat} {sh : Nat × List Nat} (h : (en_SH G)[p]? = some sh) : (en_ws G ad cA σ)[p]? = some (ad p, en_cell ad cA sh p σ) := by
  simp [en_ws, List.getElem?_map, List.getElem?_zipIdx, h]
theorem en_ws_no {G : en_G} {ad : Nat → Nat} {cA : Nat → ClassId} {σ : en_S} {p : Nat} (h : (en_SH G)[p]? = none) : (en_ws G ad cA σ)[p]? = none := by
  simp [en_ws, List.getElem?_map, List.getElem?_zipIdx, h]
theorem en_cell_eq {ad : Nat → Nat} {cA : Nat → ClassId} {sh : Nat × List Nat} {p : Nat} {σ σ' : en_S} (h1 : σ.1 p = σ'.1 p) (h2 : σ.2 p = σ'.2 p) : en_cell ad cA sh p σ = en_cell ad cA sh p σ' := by
  have h3 : ∀ k d, en_slv ad p σ k d = en_slv ad p σ' k d := by
    intro k d
    match d with
    | 0 => simp [en_slv, h1]
    | 1 => simp [en_slv, h2]
    | 2 => simp [en_slv, h1]
    | q + 3 => rfl
  unfold en_cell en_fs
  simp only [h1, h2, h3]
/-- writing one cell -/
theorem en_ws_set {G : en_G} {ad : Nat → Nat} {cA : Nat → ClassId} {σ σ' : en_S} {p : Nat} {sh : Nat × List Nat} (h : (en_SH G)[p]? = some sh) (h1 : ∀ q, q ≠ p → σ.1 q = σ'.1 q) (h2 : ∀ q, q ≠ p → σ.2 q = σ'.2 q) : (en_ws G ad cA σ).set p (ad p, en_cell ad cA sh p σ') = en_ws G ad cA σ' := by
  apply List.ext_getElem?
  intro q
  by_cases hq : q = p
  · subst hq
    rw [en_ws_at h]
    have hl := (List.getElem?_eq_some_iff.mp (en_ws_at (ad := ad) (cA := cA) (σ := σ) h)).1
    rw [List.getElem?_set_self hl]
  · rw [List.getElem?_set_ne (Ne.symm hq)]
    cases hs : (en_SH G)[q]? with
    | none => rw [en_ws_no hs, en_ws_no hs]
    | some z => rw [en_ws_at hs, en_ws_at hs, en_cell_eq (h1 q hq) (h2 q hq)]
theorem en_D {G : en_G} {ad : Nat → Nat} {cA : Nat → ClassId} {A : Nat → Prop} (hi : ∀ i j, i < (en_SH G).length → j < (en_SH G).length → ad i = ad j → i = j) (hA : ∀ i, i < (en_SH G).length → A (ad i)) (σ : en_S) : va_D A (en_ws G ad cA σ) := by
  have key : ∀ (k : Nat) (q : Nat × va_E), (en_ws G ad cA σ)[k]? = some q → k < (en_SH G).length ∧ q.1 = ad k := by
    intro k q hk
    cases hs : (en_SH G)[k]? with
    | none => rw [en_ws_no hs] at hk; cases hk
    | some z =>
      rw [en_ws_at hs] at hk
      cases hk
      exact ⟨(List.getElem?_eq_some_iff.mp hs).1, rfl⟩
  refine ⟨fun i j x y hx hy e => ?_, fun k q hk => ?_⟩
  · obtain ⟨a1, a2⟩ := key i x hx
    obtain ⟨b1, b2⟩ := key j y hy
    exact hi i j a1 b1 (by rw [← a2, ← b2]; exact e)
  · obtain ⟨a1, a2⟩ := key k q hk
    rw [a2]
    exact hA k a1
/-- the locals -/
def en_lv (ad : Nat → Nat) (ls : Array Slot) (n : Nat) (L : en_L) : Prop := L.length = n ∧ ls.size = n ∧ lv_wf ls ∧ ∀ (i : Nat) (v : Value), L[i]? = some (some v) → ls[i]? = some (.val (en_cv ad v))
def en_prs (ad : Nat → Nat) (L : en_L) : List (Nat × Value) := (List.range L.length).filterMap (fun i => match L[i]? with
  | some (some v) => some (i, en_cv ad v)
  | _ => none)
theorem en_prs_mem {ad : Nat → Nat} {L : en_L} {i : Nat} {w : Value} : (i, w) ∈ en_prs ad L ↔ ∃ v, L[i]? = some (some v) ∧ w = en_cv ad v := by
  unfold en_prs
  rw [List.mem_filterMap]
  constructor
  · rintro ⟨j, -, h⟩
    split at h
    · next v hv =>
      cases h
      exact ⟨v, hv, rfl⟩
    · cases h
  · rintro ⟨v, hv, rfl⟩
    refine ⟨i, List.mem_range.mpr (List.getElem?_eq_some_iff.mp hv).1, ?_⟩
    rw [hv]
theorem en_lv.has {ad : Nat → Nat} {ls : Array Slot} {n : Nat} {L : en_L} (h : en_lv ad ls n L) : lv_has ls n (en_prs ad L) := by
  refine ⟨h.2.1, h.2.2.1, ?_⟩
  rintro ⟨i, w⟩ hq
  obtain ⟨v, hv, rfl⟩ := en_prs_mem.mp hq
  exact h.2.2.2 i v hv
theorem en_lv.at {ad : Nat → Nat} {ls : Array Slot} {n : Nat} {L : en_L} (h : en_lv ad ls n L) {i : Nat} {v : Value} (hi : L[i]? = some (some v)) : ls[i]? = some (.val (en_cv ad v)) := h.2.2.2 i v hi
theorem en_clr_len {L : en_L} {i : Nat} : (en_clr L i).length = L.length := by
  unfold en_clr
  split
  · rfl
  · split
    · exact List.length_set
    · exact List.length_set
    · rfl
theorem en_set_len {L : en_L} {i : Nat} {v : Option Value} : (en_set L i v).length = L.length := by
  unfold en_set
  rw [List.length_set, en_clr_len]
theorem en_cv_cat {ad : Nat → Nat} (v : Value) : (en_cv ad v).category = v.category := by cases v <;> rfl
theorem en_cv2 {ad : Nat → Nat} {v : Value} (h : (en_cv ad v).category = 2) : (∃ x, v = .long x) ∨ ∃ x, v = .double x := by
  cases v with
  | long x => exact Or.inl ⟨x, rfl⟩
  | double x => exact Or.inr ⟨x, rfl⟩
  | _ => simp [en_cv, Value.category] at h
/-- what is known behind a store -/
theorem en_set_at {L : en_L} {i j : Nat} {o : Option Value} {w : Value} (h : (en_set L i o)[j]? = some (some w)) (hj : j ≠ i) : L[j]? = some (some w) ∧ ¬ (j + 1 = i ∧ ((∃ x, w = .long x) ∨ ∃ x, w = .double x)) := by
  unfold en_set at h
  rw [List.getElem?_set_ne (Ne.symm hj)] at h
  unfold en_clr at h
  split at h
  · exact ⟨h, fun z => by omega⟩
  · next i' =>
    split at h
    · next x hx =>
      by_cases hji : j = i'
      · subst hji
        have hl := (List.getElem?_eq_some_iff.mp hx).1
        rw [List.getElem?_set_self hl] at h
        cases h
      · rw [List.getElem?_set_ne (Ne.symm hji)] at h
        exact ⟨h, fun z => hji (by omega)⟩
    · next x hx =>
      by_cases hji : j = i'
      · subst hji
        have hl := (List.getElem?_eq_some_iff.mp hx).1
        rw [List.getElem?_set_self hl] at h
        cases h
      · rw [List.getElem?_set_ne (Ne.symm hji)] at h
        exact ⟨h, fun z => hji (by omega)⟩
    · next hno hno2 =>
      refine ⟨h, fun z => ?_⟩
      obtain ⟨z1, ⟨x, rfl⟩ | ⟨x, rfl⟩⟩ := z
      · have : j = i' := by omega
        subst this
        exact hno x h
      · have : j = i' := by omega
        subst this
        exact hno2 x h
theorem en_lv.store {ad : Nat → Nat} {ls' : Array Slot} {n : Nat} {L : en_L} {i : Nat} {v : Value} (hL : L.length = n)
    (h : lv_has ls' n ((i, en_cv ad v) :: (en_prs ad L).filter (fun q => !(q.1 == i) && !(q.1 + 1 == i && q.2.category == 2)))) (hi : i < n) : en_lv ad ls' n (en_set L i (some v)) := by
  refine ⟨by rw [en_set_len]; exact hL, h.1, h.2.1, fun j w hj => ?_⟩
  by_cases hji : j = i
  · subst hji
    unfold en_set at hj
    rw [List.getElem?_set_self (by rw [en_clr_len]; omega)] at hj
    cases hj
    exact h.2.2 _ List.mem_cons_self
  · obtain ⟨h1, h2⟩ := en_set_at hj hji
    refine h.2.2 (j, en_cv ad w) (List.mem_cons_of_mem _ (List.mem_filter.mpr ⟨en_prs_mem.mpr ⟨w, h1, rfl⟩, ?_⟩))
    simp only [Bool.and_eq_true, Bool.not_eq_true', beq_eq_false_iff_ne, ne_eq, Bool.and_eq_false_iff]
    refine ⟨hji, ?_⟩
    by_cases hc : (en_cv ad w).category = 2
    · left
      intro e
      exact h2 ⟨e, en_cv2 hc⟩
    · right
      exact hc
/-- a local that is forgotten -/
theorem en_lv.drop {ad : Nat → Nat} {ls' : Array Slot} {n : Nat} {L : en_L} {i : Nat} {w : Value} (hL : L.length = n)
    (h : lv_has ls' n ((i, w) :: (en_prs ad L).filter (fun q => !(q.1 == i) && !(q.1 + 1 == i && q.2.category == 2)))) : en_lv ad ls' n (en_set L i none) := by
  refine ⟨by rw [en_set_len]; exact hL, h.1, h.2.1, fun j u hj => ?_⟩
  by_cases hji : j = i
  · subst hji
    unfold en_set at hj
    by_cases hl : j < (en_clr L j).length
    · rw [List.getElem?_set_self hl] at hj
      cases hj
    · rw [List.getElem?_eq_none (by rw [List.length_set]; omega)] at hj
      cases hj
  · obtain ⟨h1, h2⟩ := en_set_at hj hji
    refine h.2.2 (j, en_cv ad u) (List.mem_cons_of_mem _ (List.mem_filter.mpr ⟨en_prs_mem.mpr ⟨u, h1, rfl⟩, ?_⟩))
    simp only [Bool.and_eq_true, Bool.not_eq_true', beq_eq_false_iff_ne, ne_eq, Bool.and_eq_false_iff]
    refine ⟨hji, ?_⟩
    by_cases hc : (en_cv ad u).category = 2
    · left
      intro e
      exact h2 ⟨e, en_cv2 hc⟩
    · right
      exact hc
theorem en_lv.msk {ad : Nat → Nat} {ls : Array Slot} {n : Nat} {L : en_L} (h : en_lv ad ls n L) (m : Option (List Bool)) (hm : ∀ bs, m = some bs → bs.length = n) : en_lv ad ls n (en_msk m L) := by
  cases m with
  | none => exact h
  | some bs =>
    refine ⟨?_, h.2.1, h.2.2.1, fun i v hi => ?_⟩
    · show (List.zipWith _ bs L).length = n
      rw [List.length_zipWith, hm bs rfl, h.1, Nat.min_self]
    · have hi' : (List.zipWith (fun (b : Bool) (v : Option Value) => if b = true then v else none) bs L)[i]? = some (some v) := hi
      rw [List.getElem?_zipWith] at hi'
      cases hb : bs[i]? with
      | none => rw [hb] at hi'; cases hi'
      | some b =>
        cases hL : L[i]? with
        | none => rw [hb, hL] at hi'; cases hi'
        | some u =>
          rw [hb, hL] at hi'
          cases b with
          | false => cases hi'
          | true =>
            simp at hi'
            rw [hi'] at hL
            exact h.2.2.2 i v hL
/-- how long an instruction is; 0: a switch -/
def en_len : Instr → Nat
  | .bipush _ => 2
  | .sipush _ => 3
  | .ldc _ => 2
  | .ldc_w _ => 3
  | .ldc2_w _ => 3
  | .iload _ => 2
  | .lload _ => 2
  | .aload _ => 2
  | .istore _ => 2
  | .lstore _ => 2
  | .astore _ => 2
  | .iinc _ _ => 3
  | .ifCond _ _ => 3
  | .if_icmp _ _ => 3
  | .goto _ => 3
  | .tableswitch _ _ _ _ => 0
  | .lookupswitch _ _ => 0
  | .getfield _ => 3
  | .putfield _ => 3
  | .invokevirtual _ => 3
  | .invokestatic _ => 3
  | .new _ => 3
  | _ => 1
/-- its jumps lie behind the method's beginning; a switch's rows are as they are read -/
def en_off (pc : Nat) : Instr → Bool
  | .ifCond _ off => decide (0 ≤ (pc : Int) + off)
  | .if_icmp _ off => decide (0 ≤ (pc : Int) + off)
  | .goto off => decide (0 ≤ (pc : Int) + off)
  | .tableswitch d lo hi offs => decide (0 ≤ (pc : Int) + d) && offs.toList.all (fun o => decide (0 ≤ (pc : Int) + o)) && decide (hi - lo + 1 = (offs.toList.length : Int)) && decide (-1000 ≤ lo) && decide (hi ≤ 1000)
  | .lookupswitch d ps => decide (0 ≤ (pc : Int) + d) && ps.toList.all (fun o => decide (0 ≤ (pc : Int) + o.2) && decide (-1000 ≤ o.1) && decide (o.1 ≤ 1000)) && (ps.toList.zip (ps.toList.drop 1)).all (fun (a, next) => a.1 < next.1)
  | _ => true
def en_chk (cc : ByteArray) (pc : Nat) (i : Instr) : Bool := match decode cc pc with
  | .ok (j, n) => decide (j = i) && (en_len i == 0 || n == en_len i) && en_off pc i
  | _ => false
theorem en_chk_spec {cc : ByteArray} {pc : Nat} {i : Instr} (h : en_chk cc pc i = true) : ∃ n, decode cc pc = .ok (i, n) ∧ (¬ en_len i = 0 → n = en_len i) ∧ en_off pc i = true := by
  unfold en_chk at h
  split at h
  · next j n hj =>
    simp only [Bool.and_eq_true, decide_eq_true_eq, Bool.or_eq_true, beq_iff_eq] at h
    obtain ⟨⟨rfl, h2⟩, h3⟩ := h
    exact ⟨n, hj, fun z => h2.resolve_left z, h3⟩
  · cases h
theorem en_tgt_eq {pc : Nat} {off : Int} (h : 0 ≤ (pc : Int) + off) : (pc : Int) + off = (en_tgt pc off : Int) := by
  unfold en_tgt
  omega
theorem en_ofInt {x : Int32} {a : Int} (h1 : -1000 ≤ a) (h2 : a ≤ 1000) : x = Int32.ofInt a ↔ x.toInt = a := by
  constructor
  · rintro rfl
    exact Int32.toInt_ofInt_of_le (by omega) (by omega)
  · intro h
    rw [← h, Int32.ofInt_toInt]
