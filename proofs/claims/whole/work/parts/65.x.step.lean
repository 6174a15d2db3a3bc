/-! the law's body, a step at a time -/
def gt_up : List (Nat × Instr × Option (List Bool)) → Nat → Nat → Bool
  | [], b, e => Nat.ble b e
  | (q, _, _) :: r, b, e => Nat.blt b q && gt_up r q e
theorem gt_mono : ∀ (l : List (Nat × Instr × Option (List Bool))) {a b e : Nat}, a ≤ b → gt_up l b e = true → gt_up l a e = true
  | [], a, b, e, h, h1 => by
    have := Nat.le_of_ble_eq_true h1
    exact Nat.ble_eq_true_of_le (by omega)
  | (q, i, m) :: r, a, b, e, h, h1 => by
    unfold gt_up at h1 ⊢
    rw [Bool.and_eq_true] at h1 ⊢
    refine ⟨?_, h1.2⟩
    have := Nat.le_of_ble_eq_true h1.1
    exact Nat.ble_eq_true_of_le (by omega)
theorem gt_app : ∀ (l : List (Nat × Instr × Option (List Bool))) {l' : List (Nat × Instr × Option (List Bool))} {a b e : Nat}, gt_up l a b = true → gt_up l' b e = true → gt_up (l ++ l') a e = true
  | [], l', a, b, e, h, h1 => gt_mono l' (Nat.le_of_ble_eq_true h) h1
  | (q, i, m) :: r, l', a, b, e, h, h1 => by
    rw [List.cons_append]
    unfold gt_up at h ⊢
    rw [Bool.and_eq_true] at h ⊢
    exact ⟨h.1, gt_app r h.2 h1⟩
theorem gt_get : ∀ (l : List (Nat × Instr × Option (List Bool))) {a e pc : Nat} {i : Instr} {m : Option (List Bool)}, gt_up l a e = true → (pc, i, m) ∈ l → a < pc ∧ en_get l pc = some (i, m)
  | [], a, e, pc, i, m, h, h1 => by cases h1
  | (q, i', m') :: r, a, e, pc, i, m, h, h1 => by
    unfold gt_up at h
    rw [Bool.and_eq_true] at h
    have h2 : a < q := Nat.le_of_ble_eq_true h.1
    rcases List.mem_cons.mp h1 with h3 | h3
    · cases h3
      exact ⟨h2, if_pos rfl⟩
    · obtain ⟨h4, h5⟩ := gt_get r h.2 h3
      refine ⟨by omega, ?_⟩
      show (if q = pc then some (i', m') else en_get r pc) = some (i, m)
      rw [if_neg (by omega)]
      exact h5
theorem gu_0 : gt_up bp_12035_0 0 344 = true := by decide +kernel
theorem gu_1 : gt_up bp_12035_1 344 500 = true := by decide +kernel
theorem gu_2 : gt_up bp_12035_2 500 652 = true := by decide +kernel
theorem gu_3 : gt_up bp_12035_3 652 806 = true := by decide +kernel
theorem gu_4 : gt_up bp_12035_4 806 958 = true := by decide +kernel
theorem gu_5 : gt_up bp_12035_5 958 1106 = true := by decide +kernel
theorem gu_6 : gt_up bp_12035_6 1106 1263 = true := by decide +kernel
theorem gu_7 : gt_up bp_12035_7 1263 1414 = true := by decide +kernel
theorem gu_8 : gt_up bp_12035_8 1414 1576 = true := by decide +kernel
theorem gu_9 : gt_up bp_12035_9 1576 1724 = true := by decide +kernel
theorem gu_10 : gt_up bp_12035_10 1724 1881 = true := by decide +kernel
theorem gu_11 : gt_up bp_12035_11 1881 2027 = true := by decide +kernel
theorem gu_12 : gt_up bp_12035_12 2027 2177 = true := by decide +kernel
theorem gu_13 : gt_up bp_12035_13 2177 2335 = true := by decide +kernel
theorem gu_14 : gt_up bp_12035_14 2335 2494 = true := by decide +kernel
theorem gu_15 : gt_up bp_12035_15 2494 2645 = true := by decide +kernel
theorem gu : gt_up bp_12035 0 2645 = true := gt_app _ gu_0 <| gt_app _ gu_1 <| gt_app _ gu_2 <| gt_app _ gu_3 <| gt_app _ gu_4 <| gt_app _ gu_5 <| gt_app _ gu_6 <| gt_app _ gu_7 <| gt_app _ gu_8 <| gt_app _ gu_9 <| gt_app _ gu_10 <| gt_app _ gu_11 <| gt_app _ gu_12 <| gt_app _ gu_13 <| gt_app _ gu_14 <| gu_15
theorem gp : bb_P 12035 = bp_12035 := rfl
theorem gt_0 {pc : Nat} {i : Instr} {m : Option (List Bool)} (j : Nat) (h : bp_12035_0[j]? = some (pc, i, m)) : en_get (bb_P 12035) pc = some (i, m) := by
  rw [gp]
  exact (gt_get _ gu (List.mem_append_left _ (List.mem_of_getElem? h))).2
theorem gt_1 {pc : Nat} {i : Instr} {m : Option (List Bool)} (j : Nat) (h : bp_12035_1[j]? = some (pc, i, m)) : en_get (bb_P 12035) pc = some (i, m) := by
  rw [gp]
  exact (gt_get _ gu (List.mem_append_right _ (List.mem_append_left _ (List.mem_of_getElem? h)))).2
theorem gt_2 {pc : Nat} {i : Instr} {m : Option (List Bool)} (j : Nat) (h : bp_12035_2[j]? = some (pc, i, m)) : en_get (bb_P 12035) pc = some (i, m) := by
  rw [gp]
  exact (gt_get _ gu (List.mem_append_right _ (List.mem_append_right _ (List.mem_append_left _ (List.mem_of_getElem? h))))).2
theorem gt_3 {pc : Nat} {i : Instr} {m : Option (List Bool)} (j : Nat) (h : bp_12035_3[j]? = some (pc, i, m)) : en_get (bb_P 12035) pc = some (i, m) := by
  rw [gp]
  exact (gt_get _ gu (List.mem_append_right _ (List.mem_append_right _ (List.mem_append_right _ (List.mem_append_left _ (List.mem_of_getElem? h)))))).2
theorem gt_4 {pc : Nat} {i : Instr} {m : Option (List Bool)} (j : Nat) (h : bp_12035_4[j]? = some (pc, i, m)) : en_get (bb_P 12035) pc = some (i, m) := by
  rw [gp]
  exact (gt_get _ gu (List.mem_append_right _ (List.mem_append_right _ (List.mem_append_right _ (List.mem_append_right _ (List.mem_append_left _ (List.mem_of_getElem? h))))))).2
theorem gt_5 {pc : Nat} {i : Instr} {m : Option (List Bool)} (j : Nat) (h : bp_12035_5[j]? = some (pc, i, m)) : en_get (bb_P 12035) pc = some (i, m) := by
  rw [gp]
  exact (gt_get _ gu (List.mem_append_right _ (List.mem_append_right _ (List.mem_append_right _ (List.mem_append_right _ (List.mem_append_right _ (List.mem_append_left _ (List.mem_of_getElem? h)))))))).2
theorem gt_6 {pc : Nat} {i : Instr} {m : Option (List Bool)} (j : Nat) (h : bp_12035_6[j]? = some (pc, i, m)) : en_get (bb_P 12035) pc = some (i, m) := by
  rw [gp]
  exact (gt_get _ gu (List.mem_append_right _ (List.mem_append_right _ (List.mem_append_right _ (List.mem_append_right _ (List.mem_append_right _ (List.mem_append_right _ (List.mem_append_left _ (List.mem_of_getElem? h))))))))).2
theorem gt_7 {pc : Nat} {i : Instr} {m : Option (List Bool)} (j : Nat) (h : bp_12035_7[j]? = some (pc, i, m)) : en_get (bb_P 12035) pc = some (i, m) := by
  rw [gp]
  exact (gt_get _ gu (List.mem_append_right _ (List.mem_append_right _ (List.mem_append_right _ (List.mem_append_right _ (List.mem_append_right _ (List.mem_append_right _ (List.mem_append_right _ (List.mem_append_left _ (List.mem_of_getElem? h)))))))))).2
theorem gt_8 {pc : Nat} {i : Instr} {m : Option (List Bool)} (j : Nat) (h : bp_12035_8[j]? = some (pc, i, m)) : en_get (bb_P 12035) pc = some (i, m) := by
  rw [gp]
  exact (gt_get _ gu (List.mem_append_right _ (List.mem_append_right _ (List.mem_append_right _ (List.mem_append_right _ (List.mem_append_right _ (List.mem_append_right _ (List.mem_append_right _ (List.mem_append_right _ (List.mem_append_left _ (List.mem_of_getElem? h))))))))))).2
theorem gt_9 {pc : Nat} {i : Instr} {m : Option (List Bool)} (j : Nat) (h : bp_12035_9[j]? = some (pc, i, m)) : en_get (bb_P 12035) pc = some (i, m) := by
  rw [gp]
  exact (gt_get _ gu (List.mem_append_right _ (List.mem_append_right _ (List.mem_append_right _ (List.mem_append_right _ (List.mem_append_right _ (List.mem_append_right _ (List.mem_append_right _ (List.mem_append_right _ (List.mem_append_right _ (List.mem_append_left _ (List.mem_of_getElem? h)))))))))))).2
theorem gt_10 {pc : Nat} {i : Instr} {m : Option (List Bool)} (j : Nat) (h : bp_12035_10[j]? = some (pc, i, m)) : en_get (bb_P 12035) pc = some (i, m) := by
  rw [gp]
  exact (gt_get _ gu (List.mem_append_right _ (List.mem_append_right _ (List.mem_append_right _ (List.mem_append_right _ (List.mem_append_right _ (List.mem_append_right _ (List.mem_append_right _ (List.mem_append_right _ (List.mem_append_right _ (List.mem_append_right _ (List.mem_append_left _ (List.mem_of_getElem? h))))))))))))).2
theorem gt_11 {pc : Nat} {i : Instr} {m : Option (List Bool)} (j : Nat) (h : bp_12035_11[j]? = some (pc, i, m)) : en_get (bb_P 12035) pc = some (i, m) := by
  rw [gp]
  exact (gt_get _ gu (List.mem_append_right _ (List.mem_append_right _ (List.mem_append_right _ (List.mem_append_right _ (List.mem_append_right _ (List.mem_append_right _ (List.mem_append_right _ (List.mem_append_right _ (List.mem_append_right _ (List.mem_append_right _ (List.mem_append_right _ (List.mem_append_left _ (List.mem_of_getElem? h)))))))))))))).2
theorem gt_12 {pc : Nat} {i : Instr} {m : Option (List Bool)} (j : Nat) (h : bp_12035_12[j]? = some (pc, i, m)) : en_get (bb_P 12035) pc = some (i, m) := by
  rw [gp]
  exact (gt_get _ gu (List.mem_append_right _ (List.mem_append_right _ (List.mem_append_right _ (List.mem_append_right _ (List.mem_append_right _ (List.mem_append_right _ (List.mem_append_right _ (List.mem_append_right _ (List.mem_append_right _ (List.mem_append_right _ (List.mem_append_right _ (List.mem_append_right _ (List.mem_append_left _ (List.mem_of_getElem? h))))))))))))))).2
theorem gt_13 {pc : Nat} {i : Instr} {m : Option (List Bool)} (j : Nat) (h : bp_12035_13[j]? = some (pc, i, m)) : en_get (bb_P 12035) pc = some (i, m) := by
  rw [gp]
  exact (gt_get _ gu (List.mem_append_right _ (List.mem_append_right _ (List.mem_append_right _ (List.mem_append_right _ (List.mem_append_right _ (List.mem_append_right _ (List.mem_append_right _ (List.mem_append_right _ (List.mem_append_right _ (List.mem_append_right _ (List.mem_append_right _ (List.mem_append_right _ (List.mem_append_right _ (List.mem_append_left _ (List.mem_of_getElem? h)))))))))))))))).2
theorem gt_14 {pc : Nat} {i : Instr} {m : Option (List Bool)} (j : Nat) (h : bp_12035_14[j]? = some (pc, i, m)) : en_get (bb_P 12035) pc = some (i, m) := by
  rw [gp]
  exact (gt_get _ gu (List.mem_append_right _ (List.mem_append_right _ (List.mem_append_right _ (List.mem_append_right _ (List.mem_append_right _ (List.mem_append_right _ (List.mem_append_right _ (List.mem_append_right _ (List.mem_append_right _ (List.mem_append_right _ (List.mem_append_right _ (List.mem_append_right _ (List.mem_append_right _ (List.mem_append_right _ (List.mem_append_left _ (List.mem_of_getElem? h))))))))))))))))).2
theorem gt_15 {pc : Nat} {i : Instr} {m : Option (List Bool)} (j : Nat) (h : bp_12035_15[j]? = some (pc, i, m)) : en_get (bb_P 12035) pc = some (i, m) := by
  rw [gp]
  exact (gt_get _ gu (List.mem_append_right _ (List.mem_append_right _ (List.mem_append_right _ (List.mem_append_right _ (List.mem_append_right _ (List.mem_append_right _ (List.mem_append_right _ (List.mem_append_right _ (List.mem_append_right _ (List.mem_append_right _ (List.mem_append_right _ (List.mem_append_right _ (List.mem_append_right _ (List.mem_append_right _ (List.mem_append_right _ (List.mem_of_getElem? h))))))))))))))))).2
section UK
variable {G : en_G} {P : en_P} {ML : Nat → Nat} {HD : en_H} {Ls : Nat} {xs : Nat → Int32} {mi : Nat} {kf : en_K} {n pc : Nat} {L : en_L} {st : List Value} {σ : en_S}
theorem uk_S {i : Instr} (h : en_get (P mi) pc = some (i, none)) : en_uk G P ML HD Ls xs mi kf (n + 1) pc L st σ = en_ls G Ls xs mi pc i L st σ (en_uk G P ML HD Ls xs mi kf n) (fun y as σ' => en_ex G P ML HD 0 y 0 (en_ent (ML y) as) [] σ') (fun y as σ' => en_ex G P ML HD 1 y 0 (en_ent (ML y) as) [] σ') := by
  simp only [en_uk, h]
theorem uk_kf {i : Instr} {m : List Bool} {M : en_L} (h : en_get (P mi) pc = some (i, some m)) (hm : en_msk (some m) L = M) : en_uk G P ML HD Ls xs mi kf (n + 1) pc L st σ = kf pc M st σ := by
  rw [← hm]
  simp only [en_uk, h]
theorem uk_if {c : Prop} {dc : Decidable c} {a b : Option en_O} (h : a = b) : @ite _ c dc a none = @ite _ c dc b none := by rw [h]
theorem uk_ite {c : Prop} {dc : Decidable c} {a b a' b' : Option en_O} (h1 : a = a') (h2 : b = b') : @ite _ c dc a b = @ite _ c dc a' b' := by rw [h1, h2]
theorem uk_cI {o : Option en_O} {k k' : Int32 → en_S → Option en_O} {kx : Nat → en_S → Option en_O} (h : ∀ r σ, k r σ = k' r σ) : en_cI o k kx = en_cI o k' kx := by rw [show k = k' from funext fun r => funext fun s => h r s]
theorem uk_cVc {o : Option en_O} {k k' : en_S → Option en_O} {kx : Nat → en_S → Option en_O} (h : ∀ σ, k σ = k' σ) : en_cV o k kx = en_cV o k' kx := by rw [show k = k' from funext fun s => h s]
theorem uk_in0 : en_in 0 1 := by decide
theorem uk_al {j : Fin 4} {x : Nat} (h : en_get (P mi) pc = some (.aload_n j, none)) (hl : L[(j : Nat)]? = some (some (.ref x))) : en_uk G P ML HD Ls xs mi kf (n + 1) pc L st σ = en_uk G P ML HD Ls xs mi kf n (pc + 1) L (.ref x :: st) σ := by
  rw [uk_S h]
  show (match L[(j : Nat)]? with | some (some (.ref x)) => en_uk G P ML HD Ls xs mi kf n (pc + 1) L (.ref x :: st) σ | _ => none) = _
  rw [hl]
theorem uk_il {j : Nat} {x : Int32} (h : en_get (P mi) pc = some (.iload j, none)) (hl : L[j]? = some (some (.int x))) : en_uk G P ML HD Ls xs mi kf (n + 1) pc L st σ = en_uk G P ML HD Ls xs mi kf n (pc + 2) L (.int x :: st) σ := by
  rw [uk_S h]
  show (match L[j]? with | some (some (.int x)) => en_uk G P ML HD Ls xs mi kf n (pc + 2) L (.int x :: st) σ | _ => none) = _
  rw [hl]
theorem uk_ic {c : Int} {v : Int32} (h : en_get (P mi) pc = some (.iconst c, none)) (hc : Int32.ofInt c = v) : en_uk G P ML HD Ls xs mi kf (n + 1) pc L st σ = en_uk G P ML HD Ls xs mi kf n (pc + 1) L (.int v :: st) σ := by
  rw [uk_S h]
  rw [← hc]
  rfl
theorem uk_lc {c : Fin 2} {v : Int64} (h : en_get (P mi) pc = some (.lconst c, none)) (hc : Int64.ofNat (c : Nat) = v) : en_uk G P ML HD Ls xs mi kf (n + 1) pc L st σ = en_uk G P ML HD Ls xs mi kf n (pc + 1) L (.long v :: st) σ := by
  rw [uk_S h]
  rw [← hc]
  rfl
theorem uk_ia {x y : Int32} {r : List Value} (h : en_get (P mi) pc = some (.iadd, none)) : en_uk G P ML HD Ls xs mi kf (n + 1) pc L (.int y :: .int x :: r) σ = en_uk G P ML HD Ls xs mi kf n (pc + 1) L (.int (x + y) :: r) σ := by
  rw [uk_S h]
  rfl
theorem uk_ix {j : Int32} {r : List Value} (h : en_get (P mi) pc = some (.iaload, none)) : en_uk G P ML HD Ls xs mi kf (n + 1) pc L (.int j :: .ref 900 :: r) σ = if en_in j Ls then en_uk G P ML HD Ls xs mi kf n (pc + 1) L (.int (xs j.toNatClampNeg) :: r) σ else none := by
  rw [uk_S h]
  rfl
theorem uk_is {j : Nat} {x : Int32} {r : List Value} {M : en_L} (h : en_get (P mi) pc = some (.istore j, none)) (hj : Nat.blt j L.length = true) (hM : en_set L j (some (.int x)) = M) : en_uk G P ML HD Ls xs mi kf (n + 1) pc L (.int x :: r) σ = en_uk G P ML HD Ls xs mi kf n (pc + 2) M r σ := by
  rw [uk_S h]
  rw [← hM]
  exact if_pos (Nat.le_of_ble_eq_true hj)
theorem uk_ii {j : Nat} {c : Int} {v x : Int32} {M : en_L} (h : en_get (P mi) pc = some (.iinc j c, none)) (hc : Int32.ofInt c = v) (hl : L[j]? = some (some (.int x))) (hM : en_set L j (some (.int (x + v))) = M) : en_uk G P ML HD Ls xs mi kf (n + 1) pc L st σ = en_uk G P ML HD Ls xs mi kf n (pc + 3) M st σ := by
  rw [uk_S h]
  rw [← hM, ← hc]
  show (match L[j]? with | some (some (.int x)) => en_uk G P ML HD Ls xs mi kf n (pc + 3) (en_set L j (some (.int (x + Int32.ofInt c)))) st σ | _ => none) = _
  rw [hl]
theorem uk_cS {idx y m ci : Nat} {as r : List Value} {X : Option en_O} (h : en_get (P mi) pc = some (.invokestatic idx, none)) (hc : en_CL G mi idx = some (9, y, m, ci)) (hr : en_RT G y = some .int) (hl : Nat.ble m st.length = true) (h1 : en_small (st.drop m) = true) (h2 : en_one (st.take m) = true) (ha : (st.take m).reverse = as) (hd : st.drop m = r) (hx : en_ex G P ML HD 1 y 0 (en_ent (ML y) as) [] σ = X) : en_uk G P ML HD Ls xs mi kf (n + 1) pc L st σ = en_cI X (fun v σ => en_uk G P ML HD Ls xs mi kf n (pc + 3) L (.int v :: r) σ) (fun _ _ => none) := by
  rw [uk_S h]
  subst hx ha hd
  show (match en_CL G mi idx with | some (9, y, n1, _) => if n1 ≤ st.length ∧ en_small (st.drop n1) = true ∧ en_one (st.take n1) = true then en_back (en_RT G y) (en_ex G P ML HD 1 y 0 (en_ent (ML y) (st.take n1).reverse) [] σ) (fun v σ => en_uk G P ML HD Ls xs mi kf n (pc + 3) L (v ++ st.drop n1) σ) (fun _ _ => none) else none | _ => none) = _
  rw [hc]
  show (if _ then _ else _) = _
  rw [if_pos ⟨Nat.le_of_ble_eq_true hl, h1, h2⟩, hr]
  rfl
theorem uk_cN {idx y m ci p : Nat} {as r : List Value} {X : Option en_O} (h : en_get (P mi) pc = some (.invokevirtual idx, none)) (hc : en_CL G mi idx = some (0, y, m, ci)) (hr : en_RT G y = some .int) (hl : Nat.ble m st.length = true) (h1 : en_small (st.drop m) = true) (h2 : en_one (st.take m) = true) (ha : (st.take m).reverse = .ref p :: as) (hd : st.drop m = r) (hs : ((en_SH G)[p]?).map (·.1) = some ci) (hx : en_ex G P ML HD 0 y 0 (en_ent (ML y) (.ref p :: as)) [] σ = X) : en_uk G P ML HD Ls xs mi kf (n + 1) pc L st σ = en_cI X (fun v σ => en_uk G P ML HD Ls xs mi kf n (pc + 3) L (.int v :: r) σ) (fun _ _ => none) := by
  rw [uk_S h]
  subst hx hd
  show en_inV G mi idx pc L st σ (en_uk G P ML HD Ls xs mi kf n) (fun y as σ1 => en_ex G P ML HD 0 y 0 (en_ent (ML y) as) [] σ1) (fun _ _ _ _ => none) = _
  unfold en_inV
  rw [hc]
  show (if _ then _ else _) = _
  rw [if_pos ⟨Nat.le_of_ble_eq_true hl, h1, h2⟩, ha]
  show (if _ then _ else _) = _
  rw [if_pos hs, hr]
  rfl
theorem uk_cB {idx y m ci p : Nat} {as r : List Value} {X : Option en_O} (h : en_get (P mi) pc = some (.invokevirtual idx, none)) (hc : en_CL G mi idx = some (0, y, m, ci)) (hr : en_RT G y = some .boolean) (hl : Nat.ble m st.length = true) (h1 : en_small (st.drop m) = true) (h2 : en_one (st.take m) = true) (ha : (st.take m).reverse = .ref p :: as) (hd : st.drop m = r) (hs : ((en_SH G)[p]?).map (·.1) = some ci) (hx : en_ex G P ML HD 0 y 0 (en_ent (ML y) (.ref p :: as)) [] σ = X) : en_uk G P ML HD Ls xs mi kf (n + 1) pc L st σ = en_cI X (fun v σ => en_uk G P ML HD Ls xs mi kf n (pc + 3) L (.int v :: r) σ) (fun _ _ => none) := by
  rw [uk_S h]
  subst hx hd
  show en_inV G mi idx pc L st σ (en_uk G P ML HD Ls xs mi kf n) (fun y as σ1 => en_ex G P ML HD 0 y 0 (en_ent (ML y) as) [] σ1) (fun _ _ _ _ => none) = _
  unfold en_inV
  rw [hc]
  show (if _ then _ else _) = _
  rw [if_pos ⟨Nat.le_of_ble_eq_true hl, h1, h2⟩, ha]
  show (if _ then _ else _) = _
  rw [if_pos hs, hr]
  rfl
theorem uk_cV {idx y m ci p : Nat} {as r : List Value} {X : Option en_O} (h : en_get (P mi) pc = some (.invokevirtual idx, none)) (hc : en_CL G mi idx = some (0, y, m, ci)) (hr : en_RT G y = none) (hl : Nat.ble m st.length = true) (h1 : en_small (st.drop m) = true) (h2 : en_one (st.take m) = true) (ha : (st.take m).reverse = .ref p :: as) (hd : st.drop m = r) (hs : ((en_SH G)[p]?).map (·.1) = some ci) (hx : en_ex G P ML HD 0 y 0 (en_ent (ML y) (.ref p :: as)) [] σ = X) : en_uk G P ML HD Ls xs mi kf (n + 1) pc L st σ = en_cV X (fun σ => en_uk G P ML HD Ls xs mi kf n (pc + 3) L r σ) (fun _ _ => none) := by
  rw [uk_S h]
  subst hx hd
  show en_inV G mi idx pc L st σ (en_uk G P ML HD Ls xs mi kf n) (fun y as σ1 => en_ex G P ML HD 0 y 0 (en_ent (ML y) as) [] σ1) (fun _ _ _ _ => none) = _
  unfold en_inV
  rw [hc]
  show (if _ then _ else _) = _
  rw [if_pos ⟨Nat.le_of_ble_eq_true hl, h1, h2⟩, ha]
  show (if _ then _ else _) = _
  rw [if_pos hs, hr]
  rfl
theorem uk_jc {x y : Int32} {r : List Value} {off : Int} {t : Nat} (h : en_get (P mi) pc = some (.if_icmp .eq off, none)) (ht : en_tgt pc off = t) : en_uk G P ML HD Ls xs mi kf (n + 1) pc L (.int y :: .int x :: r) σ = if x = y then en_uk G P ML HD Ls xs mi kf n t L r σ else en_uk G P ML HD Ls xs mi kf n (pc + 3) L r σ := by
  rw [uk_S h]
  rw [← ht]
  rfl
theorem uk_je {x : Int32} {r : List Value} {off : Int} {t : Nat} (h : en_get (P mi) pc = some (.ifCond .eq off, none)) (ht : en_tgt pc off = t) : en_uk G P ML HD Ls xs mi kf (n + 1) pc L (.int x :: r) σ = if x = 0 then en_uk G P ML HD Ls xs mi kf n t L r σ else en_uk G P ML HD Ls xs mi kf n (pc + 3) L r σ := by
  rw [uk_S h]
  rw [← ht]
  rfl
theorem uk_jn {x : Int32} {r : List Value} {off : Int} {t : Nat} (h : en_get (P mi) pc = some (.ifCond .ne off, none)) (ht : en_tgt pc off = t) : en_uk G P ML HD Ls xs mi kf (n + 1) pc L (.int x :: r) σ = if x = 0 then en_uk G P ML HD Ls xs mi kf n (pc + 3) L r σ else en_uk G P ML HD Ls xs mi kf n t L r σ := by
  rw [uk_S h]
  rw [← ht]
  rfl
theorem uk_la {j : Int32} {p m q : Nat} {r : List Value} (h : en_get (P mi) pc = some (.laload, none)) (ha : en_arr G p 23 = some m) (hj : en_in j m) (hq : j.toNatClampNeg = q) : en_uk G P ML HD Ls xs mi kf (n + 1) pc L (.int j :: .ref p :: r) σ = en_uk G P ML HD Ls xs mi kf n (pc + 1) L (.long (σ.2 p q) :: r) σ := by
  rw [uk_S h]
  rw [← hq]
  show (match en_arr G p 23 with | some n1 => if en_in j n1 then en_uk G P ML HD Ls xs mi kf n (pc + 1) L (.long (σ.2 p j.toNatClampNeg) :: r) σ else none | none => none) = _
  rw [ha]
  exact if_pos hj
theorem uk_i2 {x : Int32} {r : List Value} (h : en_get (P mi) pc = some (.i2l, none)) : en_uk G P ML HD Ls xs mi kf (n + 1) pc L (.int x :: r) σ = en_uk G P ML HD Ls xs mi kf n (pc + 1) L (.long x.toInt64 :: r) σ := by
  rw [uk_S h]
  rfl
theorem uk_lcm {x y : Int64} {r : List Value} (h : en_get (P mi) pc = some (.lcmp, none)) : en_uk G P ML HD Ls xs mi kf (n + 1) pc L (.long y :: .long x :: r) σ = en_uk G P ML HD Ls xs mi kf n (pc + 1) L (.int (lg_cmp x y) :: r) σ := by
  rw [uk_S h]
  rfl
theorem uk_go {off : Int} {t : Nat} (h : en_get (P mi) pc = some (.goto off, none)) (ht : en_tgt pc off = t) : en_uk G P ML HD Ls xs mi kf (n + 1) pc L st σ = en_uk G P ML HD Ls xs mi kf n t L st σ := by
  rw [uk_S h]
  rw [← ht]
  rfl
theorem uk_re {v : Int32} (h : en_get (P mi) pc = some (.ireturn, none)) (hr : en_RT G mi = some .boolean) (hv : v = 0 ∨ v = 1) : en_uk G P ML HD Ls xs mi kf (n + 1) pc L [.int v] σ = some (.inl (some (.int v)), σ) := by
  rw [uk_S h]
  show en_retI (en_RT G mi) v σ = _
  rw [hr]
  exact if_pos hv
end UK
theorem rt_12035 : en_RT bb_G 12035 = some .boolean := rfl
theorem ar_30 : en_arr bb_G 30 23 = some 1 := rfl
theorem sh_0 : ((en_SH bb_G)[0]?).map (·.1) = some 0 := rfl
theorem sh_31 : ((en_SH bb_G)[31]?).map (·.1) = some 10 := rfl
theorem cl_126 : en_CL bb_G 12035 126 = some (0, 10001, 6, 10) := rfl
theorem rt_10001 : en_RT bb_G 10001 = some .int := rfl
theorem cx_b_feed_0 (σ : en_S) (v1 : Int32) (v2 : Int32) (v3 : Int32) (v4 : Int32) (v5 : Int32) : en_ex bb_G bb_P bb_ML bb_HD 0 10001 0 (en_ent (bb_ML 10001) [.ref 31, .int v1, .int v2, .int v3, .int v4, .int v5]) [] σ = x_b_feed_0 σ v1 v2 v3 v4 v5 := rfl
theorem cl_130 : en_CL bb_G 12035 130 = some (0, 9, 6, 0) := rfl
theorem rt_9 : en_RT bb_G 9 = some .int := rfl
theorem cx_m_feed_0 (σ : en_S) (v1 : Int32) (v2 : Int32) (v3 : Int32) (v4 : Int32) (v5 : Int32) : en_ex bb_G bb_P bb_ML bb_HD 0 9 0 (en_ent (bb_ML 9) [.ref 0, .int v1, .int v2, .int v3, .int v4, .int v5]) [] σ = x_m_feed_0 σ v1 v2 v3 v4 v5 := rfl
theorem cl_131 : en_CL bb_G 12035 131 = some (9, 12000, 3, 0) := rfl
theorem rt_12000 : en_RT bb_G 12000 = some .int := rfl
theorem cx_lw_land_0 (σ : en_S) (v1 : Int32) : en_ex bb_G bb_P bb_ML bb_HD 1 12000 0 (en_ent (bb_ML 12000) [.ref 31, .int v1, .ref 30]) [] σ = x_lw_land_0 σ v1 := rfl
theorem cl_136 : en_CL bb_G 12035 136 = some (0, 41, 2, 0) := rfl
theorem rt_41 : en_RT bb_G 41 = some .int := rfl
theorem cx_m_land_0 (σ : en_S) (v1 : Int32) : en_ex bb_G bb_P bb_ML bb_HD 0 41 0 (en_ent (bb_ML 41) [.ref 0, .int v1]) [] σ = x_m_land_0 σ v1 := rfl
theorem cl_137 : en_CL bb_G 12035 137 = some (0, 1, 1, 0) := rfl
theorem rt_1 : en_RT bb_G 1 = some .int := rfl
theorem cx_m_thrown_0 (σ : en_S) : en_ex bb_G bb_P bb_ML bb_HD 0 1 0 (en_ent (bb_ML 1) [.ref 0]) [] σ = x_m_thrown_0 σ := rfl
theorem cl_141 : en_CL bb_G 12035 141 = some (0, 10003, 1, 10) := rfl
theorem rt_10003 : en_RT bb_G 10003 = some .int := rfl
theorem cx_b_fault_0 (σ : en_S) : en_ex bb_G bb_P bb_ML bb_HD 0 10003 0 (en_ent (bb_ML 10003) [.ref 31]) [] σ = x_b_fault_0 σ := rfl
theorem cl_144 : en_CL bb_G 12035 144 = some (0, 42, 1, 0) := rfl
theorem rt_42 : en_RT bb_G 42 = some .int := rfl
theorem cx_m_fault_0 (σ : en_S) : en_ex bb_G bb_P bb_ML bb_HD 0 42 0 (en_ent (bb_ML 42) [.ref 0]) [] σ = x_m_fault_0 σ := rfl
theorem cl_145 : en_CL bb_G 12035 145 = some (9, 12001, 3, 0) := rfl
theorem rt_12001 : en_RT bb_G 12001 = some .int := rfl
theorem cx_lw_count_0 (σ : en_S) (v1 : Int32) : en_ex bb_G bb_P bb_ML bb_HD 1 12001 0 (en_ent (bb_ML 12001) [.ref 31, .int v1, .ref 30]) [] σ = x_lw_count_0 σ v1 := rfl
theorem cl_147 : en_CL bb_G 12035 147 = some (0, 66, 2, 0) := rfl
theorem rt_66 : en_RT bb_G 66 = some .int := rfl
theorem cx_m_count_0 (σ : en_S) (v1 : Int32) : en_ex bb_G bb_P bb_ML bb_HD 0 66 0 (en_ent (bb_ML 66) [.ref 0, .int v1]) [] σ = x_m_count_0 σ v1 := rfl
theorem cl_148 : en_CL bb_G 12035 148 = some (9, 12002, 4, 0) := rfl
theorem rt_12002 : en_RT bb_G 12002 = some .int := rfl
theorem cx_lw_box_0 (σ : en_S) (v1 : Int32) (v2 : Int32) : en_ex bb_G bb_P bb_ML bb_HD 1 12002 0 (en_ent (bb_ML 12002) [.ref 31, .int v1, .int v2, .ref 30]) [] σ = x_lw_box_0 σ v1 v2 := rfl
theorem cl_151 : en_CL bb_G 12035 151 = some (0, 73, 3, 0) := rfl
theorem rt_73 : en_RT bb_G 73 = some .int := rfl
theorem cx_m_box_0 (σ : en_S) (v1 : Int32) (v2 : Int32) : en_ex bb_G bb_P bb_ML bb_HD 0 73 0 (en_ent (bb_ML 73) [.ref 0, .int v1, .int v2]) [] σ = x_m_box_0 σ v1 v2 := rfl
theorem cl_152 : en_CL bb_G 12035 152 = some (9, 12003, 4, 0) := rfl
theorem rt_12003 : en_RT bb_G 12003 = some .int := rfl
theorem cx_lw_bearer_0 (σ : en_S) (v1 : Int32) (v2 : Int32) : en_ex bb_G bb_P bb_ML bb_HD 1 12003 0 (en_ent (bb_ML 12003) [.ref 31, .int v1, .int v2, .ref 30]) [] σ = x_lw_bearer_0 σ v1 v2 := rfl
theorem cl_154 : en_CL bb_G 12035 154 = some (0, 74, 3, 0) := rfl
theorem rt_74 : en_RT bb_G 74 = some .int := rfl
theorem cx_m_bearer_0 (σ : en_S) (v1 : Int32) (v2 : Int32) : en_ex bb_G bb_P bb_ML bb_HD 0 74 0 (en_ent (bb_ML 74) [.ref 0, .int v1, .int v2]) [] σ = x_m_bearer_0 σ v1 v2 := rfl
theorem cl_155 : en_CL bb_G 12035 155 = some (0, 10007, 2, 10) := rfl
theorem rt_10007 : en_RT bb_G 10007 = some .int := rfl
theorem cx_b_days_0 (σ : en_S) (v1 : Int32) : en_ex bb_G bb_P bb_ML bb_HD 0 10007 0 (en_ent (bb_ML 10007) [.ref 31, .int v1]) [] σ = x_b_days_0 σ v1 := rfl
theorem cl_158 : en_CL bb_G 12035 158 = some (0, 75, 2, 0) := rfl
theorem rt_75 : en_RT bb_G 75 = some .int := rfl
theorem cx_m_days_0 (σ : en_S) (v1 : Int32) : en_ex bb_G bb_P bb_ML bb_HD 0 75 0 (en_ent (bb_ML 75) [.ref 0, .int v1]) [] σ = x_m_days_0 σ v1 := rfl
theorem cl_159 : en_CL bb_G 12035 159 = some (9, 12004, 4, 0) := rfl
theorem rt_12004 : en_RT bb_G 12004 = some .int := rfl
theorem cx_lw_hand_0 (σ : en_S) (v1 : Int32) (v2 : Int32) : en_ex bb_G bb_P bb_ML bb_HD 1 12004 0 (en_ent (bb_ML 12004) [.ref 31, .int v1, .int v2, .ref 30]) [] σ = x_lw_hand_0 σ v1 v2 := rfl
theorem cl_161 : en_CL bb_G 12035 161 = some (0, 76, 3, 0) := rfl
theorem rt_76 : en_RT bb_G 76 = some .int := rfl
theorem cx_m_hand_0 (σ : en_S) (v1 : Int32) (v2 : Int32) : en_ex bb_G bb_P bb_ML bb_HD 0 76 0 (en_ent (bb_ML 76) [.ref 0, .int v1, .int v2]) [] σ = x_m_hand_0 σ v1 v2 := rfl
theorem cl_162 : en_CL bb_G 12035 162 = some (9, 12005, 3, 0) := rfl
theorem rt_12005 : en_RT bb_G 12005 = some .int := rfl
theorem cx_lw_away_0 (σ : en_S) (v1 : Int32) : en_ex bb_G bb_P bb_ML bb_HD 1 12005 0 (en_ent (bb_ML 12005) [.ref 31, .int v1, .ref 30]) [] σ = x_lw_away_0 σ v1 := rfl
theorem cl_164 : en_CL bb_G 12035 164 = some (0, 77, 2, 0) := rfl
theorem rt_77 : en_RT bb_G 77 = some .int := rfl
theorem cx_m_away_0 (σ : en_S) (v1 : Int32) : en_ex bb_G bb_P bb_ML bb_HD 0 77 0 (en_ent (bb_ML 77) [.ref 0, .int v1]) [] σ = x_m_away_0 σ v1 := rfl
theorem cl_165 : en_CL bb_G 12035 165 = some (9, 12006, 4, 0) := rfl
theorem rt_12006 : en_RT bb_G 12006 = some .int := rfl
theorem cx_lw_change_0 (σ : en_S) (v1 : Int32) (v2 : Int32) : en_ex bb_G bb_P bb_ML bb_HD 1 12006 0 (en_ent (bb_ML 12006) [.ref 31, .int v1, .int v2, .ref 30]) [] σ = x_lw_change_0 σ v1 v2 := rfl
theorem cl_167 : en_CL bb_G 12035 167 = some (0, 78, 3, 0) := rfl
theorem rt_78 : en_RT bb_G 78 = some .boolean := rfl
theorem cx_m_change_0 (σ : en_S) (v1 : Int32) (v2 : Int32) : en_ex bb_G bb_P bb_ML bb_HD 0 78 0 (en_ent (bb_ML 78) [.ref 0, .int v1, .int v2]) [] σ = x_m_change_0 σ v1 v2 := rfl
theorem cl_168 : en_CL bb_G 12035 168 = some (9, 12007, 4, 0) := rfl
theorem rt_12007 : en_RT bb_G 12007 = some .int := rfl
theorem cx_lw_slander_0 (σ : en_S) (v1 : Int32) (v2 : Int32) : en_ex bb_G bb_P bb_ML bb_HD 1 12007 0 (en_ent (bb_ML 12007) [.ref 31, .int v1, .int v2, .ref 30]) [] σ = x_lw_slander_0 σ v1 v2 := rfl
theorem cl_170 : en_CL bb_G 12035 170 = some (0, 80, 3, 0) := rfl
theorem rt_80 : en_RT bb_G 80 = some .int := rfl
theorem cx_m_slander_0 (σ : en_S) (v1 : Int32) (v2 : Int32) : en_ex bb_G bb_P bb_ML bb_HD 0 80 0 (en_ent (bb_ML 80) [.ref 0, .int v1, .int v2]) [] σ = x_m_slander_0 σ v1 v2 := rfl
theorem cl_171 : en_CL bb_G 12035 171 = some (9, 12008, 4, 0) := rfl
theorem rt_12008 : en_RT bb_G 12008 = some .int := rfl
theorem cx_lw_praise_0 (σ : en_S) (v1 : Int32) (v2 : Int32) : en_ex bb_G bb_P bb_ML bb_HD 1 12008 0 (en_ent (bb_ML 12008) [.ref 31, .int v1, .int v2, .ref 30]) [] σ = x_lw_praise_0 σ v1 v2 := rfl
theorem cl_173 : en_CL bb_G 12035 173 = some (0, 81, 3, 0) := rfl
theorem rt_81 : en_RT bb_G 81 = some .int := rfl
theorem cx_m_praise_0 (σ : en_S) (v1 : Int32) (v2 : Int32) : en_ex bb_G bb_P bb_ML bb_HD 0 81 0 (en_ent (bb_ML 81) [.ref 0, .int v1, .int v2]) [] σ = x_m_praise_0 σ v1 v2 := rfl
theorem cl_174 : en_CL bb_G 12035 174 = some (0, 10013, 1, 10) := rfl
theorem rt_10013 : en_RT bb_G 10013 = some .int := rfl
theorem cx_b_undo_0 (σ : en_S) : en_ex bb_G bb_P bb_ML bb_HD 0 10013 0 (en_ent (bb_ML 10013) [.ref 31]) [] σ = x_b_undo_0 σ := rfl
theorem cl_177 : en_CL bb_G 12035 177 = some (0, 45, 1, 0) := rfl
theorem rt_45 : en_RT bb_G 45 = some .int := rfl
theorem cx_m_undo_0 (σ : en_S) : en_ex bb_G bb_P bb_ML bb_HD 0 45 0 (en_ent (bb_ML 45) [.ref 0]) [] σ = x_m_undo_0 σ := rfl
theorem cl_178 : en_CL bb_G 12035 178 = some (9, 12009, 5, 0) := rfl
theorem rt_12009 : en_RT bb_G 12009 = some .int := rfl
theorem cx_lw_then_0 (σ : en_S) (v1 : Int32) (v2 : Int32) (v3 : Int32) : en_ex bb_G bb_P bb_ML bb_HD 1 12009 0 (en_ent (bb_ML 12009) [.ref 31, .int v1, .int v2, .int v3, .ref 30]) [] σ = x_lw_then_0 σ v1 v2 v3 := rfl
theorem cl_181 : en_CL bb_G 12035 181 = some (0, 83, 4, 0) := rfl
theorem rt_83 : en_RT bb_G 83 = some .int := rfl
theorem cx_m_then_0 (σ : en_S) (v1 : Int32) (v2 : Int32) (v3 : Int32) : en_ex bb_G bb_P bb_ML bb_HD 0 83 0 (en_ent (bb_ML 83) [.ref 0, .int v1, .int v2, .int v3]) [] σ = x_m_then_0 σ v1 v2 v3 := rfl
theorem cl_182 : en_CL bb_G 12035 182 = some (9, 12010, 5, 0) := rfl
theorem rt_12010 : en_RT bb_G 12010 = some .int := rfl
theorem cx_lw_who_0 (σ : en_S) (v1 : Int32) (v2 : Int32) (v3 : Int32) : en_ex bb_G bb_P bb_ML bb_HD 1 12010 0 (en_ent (bb_ML 12010) [.ref 31, .int v1, .int v2, .int v3, .ref 30]) [] σ = x_lw_who_0 σ v1 v2 v3 := rfl
theorem cl_184 : en_CL bb_G 12035 184 = some (0, 84, 4, 0) := rfl
theorem rt_84 : en_RT bb_G 84 = some .int := rfl
theorem cx_m_who_0 (σ : en_S) (v1 : Int32) (v2 : Int32) (v3 : Int32) : en_ex bb_G bb_P bb_ML bb_HD 0 84 0 (en_ent (bb_ML 84) [.ref 0, .int v1, .int v2, .int v3]) [] σ = x_m_who_0 σ v1 v2 v3 := rfl
theorem cl_185 : en_CL bb_G 12035 185 = some (9, 12011, 3, 0) := rfl
theorem rt_12011 : en_RT bb_G 12011 = some .int := rfl
theorem cx_lw_fallen_0 (σ : en_S) (v1 : Int32) : en_ex bb_G bb_P bb_ML bb_HD 1 12011 0 (en_ent (bb_ML 12011) [.ref 31, .int v1, .ref 30]) [] σ = x_lw_fallen_0 σ v1 := rfl
theorem cl_187 : en_CL bb_G 12035 187 = some (0, 85, 2, 0) := rfl
theorem rt_85 : en_RT bb_G 85 = some .int := rfl
theorem cx_m_fallen_0 (σ : en_S) (v1 : Int32) : en_ex bb_G bb_P bb_ML bb_HD 0 85 0 (en_ent (bb_ML 85) [.ref 0, .int v1]) [] σ = x_m_fallen_0 σ v1 := rfl
theorem cl_188 : en_CL bb_G 12035 188 = some (9, 12012, 3, 0) := rfl
theorem rt_12012 : en_RT bb_G 12012 = some .int := rfl
theorem cx_lw_rests_0 (σ : en_S) (v1 : Int32) : en_ex bb_G bb_P bb_ML bb_HD 1 12012 0 (en_ent (bb_ML 12012) [.ref 31, .int v1, .ref 30]) [] σ = x_lw_rests_0 σ v1 := rfl
theorem cl_190 : en_CL bb_G 12035 190 = some (0, 87, 2, 0) := rfl
theorem rt_87 : en_RT bb_G 87 = some .int := rfl
theorem cx_m_rests_0 (σ : en_S) (v1 : Int32) : en_ex bb_G bb_P bb_ML bb_HD 0 87 0 (en_ent (bb_ML 87) [.ref 0, .int v1]) [] σ = x_m_rests_0 σ v1 := rfl
theorem cl_191 : en_CL bb_G 12035 191 = some (9, 12013, 4, 0) := rfl
theorem rt_12013 : en_RT bb_G 12013 = some .int := rfl
theorem cx_lw_meet_0 (σ : en_S) (v1 : Int32) (v2 : Int32) : en_ex bb_G bb_P bb_ML bb_HD 1 12013 0 (en_ent (bb_ML 12013) [.ref 31, .int v1, .int v2, .ref 30]) [] σ = x_lw_meet_0 σ v1 v2 := rfl
theorem cl_193 : en_CL bb_G 12035 193 = some (0, 89, 3, 0) := rfl
theorem rt_89 : en_RT bb_G 89 = some .int := rfl
theorem cx_m_meet_0 (σ : en_S) (v1 : Int32) (v2 : Int32) : en_ex bb_G bb_P bb_ML bb_HD 0 89 0 (en_ent (bb_ML 89) [.ref 0, .int v1, .int v2]) [] σ = x_m_meet_0 σ v1 v2 := rfl
theorem cl_194 : en_CL bb_G 12035 194 = some (9, 12014, 4, 0) := rfl
theorem rt_12014 : en_RT bb_G 12014 = some .int := rfl
theorem cx_lw_later_0 (σ : en_S) (v1 : Int32) (v2 : Int32) : en_ex bb_G bb_P bb_ML bb_HD 1 12014 0 (en_ent (bb_ML 12014) [.ref 31, .int v1, .int v2, .ref 30]) [] σ = x_lw_later_0 σ v1 v2 := rfl
theorem cl_196 : en_CL bb_G 12035 196 = some (0, 90, 3, 0) := rfl
theorem rt_90 : en_RT bb_G 90 = some .int := rfl
theorem cx_m_later_0 (σ : en_S) (v1 : Int32) (v2 : Int32) : en_ex bb_G bb_P bb_ML bb_HD 0 90 0 (en_ent (bb_ML 90) [.ref 0, .int v1, .int v2]) [] σ = x_m_later_0 σ v1 v2 := rfl
theorem cl_197 : en_CL bb_G 12035 197 = some (9, 12015, 4, 0) := rfl
theorem rt_12015 : en_RT bb_G 12015 = some .int := rfl
theorem cx_lw_calls_0 (σ : en_S) (v1 : Int32) (v2 : Int32) : en_ex bb_G bb_P bb_ML bb_HD 1 12015 0 (en_ent (bb_ML 12015) [.ref 31, .int v1, .int v2, .ref 30]) [] σ = x_lw_calls_0 σ v1 v2 := rfl
theorem cl_199 : en_CL bb_G 12035 199 = some (0, 91, 3, 0) := rfl
theorem rt_91 : en_RT bb_G 91 = some .int := rfl
theorem cx_m_calls_0 (σ : en_S) (v1 : Int32) (v2 : Int32) : en_ex bb_G bb_P bb_ML bb_HD 0 91 0 (en_ent (bb_ML 91) [.ref 0, .int v1, .int v2]) [] σ = x_m_calls_0 σ v1 v2 := rfl
theorem cl_200 : en_CL bb_G 12035 200 = some (9, 12016, 3, 0) := rfl
theorem rt_12016 : en_RT bb_G 12016 = some .int := rfl
theorem cx_lw_toBear_0 (σ : en_S) (v1 : Int32) : en_ex bb_G bb_P bb_ML bb_HD 1 12016 0 (en_ent (bb_ML 12016) [.ref 31, .int v1, .ref 30]) [] σ = x_lw_toBear_0 σ v1 := rfl
theorem cl_202 : en_CL bb_G 12035 202 = some (0, 93, 2, 0) := rfl
theorem rt_93 : en_RT bb_G 93 = some .int := rfl
theorem cx_m_toBear_0 (σ : en_S) (v1 : Int32) : en_ex bb_G bb_P bb_ML bb_HD 0 93 0 (en_ent (bb_ML 93) [.ref 0, .int v1]) [] σ = x_m_toBear_0 σ v1 := rfl
theorem cl_203 : en_CL bb_G 12035 203 = some (9, 12017, 3, 0) := rfl
theorem rt_12017 : en_RT bb_G 12017 = some .int := rfl
theorem cx_lw_crew_0 (σ : en_S) (v1 : Int32) : en_ex bb_G bb_P bb_ML bb_HD 1 12017 0 (en_ent (bb_ML 12017) [.ref 31, .int v1, .ref 30]) [] σ = x_lw_crew_0 σ v1 := rfl
theorem cl_205 : en_CL bb_G 12035 205 = some (0, 94, 2, 0) := rfl
theorem rt_94 : en_RT bb_G 94 = some .int := rfl
theorem cx_m_crew_0 (σ : en_S) (v1 : Int32) : en_ex bb_G bb_P bb_ML bb_HD 0 94 0 (en_ent (bb_ML 94) [.ref 0, .int v1]) [] σ = x_m_crew_0 σ v1 := rfl
theorem cl_206 : en_CL bb_G 12035 206 = some (9, 12018, 3, 0) := rfl
theorem rt_12018 : en_RT bb_G 12018 = some .int := rfl
theorem cx_lw_toSlander_0 (σ : en_S) (v1 : Int32) : en_ex bb_G bb_P bb_ML bb_HD 1 12018 0 (en_ent (bb_ML 12018) [.ref 31, .int v1, .ref 30]) [] σ = x_lw_toSlander_0 σ v1 := rfl
theorem cl_208 : en_CL bb_G 12035 208 = some (0, 95, 2, 0) := rfl
theorem rt_95 : en_RT bb_G 95 = some .int := rfl
theorem cx_m_toSlander_0 (σ : en_S) (v1 : Int32) : en_ex bb_G bb_P bb_ML bb_HD 0 95 0 (en_ent (bb_ML 95) [.ref 0, .int v1]) [] σ = x_m_toSlander_0 σ v1 := rfl
theorem cl_209 : en_CL bb_G 12035 209 = some (9, 12019, 3, 0) := rfl
theorem rt_12019 : en_RT bb_G 12019 = some .int := rfl
theorem cx_lw_toWait_0 (σ : en_S) (v1 : Int32) : en_ex bb_G bb_P bb_ML bb_HD 1 12019 0 (en_ent (bb_ML 12019) [.ref 31, .int v1, .ref 30]) [] σ = x_lw_toWait_0 σ v1 := rfl
theorem cl_211 : en_CL bb_G 12035 211 = some (0, 88, 2, 0) := rfl
theorem rt_88 : en_RT bb_G 88 = some .int := rfl
theorem cx_m_toWait_0 (σ : en_S) (v1 : Int32) : en_ex bb_G bb_P bb_ML bb_HD 0 88 0 (en_ent (bb_ML 88) [.ref 0, .int v1]) [] σ = x_m_toWait_0 σ v1 := rfl
theorem cl_212 : en_CL bb_G 12035 212 = some (9, 12020, 5, 0) := rfl
theorem rt_12020 : en_RT bb_G 12020 = some .int := rfl
theorem cx_lw_way_0 (σ : en_S) (v1 : Int32) (v2 : Int32) (v3 : Int32) : en_ex bb_G bb_P bb_ML bb_HD 1 12020 0 (en_ent (bb_ML 12020) [.ref 31, .int v1, .int v2, .int v3, .ref 30]) [] σ = x_lw_way_0 σ v1 v2 v3 := rfl
theorem cl_214 : en_CL bb_G 12035 214 = some (0, 98, 4, 0) := rfl
theorem rt_98 : en_RT bb_G 98 = some .int := rfl
theorem cx_m_way_0 (σ : en_S) (v1 : Int32) (v2 : Int32) (v3 : Int32) : en_ex bb_G bb_P bb_ML bb_HD 0 98 0 (en_ent (bb_ML 98) [.ref 0, .int v1, .int v2, .int v3]) [] σ = x_m_way_0 σ v1 v2 v3 := rfl
theorem cl_215 : en_CL bb_G 12035 215 = some (9, 12021, 5, 0) := rfl
theorem rt_12021 : en_RT bb_G 12021 = some .int := rfl
theorem cx_lw_see_0 (σ : en_S) (v1 : Int32) (v2 : Int32) (v3 : Int32) : en_ex bb_G bb_P bb_ML bb_HD 1 12021 0 (en_ent (bb_ML 12021) [.ref 31, .int v1, .int v2, .int v3, .ref 30]) [] σ = x_lw_see_0 σ v1 v2 v3 := rfl
theorem cl_217 : en_CL bb_G 12035 217 = some (0, 103, 4, 0) := rfl
theorem rt_103 : en_RT bb_G 103 = some .int := rfl
theorem cx_m_see_0 (σ : en_S) (v1 : Int32) (v2 : Int32) (v3 : Int32) : en_ex bb_G bb_P bb_ML bb_HD 0 103 0 (en_ent (bb_ML 103) [.ref 0, .int v1, .int v2, .int v3]) [] σ = x_m_see_0 σ v1 v2 v3 := rfl
theorem cl_218 : en_CL bb_G 12035 218 = some (0, 10027, 1, 10) := rfl
theorem rt_10027 : en_RT bb_G 10027 = none := rfl
theorem cx_b_forget_0 (σ : en_S) : en_ex bb_G bb_P bb_ML bb_HD 0 10027 0 (en_ent (bb_ML 10027) [.ref 31]) [] σ = x_b_forget_0 σ := rfl
theorem cl_221 : en_CL bb_G 12035 221 = some (0, 104, 1, 0) := rfl
theorem rt_104 : en_RT bb_G 104 = none := rfl
theorem cx_m_forget_0 (σ : en_S) : en_ex bb_G bb_P bb_ML bb_HD 0 104 0 (en_ent (bb_ML 104) [.ref 0]) [] σ = x_m_forget_0 σ := rfl
theorem cl_222 : en_CL bb_G 12035 222 = some (9, 12022, 3, 0) := rfl
theorem rt_12022 : en_RT bb_G 12022 = some .int := rfl
theorem cx_lw_weighed_0 (σ : en_S) (v1 : Int32) : en_ex bb_G bb_P bb_ML bb_HD 1 12022 0 (en_ent (bb_ML 12022) [.ref 31, .int v1, .ref 30]) [] σ = x_lw_weighed_0 σ v1 := rfl
theorem cl_224 : en_CL bb_G 12035 224 = some (0, 107, 2, 0) := rfl
theorem rt_107 : en_RT bb_G 107 = some .int := rfl
theorem cx_m_weighed_0 (σ : en_S) (v1 : Int32) : en_ex bb_G bb_P bb_ML bb_HD 0 107 0 (en_ent (bb_ML 107) [.ref 0, .int v1]) [] σ = x_m_weighed_0 σ v1 := rfl
theorem cl_225 : en_CL bb_G 12035 225 = some (9, 12023, 3, 0) := rfl
theorem rt_12023 : en_RT bb_G 12023 = some .int := rfl
theorem cx_lw_look_0 (σ : en_S) (v1 : Int32) : en_ex bb_G bb_P bb_ML bb_HD 1 12023 0 (en_ent (bb_ML 12023) [.ref 31, .int v1, .ref 30]) [] σ = x_lw_look_0 σ v1 := rfl
theorem cl_227 : en_CL bb_G 12035 227 = some (0, 108, 2, 0) := rfl
theorem rt_108 : en_RT bb_G 108 = some .int := rfl
theorem cx_m_look_0 (σ : en_S) (v1 : Int32) : en_ex bb_G bb_P bb_ML bb_HD 0 108 0 (en_ent (bb_ML 108) [.ref 0, .int v1]) [] σ = x_m_look_0 σ v1 := rfl
theorem cl_228 : en_CL bb_G 12035 228 = some (9, 12024, 5, 0) := rfl
theorem rt_12024 : en_RT bb_G 12024 = some .int := rfl
theorem cx_lw_rain_0 (σ : en_S) (v1 : Int32) (v2 : Int32) (v3 : Int32) : en_ex bb_G bb_P bb_ML bb_HD 1 12024 0 (en_ent (bb_ML 12024) [.ref 31, .int v1, .int v2, .int v3, .ref 30]) [] σ = x_lw_rain_0 σ v1 v2 v3 := rfl
theorem cl_230 : en_CL bb_G 12035 230 = some (0, 109, 4, 0) := rfl
theorem rt_109 : en_RT bb_G 109 = some .int := rfl
theorem cx_m_rain_0 (σ : en_S) (v1 : Int32) (v2 : Int32) (v3 : Int32) : en_ex bb_G bb_P bb_ML bb_HD 0 109 0 (en_ent (bb_ML 109) [.ref 0, .int v1, .int v2, .int v3]) [] σ = x_m_rain_0 σ v1 v2 v3 := rfl
theorem cl_231 : en_CL bb_G 12035 231 = some (9, 12025, 5, 0) := rfl
theorem rt_12025 : en_RT bb_G 12025 = some .int := rfl
theorem cx_lw_game_0 (σ : en_S) (v1 : Int32) (v2 : Int32) (v3 : Int32) : en_ex bb_G bb_P bb_ML bb_HD 1 12025 0 (en_ent (bb_ML 12025) [.ref 31, .int v1, .int v2, .int v3, .ref 30]) [] σ = x_lw_game_0 σ v1 v2 v3 := rfl
theorem cl_233 : en_CL bb_G 12035 233 = some (0, 111, 4, 0) := rfl
theorem rt_111 : en_RT bb_G 111 = some .int := rfl
theorem cx_m_game_0 (σ : en_S) (v1 : Int32) (v2 : Int32) (v3 : Int32) : en_ex bb_G bb_P bb_ML bb_HD 0 111 0 (en_ent (bb_ML 111) [.ref 0, .int v1, .int v2, .int v3]) [] σ = x_m_game_0 σ v1 v2 v3 := rfl
theorem cl_234 : en_CL bb_G 12035 234 = some (9, 12026, 5, 0) := rfl
theorem rt_12026 : en_RT bb_G 12026 = some .int := rfl
theorem cx_lw_years_0 (σ : en_S) (v1 : Int32) (v2 : Int32) (v3 : Int32) : en_ex bb_G bb_P bb_ML bb_HD 1 12026 0 (en_ent (bb_ML 12026) [.ref 31, .int v1, .int v2, .int v3, .ref 30]) [] σ = x_lw_years_0 σ v1 v2 v3 := rfl
theorem cl_236 : en_CL bb_G 12035 236 = some (0, 114, 4, 0) := rfl
theorem rt_114 : en_RT bb_G 114 = some .int := rfl
theorem cx_m_years_0 (σ : en_S) (v1 : Int32) (v2 : Int32) (v3 : Int32) : en_ex bb_G bb_P bb_ML bb_HD 0 114 0 (en_ent (bb_ML 114) [.ref 0, .int v1, .int v2, .int v3]) [] σ = x_m_years_0 σ v1 v2 v3 := rfl
theorem cl_237 : en_CL bb_G 12035 237 = some (9, 12027, 3, 0) := rfl
theorem rt_12027 : en_RT bb_G 12027 = some .int := rfl
theorem cx_lw_idle_0 (σ : en_S) (v1 : Int32) : en_ex bb_G bb_P bb_ML bb_HD 1 12027 0 (en_ent (bb_ML 12027) [.ref 31, .int v1, .ref 30]) [] σ = x_lw_idle_0 σ v1 := rfl
theorem cl_239 : en_CL bb_G 12035 239 = some (0, 115, 2, 0) := rfl
theorem rt_115 : en_RT bb_G 115 = some .int := rfl
theorem cx_m_idle_0 (σ : en_S) (v1 : Int32) : en_ex bb_G bb_P bb_ML bb_HD 0 115 0 (en_ent (bb_ML 115) [.ref 0, .int v1]) [] σ = x_m_idle_0 σ v1 := rfl
theorem cl_240 : en_CL bb_G 12035 240 = some (9, 12028, 3, 0) := rfl
theorem rt_12028 : en_RT bb_G 12028 = some .int := rfl
theorem cx_lw_nearest_0 (σ : en_S) (v1 : Int32) : en_ex bb_G bb_P bb_ML bb_HD 1 12028 0 (en_ent (bb_ML 12028) [.ref 31, .int v1, .ref 30]) [] σ = x_lw_nearest_0 σ v1 := rfl
theorem cl_242 : en_CL bb_G 12035 242 = some (0, 99, 2, 0) := rfl
theorem rt_99 : en_RT bb_G 99 = some .int := rfl
theorem cx_m_nearest_0 (σ : en_S) (v1 : Int32) : en_ex bb_G bb_P bb_ML bb_HD 0 99 0 (en_ent (bb_ML 99) [.ref 0, .int v1]) [] σ = x_m_nearest_0 σ v1 := rfl
theorem cl_243 : en_CL bb_G 12035 243 = some (9, 12029, 4, 0) := rfl
theorem rt_12029 : en_RT bb_G 12029 = some .int := rfl
theorem cx_lw_ahead_0 (σ : en_S) (v1 : Int32) (v2 : Int32) : en_ex bb_G bb_P bb_ML bb_HD 1 12029 0 (en_ent (bb_ML 12029) [.ref 31, .int v1, .int v2, .ref 30]) [] σ = x_lw_ahead_0 σ v1 v2 := rfl
theorem cl_245 : en_CL bb_G 12035 245 = some (0, 101, 3, 0) := rfl
theorem rt_101 : en_RT bb_G 101 = some .int := rfl
theorem cx_m_ahead_0 (σ : en_S) (v1 : Int32) (v2 : Int32) : en_ex bb_G bb_P bb_ML bb_HD 0 101 0 (en_ent (bb_ML 101) [.ref 0, .int v1, .int v2]) [] σ = x_m_ahead_0 σ v1 v2 := rfl
theorem cl_246 : en_CL bb_G 12035 246 = some (9, 12030, 3, 0) := rfl
theorem rt_12030 : en_RT bb_G 12030 = some .int := rfl
theorem cx_lw_alone_0 (σ : en_S) (v1 : Int32) : en_ex bb_G bb_P bb_ML bb_HD 1 12030 0 (en_ent (bb_ML 12030) [.ref 31, .int v1, .ref 30]) [] σ = x_lw_alone_0 σ v1 := rfl
theorem cl_248 : en_CL bb_G 12035 248 = some (0, 96, 2, 0) := rfl
theorem rt_96 : en_RT bb_G 96 = some .int := rfl
theorem cx_m_alone_0 (σ : en_S) (v1 : Int32) : en_ex bb_G bb_P bb_ML bb_HD 0 96 0 (en_ent (bb_ML 96) [.ref 0, .int v1]) [] σ = x_m_alone_0 σ v1 := rfl
theorem cl_249 : en_CL bb_G 12035 249 = some (9, 12031, 3, 0) := rfl
theorem rt_12031 : en_RT bb_G 12031 = some .int := rfl
theorem cx_lw_weariest_0 (σ : en_S) (v1 : Int32) : en_ex bb_G bb_P bb_ML bb_HD 1 12031 0 (en_ent (bb_ML 12031) [.ref 31, .int v1, .ref 30]) [] σ = x_lw_weariest_0 σ v1 := rfl
theorem cl_251 : en_CL bb_G 12035 251 = some (0, 116, 2, 0) := rfl
theorem rt_116 : en_RT bb_G 116 = some .int := rfl
theorem cx_m_weariest_0 (σ : en_S) (v1 : Int32) : en_ex bb_G bb_P bb_ML bb_HD 0 116 0 (en_ent (bb_ML 116) [.ref 0, .int v1]) [] σ = x_m_weariest_0 σ v1 := rfl
theorem cl_252 : en_CL bb_G 12035 252 = some (9, 12032, 3, 0) := rfl
theorem rt_12032 : en_RT bb_G 12032 = some .int := rfl
theorem cx_lw_onRoutes_0 (σ : en_S) (v1 : Int32) : en_ex bb_G bb_P bb_ML bb_HD 1 12032 0 (en_ent (bb_ML 12032) [.ref 31, .int v1, .ref 30]) [] σ = x_lw_onRoutes_0 σ v1 := rfl
theorem cl_254 : en_CL bb_G 12035 254 = some (0, 102, 2, 0) := rfl
theorem rt_102 : en_RT bb_G 102 = some .int := rfl
theorem cx_m_onRoutes_0 (σ : en_S) (v1 : Int32) : en_ex bb_G bb_P bb_ML bb_HD 0 102 0 (en_ent (bb_ML 102) [.ref 0, .int v1]) [] σ = x_m_onRoutes_0 σ v1 := rfl
theorem cl_255 : en_CL bb_G 12035 255 = some (9, 12033, 3, 0) := rfl
theorem rt_12033 : en_RT bb_G 12033 = some .int := rfl
theorem cx_lw_reach_0 (σ : en_S) (v1 : Int32) : en_ex bb_G bb_P bb_ML bb_HD 1 12033 0 (en_ent (bb_ML 12033) [.ref 31, .int v1, .ref 30]) [] σ = x_lw_reach_0 σ v1 := rfl
theorem cl_257 : en_CL bb_G 12035 257 = some (0, 100, 2, 0) := rfl
theorem rt_100 : en_RT bb_G 100 = some .int := rfl
theorem cx_m_reach_0 (σ : en_S) (v1 : Int32) : en_ex bb_G bb_P bb_ML bb_HD 0 100 0 (en_ent (bb_ML 100) [.ref 0, .int v1]) [] σ = x_m_reach_0 σ v1 := rfl
theorem cl_258 : en_CL bb_G 12035 258 = some (9, 12034, 3, 0) := rfl
theorem rt_12034 : en_RT bb_G 12034 = some .int := rfl
theorem cx_lw_total_0 (σ : en_S) (v1 : Int32) : en_ex bb_G bb_P bb_ML bb_HD 1 12034 0 (en_ent (bb_ML 12034) [.ref 31, .int v1, .ref 30]) [] σ = x_lw_total_0 σ v1 := rfl
theorem cl_260 : en_CL bb_G 12035 260 = some (0, 117, 2, 0) := rfl
theorem rt_117 : en_RT bb_G 117 = some .int := rfl
theorem cx_m_total_0 (σ : en_S) (v1 : Int32) : en_ex bb_G bb_P bb_ML bb_HD 0 117 0 (en_ent (bb_ML 117) [.ref 0, .int v1]) [] σ = x_m_total_0 σ v1 := rfl
theorem cl_261 : en_CL bb_G 12035 261 = some (0, 10041, 1, 10) := rfl
theorem rt_10041 : en_RT bb_G 10041 = none := rfl
theorem cx_b_image_0 (σ : en_S) : en_ex bb_G bb_P bb_ML bb_HD 0 10041 0 (en_ent (bb_ML 10041) [.ref 31]) [] σ = x_b_image_0 σ := rfl
theorem cl_264 : en_CL bb_G 12035 264 = some (0, 118, 1, 0) := rfl
theorem rt_118 : en_RT bb_G 118 = none := rfl
theorem cx_m_image_0 (σ : en_S) : en_ex bb_G bb_P bb_ML bb_HD 0 118 0 (en_ent (bb_ML 118) [.ref 0]) [] σ = x_m_image_0 σ := rfl
theorem cl_265 : en_CL bb_G 12035 265 = some (0, 10042, 1, 10) := rfl
theorem rt_10042 : en_RT bb_G 10042 = some .boolean := rfl
theorem cx_b_restore_0 (σ : en_S) : en_ex bb_G bb_P bb_ML bb_HD 0 10042 0 (en_ent (bb_ML 10042) [.ref 31]) [] σ = x_b_restore_0 σ := rfl
theorem cl_269 : en_CL bb_G 12035 269 = some (0, 119, 1, 0) := rfl
theorem rt_119 : en_RT bb_G 119 = some .boolean := rfl
theorem cx_m_restore_0 (σ : en_S) : en_ex bb_G bb_P bb_ML bb_HD 0 119 0 (en_ent (bb_ML 119) [.ref 0]) [] σ = x_m_restore_0 σ := rfl
