/-! THE LAW'S OWN BODY: its script is place 900; it goes from cut to cut. -/
def en_ls (G : en_G) (Ls : Nat) (xs : Nat → Int32) (mi pc : Nat) (i : Instr) (L : en_L) (st : List Value) (σ : en_S) (k : en_K) (call callX : Nat → List Value → en_S → Option en_O) : Option en_O := match i, st with
  | .iaload, .int j :: .ref 900 :: r => if en_in j Ls then k (pc + 1) L (.int (xs j.toNatClampNeg) :: r) σ else none
  | .arraylength, .ref 900 :: r => k (pc + 1) L (.int (Int32.ofNat Ls) :: r) σ
  | .invokestatic idx, st => match en_CL G mi idx with
    | some (9, y, n, _) => if n ≤ st.length ∧ en_small (st.drop n) = true ∧ en_one (st.take n) = true then en_back (en_RT G y) (callX y (st.take n).reverse σ) (fun v σ => k (pc + 3) L (v ++ st.drop n) σ) (fun _ _ => none) else none
    | _ => none
  | i, st => en_step G mi pc i L st σ k call (fun _ _ _ _ => none)
/-- up to a cut, where kf takes over; at most n steps -/
noncomputable def en_uk (G : en_G) (P : en_P) (ML : Nat → Nat) (HD : en_H) (Ls : Nat) (xs : Nat → Int32) (mi : Nat) (kf : en_K) : Nat → en_K
  | 0 => fun _ _ _ _ => none
  | n + 1 => fun pc L st σ => match en_get (P mi) pc with
    | none => none
    | some (i, none) => en_ls G Ls xs mi pc i L st σ (en_uk G P ML HD Ls xs mi kf n) (fun y as σ' => en_ex G P ML HD 0 y 0 (en_ent (ML y) as) [] σ') (fun y as σ' => en_ex G P ML HD 1 y 0 (en_ent (ML y) as) [] σ')
    | some (_, some m) => kf pc (en_msk (some m) L) st σ
/-- what the law's body doesn't do -/
def en_li : Instr → Bool
  | .new _ => false
  | .lreturn => false
  | .return_ => false
  | _ => true
section EL
variable {l : Launch} {G : en_G} {P : en_P} {ML : Nat → Nat} {HD : en_H} {ad : Nat → Nat} {cA : Nat → ClassId} {D : va_G} {cl : List vw_C} {A : Nat → Prop} {TT : List Cond} {tyC : Nat → Nat → FieldType} {own : Nat → String} {yN : Nat → MethodName} {CD : Nat → ByteArray} {hh : Nat → List (Nat × Nat × Nat × Nat)} {XN : Nat → String} {fr lo : Nat → Nat} {FX : State → Heap → Prop}
variable {p : Program} {e : Env} {R : Room} {s : State} {m : MethodId} {args : Array Value} {below : List Frame} {meth : Method} {c : Code} {Q : State → Prop}
set_option maxHeartbeats 4000000 in
theorem en_law (hA : en_ALL l G P ML HD ad cA D cl A TT tyC own yN CD hh XN fr lo FX) {mi Ls b : Nat} {xs : Nat → Int32} {kf : en_K} {c0 s0 : Nat}
    (hx : p.tables.exec = Jvm.exec) (hb : c.code = CD mi) (hml : c.maxLocals = ML mi) (hown : s.vm.findClass (own mi) = some m.cls) (hts : ∀ w ∈ TT, w.before args s = true) (hK : va_K D cl (en_tys cA) s) (hFX : FX s s.heap) (hRf : R.frames = fr mi) (hRl : R.locals = lo mi) (hRc : R.cells = 601024) (hRs : R.slots = 7293034)
    (hX : va_X b Ls xs s s.heap) (hbl : b < s.heap.size) (hbA : ¬ A b) (hb2 : ad 900 = b) (h900 : (en_SH G)[900]? = none)
    (hprog : ∀ pc i mk, en_get (P mi) pc = some (i, mk) → en_chk (CD mi) pc i = true ∧ (∀ bs, mk = some bs → bs.length = ML mi) ∧ en_li i = true) (hkind : ∀ idx k y n ci, en_CL G mi idx = some (k, y, n, ci) → k = 0 ∨ k = 9)
    (hst9 : ∀ idx y n ci, en_CL G mi idx = some (9, y, n, ci) → en_MV G P ML TT own yN CD hh fr lo y ∧ (∃ h r, hh y = h :: r) ∧ Cond.methodLink (own mi) idx (yN y) ∈ TT ∧ Cond.static (yN y) ∈ TT ∧ (parseMethodDescriptor (yN y).desc).map (fun d => d.parameters.length) = some n ∧ n ≤ ML y ∧ fr y + 1 ≤ fr mi ∧ 8 + (ML y + 11) + lo y ≤ lo mi) :
    ∀ (n pc : Nat) (L : en_L) (st : List Value) (σ : en_S) (out : en_O) (cu : Nat) (H : Heap) (locs : List Loc) (ls : Array Slot), en_uk G P ML HD Ls xs mi kf n pc L st σ = some out → c0 + cu + n ≤ 600000 → s0 + 6 * (cu + n) ≤ 7200000 → en_lv ad ls (ML mi) L → va_P D cl (en_ws G ad cA σ) H → va_S A s.heap H locs →
    (∀ pc' L' st' σ' ls' H' locs' cu', kf pc' L' st' σ' = some out → cu' ≤ cu + n → en_lv ad ls' (ML mi) L' → va_P D cl (en_ws G ad cA σ') H' → va_S A s.heap H' locs' → W p l e R s m args below meth c H' locs' (c0 + cu') (s0 + 6 * cu') Q (F0 m pc' ls' (st'.map (en_cv ad)))) →
    (∀ pc' σ' v ls' H' locs' cu', decode (CD mi) pc' = .ok (.ireturn, 1) → out = (.inl (some (.int v)), σ') → cu' ≤ cu + n → va_S A s.heap H' locs' → W p l e R s m args below meth c H' locs' (c0 + cu') (s0 + 6 * cu') Q (F0 m pc' ls' [.int v])) →
    W p l e R s m args below meth c H locs (c0 + cu) (s0 + 6 * cu) Q (F0 m pc ls (st.map (en_cv ad))) := by
  obtain ⟨hT, hTg, hDD, hFXm, hFXk, hCF, hSt, hThr, hStr, hHd, hNo, hThN⟩ := id hA
  obtain ⟨cf0, cf1, cf2, cf3, cf4⟩ := hCF s s.heap hFX
  intro n
  induction n with
  | zero => intro pc L st σ out cu H locs ls h; cases h
  | succ n ih =>
    intro pc L st σ out cu H locs ls h hcu hsu hl hP hS hk hret
    unfold en_uk at h
    split at h
    · cases h
    · next i hget =>
      obtain ⟨hchk, -, hli⟩ := hprog _ _ _ hget
      obtain ⟨n9, hd9, hn9, ho9⟩ := en_chk_spec hchk
      have hsz : ls.size = ML mi := hl.2.1
      have hcR : c0 + cu ≤ R.cells := by rw [hRc]; omega
      have hsR : s0 + 6 * cu ≤ R.slots := by rw [hRs]; omega
      have go : ∀ (d : Nat), d ≤ 1 → ∀ pc' L' st' σ' ls' H' locs', en_uk G P ML HD Ls xs mi kf n pc' L' st' σ' = some out → en_lv ad ls' (ML mi) L' → va_P D cl (en_ws G ad cA σ') H' → va_S A s.heap H' locs' →
          W p l e R s m args below meth c H' locs' (c0 + (cu + d)) (s0 + 6 * (cu + d)) Q (F0 m pc' ls' (st'.map (en_cv ad))) := by
        intro d hd pc' L' st' σ' ls' H' locs' h1 h2 h3 h4
        exact ih pc' L' st' σ' out (cu + d) H' locs' ls' h1 (by omega) (by omega) h2 h3 h4 (fun a1 a2 a3 a4 a5 a6 a7 a8 b1 b2 => hk a1 a2 a3 a4 a5 a6 a7 a8 b1 (by omega)) (fun a1 a2 a3 a4 a5 a6 a7 b0 b1 b2 => hret a1 a2 a3 a4 a5 a6 a7 b0 b1 (by omega))
      have pre : ∀ (as : List Value) (U : State), U.heap = H → s.WarmedH U.vm → va_Pc (as.map (en_cv ad)) (en_B G ad cA D cl FX σ) ((as.map (en_cv ad)).toArray) U := by
        intro as U hU hW
        exact ⟨rfl, by rw [hU]; exact hP, va_K.moved hW.alike hK, hFXm s U _ hW (by rw [hU]; exact hFXk _ _ _ hFX hS.2.1)⟩
      unfold en_ls at h
      split at h
      · next j r =>
        split at h
        · next hj =>
          have hdd : decode (CD mi) pc = .ok (.iaload, 1) := by rw [hd9, hn9 (by simp [en_len])]; rfl
          have h8 := go 0 (by omega) _ _ _ _ ls H locs h hl hP hS
          show W p l e R s m args below meth c H locs (c0 + cu) (s0 + 6 * cu) Q (F0 m pc ls (.int j :: .ref (ad 900) :: r.map (en_cv ad)))
          rw [hb2]
          exact va_sld hx hb hX hbl hbA hS hj hdd h8
        · cases h
      · next r =>
        have hdd : decode (CD mi) pc = .ok (.arraylength, 1) := by rw [hd9, hn9 (by simp [en_len])]; rfl
        have h8 := go 0 (by omega) _ _ _ _ ls H locs h hl hP hS
        show W p l e R s m args below meth c H locs (c0 + cu) (s0 + 6 * cu) Q (F0 m pc ls (.ref (ad 900) :: r.map (en_cv ad)))
        rw [hb2]
        exact va_slen hx hb hX hbl hbA hS hdd h8
      · next idx =>
        have hdS : decode (CD mi) pc = .ok (.invokestatic idx, 3) := by rw [hd9, hn9 (by simp [en_len])]; rfl
        split at h
        · next y nn ci hcl =>
          split at h
          · next hc1 =>
            obtain ⟨hc1, hc2, hc3⟩ := hc1
            obtain ⟨v1, ⟨h0, r0, v2⟩, v3, v4, v5, v6, v7, v8⟩ := hst9 _ _ _ _ hcl
            have hasl : ((st.take nn).reverse).length = nn := by rw [List.length_reverse, List.length_take]; omega
            have hone : en_one (st.take nn).reverse = true := by
              unfold en_one at hc3 ⊢
              rw [List.all_reverse]
              exact hc3
            obtain ⟨o', ho', hcase⟩ := en_back_spec h
            obtain ⟨N, hN⟩ := en_ex_iff.mp ho'
            have hcon := (en_main hA N).2 1 y (st.take nn).reverse σ o' v1 hone (by omega) hN
            obtain ⟨w1, w2, w3, w4, w5, w6, w7, w8⟩ := id v1
            rcases hcase with ⟨v, hv, hk9⟩ | ⟨z, hz, hk9⟩
            · have em : en_mc 1 o' = 1 := by unfold en_mc; rw [hv]
              have hwd : en_wd G ML yN CD hh y = .codeWith (yN y) (CD y) (ML y) (en_RT G y) (h0 :: r0) := by unfold en_wd; rw [v2]
              have hsm : (((st.drop nn).map (en_cv ad)).map fun v => v.category).sum ≤ 8 := by
                rw [en_cat_map]
                unfold en_small at hc2
                exact of_decide_eq_true hc2
              have hgd : GoodIn TT (en_wd G ML yN CD hh y :: TT) := en_good hTg w1
              have hcm : Cond.codeWith (yN y) (CD y) (ML y) (en_RT G y) (h0 :: r0) ∈ en_wd G ML yN CD hh y :: TT := by rw [hwd]; exact List.mem_cons_self
              have cb : vx_CSW R s args (own mi) idx (yN y) (CD y) (ML y) (en_RT G y) (h0 :: r0) (en_wd G ML yN CD hh y :: TT) (en_rm fr lo y 1 o') (en_mc 1 o') (6 * en_mc 1 o') nn :=
                ⟨⟨rfl, rfl, by rw [hRf]; exact v7, by rw [hRl]; exact v8, pay_in hts hgd, hcm⟩, hts _ (by rw [← hwd]; exact w1), by rw [w3]; exact hts _ w4, w5, fun sig hsg => by rw [hsg] at v5; exact (Option.some.inj v5).symm, hts _ v3, hts _ v4⟩
              have hrun := vx_runSX (l := l) (e := e) (below := below) (meth := meth) (H := H) (locs := locs) (cells := c0 + cu) (slots := s0 + 6 * cu) (g := F0 m pc ls (st.map (en_cv ad))) (Pc := va_Pc (((st.take nn).reverse).map (en_cv ad)) (en_B G ad cA D cl FX σ)) (As := ((st.take nn).reverse).map (en_cv ad)) (rest := (st.drop nn).map (en_cv ad)) ⟨hx, hb, hml, hown, hts⟩ hcon cb ⟨en_blind hFXm, fun U hU hW => pre _ U hU hW⟩ rfl (by rw [List.length_map]; exact hasl) hsz en_map_rev (lv_room hsm) hdS (by rw [em, hRc, hRs]; omega)
              refine en_after (o := o') hrun hS (fun v' H1 locs1 hv' hP1 hS1 => ?_) (fun z q ce H1 locs1 hz hP1 hS1 hce hcv hcl => by rw [hv] at hz; cases hz)
              have e1 : v' = v := by rw [hv] at hv'; cases hv'; rfl
              subst e1
              have h8 := go 1 (by omega) _ _ _ _ ls H1 locs1 hk9 hl hP1 hS1
              rw [List.map_append] at h8
              have e2 : (v'.map (en_cv ad)).toList = v'.toList.map (en_cv ad) := by cases v' <;> rfl
              rw [e2, em, show c0 + cu + 1 = c0 + (cu + 1) by omega, show s0 + 6 * cu + 6 * 1 = s0 + 6 * (cu + 1) by omega]
              exact h8
            · cases hk9
          · cases h
        · cases h
      · next hn1 hn2 hn3 =>
        refine en_sim1 hT hx hb hown hts hK (hSt s s.heap hFX mi) hDD hchk h hl hP hS (fun pc' L' st' σ' ls' H' locs' hk9 hl' hP' hS' => go 0 (by omega) pc' L' st' σ' ls' H' locs' hk9 hl' hP' hS') ?_
        rintro (⟨idx, rfl⟩ | ⟨idx, rfl⟩ | ⟨idx, rfl⟩ | rfl | rfl | rfl)
        · have hdV : decode (CD mi) pc = .ok (.invokevirtual idx, 3) := by rw [hd9, hn9 (by simp [en_len])]; rfl
          simp only [en_step] at h
          unfold en_inV at h
          split at h
          · next y nn ci hcl =>
            split at h
            · next hc1 =>
              obtain ⟨hc1, hc2, hc3⟩ := hc1
              split at h
              · next p0 as has =>
                split at h
                · next hsh =>
                  obtain ⟨v1, v2, v3, v4, v5, v6, v7, v8, v9, ⟨T, N0, v10⟩, v11, v12⟩ := cf0 _ _ _ _ _ hcl
                  have hasl : (Value.ref p0 :: as).length = nn := by rw [← has, List.length_reverse, List.length_take]; omega
                  have hone : en_one (Value.ref p0 :: as) = true := by
                    rw [← has]
                    unfold en_one at hc3 ⊢
                    rw [List.all_reverse]
                    exact hc3
                  obtain ⟨o', ho', hcase⟩ := en_back_spec h
                  obtain ⟨N, hN⟩ := en_ex_iff.mp ho'
                  have hcon := (en_main hA N).2 0 y (.ref p0 :: as) σ o' v1 hone (by omega) hN
                  obtain ⟨w1, w2, w3, w4, w5, w6, w7, w8⟩ := id v1
                  rcases hcase with ⟨v, hv, hk9⟩ | ⟨z, hz, hk9⟩
                  · have em : en_mc 0 o' = 0 := by unfold en_mc; rw [hv]
                    have hwd : en_wd G ML yN CD hh y = .code (yN y) (CD y) (ML y) (en_RT G y) := by unfold en_wd; rw [v2]
                    have cb : CallB R s args (own mi) idx (yN y) (CD y) (ML y) (en_RT G y) (en_wd G ML yN CD hh y :: TT) (en_rm fr lo y 0 o') (en_mc 0 o') (6 * en_mc 0 o') (nn - 1) :=
                      callB_of (nn - 1) hts (en_good hTg w1) (by rw [hwd]) rfl rfl (by rw [w3]; exact hts _ w4) (hts _ v3) ⟨w5.1, w5.2, v6⟩ ⟨by rw [hRf]; exact v11, by rw [hRl]; exact v12⟩
                    cases hs0 : (en_SH G)[p0]? with
                    | none => rw [hs0] at hsh; cases hsh
                    | some z =>
                      obtain ⟨cc0, ds⟩ := z
                      rw [hs0] at hsh
                      have hc0 : cc0 = ci := by simpa using hsh
                      subst hc0
                      have hw' : (en_ws G ad cA σ)[p0]? = some (ad p0, .inr (cc0, en_fs ad p0 σ ds)) := by
                        rw [en_ws_at hs0]
                        unfold en_cell
                        rw [if_pos v9]
                      have hrec := va_recv hK hP v10 hw'
                      have hstk : st.map (en_cv ad) = (as.map (en_cv ad)).reverse ++ .ref (ad p0) :: (st.drop nn).map (en_cv ad) := by
                        rw [en_map_rev (n := nn), has]
                        simp [en_cv]
                      have hrun := vx_runV (l := l) (e := e) (below := below) (meth := meth) (locs := locs) (cells := c0 + cu) (slots := s0 + 6 * cu) (g := F0 m pc ls (st.map (en_cv ad))) (Pc := va_Pc ((Value.ref p0 :: as).map (en_cv ad)) (en_B G ad cA D cl FX σ)) (As := as.map (en_cv ad)) (b := ad p0) (rest := (st.drop nn).map (en_cv ad)) ⟨hx, hb, hml, hown, hts⟩ hcon ⟨cb, hts _ v4, hts _ v5⟩ ⟨en_blind hFXm, hrec, fun U hU hW => pre (.ref p0 :: as) U hU hW⟩ rfl (by
                          rw [List.length_map]
                          simp at hasl
                          omega) hsz hstk (lv_room (by
                          rw [en_cat_map]
                          unfold en_small at hc2
                          exact of_decide_eq_true hc2)) hdV (by rw [em]; omega)
                      refine en_after (o := o') hrun hS (fun v' H1 locs1 hv' hP1 hS1 => ?_) (fun z q ce H1 locs1 hz hP1 hS1 hce hcv hcl => by rw [hv] at hz; cases hz)
                      have e1 : v' = v := by rw [hv] at hv'; cases hv'; rfl
                      subst e1
                      have h8 := go 0 (by omega) _ _ _ _ ls H1 locs1 hk9 hl hP1 hS1
                      rw [List.map_append] at h8
                      have e2 : (v'.map (en_cv ad)).toList = v'.toList.map (en_cv ad) := by cases v' <;> rfl
                      rw [e2, em]
                      exact h8
                  · cases hk9
                · cases h
              · cases h
            · cases h
          · next y nn ci hcl => rcases hkind _ _ _ _ _ hcl with z | z <;> cases z
          · next y nn ci hcl => rcases hkind _ _ _ _ _ hcl with z | z <;> cases z
          · next y nn ci hcl => rcases hkind _ _ _ _ _ hcl with z | z <;> cases z
          · cases h
        · first | exact (hn1 idx rfl).elim | exact (hn2 idx rfl).elim | simp_all
        · cases hli
        · have hdR : decode (CD mi) pc = .ok (.ireturn, 1) := by rw [hd9, hn9 (by simp [en_len])]; rfl
          simp only [en_step] at h
          split at h
          · next v =>
            have hout : out = (.inl (some (.int v)), σ) := by
              unfold en_retI at h
              split at h
              · cases h; rfl
              · split at h
                · cases h; rfl
                · cases h
              · cases h
            exact hret pc σ v ls H locs cu hdR hout (by omega) hS
          · cases h
        · cases hli
        · cases hli
    · next i mk hget =>
      obtain ⟨hchk, hmk, -⟩ := hprog _ _ _ hget
      exact hk _ _ _ _ ls H locs cu h (by omega) (hl.msk (some mk) hmk) hP hS
end EL
