section ER
variable (l : Launch) (G : en_G) (P : en_P) (ML : Nat → Nat) (HD : en_H) (ad : Nat → Nat) (cA : Nat → ClassId) (D : va_G) (cl : List vw_C) (A : Nat → Prop) (TT : List Cond) (tyC : Nat → Nat → FieldType) (own : Nat → String) (yN : Nat → MethodName) (CD : Nat → ByteArray) (hh : Nat → List (Nat × Nat × Nat × Nat)) (XN : Nat → String) (fr lo : Nat → Nat) (FX : State → Heap → Prop)
/-- a throw -/
def en_RTh : Prop := ∀ (mi pc idx x : Nat), en_TH G mi pc = some x → hh mi = [] → ∀ (p : Program) (e : Env) (R : Room) (s : State) (m : MethodId) (args : Array Value) (below : List Frame) (meth : Method) (c : Code) (H : Heap) (locs : List Loc) (cells slots : Nat) (ls : Array Slot) (rest : List Value) (Qc : Array Value → State → Outcome → State → Prop) (XC : String → State → State → Prop) (mc ms : Nat),
  en_cx G ML cA D cl TT own CD hh fr lo FX mi p R s m args meth c → en_chk (CD mi) pc (.new idx) = true → ls.size = ML mi → va_S A s.heap H locs → (rest.map fun v => v.category).sum ≤ 8 → cells + 1 ≤ R.cells → slots + 6 ≤ R.slots → cells + 1 ≤ mc → slots + 6 ≤ ms →
  (∀ t : State, s.vm.Alike t.vm → H.size ≤ t.heap.size → (∀ q : Nat, q < H.size → t.heap[q]? = H[q]?) → XC (XN x) s t) →
  W p l e R s m args below meth c H locs cells slots (vx_MQ below Qc XC args s mc ms A) (F0 m pc ls rest)
/-- the methods of String constants -/
def en_RSt : Prop := ∀ (mi pc idx kd y n ci i : Nat), en_CL G mi idx = some (kd, y, n, ci) → ∀ (p : Program) (e : Env) (R : Room) (s : State) (m : MethodId) (args : Array Value) (below : List Frame) (meth : Method) (c : Code) (H : Heap) (locs : List Loc) (cells slots : Nat) (Q : State → Prop) (ls : Array Slot) (rest : List Value),
  en_cx G ML cA D cl TT own CD hh fr lo FX mi p R s m args meth c → decode (CD mi) pc = .ok (.invokevirtual idx, 3) → ls.size = ML mi → va_S A s.heap H locs → (rest.map fun v => v.category).sum ≤ 8 → cells ≤ R.cells → slots ≤ R.slots →
  (kd = 5 → W p l e R s m args below meth c H locs cells slots Q (F0 m (pc + 3) ls (.int (nI (en_SB G i).length) :: rest)) → W p l e R s m args below meth c H locs cells slots Q (F0 m pc ls (.ref (ad (1000 + i)) :: rest))) ∧
  (kd = 6 → ∀ j : Int32, en_in j (en_SB G i).length → W p l e R s m args below meth c H locs cells slots Q (F0 m (pc + 3) ls (.int ((en_SB G i).getD j.toNatClampNeg 0 &&& 255) :: rest)) → W p l e R s m args below meth c H locs cells slots Q (F0 m pc ls (.int j :: .ref (ad (1000 + i)) :: rest))) ∧
  (kd = 7 → ∀ j : Int32, W p l e R s m args below meth c H locs cells slots Q (F0 m (pc + 3) ls (.int (en_ixF j (en_SB G i) 0) :: rest)) → W p l e R s m args below meth c H locs cells slots Q (F0 m pc ls (.int j :: .ref (ad (1000 + i)) :: rest)))
/-- a handler -/
def en_RHd : Prop := ∀ (mi pc x t j : Nat), HD mi pc x = some (t, j) → en_get (P mi) t ≠ none → ∀ (p : Program) (e : Env) (R : Room) (s : State) (m : MethodId) (args : Array Value) (below : List Frame) (meth : Method) (c : Code) (H : Heap) (locs : List Loc) (cells slots : Nat) (Q : State → Prop) (ls : Array Slot) (rest : List Value) (L : en_L) (q : Addr) (ce : Cell),
  en_cx G ML cA D cl TT own CD hh fr lo FX mi p R s m args meth c → en_lv ad ls (ML mi) L → H[q]? = some ce → ce.vm = .none → s.vm.findClass (XN x) = some ce.cls →
  (∀ ls', en_lv ad ls' (ML mi) (en_set L j none) → W p l e R s m args below meth c H locs cells slots Q (F0 m t ls' [])) →
  vx_W p l e R s m args below meth c H locs cells slots Q (F0 m pc ls rest) q
/-- all that is given -/
def en_ALL : Prop := en_TF G TT cl tyC own ∧ (∀ w ∈ TT, (w.onTables && w.keeps) = true ∨ ∃ ty, w = .arrayClass ty) ∧ (∀ σ, va_D A (en_ws G ad cA σ)) ∧
  (∀ (u U : State) (H : Heap), u.WarmedH U.vm → FX u H → FX U H) ∧ (∀ (U : State) (H H1 : Heap), FX U H → (∀ a : Nat, a < H.size → ¬ A a → H1[a]? = H[a]?) → FX U H1) ∧
  (∀ (U : State) (H : Heap), FX U H → en_CF G P ML cl TT own yN CD hh fr lo U) ∧ (∀ (U : State) (H : Heap), FX U H → ∀ mi idx q, en_KC G mi idx = some (.inr q) → ∃ tx, vk_R (own mi) idx tx (ad q) U) ∧
  en_RTh l G ML cA D cl A TT own CD hh XN fr lo FX ∧ en_RSt l G ML ad cA D cl A TT own CD hh fr lo FX ∧ en_RHd l G P ML HD ad cA D cl TT own CD hh XN fr lo FX ∧ (∀ mi pc x, HD mi pc x = none → hh mi = []) ∧ (∀ mi pc x, en_TH G mi pc = some x → hh mi = [])
end ER
section EX
variable {l : Launch} {G : en_G} {P : en_P} {ML : Nat → Nat} {HD : en_H} {ad : Nat → Nat} {cA : Nat → ClassId} {D : va_G} {cl : List vw_C} {A : Nat → Prop} {TT : List Cond} {tyC : Nat → Nat → FieldType} {own : Nat → String} {yN : Nat → MethodName} {CD : Nat → ByteArray} {hh : Nat → List (Nat × Nat × Nat × Nat)} {XN : Nat → String} {fr lo : Nat → Nat} {FX : State → Heap → Prop}
theorem en_blind (hm : ∀ (u U : State) (H : Heap), u.WarmedH U.vm → FX u H → FX U H) {vs : List Value} {σ : en_S} : FrameBlind (va_Pc vs (en_B G ad cA D cl FX σ)) := by
  intro a U g mk q
  obtain ⟨q0, qP, qK, qF⟩ := q
  exact ⟨q0, qP, va_K.moved (u := U) (U := U.calling g mk a) (Vm.Alike.refl U.vm) qK, hm U (U.calling g mk a) _ (State.WarmedH.refl U) qF⟩
/-- a callee's words -/
theorem en_good (hg : ∀ w ∈ TT, (w.onTables && w.keeps) = true ∨ ∃ ty, w = .arrayClass ty) {y : Nat} (h : en_wd G ML yN CD hh y ∈ TT) : GoodIn TT (en_wd G ML yN CD hh y :: TT) := by
  intro w hw
  rcases List.mem_cons.mp hw with rfl | hw
  · exact ⟨h, hg _ h⟩
  · exact ⟨hw, hg _ hw⟩
theorem en_map_rev {ad : Nat → Nat} {st : List Value} {n : Nat} : st.map (en_cv ad) = (((st.take n).reverse).map (en_cv ad)).reverse ++ (st.drop n).map (en_cv ad) := by
  rw [← List.map_reverse, List.reverse_reverse, ← List.map_append, List.take_append_drop]
theorem en_cat_map {ad : Nat → Nat} {st : List Value} : ((st.map (en_cv ad)).map fun v => v.category).sum = (st.map fun v => v.category).sum := by
  rw [List.map_map]
  congr 1
  apply List.map_congr_left
  intro v _
  exact en_cv_cat v
theorem en_back_spec {rt : Option FieldType} {o : Option en_O} {k : List Value → en_S → Option en_O} {kx : Nat → en_S → Option en_O} {out : en_O} (h : en_back rt o k kx = some out) : ∃ o', o = some o' ∧ ((∃ v, o'.1 = .inl v ∧ k v.toList o'.2 = some out) ∨ ∃ x, o'.1 = .inr x ∧ kx x o'.2 = some out) := by
  cases o with
  | none => unfold en_back at h; split at h <;> cases h
  | some z =>
    refine ⟨z, rfl, ?_⟩
    obtain ⟨v | x, σ⟩ := z
    · left
      refine ⟨v, rfl, ?_⟩
      unfold en_back at h
      cases v with
      | none => split at h <;> first | exact h | cases h
      | some v => cases v <;> split at h <;> first | exact h | cases h
    · right
      refine ⟨x, rfl, ?_⟩
      unfold en_back at h
      split at h <;> first | exact h | cases h
set_option maxHeartbeats 4000000 in
theorem en_main (hA : en_ALL l G P ML HD ad cA D cl A TT tyC own yN CD hh XN fr lo FX) : ∀ n : Nat,
    (∀ (x mi pc : Nat) (L : en_L) (st : List Value) (σ : en_S) (out : en_O), en_MV G P ML TT own yN CD hh fr lo mi → en_run G P ML HD n x mi pc L st σ = some out → ∀ (cu X : Nat), cu + x ≤ X → ∀ (p : Program) (e : Env) (R : Room) (s : State) (m : MethodId) (args : Array Value) (below : List Frame) (meth : Method) (c : Code) (H : Heap) (locs : List Loc) (ls : Array Slot),
      en_cx G ML cA D cl TT own CD hh fr lo FX mi p R s m args meth c → R.cells = en_mc X out → R.slots = 6 * en_mc X out → en_lv ad ls (ML mi) L → va_P D cl (en_ws G ad cA σ) H → va_S A s.heap H locs →
      W p l e R s m args below meth c H locs cu (6 * cu) (vx_MQ below (en_Qc G ad cA D cl A out) (en_Xc G ad cA D cl A XN out) args s (en_mc X out) (6 * en_mc X out) A) (F0 m pc ls (st.map (en_cv ad)))) ∧
    (∀ (x y : Nat) (as : List Value) (σ : en_S) (o : en_O), en_MV G P ML TT own yN CD hh fr lo y → en_one as = true → as.length ≤ ML y → en_run G P ML HD n x y 0 (en_ent (ML y) as) [] σ = some o → en_Con l G ML ad cA D cl A TT yN CD hh XN fr lo FX y x as σ o) := by
  obtain ⟨hT, hTg, hDD, hFXm, hFXk, hCF, hSt, hThr, hStr, hHd, hNo, hThN⟩ := hA
  intro n
  induction n with
  | zero => exact ⟨fun _ _ _ _ _ _ _ _ h => (by cases h), fun _ _ _ _ _ _ _ _ h => (by cases h)⟩
  | succ n ih =>
    obtain ⟨ihB, ihC⟩ := ih
    have body : ∀ (x mi pc : Nat) (L : en_L) (st : List Value) (σ : en_S) (out : en_O), en_MV G P ML TT own yN CD hh fr lo mi → en_run G P ML HD (n + 1) x mi pc L st σ = some out → ∀ (cu X : Nat), cu + x ≤ X → ∀ (p : Program) (e : Env) (R : Room) (s : State) (m : MethodId) (args : Array Value) (below : List Frame) (meth : Method) (c : Code) (H : Heap) (locs : List Loc) (ls : Array Slot),
        en_cx G ML cA D cl TT own CD hh fr lo FX mi p R s m args meth c → R.cells = en_mc X out → R.slots = 6 * en_mc X out → en_lv ad ls (ML mi) L → va_P D cl (en_ws G ad cA σ) H → va_S A s.heap H locs →
        W p l e R s m args below meth c H locs cu (6 * cu) (vx_MQ below (en_Qc G ad cA D cl A out) (en_Xc G ad cA D cl A XN out) args s (en_mc X out) (6 * en_mc X out) A) (F0 m pc ls (st.map (en_cv ad))) := by
      intro x mi pc L0 st σ out hMV hrun cu X hcu p e R s m args below meth c H locs ls hcx hRc hRs hl0 hP hS
      have hcx0 := hcx
      obtain ⟨hx, hb, hr, hml, hlocks, hown, hts, hK, hFX, htab, hRf, hRl⟩ := hcx
      obtain ⟨mv1, mv2, mv3, mv4, mv5, mv6, mv7, mv8⟩ := id hMV
      unfold en_run at hrun
      split at hrun
      · cases hrun
      · next i mk hget =>
        obtain ⟨hchk, hmk⟩ := mv8 _ _ _ hget
        have hl := hl0.msk mk hmk
        generalize en_msk mk L0 = L at hl hrun
        obtain ⟨cf0, cf1, cf2, cf3, cf4⟩ := hCF s s.heap hFX
        obtain ⟨n9, hd9, hn9, ho9⟩ := en_chk_spec hchk
        have hXm : X ≤ en_mc X out := by unfold en_mc; split <;> omega
        have hmcR : cu ≤ R.cells := by rw [hRc]; omega
        have hmsR : 6 * cu ≤ R.slots := by rw [hRs]; omega
        have hsz : ls.size = ML mi := hl.2.1
        have hout : hh mi = [] → ∀ z ∈ c.exceptionTable.toList, covers z pc = false := by
          intro h0 z hz
          rw [htab, h0] at hz
          cases hz
        /- what a callee threw -/
        have thrown : ∀ (y : Nat) (σ' : en_S) (rest : List Value) (H1 : Heap) (locs1 : List Loc) (q : Addr) (ce : Cell) (k9 n9 : Nat), en_hx x (HD mi pc y) (fun t j => en_run G P ML HD n 0 mi t (en_set L j none) [] σ') y σ' = some out → k9 = cu + 1 → n9 = 6 * cu + 6 * 1 →
            va_P D cl (en_ws G ad cA σ') H1 → va_S A s.heap H1 locs1 → H1[q]? = some ce → ce.vm = .none → s.vm.findClass (XN y) = some ce.cls → vx_W p l e R s m args below meth c H1 locs1 k9 n9 (vx_MQ below (en_Qc G ad cA D cl A out) (en_Xc G ad cA D cl A XN out) args s (en_mc X out) (6 * en_mc X out) A) (F0 m pc ls rest) q := by
          intro y σ' rest H1 locs1 q ce k9 n9 hh9 ek en hP1 hS1 hce hcv hcl
          subst ek; subst en
          unfold en_hx at hh9
          split at hh9
          · next hno =>
            cases hh9
            refine vx_out (hout (hNo _ _ _ hno)) hlocks hce hcv hcl (fun t ht _ => ⟨⟨y, rfl, rfl⟩, by rw [ht]; exact hP1, hS1.F ht⟩) hS1.2.2 ?_ ?_
            · show cu + 1 ≤ X + 1
              omega
            · show 6 * cu + 6 * 1 ≤ 6 * (X + 1)
              omega
          · next t j hsome =>
            split at hh9
            · next hx1 =>
              have hne : en_get (P mi) t ≠ none := by
                intro h0
                cases n with
                | zero => cases hh9
                | succ n =>
                  unfold en_run at hh9
                  dsimp only at hh9
                  rw [h0] at hh9
                  cases hh9
              refine hHd mi pc y t j hsome hne p e R s m args below meth c H1 locs1 _ _ _ ls rest L q ce hcx0 hl hce hcv hcl (fun ls' hl' => ?_)
              have h8 := ihB 0 mi t (en_set L j none) [] σ' out hMV hh9 (cu + 1) X (by omega) p e R s m args below meth c H1 locs1 ls' hcx0 hRc hRs hl' hP1 hS1
              rw [show 6 * (cu + 1) = 6 * cu + 6 * 1 by omega] at h8
              exact h8
            · cases hh9
        /- a call that came back or threw -/
        have called : ∀ (y nn : Nat) (as rest : List Value) (idx : Nat), en_back (en_RT G y) (en_run G P ML HD n 0 y 0 (en_ent (ML y) as) [] σ) (fun v σ' => en_run G P ML HD n x mi (pc + 3) L (v ++ rest) σ') (fun e' σ' => en_hx x (HD mi pc e') (fun t j => en_run G P ML HD n 0 mi t (en_set L j none) [] σ') e' σ') = some out →
            (∀ o', en_run G P ML HD n 0 y 0 (en_ent (ML y) as) [] σ = some o' → (∀ z, o'.1 = .inr z → cu + 1 ≤ R.cells ∧ 6 * cu + 6 * 1 ≤ R.slots) → vx_Run p l e R s m args below meth c H locs cu (6 * cu) (en_mc 0 o') (6 * en_mc 0 o') (F0 m pc ls (st.map (en_cv ad))) (rest.map (en_cv ad)) (en_Qc G ad cA D cl A o' ((as.map (en_cv ad)).toArray)) (en_Xc G ad cA D cl A XN o') A) →
            W p l e R s m args below meth c H locs cu (6 * cu) (vx_MQ below (en_Qc G ad cA D cl A out) (en_Xc G ad cA D cl A XN out) args s (en_mc X out) (6 * en_mc X out) A) (F0 m pc ls (st.map (en_cv ad))) := by
          intro y nn as rest idx hbk hrn
          obtain ⟨o', ho', hcase⟩ := en_back_spec hbk
          have hroom : ∀ z, o'.1 = .inr z → cu + 1 ≤ R.cells ∧ 6 * cu + 6 * 1 ≤ R.slots := by
            intro z hz
            rw [hRc, hRs]
            rcases hcase with ⟨v, hv, -⟩ | ⟨z', hz', hk9⟩
            · rw [hv] at hz; cases hz
            · unfold en_hx at hk9
              split at hk9
              · cases hk9
                show cu + 1 ≤ X + 1 ∧ 6 * cu + 6 * 1 ≤ 6 * (X + 1)
                omega
              · split at hk9
                · next hx1 => omega
                · cases hk9
          refine en_after (o := o') (hrn o' ho' hroom) hS (fun v H1 locs1 hv hP1 hS1 => ?_) (fun z q ce H1 locs1 hz hP1 hS1 hce hcv hcl => ?_)
          · rcases hcase with ⟨v', hv', hk9⟩ | ⟨z', hz', -⟩
            · have e1 : v' = v := by rw [hv'] at hv; cases hv; rfl
              subst e1
              have em : en_mc 0 o' = 0 := by unfold en_mc; rw [hv']
              rw [em]
              have h8 := ihB x mi (pc + 3) L (v'.toList ++ rest) o'.2 out hMV hk9 cu X hcu p e R s m args below meth c H1 locs1 ls hcx0 hRc hRs hl hP1 hS1
              rw [List.map_append] at h8
              have e2 : (v'.map (en_cv ad)).toList = v'.toList.map (en_cv ad) := by cases v' <;> rfl
              rw [e2]
              exact h8
            · rw [hz'] at hv; cases hv
          · rcases hcase with ⟨v', hv', -⟩ | ⟨z', hz', hk9⟩
            · rw [hv'] at hz; cases hz
            · have e1 : z' = z := by rw [hz'] at hz; cases hz; rfl
              subst e1
              have em : en_mc 0 o' = 1 := by unfold en_mc; rw [hz']
              rw [em]
              exact thrown z' o'.2 _ H1 locs1 q ce _ _ hk9 rfl rfl hP1 hS1 hce hcv hcl
        have pre : ∀ (as : List Value) (U : State), U.heap = H → s.WarmedH U.vm → va_Pc (as.map (en_cv ad)) (en_B G ad cA D cl FX σ) ((as.map (en_cv ad)).toArray) U := by
          intro as U hU hW
          exact ⟨rfl, by rw [hU]; exact hP, va_K.moved hW.alike hK, hFXm s U _ hW (by rw [hU]; exact hFXk _ _ _ hFX hS.2.1)⟩
        refine en_sim1 hT hx hb hown hts hK (hSt s s.heap hFX mi) hDD hchk hrun hl hP hS (fun pc' L' st' σ' ls' H' locs' hk9 hl' hP' hS' => ihB x mi pc' L' st' σ' out hMV hk9 cu X hcu p e R s m args below meth c H' locs' ls' hcx0 hRc hRs hl' hP' hS') ?_
        rintro (⟨idx, rfl⟩ | ⟨idx, rfl⟩ | ⟨idx, rfl⟩ | rfl | rfl | rfl)
        · have hdV : decode (CD mi) pc = .ok (.invokevirtual idx, 3) := by rw [hd9, hn9 (by simp [en_len])]; rfl
          simp only [en_step] at hrun
          unfold en_inV at hrun
          split at hrun
          · next y nn ci hcl =>
            split at hrun
            · next hc1 =>
              obtain ⟨hc1, hc2, hc3⟩ := hc1
              split at hrun
              · next p0 as has =>
                split at hrun
                · next hsh =>
                  obtain ⟨v1, v2, v3, v4, v5, v6, v7, v8, v9, ⟨T, N, v10⟩, v11, v12⟩ := cf0 _ _ _ _ _ hcl
                  have hasl : (Value.ref p0 :: as).length = nn := by rw [← has, List.length_reverse, List.length_take]; omega
                  have hone : en_one (Value.ref p0 :: as) = true := by
                    rw [← has]
                    unfold en_one at hc3 ⊢
                    rw [List.all_reverse]
                    exact hc3
                  refine called y nn (.ref p0 :: as) (st.drop nn) idx hrun (fun o' ho' hroom => ?_)
                  have hcon := ihC 0 y (.ref p0 :: as) σ o' v1 hone (by omega) ho'
                  obtain ⟨w1, w2, w3, w4, w5, w6, w7, w8⟩ := id v1
                  have hwd : en_wd G ML yN CD hh y = .code (yN y) (CD y) (ML y) (en_RT G y) := by unfold en_wd; rw [v2]
                  have cb : CallB R s args (own mi) idx (yN y) (CD y) (ML y) (en_RT G y) (en_wd G ML yN CD hh y :: TT) (en_rm fr lo y 0 o') (en_mc 0 o') (6 * en_mc 0 o') (nn - 1) :=
                    callB_of (nn - 1) hts (en_good hTg w1) (by rw [hwd]) rfl rfl (by rw [w3]; exact hts _ w4) (hts _ v3) ⟨w5.1, w5.2, v6⟩ ⟨by rw [hRf]; exact v11, by rw [hRl]; exact v12⟩
                  cases hs0 : (en_SH G)[p0]? with
                  | none => rw [hs0] at hsh; cases hsh
                  | some z =>
                    obtain ⟨c0, ds⟩ := z
                    rw [hs0] at hsh
                    have hc0 : c0 = ci := by simpa using hsh
                    subst hc0
                    have hw' : (en_ws G ad cA σ)[p0]? = some (ad p0, .inr (c0, en_fs ad p0 σ ds)) := by
                      rw [en_ws_at hs0]
                      unfold en_cell
                      rw [if_pos v9]
                    have hrec := va_recv hK hP v10 hw'
                    have hstk : st.map (en_cv ad) = (as.map (en_cv ad)).reverse ++ .ref (ad p0) :: (st.drop nn).map (en_cv ad) := by
                      rw [en_map_rev (n := nn), has]
                      simp [en_cv]
                    refine vx_runV (Pc := va_Pc ((Value.ref p0 :: as).map (en_cv ad)) (en_B G ad cA D cl FX σ)) (As := as.map (en_cv ad)) (b := ad p0) (rest := (st.drop nn).map (en_cv ad)) ⟨hx, hb, hml, hown, hts⟩ hcon ⟨cb, hts _ v4, hts _ v5⟩ ⟨en_blind hFXm, hrec, fun U hU hW => pre (.ref p0 :: as) U hU hW⟩ rfl ?_ hsz hstk (lv_room ?_) hdV ?_
                    · rw [List.length_map]
                      simp at hasl
                      omega
                    · rw [en_cat_map]
                      unfold en_small at hc2
                      exact of_decide_eq_true hc2
                    · unfold en_mc
                      split
                      · exact ⟨by simpa using hmcR, by simpa using hmsR⟩
                      · next z hz => exact hroom z hz
                · cases hrun
              · cases hrun
            · cases hrun
          · next y nn ci hcl =>
            split at hrun
            · next p0 r =>
              split at hrun
              · next hc =>
                obtain ⟨i9, rfl⟩ : ∃ i9 : Nat, p0 = 1000 + i9 := ⟨p0 - 1000, (Nat.add_sub_cancel' hc.1).symm⟩
                rw [Nat.add_sub_cancel_left] at hrun
                exact (hStr mi pc idx 5 y nn ci i9 hcl p e R s m args below meth c H locs _ _ _ ls (r.map (en_cv ad)) hcx0 hdV hsz hS (by rw [en_cat_map]; exact of_decide_eq_true hc.2) hmcR hmsR).1 rfl (ihB x mi _ L _ σ out hMV hrun cu X hcu p e R s m args below meth c H locs ls hcx0 hRc hRs hl hP hS)
              · cases hrun
            · cases hrun
          · next y nn ci hcl =>
            split at hrun
            · next j p0 r =>
              split at hrun
              · next hc =>
                obtain ⟨i9, rfl⟩ : ∃ i9 : Nat, p0 = 1000 + i9 := ⟨p0 - 1000, (Nat.add_sub_cancel' hc.1).symm⟩
                rw [Nat.add_sub_cancel_left] at hrun hc
                exact (hStr mi pc idx 6 y nn ci i9 hcl p e R s m args below meth c H locs _ _ _ ls (r.map (en_cv ad)) hcx0 hdV hsz hS (by rw [en_cat_map]; exact of_decide_eq_true hc.2.1) hmcR hmsR).2.1 rfl j hc.2.2 (ihB x mi _ L _ σ out hMV hrun cu X hcu p e R s m args below meth c H locs ls hcx0 hRc hRs hl hP hS)
              · cases hrun
            · cases hrun
          · next y nn ci hcl =>
            split at hrun
            · next j p0 r =>
              split at hrun
              · next hc =>
                obtain ⟨i9, rfl⟩ : ∃ i9 : Nat, p0 = 1000 + i9 := ⟨p0 - 1000, (Nat.add_sub_cancel' hc.1).symm⟩
                rw [Nat.add_sub_cancel_left] at hrun
                exact (hStr mi pc idx 7 y nn ci i9 hcl p e R s m args below meth c H locs _ _ _ ls (r.map (en_cv ad)) hcx0 hdV hsz hS (by rw [en_cat_map]; exact of_decide_eq_true hc.2) hmcR hmsR).2.2 rfl j (ihB x mi _ L _ σ out hMV hrun cu X hcu p e R s m args below meth c H locs ls hcx0 hRc hRs hl hP hS)
              · cases hrun
            · cases hrun
          · cases hrun
        · have hdS : decode (CD mi) pc = .ok (.invokestatic idx, 3) := by rw [hd9, hn9 (by simp [en_len])]; rfl
          simp only [en_step] at hrun
          unfold en_inS at hrun
          split at hrun
          · next y nn ci hcl =>
            split at hrun
            · next hc1 =>
              obtain ⟨hc1, hc2, hc3⟩ := hc1
              obtain ⟨v1, v2, v3, v4, v5, v6, v7, v8⟩ := cf1 _ _ _ _ _ hcl
              have hasl : ((st.take nn).reverse).length = nn := by rw [List.length_reverse, List.length_take]; omega
              have hone : en_one (st.take nn).reverse = true := by
                unfold en_one at hc3 ⊢
                rw [List.all_reverse]
                exact hc3
              refine called y nn (st.take nn).reverse (st.drop nn) idx hrun (fun o' ho' hroom => ?_)
              have hcon := ihC 0 y (st.take nn).reverse σ o' v1 hone (by omega) ho'
              obtain ⟨w1, w2, w3, w4, w5, w6, w7, w8⟩ := id v1
              have hwd : en_wd G ML yN CD hh y = .code (yN y) (CD y) (ML y) (en_RT G y) := by unfold en_wd; rw [v2]
              have hcells : cu + en_mc 0 o' ≤ R.cells ∧ 6 * cu + 6 * en_mc 0 o' ≤ R.slots := by
                unfold en_mc
                split
                · exact ⟨by simpa using hmcR, by simpa using hmsR⟩
                · next z hz => exact hroom z hz
              have hsm : (((st.drop nn).map (en_cv ad)).map fun v => v.category).sum ≤ 8 := by
                rw [en_cat_map]
                unfold en_small at hc2
                exact of_decide_eq_true hc2
              rcases v3 with v3 | ⟨host, v3⟩
              · have cb : CallB R s args (own mi) idx (yN y) (CD y) (ML y) (en_RT G y) (en_wd G ML yN CD hh y :: TT) (en_rm fr lo y 0 o') (en_mc 0 o') (6 * en_mc 0 o') nn :=
                  callB_of nn hts (en_good hTg w1) (by rw [hwd]) rfl rfl (by rw [w3]; exact hts _ w4) (hts _ v3) ⟨w5.1, w5.2, v5⟩ ⟨by rw [hRf]; exact v7, by rw [hRl]; exact v8⟩
                exact vx_runS (Pc := va_Pc (((st.take nn).reverse).map (en_cv ad)) (en_B G ad cA D cl FX σ)) (As := ((st.take nn).reverse).map (en_cv ad)) (rest := (st.drop nn).map (en_cv ad)) ⟨hx, hb, hml, hown, hts⟩ hcon ⟨cb, hts _ v4⟩ ⟨en_blind hFXm, fun U hU hW => pre _ U hU hW⟩ rfl (by rw [List.length_map]; exact hasl) hsz en_map_rev (lv_room hsm) hdS hcells
              · have cb : va_CN R s args (own mi) idx (yN y) host (CD y) (ML y) (en_RT G y) (en_wd G ML yN CD hh y :: TT) (en_rm fr lo y 0 o') (en_mc 0 o') (6 * en_mc 0 o') nn :=
                  va_cnB nn hts (en_good hTg w1) (by rw [hwd]) rfl rfl v3 (by rw [w3]; exact hts _ w4) ⟨w5.1, w5.2, v5⟩ ⟨by rw [hRf]; exact v7, by rw [hRl]; exact v8⟩
                exact vx_runSN (Pc := va_Pc (((st.take nn).reverse).map (en_cv ad)) (en_B G ad cA D cl FX σ)) (As := ((st.take nn).reverse).map (en_cv ad)) (rest := (st.drop nn).map (en_cv ad)) ⟨hx, hb, hml, hown, hts⟩ hcon ⟨cb, hts _ v4, trivial⟩ ⟨en_blind hFXm, fun U hU hW => pre _ U hU hW⟩ rfl (by rw [List.length_map]; exact hasl) hsz en_map_rev (lv_room hsm) hdS hcells
            · cases hrun
          · next y nn ci hcl =>
            split at hrun
            · next b a r =>
              split at hrun
              · next hc =>
                obtain ⟨u1, u2, u3, u4⟩ := cf2 _ _ _ _ _ hcl
                have hsm : ((r.map (en_cv ad)).map fun v => v.category).sum ≤ 8 := by rw [en_cat_map]; exact of_decide_eq_true hc
                exact va_mmax hx hb (by rw [hml, hsz]) hown (hts _ u1) (hts _ u2) (hts _ u3) (hts _ u4) (by rw [hRf]; omega) (by rw [hRl]; omega) hmcR hmsR hdS (ihB x mi _ L _ σ out hMV hrun cu X hcu p e R s m args below meth c H locs ls hcx0 hRc hRs hl hP hS)
              · cases hrun
            · cases hrun
          · next y nn ci hcl =>
            split at hrun
            · next b a r =>
              split at hrun
              · next hc =>
                obtain ⟨u1, u2, u3, u4⟩ := cf3 _ _ _ _ _ hcl
                have hsm : ((r.map (en_cv ad)).map fun v => v.category).sum ≤ 8 := by rw [en_cat_map]; exact of_decide_eq_true hc
                exact va_mmin hx hb (by rw [hml, hsz]) hown (hts _ u1) (hts _ u2) (hts _ u3) (hts _ u4) (by rw [hRf]; omega) (by rw [hRl]; omega) hmcR hmsR hdS (ihB x mi _ L _ σ out hMV hrun cu X hcu p e R s m args below meth c H locs ls hcx0 hRc hRs hl hP hS)
              · cases hrun
            · cases hrun
          · next y nn ci hcl =>
            split at hrun
            · next n0 dp q0 sp p0 r =>
              split at hrun
              · next hc =>
                split at hrun
                · next m0 m1 hm0 hm1 =>
                  split at hrun
                  · next hcc =>
                    obtain ⟨c1, c2, c3, c4, c5⟩ := hcc
                    obtain ⟨u1, u2, u3, u4⟩ := cf4 _ _ _ _ _ hcl
                    obtain ⟨r0, h0⟩ := en_arr_spec hm0
                    obtain ⟨r1, h1⟩ := en_arr_spec hm1
                    have hsm : ((r.map (en_cv ad)).map fun v => v.category).sum ≤ 8 := by rw [en_cat_map]; exact of_decide_eq_true hc
                    have hnf : nativeFrameWords "java/lang/System" "arraycopy" 5 = 7 := by decide +kernel
                    refine va_copyi hx hb (by rw [hml, hsz]) hown (hts _ u1) (hts _ u2) (hts _ u3) (hts _ u4) hK hP (hDD σ) hS p0 q0 0 0 (ty := .int) (en_ws_at h0) (en_ws_at h1) rfl rfl rfl c1 c2 c3 c4 c5 (fun i _ => rfl) (by rw [hRf]; omega) (by rw [hRl, hnf]; omega) hdS (fun H1 locs1 hP1 _ hS1 => ihB x mi _ L _ _ out hMV hrun cu X hcu p e R s m args below meth c H1 locs1 ls hcx0 hRc hRs hl ?_ hS1)
                    rw [← en_ws_set h1 (σ := σ) (σ' := (en_uf σ.1 q0 (va_cpy (σ.1 p0) (σ.1 q0) sp.toNatClampNeg dp.toNatClampNeg n0.toNatClampNeg), σ.2)) (fun q hq => en_uf_ne hq) (fun _ _ => rfl)]
                    have e9 : en_cell ad cA (20, m1 :: r1) q0 (en_uf σ.1 q0 (va_cpy (σ.1 p0) (σ.1 q0) sp.toNatClampNeg dp.toNatClampNeg n0.toNatClampNeg), σ.2) = .inl (cA 0, m1, .inl (va_cpy (σ.1 p0) (σ.1 q0) sp.toNatClampNeg dp.toNatClampNeg n0.toNatClampNeg)) := by
                      simp [en_cell, en_uf_eq]
                    rw [e9]
                    exact hP1
                  · cases hrun
                · cases hrun
              · cases hrun
            · cases hrun
          · cases hrun
        · simp only [en_step] at hrun
          split at hrun
          · next x9 hth =>
            split at hrun
            · next hsm0 =>
             cases hrun
             have hsm : ((st.map (en_cv ad)).map fun v => v.category).sum ≤ 8 := by
              rw [en_cat_map]
              exact of_decide_eq_true hsm0
             refine hThr mi pc idx x9 hth (hThN _ _ _ hth) p e R s m args below meth c H locs cu (6 * cu) ls (st.map (en_cv ad)) _ _ _ _ hcx0 hchk hsz hS hsm ?_ ?_ ?_ ?_ (fun t _ h2 h3 => ⟨⟨x9, rfl, rfl⟩, ?_, ?_⟩)
             · rw [hRc]; show cu + 1 ≤ X + 1; omega
             · rw [hRs]; show 6 * cu + 6 ≤ 6 * (X + 1); omega
             · show cu + 1 ≤ X + 1; omega
             · show 6 * cu + 6 ≤ 6 * (X + 1); omega
             · exact hP.kept (fun k q hq => h3 q.1 (hP k q hq).lt)
             · exact ⟨Nat.le_trans hS.1 h2, fun q h4 h5 => by rw [h3 q (Nat.lt_of_lt_of_le h4 hS.1)]; exact hS.2.1 q h4 h5⟩
            · cases hrun
          · cases hrun
        · have hdR : decode (CD mi) pc = .ok (.ireturn, 1) := by rw [hd9, hn9 (by simp [en_len])]; rfl
          simp only [en_step] at hrun
          split at hrun
          · next v =>
            unfold en_retI at hrun
            split at hrun
            · next hrt =>
              cases hrun
              refine vx_ret (W.widen (k := X) (n := 6 * X) (by omega) (by omega) ?_)
              exact W.iret hx hb (by rw [hr]; exact hrt) (fun t ht hW => ⟨⟨_, rfl, rfl⟩, by rw [ht]; exact hP, hS.F ht⟩) hS.2.2 hdR hlocks
            · next hrt =>
              split at hrun
              · next h01 =>
                cases hrun
                refine vx_ret (W.widen (k := X) (n := 6 * X) (by omega) (by omega) ?_)
                exact W.zret (ty := .boolean) hx hb (by rw [hr]; exact hrt) (by rcases h01 with rfl | rfl <;> rfl) (fun t ht hW => ⟨⟨_, rfl, rfl⟩, by rw [ht]; exact hP, hS.F ht⟩) hS.2.2 hdR hlocks
              · cases hrun
            · cases hrun
          · cases hrun
        · have hdR : decode (CD mi) pc = .ok (.lreturn, 1) := by rw [hd9, hn9 (by simp [en_len])]; rfl
          simp only [en_step] at hrun
          split at hrun
          · next v =>
            split at hrun
            · next hrt =>
              cases hrun
              refine vx_ret (W.widen (k := X) (n := 6 * X) (by omega) (by omega) ?_)
              exact W.lret hx hb (by rw [hr]; exact hrt) (fun t ht hW => ⟨⟨_, rfl, rfl⟩, by rw [ht]; exact hP, hS.F ht⟩) hS.2.2 hdR hlocks
            · cases hrun
          · cases hrun
        · have hdR : decode (CD mi) pc = .ok (.return_, 1) := by rw [hd9, hn9 (by simp [en_len])]; rfl
          simp only [en_step] at hrun
          split at hrun
          · split at hrun
            · next hrt =>
              cases hrun
              refine vx_ret (W.widen (k := X) (n := 6 * X) (by omega) (by omega) ?_)
              exact W.vret hx hb (by rw [hr]; exact hrt) (fun t ht hW => ⟨⟨_, rfl, rfl⟩, by rw [ht]; exact hP, hS.F ht⟩) hS.2.2 hdR hlocks
            · cases hrun
          · cases hrun
    refine ⟨body, fun x y as σ o hMV hone hlen hrun => ?_⟩
    obtain ⟨mv1, mv2, mv3, mv4, mv5, mv6, mv7, mv8⟩ := id hMV
    unfold en_Con
    have fin : ∀ (p : Program) (e : Env) (s : State) (m : MethodId) (args : Array Value) (below : List Frame) (meth : Method) (c : Code) (s₁ : State), BodyLoose p l (yN y) (headSpec (en_wd G ML yN CD hh y :: TT) (en_rm fr lo y x o)) (CD y) (ML y) (en_RT G y) e s m args below meth c s₁ → c.maxLocals = ML y → c.exceptionTable.toList = tableOf (hh y) → va_Pc (as.map (en_cv ad)) (en_B G ad cA D cl FX σ) args s →
        W p l e (headSpec (en_wd G ML yN CD hh y :: TT) (en_rm fr lo y x o)).room s m args below meth c s.heap [] 0 0 (vx_MQ below (en_Qc G ad cA D cl A o) (en_Xc G ad cA D cl A XN o) args s (en_mc x o) (6 * en_mc x o) A) (entryFrame m args (ML y)) := by
      intro p e s m args below meth c s₁ B hml htab hpc
      obtain ⟨rfl, hP, hK, hF⟩ := hpc
      have hts := atoms_spec (ws := en_wd G ML yN CD hh y :: TT) B.pre
      have hown : s.vm.findClass (own y) = some m.cls := by rw [← mv3]; exact findClass_of_methodNamed B.named
      rw [lg_entry_eq]
      exact body x y 0 (en_ent (ML y) as) [] σ o hMV hrun 0 x (by omega) p e _ s m _ below meth c s.heap [] _ ⟨B.exec, B.bytes, B.returns, hml, B.notSynchronized, hown, fun w hw => hts w (List.mem_cons_of_mem _ hw), hK, hF, htab, rfl, rfl⟩ rfl rfl (en_entry hone hlen) hP va_S.rf
    cases hhy : hh y with
    | nil =>
      have hwd : en_wd G ML yN CD hh y = .code (yN y) (CD y) (ML y) (en_RT G y) := by unfold en_wd; rw [hhy]
      refine vx_ofW (cc := CD y) (maxL := ML y) (ret := en_RT G y) mv2 (by rw [hwd]) ?_
      intro p e s m args below meth c s₁ B hml hno hpc
      refine fin p e s m args below meth c s₁ B hml ?_ hpc
      rw [hhy]
      cases ht : c.exceptionTable.toList with
      | nil => rfl
      | cons a r => exact (hno a (by rw [ht]; exact List.mem_cons_self)).elim
    | cons h0 r0 =>
      have hwd : en_wd G ML yN CD hh y = .codeWith (yN y) (CD y) (ML y) (en_RT G y) (h0 :: r0) := by unfold en_wd; rw [hhy]
      refine vx_ofWH (cc := CD y) (maxL := ML y) (ret := en_RT G y) (hh := h0 :: r0) mv2 (by rw [hwd]) ?_
      intro p e s m args below meth c s₁ B hml hpc
      refine fin p e s m args below meth c s₁ B hml ?_ hpc
      rw [hhy]
      have hts := atoms_spec (ws := en_wd G ML yN CD hh y :: TT) B.pre
      exact vx_table (x := yN y) B (by have h9 := hts _ List.mem_cons_self; rw [hwd] at h9; exact h9)
end EX
