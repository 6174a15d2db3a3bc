/-! expressions: class and model level by level -/
def MRes (X : mu_X) (s e : Nat) (W : List Nat) (t : Nat) (f : Nat → Nat → Int32) (g : Nat → Nat → Int64) (o : mu_O) (r : Option en_O) : Prop := match o with
  | .inl z => ∃ f' g' le P, r = Lm (f', g') ∧ z.2 = le ++ P.map aSt ∧ PK s P ∧ ME X z.1 (P ++ W) e (t + eL le) f' g' ∧ Em f' t le ∧ FM t (if 5 ≤ s then e + 1 else e) f g f' g' ∧ (s ≤ 3 → sg X z.1 60 = true ∨ sg X z.1 61 = true → f' 17 e = nI 1)
  | .inr z => MBd z.1 z.2 f g r
def MRun (X : mu_X) (s e c : Nat) (xm : en_S → Option en_O) (o : mu_O) : Prop := ∀ f g W t, ME X c W e t f g → topS W < s → bnd c t W → (s ≤ 4 → f 17 e = nI 0) → MRes X s e W t f g o (xm (f, g))
def Lv (X : mu_X) (s d B : Nat) (xc : Nat → en_S → Option en_O) (V : (en_S → Option en_O) → Prop) : Prop := ∀ c, c ≤ X.1 → ∃ o, OOk X s B c o ∧ (∀ R, rR R → CRun X R c (xc R) o) ∧ ∀ xm, V xm → MRun X s (d + 1) c xm o
def isQ (xm : en_S → Option en_O) : Prop := ∃ v, xm = Qm v
def isO (xm : en_S → Option en_O) : Prop := xm = O4 1
def LvE (X : mu_X) (d B : Nat) (xc : Nat → en_S → Option en_O) : Prop := ∀ c, c ≤ X.1 → ∃ o, OOk X 1 B c o ∧ (∀ R, rR R → CRun X R c (xc R) o) ∧ ∀ f g W t, ME X c W d t f g → topS W = 0 → bnd c t W → MRes X 1 (d + 1) W t f g o (Dm (f, g))
theorem tS7 {X : mu_X} (xo : XOK X) {c : Nat} (hc : c ≤ X.1) : tS X c ≤ 700 := Nat.le_trans (tS_le hc) xo.1
theorem bnd_of {c c' t t' : Nat} {W W' : List Nat} (h : bnd c t W) (h1 : t' + W'.length + 2 * c ≤ t + W.length + 2 * c') (h2 : W'.length + c ≤ W.length + c') : bnd c' t' W' := ⟨by have := h.1; omega, by have := h.2; omega⟩
/-- a row of operators of one strength -/
theorem lv_bin {X : mu_X} (xo : XOK X) {s sO d B : Nat} (hB : 1 ≤ B) (hsO : s < sO) (h1s : 1 ≤ s) (h34 : s ≤ 4 → sO ≤ 3) (h56 : 5 ≤ s ∨ s ≤ 3) (h56' : 5 ≤ s → 5 ≤ sO)
    {V : (en_S → Option en_O) → Prop} {xm : en_S → Option en_O} (hV : V xm) {xOp x0 : Nat → en_S → Option en_O} {x8 : Nat → en_S → Int32 → Option en_O} (op : Nat → Prop) (st : Nat → Int32) (ac : Nat → Nat)
    (hst : ∀ c, op c → st c = aSt (ac c) ∧ 3 ≤ ac c ∧ ac c ≤ 11 ∧ stN (ac c) = s ∧ st c ≠ -8 ∧ -17 < st c) (hk : ∀ c, op c → tK X c ≠ 0) (hfol : ∀ c, fol X sO c → ¬ op c → fol X s c)
    (h0 : ∀ R, rR R → ∀ σ, x0 R σ = en_cV (xOp R σ) (fun σ1 => x8 R σ1 0) (fun e σ => some (.inr e, σ)))
    (hstep : ∀ R, rR R → ∀ c f g i, CT X c f → f 66 9 = nI 0 → i < 700 → op c → x8 R (f, g) (nI i) = en_cV (x_rd_nextToken_0 (f, g)) (fun σ1 => en_cV (xOp R σ1) (fun σ2 => en_cV (xAdd R σ2 (st c)) (fun σ3 => x8 R σ3 (nI i + 1)) (fun e σ => some (.inr e, σ))) (fun e σ => some (.inr e, σ))) (fun e σ => some (.inr e, σ)))
    (hend : ∀ R, rR R → ∀ c f g i, CT X c f → f 66 9 = nI 0 → ¬ op c → x8 R (f, g) (nI i) = rV (f, g))
    (hbad : ∀ R, rR R → ∀ f g (i : Int32), ¬ f 66 9 = nI 0 → x8 R (f, g) i = rV (f, g))
    (hop : ∀ c f g P W t, c ≤ X.1 → op c → ME X c (P ++ W) (d + 1) t f g → PK s P → topS W < s → bnd c t (P ++ W) → ∃ f' g', Lm (f, g) = xm (f', g') ∧ ME X (tE X c) (ac c :: W) (d + 1) (t + eL (P.map aSt)) f' g' ∧ Em f' t (P.map aSt) ∧ FM t (if 5 ≤ s then d + 1 + 1 else d + 1) f g f' g' ∧ (s ≤ 4 → f' 17 (d + 1) = nI 0))
    (hO : Lv X sO d B xOp V) : Lv X s d (B + 1) x0 V := by
  have n7 := xo.1
  have eFM : (if 5 ≤ sO then d + 1 + 1 else d + 1) = (if 5 ≤ s then d + 1 + 1 else d + 1) := by
    rcases h56 with h | h
    · rw [if_pos h, if_pos (h56' h)]
    · rw [if_neg (by omega), if_neg (by have := h34 (by omega); omega)]
  have tail : ∀ n c, X.1 - c ≤ n → c ≤ X.1 → fol X sO c → ∃ o : mu_O, (match o with
        | .inl z => z.1 ≤ X.1 ∧ z.2.length + c ≤ z.1 ∧ (∀ rest n, 1 ≤ n → n + B ≤ 48 → sDp rest n → sDp (z.2 ++ rest) n) ∧ fol X s z.1
        | .inr z => (1 ≤ z.1 ∧ z.1 ≤ 5) ∧ z.2 ≤ 700) ∧
      (∀ R, rR R → ∀ f g m i, CT X c f → f 66 9 = nI 0 → f R 1 = nI m → m ≤ c → i ≤ c → ∃ f', x8 R (f, g) (nI i) = rV (f', g) ∧ CRes X R m o f f') ∧
      (∀ f g P W t, ME X c (P ++ W) (d + 1) t f g → PK s P → topS W < s → bnd c t (P ++ W) → (s ≤ 3 → sg X c 60 = true ∨ sg X c 61 = true → f 17 (d + 1) = nI 1) → match o with
        | .inl z => ∃ f' g' le P', Lm (f, g) = Lm (f', g') ∧ P.map aSt ++ z.2 = le ++ P'.map aSt ∧ PK s P' ∧ ME X z.1 (P' ++ W) (d + 1) (t + eL le) f' g' ∧ Em f' t le ∧ FM t (if 5 ≤ s then d + 1 + 1 else d + 1) f g f' g' ∧ (s ≤ 3 → sg X z.1 60 = true ∨ sg X z.1 61 = true → f' 17 (d + 1) = nI 1)
        | .inr z => MBd z.1 z.2 f g (Lm (f, g))) := by
    intro n
    induction n with
    | zero =>
      intro c hn hc hf
      have nop : ¬ op c := fun h => by
        have h1 := hk c h
        have h2 := tK_pos h1
        have h3 := tS_ge X c
        omega
      refine ⟨.inl (c, []), ⟨hc, by show 0 + c ≤ c; omega, fun rest n _ _ h => h, hfol c hf nop⟩, fun R hR f g m i hT h9 h1 hm hi => ?_, fun f g P W t hM hP hW hb h17 => ?_⟩
      · exact ⟨f, hend R hR c f g i hT h9 nop, hT, h9, rfl, h1, trivial, fun _ _ => rfl, CX_refl R f⟩
      · exact ⟨f, g, [], P, rfl, by rw [List.append_nil]; rfl, hP, hM, trivial, FM_refl _ _ _ _, h17⟩
    | succ n ih =>
      intro c hn hc hf
      by_cases hop1 : op c
      · have k0 := hk c hop1
        have hs := tK_pos k0
        have sge := tS_ge X c
        have cg := tE_c' k0
        have ce := tE_le hc
        obtain ⟨st1, st2, st3, st4, st5, st6⟩ := hst c hop1
        obtain ⟨o2, ok2, cl2, mo2⟩ := hO (tE X c) ce
        cases o2 with
        | inr z =>
          refine ⟨.inr z, ok2, fun R hR f g m i hT h9 h1 hm hi => ?_, fun f g P W t hM hP hW hb h17 => ?_⟩
          · obtain ⟨f1, a1, a2⟩ := COk_next xo hR f g hc hT h9 h1
            obtain ⟨f2, b1, b2⟩ := cl2 R hR f1 g m a2.1 a2.2.1 a2.2.2.2.1 (by omega)
            obtain ⟨f3, c1, c2⟩ := c_addB hR f1 f2 g b2 (st c)
            refine ⟨f3, ?_, CBad_trans a2 c2⟩
            rw [hstep R hR c f g i hT h9 (by omega) hop1, a1, c_V, b1, c_V, c1, c_V, hbad R hR f3 g _ (bad9 c2)]
          · obtain ⟨f1, g1, a1, a2, a3, a4, a5⟩ := hop c f g P W t hc hop1 hM hP hW hb
            have hla : (P ++ W).length = P.length + W.length := List.length_append
            have := mo2 xm hV f1 g1 (ac c :: W) _ a2 (by show (if 14 ≤ ac c then 0 else stN (ac c)) < sO; rw [if_neg (by omega)]; omega) (bnd_of hb (by rw [eL_ops P hP]; simp only [List.length_cons]; omega) (by simp only [List.length_cons]; omega)) (fun h => a5 (by omega))
            show MBd z.1 z.2 f g (Lm (f, g))
            rw [a1]
            exact MBd_of this a4.1 a4.2.2.2.2
        | inl z2 =>
          obtain ⟨c2, l2⟩ := z2
          obtain ⟨ok21, ok22, ok23, ok24⟩ := ok2
          obtain ⟨o3, ok3, cl3, mo3⟩ := ih c2 (by omega) ok21 ok24
          have model : ∀ f g P W t, ME X c (P ++ W) (d + 1) t f g → PK s P → topS W < s → bnd c t (P ++ W) → ∃ f2 g2 le2 P2, Lm (f, g) = Lm (f2, g2) ∧ l2 = le2 ++ P2.map aSt ∧ PK s (P2 ++ [ac c]) ∧ ME X c2 ((P2 ++ [ac c]) ++ W) (d + 1) (t + eL (P.map aSt) + eL le2) f2 g2 ∧ Em f2 t (P.map aSt ++ le2) ∧ FM t (if 5 ≤ s then d + 1 + 1 else d + 1) f g f2 g2 ∧ (s ≤ 3 → sg X c2 60 = true ∨ sg X c2 61 = true → f2 17 (d + 1) = nI 1) ∧ bnd c2 (t + eL (P.map aSt) + eL le2) ((P2 ++ [ac c]) ++ W) := by
            intro f g P W t hM hP hW hb
            obtain ⟨f1, g1, a1, a2, a3, a4, a5⟩ := hop c f g P W t hc hop1 hM hP hW hb
            have hla : (P ++ W).length = P.length + W.length := List.length_append
            have ePl := eL_ops P hP
            have hb1 : bnd (tE X c) (t + eL (P.map aSt)) (ac c :: W) := bnd_of hb (by rw [ePl]; simp only [List.length_cons]; omega) (by simp only [List.length_cons]; omega)
            obtain ⟨f2, g2, le2, P2, b1, b2, b3, b4, b5, b6, b7⟩ := mo2 xm hV f1 g1 (ac c :: W) _ a2 (by show (if 14 ≤ ac c then 0 else stN (ac c)) < sO; rw [if_neg (by omega)]; omega) hb1 (fun h => a5 (by omega))
            have b2' : l2 = le2 ++ P2.map aSt := b2
            have el2 := eL_le l2
            have e3 : eL l2 = eL le2 + P2.length := by rw [b2', eL_app, eL_ops P2 b3]
            have e4 : l2.length = le2.length + P2.length := by rw [b2', List.length_append, List.length_map]
            rw [eFM] at b6
            refine ⟨f2, g2, le2, P2, a1.trans b1, b2', PK_app (PK_mono b3 (by omega)) (PK_cons ⟨st2, st3, by omega⟩ (PK_nil s)), ?_, (Em_app _ _ t).mpr ⟨Em_of _ t (fun i i1 i2 => b6.2.1 i i2) a3, b5⟩, FM_trans a4 (Nat.le_add_right _ _) (Nat.le_refl _) b6, fun h => b7 (by have := h34 (by omega); omega), ?_⟩
            · rw [List.append_assoc]; exact b4
            · have ok22' : l2.length + tE X c ≤ c2 := ok22
              refine bnd_of hb1 ?_ ?_
              · simp only [List.length_append, List.length_cons, List.length_nil]; omega
              · simp only [List.length_append, List.length_cons, List.length_nil]; omega
          have cls : ∀ R, rR R → ∀ f g m i, CT X c f → f 66 9 = nI 0 → f R 1 = nI m → m ≤ c → i ≤ c → ∃ f3, x8 R (f, g) (nI i) = x8 R (f3, g) (nI (i + 1)) ∧ COk X R m c2 (l2 ++ [st c]) f f3 := by
            intro R hR f g m i hT h9 h1 hm hi
            obtain ⟨f1, a1, a2⟩ := COk_next xo hR f g hc hT h9 h1
            obtain ⟨f2, b1, b2⟩ := cl2 R hR f1 g m a2.1 a2.2.1 a2.2.2.2.1 (by omega)
            have b2' : COk X R m c2 l2 f1 f2 := b2
            have ok22' : l2.length + tE X c ≤ c2 := ok22
            have ok21' : c2 ≤ X.1 := ok21
            obtain ⟨f3, c1, c2'⟩ := c_add hR f2 g b2'.1 b2'.2.1 b2'.2.2.2.1 (by omega) (st c)
            refine ⟨f3, ?_, COk_trans (COk_trans (l := []) a2 b2') c2'⟩
            rw [hstep R hR c f g i hT h9 (by omega) hop1, a1, c_V, b1, c_V, c1, c_V, nI_1]
          have ok22' : l2.length + tE X c ≤ c2 := ok22
          have ok21' : c2 ≤ X.1 := ok21
          cases o3 with
          | inr z =>
            refine ⟨.inr z, ok3, fun R hR f g m i hT h9 h1 hm hi => ?_, fun f g P W t hM hP hW hb h17 => ?_⟩
            · obtain ⟨f3, a1, a2⟩ := cls R hR f g m i hT h9 h1 hm hi
              obtain ⟨f4, b1, b2⟩ := cl3 R hR f3 g _ (i + 1) a2.1 a2.2.1 a2.2.2.2.1 (by simp only [List.length_append, List.length_cons, List.length_nil]; omega) (by omega)
              exact ⟨f4, a1.trans b1, CBad_trans a2 b2⟩
            · obtain ⟨f2, g2, le2, P2, a1, a2, a3, a4, a5, a6, a7, a8⟩ := model f g P W t hM hP hW hb
              have := mo3 f2 g2 (P2 ++ [ac c]) W _ a4 a3 hW a8 a7
              show MBd z.1 z.2 f g (Lm (f, g))
              rw [a1]
              exact MBd_of this a6.1 a6.2.2.2.2
          | inl z3 =>
            obtain ⟨c3, l3⟩ := z3
            obtain ⟨ok31, ok32, ok33, ok34⟩ := ok3
            have ok32' : l3.length + c2 ≤ c3 := ok32
            refine ⟨.inl (c3, (l2 ++ [st c]) ++ l3), ⟨ok31, ?_, fun rest n h1 h2 h3 => ?_, ok34⟩, fun R hR f g m i hT h9 h1 hm hi => ?_, fun f g P W t hM hP hW hb h17 => ?_⟩
            · simp only [List.length_append, List.length_cons, List.length_nil]; omega
            · have q1 := ok33 rest n h1 h2 h3
              show sDp (((l2 ++ [st c]) ++ l3) ++ rest) n
              rw [List.append_assoc, List.append_assoc]
              refine ok23 _ n (by omega) ?_
              show sDp (st c :: (l3 ++ rest)) (n + 1)
              have := aSt_ok (ac c) st2 st3
              rw [sDp, if_neg (by rw [st1]; exact this.1), if_neg st5]
              exact ⟨by omega, by omega, st6, q1⟩
            · obtain ⟨f3, a1, a2⟩ := cls R hR f g m i hT h9 h1 hm hi
              obtain ⟨f4, b1, b2⟩ := cl3 R hR f3 g _ (i + 1) a2.1 a2.2.1 a2.2.2.2.1 (by simp only [List.length_append, List.length_cons, List.length_nil]; omega) (by omega)
              exact ⟨f4, a1.trans b1, COk_trans a2 b2⟩
            · obtain ⟨f2, g2, le2, P2, a1, a2, a3, a4, a5, a6, a7, a8⟩ := model f g P W t hM hP hW hb
              obtain ⟨f3, g3, le3, P3, b1, b2, b3, b4, b5, b6, b7⟩ := mo3 f2 g2 (P2 ++ [ac c]) W _ a4 a3 hW a8 a7
              have b2' : (P2 ++ [ac c]).map aSt ++ l3 = le3 ++ P3.map aSt := b2
              have et : t + eL (P.map aSt ++ le2) = t + eL (P.map aSt) + eL le2 := by rw [eL_app]; omega
              refine ⟨f3, g3, (P.map aSt ++ le2) ++ le3, P3, a1.trans b1, ?_, b3, ?_, (Em_app _ _ t).mpr ⟨Em_of _ t (fun i i1 i2 => b6.2.1 i (by omega)) a5, by rw [et]; exact b5⟩, FM_trans a6 (by omega) (Nat.le_refl _) b6, b7⟩
              · show P.map aSt ++ ((l2 ++ [st c]) ++ l3) = _
                rw [List.append_assoc, List.append_assoc, ← b2', a2, List.map_append, st1]
                simp only [List.append_assoc]
                rfl
              · rw [eL_app, show t + (eL (P.map aSt ++ le2) + eL le3) = t + eL (P.map aSt) + eL le2 + eL le3 by rw [eL_app]; omega]
                exact b4
      · refine ⟨.inl (c, []), ⟨hc, by show 0 + c ≤ c; omega, fun rest n _ _ h => h, hfol c hf hop1⟩, fun R hR f g m i hT h9 h1 hm hi => ?_, fun f g P W t hM hP hW hb h17 => ?_⟩
        · exact ⟨f, hend R hR c f g i hT h9 hop1, hT, h9, rfl, h1, trivial, fun _ _ => rfl, CX_refl R f⟩
        · exact ⟨f, g, [], P, rfl, by rw [List.append_nil]; rfl, hP, hM, trivial, FM_refl _ _ _ _, h17⟩
  intro c hc
  obtain ⟨o1, ok1, cl1, mo1⟩ := hO c hc
  cases o1 with
  | inr z =>
    refine ⟨.inr z, ok1, fun R hR f g m hT h9 h1 hm => ?_, fun xm' hV' f g W t hM hW hb h17 => ?_⟩
    · obtain ⟨f1, a1, a2⟩ := cl1 R hR f g m hT h9 h1 hm
      refine ⟨f1, ?_, a2⟩
      rw [h0 R hR, a1, c_V, hbad R hR f1 g _ (bad9 a2)]
    · exact mo1 xm' hV' f g W t hM (by omega) hb (fun h => h17 (by omega))
  | inl z1 =>
    obtain ⟨c1, l1⟩ := z1
    obtain ⟨ok11, ok12, ok13, ok14⟩ := ok1
    have ok12' : l1.length + c ≤ c1 := ok12
    have ok11' : c1 ≤ X.1 := ok11
    obtain ⟨o2, ok2, cl2, mo2⟩ := tail (X.1 - c1) c1 (Nat.le_refl _) ok11 ok14
    have model : ∀ xm' , V xm' → ∀ f g W t, ME X c W (d + 1) t f g → topS W < s → bnd c t W → (s ≤ 4 → f 17 (d + 1) = nI 0) → ∃ f2 g2 le2 P2, xm' (f, g) = Lm (f2, g2) ∧ l1 = le2 ++ P2.map aSt ∧ PK s P2 ∧ ME X c1 (P2 ++ W) (d + 1) (t + eL le2) f2 g2 ∧ Em f2 t le2 ∧ FM t (if 5 ≤ s then d + 1 + 1 else d + 1) f g f2 g2 ∧ (s ≤ 3 → sg X c1 60 = true ∨ sg X c1 61 = true → f2 17 (d + 1) = nI 1) ∧ bnd c1 (t + eL le2) (P2 ++ W) := by
      intro xm' hV' f g W t hM hW hb h17
      obtain ⟨f2, g2, le2, P2, b1, b2, b3, b4, b5, b6, b7⟩ := mo1 xm' hV' f g W t hM (by omega) hb (fun h => h17 (by omega))
      have b2' : l1 = le2 ++ P2.map aSt := b2
      have el2 := eL_le l1
      have e3 : eL l1 = eL le2 + P2.length := by rw [b2', eL_app, eL_ops P2 b3]
      have e4 : l1.length = le2.length + P2.length := by rw [b2', List.length_append, List.length_map]
      rw [eFM] at b6
      refine ⟨f2, g2, le2, P2, b1, b2', PK_mono b3 (by omega), b4, b5, b6, fun h => b7 (by have := h34 (by omega); omega), bnd_of hb ?_ ?_⟩
      · simp only [List.length_append]; omega
      · simp only [List.length_append]; omega
    cases o2 with
    | inr z =>
      refine ⟨.inr z, ok2, fun R hR f g m hT h9 h1 hm => ?_, fun xm' hV' f g W t hM hW hb h17 => ?_⟩
      · obtain ⟨f1, a1, a2⟩ := cl1 R hR f g m hT h9 h1 hm
        have a2' : COk X R m c1 l1 f f1 := a2
        obtain ⟨f2, b1, b2⟩ := cl2 R hR f1 g (m + l1.length) 0 a2'.1 a2'.2.1 a2'.2.2.2.1 (by omega) (by omega)
        refine ⟨f2, ?_, CBad_trans a2' b2⟩
        rw [h0 R hR, a1, c_V]; exact b1
      · obtain ⟨f2, g2, le2, P2, a1, a2, a3, a4, a5, a6, a7, a8⟩ := model xm' hV' f g W t hM hW hb h17
        have := mo2 f2 g2 P2 W _ a4 a3 hW a8 a7
        show MBd z.1 z.2 f g (xm' (f, g))
        rw [a1]
        exact MBd_of this a6.1 a6.2.2.2.2
    | inl z2 =>
      obtain ⟨c2, l2⟩ := z2
      obtain ⟨ok21, ok22, ok23, ok24⟩ := ok2
      have ok22' : l2.length + c1 ≤ c2 := ok22
      refine ⟨.inl (c2, l1 ++ l2), ⟨ok21, ?_, fun rest n h1 h2 => ?_, ok24⟩, fun R hR f g m hT h9 h1 hm => ?_, fun xm' hV' f g W t hM hW hb h17 => ?_⟩
      · simp only [List.length_append]; omega
      · show sDp ((l1 ++ l2) ++ rest) n
        rw [List.append_assoc]
        exact ok13 _ n (by omega) (ok23 rest (n + 1) (by omega) (by omega) h2)
      · obtain ⟨f1, a1, a2⟩ := cl1 R hR f g m hT h9 h1 hm
        have a2' : COk X R m c1 l1 f f1 := a2
        obtain ⟨f2, b1, b2⟩ := cl2 R hR f1 g (m + l1.length) 0 a2'.1 a2'.2.1 a2'.2.2.2.1 (by omega) (by omega)
        refine ⟨f2, ?_, COk_trans a2' b2⟩
        rw [h0 R hR, a1, c_V]; exact b1
      · obtain ⟨f2, g2, le2, P2, a1, a2, a3, a4, a5, a6, a7, a8⟩ := model xm' hV' f g W t hM hW hb h17
        obtain ⟨f3, g3, le3, P3, b1, b2, b3, b4, b5, b6, b7⟩ := mo2 f2 g2 P2 W _ a4 a3 hW a8 a7
        have b2' : P2.map aSt ++ l2 = le3 ++ P3.map aSt := b2
        refine ⟨f3, g3, le2 ++ le3, P3, a1.trans b1, ?_, b3, ?_, (Em_app _ _ t).mpr ⟨Em_of _ t (fun i i1 i2 => b6.2.1 i i2) a5, b5⟩, FM_trans a6 (Nat.le_add_right _ _) (Nat.le_refl _) b6, b7⟩
        · show l1 ++ l2 = (le2 ++ le3) ++ P3.map aSt
          rw [a2, List.append_assoc, List.append_assoc, b2']
        · rw [eL_app, ← Nat.add_assoc]; exact b4
