/-! expressions: not, tests -/
theorem c_nots {X : mu_X} {R c : Nat} (hR : rR R) {x110 : Nat → en_S → Int32 → Int32 → Option en_O} (e110 : ∀ R, rR R → ∀ (σ : en_S) (v3 v4 : Int32), x110 R σ v3 v4 = if v3 ≤ v4 then some (.inl none, σ) else en_cV (xAdd R σ (-8)) (fun σ1 => x110 R σ1 v3 (v4 + 1)) (fun e σ => some (.inr e, σ))) {k : Nat} (hk : k ≤ 6) (g : Nat → Nat → Int64) : ∀ (j i : Nat) (f : Nat → Nat → Int32) (m : Nat), i + j = k → CT X c f → f 66 9 = nI 0 → f R 1 = nI m → m + j ≤ 700 → ∃ f', x110 R (f, g) (nI k) (nI i) = rV (f', g) ∧ COk X R m c (List.replicate j (-8)) f f' := by
  intro j
  induction j with
  | zero =>
    intro i f m hi hT h9 h1 hm
    refine ⟨f, ?_, hT, h9, rfl, h1, trivial, fun _ _ => rfl, CX_refl R f⟩
    rw [e110 R hR, if_pos (nI_le (by omega) (by omega))]
    rfl
  | succ j ih =>
    intro i f m hi hT h9 h1 hm
    obtain ⟨f1, a1, a2⟩ := c_add hR f g hT h9 h1 (by omega) (-8)
    obtain ⟨f2, b1, b2⟩ := ih (i + 1) f1 (m + 1) (by omega) a2.1 a2.2.1 a2.2.2.2.1 (by omega)
    refine ⟨f2, ?_, COk_trans a2 b2⟩
    rw [e110 R hR, if_neg (nI_ge (by omega) (by omega)), a1, c_V, nI_1]
    exact b1
theorem c_notsB {R kk q : Nat} (hR : rR R) {x110 : Nat → en_S → Int32 → Int32 → Option en_O} (e110 : ∀ R, rR R → ∀ (σ : en_S) (v3 v4 : Int32), x110 R σ v3 v4 = if v3 ≤ v4 then some (.inl none, σ) else en_cV (xAdd R σ (-8)) (fun σ1 => x110 R σ1 v3 (v4 + 1)) (fun e σ => some (.inr e, σ))) {k : Nat} (hk : k ≤ 6) (g : Nat → Nat → Int64) (f0 : Nat → Nat → Int32) : ∀ (j i : Nat) (f : Nat → Nat → Int32), i + j = k → CBad R kk q f0 f → ∃ f', x110 R (f, g) (nI k) (nI i) = rV (f', g) ∧ CBad R kk q f0 f' := by
  intro j
  induction j with
  | zero =>
    intro i f hi hB
    refine ⟨f, ?_, hB⟩
    rw [e110 R hR, if_pos (nI_le (by omega) (by omega))]
    rfl
  | succ j ih =>
    intro i f hi hB
    obtain ⟨f1, a1, a2⟩ := c_addB hR f0 f g hB (-8)
    obtain ⟨f2, b1, b2⟩ := ih (i + 1) f1 (by omega) a2
    refine ⟨f2, ?_, b2⟩
    rw [e110 R hR, if_neg (nI_ge (by omega) (by omega)), a1, c_V, nI_1]
    exact b1
theorem sDp_nots : ∀ (k : Nat) (rest : List Int32) (n : Nat), 1 ≤ n → n ≤ 48 → sDp rest n → sDp (List.replicate k (-8) ++ rest) n := by
  intro k
  induction k with
  | zero => intro rest n _ _ h; exact h
  | succ k ih =>
    intro rest n h1 h2 h
    show sDp (-8 :: (List.replicate k (-8) ++ rest)) n
    rw [sDp, if_neg (by decide), if_pos rfl]
    exact ⟨by omega, h2, ih rest n h1 h2 h⟩
theorem fol_53 {X : mu_X} {c : Nat} (h : fol X 5 c) : fol X 3 c := ⟨fun _ => h.1 (by omega), fun _ => h.2.1 (by omega), fun z => absurd z (by omega), fun z => absurd z (by omega)⟩
theorem topS_rep (k : Nat) {W : List Nat} (h : topS W < 3) : topS (List.replicate k 3 ++ W) < 4 := by
  cases k with
  | zero => show topS W < 4; omega
  | succ k => show (if 14 ≤ 3 then 0 else stN 3) < 4; decide
theorem PK_rep (k : Nat) : PK 3 (List.replicate k 3) := fun a ha => by
  have := List.eq_of_mem_replicate ha
  rw [this]
  decide
theorem map_rep (k : Nat) : (List.replicate k 3).map aSt = List.replicate k (-8) := by
  rw [List.map_replicate]
  rfl
theorem lv_not {X : mu_X} (xo : XOK X) {d B : Nat} (hd : d ≤ 5) (hB : 1 ≤ B) {xS x0 : Nat → en_S → Option en_O} {x2 x73 : Nat → en_S → Int32 → Option en_O} {x110 : Nat → en_S → Int32 → Int32 → Option en_O}
    (h0 : ∀ R, rR R → ∀ σ, x0 R σ = x2 R σ 0)
    (h2 : ∀ R, rR R → ∀ (σ : en_S) (v3 : Int32), x2 R σ v3 = if (6 : Int32) ≤ v3 then
      en_cI (x_rd_isWord_p1010_0 σ) (fun r2 σ1 =>
        if r2 = 0 then
          en_cV (xS R σ1) (fun σ3 =>
            if σ3.1 66 9 = 0 then
              en_cI (x_rd_isSign_0 σ3 60) (fun r5 σ4 =>
                if r5 = 0 then
                  en_cI (x_rd_isSign_0 σ4 61) (fun r7 σ6 =>
                    if r7 = 0 then
                      x110 R σ6 v3 0
                    else
                      x73 R σ6 v3) (fun e σ => some (.inr e, σ))
                else
                  x73 R σ4 v3) (fun e σ => some (.inr e, σ))
            else
              x110 R σ3 v3 0) (fun e σ => some (.inr e, σ))
        else
          en_cV (x_rd_refuse_0 σ1 2) (fun σ8 =>
            some (.inl none, σ8)) (fun e σ => some (.inr e, σ))) (fun e σ => some (.inr e, σ))
    else
      en_cI (x_rd_isWord_p1010_0 σ) (fun r10 σ9 =>
        if r10 = 0 then
          en_cI (x_rd_isWord_p1010_0 σ9) (fun r12 σ11 =>
            if r12 = 0 then
              en_cV (xS R σ11) (fun σ13 =>
                if σ13.1 66 9 = 0 then
                  en_cI (x_rd_isSign_0 σ13 60) (fun r15 σ14 =>
                    if r15 = 0 then
                      en_cI (x_rd_isSign_0 σ14 61) (fun r17 σ16 =>
                        if r17 = 0 then
                          x110 R σ16 v3 0
                        else
                          x73 R σ16 v3) (fun e σ => some (.inr e, σ))
                    else
                      x73 R σ14 v3) (fun e σ => some (.inr e, σ))
                else
                  x110 R σ13 v3 0) (fun e σ => some (.inr e, σ))
            else
              en_cV (x_rd_refuse_0 σ11 2) (fun σ18 =>
                some (.inl none, σ18)) (fun e σ => some (.inr e, σ))) (fun e σ => some (.inr e, σ))
        else
          en_cV (x_rd_nextToken_0 σ9) (fun σ19 =>
            x2 R σ19 (v3 + 1)) (fun e σ => some (.inr e, σ))) (fun e σ => some (.inr e, σ)))
    (h73 : ∀ R, rR R → ∀ (σ : en_S) (v3 : Int32), x73 R σ v3 = en_cI (x_rd_isSign_0 σ 60) (fun r2 σ1 =>
      if r2 = 0 then
        en_cV (x_rd_nextToken_0 σ1) (fun σ3 =>
          en_cV (xS R σ3) (fun σ4 =>
            en_cV (xAdd R σ4 (-12)) (fun σ5 =>
              x110 R σ5 v3 0) (fun e σ => some (.inr e, σ))) (fun e σ => some (.inr e, σ))) (fun e σ => some (.inr e, σ))
      else
        en_cV (x_rd_nextToken_0 σ1) (fun σ6 =>
          en_cV (xS R σ6) (fun σ7 =>
            en_cV (xAdd R σ7 (-11)) (fun σ8 =>
              x110 R σ8 v3 0) (fun e σ => some (.inr e, σ))) (fun e σ => some (.inr e, σ))) (fun e σ => some (.inr e, σ))) (fun e σ => some (.inr e, σ)))
    (h110 : ∀ R, rR R → ∀ (σ : en_S) (v3 v4 : Int32), x110 R σ v3 v4 = if v3 ≤ v4 then some (.inl none, σ) else en_cV (xAdd R σ (-8)) (fun σ1 => x110 R σ1 v3 (v4 + 1)) (fun e σ => some (.inr e, σ)))
    (hS : Lv X 5 d B xS isQ) : Lv X 3 d (B + 1) x0 isO := by
  have n7 := xo.1
  have word : ∀ c f g, CT X c f → x_rd_isWord_p1010_0 (f, g) = rI (tb (decide (kW X c = 16))) (f, g) := fun c f g hT => c_w16 xo f g hT
  -- no 'not' at this token
  have base : ∀ k, k ≤ 6 → ∀ c, c ≤ X.1 → kW X c ≠ 16 → ∃ o : mu_O, (match o with
        | .inl z => z.1 ≤ X.1 ∧ z.2.length + c ≤ z.1 + k ∧ (∀ rest n, n + (B + 1) ≤ 48 → sDp rest (n + 1) → sDp (z.2 ++ rest) n) ∧ fol X 3 z.1
        | .inr z => (1 ≤ z.1 ∧ z.1 ≤ 5) ∧ z.2 ≤ 700) ∧
      (∀ R, rR R → ∀ f g m, CT X c f → f 66 9 = nI 0 → f R 1 = nI m → m + k ≤ c → ∃ f', x2 R (f, g) (nI k) = rV (f', g) ∧ CRes X R m o f f') ∧
      (∀ f g W t, ME X c (List.replicate k 3 ++ W) (d + 1) t f g → topS W < 3 → bnd c t (List.replicate k 3 ++ W) → f 17 (d + 1) = nI 0 → MRes X 3 (d + 1) W t f g o (O18 (nI k) (f, g))) := by
    intro k hk c hc hw
    have cut : ∀ R, rR R → ∀ f g, CT X c f → x2 R (f, g) (nI k) = en_cV (xS R (f, g)) (fun σ3 =>
            if σ3.1 66 9 = 0 then
              en_cI (x_rd_isSign_0 σ3 60) (fun r5 σ4 =>
                if r5 = 0 then
                  en_cI (x_rd_isSign_0 σ4 61) (fun r7 σ6 =>
                    if r7 = 0 then
                      x110 R σ6 (nI k) 0
                    else
                      x73 R σ6 (nI k)) (fun e σ => some (.inr e, σ))
                else
                  x73 R σ4 (nI k)) (fun e σ => some (.inr e, σ))
            else
              x110 R σ3 (nI k) 0) (fun e σ => some (.inr e, σ)) := by
      intro R hR f g hT
      have hw' : tb (decide (kW X c = 16)) = 0 := tb_n (decide_eq_false hw)
      rw [h2 R hR]
      by_cases k6 : (6 : Int32) ≤ nI k
      · rw [if_pos k6, word c f g hT, c_I, if_pos hw']
      · rw [if_neg k6, word c f g hT, c_I, if_pos hw', word c f g hT, c_I, if_pos hw']
    obtain ⟨o1, ok1, cl1, mo1⟩ := hS c hc
    have mod1 : ∀ f g W t, ME X c (List.replicate k 3 ++ W) (d + 1) t f g → topS W < 3 → bnd c t (List.replicate k 3 ++ W) → MRes X 5 (d + 1) (List.replicate k 3 ++ W) t f g o1 (O18 (nI k) (f, g)) := by
      intro f g W t hM hW hb
      rw [O18_Q xo f g hc hM.1 hM.2.1 hw]
      exact mo1 (Qm 1) ⟨1, rfl⟩ f g _ t hM (by have := topS_rep k hW; omega) hb (fun h => absurd h (by omega))
    cases o1 with
    | inr z =>
      refine ⟨.inr z, ok1, fun R hR f g m hT h9 h1 hm => ?_, fun f g W t hM hW hb h17 => mod1 f g W t hM hW hb⟩
      obtain ⟨f1, a1, a2⟩ := cl1 R hR f g m hT h9 h1 (by omega)
      obtain ⟨f2, b1, b2⟩ := c_notsB hR h110 hk g f k 0 f1 (by omega) a2
      refine ⟨f2, ?_, b2⟩
      rw [cut R hR f g hT, a1, c_V, if_neg (show ¬ f1 66 9 = 0 from bad9 a2)]
      exact b1
    | inl z1 =>
      obtain ⟨c1, l1⟩ := z1
      obtain ⟨ok11, ok12, ok13, ok14⟩ := ok1
      have ok11' : c1 ≤ X.1 := ok11
      have ok12' : l1.length + c ≤ c1 := ok12
      have mod2 : ∀ f g W t, ME X c (List.replicate k 3 ++ W) (d + 1) t f g → topS W < 3 → bnd c t (List.replicate k 3 ++ W) → f 17 (d + 1) = nI 0 → ∃ f1 g1 le1 P1, O18 (nI k) (f, g) = Lm (f1, g1) ∧ l1 = le1 ++ P1.map aSt ∧ PK 5 P1 ∧ ME X c1 (P1 ++ (List.replicate k 3 ++ W)) (d + 1) (t + eL le1) f1 g1 ∧ Em f1 t le1 ∧ FM t (d + 1 + 1) f g f1 g1 ∧ f1 17 (d + 1) = nI 0 ∧ bnd c1 (t + eL le1) (P1 ++ (List.replicate k 3 ++ W)) := by
        intro f g W t hM hW hb h17
        obtain ⟨f1, g1, le1, P1, b1, b2, b3, b4, b5, b6, b7⟩ := mod1 f g W t hM hW hb
        have b2' : l1 = le1 ++ P1.map aSt := b2
        have el2 := eL_le l1
        have e3 : eL l1 = eL le1 + P1.length := by rw [b2', eL_app, eL_ops P1 b3]
        have e4 : l1.length = le1.length + P1.length := by rw [b2', List.length_append, List.length_map]
        refine ⟨f1, g1, le1, P1, b1, b2', b3, b4, b5, b6, by rw [b6.2.2.1 (d + 1) (by rw [if_pos (by omega)]; omega)]; exact h17, bnd_of hb ?_ ?_⟩
        · simp only [List.length_append]; omega
        · simp only [List.length_append]; omega
      by_cases cmp : sg X c1 60 = true ∨ sg X c1 61 = true
      · have k3 : tK X c1 = 3 := by rcases cmp with s | s <;> exact (sg_kW s).2.1
        have cg1 := tE_c' (X := X) (c := c1) (by omega)
        have ce1 := tE_le ok11
        obtain ⟨o2, ok2, cl2, mo2⟩ := hS (tE X c1) ce1
        obtain ⟨a, ha⟩ : ∃ a : Nat, a = if sg X c1 60 = true then 6 else 7 := ⟨_, rfl⟩
        have ha67 : a = 6 ∨ a = 7 := by rw [ha]; cases sg X c1 60 <;> decide
        have sta : stN a = 4 := by rcases ha67 with h | h <;> rw [h] <;> rfl
        have aS11 : aSt a ≠ -8 ∧ -17 < aSt a ∧ ¬ (-8 < aSt a) := by rcases ha67 with h | h <;> rw [h] <;> decide
        have stc : (if sg X c1 60 = true then (-11 : Int32) else -12) = aSt a := by rw [ha]; cases sg X c1 60 <;> decide
        have cls : ∀ R, rR R → ∀ f g m, CT X c f → f 66 9 = nI 0 → f R 1 = nI m → m + k ≤ c → ∃ f2, x2 R (f, g) (nI k) = en_cV (xS R (f2, g)) (fun σ4 => en_cV (xAdd R σ4 (aSt a)) (fun σ5 => x110 R σ5 (nI k) 0) (fun e σ => some (.inr e, σ))) (fun e σ => some (.inr e, σ)) ∧ COk X R m (tE X c1) l1 f f2 := by
          intro R hR f g m hT h9 h1 hm
          obtain ⟨f1, a1, a2⟩ := cl1 R hR f g m hT h9 h1 (by omega)
          have a2' : COk X R m c1 l1 f f1 := a2
          obtain ⟨f2, b1, b2⟩ := COk_next xo hR f1 g ok11 a2'.1 a2'.2.1 a2'.2.2.2.1
          refine ⟨f2, ?_, by have := COk_trans a2' b2; rw [List.append_nil] at this; exact this⟩
          have s60 : x_rd_isSign_0 (f1, g) 60 = rI (tb (sg X c1 60)) (f1, g) := c_isSign xo f1 g a2'.1 (v := 60) (by omega)
          have s61 : x_rd_isSign_0 (f1, g) 61 = rI (tb (sg X c1 61)) (f1, g) := c_isSign xo f1 g a2'.1 (v := 61) (by omega)
          rw [cut R hR f g hT, a1, c_V, if_pos (show f1 66 9 = 0 from a2'.2.1), s60, c_I, ← stc]
          cases q : sg X c1 60 with
          | true =>
            rw [q] at s60
            rw [if_neg (by decide), h73 R hR, s60, c_I, if_neg (by decide), b1, c_V]
            rfl
          | false =>
            rw [q] at s60
            have q1 : sg X c1 61 = true := cmp.resolve_left (by rw [q]; decide)
            rw [if_pos (by decide), s61, c_I, q1, if_neg (by decide), h73 R hR, s60, c_I, if_pos (by decide), b1, c_V]
            rfl
        have mod3 : ∀ f g W t, ME X c (List.replicate k 3 ++ W) (d + 1) t f g → topS W < 3 → bnd c t (List.replicate k 3 ++ W) → f 17 (d + 1) = nI 0 → ∃ f2 g2 le, O18 (nI k) (f, g) = Qm 0 (f2, g2) ∧ l1 = le ∧ ME X (tE X c1) (a :: (List.replicate k 3 ++ W)) (d + 1) (t + eL le) f2 g2 ∧ Em f2 t le ∧ FM t (d + 1) f g f2 g2 ∧ f2 17 (d + 1) = nI 1 ∧ bnd (tE X c1) (t + eL le) (a :: (List.replicate k 3 ++ W)) := by
          intro f g W t hM hW hb h17
          obtain ⟨f1, g1, le1, P1, a1, a2, a3, a4, a5, a6, a7, a8⟩ := mod2 f g W t hM hW hb h17
          obtain ⟨f2, g2, b1, b2, b3, b4, b5⟩ := m_op4 xo f1 g1 a4 ok11 a8 (PK_mono a3 (by omega)) (topS_rep k hW) (by omega) a7 cmp
          rw [← ha] at b2
          have et : t + eL (le1 ++ P1.map aSt) = t + eL le1 + eL (P1.map aSt) := by rw [eL_app]; omega
          refine ⟨f2, g2, le1 ++ P1.map aSt, a1.trans b1, a2, by rw [et]; exact b2, (Em_app _ _ t).mpr ⟨Em_of _ t (fun i i1 i2 => b4.2.1 i i2) a5, b3⟩, FM_trans (FM_mono a6 (Nat.le_refl _) (by omega)) (Nat.le_add_right _ _) (Nat.le_refl _) b4, b5, bnd_of a8 ?_ ?_⟩
          · rw [et, eL_ops P1 a3]; simp only [List.length_append, List.length_cons]; omega
          · simp only [List.length_append, List.length_cons]; omega
        cases o2 with
        | inr z =>
          refine ⟨.inr z, ok2, fun R hR f g m hT h9 h1 hm => ?_, fun f g W t hM hW hb h17 => ?_⟩
          · obtain ⟨f2, a1, a2⟩ := cls R hR f g m hT h9 h1 hm
            obtain ⟨f3, b1, b2⟩ := cl2 R hR f2 g _ a2.1 a2.2.1 a2.2.2.2.1 (by omega)
            obtain ⟨f4, c1', c2'⟩ := c_addB hR f2 f3 g b2 (aSt a)
            obtain ⟨f5, d1, d2⟩ := c_notsB hR h110 hk g f2 k 0 f4 (by omega) c2'
            refine ⟨f5, ?_, CBad_trans a2 d2⟩
            rw [a1, b1, c_V, c1', c_V]
            exact d1
          · obtain ⟨f2, g2, le, a1, a2, a3, a4, a5, a6, a7⟩ := mod3 f g W t hM hW hb h17
            have := mo2 (Qm 0) ⟨0, rfl⟩ f2 g2 _ _ a3 (by show (if 14 ≤ a then 0 else stN a) < 5; rw [if_neg (by omega)]; omega) a7 (fun h => absurd h (by omega))
            show MBd z.1 z.2 f g (O18 (nI k) (f, g))
            rw [a1]
            exact MBd_of this a5.1 a5.2.2.2.2
        | inl z2 =>
          obtain ⟨c2, l2⟩ := z2
          obtain ⟨ok21, ok22, ok23, ok24⟩ := ok2
          have ok21' : c2 ≤ X.1 := ok21
          have ok22' : l2.length + tE X c1 ≤ c2 := ok22
          refine ⟨.inl (c2, ((l1 ++ l2) ++ [aSt a]) ++ List.replicate k (-8)), ⟨ok21, ?_, fun rest n h1 h2 => ?_, fol_53 ok24⟩, fun R hR f g m hT h9 h1 hm => ?_, fun f g W t hM hW hb h17 => ?_⟩
          · simp only [List.length_append, List.length_cons, List.length_nil, List.length_replicate]; omega
          · show sDp ((((l1 ++ l2) ++ [aSt a]) ++ List.replicate k (-8)) ++ rest) n
            rw [List.append_assoc, List.append_assoc, List.append_assoc]
            refine ok13 _ n (by omega) (ok23 _ (n + 1) (by omega) ?_)
            show sDp (aSt a :: (List.replicate k (-8) ++ rest)) (n + 1 + 1)
            rw [sDp, if_neg aS11.2.2, if_neg aS11.1]
            exact ⟨by omega, by omega, aS11.2.1, sDp_nots k rest (n + 1) (by omega) (by omega) h2⟩
          · obtain ⟨f2, a1, a2⟩ := cls R hR f g m hT h9 h1 hm
            obtain ⟨f3, b1, b2⟩ := cl2 R hR f2 g _ a2.1 a2.2.1 a2.2.2.2.1 (by omega)
            have C2 := COk_trans a2 b2
            have C2' : COk X R m c2 (l1 ++ l2) f f3 := C2
            have hl : (l1 ++ l2).length = l1.length + l2.length := List.length_append
            obtain ⟨f4, c1', c2'⟩ := c_add hR f3 g C2'.1 C2'.2.1 C2'.2.2.2.1 (by omega) (aSt a)
            have C3 := COk_trans C2' c2'
            have hl3 : ((l1 ++ l2) ++ [aSt a]).length = l1.length + l2.length + 1 := by simp only [List.length_append, List.length_cons, List.length_nil]
            obtain ⟨f5, d1, d2⟩ := c_nots hR h110 hk g k 0 f4 _ (by omega) C3.1 C3.2.1 C3.2.2.2.1 (by omega)
            refine ⟨f5, ?_, COk_trans C3 d2⟩
            rw [a1, b1, c_V, c1', c_V]
            exact d1
          · obtain ⟨f2, g2, le, a1, a2, a3, a4, a5, a6, a7⟩ := mod3 f g W t hM hW hb h17
            obtain ⟨f3, g3, le2, P2, b1, b2, b3, b4, b5, b6, b7⟩ := mo2 (Qm 0) ⟨0, rfl⟩ f2 g2 _ _ a3 (by show (if 14 ≤ a then 0 else stN a) < 5; rw [if_neg (by omega)]; omega) a7 (fun h => absurd h (by omega))
            have b2' : l2 = le2 ++ P2.map aSt := b2
            rw [if_pos (by omega)] at b6
            refine ⟨f3, g3, le ++ le2, P2 ++ a :: List.replicate k 3, a1.trans b1, ?_, PK_app (PK_mono b3 (by omega)) (PK_cons ⟨by omega, by omega, by omega⟩ (PK_rep k)), ?_, (Em_app _ _ t).mpr ⟨Em_of _ t (fun i i1 i2 => b6.2.1 i i2) a4, b5⟩, FM_trans a5 (Nat.le_add_right _ _) (Nat.le_refl _) (FM_mono b6 (Nat.le_refl _) (by rw [if_neg (by omega)]; omega)), fun _ _ => by rw [b6.2.2.1 (d + 1) (by omega)]; exact a6⟩
            · show ((l1 ++ l2) ++ [aSt a]) ++ List.replicate k (-8) = (le ++ le2) ++ (P2 ++ a :: List.replicate k 3).map aSt
              rw [a2, b2', List.map_append, List.map_cons, map_rep]
              simp only [List.append_assoc, List.cons_append, List.nil_append]
            · have : (P2 ++ a :: List.replicate k 3) ++ W = P2 ++ a :: (List.replicate k 3 ++ W) := by rw [List.append_assoc, List.cons_append]
              rw [this, eL_app, ← Nat.add_assoc]
              exact b4
      · refine ⟨.inl (c1, l1 ++ List.replicate k (-8)), ⟨ok11, ?_, fun rest n h1 h2 => ?_, fol_53 ok14⟩, fun R hR f g m hT h9 h1 hm => ?_, fun f g W t hM hW hb h17 => ?_⟩
        · simp only [List.length_append, List.length_replicate]; omega
        · show sDp ((l1 ++ List.replicate k (-8)) ++ rest) n
          rw [List.append_assoc]
          exact ok13 _ n (by omega) (sDp_nots k rest (n + 1) (by omega) (by omega) h2)
        · obtain ⟨f1, a1, a2⟩ := cl1 R hR f g m hT h9 h1 (by omega)
          have a2' : COk X R m c1 l1 f f1 := a2
          obtain ⟨f2, b1, b2⟩ := c_nots hR h110 hk g k 0 f1 _ (by omega) a2'.1 a2'.2.1 a2'.2.2.2.1 (by omega)
          refine ⟨f2, ?_, COk_trans a2' b2⟩
          have s60 : x_rd_isSign_0 (f1, g) 60 = rI (tb (sg X c1 60)) (f1, g) := c_isSign xo f1 g a2'.1 (v := 60) (by omega)
          have s61 : x_rd_isSign_0 (f1, g) 61 = rI (tb (sg X c1 61)) (f1, g) := c_isSign xo f1 g a2'.1 (v := 61) (by omega)
          have q60 : sg X c1 60 = false := by
            cases q : sg X c1 60 with
            | false => rfl
            | true => exact absurd (Or.inl q) cmp
          have q61 : sg X c1 61 = false := by
            cases q : sg X c1 61 with
            | false => rfl
            | true => exact absurd (Or.inr q) cmp
          rw [cut R hR f g hT, a1, c_V, if_pos (show f1 66 9 = 0 from a2'.2.1), s60, c_I, q60, if_pos (by decide), s61, c_I, q61, if_pos (by decide)]
          exact b1
        · obtain ⟨f1, g1, le1, P1, a1, a2, a3, a4, a5, a6, a7, a8⟩ := mod2 f g W t hM hW hb h17
          refine ⟨f1, g1, le1, P1 ++ List.replicate k 3, a1, ?_, PK_app (PK_mono a3 (by omega)) (PK_rep k), ?_, a5, FM_mono a6 (Nat.le_refl _) (by rw [if_neg (by omega)]; omega), fun _ h => absurd h cmp⟩
          · show l1 ++ List.replicate k (-8) = le1 ++ (P1 ++ List.replicate k 3).map aSt
            rw [a2, List.map_append, map_rep, List.append_assoc]
          · rw [List.append_assoc]; exact a4
  have key : ∀ j k, k + j = 6 → ∀ c, c ≤ X.1 → ∃ o : mu_O, (match o with
        | .inl z => z.1 ≤ X.1 ∧ z.2.length + c ≤ z.1 + k ∧ (∀ rest n, n + (B + 1) ≤ 48 → sDp rest (n + 1) → sDp (z.2 ++ rest) n) ∧ fol X 3 z.1
        | .inr z => (1 ≤ z.1 ∧ z.1 ≤ 5) ∧ z.2 ≤ 700) ∧
      (∀ R, rR R → ∀ f g m, CT X c f → f 66 9 = nI 0 → f R 1 = nI m → m + k ≤ c → ∃ f', x2 R (f, g) (nI k) = rV (f', g) ∧ CRes X R m o f f') ∧
      (∀ f g W t, ME X c (List.replicate k 3 ++ W) (d + 1) t f g → topS W < 3 → bnd c t (List.replicate k 3 ++ W) → f 17 (d + 1) = nI 0 → MRes X 3 (d + 1) W t f g o (O18 (nI k) (f, g))) := by
    intro j
    induction j with
    | zero =>
      intro k hk c hc
      by_cases hw : kW X c = 16
      · have hk6 : k = 6 := by omega
        subst hk6
        refine ⟨.inr (2, tS X c), ⟨by show 1 ≤ 2 ∧ 2 ≤ 5; omega, tS7 xo hc⟩, fun R hR f g m hT h9 h1 hm => ?_, fun f g W t hM hW hb h17 => O18_six xo f g hM hc hb hw⟩
        refine ⟨_, ?_, CBad_refuse hR f hT h1 (by omega) (k := 2) (by omega)⟩
        rw [h2 R hR, if_pos (by decide), word c f g hT, c_I, if_neg (tb_y (decide_eq_true hw)), show x_rd_refuse_0 (f, g) 2 = _ from c_rdRefuse f g (nI 2), c_V]
        rfl
      · exact base k (by omega) c hc hw
    | succ j ih =>
      intro k hk c hc
      by_cases hw : kW X c = 16
      · have k1 := kW_1 (X := X) (c := c) (by omega)
        have cg := tE_c' (X := X) (c := c) (by omega)
        obtain ⟨o, ok, cl, mo⟩ := ih (k + 1) (by omega) (tE X c) (tE_le hc)
        have nx : ∀ R, rR R → ∀ f g m, CT X c f → f 66 9 = nI 0 → f R 1 = nI m → m + k ≤ c → ∃ f1, x2 R (f, g) (nI k) = x2 R (f1, g) (nI (k + 1)) ∧ COk X R m (tE X c) [] f f1 := by
          intro R hR f g m hT h9 h1 hm
          obtain ⟨f1, a1, a2⟩ := COk_next xo hR f g hc hT h9 h1
          refine ⟨f1, ?_, a2⟩
          rw [h2 R hR, if_neg (by rw [q_6]; exact nI_ge (by omega) (by omega)), word c f g hT, c_I, if_neg (tb_y (decide_eq_true hw)), a1, c_V, nI_1]
        have mx : ∀ f g W t, ME X c (List.replicate k 3 ++ W) (d + 1) t f g → bnd c t (List.replicate k 3 ++ W) → f 17 (d + 1) = nI 0 → ∃ f1 g1, O18 (nI k) (f, g) = O18 (nI (k + 1)) (f1, g1) ∧ ME X (tE X c) (List.replicate (k + 1) 3 ++ W) (d + 1) t f1 g1 ∧ FM t (d + 1) f g f1 g1 ∧ f1 17 (d + 1) = nI 0 ∧ bnd (tE X c) t (List.replicate (k + 1) 3 ++ W) := by
          intro f g W t hM hb h17
          obtain ⟨f1, g1, a1, a2, a3⟩ := O18_not xo f g hM hc hb (k := k) (by omega) hw
          refine ⟨f1, g1, a1, a2, FM_mono a3 (Nat.le_refl _) (by omega), by rw [a3.2.2.1 (d + 1) (by omega)]; exact h17, bnd_of hb ?_ ?_⟩
          · simp only [List.length_append, List.length_replicate]; omega
          · simp only [List.length_append, List.length_replicate]; omega
        cases o with
        | inr z =>
          refine ⟨.inr z, ok, fun R hR f g m hT h9 h1 hm => ?_, fun f g W t hM hW hb h17 => ?_⟩
          · obtain ⟨f1, a1, a2⟩ := nx R hR f g m hT h9 h1 hm
            obtain ⟨f2, b1, b2⟩ := cl R hR f1 g m a2.1 a2.2.1 a2.2.2.2.1 (by omega)
            exact ⟨f2, a1.trans b1, CBad_trans a2 b2⟩
          · obtain ⟨f1, g1, a1, a2, a3, a4, a5⟩ := mx f g W t hM hb h17
            have := mo f1 g1 W t a2 hW a5 a4
            show MBd z.1 z.2 f g (O18 (nI k) (f, g))
            rw [a1]
            exact MBd_of this a3.1 a3.2.2.2.2
        | inl z =>
          obtain ⟨c1, l1⟩ := z
          obtain ⟨ok1, ok2, ok3, ok4⟩ := ok
          have ok2' : l1.length + tE X c ≤ c1 + (k + 1) := ok2
          refine ⟨.inl (c1, l1), ⟨ok1, by show l1.length + c ≤ c1 + k; omega, ok3, ok4⟩, fun R hR f g m hT h9 h1 hm => ?_, fun f g W t hM hW hb h17 => ?_⟩
          · obtain ⟨f1, a1, a2⟩ := nx R hR f g m hT h9 h1 hm
            obtain ⟨f2, b1, b2⟩ := cl R hR f1 g m a2.1 a2.2.1 a2.2.2.2.1 (by omega)
            exact ⟨f2, a1.trans b1, COk_trans (l := []) a2 b2⟩
          · obtain ⟨f1, g1, a1, a2, a3, a4, a5⟩ := mx f g W t hM hb h17
            obtain ⟨f2, g2, le, P, b1, b2, b3, b4, b5, b6, b7⟩ := mo f1 g1 W t a2 hW a5 a4
            rw [if_neg (by omega)] at b6
            refine ⟨f2, g2, le, P, a1.trans b1, b2, b3, b4, b5, ?_, b7⟩
            rw [if_neg (by omega)]
            exact FM_trans a3 (Nat.le_refl _) (Nat.le_refl _) b6
      · exact base k (by omega) c hc hw
  intro c hc
  obtain ⟨o, ok, cl, mo⟩ := key 6 0 rfl c hc
  refine ⟨o, ?_, fun R hR f g m hT h9 h1 hm => ?_, fun xm hV f g W t hM hW hb h17 => ?_⟩
  · cases o with
    | inr z => exact ok
    | inl z => exact ok
  · rw [h0 R hR]
    exact cl R hR f g m hT h9 h1 hm
  · rw [show xm = O4 1 from hV, O4_18 f g hM.2.1]
    exact mo f g W t hM hW hb (h17 (by omega))
