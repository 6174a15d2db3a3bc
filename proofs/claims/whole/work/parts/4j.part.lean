/-! expressions: parts -/
def nuF (X : mu_X) (c lo hi : Nat) : Nat := if tK X c = 2 then (if tLn X c ≤ 4 ∧ lo ≤ tV X c ∧ tV X c ≤ hi then 0 else 2) else 1
theorem tLn_le {X : mu_X} (xo : XOK X) {c : Nat} (hc : c ≤ X.1) : tLn X c ≤ 700 := by
  have := tE_le hc
  have := xo.1
  unfold tLn
  omega
theorem c_number {X : mu_X} (xo : XOK X) (f : Nat → Nat → Int32) (g : Nat → Nat → Int64) {c : Nat} (hc : c ≤ X.1) (h : CT X c f) (h9 : f 66 9 = nI 0) {lo hi : Nat} (hlo : lo < 10000) (hhi : hi < 10000) : (nuF X c lo hi = 0 → ∃ f', x_rd_readNumber_0 (f, g) (nI lo) (nI hi) = rI (nI (tV X c)) (f', g) ∧ CT X (tE X c) f' ∧ CN f f') ∧ (nuF X c lo hi ≠ 0 → x_rd_readNumber_0 (f, g) (nI lo) (nI hi) = rI (f 66 6) (en_u1 (en_u1 f 66 9 (nI (nuF X c lo hi))) 66 10 (f 66 3), g)) := by
  have n7 := xo.1
  have k4 := tK_4 X c
  have ln := tLn_le xo hc
  have eg := tE_ge X c
  have vl := tV_lt X c
  obtain ⟨h0, h3, h4, h5, h6⟩ := id h
  have hsub : f 66 4 - f 66 3 = nI (tLn X c) := by rw [h3, h4, pk_sub eg]; rfl
  obtain ⟨f', e1, e2, e3⟩ := c_next xo f g (tE_le hc) h0 h4
  have go : x_rd_readNumber_0 (f, g) (nI lo) (nI hi) = if tK X c = 2 then (if 4 < tLn X c then en_cV (x_rd_refuse_0 (f, g) 2) (fun σ1 => some (.inl (some (.int (f 66 6))), σ1)) (fun e σ => some (.inr e, σ)) else if f 66 6 < nI lo then en_cV (x_rd_refuse_0 (f, g) 2) (fun σ1 => some (.inl (some (.int (f 66 6))), σ1)) (fun e σ => some (.inr e, σ)) else if f 66 6 ≤ nI hi then rI (f 66 6) (f', g) else en_cV (x_rd_refuse_0 (f, g) 2) (fun σ1 => some (.inl (some (.int (f 66 6))), σ1)) (fun e σ => some (.inr e, σ))) else en_cV (x_rd_refuse_0 (f, g) 1) (fun σ1 => some (.inl (some (.int (f 66 6))), σ1)) (fun e σ => some (.inr e, σ)) := by
    rw [e_rd_readNumber_0, if_pos (by show f 66 9 = 0; rw [h9]; rfl)]
    simp (disch := omega) only [h5, hsub, q_2, q_4, q_eqI, q_ltI, e1, c_V, r_I]
  have ref : ∀ k : Nat, en_cV (x_rd_refuse_0 (f, g) (nI k)) (fun σ1 => some (.inl (some (.int (f 66 6))), σ1)) (fun e σ => some (.inr e, σ)) = rI (f 66 6) (en_u1 (en_u1 f 66 9 (nI k)) 66 10 (f 66 3), g) := fun k => by rw [c_rdRefuse, c_V]; rfl
  have ref2 : en_cV (x_rd_refuse_0 (f, g) 2) (fun σ1 => some (.inl (some (.int (f 66 6))), σ1)) (fun e σ => some (.inr e, σ)) = rI (f 66 6) (en_u1 (en_u1 f 66 9 (nI 2)) 66 10 (f 66 3), g) := ref 2
  have ref1 : en_cV (x_rd_refuse_0 (f, g) 1) (fun σ1 => some (.inl (some (.int (f 66 6))), σ1)) (fun e σ => some (.inr e, σ)) = rI (f 66 6) (en_u1 (en_u1 f 66 9 (nI 1)) 66 10 (f 66 3), g) := ref 1
  rw [ref2, ref1] at go
  unfold nuF
  by_cases k : tK X c = 2
  · rw [if_pos k] at go ⊢
    by_cases l4 : tLn X c ≤ 4
    · have h6' : f 66 6 = nI (tV X c) := by rw [h6, tN_V l4]
      rw [if_neg (by omega), h6'] at go
      simp (disch := omega) only [q_ltI, q_leI] at go
      by_cases a1 : tV X c < lo
      · rw [if_pos a1] at go
        rw [if_neg (by omega), h6']
        exact ⟨fun z => absurd z (by omega), fun _ => go⟩
      · rw [if_neg a1] at go
        by_cases a2 : tV X c ≤ hi
        · rw [if_pos a2] at go
          rw [if_pos ⟨l4, by omega, a2⟩]
          exact ⟨fun _ => ⟨f', go, e2, e3⟩, fun z => absurd rfl z⟩
        · rw [if_neg a2] at go
          rw [if_neg (by omega), h6']
          exact ⟨fun z => absurd z (by omega), fun _ => go⟩
    · rw [if_pos (by omega)] at go
      rw [if_neg (by omega)]
      exact ⟨fun z => absurd z (by omega), fun _ => go⟩
  · rw [if_neg k] at go ⊢
    exact ⟨fun z => absurd z (by omega), fun _ => go⟩
theorem num_ok {v : Nat} (hv : v < 2147483648) : (-8 : Int32) < nI v ∧ (0 : Int32) ≤ nI v := by
  refine ⟨?_, nI_pos' hv⟩
  rw [Int32.lt_iff_toInt_lt, nI_toInt hv]
  have : (-8 : Int32).toInt = -8 := by decide
  omega
theorem vS_ok : ∀ k, k < 7 → (-8 : Int32) < vS k ∧ vS k < 0 ∧ -1 - vS k = nI k ∧ ¬ vS k = 0 := by decide
/-- the model's parts -/
theorem ME_put {X : mu_X} {c e t : Nat} {W : List Nat} (e' : Nat) (f : Nat → Nat → Int32) (g : Nat → Nat → Int64) (h : ME X c W e t f g) (ht : t < 1400) (v : Int32) : ∃ f', x_m_puts_0 (f, g) v = rV (f', g) ∧ ME X c W e (t + 1) f' g ∧ f' 15 t = v ∧ FM t e' f g f' g := by
  obtain ⟨h1, h2, h3, h4, h5, h6, h7⟩ := h
  refine ⟨_, m_puts f g h3 ht v, ⟨MT_of h1 (fun i _ _ => by rw [u1_ne _ _ (by omega), u1_ne _ _ (by omega)]) (fun i => by rw [u1_ne _ _ (by omega), u1_ne _ _ (by omega)]), ?_, u1_at _ _ _ _, ?_, ?_, wts_of _ (fun i hi => ?_) h6, h7⟩, ?_, ⟨fun p i a1 a2 a3 a4 => ?_, fun i _ => ?_, fun i _ => ?_, ?_, fun _ _ => rfl⟩⟩
  · rw [u1_ne _ _ (by omega), u1_ne _ _ (by omega)]; exact h2
  · rw [u1_ne _ _ (by omega), u1_ne _ _ (by omega)]; exact h4
  · rw [u1_ne _ _ (by omega), u1_ne _ _ (by omega)]; exact h5
  · rw [u1_ne _ _ (by omega), u1_ne _ _ (by omega)]
  · rw [u1_ne _ _ (by omega), u1_at]
  · rw [u1_ne _ _ (by omega), u1_ne _ _ (by omega)]
  · rw [u1_ne _ _ (by omega), u1_ne _ _ (by omega)]
  · rw [u1_ne _ _ (by omega), u1_ne _ _ (by omega)]
  · rw [u1_ne _ _ (by omega), u1_ne _ _ (by omega)]
theorem Qm_part {X : mu_X} (xo : XOK X) {c e t : Nat} {W : List Nat} (f : Nat → Nat → Int32) (g : Nat → Nat → Int64) (h : ME X c W e t f g) (hs : sg X c 40 = false) (v : Int32) : Qm v (f, g) = en_cV (x_m_part_0 (f, g)) Lm (fun e σ => some (.inr e, σ)) := by
  unfold Qm
  rw [e_m_operand_75, m_good1 f g h.2.1, c_I, if_neg (by decide), show x_m_isSign_0 (f, g) 40 = _ from m_isSign xo f g h.1 (v := 40) (by omega), c_I, if_pos (tb_n hs), e_m_operand_4, if_pos rfl, cV_assoc]
  rfl
theorem m_part2 {X : mu_X} (xo : XOK X) {c e t : Nat} {W : List Nat} (f : Nat → Nat → Int32) (g : Nat → Nat → Int64) (h : ME X c W e t f g) (hc : c ≤ X.1) (hb : bnd c t W) (a bv : Int32) (b : en_S → Int32) (hbv : ∀ f1, f1 0 23 = f 0 23 → b (f1, g) = bv) : ∃ f' g', en_cV (x_m_puts_0 (f, g) a) (fun σ3 => en_cV (x_m_puts_0 σ3 (b σ3)) (fun σ4 => x_m_part_91 σ4) (fun e σ => some (.inr e, σ))) (fun e σ => some (.inr e, σ)) = rV (f', g') ∧ ME X (tE X c) W e (t + 2) f' g' ∧ f' 15 t = a ∧ f' 15 (t + 1) = bv ∧ FM t (e + 1) f g f' g' := by
  have n7 := xo.1
  have b1 := hb.1
  obtain ⟨f1, a1, a2, a3, a4⟩ := ME_put (e + 1) f g h (by omega) a
  have hv1 : f1 0 23 = f 0 23 := by rw [a2.1.2.2.2.2.2.1, h.1.2.2.2.2.2.1]
  obtain ⟨f2, b1, b2, b3, b4⟩ := ME_put (e + 1) f1 g a2 (by omega) bv
  obtain ⟨f3, g3, c1, c2, c3, _⟩ := ME_go xo (e + 1) f2 g hc b2
  refine ⟨f3, g3, ?_, c2, by rw [c3.2.1 t (by omega), b4.2.1 t (by omega), a3], by rw [c3.2.1 (t + 1) (by omega), b3], FM_trans a4 (by omega) (Nat.le_refl _) (FM_trans (FM_mono b4 (by omega) (Nat.le_refl _)) (Nat.le_refl t) (Nat.le_refl _) (FM_mono c3 (by omega) (Nat.le_refl _)))⟩
  rw [a1, c_V, hbv f1 hv1, b1, c_V, e_m_part_91, m_good1 f2 g b2.2.1, c_I, if_neg (by decide), c1, c_V]
  rfl
theorem m_part2B {X : mu_X} (xo : XOK X) {c e t k : Nat} {W : List Nat} (f : Nat → Nat → Int32) (g : Nat → Nat → Int64) (h : ME X c W e t f g) (hc : c ≤ X.1) (hb : bnd c t W) (hk : 1 ≤ k ∧ k ≤ 5) (a : Int32) (b : en_S → Int32) : MBd k (tS X c) f g (en_cV (en_cV (x_m_wrong_0 (f, g) (nI k)) (fun σ5 => en_cV (x_m_puts_0 σ5 a) (fun σ3 => en_cV (x_m_puts_0 σ3 (b σ3)) (fun σ4 => x_m_part_91 σ4) (fun e σ => some (.inr e, σ))) (fun e σ => some (.inr e, σ))) (fun e σ => some (.inr e, σ))) Lm (fun e σ => some (.inr e, σ))) := by
  have n7 := xo.1
  have b1 := hb.1
  have h33 : f 0 33 = nI t := h.2.2.1
  rw [m_wrong f g h.2.1, c_V, m_puts (en_u1 (en_u1 f 0 15 (nI k)) 0 16 (f 0 21)) g (t := t) (by rw [u1_ne _ _ (by omega), u1_ne _ _ (by omega)]; exact h33) (by omega) a, c_V, m_puts (en_u1 (en_u1 (en_u1 (en_u1 f 0 15 (nI k)) 0 16 (f 0 21)) 15 t a) 0 33 (nI (t + 1))) g (t := t + 1) (u1_at _ _ _ _) (by omega), c_V, e_m_part_91, m_good0 _ g hk (by rw [u1_ne _ _ (by omega), u1_ne _ _ (by omega), u1_ne _ _ (by omega), u1_ne _ _ (by omega), u1_ne _ _ (by omega), u1_at]), c_I, if_pos (by decide)]
  exact m_fault2 xo f g h hc hb hk a _
/-- parts: numbers, values, parentheses -/
theorem lv_part {X : mu_X} (xo : XOK X) {d B : Nat} (hd : d ≤ 5) (hB : 1 ≤ B) {xE : Nat → en_S → Option en_O} {x0 : Nat → en_S → Option en_O}
    (e0 : ∀ R, rR R → ∀ σ : en_S, x0 R σ = en_cI (x_rd_isSign_0 σ 40) (fun r2 σ1 =>
      if r2 = 0 then
        if σ1.1 66 5 = 2 then
          en_cI (x_rd_readNumber_0 σ1 0 9999) (fun r4 σ3 => en_cV (xAdd R σ3 r4) (fun σ5 => some (.inl none, σ5)) (fun e σ => some (.inr e, σ))) (fun e σ => some (.inr e, σ))
        else
          if σ1.1 66 5 = 1 then
            en_cI (x_rd_valueStep_0 σ1) (fun r7 σ6 =>
              if r7 = 0 then
                en_cV (x_rd_refuse_0 σ6 3) (fun σ8 => some (.inl none, σ8)) (fun e σ => some (.inr e, σ))
              else
                en_cI (x_rd_valueStep_0 σ6) (fun r10 σ9 => en_cV (xAdd R σ9 r10) (fun σ11 => en_cV (x_rd_nextToken_0 σ11) (fun σ12 => some (.inl none, σ12)) (fun e σ => some (.inr e, σ))) (fun e σ => some (.inr e, σ))) (fun e σ => some (.inr e, σ))) (fun e σ => some (.inr e, σ))
          else
            en_cV (x_rd_refuse_0 σ1 1) (fun σ13 => some (.inl none, σ13)) (fun e σ => some (.inr e, σ))
      else
        en_cV (x_rd_nextToken_0 σ1) (fun σ14 => en_cV (xE R σ14) (fun σ15 => en_cV (x_rd_readSign_0 σ15 41) (fun σ16 => some (.inl none, σ16)) (fun e σ => some (.inr e, σ))) (fun e σ => some (.inr e, σ))) (fun e σ => some (.inr e, σ))) (fun e σ => some (.inr e, σ)))
    (hE : LvE X (d + 1) B xE) : Lv X 7 d B x0 isQ := by
  have n7 := xo.1
  intro c hc
  have k4 := tK_4 X c
  have c7 := tS7 xo hc
  have fol7 : ∀ c, fol X 7 c := fun c => ⟨fun h => absurd h (by omega), fun h => absurd h (by omega), fun h => absurd h (by omega), fun h => absurd h (by omega)⟩
  cases s40 : sg X c 40 with
  | true =>
    have k3 := (sg_kW s40).2.1
    have ce := tE_le hc
    have cg := tE_c' (X := X) (c := c) (by omega)
    have sig : ∀ f g, CT X c f → x_rd_isSign_0 (f, g) 40 = rI (tb true) (f, g) := fun f g hT => by rw [← s40]; exact c_isSign xo f g hT (v := 40) (by omega)
    obtain ⟨o, ok, cl, mo⟩ := hE (tE X c) ce
    have bnd1 : ∀ t W, bnd c t W → bnd (tE X c) t (14 :: W) := fun t W hb => bnd_of hb (by simp only [List.length_cons]; omega) (by simp only [List.length_cons]; omega)
    cases o with
    | inr z =>
      refine ⟨.inr z, ok, fun R hR f g m hT h9 h1 hm => ?_, fun xm hV f g W t hM hW hb _ => ?_⟩
      · obtain ⟨f1, a1, a2⟩ := COk_next xo hR f g hc hT h9 h1
        obtain ⟨f2, b1, b2⟩ := cl R hR f1 g m a2.1 a2.2.1 a2.2.2.2.1 (by omega)
        refine ⟨f2, ?_, CBad_trans a2 b2⟩
        rw [e0 R hR, sig f g hT, c_I, if_neg (by decide), a1, c_V, b1, c_V, e_rd_readSign_0, if_neg (show ¬ f2 66 9 = 0 from bad9 b2)]
        rfl
      · obtain ⟨v, hv⟩ := hV
        obtain ⟨f1, g1, a1, a2, a3⟩ := m_open xo f g hM hc hb s40 v
        have := mo f1 g1 (14 :: W) t a2 rfl (bnd1 t W hb)
        show MBd z.1 z.2 f g (xm (f, g))
        rw [hv, a1]
        exact MBd_of this a3.1 a3.2.2.2.2
    | inl z =>
      obtain ⟨c1, l⟩ := z
      obtain ⟨ok1, ok2, ok3, ok4⟩ := ok
      have ok1' : c1 ≤ X.1 := ok1
      have ok2' : l.length + tE X c ≤ c1 := ok2
      have cls : ∀ R, rR R → ∀ f g m, CT X c f → f 66 9 = nI 0 → f R 1 = nI m → m ≤ c → ∃ f2, x0 R (f, g) = en_cV (x_rd_readSign_0 (f2, g) 41) (fun σ16 => some (.inl none, σ16)) (fun e σ => some (.inr e, σ)) ∧ COk X R m c1 l f f2 := by
        intro R hR f g m hT h9 h1 hm
        obtain ⟨f1, a1, a2⟩ := COk_next xo hR f g hc hT h9 h1
        obtain ⟨f2, b1, b2⟩ := cl R hR f1 g m a2.1 a2.2.1 a2.2.2.2.1 (by omega)
        refine ⟨f2, ?_, COk_trans (l := []) a2 b2⟩
        rw [e0 R hR, sig f g hT, c_I, if_neg (by decide), a1, c_V, b1, c_V]
      have mod : ∀ v f g W t, ME X c W (d + 1) t f g → bnd c t W → ∃ f2 g2 le P, Qm v (f, g) = Lm (f2, g2) ∧ l = le ++ P.map aSt ∧ PK 1 P ∧ ME X c1 (P ++ 14 :: W) (d + 1 + 1) (t + eL le) f2 g2 ∧ Em f2 t le ∧ FM t (d + 1 + 1) f g f2 g2 ∧ (sg X c1 60 = true ∨ sg X c1 61 = true → f2 17 (d + 1 + 1) = nI 1) ∧ bnd c1 (t + eL le) (P ++ 14 :: W) := by
        intro v f g W t hM hb
        obtain ⟨f1, g1, a1, a2, a3⟩ := m_open xo f g hM hc hb s40 v
        obtain ⟨f2, g2, le, P, b1, b2, b3, b4, b5, b6, b7⟩ := mo f1 g1 (14 :: W) t a2 rfl (bnd1 t W hb)
        have b2' : l = le ++ P.map aSt := b2
        have el2 := eL_le l
        have e3 : eL l = eL le + P.length := by rw [b2', eL_app, eL_ops P b3]
        have e4 : l.length = le.length + P.length := by rw [b2', List.length_append, List.length_map]
        refine ⟨f2, g2, le, P, a1.trans b1, b2', b3, b4, b5, FM_trans a3 (Nat.le_refl _) (Nat.le_refl _) b6, b7 (by omega), bnd_of (bnd1 t W hb) ?_ ?_⟩
        · simp only [List.length_append, List.length_cons]; omega
        · simp only [List.length_append, List.length_cons]; omega
      cases s41 : sg X c1 41 with
      | true =>
        have k3' := (sg_kW s41).2.1
        have cg1 := tE_c' (X := X) (c := c1) (by omega)
        refine ⟨.inl (tE X c1, l), ⟨tE_le ok1, by show l.length + c ≤ tE X c1; omega, ok3, fol7 _⟩, fun R hR f g m hT h9 h1 hm => ?_, fun xm hV f g W t hM hW hb _ => ?_⟩
        · obtain ⟨f2, a1, a2⟩ := cls R hR f g m hT h9 h1 hm
          obtain ⟨f3, b1, b2⟩ := COk_next xo hR f2 g ok1 a2.1 a2.2.1 a2.2.2.2.1
          refine ⟨f3, ?_, by have := COk_trans a2 b2; rw [List.append_nil] at this; exact this⟩
          rw [a1, e_rd_readSign_0, if_pos (show f2 66 9 = 0 from a2.2.1), show x_rd_isSign_0 (f2, g) 41 = _ from c_isSign xo f2 g a2.1 (v := 41) (by omega), c_I, s41, if_neg (by decide), b1, c_V]
          rfl
        · obtain ⟨v, hv⟩ := hV
          obtain ⟨f2, g2, le, P, a1, a2, a3, a4, a5, a6, a7, a8⟩ := mod v f g W t hM hb
          obtain ⟨f3, g3, b1, b2, b3, b4⟩ := m_close xo f2 g2 a4 ok1 a8 (PK_mono a3 (by omega)) s41
          have et : t + eL l = t + eL le + eL (P.map aSt) := by rw [a2, eL_app]; omega
          refine ⟨f3, g3, l, [], by rw [hv]; exact a1.trans b1, by rw [List.map_nil, List.append_nil], PK_nil 7, ?_, ?_, FM_trans a6 (Nat.le_add_right _ _) (Nat.le_refl _) b4, fun h => absurd h (by omega)⟩
          · rw [et]; exact b2
          · rw [a2]
            exact (Em_app _ _ t).mpr ⟨Em_of _ t (fun i i1 i2 => b4.2.1 i i2) a5, b3⟩
      | false =>
        refine ⟨.inr (1, tS X c1), ⟨by show 1 ≤ 1 ∧ 1 ≤ 5; omega, tS7 xo ok1⟩, fun R hR f g m hT h9 h1 hm => ?_, fun xm hV f g W t hM hW hb _ => ?_⟩
        · obtain ⟨f2, a1, a2⟩ := cls R hR f g m hT h9 h1 hm
          refine ⟨_, ?_, CBad_trans a2 (CBad_refuse hR f2 a2.1 a2.2.2.2.1 (by omega) (k := 1) (by omega))⟩
          rw [a1, e_rd_readSign_0, if_pos (show f2 66 9 = 0 from a2.2.1), show x_rd_isSign_0 (f2, g) 41 = _ from c_isSign xo f2 g a2.1 (v := 41) (by omega), c_I, s41, if_pos (by decide), show x_rd_refuse_0 (f2, g) 1 = _ from c_rdRefuse f2 g (nI 1), c_V]
          rfl
        · obtain ⟨v, hv⟩ := hV
          obtain ⟨f2, g2, le, P, a1, a2, a3, a4, a5, a6, a7, a8⟩ := mod v f g W t hM hb
          have h35 : f2 0 35 = nI (d + 1 + 1) := a4.2.2.2.2.1
          have bb := a8.2
          have sp := m_stop xo f2 g2 a4 ok1 (by omega) (by omega) ok4 a7 (fun h => by rw [s41] at h; cases h)
          show MBd 1 (tS X c1) f g (xm (f, g))
          rw [hv, a1, sp, e_m_expression_29, if_pos rfl, m_good1 f2 g2 a4.2.1, c_I, if_neg (by decide), if_neg (by show ¬ f2 0 35 ≤ 1; rw [h35, q_1]; exact nI_ge (by omega) (by omega)), show x_m_wrong_0 (f2, g2) 1 = _ from m_wrong f2 g2 a4.2.1 (nI 1), c_V]
          obtain ⟨q1, q2, q3, q4, q5, q6, q7⟩ := a4
          obtain ⟨f', r1, r2, r3, r4⟩ := m_345 (en_u1 (en_u1 f2 0 15 (nI 1)) 0 16 (f2 0 21)) g2 (t := t + eL le) (P ++ 14 :: W) (by rw [u1_ne _ _ (by omega), u1_ne _ _ (by omega)]; exact q3) (by rw [u1_ne _ _ (by omega), u1_ne _ _ (by omega)]; exact q4) (wts_of _ (fun i _ => by rw [u1_ne _ _ (by omega), u1_ne _ _ (by omega)]) q6) q7 (by have := a8.1; omega) (by omega)
          exact ⟨f', g2, r1, by rw [r2, u1_ne _ _ (by omega), u1_at], by rw [r3, u1_at]; exact q1.2.2.2.1, MX_trans a6.1 (MX_trans (fun p i b1 b2 b3 b4 => by rw [u1_ne _ _ (by omega), u1_ne _ _ (by omega)]) r4), a6.2.2.2.2⟩
  | false =>
    have sig : ∀ f g, CT X c f → x_rd_isSign_0 (f, g) 40 = rI (tb false) (f, g) := fun f g hT => by rw [← s40]; exact c_isSign xo f g hT (v := 40) (by omega)
    have cut : ∀ R, rR R → ∀ f g, CT X c f → x0 R (f, g) = if f 66 5 = 2 then en_cI (x_rd_readNumber_0 (f, g) 0 9999) (fun r4 σ3 => en_cV (xAdd R σ3 r4) (fun σ5 => some (.inl none, σ5)) (fun e σ => some (.inr e, σ))) (fun e σ => some (.inr e, σ)) else if f 66 5 = 1 then en_cI (x_rd_valueStep_0 (f, g)) (fun r7 σ6 => if r7 = 0 then en_cV (x_rd_refuse_0 σ6 3) (fun σ8 => some (.inl none, σ8)) (fun e σ => some (.inr e, σ)) else en_cI (x_rd_valueStep_0 σ6) (fun r10 σ9 => en_cV (xAdd R σ9 r10) (fun σ11 => en_cV (x_rd_nextToken_0 σ11) (fun σ12 => some (.inl none, σ12)) (fun e σ => some (.inr e, σ))) (fun e σ => some (.inr e, σ))) (fun e σ => some (.inr e, σ))) (fun e σ => some (.inr e, σ)) else en_cV (x_rd_refuse_0 (f, g) 1) (fun σ13 => some (.inl none, σ13)) (fun e σ => some (.inr e, σ)) := by
      intro R hR f g hT
      rw [e0 R hR, sig f g hT, c_I, if_pos (by decide)]
    have h5 : ∀ f, CT X c f → f 66 5 = nI (tK X c) := fun f hT => hT.2.2.2.1
    have vl := tV_lt X c
    have d1 : ∀ s : Int32, -8 < s → ∀ rest n, n + B ≤ 48 → sDp rest (n + 1) → sDp ([s] ++ rest) n := by
      intro s hs rest n h1 h2
      show sDp (s :: rest) n
      rw [sDp, if_pos hs]
      exact ⟨by omega, hs, h2⟩
    by_cases k2 : tK X c = 2
    · have hs := tK_pos (X := X) (c := c) (by omega)
      have sge := tS_ge X c
      have cg := tE_c' (X := X) (c := c) (by omega)
      have h20 : ∀ f g W t, ME X c W (d + 1) t f g → f 0 20 = 2 := fun f g W t hM => by rw [hM.1.2.2.1, k2]; rfl
      by_cases l4 : tLn X c ≤ 4
      · have nu : nuF X c 0 9999 = 0 := by unfold nuF; rw [if_pos k2, if_pos ⟨l4, by omega, by omega⟩]
        have no := num_ok (v := tV X c) (by omega)
        refine ⟨.inl (tE X c, [nI (tV X c)]), ⟨tE_le hc, by show 1 + c ≤ tE X c; omega, d1 _ no.1, fol7 _⟩, fun R hR f g m hT h9 h1 hm => ?_, fun xm hV f g W t hM hW hb _ => ?_⟩
        · obtain ⟨f1, a1, a2, a3⟩ := (c_number xo f g hc hT h9 (lo := 0) (hi := 9999) (by omega) (by omega)).1 nu
          have C1 : COk X R m (tE X c) [] f f1 := by
            have hne : R ≠ 66 := by rcases hR with h | h <;> omega
            have hne1 : R + 1 ≠ 66 := by rcases hR with h | h <;> omega
            exact ⟨a2, by rw [a3 66 9 (by omega)]; exact h9, a3 66 10 (by omega), by rw [a3 R 1 (by omega)]; exact h1, trivial, fun i _ => a3 (R + 1) i (by omega), CX_CN a3⟩
          obtain ⟨f2, b1, b2⟩ := c_add hR f1 g C1.1 C1.2.1 C1.2.2.2.1 (by show m + 0 < 700; omega) (nI (tV X c))
          refine ⟨f2, ?_, COk_trans C1 b2⟩
          rw [cut R hR f g hT, if_pos (by rw [h5 f hT, k2]; rfl), show x_rd_readNumber_0 (f, g) 0 9999 = _ from a1, c_I, b1, c_V]
          rfl
        · obtain ⟨v, hv⟩ := hV
          obtain ⟨f1, g1, a1, a2, a3, a4, a5⟩ := m_part2 xo f g hM hc hb 1 (nI (tV X c)) (fun σ => σ.1 0 23) (fun f1 h => h.trans hM.1.2.2.2.2.2.1)
          refine ⟨f1, g1, [nI (tV X c)], [], ?_, rfl, PK_nil 7, ?_, ?_, a5, fun h => absurd h (by omega)⟩
          · rw [hv, Qm_part xo f g hM s40 v, e_m_part_0, m_good1 f g hM.2.1, c_I, if_neg (by decide), if_pos (h20 f g W t hM), if_pos (by show f 0 22 ≤ 4; rw [hM.1.2.2.2.2.1, q_4]; exact nI_le l4 (by omega)), a1, c_V]
          · have : eL [nI (tV X c)] = 2 := by show (if -8 < nI (tV X c) then 2 else 1) + 0 = 2; rw [if_pos no.1]
            rw [this]; exact a2
          · show if -8 < nI (tV X c) then _ else _
            rw [if_pos no.1]
            exact ⟨Or.inl ⟨no.2, a3, a4⟩, trivial⟩
      · have nu : nuF X c 0 9999 = 2 := by unfold nuF; rw [if_pos k2, if_neg (fun z => l4 z.1)]
        refine ⟨.inr (2, tS X c), ⟨by show 1 ≤ 2 ∧ 2 ≤ 5; omega, c7⟩, fun R hR f g m hT h9 h1 hm => ?_, fun xm hV f g W t hM hW hb _ => ?_⟩
        · have a1 := (c_number xo f g hc hT h9 (lo := 0) (hi := 9999) (by omega) (by omega)).2 (by omega)
          rw [nu] at a1
          obtain ⟨f2, b1, b2⟩ := c_addB hR f _ g (CBad_refuse hR f hT h1 (by omega) (k := 2) (by omega)) (f 66 6)
          refine ⟨f2, ?_, b2⟩
          rw [cut R hR f g hT, if_pos (by rw [h5 f hT, k2]; rfl), show x_rd_readNumber_0 (f, g) 0 9999 = _ from a1, c_I, b1, c_V]
          rfl
        · obtain ⟨v, hv⟩ := hV
          show MBd 2 (tS X c) f g (xm (f, g))
          have ln := tLn_le xo hc
          rw [hv, Qm_part xo f g hM s40 v, e_m_part_0, m_good1 f g hM.2.1, c_I, if_neg (by decide), if_pos (h20 f g W t hM), if_neg (by show ¬ f 0 22 ≤ 4; rw [hM.1.2.2.2.2.1, q_4]; exact nI_ge (by omega) (by omega))]
          exact m_part2B xo f g hM hc hb (k := 2) (by omega) 1 (fun σ => σ.1 0 23)
    · have n20 : ∀ f g W t, ME X c W (d + 1) t f g → ¬ f 0 20 = 2 := fun f g W t hM => by rw [hM.1.2.2.1, q_2, q_eqI (by omega) (by omega)]; exact k2
      have n5 : ∀ f, CT X c f → ¬ f 66 5 = 2 := fun f hT => by rw [h5 f hT, q_2, q_eqI (by omega) (by omega)]; exact k2
      by_cases k1 : tK X c = 1
      · have hs := tK_pos (X := X) (c := c) (by omega)
        have sge := tS_ge X c
        have cg := tE_c' (X := X) (c := c) (by omega)
        have y20 : ∀ f g W t, ME X c W (d + 1) t f g → f 0 20 = 1 := fun f g W t hM => by rw [hM.1.2.2.1, k1]; rfl
        have y5 : ∀ f, CT X c f → f 66 5 = 1 := fun f hT => by rw [h5 f hT, k1]; rfl
        by_cases kv : kW X c < 7
        · obtain ⟨v1, v2, v3, v4⟩ := vS_ok (kW X c) kv
          refine ⟨.inl (tE X c, [vS (kW X c)]), ⟨tE_le hc, by show 1 + c ≤ tE X c; omega, d1 _ v1, fol7 _⟩, fun R hR f g m hT h9 h1 hm => ?_, fun xm hV f g W t hM hW hb _ => ?_⟩
          · obtain ⟨f1, a1, a2⟩ := c_add hR f g hT h9 h1 (by omega) (vS (kW X c))
            obtain ⟨f2, b1, b2⟩ := COk_next xo hR f1 g hc a2.1 a2.2.1 a2.2.2.2.1
            refine ⟨f2, ?_, COk_trans a2 b2⟩
            rw [cut R hR f g hT, if_neg (n5 f hT), if_pos (y5 f hT), c_value xo f g hT, c_I, if_neg v4, c_value xo f g hT, c_I, a1, c_V, b1, c_V]
            rfl
          · obtain ⟨v, hv⟩ := hV
            obtain ⟨f1, g1, a1, a2, a3, a4, a5⟩ := m_part2 xo f g hM hc hb 2 (nI (kW X c)) (fun _ => nI (kW X c)) (fun _ _ => rfl)
            have kI' : kI (kW X c) = nI (kW X c) := if_pos (by omega)
            refine ⟨f1, g1, [vS (kW X c)], [], ?_, rfl, PK_nil 7, ?_, ?_, a5, fun h => absurd h (by omega)⟩
            · rw [hv, Qm_part xo f g hM s40 v, e_m_part_0, m_good1 f g hM.2.1, c_I, if_neg (by decide), if_neg (n20 f g W t hM), if_pos (y20 f g W t hM), m_known xo f g hM.1 hc, c_I, kI', if_neg (nI_pos (by omega)), if_pos (by rw [q_6]; exact nI_le (by omega) (by omega)), e_m_part_73, a1, c_V]
            · have : eL [vS (kW X c)] = 2 := by show (if -8 < vS (kW X c) then 2 else 1) + 0 = 2; rw [if_pos v1]
              rw [this]; exact a2
            · show if -8 < vS (kW X c) then _ else _
              rw [if_pos v1]
              exact ⟨Or.inr ⟨v2, a3, by rw [v3]; exact a4⟩, trivial⟩
        · have vz : vS (kW X c) = 0 := if_neg kv
          refine ⟨.inr (3, tS X c), ⟨by show 1 ≤ 3 ∧ 3 ≤ 5; omega, c7⟩, fun R hR f g m hT h9 h1 hm => ?_, fun xm hV f g W t hM hW hb _ => ?_⟩
          · refine ⟨_, ?_, CBad_refuse hR f hT h1 (by omega) (k := 3) (by omega)⟩
            rw [cut R hR f g hT, if_neg (n5 f hT), if_pos (y5 f hT), c_value xo f g hT, c_I, if_pos vz, show x_rd_refuse_0 (f, g) 3 = _ from c_rdRefuse f g (nI 3), c_V]
            rfl
          · obtain ⟨v, hv⟩ := hV
            show MBd 3 (tS X c) f g (xm (f, g))
            have r := m_part2B xo f g hM hc hb (k := 3) (by omega) 2 (fun _ => kI (kW X c))
            have r' : MBd 3 (tS X c) f g (en_cV (en_cV (x_m_wrong_0 (f, g) 3) (fun σ10 => x_m_part_73 σ10 (kI (kW X c))) (fun e σ => some (.inr e, σ))) Lm (fun e σ => some (.inr e, σ))) := by
              simp only [e_m_part_73]
              exact r
            rw [hv, Qm_part xo f g hM s40 v, e_m_part_0, m_good1 f g hM.2.1, c_I, if_neg (by decide), if_neg (n20 f g W t hM), if_pos (y20 f g W t hM), m_known xo f g hM.1 hc, c_I]
            by_cases kk : kW X c < 17
            · rw [if_neg (by unfold kI; rw [if_pos kk]; exact nI_pos (by omega)), if_neg (by unfold kI; rw [if_pos kk, q_6]; exact nI_ge (by omega) (by omega))]
              exact r'
            · rw [if_pos (by unfold kI; rw [if_neg kk]; decide)]
              exact r'
      · have m20 : ∀ f g W t, ME X c W (d + 1) t f g → ¬ f 0 20 = 1 := fun f g W t hM => by rw [hM.1.2.2.1, q_1, q_eqI (by omega) (by omega)]; exact k1
        have m5 : ∀ f, CT X c f → ¬ f 66 5 = 1 := fun f hT => by rw [h5 f hT, q_1, q_eqI (by omega) (by omega)]; exact k1
        refine ⟨.inr (1, tS X c), ⟨by show 1 ≤ 1 ∧ 1 ≤ 5; omega, c7⟩, fun R hR f g m hT h9 h1 hm => ?_, fun xm hV f g W t hM hW hb _ => ?_⟩
        · refine ⟨_, ?_, CBad_refuse hR f hT h1 (by omega) (k := 1) (by omega)⟩
          rw [cut R hR f g hT, if_neg (n5 f hT), if_neg (m5 f hT), show x_rd_refuse_0 (f, g) 1 = _ from c_rdRefuse f g (nI 1), c_V]
          rfl
        · obtain ⟨v, hv⟩ := hV
          show MBd 1 (tS X c) f g (xm (f, g))
          rw [hv, Qm_part xo f g hM s40 v, e_m_part_0, m_good1 f g hM.2.1, c_I, if_neg (by decide), if_neg (n20 f g W t hM), if_neg (m20 f g W t hM), show x_m_wrong_0 (f, g) 1 = _ from m_wrong f g hM.2.1 (nI 1), c_V, e_m_part_91, m_good0 _ g (k := 1) (by omega) (by rw [u1_ne _ _ (by omega), u1_at]), c_I, if_pos (by decide)]
          exact m_fault xo f g hM hc hb (by omega)
