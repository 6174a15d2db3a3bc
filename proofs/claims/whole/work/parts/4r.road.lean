/-! lines: roads -/
def updN (f : Nat → Nat) (i v : Nat) : Nat → Nat := fun j => if j = i then v else f j
theorem updN_at (f : Nat → Nat) (i v : Nat) : updN f i v i = v := if_pos rfl
theorem updN_ne (f : Nat → Nat) {i j : Nat} (v : Nat) (h : j ≠ i) : updN f i v j = f j := if_neg h
theorem c_addRoad (f : Nat → Nat → Int32) (g : Nat → Nat → Int64) {r : Nat} (h : f 50 1 = nI r) (hr : r < 14) (v1 v2 v3 : Int32) : x_ld_addRoad_p50_0 (f, g) v1 v2 v3 = rV (en_u1 (en_u1 (en_u1 (en_u1 f 51 r v1) 52 r v2) 53 r v3) 50 1 (nI (r + 1)), g) := by
  rw [e_ld_addRoad_p50_0, if_neg (show ¬ (14 : Int32) ≤ f 50 1 by rw [h, q_14]; exact nI_ge hr (by omega))]
  simp (disch := omega) only [h, q_in, q_clamp, if_true, nI_1]
  rfl
def grow (G : mu_Gd) (a b v : Nat) : mu_Gd := (G.1, G.2.1 + 1, updN G.2.2.1 G.2.1 a, updN G.2.2.2.1 G.2.1 b, updN G.2.2.2.2 G.2.1 v)
theorem grow_lt {G : mu_Gd} {a b v i x y : Nat} (h : i < G.2.1) : gE (grow G a b v) i x y ↔ gE G i x y := by
  unfold gE grow
  dsimp only
  rw [updN_ne _ _ (by omega), updN_ne _ _ (by omega)]
theorem grow_at {G : mu_Gd} {a b v x y : Nat} : gE (grow G a b v) G.2.1 x y ↔ (a = x ∧ b = y) ∨ (a = y ∧ b = x) := by
  unfold gE grow
  dsimp only
  rw [updN_at, updN_at]
theorem grow_OK {G : mu_Gd} {a b v : Nat} (go : gOK G) (hr : G.2.1 < 14) (ha : a < G.1) (hb : b < G.1) (hab : a ≠ b) (hv : v ≤ 9) (hn : ¬ ∃ i, i < G.2.1 ∧ gE G i a b) : gOK (grow G a b v) := by
  obtain ⟨o1, o2, o3, o4, o5⟩ := go
  refine ⟨o1, o2, by show G.2.1 + 1 ≤ 14; omega, fun i hi => ?_, fun i j hi hj h => ?_⟩
  · show updN G.2.2.1 G.2.1 a i < G.1 ∧ updN G.2.2.2.1 G.2.1 b i < G.1 ∧ updN G.2.2.1 G.2.1 a i ≠ updN G.2.2.2.1 G.2.1 b i ∧ updN G.2.2.2.2 G.2.1 v i ≤ 9
    have hi' : i < G.2.1 + 1 := hi
    by_cases c : i = G.2.1
    · rw [c, updN_at, updN_at, updN_at]; exact ⟨ha, hb, hab, hv⟩
    · rw [updN_ne _ _ c, updN_ne _ _ c, updN_ne _ _ c]; exact o4 i (by omega)
  · have hi' : i < G.2.1 + 1 := hi
    have hj' : j < G.2.1 + 1 := hj
    have h' : gE (grow G a b v) i (updN G.2.2.1 G.2.1 a j) (updN G.2.2.2.1 G.2.1 b j) := h
    by_cases cj : j = G.2.1
    · by_cases ci : i = G.2.1
      · omega
      · rw [cj, updN_at, updN_at, grow_lt (by omega)] at h'
        exact absurd ⟨i, by omega, h'⟩ hn
    · rw [updN_ne _ _ cj, updN_ne _ _ cj] at h'
      by_cases ci : i = G.2.1
      · rw [ci, grow_at] at h'
        refine absurd ⟨j, by omega, ?_⟩ hn
        unfold gE
        omega
      · rw [grow_lt (by omega)] at h'
        exact o5 i j (by omega) (by omega) h'
theorem grow_MG9 {G : mu_Gd} {a b v : Nat} {f : Nat → Nat → Int32} (go : gOK G) (ha : a < 8) (hb : b < 8) (hab : a ≠ b) (hn : ¬ ∃ i, i < G.2.1 ∧ gE G i a b) (h : MG9 G f) : MG9 (grow G a b v) (en_u1 (en_u1 f 9 (8 * a + b) (nI v)) 9 (8 * b + a) (nI v)) := by
  obtain ⟨o1, o2, o3, o4, o5⟩ := go
  refine ⟨fun i hi => ?_, fun x y hx hy => ?_⟩
  · have hi' : i < G.2.1 + 1 := hi
    show en_u1 (en_u1 f 9 (8 * a + b) (nI v)) 9 (8 * b + a) (nI v) 9 (8 * updN G.2.2.1 G.2.1 a i + updN G.2.2.2.1 G.2.1 b i) = nI (updN G.2.2.2.2 G.2.1 v i) ∧ en_u1 (en_u1 f 9 (8 * a + b) (nI v)) 9 (8 * b + a) (nI v) 9 (8 * updN G.2.2.2.1 G.2.1 b i + updN G.2.2.1 G.2.1 a i) = nI (updN G.2.2.2.2 G.2.1 v i)
    by_cases c : i = G.2.1
    · rw [c, updN_at, updN_at, updN_at]
      exact ⟨by rw [u1_ne _ _ (by omega), u1_at], u1_at _ _ _ _⟩
    · rw [updN_ne _ _ c, updN_ne _ _ c, updN_ne _ _ c]
      have p := o4 i (by omega)
      have q : ¬ gE G i a b := fun z => hn ⟨i, by omega, z⟩
      unfold gE at q
      have r := h.1 i (by omega)
      exact ⟨by rw [u1_ne _ _ (by omega), u1_ne _ _ (by omega)]; exact r.1, by rw [u1_ne _ _ (by omega), u1_ne _ _ (by omega)]; exact r.2⟩
  · by_cases c1 : x = a ∧ y = b
    · exact Or.inr ⟨G.2.1, by show G.2.1 < G.2.1 + 1; omega, grow_at.mpr (Or.inl ⟨c1.1.symm, c1.2.symm⟩)⟩
    · by_cases c2 : x = b ∧ y = a
      · exact Or.inr ⟨G.2.1, by show G.2.1 < G.2.1 + 1; omega, grow_at.mpr (Or.inr ⟨c2.2.symm, c2.1.symm⟩)⟩
      · rw [u1_ne _ _ (by omega), u1_ne _ _ (by omega)]
        rcases h.2 x y hx hy with k | ⟨i, i1, i2⟩
        · exact Or.inl k
        · exact Or.inr ⟨i, by show i < G.2.1 + 1; omega, (grow_lt i1).mpr i2⟩
theorem MG9_no {G : mu_Gd} {a b : Nat} {f : Nat → Nat → Int32} (go : gOK G) (ha : a < 8) (hb : b < 8) (h : MG9 G f) : f 9 (8 * a + b) = nN ↔ ¬ ∃ i, i < G.2.1 ∧ gE G i a b := by
  constructor
  · intro e ⟨i, i1, i2⟩
    have p := go.2.2.2.1 i i1
    have r := h.1 i i1
    have hne : ¬ nI (G.2.2.2.2 i) = nN := by rw [q_nNe (by omega)]; exact id
    rcases i2 with ⟨x1, x2⟩ | ⟨x1, x2⟩
    · rw [x1, x2] at r; exact hne (r.1.symm.trans e)
    · rw [x1, x2] at r; exact hne (r.2.symm.trans e)
  · intro hn
    rcases h.2 a b ha hb with k | k
    · exact k
    · exact absurd k hn
theorem ln_road {X : mu_X} (xo : XOK X) {c : Nat} {D : mu_Dr} (ok : DOK D) (hc : c ≤ X.1) (hk : kW X c = 8) : Pl X c D := by
  have n7 := xo.1
  obtain ⟨lo, go, to, wo, ho, an, tn⟩ := id ok
  have k1 := kW_1 (X := X) (c := c) (by omega)
  have cg := tE_c' (X := X) (c := c) (by omega)
  have ce := tE_le hc
  have g8 := go.2.1
  have cls : ∀ f g, CS X c D f → x_rd_readLine_0 (f, g) = en_cV (x_rd_readRoad_0 (f, g)) (fun σ => some (.inl none, σ)) (fun e σ => some (.inr e, σ)) := fun f g h => by rw [c_line xo f g h.1, hk]; rfl
  by_cases full : (oGd D).2.1 < 14
  · -- the class, up to the first town; the model likewise
    obtain ⟨rest, hrest⟩ : ∃ rest : Int32 → en_S → Option en_O, rest = fun r3 σ2 => en_cI (x_rd_readName_0 σ2 (σ2.1 50 0) r3) (fun r5 σ4 => en_cI (x_rd_readNumber_0 σ4 0 9) (fun r7 σ6 => en_cV (x_ld_addRoad_p50_0 σ6 r3 r5 r7) (fun σ8 => some (.inl none, σ8)) (fun e σ => some (.inr e, σ))) (fun e σ => some (.inr e, σ))) (fun e σ => some (.inr e, σ)) := ⟨_, rfl⟩
    have cls0 : ∀ f g, CS X c D f → ∃ f1, x_rd_readRoad_0 (f, g) = en_cI (x_rd_readName_0 (f1, g) (nI (oGd D).1) (-1)) (fun r3 σ2 => rest r3 σ2) (fun e σ => some (.inr e, σ)) ∧ CT X (tE X c) f1 ∧ f1 66 8 = nI 1 ∧ (∀ p i, (p ≠ 66 ∨ i < 3 ∨ i = 7 ∨ i = 9 ∨ i = 10) → f1 p i = f p i) := by
      intro f g h
      have h1 : f 50 1 = nI (oGd D).2.1 := h.2.2.2.2.2.2.1
      obtain ⟨f1, a1, a2, a3⟩ := CS_next xo lo hc f g h
      have h50 : f1 50 0 = nI (oGd D).1 := a2.2.2.2.2.2.1
      refine ⟨en_u1 f1 66 8 1, ?_, CT_of a2.1 (fun i _ _ => u1_ne _ _ (by omega)) (fun i => u1_ne _ _ (by omega)), u1_at _ _ _ _, fun p i k => by rw [u1_ne _ _ (by omega), a3 p i (by omega)]⟩
      rw [e_rd_readRoad_0, if_pos (show f 50 1 < 14 by rw [h1, q_14]; exact nI_lt full (by omega)), a1, c_V, hrest]
      show en_cI (x_rd_readName_0 (en_u1 f1 66 8 1, g) (f1 50 0) (-1)) _ _ = _
      rw [h50]
    have add : ∀ f fb g k q, CFt k q f fb → fb 50 1 = nI (oGd D).2.1 → ∀ v1 v2 v3 : Int32, ∃ f', en_cV (x_ld_addRoad_p50_0 (fb, g) v1 v2 v3) (fun σ8 => some (.inl none, σ8)) (fun e σ => some (.inr e, σ)) = rV (f', g) ∧ CFt k q f f' := by
      intro f fb g k q hF h1 v1 v2 v3
      refine ⟨_, cV_id (c_addRoad fb g h1 full v1 v2 v3), CFt_u (CFt_u (CFt_u (CFt_u hF _ (by omega)) _ (by omega)) _ (by omega)) _ (by omega)⟩
    have restB : ∀ f fb g k q, 1 ≤ k ∧ k ≤ 5 → CFt k q f fb → fb 50 1 = nI (oGd D).2.1 → ∀ r3 : Int32, ∃ f', rest r3 (fb, g) = rV (f', g) ∧ CFt k q f f' := by
      intro f fb g k q hk5 hF h1 r3
      obtain ⟨f', a1, a2⟩ := add f fb g k q hF h1 r3 0 0
      refine ⟨f', ?_, a2⟩
      rw [hrest]
      show en_cI (x_rd_readName_0 (fb, g) (fb 50 0) r3) _ _ = _
      rw [c_name9 fb g (CFt_9 hF hk5), c_I, c_num9 fb g (CFt_9 hF hk5), c_I]
      exact a1
    have mod0 : ∀ f g t, MS X c D t f g → ∃ f1 g1, x_m_line_0 (f, g) = en_cV (x_m_readsRoad_0 (f1, g1)) (fun σ16 => x_m_line_249 σ16) (fun e σ => some (.inr e, σ)) ∧ MS X (tE X c) D t f1 g1 ∧ MN f f1 ∧ ∀ q, q ≠ 0 → g1 q = g q := by
      intro f g t h
      have h3 : f 0 28 = nI (oGd D).2.1 := h.2.2.2.1.2.2.1
      obtain ⟨f1, g1, a1, a2, a3, a4⟩ := m_begY xo lo hc f g h
      refine ⟨f1, g1, ?_, a2, a3, a4⟩
      rw [e_m_line_0, m_known xo f g h.1 hc, c_I, hk, if_neg (by decide), if_pos (by decide), if_neg (show ¬ f 0 28 = 14 by rw [h3, q_14, q_eqI (by omega) (by omega)]; omega), a1, c_I, if_neg i10]
    have na := naF_c X (tE X c) (oGd D).1
    by_cases n1 : naF X (tE X c) (oGd D).1 = 0
    · obtain ⟨v1, v2⟩ := na.2 n1
      have cg1 := tE_c' (X := X) (c := tE X c) (by omega)
      have ce1 := tE_le ce
      obtain ⟨a, ha⟩ : ∃ a, a = tV X (tE X c) := ⟨_, rfl⟩
      rw [← ha] at v2
      have na2 := naF_c X (tE X (tE X c)) (oGd D).1
      have cls1 : ∀ f g, CS X c D f → ∃ f2, x_rd_readRoad_0 (f, g) = rest (nI a) (f2, g) ∧ CT X (tE X (tE X c)) f2 ∧ f2 66 8 = nI 1 ∧ (∀ p i, (p ≠ 66 ∨ i < 3 ∨ i = 7 ∨ i = 9 ∨ i = 10) → f2 p i = f p i) := by
        intro f g h
        obtain ⟨f1, a1, a2, a3, a4⟩ := cls0 f g h
        obtain ⟨f2, b1, b2, b3⟩ := (c_name xo f1 g ce a2 (by rw [a4 66 9 (by omega)]; exact h.2.1) (many := (oGd D).1) (by omega)).1 n1
        refine ⟨f2, ?_, b2, by rw [b3 66 8 (by omega)]; exact a3, fun p i k => by rw [b3 p i (by omega), a4 p i k]⟩
        rw [a1, b1, c_I, ← ha]
      have mod1 : ∀ f g t, MS X c D t f g → ∃ f2 g2, x_m_line_0 (f, g) = en_cV (en_cI (x_m_isOneOf_0 (f2, g2) (nI (oGd D).1)) (fun r9 σ8 => if r9 = 0 then some (.inl none, σ8) else if nI a = σ8.1 0 23 then en_cV (x_m_wrong_0 σ8 4) (fun σ10 => x_m_readsRoad_68 σ10 (nI a) (σ8.1 0 23)) (fun e σ => some (.inr e, σ)) else if en_in ((8 * nI a) + (σ8.1 0 23)) 64 then if σ8.1 9 (((8 * nI a) + (σ8.1 0 23)).toNatClampNeg) = (-1) then x_m_readsRoad_68 σ8 (nI a) (σ8.1 0 23) else en_cV (x_m_wrong_0 σ8 4) (fun σ11 => x_m_readsRoad_68 σ11 (nI a) (σ8.1 0 23)) (fun e σ => some (.inr e, σ)) else none) (fun e σ => some (.inr e, σ))) (fun σ16 => x_m_line_249 σ16) (fun e σ => some (.inr e, σ)) ∧ MT X (tE X (tE X c)) f2 g2 ∧ f2 0 15 = nI 0 ∧ f2 0 26 = nI 1 ∧ (∀ p i, (p ≠ 0 ∨ i < 19 ∨ (24 < i ∧ i ≠ 26)) → f2 p i = f p i) ∧ ∀ q, q ≠ 0 → g2 q = g q := by
        intro f g t h
        obtain ⟨f1, g1, a1, a2, a3, a4⟩ := mod0 f g t h
        have tw := m_towns ok f1 g1 a2.2.2.2.1.1
        have on := (m_oneOf xo f1 g1 ce a2.1 a2.2.1 (many := (oGd D).1) (by omega)).1 n1
        have hT1 : MT X (tE X c) (en_u1 f1 0 26 1) g1 := MT_of a2.1 (fun i _ _ => u1_ne _ _ (by omega)) (fun i => u1_ne _ _ (by omega))
        obtain ⟨f2, g2, b1, b2, b3, b4⟩ := m_goes xo (en_u1 f1 0 26 1) g1 ce1 hT1.1 hT1.2.1
        have h27 : f2 0 27 = dTo (oTo D) := by rw [b3 0 27 (by omega), u1_ne _ _ (by omega)]; exact a2.2.2.2.1.1
        have tw2 := m_towns ok f2 g2 h27
        have h23 : f1 0 23 = nI a := by rw [ha]; exact a2.1.2.2.2.2.2.1
        refine ⟨f2, g2, ?_, b2, by rw [b3 0 15 (by omega), u1_ne _ _ (by omega)]; exact a2.2.1, by rw [b3 0 26 (by omega), u1_at]; rfl, fun p i k => by rw [b3 p i (by omega), u1_ne _ _ (by omega), a3 p i (by omega)], fun q hq => (b4 q hq).trans (a4 q hq)⟩
        rw [a1, e_m_readsRoad_0, tw, c_I, on, c_I, if_neg (by decide)]
        show en_cV (en_cV (x_m_goes_0 (en_u1 f1 0 26 1, g1)) _ _) _ _ = _
        rw [b1, c_V, tw2, c_I]
        simp only [h23]
      by_cases n2 : naF X (tE X (tE X c)) (oGd D).1 = 0
      · obtain ⟨w1, w2⟩ := na2.2 n2
        have cg2 := tE_c' (X := X) (c := tE X (tE X c)) (by omega)
        have ce2 := tE_le ce1
        obtain ⟨b, hb⟩ : ∃ b, b = tV X (tE X (tE X c)) := ⟨_, rfl⟩
        rw [← hb] at w2
        have h50 : ∀ f f2 : Nat → Nat → Int32, CS X c D f → (∀ p i, (p ≠ 66 ∨ i < 3 ∨ i = 7 ∨ i = 9 ∨ i = 10) → f2 p i = f p i) → f2 50 0 = nI (oGd D).1 ∧ f2 50 1 = nI (oGd D).2.1 ∧ f2 66 9 = nI 0 ∧ (∀ i, i < (oGd D).2.1 → f2 51 i = nI ((oGd D).2.2.1 i) ∧ f2 52 i = nI ((oGd D).2.2.2.1 i)) := by
          intro f f2 h k
          obtain ⟨h1, h2, h3, h4, h5, _⟩ := h.2.2.2
          exact ⟨by rw [k 50 0 (by omega)]; exact h3, by rw [k 50 1 (by omega)]; exact h4, by rw [k 66 9 (by omega)]; exact h.2.1, fun i hi => by rw [k 51 i (by omega), k 52 i (by omega)]; exact ⟨(h5 i hi).1, (h5 i hi).2.1⟩⟩
        by_cases clash : a = b ∨ ∃ i, i < (oGd D).2.1 ∧ gE (oGd D) i a b
        · refine ⟨.inr (4, tS X (tE X (tE X c))), ⟨by show 1 ≤ 4 ∧ 4 ≤ 5; omega, tS7 xo ce1⟩, fun f g h => ?_, fun f g t h => ?_⟩
          · obtain ⟨f2, a1, a2, a3, a4⟩ := cls1 f g h
            obtain ⟨q1, q2, q3, q4⟩ := h50 f f2 h a4
            have nm := (c_name xo f2 g ce1 a2 q3 (many := (oGd D).1) (by omega)).2.2 a (by omega) n2
            have bad := CFt_of (CFt_ref (k := 4) a2) (show CF f f2 from fun p i k => a4 p i (by omega))
            have nm2 : x_rd_readName_0 (f2, g) (nI (oGd D).1) (nI a) = rI (nI b) (en_u1 (en_u1 f2 66 9 (nI 4)) 66 10 (f2 66 3), g) := by
              rw [nm, ← hb]
              by_cases e : b = a
              · rw [if_pos e]
              · rw [if_neg e]
                obtain ⟨r, r1, r2⟩ := c_hasRoad f2 g go q2 q4 (a := a) (b := b) (by omega) (by omega)
                have : r = true := r2.mpr (clash.resolve_left (fun z => e z.symm))
                rw [r1, c_I, this, if_neg (by decide), show x_rd_refuse_0 (f2, g) 4 = _ from c_rdRefuse f2 g (nI 4), c_V]
            obtain ⟨f3, d1, d2⟩ := add f _ g 4 _ bad (by rw [u1_ne _ _ (by omega), u1_ne _ _ (by omega)]; exact q2) (nI a) (nI b) 0
            refine ⟨f3, ?_, d2⟩
            rw [cls f g h]
            refine cV_id ?_
            rw [a1, hrest]
            show en_cI (x_rd_readName_0 (f2, g) (f2 50 0) (nI a)) _ _ = _
            rw [q1, nm2, c_I, c_num9 _ g (CFt_9 bad (by omega)), c_I]
            exact d1
          · obtain ⟨f2, g2, a1, a2, a3, a4, a5, a6⟩ := mod1 f g t h
            have on := (m_oneOf xo f2 g2 ce1 a2 a3 (many := (oGd D).1) (by omega)).1 n2
            have h23 : f2 0 23 = nI b := by rw [hb]; exact a2.2.2.2.2.2.1
            have bad := MFt_of (MFt_wr (k := 4) a2) (show MF f f2 from fun p i k1 k2 => a5 p i (by omega)) a6
            have e68 : x_m_readsRoad_68 (en_u1 (en_u1 f2 0 15 (nI 4)) 0 16 (f2 0 21), g2) (nI a) (nI b) = rV (en_u1 (en_u1 f2 0 15 (nI 4)) 0 16 (f2 0 21), g2) := by
              rw [e_m_readsRoad_68, m_good0 _ g2 (k := 4) (by omega) (by rw [u1_ne _ _ (by omega), u1_at]), c_I, if_pos (by decide)]; rfl
            have wr : x_m_wrong_0 (f2, g2) 4 = rV (en_u1 (en_u1 f2 0 15 (nI 4)) 0 16 (f2 0 21), g2) := m_wrong f2 g2 a3 (nI 4)
            refine ⟨_, _, ?_, bad⟩
            rw [a1, on, c_I, if_neg (by decide)]
            simp only [h23]
            by_cases e : a = b
            · rw [if_pos (by rw [e]), wr, c_V, e68, c_V]
            · have hs := clash.resolve_left e
              have h9 : ¬ f2 9 (8 * a + b) = nN := fun z => by
                have h9' := h.2.2.2.1.2.2.2.2.2.2.2.2.1
                rw [a5 9 _ (by omega)] at z
                exact (MG9_no go (by omega) (by omega) h9').mp z hs
              rw [if_neg (show ¬ nI a = nI b by rw [q_eqI (by omega) (by omega)]; exact e)]
              simp (disch := omega) only [q_8, pk_mul, nI_add, q_in, q_clamp, if_true]
              rw [if_neg (show ¬ f2 9 (8 * a + b) = -1 from h9), wr, c_V, e68, c_V]
        · have hab : a ≠ b := fun z => clash (Or.inl z)
          have hno : ¬ ∃ i, i < (oGd D).2.1 ∧ gE (oGd D) i a b := fun z => clash (Or.inr z)
          have nu := nuF_c X (tE X (tE X (tE X c))) 0 9
          have cls2 : ∀ f g, CS X c D f → ∃ f3, x_rd_readRoad_0 (f, g) = en_cI (x_rd_readNumber_0 (f3, g) 0 9) (fun r7 σ6 => en_cV (x_ld_addRoad_p50_0 σ6 (nI a) (nI b) r7) (fun σ8 => some (.inl none, σ8)) (fun e σ => some (.inr e, σ))) (fun e σ => some (.inr e, σ)) ∧ CT X (tE X (tE X (tE X c))) f3 ∧ f3 66 8 = nI 1 ∧ (∀ p i, (p ≠ 66 ∨ i < 3 ∨ i = 7 ∨ i = 9 ∨ i = 10) → f3 p i = f p i) := by
            intro f g h
            obtain ⟨f2, a1, a2, a3, a4⟩ := cls1 f g h
            obtain ⟨q1, q2, q3, q4⟩ := h50 f f2 h a4
            have nm := (c_name xo f2 g ce1 a2 q3 (many := (oGd D).1) (by omega)).2.2 a (by omega) n2
            obtain ⟨r, r1, r2⟩ := c_hasRoad f2 g go q2 q4 (a := a) (b := b) (by omega) (by omega)
            have rf : r = false := by
              cases r with
              | false => rfl
              | true => exact absurd (r2.mp rfl) hno
            obtain ⟨f3, b1, b2, b3⟩ := c_next xo f2 g ce2 a2.1 a2.2.2.1
            refine ⟨f3, ?_, b2, by rw [b3 66 8 (by omega)]; exact a3, fun p i k => by rw [b3 p i (by omega), a4 p i k]⟩
            rw [a1, hrest]
            show en_cI (x_rd_readName_0 (f2, g) (f2 50 0) (nI a)) _ _ = _
            rw [q1, nm, ← hb, if_neg (fun z => hab z.symm), r1, c_I, rf, if_pos (by decide), b1, c_V, c_I]
          have mod2 : ∀ f g t, MS X c D t f g → ∃ f3 g3, x_m_line_0 (f, g) = en_cV (en_cI (x_m_number_0 (f3, g3) 0 9) (fun r5 σ4 => x_m_readsRoad_88 σ4 (nI a) (nI b) r5) (fun e σ => some (.inr e, σ))) (fun σ16 => x_m_line_249 σ16) (fun e σ => some (.inr e, σ)) ∧ MT X (tE X (tE X (tE X c))) f3 g3 ∧ f3 0 15 = nI 0 ∧ f3 0 26 = nI 1 ∧ (∀ p i, (p ≠ 0 ∨ i < 19 ∨ (24 < i ∧ i ≠ 26)) → f3 p i = f p i) ∧ ∀ q, q ≠ 0 → g3 q = g q := by
            intro f g t h
            obtain ⟨f2, g2, a1, a2, a3, a4, a5, a6⟩ := mod1 f g t h
            have on := (m_oneOf xo f2 g2 ce1 a2 a3 (many := (oGd D).1) (by omega)).1 n2
            have h23 : f2 0 23 = nI b := by rw [hb]; exact a2.2.2.2.2.2.1
            have h9' := h.2.2.2.1.2.2.2.2.2.2.2.2.1
            have h9 : f2 9 (8 * a + b) = nN := by rw [a5 9 _ (by omega)]; exact (MG9_no go (by omega) (by omega) h9').mpr hno
            obtain ⟨f3, g3, b1, b2, b3, b4⟩ := m_goes xo f2 g2 ce2 a2.1 a2.2.1
            refine ⟨f3, g3, ?_, b2, by rw [b3 0 15 (by omega)]; exact a3, by rw [b3 0 26 (by omega)]; exact a4, fun p i k => by rw [b3 p i (by omega), a5 p i k], fun q hq => (b4 q hq).trans (a6 q hq)⟩
            rw [a1, on, c_I, if_neg (by decide)]
            simp only [h23]
            rw [if_neg (show ¬ nI a = nI b by rw [q_eqI (by omega) (by omega)]; exact hab)]
            simp (disch := omega) only [q_8, pk_mul, nI_add, q_in, q_clamp, if_true]
            rw [if_pos (show f2 9 (8 * a + b) = -1 from h9), e_m_readsRoad_68, m_good1 f2 g2 a3, c_I, if_neg (by decide), b1, c_V]
          have e88 : ∀ f4 g4 (r5 : Int32), x_m_readsRoad_88 (f4, g4) (nI a) (nI b) r5 = rV (en_u1 (en_u1 (en_u1 f4 9 (8 * a + b) r5) 9 (8 * b + a) r5) 0 28 (f4 0 28 + 1), g4) := by
            intro f4 g4 r5
            rw [e_m_readsRoad_88]
            simp (disch := omega) only [q_8, pk_mul, nI_add, q_in, q_clamp, if_true]
            rw [e_m_readsRoad_112]
            show rV (en_u1 (en_u1 (en_u1 f4 9 (8 * a + b) r5) 9 (8 * b + a) r5) 0 28 (en_u1 (en_u1 f4 9 (8 * a + b) r5) 9 (8 * b + a) r5 0 28 + 1), g4) = _
            rw [u1_ne _ _ (by omega), u1_ne _ _ (by omega)]
          by_cases n3 : nuF X (tE X (tE X (tE X c))) 0 9 = 0
          · obtain ⟨y1, y2, y3, y4⟩ := nu.2 n3
            have cg3 := tE_c' (X := X) (c := tE X (tE X (tE X c))) (by omega)
            obtain ⟨v, hv⟩ : ∃ v, v = tV X (tE X (tE X (tE X c))) := ⟨_, rfl⟩
            rw [← hv] at y4
            refine ⟨.inl (tE X (tE X (tE X (tE X c))), (oTo D, true, oLd D, grow (oGd D) a b v, oWt D, oHd D)), ⟨tE_le ce2, by show c < tE X (tE X (tE X (tE X c))); omega, lo, grow_OK go full v2 w2 hab y4 hno, to, wo, ho, fun z => absurd (show true = false from z) (by decide), tn⟩, fun f g h => ?_, fun f g t h => ?_⟩
            · obtain ⟨f3, a1, a2, a3, a4⟩ := cls2 f g h
              obtain ⟨f4, b1, b2, b3⟩ := (c_number xo f3 g ce2 a2 (by rw [a4 66 9 (by omega)]; exact h.2.1) (lo := 0) (hi := 9) (by omega) (by omega)).1 n3
              obtain ⟨h1, h2, h3, h4, h5, h6, h7, h8, h9, h10, h11, h12⟩ := h.2.2.2
              have F4 : ∀ p i, (p ≠ 66 ∨ i = 7 ∨ i = 9 ∨ i = 10) → f4 p i = f p i := fun p i k => by rw [b3 p i (by omega), a4 p i (by omega)]
              have F : ∀ p i, (p ≠ 66 ∨ i = 7 ∨ i = 9 ∨ i = 10) → (p < 50 ∨ 53 < p ∨ (p = 50 ∧ i ≠ 1) ∨ (p ≠ 50 ∧ i ≠ (oGd D).2.1)) → en_u1 (en_u1 (en_u1 (en_u1 f4 51 (oGd D).2.1 (nI a)) 52 (oGd D).2.1 (nI b)) 53 (oGd D).2.1 (nI v)) 50 1 (nI ((oGd D).2.1 + 1)) p i = f p i := fun p i k1 k2 => by rw [u1_ne _ _ (by omega), u1_ne _ _ (by omega), u1_ne _ _ (by omega), u1_ne _ _ (by omega), F4 p i k1]
              refine ⟨en_u1 (en_u1 (en_u1 (en_u1 f4 51 (oGd D).2.1 (nI a)) 52 (oGd D).2.1 (nI b)) 53 (oGd D).2.1 (nI v)) 50 1 (nI ((oGd D).2.1 + 1)), ?_, ⟨CT_of b2 (fun i _ _ => by rw [u1_ne _ _ (by omega), u1_ne _ _ (by omega), u1_ne _ _ (by omega), u1_ne _ _ (by omega)]) (fun i => by rw [u1_ne _ _ (by omega), u1_ne _ _ (by omega), u1_ne _ _ (by omega), u1_ne _ _ (by omega)]), ?_, ?_, ?_, ?_, ?_, u1_at _ _ _ _, fun i hi => ?_, ?_, ?_, fun x hx => ?_, fun x hx k hk => ?_, fun p hp => ?_, ?_, ?_⟩, fun p i k => F p i (by omega) (by omega)⟩
              · rw [cls f g h]
                refine cV_id ?_
                rw [a1, show x_rd_readNumber_0 (f3, g) 0 9 = _ from b1, c_I, ← hv]
                exact cV_id (c_addRoad f4 g (by rw [F4 50 1 (by omega)]; exact h4) full (nI a) (nI b) (nI v))
              · rw [F 66 9 (by omega) (by omega)]; exact h.2.1
              · rw [F 66 10 (by omega) (by omega)]; exact h.2.2.1
              · rw [F 66 7 (by omega) (by omega)]; exact h1
              · rw [u1_ne _ _ (by omega), u1_ne _ _ (by omega), u1_ne _ _ (by omega), u1_ne _ _ (by omega), b3 66 8 (by omega), a3]; rfl
              · rw [F 50 0 (by omega) (by omega)]; exact h3
              · have hi' : i < (oGd D).2.1 + 1 := hi
                show _ = nI (updN (oGd D).2.2.1 (oGd D).2.1 a i) ∧ _ = nI (updN (oGd D).2.2.2.1 (oGd D).2.1 b i) ∧ _ = nI (updN (oGd D).2.2.2.2 (oGd D).2.1 v i)
                by_cases e : i = (oGd D).2.1
                · rw [e, updN_at, updN_at, updN_at]
                  exact ⟨by rw [u1_ne _ _ (by omega), u1_ne _ _ (by omega), u1_ne _ _ (by omega), u1_at], by rw [u1_ne _ _ (by omega), u1_ne _ _ (by omega), u1_at], by rw [u1_ne _ _ (by omega), u1_at]⟩
                · rw [updN_ne _ _ e, updN_ne _ _ e, updN_ne _ _ e, F 51 i (by omega) (by omega), F 52 i (by omega) (by omega), F 53 i (by omega) (by omega)]
                  exact h5 i (by omega)
              · rw [F 50 5 (by omega) (by omega)]; exact h6
              · rw [F 50 9 (by omega) (by omega)]; exact h7
              · rw [F 54 x (by omega) (by omega), F 55 x (by omega) (by omega)]; exact h8 x hx
              · rw [F 56 _ (by omega) (by omega)]; exact h9 x hx k hk
              · rw [F 57 p (by omega) (by omega), F 58 p (by omega) (by omega), F 59 p (by omega) (by omega)]; exact h10 p hp
              · exact cRq_of (fun p i a => F p i (by omega) (by omega)) _ h11
              · exact cRq_of (fun p i a => F p i (by omega) (by omega)) _ h12
            · obtain ⟨f3, g3, a1, a2, a3, a4, a5, a6⟩ := mod2 f g t h
              obtain ⟨f4, g4, b1, b2, b3, b4⟩ := (m_number xo f3 g3 ce2 a2 a3 (lo := 0) (hi := 9) (by omega) (by omega)).1 n3
              obtain ⟨h1, h2, h3, h4, h5, h6, h7, h8, h9, h10, h11, h12, h13⟩ := h.2.2.2.1
              have F4 : ∀ p i, (p ≠ 0 ∨ i < 19 ∨ (24 < i ∧ i ≠ 26)) → f4 p i = f p i := fun p i k => by rw [b3 p i (by omega), a5 p i k]
              have F : ∀ p i, (p ≠ 0 ∨ i < 19 ∨ (24 < i ∧ i ≠ 26 ∧ i ≠ 28)) → p ≠ 9 → en_u1 (en_u1 (en_u1 f4 9 (8 * a + b) (nI v)) 9 (8 * b + a) (nI v)) 0 28 (f4 0 28 + 1) p i = f p i := fun p i k1 k2 => by rw [u1_ne _ _ (by omega), u1_ne _ _ (by omega), u1_ne _ _ (by omega), F4 p i (by omega)]
              have M9 : MG9 (oGd D) f4 := ⟨fun i hi => by rw [F4 9 _ (by omega), F4 9 _ (by omega)]; exact h9.1 i hi, fun x y hx hy => by rw [F4 9 _ (by omega)]; exact h9.2 x y hx hy⟩
              have M9' := grow_MG9 (v := v) go (by omega) (by omega) hab hno M9
              refine ⟨en_u1 (en_u1 (en_u1 f4 9 (8 * a + b) (nI v)) 9 (8 * b + a) (nI v)) 0 28 (f4 0 28 + 1), g4, ?_, ⟨t, MT_of b2 (fun i _ _ => by rw [u1_ne _ _ (by omega), u1_ne _ _ (by omega), u1_ne _ _ (by omega)]) (fun i => by rw [u1_ne _ _ (by omega), u1_ne _ _ (by omega), u1_ne _ _ (by omega)]), ?_, ?_, ⟨?_, ?_, ?_, ?_, ?_, ?_, ?_, ?_, ⟨fun i hi => ?_, fun x y hx hy => ?_⟩, ?_, fun x hx => ?_, fun x hx k hk => ?_, fun p hp => ?_⟩, ?_⟩, fun p i k1 k2 => ?_, fun q hq => (b4 q hq).trans (a6 q hq)⟩
              · rw [a1, show x_m_number_0 (f3, g3) 0 9 = _ from b1, c_I, ← hv, e88, c_V]
              · rw [F 0 15 (by omega) (by omega)]; exact h.2.1
              · rw [F 0 16 (by omega) (by omega)]; exact h.2.2.1
              · rw [F 0 27 (by omega) (by omega)]; exact h1
              · rw [u1_ne _ _ (by omega), u1_ne _ _ (by omega), u1_ne _ _ (by omega), b3 0 26 (by omega), a4]; rfl
              · rw [u1_at, F4 0 28 (by omega), h3, nI_1]; rfl
              · rw [F 0 29 (by omega) (by omega)]; exact h4
              · rw [F 0 30 (by omega) (by omega)]; exact h5
              · rw [F 0 33 (by omega) (by omega)]; exact h6
              · rw [F 0 31 (by omega) (by omega)]; exact mRq_of (Nat.le_refl _) (fun i _ => F 15 i (by omega) (by omega)) _ h7
              · rw [F 0 32 (by omega) (by omega)]; exact mRq_of (Nat.le_refl _) (fun i _ => F 15 i (by omega) (by omega)) _ h8
              · have := M9'.1 i hi
                rw [u1_ne _ _ (by omega), u1_ne (en_u1 (en_u1 f4 9 (8 * a + b) (nI v)) 9 (8 * b + a) (nI v)) _ (by omega)]
                exact this
              · rw [u1_ne (en_u1 (en_u1 f4 9 (8 * a + b) (nI v)) 9 (8 * b + a) (nI v)) _ (by omega)]
                exact M9'.2 x y hx hy
              · rw [F 14 0 (by omega) (by omega)]; exact h10
              · rw [F 14 _ (by omega) (by omega), F 14 _ (by omega) (by omega), F 11 _ (by omega) (by omega)]; exact h11 x hx
              · rw [F 10 _ (by omega) (by omega)]; exact h12 x hx k hk
              · rw [F 12 p (by omega) (by omega), F 13 p (by omega) (by omega), F 14 _ (by omega) (by omega), F 14 _ (by omega) (by omega)]; exact h13 p hp
              · have := h.2.2.2.2
                show t ≤ 2 * tE X (tE X (tE X (tE X c)))
                omega
              · by_cases e28 : p = 0 ∧ i = 26
                · omega
                · rw [u1_ne _ _ (by omega), u1_ne _ _ (by omega), u1_ne _ _ (by omega), F4 p i (by omega)]
          · refine ⟨.inr (nuF X (tE X (tE X (tE X c))) 0 9, tS X (tE X (tE X (tE X c)))), ⟨by show 1 ≤ nuF X (tE X (tE X (tE X c))) 0 9 ∧ nuF X (tE X (tE X (tE X c))) 0 9 ≤ 5; omega, tS7 xo ce2⟩, fun f g h => ?_, fun f g t h => ?_⟩
            · obtain ⟨f3, a1, a2, a3, a4⟩ := cls2 f g h
              have b1 := (c_number xo f3 g ce2 a2 (by rw [a4 66 9 (by omega)]; exact h.2.1) (lo := 0) (hi := 9) (by omega) (by omega)).2 n3
              have bad := CFt_of (CFt_ref (k := nuF X (tE X (tE X (tE X c))) 0 9) a2) (show CF f f3 from fun p i k => a4 p i (by omega))
              obtain ⟨f5, d1, d2⟩ := add f _ g _ _ bad (by rw [u1_ne _ _ (by omega), u1_ne _ _ (by omega), a4 50 1 (by omega)]; exact h.2.2.2.2.2.2.1) (nI a) (nI b) (f3 66 6)
              refine ⟨f5, ?_, d2⟩
              rw [cls f g h]
              refine cV_id ?_
              rw [a1, show x_rd_readNumber_0 (f3, g) 0 9 = _ from b1, c_I]
              exact d1
            · obtain ⟨f3, g3, a1, a2, a3, a4, a5, a6⟩ := mod2 f g t h
              obtain ⟨v, b1⟩ := (m_number xo f3 g3 ce2 a2 a3 (lo := 0) (hi := 9) (by omega) (by omega)).2 n3
              have bad := MFt_of (MFt_wr (k := nuF X (tE X (tE X (tE X c))) 0 9) a2) (show MF f f3 from fun p i k1 k2 => a5 p i (by omega)) a6
              generalize en_u1 (en_u1 f3 0 15 (nI (nuF X (tE X (tE X (tE X c))) 0 9))) 0 16 (f3 0 21) = fb at b1 bad
              refine ⟨en_u1 (en_u1 (en_u1 fb 9 (8 * a + b) v) 9 (8 * b + a) v) 0 28 (fb 0 28 + 1), g3, ?_, ⟨?_, ?_, MF_trans bad.2.2.1 (MF_trans (MF_u _ v (q := 9) (i := 8 * a + b) (by omega)) (MF_trans (MF_u _ v (q := 9) (i := 8 * b + a) (by omega)) (MF_u0 _ _ (i := 28) (by omega)))), bad.2.2.2⟩⟩
              · rw [a1, show x_m_number_0 (f3, g3) 0 9 = _ from b1, c_I, e88, c_V]
              · rw [u1_ne _ _ (by omega), u1_ne _ _ (by omega), u1_ne _ _ (by omega)]; exact bad.1
              · rw [u1_ne _ _ (by omega), u1_ne _ _ (by omega), u1_ne _ _ (by omega)]; exact bad.2.1
      · refine ⟨.inr (naF X (tE X (tE X c)) (oGd D).1, tS X (tE X (tE X c))), ⟨by show 1 ≤ naF X (tE X (tE X c)) (oGd D).1 ∧ naF X (tE X (tE X c)) (oGd D).1 ≤ 5; omega, tS7 xo ce1⟩, fun f g h => ?_, fun f g t h => ?_⟩
        · obtain ⟨f2, a1, a2, a3, a4⟩ := cls1 f g h
          have b1 := (c_name xo f2 g ce1 a2 (by rw [a4 66 9 (by omega)]; exact h.2.1) (many := (oGd D).1) (by omega)).2.1 (nI a) n2
          have bad := CFt_of (CFt_ref (k := naF X (tE X (tE X c)) (oGd D).1) a2) (show CF f f2 from fun p i k => a4 p i (by omega))
          obtain ⟨f5, d1, d2⟩ := add f _ g _ _ bad (by rw [u1_ne _ _ (by omega), u1_ne _ _ (by omega), a4 50 1 (by omega)]; exact h.2.2.2.2.2.2.1) (nI a) (f2 66 6) 0
          have q1 : f2 50 0 = nI (oGd D).1 := by rw [a4 50 0 (by omega)]; exact h.2.2.2.2.2.1
          refine ⟨f5, ?_, d2⟩
          rw [cls f g h]
          refine cV_id ?_
          rw [a1, hrest]
          show en_cI (x_rd_readName_0 (f2, g) (f2 50 0) (nI a)) _ _ = _
          rw [q1, b1, c_I, c_num9 _ g (CFt_9 bad (by omega)), c_I]
          exact d1
        · obtain ⟨f2, g2, a1, a2, a3, a4, a5, a6⟩ := mod1 f g t h
          have on := (m_oneOf xo f2 g2 ce1 a2 a3 (many := (oGd D).1) (by omega)).2 n2
          have bad := MFt_of (MFt_wr (k := naF X (tE X (tE X c)) (oGd D).1) a2) (show MF f f2 from fun p i k1 k2 => a5 p i (by omega)) a6
          refine ⟨_, _, ?_, bad⟩
          rw [a1, on, c_I, if_pos (by decide)]
          rfl
    · refine ⟨.inr (naF X (tE X c) (oGd D).1, tS X (tE X c)), ⟨by show 1 ≤ naF X (tE X c) (oGd D).1 ∧ naF X (tE X c) (oGd D).1 ≤ 5; omega, tS7 xo ce⟩, fun f g h => ?_, fun f g t h => ?_⟩
      · obtain ⟨f1, a1, a2, a3, a4⟩ := cls0 f g h
        have b1 := (c_name xo f1 g ce a2 (by rw [a4 66 9 (by omega)]; exact h.2.1) (many := (oGd D).1) (by omega)).2.1 (-1) n1
        have bad := CFt_of (CFt_ref (k := naF X (tE X c) (oGd D).1) a2) (show CF f f1 from fun p i k => a4 p i (by omega))
        obtain ⟨f5, d1, d2⟩ := restB f _ g _ _ (by omega) bad (by rw [u1_ne _ _ (by omega), u1_ne _ _ (by omega), a4 50 1 (by omega)]; exact h.2.2.2.2.2.2.1) (f1 66 6)
        refine ⟨f5, ?_, d2⟩
        rw [cls f g h]
        refine cV_id ?_
        rw [a1, b1, c_I]
        exact d1
      · obtain ⟨f1, g1, a1, a2, a3, a4⟩ := mod0 f g t h
        have tw := m_towns ok f1 g1 a2.2.2.2.1.1
        have on := (m_oneOf xo f1 g1 ce a2.1 a2.2.1 (many := (oGd D).1) (by omega)).2 n1
        have bad := MFt_of (MFt_wr (k := naF X (tE X c) (oGd D).1) a2.1) (MF_MN a3) a4
        refine ⟨_, _, ?_, bad⟩
        rw [a1, e_m_readsRoad_0, tw, c_I, on, c_I, if_pos (by decide)]
        rfl
  · have r14 : (oGd D).2.1 = 14 := by have := go.2.2.1; omega
    refine ⟨.inr (2, tS X c), ⟨by show 1 ≤ 2 ∧ 2 ≤ 5; omega, tS7 xo hc⟩, fun f g h => ?_, fun f g t h => ?_⟩
    · refine ⟨_, ?_, CFt_ref (k := 2) h.1⟩
      have h1 : f 50 1 = nI (oGd D).2.1 := h.2.2.2.2.2.2.1
      rw [cls f g h]
      refine cV_id ?_
      rw [e_rd_readRoad_0, if_neg (show ¬ f 50 1 < 14 by rw [h1, r14]; decide)]
      exact cV_id (c_rdRefuse f g (nI 2))
    · refine ⟨_, _, ?_, MFt_wr (k := 2) h.1⟩
      have h3 : f 0 28 = nI (oGd D).2.1 := h.2.2.2.1.2.2.1
      rw [e_m_line_0, m_known xo f g h.1 hc, c_I, hk, if_neg (by decide), if_pos (by decide), if_pos (show f 0 28 = 14 by rw [h3, r14]; rfl), m_beg2 f g h.2.1, c_I, if_pos rfl]
