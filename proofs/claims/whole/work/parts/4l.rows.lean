/-! expressions: sums, products, and, or, wholes -/
theorem sg_x {X : mu_X} {c b : Nat} (h : ¬ sg X c b = true) : sg X c b = false := by
  cases q : sg X c b with
  | false => rfl
  | true => exact absurd q h
theorem lv_sum {X : mu_X} (xo : XOK X) {d B : Nat} (hB : 1 ≤ B) {xOp x0 : Nat → en_S → Option en_O} {x8 : Nat → en_S → Int32 → Option en_O} {x56 : Nat → en_S → Int32 → Int32 → Option en_O}
    (h0 : ∀ R, rR R → ∀ σ, x0 R σ = en_cV (xOp R σ) (fun σ1 => x8 R σ1 0) (fun e σ => some (.inr e, σ)))
    (h8 : ∀ R, rR R → ∀ (σ : en_S) (v3 : Int32), x8 R σ v3 = if (700 : Int32) ≤ v3 then
      some (.inl none, σ)
    else
      if σ.1 66 9 = 0 then
        en_cI (x_rd_isSign_0 σ 43) (fun r2 σ1 =>
          if r2 = 0 then
            en_cI (x_rd_isSign_0 σ1 45) (fun r4 σ3 =>
              if r4 = 0 then
                some (.inl none, σ3)
              else
                en_cI (x_rd_isSign_0 σ3 43) (fun r6 σ5 =>
                  if r6 = 0 then
                    x56 R σ5 v3 (-14)
                  else
                    x56 R σ5 v3 (-13)) (fun e σ => some (.inr e, σ))) (fun e σ => some (.inr e, σ))
          else
            en_cI (x_rd_isSign_0 σ1 43) (fun r8 σ7 =>
              if r8 = 0 then
                x56 R σ7 v3 (-14)
              else
                x56 R σ7 v3 (-13)) (fun e σ => some (.inr e, σ))) (fun e σ => some (.inr e, σ))
      else
        some (.inl none, σ))
    (h56 : ∀ R, rR R → ∀ (σ : en_S) (v3 t0 : Int32), x56 R σ v3 t0 = en_cV (x_rd_nextToken_0 σ) (fun σ1 => en_cV (xOp R σ1) (fun σ2 => en_cV (xAdd R σ2 t0) (fun σ3 => x8 R σ3 (v3 + 1)) (fun e σ => some (.inr e, σ))) (fun e σ => some (.inr e, σ))) (fun e σ => some (.inr e, σ)))
    (hO : Lv X 6 d B xOp isQ) : Lv X 5 d (B + 1) x0 isQ := by
  refine lv_bin xo (s := 5) (sO := 6) hB (by omega) (by omega) (by omega) (by omega) (by omega) (V := isQ) (xm := Qm 0) ⟨0, rfl⟩ (fun c => sg X c 43 = true ∨ sg X c 45 = true) (fun c => if sg X c 43 = true then -13 else -14) (fun c => if sg X c 43 = true then 8 else 9) ?_ ?_ ?_ h0 ?_ ?_ ?_ ?_ hO
  · intro c _
    cases sg X c 43 <;> decide
  · intro c h
    have : tK X c = 3 := by rcases h with h | h <;> exact (sg_kW h).2.1
    omega
  · intro c hf hn
    exact ⟨fun _ => hf.1 (by omega), fun _ => ⟨sg_x (fun h => hn (Or.inl h)), sg_x (fun h => hn (Or.inr h))⟩, fun z => absurd z (by omega), fun z => absurd z (by omega)⟩
  · intro R hR c f g i hT h9 hi hop
    have s43 : x_rd_isSign_0 (f, g) 43 = rI (tb (sg X c 43)) (f, g) := c_isSign xo f g hT (v := 43) (by omega)
    have s45 : x_rd_isSign_0 (f, g) 45 = rI (tb (sg X c 45)) (f, g) := c_isSign xo f g hT (v := 45) (by omega)
    rw [h8 R hR, if_neg (by rw [q_700]; exact nI_ge hi (by omega)), if_pos (show f 66 9 = 0 from h9), s43, c_I]
    cases q : sg X c 43 with
    | true =>
      rw [q] at s43
      rw [if_neg (by decide), s43, c_I, if_neg (by decide), h56 R hR]
      rfl
    | false =>
      rw [q] at s43
      have q1 : sg X c 45 = true := hop.resolve_left (by rw [q]; decide)
      rw [if_pos (by decide), s45, c_I, q1, if_neg (by decide), s43, c_I, if_pos (by decide), h56 R hR]
      rfl
  · intro R hR c f g i hT h9 hop
    have s43 : x_rd_isSign_0 (f, g) 43 = rI (tb (sg X c 43)) (f, g) := c_isSign xo f g hT (v := 43) (by omega)
    have s45 : x_rd_isSign_0 (f, g) 45 = rI (tb (sg X c 45)) (f, g) := c_isSign xo f g hT (v := 45) (by omega)
    rw [sg_x (fun h => hop (Or.inl h))] at s43
    rw [sg_x (fun h => hop (Or.inr h))] at s45
    rw [h8 R hR]
    by_cases c7 : (700 : Int32) ≤ nI i
    · rw [if_pos c7]; rfl
    · rw [if_neg c7, if_pos (show f 66 9 = 0 from h9), s43, c_I, if_pos (by decide), s45, c_I, if_pos (by decide)]; rfl
  · intro R hR f g i h9
    rw [h8 R hR]
    by_cases c7 : (700 : Int32) ≤ i
    · rw [if_pos c7]; rfl
    · rw [if_neg c7, if_neg (show ¬ f 66 9 = 0 from h9)]; rfl
  · intro c f g P W t hc hop hM hP hW hb
    obtain ⟨f', g', a1, a2, a3, a4⟩ := m_op5 xo f g hM hc hb hP hW hop
    exact ⟨f', g', a1, a2, a3, a4, fun h => absurd h (by omega)⟩
theorem lv_prod {X : mu_X} (xo : XOK X) {d B : Nat} (hB : 1 ≤ B) {xOp x0 : Nat → en_S → Option en_O} {x8 : Nat → en_S → Int32 → Option en_O} {x56 : Nat → en_S → Int32 → Int32 → Option en_O}
    (h0 : ∀ R, rR R → ∀ σ, x0 R σ = en_cV (xOp R σ) (fun σ1 => x8 R σ1 0) (fun e σ => some (.inr e, σ)))
    (h8 : ∀ R, rR R → ∀ (σ : en_S) (v3 : Int32), x8 R σ v3 = if (700 : Int32) ≤ v3 then
      some (.inl none, σ)
    else
      if σ.1 66 9 = 0 then
        en_cI (x_rd_isSign_0 σ 42) (fun r2 σ1 =>
          if r2 = 0 then
            en_cI (x_rd_isSign_0 σ1 47) (fun r4 σ3 =>
              if r4 = 0 then
                some (.inl none, σ3)
              else
                en_cI (x_rd_isSign_0 σ3 42) (fun r6 σ5 =>
                  if r6 = 0 then
                    x56 R σ5 v3 (-16)
                  else
                    x56 R σ5 v3 (-15)) (fun e σ => some (.inr e, σ))) (fun e σ => some (.inr e, σ))
          else
            en_cI (x_rd_isSign_0 σ1 42) (fun r8 σ7 =>
              if r8 = 0 then
                x56 R σ7 v3 (-16)
              else
                x56 R σ7 v3 (-15)) (fun e σ => some (.inr e, σ))) (fun e σ => some (.inr e, σ))
      else
        some (.inl none, σ))
    (h56 : ∀ R, rR R → ∀ (σ : en_S) (v3 t0 : Int32), x56 R σ v3 t0 = en_cV (x_rd_nextToken_0 σ) (fun σ1 => en_cV (xOp R σ1) (fun σ2 => en_cV (xAdd R σ2 t0) (fun σ3 => x8 R σ3 (v3 + 1)) (fun e σ => some (.inr e, σ))) (fun e σ => some (.inr e, σ))) (fun e σ => some (.inr e, σ)))
    (hO : Lv X 7 d B xOp isQ) : Lv X 6 d (B + 1) x0 isQ := by
  refine lv_bin xo (s := 6) (sO := 7) hB (by omega) (by omega) (by omega) (by omega) (by omega) (V := isQ) (xm := Qm 0) ⟨0, rfl⟩ (fun c => sg X c 42 = true ∨ sg X c 47 = true) (fun c => if sg X c 42 = true then -15 else -16) (fun c => if sg X c 42 = true then 10 else 11) ?_ ?_ ?_ h0 ?_ ?_ ?_ ?_ hO
  · intro c _
    cases sg X c 42 <;> decide
  · intro c h
    have : tK X c = 3 := by rcases h with h | h <;> exact (sg_kW h).2.1
    omega
  · intro c hf hn
    exact ⟨fun _ => ⟨sg_x (fun h => hn (Or.inl h)), sg_x (fun h => hn (Or.inr h))⟩, fun z => absurd z (by omega), fun z => absurd z (by omega), fun z => absurd z (by omega)⟩
  · intro R hR c f g i hT h9 hi hop
    have s42 : x_rd_isSign_0 (f, g) 42 = rI (tb (sg X c 42)) (f, g) := c_isSign xo f g hT (v := 42) (by omega)
    have s47 : x_rd_isSign_0 (f, g) 47 = rI (tb (sg X c 47)) (f, g) := c_isSign xo f g hT (v := 47) (by omega)
    rw [h8 R hR, if_neg (by rw [q_700]; exact nI_ge hi (by omega)), if_pos (show f 66 9 = 0 from h9), s42, c_I]
    cases q : sg X c 42 with
    | true =>
      rw [q] at s42
      rw [if_neg (by decide), s42, c_I, if_neg (by decide), h56 R hR]
      rfl
    | false =>
      rw [q] at s42
      have q1 : sg X c 47 = true := hop.resolve_left (by rw [q]; decide)
      rw [if_pos (by decide), s47, c_I, q1, if_neg (by decide), s42, c_I, if_pos (by decide), h56 R hR]
      rfl
  · intro R hR c f g i hT h9 hop
    have s42 : x_rd_isSign_0 (f, g) 42 = rI (tb (sg X c 42)) (f, g) := c_isSign xo f g hT (v := 42) (by omega)
    have s47 : x_rd_isSign_0 (f, g) 47 = rI (tb (sg X c 47)) (f, g) := c_isSign xo f g hT (v := 47) (by omega)
    rw [sg_x (fun h => hop (Or.inl h))] at s42
    rw [sg_x (fun h => hop (Or.inr h))] at s47
    rw [h8 R hR]
    by_cases c7 : (700 : Int32) ≤ nI i
    · rw [if_pos c7]; rfl
    · rw [if_neg c7, if_pos (show f 66 9 = 0 from h9), s42, c_I, if_pos (by decide), s47, c_I, if_pos (by decide)]; rfl
  · intro R hR f g i h9
    rw [h8 R hR]
    by_cases c7 : (700 : Int32) ≤ i
    · rw [if_pos c7]; rfl
    · rw [if_neg c7, if_neg (show ¬ f 66 9 = 0 from h9)]; rfl
  · intro c f g P W t hc hop hM hP hW hb
    obtain ⟨f', g', a1, a2, a3, a4⟩ := m_op6 xo f g hM hc hb hP hW hop
    exact ⟨f', g', a1, a2, a3, a4, fun h => absurd h (by omega)⟩
/-- and (s 2), or (s 1) -/
theorem lv_wrd {X : mu_X} (xo : XOK X) {d B s w : Nat} {S : Int32} (hd : d ≤ 5) (hs : (s = 2 ∧ w = 14 ∧ S = -10) ∨ (s = 1 ∧ w = 15 ∧ S = -9)) (hB : 1 ≤ B) {xOp x0 : Nat → en_S → Option en_O} {x8 : Nat → en_S → Int32 → Option en_O} {xW : en_S → Option en_O}
    (hW : ∀ c f g, CT X c f → xW (f, g) = rI (tb (decide (kW X c = w))) (f, g))
    (h0 : ∀ R, rR R → ∀ σ, x0 R σ = en_cV (xOp R σ) (fun σ1 => x8 R σ1 0) (fun e σ => some (.inr e, σ)))
    (h8 : ∀ R, rR R → ∀ (σ : en_S) (v3 : Int32), x8 R σ v3 = if (700 : Int32) ≤ v3 then
      some (.inl none, σ)
    else
      if σ.1 66 9 = 0 then
        en_cI (xW σ) (fun r2 σ1 =>
          if r2 = 0 then
            some (.inl none, σ1)
          else
            en_cV (x_rd_nextToken_0 σ1) (fun σ3 =>
              en_cV (xOp R σ3) (fun σ4 =>
                en_cV (xAdd R σ4 S) (fun σ5 =>
                  x8 R σ5 (v3 + 1)) (fun e σ => some (.inr e, σ))) (fun e σ => some (.inr e, σ))) (fun e σ => some (.inr e, σ))) (fun e σ => some (.inr e, σ))
      else
        some (.inl none, σ))
    (hO : Lv X (s + 1) d B xOp isO) : Lv X s d (B + 1) x0 isO := by
  refine lv_bin xo (s := s) (sO := s + 1) hB (by omega) (by omega) (by omega) (by omega) (by omega) (V := isO) (xm := O4 1) rfl (fun c => kW X c = w) (fun _ => S) (fun _ => if s = 2 then 4 else 5) ?_ ?_ ?_ h0 ?_ ?_ ?_ ?_ hO
  · intro c _
    rcases hs with ⟨h1, h2, h3⟩ | ⟨h1, h2, h3⟩ <;> subst h1 <;> subst h3 <;> decide
  · intro c h
    have := kW_1 (X := X) (c := c) (by omega)
    omega
  · intro c hf hn
    refine ⟨fun _ => hf.1 (by omega), fun _ => hf.2.1 (by omega), fun _ => ?_, fun _ => ?_⟩
    · rcases hs with ⟨h1, h2, h3⟩ | ⟨h1, h2, h3⟩
      · rw [h2] at hn; exact hn
      · exact hf.2.2.1 (by omega)
    · rcases hs with ⟨h1, h2, h3⟩ | ⟨h1, h2, h3⟩
      · omega
      · rw [h2] at hn; exact hn
  · intro R hR c f g i hT h9 hi hop
    rw [h8 R hR, if_neg (by rw [q_700]; exact nI_ge hi (by omega)), if_pos (show f 66 9 = 0 from h9), hW c f g hT, c_I, if_neg (tb_y (decide_eq_true hop))]
  · intro R hR c f g i hT h9 hop
    rw [h8 R hR]
    by_cases c7 : (700 : Int32) ≤ nI i
    · rw [if_pos c7]; rfl
    · rw [if_neg c7, if_pos (show f 66 9 = 0 from h9), hW c f g hT, c_I, if_pos (tb_n (decide_eq_false hop))]; rfl
  · intro R hR f g i h9
    rw [h8 R hR]
    by_cases c7 : (700 : Int32) ≤ i
    · rw [if_pos c7]; rfl
    · rw [if_neg c7, if_neg (show ¬ f 66 9 = 0 from h9)]; rfl
  · intro c f g P W t hc hop hM hP hW hb
    obtain ⟨f', g', a1, a2, a3, a4, a5⟩ := m_op2 xo (s := s) f g hM hc hb (by rcases hs with ⟨h1, h2, h3⟩ | ⟨h1, h2, h3⟩ <;> omega) hP hW (by omega)
    exact ⟨f', g', a1, a2, a3, by rw [if_neg (show ¬ 5 ≤ s by omega)]; exact a4, fun _ => a5⟩
theorem lv_expr {X : mu_X} {d B : Nat} (hd : d ≤ 5) {x0 : Nat → en_S → Option en_O} (h : Lv X 1 d B x0 isO) : LvE X d B x0 := by
  intro c hc
  obtain ⟨o, ok, cl, mo⟩ := h c hc
  refine ⟨o, ok, cl, fun f g W t hM hW hb => ?_⟩
  obtain ⟨f1, a1, a2, a3, a4⟩ := m_deeper f g hM (by omega)
  have r := mo (O4 1) rfl f1 g W t a2 (by omega) hb (fun _ => a3)
  rw [a1]
  cases o with
  | inr z => exact MBd_of r a4.1 a4.2.2.2.2
  | inl z =>
    obtain ⟨f2, g2, le, P, b1, b2, b3, b4, b5, b6, b7⟩ := r
    rw [if_neg (by omega)] at b6
    refine ⟨f2, g2, le, P, b1, b2, b3, b4, b5, ?_, b7⟩
    rw [if_neg (by omega)]
    exact FM_trans a4 (Nat.le_refl _) (Nat.le_refl _) b6
/-- within six others -/
theorem lv_six {X : mu_X} (xo : XOK X) {B : Nat} {x0 : Nat → en_S → Option en_O}
    (h0 : ∀ R, rR R → ∀ σ : en_S, x0 R σ = if σ.1 66 5 = 2 then en_cV (x_rd_refuse_0 σ 2) (fun σ1 => some (.inl none, σ1)) (fun e σ => some (.inr e, σ)) else if σ.1 66 5 = 1 then en_cV (x_rd_refuse_0 σ 2) (fun σ2 => some (.inl none, σ2)) (fun e σ => some (.inr e, σ)) else en_cI (x_rd_isSign_0 σ 40) (fun r4 σ3 => if r4 = 0 then en_cV (x_rd_refuse_0 σ3 1) (fun σ5 => some (.inl none, σ5)) (fun e σ => some (.inr e, σ)) else en_cV (x_rd_refuse_0 σ3 2) (fun σ6 => some (.inl none, σ6)) (fun e σ => some (.inr e, σ))) (fun e σ => some (.inr e, σ))) : LvE X 6 B x0 := by
  have n7 := xo.1
  intro c hc
  have k4 := tK_4 X c
  have hdp : 1 ≤ dpF X c ∧ dpF X c ≤ 5 := by unfold dpF; split <;> omega
  refine ⟨.inr (dpF X c, tS X c), ⟨hdp, tS7 xo hc⟩, fun R hR f g m hT h9 h1 hm => ?_, fun f g W t hM hW hb => m_deeper6 xo f g hM hc hb⟩
  have h5 : f 66 5 = nI (tK X c) := hT.2.2.2.1
  refine ⟨_, ?_, CBad_refuse hR f hT h1 (by omega) hdp⟩
  have r2 : en_cV (x_rd_refuse_0 (f, g) 2) (fun σ1 => some (.inl none, σ1)) (fun e σ => some (.inr e, σ)) = rV (en_u1 (en_u1 f 66 9 (nI 2)) 66 10 (f 66 3), g) := by rw [show x_rd_refuse_0 (f, g) 2 = _ from c_rdRefuse f g (nI 2), c_V]; rfl
  have r1 : en_cV (x_rd_refuse_0 (f, g) 1) (fun σ1 => some (.inl none, σ1)) (fun e σ => some (.inr e, σ)) = rV (en_u1 (en_u1 f 66 9 (nI 1)) 66 10 (f 66 3), g) := by rw [show x_rd_refuse_0 (f, g) 1 = _ from c_rdRefuse f g (nI 1), c_V]; rfl
  have i2 : (f 66 5 = 2) = (tK X c = 2) := by rw [h5, q_2, q_eqI (by omega) (by omega)]
  have i1 : (f 66 5 = 1) = (tK X c = 1) := by rw [h5, q_1, q_eqI (by omega) (by omega)]
  have sig : x_rd_isSign_0 (f, g) 40 = rI (tb (sg X c 40)) (f, g) := c_isSign xo f g hT (v := 40) (by omega)
  rw [h0 R hR]
  unfold dpF
  by_cases c2 : tK X c = 2
  · rw [if_pos (show f 66 5 = 2 by rw [i2]; exact c2), if_pos (Or.inl c2)]; exact r2
  rw [if_neg (show ¬ f 66 5 = 2 by rw [i2]; exact c2)]
  by_cases c1 : tK X c = 1
  · rw [if_pos (show f 66 5 = 1 by rw [i1]; exact c1), if_pos (Or.inr (Or.inl c1))]; exact r2
  rw [if_neg (show ¬ f 66 5 = 1 by rw [i1]; exact c1), sig, c_I]
  cases k : sg X c 40 with
  | true =>
    rw [if_pos (show tK X c = 2 ∨ tK X c = 1 ∨ true = true from Or.inr (Or.inr rfl)), if_neg (show ¬ tb true = 0 by decide)]
    exact r2
  | false =>
    rw [if_neg (show ¬ (tK X c = 2 ∨ tK X c = 1 ∨ false = true) from fun y => y.elim c2 (fun y => y.elim c1 (fun y => Bool.noConfusion y))), if_pos (show tb false = 0 from rfl)]
    exact r1
