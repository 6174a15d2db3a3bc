/-! questions -/
theorem Qn_err {A : mu_A} {f : Nat → Nat → Int32} {b m : en_S → Option en_O} {k : Nat → Nat} (ok : AOK A) (hM : MRel A f) (e : Nat) (he : e = 1 ∨ e = 2) (hb : ∀ g, b (f, g) = some (.inr e, (f, g))) (hm : ∀ f0 f2 g, MRel A f0 → f0 0 0 = nI 0 → f0 = en_u1 f2 0 0 0 → m (f2, g) = rI (nI 0) (en_u1 f0 0 0 (nI (k e)), g)) : Qn f b m k := by
  refine ⟨.inr e, fun g => ⟨f, hb g, QC_refl f⟩, fun e' h => (by cases h; exact he), fun f2 g h2 => ?_⟩
  have M0 : MRel A (en_u1 f2 0 0 0) := MRel_Q ok (MRel_hi ok hM h2) (QM_u0 _ _ (by omega))
  refine ⟨nI 0, _, hm _ f2 g M0 (u1_at _ _ _ _) rfl, u1_at _ _ _ _, fun w h => (by cases h), QM_trans (QM_u0 _ _ (by omega)) (QM_u0 _ _ (by omega))⟩
theorem Qn_val {A : mu_A} {f : Nat → Nat → Int32} {b m : en_S → Option en_O} {k : Nat → Nat} (ok : AOK A) (hM : MRel A f) (hk : k 0 = 0) (v : Int32) (hb : ∀ g, ∃ f', b (f, g) = rI v (f', g) ∧ QC f f') (hm : ∀ f0 f2 g, MRel A f0 → f0 0 0 = nI 0 → f0 = en_u1 f2 0 0 0 → ∃ f3, m (f2, g) = rI v (f3, g) ∧ f3 0 0 = nI 0 ∧ QM f0 f3) : Qn f b m k := by
  refine ⟨.inl v, hb, fun e' h => by (exact absurd h (by intro h'; cases h')), fun f2 g h2 => ?_⟩
  have M0 : MRel A (en_u1 f2 0 0 0) := MRel_Q ok (MRel_hi ok hM h2) (QM_u0 _ _ (by omega))
  obtain ⟨f3, e3, z3, q3⟩ := hm _ f2 g M0 (u1_at _ _ _ _) rfl
  exact ⟨v, f3, e3, by rw [z3]; show nI 0 = nI (k 0); rw [hk], fun w h => (by cases h; rfl), QM_trans (QM_u0 _ _ (by omega)) q3⟩
