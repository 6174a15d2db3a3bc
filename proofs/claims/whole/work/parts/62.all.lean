/-! ALL THAT THE ENGINE NEEDS, for this claim -/
def bb_kc (e : Nat × (Int32 ⊕ Nat)) : Bool := match e.2 with
  | .inr q => (e.1 / 100000 == 4) && bb_st.any (fun z => (z.1.1 == e.1 % 100000) && (q == 1000 + z.2) && decide (z.2 < 18))
  | .inl _ => true
theorem bb_kc_ok : bk_c.all bb_kc = true := by decide +kernel
theorem bb_kt_ok : (bk_t.all fun e => e.1 / 100000000 == 10) = true := by decide +kernel
section BA
variable {l : Launch} {adK adV : Nat → Nat} {cA : Nat → ClassId} {D : va_G} {A : Nat → Prop} {ad : Nat → Nat}
theorem bb_strs (had : ∀ i, ad (1000 + i) = adK (bb_ix i)) {U : State} {H : Heap} (hF : bb_FX adK adV A U H) : ∀ mi idx q, en_KC bb_G mi idx = some (.inr q) → ∃ tx, vk_R (bb_own mi) idx tx (ad q) U := by
  intro mi idx q h
  have h0 : (if idx < 100000 then en_as bk_c (100000 * bb_cc mi + idx) else none) = some (.inr q) := h
  split at h0
  · next hi =>
    have h1 := List.all_eq_true.mp bb_kc_ok _ (en_as_mem h0)
    simp only [bb_kc, (bb_key hi).1, (bb_key hi).2, Bool.and_eq_true, beq_iff_eq, List.any_eq_true, decide_eq_true_eq] at h1
    obtain ⟨h2, z, hz, ⟨h3, h4⟩, h5⟩ := h1
    have e1 : bb_own mi = "BoxBearers$Reader" := by
      show bb_ow.getD (bb_cc mi) "" = _
      rw [h2]
      decide +kernel
    refine ⟨z.1.2, ?_⟩
    rw [e1, h4, had, ← h3, show bb_ix z.2 = z.2 from if_pos h5]
    exact hF.2.2.2.2.2.1 z hz
  · cases h0
theorem bb_hNo : ∀ mi pc x, bb_HD mi pc x = none → bb_hh mi = [] := by
  intro mi pc x h
  unfold bb_HD at h
  unfold bb_hh
  split at h
  · next h12 =>
    split at h
    · next z hz =>
      exfalso
      have key : ∀ (b : Bool) (u v : Option (Nat × Nat)), u ≠ none → v ≠ none → cond b u v ≠ none := by
        intro b u v h1 h2
        cases b
        · exact h2
        · exact h1
      refine key _ _ _ ?_ (by simp) h
      unfold bb_hq
      split
      · simp
      · split <;> simp
    · next hz => first | rfl | rw [hz]
  · rfl
theorem bb_hTh : ∀ mi pc x, en_TH bb_G mi pc = some x → bb_hh mi = [] := by
  intro mi pc x h
  have h0 : (if pc < 100000 then en_as bk_t (100000 * mi + pc) else none) = some x := h
  split at h0
  · next hp =>
    have h1 := List.all_eq_true.mp bb_kt_ok _ (en_as_mem h0)
    simp only [beq_iff_eq] at h1
    have h2 : mi / 1000 = 10 := by omega
    unfold bb_hh
    rw [h2]
    rfl
  · cases h0
theorem bb_ALL (hl : l.stackTraces = false) (had : ∀ i, ad (1000 + i) = adK (bb_ix i)) (hinj : ∀ i j, i < 106 → j < 106 → ad i = ad j → i = j) (hA : ∀ i, i < 106 → A (ad i)) :
    en_ALL l bb_G bb_P bb_ML bb_HD ad cA D bb_cl A bb_T bb_ty bb_own bb_yN bb_CD bb_hh bb_XN bb_fr bb_lo (bb_FX adK adV A) :=
  ⟨bb_TF, bb_T_good, fun σ => en_D (fun i j hi hj => hinj i j (by rw [← bd_sh_len]; exact hi) (by rw [← bd_sh_len]; exact hj)) (fun i hi => hA i (by rw [← bd_sh_len]; exact hi)) σ, fun u U H hW h => bb_FX_warm hW h, fun U H H1 h hq => bb_FX_kept h hq, fun U H h => bb_CF h.1, fun U H h => bb_strs had h, bb_RTh hl, bb_RSt had, bb_RHd, bb_hNo, bb_hTh⟩
end BA
