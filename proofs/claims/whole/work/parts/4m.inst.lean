/-! written by q11.py: the class's reader, level by level -/
noncomputable def yE6 (R : Nat) (σ : en_S) : Option en_O := if R = 60 then x_rd_readExpr_6_p60_0 σ (nI 6) else x_rd_readExpr_6_p63_0 σ (nI 6)
theorem yE6_E {X : mu_X} (xo : XOK X) {B : Nat} : LvE X 6 B yE6 := by
  refine lv_six xo ?_
  intro R hR σ
  rcases hR with h | h
  · subst h
    show x_rd_readExpr_6_p60_0 σ (nI 6) = _
    rw [e_rd_readExpr_6_p60_0, if_neg (by decide)]
  · subst h
    show x_rd_readExpr_6_p63_0 σ (nI 6) = _
    rw [e_rd_readExpr_6_p63_0, if_neg (by decide)]
noncomputable def yE5 (R : Nat) (σ : en_S) : Option en_O := if R = 60 then x_rd_readExpr_5_p60_0 σ (nI 5) else x_rd_readExpr_5_p63_0 σ (nI 5)
noncomputable def yF5 (R : Nat) (σ : en_S) (v3 : Int32) : Option en_O := if R = 60 then x_rd_readExpr_5_p60_48 σ (nI 5) v3 else x_rd_readExpr_5_p63_48 σ (nI 5) v3
noncomputable def yA5 (R : Nat) (σ : en_S) : Option en_O := if R = 60 then x_rd_readAnd_5_p60_0 σ (nI 5) else x_rd_readAnd_5_p63_0 σ (nI 5)
noncomputable def yB5 (R : Nat) (σ : en_S) (v3 : Int32) : Option en_O := if R = 60 then x_rd_readAnd_5_p60_8 σ (nI 5) v3 else x_rd_readAnd_5_p63_8 σ (nI 5) v3
noncomputable def yN5 (R : Nat) (σ : en_S) : Option en_O := if R = 60 then x_rd_readNot_5_p60_0 σ (nI 5) else x_rd_readNot_5_p63_0 σ (nI 5)
noncomputable def yO5 (R : Nat) (σ : en_S) (v3 : Int32) : Option en_O := if R = 60 then x_rd_readNot_5_p60_2 σ (nI 5) v3 else x_rd_readNot_5_p63_2 σ (nI 5) v3
noncomputable def yQ5 (R : Nat) (σ : en_S) (v3 : Int32) : Option en_O := if R = 60 then x_rd_readNot_5_p60_73 σ (nI 5) v3 else x_rd_readNot_5_p63_73 σ (nI 5) v3
noncomputable def yR5 (R : Nat) (σ : en_S) (v3 v4 : Int32) : Option en_O := if R = 60 then x_rd_readNot_5_p60_110 σ v3 v4 else x_rd_readNot_5_p63_110 σ v3 v4
noncomputable def yS5 (R : Nat) (σ : en_S) : Option en_O := if R = 60 then x_rd_readSum_5_p60_0 σ (nI 5) else x_rd_readSum_5_p63_0 σ (nI 5)
noncomputable def yT5 (R : Nat) (σ : en_S) (v3 : Int32) : Option en_O := if R = 60 then x_rd_readSum_5_p60_8 σ (nI 5) v3 else x_rd_readSum_5_p63_8 σ (nI 5) v3
noncomputable def yU5 (R : Nat) (σ : en_S) (v3 t0 : Int32) : Option en_O := if R = 60 then x_rd_readSum_5_p60_56 σ (nI 5) v3 t0 else x_rd_readSum_5_p63_56 σ (nI 5) v3 t0
noncomputable def yP5 (R : Nat) (σ : en_S) : Option en_O := if R = 60 then x_rd_readProduct_5_p60_0 σ (nI 5) else x_rd_readProduct_5_p63_0 σ (nI 5)
noncomputable def yV5 (R : Nat) (σ : en_S) (v3 : Int32) : Option en_O := if R = 60 then x_rd_readProduct_5_p60_8 σ (nI 5) v3 else x_rd_readProduct_5_p63_8 σ (nI 5) v3
noncomputable def yW5 (R : Nat) (σ : en_S) (v3 t0 : Int32) : Option en_O := if R = 60 then x_rd_readProduct_5_p60_56 σ (nI 5) v3 t0 else x_rd_readProduct_5_p63_56 σ (nI 5) v3 t0
noncomputable def yX5 (R : Nat) (σ : en_S) : Option en_O := if R = 60 then x_rd_readPart_5_p60_0 σ (nI 5) else x_rd_readPart_5_p63_0 σ (nI 5)
theorem yX5_L {X : mu_X} (xo : XOK X) : Lv X 7 5 1 yX5 isQ := by
  refine lv_part xo (by omega) (by omega) (xE := yE6) ?_ (yE6_E xo)
  · intro R hR σ
    rcases hR with h | h
    · subst h
      show x_rd_readPart_5_p60_0 σ (nI 5) = _
      rw [e_rd_readPart_5_p60_0, nI_1]
      rfl
    · subst h
      show x_rd_readPart_5_p63_0 σ (nI 5) = _
      rw [e_rd_readPart_5_p63_0, nI_1]
      rfl
theorem yP5_L {X : mu_X} (xo : XOK X) : Lv X 6 5 2 yP5 isQ := by
  refine lv_prod xo (by omega) (x8 := yV5) (x56 := yW5) ?_ ?_ ?_ (yX5_L xo)
  · intro R hR σ
    rcases hR with h | h
    · subst h
      show x_rd_readProduct_5_p60_0 σ (nI 5) = _
      exact e_rd_readProduct_5_p60_0 σ (nI 5)
    · subst h
      show x_rd_readProduct_5_p63_0 σ (nI 5) = _
      exact e_rd_readProduct_5_p63_0 σ (nI 5)
  · intro R hR σ v3
    rcases hR with h | h
    · subst h
      show x_rd_readProduct_5_p60_8 σ (nI 5) v3 = _
      exact e_rd_readProduct_5_p60_8 σ (nI 5) v3
    · subst h
      show x_rd_readProduct_5_p63_8 σ (nI 5) v3 = _
      exact e_rd_readProduct_5_p63_8 σ (nI 5) v3
  · intro R hR σ v3 t0
    rcases hR with h | h
    · subst h
      show x_rd_readProduct_5_p60_56 σ (nI 5) v3 t0 = _
      exact e_rd_readProduct_5_p60_56 σ (nI 5) v3 t0
    · subst h
      show x_rd_readProduct_5_p63_56 σ (nI 5) v3 t0 = _
      exact e_rd_readProduct_5_p63_56 σ (nI 5) v3 t0
theorem yS5_L {X : mu_X} (xo : XOK X) : Lv X 5 5 3 yS5 isQ := by
  refine lv_sum xo (by omega) (x8 := yT5) (x56 := yU5) ?_ ?_ ?_ (yP5_L xo)
  · intro R hR σ
    rcases hR with h | h
    · subst h
      show x_rd_readSum_5_p60_0 σ (nI 5) = _
      exact e_rd_readSum_5_p60_0 σ (nI 5)
    · subst h
      show x_rd_readSum_5_p63_0 σ (nI 5) = _
      exact e_rd_readSum_5_p63_0 σ (nI 5)
  · intro R hR σ v3
    rcases hR with h | h
    · subst h
      show x_rd_readSum_5_p60_8 σ (nI 5) v3 = _
      exact e_rd_readSum_5_p60_8 σ (nI 5) v3
    · subst h
      show x_rd_readSum_5_p63_8 σ (nI 5) v3 = _
      exact e_rd_readSum_5_p63_8 σ (nI 5) v3
  · intro R hR σ v3 t0
    rcases hR with h | h
    · subst h
      show x_rd_readSum_5_p60_56 σ (nI 5) v3 t0 = _
      exact e_rd_readSum_5_p60_56 σ (nI 5) v3 t0
    · subst h
      show x_rd_readSum_5_p63_56 σ (nI 5) v3 t0 = _
      exact e_rd_readSum_5_p63_56 σ (nI 5) v3 t0
theorem yN5_L {X : mu_X} (xo : XOK X) : Lv X 3 5 4 yN5 isO := by
  refine lv_not xo (by omega) (by omega) (x2 := yO5) (x73 := yQ5) (x110 := yR5) ?_ ?_ ?_ ?_ (yS5_L xo)
  · intro R hR σ
    rcases hR with h | h
    · subst h
      show x_rd_readNot_5_p60_0 σ (nI 5) = _
      exact e_rd_readNot_5_p60_0 σ (nI 5)
    · subst h
      show x_rd_readNot_5_p63_0 σ (nI 5) = _
      exact e_rd_readNot_5_p63_0 σ (nI 5)
  · intro R hR σ v3
    rcases hR with h | h
    · subst h
      show x_rd_readNot_5_p60_2 σ (nI 5) v3 = _
      exact e_rd_readNot_5_p60_2 σ (nI 5) v3
    · subst h
      show x_rd_readNot_5_p63_2 σ (nI 5) v3 = _
      exact e_rd_readNot_5_p63_2 σ (nI 5) v3
  · intro R hR σ v3
    rcases hR with h | h
    · subst h
      show x_rd_readNot_5_p60_73 σ (nI 5) v3 = _
      exact e_rd_readNot_5_p60_73 σ (nI 5) v3
    · subst h
      show x_rd_readNot_5_p63_73 σ (nI 5) v3 = _
      exact e_rd_readNot_5_p63_73 σ (nI 5) v3
  · intro R hR σ v3 v4
    rcases hR with h | h
    · subst h
      show x_rd_readNot_5_p60_110 σ v3 v4 = _
      exact e_rd_readNot_5_p60_110 σ v3 v4
    · subst h
      show x_rd_readNot_5_p63_110 σ v3 v4 = _
      exact e_rd_readNot_5_p63_110 σ v3 v4
theorem yA5_L {X : mu_X} (xo : XOK X) : Lv X 2 5 5 yA5 isO := by
  refine lv_wrd xo (s := 2) (w := 14) (S := -10) (by omega) (Or.inl ⟨rfl, rfl, rfl⟩) (by omega) (x8 := yB5) (xW := x_rd_isWord_p1009_0) (fun c f g hT => c_w14 xo f g hT) ?_ ?_ (yN5_L xo)
  · intro R hR σ
    rcases hR with h | h
    · subst h
      show x_rd_readAnd_5_p60_0 σ (nI 5) = _
      exact e_rd_readAnd_5_p60_0 σ (nI 5)
    · subst h
      show x_rd_readAnd_5_p63_0 σ (nI 5) = _
      exact e_rd_readAnd_5_p63_0 σ (nI 5)
  · intro R hR σ v3
    rcases hR with h | h
    · subst h
      show x_rd_readAnd_5_p60_8 σ (nI 5) v3 = _
      exact e_rd_readAnd_5_p60_8 σ (nI 5) v3
    · subst h
      show x_rd_readAnd_5_p63_8 σ (nI 5) v3 = _
      exact e_rd_readAnd_5_p63_8 σ (nI 5) v3
theorem yE5_L {X : mu_X} (xo : XOK X) : Lv X 1 5 6 yE5 isO := by
  refine lv_wrd xo (s := 1) (w := 15) (S := -9) (by omega) (Or.inr ⟨rfl, rfl, rfl⟩) (by omega) (x8 := yF5) (xW := x_rd_isWord_p1008_0) (fun c f g hT => c_w15 xo f g hT) ?_ ?_ (yA5_L xo)
  · intro R hR σ
    rcases hR with h | h
    · subst h
      show x_rd_readExpr_5_p60_0 σ (nI 5) = _
      rw [e_rd_readExpr_5_p60_0, if_pos (by decide)]
      rfl
    · subst h
      show x_rd_readExpr_5_p63_0 σ (nI 5) = _
      rw [e_rd_readExpr_5_p63_0, if_pos (by decide)]
      rfl
  · intro R hR σ v3
    rcases hR with h | h
    · subst h
      show x_rd_readExpr_5_p60_48 σ (nI 5) v3 = _
      exact e_rd_readExpr_5_p60_48 σ (nI 5) v3
    · subst h
      show x_rd_readExpr_5_p63_48 σ (nI 5) v3 = _
      exact e_rd_readExpr_5_p63_48 σ (nI 5) v3
theorem yE5_E {X : mu_X} (xo : XOK X) : LvE X 5 6 yE5 := lv_expr (by omega) (yE5_L xo)
noncomputable def yE4 (R : Nat) (σ : en_S) : Option en_O := if R = 60 then x_rd_readExpr_4_p60_0 σ (nI 4) else x_rd_readExpr_4_p63_0 σ (nI 4)
noncomputable def yF4 (R : Nat) (σ : en_S) (v3 : Int32) : Option en_O := if R = 60 then x_rd_readExpr_4_p60_48 σ (nI 4) v3 else x_rd_readExpr_4_p63_48 σ (nI 4) v3
noncomputable def yA4 (R : Nat) (σ : en_S) : Option en_O := if R = 60 then x_rd_readAnd_4_p60_0 σ (nI 4) else x_rd_readAnd_4_p63_0 σ (nI 4)
noncomputable def yB4 (R : Nat) (σ : en_S) (v3 : Int32) : Option en_O := if R = 60 then x_rd_readAnd_4_p60_8 σ (nI 4) v3 else x_rd_readAnd_4_p63_8 σ (nI 4) v3
noncomputable def yN4 (R : Nat) (σ : en_S) : Option en_O := if R = 60 then x_rd_readNot_4_p60_0 σ (nI 4) else x_rd_readNot_4_p63_0 σ (nI 4)
noncomputable def yO4 (R : Nat) (σ : en_S) (v3 : Int32) : Option en_O := if R = 60 then x_rd_readNot_4_p60_2 σ (nI 4) v3 else x_rd_readNot_4_p63_2 σ (nI 4) v3
noncomputable def yQ4 (R : Nat) (σ : en_S) (v3 : Int32) : Option en_O := if R = 60 then x_rd_readNot_4_p60_73 σ (nI 4) v3 else x_rd_readNot_4_p63_73 σ (nI 4) v3
noncomputable def yR4 (R : Nat) (σ : en_S) (v3 v4 : Int32) : Option en_O := if R = 60 then x_rd_readNot_4_p60_110 σ v3 v4 else x_rd_readNot_4_p63_110 σ v3 v4
noncomputable def yS4 (R : Nat) (σ : en_S) : Option en_O := if R = 60 then x_rd_readSum_4_p60_0 σ (nI 4) else x_rd_readSum_4_p63_0 σ (nI 4)
noncomputable def yT4 (R : Nat) (σ : en_S) (v3 : Int32) : Option en_O := if R = 60 then x_rd_readSum_4_p60_8 σ (nI 4) v3 else x_rd_readSum_4_p63_8 σ (nI 4) v3
noncomputable def yU4 (R : Nat) (σ : en_S) (v3 t0 : Int32) : Option en_O := if R = 60 then x_rd_readSum_4_p60_56 σ (nI 4) v3 t0 else x_rd_readSum_4_p63_56 σ (nI 4) v3 t0
noncomputable def yP4 (R : Nat) (σ : en_S) : Option en_O := if R = 60 then x_rd_readProduct_4_p60_0 σ (nI 4) else x_rd_readProduct_4_p63_0 σ (nI 4)
noncomputable def yV4 (R : Nat) (σ : en_S) (v3 : Int32) : Option en_O := if R = 60 then x_rd_readProduct_4_p60_8 σ (nI 4) v3 else x_rd_readProduct_4_p63_8 σ (nI 4) v3
noncomputable def yW4 (R : Nat) (σ : en_S) (v3 t0 : Int32) : Option en_O := if R = 60 then x_rd_readProduct_4_p60_56 σ (nI 4) v3 t0 else x_rd_readProduct_4_p63_56 σ (nI 4) v3 t0
noncomputable def yX4 (R : Nat) (σ : en_S) : Option en_O := if R = 60 then x_rd_readPart_4_p60_0 σ (nI 4) else x_rd_readPart_4_p63_0 σ (nI 4)
theorem yX4_L {X : mu_X} (xo : XOK X) : Lv X 7 4 6 yX4 isQ := by
  refine lv_part xo (by omega) (by omega) (xE := yE5) ?_ (yE5_E xo)
  · intro R hR σ
    rcases hR with h | h
    · subst h
      show x_rd_readPart_4_p60_0 σ (nI 4) = _
      rw [e_rd_readPart_4_p60_0, nI_1]
      rfl
    · subst h
      show x_rd_readPart_4_p63_0 σ (nI 4) = _
      rw [e_rd_readPart_4_p63_0, nI_1]
      rfl
theorem yP4_L {X : mu_X} (xo : XOK X) : Lv X 6 4 7 yP4 isQ := by
  refine lv_prod xo (by omega) (x8 := yV4) (x56 := yW4) ?_ ?_ ?_ (yX4_L xo)
  · intro R hR σ
    rcases hR with h | h
    · subst h
      show x_rd_readProduct_4_p60_0 σ (nI 4) = _
      exact e_rd_readProduct_4_p60_0 σ (nI 4)
    · subst h
      show x_rd_readProduct_4_p63_0 σ (nI 4) = _
      exact e_rd_readProduct_4_p63_0 σ (nI 4)
  · intro R hR σ v3
    rcases hR with h | h
    · subst h
      show x_rd_readProduct_4_p60_8 σ (nI 4) v3 = _
      exact e_rd_readProduct_4_p60_8 σ (nI 4) v3
    · subst h
      show x_rd_readProduct_4_p63_8 σ (nI 4) v3 = _
      exact e_rd_readProduct_4_p63_8 σ (nI 4) v3
  · intro R hR σ v3 t0
    rcases hR with h | h
    · subst h
      show x_rd_readProduct_4_p60_56 σ (nI 4) v3 t0 = _
      exact e_rd_readProduct_4_p60_56 σ (nI 4) v3 t0
    · subst h
      show x_rd_readProduct_4_p63_56 σ (nI 4) v3 t0 = _
      exact e_rd_readProduct_4_p63_56 σ (nI 4) v3 t0
theorem yS4_L {X : mu_X} (xo : XOK X) : Lv X 5 4 8 yS4 isQ := by
  refine lv_sum xo (by omega) (x8 := yT4) (x56 := yU4) ?_ ?_ ?_ (yP4_L xo)
  · intro R hR σ
    rcases hR with h | h
    · subst h
      show x_rd_readSum_4_p60_0 σ (nI 4) = _
      exact e_rd_readSum_4_p60_0 σ (nI 4)
    · subst h
      show x_rd_readSum_4_p63_0 σ (nI 4) = _
      exact e_rd_readSum_4_p63_0 σ (nI 4)
  · intro R hR σ v3
    rcases hR with h | h
    · subst h
      show x_rd_readSum_4_p60_8 σ (nI 4) v3 = _
      exact e_rd_readSum_4_p60_8 σ (nI 4) v3
    · subst h
      show x_rd_readSum_4_p63_8 σ (nI 4) v3 = _
      exact e_rd_readSum_4_p63_8 σ (nI 4) v3
  · intro R hR σ v3 t0
    rcases hR with h | h
    · subst h
      show x_rd_readSum_4_p60_56 σ (nI 4) v3 t0 = _
      exact e_rd_readSum_4_p60_56 σ (nI 4) v3 t0
    · subst h
      show x_rd_readSum_4_p63_56 σ (nI 4) v3 t0 = _
      exact e_rd_readSum_4_p63_56 σ (nI 4) v3 t0
theorem yN4_L {X : mu_X} (xo : XOK X) : Lv X 3 4 9 yN4 isO := by
  refine lv_not xo (by omega) (by omega) (x2 := yO4) (x73 := yQ4) (x110 := yR4) ?_ ?_ ?_ ?_ (yS4_L xo)
  · intro R hR σ
    rcases hR with h | h
    · subst h
      show x_rd_readNot_4_p60_0 σ (nI 4) = _
      exact e_rd_readNot_4_p60_0 σ (nI 4)
    · subst h
      show x_rd_readNot_4_p63_0 σ (nI 4) = _
      exact e_rd_readNot_4_p63_0 σ (nI 4)
  · intro R hR σ v3
    rcases hR with h | h
    · subst h
      show x_rd_readNot_4_p60_2 σ (nI 4) v3 = _
      exact e_rd_readNot_4_p60_2 σ (nI 4) v3
    · subst h
      show x_rd_readNot_4_p63_2 σ (nI 4) v3 = _
      exact e_rd_readNot_4_p63_2 σ (nI 4) v3
  · intro R hR σ v3
    rcases hR with h | h
    · subst h
      show x_rd_readNot_4_p60_73 σ (nI 4) v3 = _
      exact e_rd_readNot_4_p60_73 σ (nI 4) v3
    · subst h
      show x_rd_readNot_4_p63_73 σ (nI 4) v3 = _
      exact e_rd_readNot_4_p63_73 σ (nI 4) v3
  · intro R hR σ v3 v4
    rcases hR with h | h
    · subst h
      show x_rd_readNot_4_p60_110 σ v3 v4 = _
      exact e_rd_readNot_4_p60_110 σ v3 v4
    · subst h
      show x_rd_readNot_4_p63_110 σ v3 v4 = _
      exact e_rd_readNot_4_p63_110 σ v3 v4
theorem yA4_L {X : mu_X} (xo : XOK X) : Lv X 2 4 10 yA4 isO := by
  refine lv_wrd xo (s := 2) (w := 14) (S := -10) (by omega) (Or.inl ⟨rfl, rfl, rfl⟩) (by omega) (x8 := yB4) (xW := x_rd_isWord_p1009_0) (fun c f g hT => c_w14 xo f g hT) ?_ ?_ (yN4_L xo)
  · intro R hR σ
    rcases hR with h | h
    · subst h
      show x_rd_readAnd_4_p60_0 σ (nI 4) = _
      exact e_rd_readAnd_4_p60_0 σ (nI 4)
    · subst h
      show x_rd_readAnd_4_p63_0 σ (nI 4) = _
      exact e_rd_readAnd_4_p63_0 σ (nI 4)
  · intro R hR σ v3
    rcases hR with h | h
    · subst h
      show x_rd_readAnd_4_p60_8 σ (nI 4) v3 = _
      exact e_rd_readAnd_4_p60_8 σ (nI 4) v3
    · subst h
      show x_rd_readAnd_4_p63_8 σ (nI 4) v3 = _
      exact e_rd_readAnd_4_p63_8 σ (nI 4) v3
theorem yE4_L {X : mu_X} (xo : XOK X) : Lv X 1 4 11 yE4 isO := by
  refine lv_wrd xo (s := 1) (w := 15) (S := -9) (by omega) (Or.inr ⟨rfl, rfl, rfl⟩) (by omega) (x8 := yF4) (xW := x_rd_isWord_p1008_0) (fun c f g hT => c_w15 xo f g hT) ?_ ?_ (yA4_L xo)
  · intro R hR σ
    rcases hR with h | h
    · subst h
      show x_rd_readExpr_4_p60_0 σ (nI 4) = _
      rw [e_rd_readExpr_4_p60_0, if_pos (by decide)]
      rfl
    · subst h
      show x_rd_readExpr_4_p63_0 σ (nI 4) = _
      rw [e_rd_readExpr_4_p63_0, if_pos (by decide)]
      rfl
  · intro R hR σ v3
    rcases hR with h | h
    · subst h
      show x_rd_readExpr_4_p60_48 σ (nI 4) v3 = _
      exact e_rd_readExpr_4_p60_48 σ (nI 4) v3
    · subst h
      show x_rd_readExpr_4_p63_48 σ (nI 4) v3 = _
      exact e_rd_readExpr_4_p63_48 σ (nI 4) v3
theorem yE4_E {X : mu_X} (xo : XOK X) : LvE X 4 11 yE4 := lv_expr (by omega) (yE4_L xo)
noncomputable def yE3 (R : Nat) (σ : en_S) : Option en_O := if R = 60 then x_rd_readExpr_3_p60_0 σ (nI 3) else x_rd_readExpr_3_p63_0 σ (nI 3)
noncomputable def yF3 (R : Nat) (σ : en_S) (v3 : Int32) : Option en_O := if R = 60 then x_rd_readExpr_3_p60_48 σ (nI 3) v3 else x_rd_readExpr_3_p63_48 σ (nI 3) v3
noncomputable def yA3 (R : Nat) (σ : en_S) : Option en_O := if R = 60 then x_rd_readAnd_3_p60_0 σ (nI 3) else x_rd_readAnd_3_p63_0 σ (nI 3)
noncomputable def yB3 (R : Nat) (σ : en_S) (v3 : Int32) : Option en_O := if R = 60 then x_rd_readAnd_3_p60_8 σ (nI 3) v3 else x_rd_readAnd_3_p63_8 σ (nI 3) v3
noncomputable def yN3 (R : Nat) (σ : en_S) : Option en_O := if R = 60 then x_rd_readNot_3_p60_0 σ (nI 3) else x_rd_readNot_3_p63_0 σ (nI 3)
noncomputable def yO3 (R : Nat) (σ : en_S) (v3 : Int32) : Option en_O := if R = 60 then x_rd_readNot_3_p60_2 σ (nI 3) v3 else x_rd_readNot_3_p63_2 σ (nI 3) v3
noncomputable def yQ3 (R : Nat) (σ : en_S) (v3 : Int32) : Option en_O := if R = 60 then x_rd_readNot_3_p60_73 σ (nI 3) v3 else x_rd_readNot_3_p63_73 σ (nI 3) v3
noncomputable def yR3 (R : Nat) (σ : en_S) (v3 v4 : Int32) : Option en_O := if R = 60 then x_rd_readNot_3_p60_110 σ v3 v4 else x_rd_readNot_3_p63_110 σ v3 v4
noncomputable def yS3 (R : Nat) (σ : en_S) : Option en_O := if R = 60 then x_rd_readSum_3_p60_0 σ (nI 3) else x_rd_readSum_3_p63_0 σ (nI 3)
noncomputable def yT3 (R : Nat) (σ : en_S) (v3 : Int32) : Option en_O := if R = 60 then x_rd_readSum_3_p60_8 σ (nI 3) v3 else x_rd_readSum_3_p63_8 σ (nI 3) v3
noncomputable def yU3 (R : Nat) (σ : en_S) (v3 t0 : Int32) : Option en_O := if R = 60 then x_rd_readSum_3_p60_56 σ (nI 3) v3 t0 else x_rd_readSum_3_p63_56 σ (nI 3) v3 t0
noncomputable def yP3 (R : Nat) (σ : en_S) : Option en_O := if R = 60 then x_rd_readProduct_3_p60_0 σ (nI 3) else x_rd_readProduct_3_p63_0 σ (nI 3)
noncomputable def yV3 (R : Nat) (σ : en_S) (v3 : Int32) : Option en_O := if R = 60 then x_rd_readProduct_3_p60_8 σ (nI 3) v3 else x_rd_readProduct_3_p63_8 σ (nI 3) v3
noncomputable def yW3 (R : Nat) (σ : en_S) (v3 t0 : Int32) : Option en_O := if R = 60 then x_rd_readProduct_3_p60_56 σ (nI 3) v3 t0 else x_rd_readProduct_3_p63_56 σ (nI 3) v3 t0
noncomputable def yX3 (R : Nat) (σ : en_S) : Option en_O := if R = 60 then x_rd_readPart_3_p60_0 σ (nI 3) else x_rd_readPart_3_p63_0 σ (nI 3)
theorem yX3_L {X : mu_X} (xo : XOK X) : Lv X 7 3 11 yX3 isQ := by
  refine lv_part xo (by omega) (by omega) (xE := yE4) ?_ (yE4_E xo)
  · intro R hR σ
    rcases hR with h | h
    · subst h
      show x_rd_readPart_3_p60_0 σ (nI 3) = _
      rw [e_rd_readPart_3_p60_0, nI_1]
      rfl
    · subst h
      show x_rd_readPart_3_p63_0 σ (nI 3) = _
      rw [e_rd_readPart_3_p63_0, nI_1]
      rfl
theorem yP3_L {X : mu_X} (xo : XOK X) : Lv X 6 3 12 yP3 isQ := by
  refine lv_prod xo (by omega) (x8 := yV3) (x56 := yW3) ?_ ?_ ?_ (yX3_L xo)
  · intro R hR σ
    rcases hR with h | h
    · subst h
      show x_rd_readProduct_3_p60_0 σ (nI 3) = _
      exact e_rd_readProduct_3_p60_0 σ (nI 3)
    · subst h
      show x_rd_readProduct_3_p63_0 σ (nI 3) = _
      exact e_rd_readProduct_3_p63_0 σ (nI 3)
  · intro R hR σ v3
    rcases hR with h | h
    · subst h
      show x_rd_readProduct_3_p60_8 σ (nI 3) v3 = _
      exact e_rd_readProduct_3_p60_8 σ (nI 3) v3
    · subst h
      show x_rd_readProduct_3_p63_8 σ (nI 3) v3 = _
      exact e_rd_readProduct_3_p63_8 σ (nI 3) v3
  · intro R hR σ v3 t0
    rcases hR with h | h
    · subst h
      show x_rd_readProduct_3_p60_56 σ (nI 3) v3 t0 = _
      exact e_rd_readProduct_3_p60_56 σ (nI 3) v3 t0
    · subst h
      show x_rd_readProduct_3_p63_56 σ (nI 3) v3 t0 = _
      exact e_rd_readProduct_3_p63_56 σ (nI 3) v3 t0
theorem yS3_L {X : mu_X} (xo : XOK X) : Lv X 5 3 13 yS3 isQ := by
  refine lv_sum xo (by omega) (x8 := yT3) (x56 := yU3) ?_ ?_ ?_ (yP3_L xo)
  · intro R hR σ
    rcases hR with h | h
    · subst h
      show x_rd_readSum_3_p60_0 σ (nI 3) = _
      exact e_rd_readSum_3_p60_0 σ (nI 3)
    · subst h
      show x_rd_readSum_3_p63_0 σ (nI 3) = _
      exact e_rd_readSum_3_p63_0 σ (nI 3)
  · intro R hR σ v3
    rcases hR with h | h
    · subst h
      show x_rd_readSum_3_p60_8 σ (nI 3) v3 = _
      exact e_rd_readSum_3_p60_8 σ (nI 3) v3
    · subst h
      show x_rd_readSum_3_p63_8 σ (nI 3) v3 = _
      exact e_rd_readSum_3_p63_8 σ (nI 3) v3
  · intro R hR σ v3 t0
    rcases hR with h | h
    · subst h
      show x_rd_readSum_3_p60_56 σ (nI 3) v3 t0 = _
      exact e_rd_readSum_3_p60_56 σ (nI 3) v3 t0
    · subst h
      show x_rd_readSum_3_p63_56 σ (nI 3) v3 t0 = _
      exact e_rd_readSum_3_p63_56 σ (nI 3) v3 t0
theorem yN3_L {X : mu_X} (xo : XOK X) : Lv X 3 3 14 yN3 isO := by
  refine lv_not xo (by omega) (by omega) (x2 := yO3) (x73 := yQ3) (x110 := yR3) ?_ ?_ ?_ ?_ (yS3_L xo)
  · intro R hR σ
    rcases hR with h | h
    · subst h
      show x_rd_readNot_3_p60_0 σ (nI 3) = _
      exact e_rd_readNot_3_p60_0 σ (nI 3)
    · subst h
      show x_rd_readNot_3_p63_0 σ (nI 3) = _
      exact e_rd_readNot_3_p63_0 σ (nI 3)
  · intro R hR σ v3
    rcases hR with h | h
    · subst h
      show x_rd_readNot_3_p60_2 σ (nI 3) v3 = _
      exact e_rd_readNot_3_p60_2 σ (nI 3) v3
    · subst h
      show x_rd_readNot_3_p63_2 σ (nI 3) v3 = _
      exact e_rd_readNot_3_p63_2 σ (nI 3) v3
  · intro R hR σ v3
    rcases hR with h | h
    · subst h
      show x_rd_readNot_3_p60_73 σ (nI 3) v3 = _
      exact e_rd_readNot_3_p60_73 σ (nI 3) v3
    · subst h
      show x_rd_readNot_3_p63_73 σ (nI 3) v3 = _
      exact e_rd_readNot_3_p63_73 σ (nI 3) v3
  · intro R hR σ v3 v4
    rcases hR with h | h
    · subst h
      show x_rd_readNot_3_p60_110 σ v3 v4 = _
      exact e_rd_readNot_3_p60_110 σ v3 v4
    · subst h
      show x_rd_readNot_3_p63_110 σ v3 v4 = _
      exact e_rd_readNot_3_p63_110 σ v3 v4
theorem yA3_L {X : mu_X} (xo : XOK X) : Lv X 2 3 15 yA3 isO := by
  refine lv_wrd xo (s := 2) (w := 14) (S := -10) (by omega) (Or.inl ⟨rfl, rfl, rfl⟩) (by omega) (x8 := yB3) (xW := x_rd_isWord_p1009_0) (fun c f g hT => c_w14 xo f g hT) ?_ ?_ (yN3_L xo)
  · intro R hR σ
    rcases hR with h | h
    · subst h
      show x_rd_readAnd_3_p60_0 σ (nI 3) = _
      exact e_rd_readAnd_3_p60_0 σ (nI 3)
    · subst h
      show x_rd_readAnd_3_p63_0 σ (nI 3) = _
      exact e_rd_readAnd_3_p63_0 σ (nI 3)
  · intro R hR σ v3
    rcases hR with h | h
    · subst h
      show x_rd_readAnd_3_p60_8 σ (nI 3) v3 = _
      exact e_rd_readAnd_3_p60_8 σ (nI 3) v3
    · subst h
      show x_rd_readAnd_3_p63_8 σ (nI 3) v3 = _
      exact e_rd_readAnd_3_p63_8 σ (nI 3) v3
theorem yE3_L {X : mu_X} (xo : XOK X) : Lv X 1 3 16 yE3 isO := by
  refine lv_wrd xo (s := 1) (w := 15) (S := -9) (by omega) (Or.inr ⟨rfl, rfl, rfl⟩) (by omega) (x8 := yF3) (xW := x_rd_isWord_p1008_0) (fun c f g hT => c_w15 xo f g hT) ?_ ?_ (yA3_L xo)
  · intro R hR σ
    rcases hR with h | h
    · subst h
      show x_rd_readExpr_3_p60_0 σ (nI 3) = _
      rw [e_rd_readExpr_3_p60_0, if_pos (by decide)]
      rfl
    · subst h
      show x_rd_readExpr_3_p63_0 σ (nI 3) = _
      rw [e_rd_readExpr_3_p63_0, if_pos (by decide)]
      rfl
  · intro R hR σ v3
    rcases hR with h | h
    · subst h
      show x_rd_readExpr_3_p60_48 σ (nI 3) v3 = _
      exact e_rd_readExpr_3_p60_48 σ (nI 3) v3
    · subst h
      show x_rd_readExpr_3_p63_48 σ (nI 3) v3 = _
      exact e_rd_readExpr_3_p63_48 σ (nI 3) v3
theorem yE3_E {X : mu_X} (xo : XOK X) : LvE X 3 16 yE3 := lv_expr (by omega) (yE3_L xo)
noncomputable def yE2 (R : Nat) (σ : en_S) : Option en_O := if R = 60 then x_rd_readExpr_2_p60_0 σ (nI 2) else x_rd_readExpr_2_p63_0 σ (nI 2)
noncomputable def yF2 (R : Nat) (σ : en_S) (v3 : Int32) : Option en_O := if R = 60 then x_rd_readExpr_2_p60_48 σ (nI 2) v3 else x_rd_readExpr_2_p63_48 σ (nI 2) v3
noncomputable def yA2 (R : Nat) (σ : en_S) : Option en_O := if R = 60 then x_rd_readAnd_2_p60_0 σ (nI 2) else x_rd_readAnd_2_p63_0 σ (nI 2)
noncomputable def yB2 (R : Nat) (σ : en_S) (v3 : Int32) : Option en_O := if R = 60 then x_rd_readAnd_2_p60_8 σ (nI 2) v3 else x_rd_readAnd_2_p63_8 σ (nI 2) v3
noncomputable def yN2 (R : Nat) (σ : en_S) : Option en_O := if R = 60 then x_rd_readNot_2_p60_0 σ (nI 2) else x_rd_readNot_2_p63_0 σ (nI 2)
noncomputable def yO2 (R : Nat) (σ : en_S) (v3 : Int32) : Option en_O := if R = 60 then x_rd_readNot_2_p60_2 σ (nI 2) v3 else x_rd_readNot_2_p63_2 σ (nI 2) v3
noncomputable def yQ2 (R : Nat) (σ : en_S) (v3 : Int32) : Option en_O := if R = 60 then x_rd_readNot_2_p60_73 σ (nI 2) v3 else x_rd_readNot_2_p63_73 σ (nI 2) v3
noncomputable def yR2 (R : Nat) (σ : en_S) (v3 v4 : Int32) : Option en_O := if R = 60 then x_rd_readNot_2_p60_110 σ v3 v4 else x_rd_readNot_2_p63_110 σ v3 v4
noncomputable def yS2 (R : Nat) (σ : en_S) : Option en_O := if R = 60 then x_rd_readSum_2_p60_0 σ (nI 2) else x_rd_readSum_2_p63_0 σ (nI 2)
noncomputable def yT2 (R : Nat) (σ : en_S) (v3 : Int32) : Option en_O := if R = 60 then x_rd_readSum_2_p60_8 σ (nI 2) v3 else x_rd_readSum_2_p63_8 σ (nI 2) v3
noncomputable def yU2 (R : Nat) (σ : en_S) (v3 t0 : Int32) : Option en_O := if R = 60 then x_rd_readSum_2_p60_56 σ (nI 2) v3 t0 else x_rd_readSum_2_p63_56 σ (nI 2) v3 t0
noncomputable def yP2 (R : Nat) (σ : en_S) : Option en_O := if R = 60 then x_rd_readProduct_2_p60_0 σ (nI 2) else x_rd_readProduct_2_p63_0 σ (nI 2)
noncomputable def yV2 (R : Nat) (σ : en_S) (v3 : Int32) : Option en_O := if R = 60 then x_rd_readProduct_2_p60_8 σ (nI 2) v3 else x_rd_readProduct_2_p63_8 σ (nI 2) v3
noncomputable def yW2 (R : Nat) (σ : en_S) (v3 t0 : Int32) : Option en_O := if R = 60 then x_rd_readProduct_2_p60_56 σ (nI 2) v3 t0 else x_rd_readProduct_2_p63_56 σ (nI 2) v3 t0
noncomputable def yX2 (R : Nat) (σ : en_S) : Option en_O := if R = 60 then x_rd_readPart_2_p60_0 σ (nI 2) else x_rd_readPart_2_p63_0 σ (nI 2)
theorem yX2_L {X : mu_X} (xo : XOK X) : Lv X 7 2 16 yX2 isQ := by
  refine lv_part xo (by omega) (by omega) (xE := yE3) ?_ (yE3_E xo)
  · intro R hR σ
    rcases hR with h | h
    · subst h
      show x_rd_readPart_2_p60_0 σ (nI 2) = _
      rw [e_rd_readPart_2_p60_0, nI_1]
      rfl
    · subst h
      show x_rd_readPart_2_p63_0 σ (nI 2) = _
      rw [e_rd_readPart_2_p63_0, nI_1]
      rfl
theorem yP2_L {X : mu_X} (xo : XOK X) : Lv X 6 2 17 yP2 isQ := by
  refine lv_prod xo (by omega) (x8 := yV2) (x56 := yW2) ?_ ?_ ?_ (yX2_L xo)
  · intro R hR σ
    rcases hR with h | h
    · subst h
      show x_rd_readProduct_2_p60_0 σ (nI 2) = _
      exact e_rd_readProduct_2_p60_0 σ (nI 2)
    · subst h
      show x_rd_readProduct_2_p63_0 σ (nI 2) = _
      exact e_rd_readProduct_2_p63_0 σ (nI 2)
  · intro R hR σ v3
    rcases hR with h | h
    · subst h
      show x_rd_readProduct_2_p60_8 σ (nI 2) v3 = _
      exact e_rd_readProduct_2_p60_8 σ (nI 2) v3
    · subst h
      show x_rd_readProduct_2_p63_8 σ (nI 2) v3 = _
      exact e_rd_readProduct_2_p63_8 σ (nI 2) v3
  · intro R hR σ v3 t0
    rcases hR with h | h
    · subst h
      show x_rd_readProduct_2_p60_56 σ (nI 2) v3 t0 = _
      exact e_rd_readProduct_2_p60_56 σ (nI 2) v3 t0
    · subst h
      show x_rd_readProduct_2_p63_56 σ (nI 2) v3 t0 = _
      exact e_rd_readProduct_2_p63_56 σ (nI 2) v3 t0
theorem yS2_L {X : mu_X} (xo : XOK X) : Lv X 5 2 18 yS2 isQ := by
  refine lv_sum xo (by omega) (x8 := yT2) (x56 := yU2) ?_ ?_ ?_ (yP2_L xo)
  · intro R hR σ
    rcases hR with h | h
    · subst h
      show x_rd_readSum_2_p60_0 σ (nI 2) = _
      exact e_rd_readSum_2_p60_0 σ (nI 2)
    · subst h
      show x_rd_readSum_2_p63_0 σ (nI 2) = _
      exact e_rd_readSum_2_p63_0 σ (nI 2)
  · intro R hR σ v3
    rcases hR with h | h
    · subst h
      show x_rd_readSum_2_p60_8 σ (nI 2) v3 = _
      exact e_rd_readSum_2_p60_8 σ (nI 2) v3
    · subst h
      show x_rd_readSum_2_p63_8 σ (nI 2) v3 = _
      exact e_rd_readSum_2_p63_8 σ (nI 2) v3
  · intro R hR σ v3 t0
    rcases hR with h | h
    · subst h
      show x_rd_readSum_2_p60_56 σ (nI 2) v3 t0 = _
      exact e_rd_readSum_2_p60_56 σ (nI 2) v3 t0
    · subst h
      show x_rd_readSum_2_p63_56 σ (nI 2) v3 t0 = _
      exact e_rd_readSum_2_p63_56 σ (nI 2) v3 t0
theorem yN2_L {X : mu_X} (xo : XOK X) : Lv X 3 2 19 yN2 isO := by
  refine lv_not xo (by omega) (by omega) (x2 := yO2) (x73 := yQ2) (x110 := yR2) ?_ ?_ ?_ ?_ (yS2_L xo)
  · intro R hR σ
    rcases hR with h | h
    · subst h
      show x_rd_readNot_2_p60_0 σ (nI 2) = _
      exact e_rd_readNot_2_p60_0 σ (nI 2)
    · subst h
      show x_rd_readNot_2_p63_0 σ (nI 2) = _
      exact e_rd_readNot_2_p63_0 σ (nI 2)
  · intro R hR σ v3
    rcases hR with h | h
    · subst h
      show x_rd_readNot_2_p60_2 σ (nI 2) v3 = _
      exact e_rd_readNot_2_p60_2 σ (nI 2) v3
    · subst h
      show x_rd_readNot_2_p63_2 σ (nI 2) v3 = _
      exact e_rd_readNot_2_p63_2 σ (nI 2) v3
  · intro R hR σ v3
    rcases hR with h | h
    · subst h
      show x_rd_readNot_2_p60_73 σ (nI 2) v3 = _
      exact e_rd_readNot_2_p60_73 σ (nI 2) v3
    · subst h
      show x_rd_readNot_2_p63_73 σ (nI 2) v3 = _
      exact e_rd_readNot_2_p63_73 σ (nI 2) v3
  · intro R hR σ v3 v4
    rcases hR with h | h
    · subst h
      show x_rd_readNot_2_p60_110 σ v3 v4 = _
      exact e_rd_readNot_2_p60_110 σ v3 v4
    · subst h
      show x_rd_readNot_2_p63_110 σ v3 v4 = _
      exact e_rd_readNot_2_p63_110 σ v3 v4
theorem yA2_L {X : mu_X} (xo : XOK X) : Lv X 2 2 20 yA2 isO := by
  refine lv_wrd xo (s := 2) (w := 14) (S := -10) (by omega) (Or.inl ⟨rfl, rfl, rfl⟩) (by omega) (x8 := yB2) (xW := x_rd_isWord_p1009_0) (fun c f g hT => c_w14 xo f g hT) ?_ ?_ (yN2_L xo)
  · intro R hR σ
    rcases hR with h | h
    · subst h
      show x_rd_readAnd_2_p60_0 σ (nI 2) = _
      exact e_rd_readAnd_2_p60_0 σ (nI 2)
    · subst h
      show x_rd_readAnd_2_p63_0 σ (nI 2) = _
      exact e_rd_readAnd_2_p63_0 σ (nI 2)
  · intro R hR σ v3
    rcases hR with h | h
    · subst h
      show x_rd_readAnd_2_p60_8 σ (nI 2) v3 = _
      exact e_rd_readAnd_2_p60_8 σ (nI 2) v3
    · subst h
      show x_rd_readAnd_2_p63_8 σ (nI 2) v3 = _
      exact e_rd_readAnd_2_p63_8 σ (nI 2) v3
theorem yE2_L {X : mu_X} (xo : XOK X) : Lv X 1 2 21 yE2 isO := by
  refine lv_wrd xo (s := 1) (w := 15) (S := -9) (by omega) (Or.inr ⟨rfl, rfl, rfl⟩) (by omega) (x8 := yF2) (xW := x_rd_isWord_p1008_0) (fun c f g hT => c_w15 xo f g hT) ?_ ?_ (yA2_L xo)
  · intro R hR σ
    rcases hR with h | h
    · subst h
      show x_rd_readExpr_2_p60_0 σ (nI 2) = _
      rw [e_rd_readExpr_2_p60_0, if_pos (by decide)]
      rfl
    · subst h
      show x_rd_readExpr_2_p63_0 σ (nI 2) = _
      rw [e_rd_readExpr_2_p63_0, if_pos (by decide)]
      rfl
  · intro R hR σ v3
    rcases hR with h | h
    · subst h
      show x_rd_readExpr_2_p60_48 σ (nI 2) v3 = _
      exact e_rd_readExpr_2_p60_48 σ (nI 2) v3
    · subst h
      show x_rd_readExpr_2_p63_48 σ (nI 2) v3 = _
      exact e_rd_readExpr_2_p63_48 σ (nI 2) v3
theorem yE2_E {X : mu_X} (xo : XOK X) : LvE X 2 21 yE2 := lv_expr (by omega) (yE2_L xo)
noncomputable def yE1 (R : Nat) (σ : en_S) : Option en_O := if R = 60 then x_rd_readExpr_1_p60_0 σ (nI 1) else x_rd_readExpr_1_p63_0 σ (nI 1)
noncomputable def yF1 (R : Nat) (σ : en_S) (v3 : Int32) : Option en_O := if R = 60 then x_rd_readExpr_1_p60_48 σ (nI 1) v3 else x_rd_readExpr_1_p63_48 σ (nI 1) v3
noncomputable def yA1 (R : Nat) (σ : en_S) : Option en_O := if R = 60 then x_rd_readAnd_1_p60_0 σ (nI 1) else x_rd_readAnd_1_p63_0 σ (nI 1)
noncomputable def yB1 (R : Nat) (σ : en_S) (v3 : Int32) : Option en_O := if R = 60 then x_rd_readAnd_1_p60_8 σ (nI 1) v3 else x_rd_readAnd_1_p63_8 σ (nI 1) v3
noncomputable def yN1 (R : Nat) (σ : en_S) : Option en_O := if R = 60 then x_rd_readNot_1_p60_0 σ (nI 1) else x_rd_readNot_1_p63_0 σ (nI 1)
noncomputable def yO1 (R : Nat) (σ : en_S) (v3 : Int32) : Option en_O := if R = 60 then x_rd_readNot_1_p60_2 σ (nI 1) v3 else x_rd_readNot_1_p63_2 σ (nI 1) v3
noncomputable def yQ1 (R : Nat) (σ : en_S) (v3 : Int32) : Option en_O := if R = 60 then x_rd_readNot_1_p60_73 σ (nI 1) v3 else x_rd_readNot_1_p63_73 σ (nI 1) v3
noncomputable def yR1 (R : Nat) (σ : en_S) (v3 v4 : Int32) : Option en_O := if R = 60 then x_rd_readNot_1_p60_110 σ v3 v4 else x_rd_readNot_1_p63_110 σ v3 v4
noncomputable def yS1 (R : Nat) (σ : en_S) : Option en_O := if R = 60 then x_rd_readSum_1_p60_0 σ (nI 1) else x_rd_readSum_1_p63_0 σ (nI 1)
noncomputable def yT1 (R : Nat) (σ : en_S) (v3 : Int32) : Option en_O := if R = 60 then x_rd_readSum_1_p60_8 σ (nI 1) v3 else x_rd_readSum_1_p63_8 σ (nI 1) v3
noncomputable def yU1 (R : Nat) (σ : en_S) (v3 t0 : Int32) : Option en_O := if R = 60 then x_rd_readSum_1_p60_56 σ (nI 1) v3 t0 else x_rd_readSum_1_p63_56 σ (nI 1) v3 t0
noncomputable def yP1 (R : Nat) (σ : en_S) : Option en_O := if R = 60 then x_rd_readProduct_1_p60_0 σ (nI 1) else x_rd_readProduct_1_p63_0 σ (nI 1)
noncomputable def yV1 (R : Nat) (σ : en_S) (v3 : Int32) : Option en_O := if R = 60 then x_rd_readProduct_1_p60_8 σ (nI 1) v3 else x_rd_readProduct_1_p63_8 σ (nI 1) v3
noncomputable def yW1 (R : Nat) (σ : en_S) (v3 t0 : Int32) : Option en_O := if R = 60 then x_rd_readProduct_1_p60_56 σ (nI 1) v3 t0 else x_rd_readProduct_1_p63_56 σ (nI 1) v3 t0
noncomputable def yX1 (R : Nat) (σ : en_S) : Option en_O := if R = 60 then x_rd_readPart_1_p60_0 σ (nI 1) else x_rd_readPart_1_p63_0 σ (nI 1)
theorem yX1_L {X : mu_X} (xo : XOK X) : Lv X 7 1 21 yX1 isQ := by
  refine lv_part xo (by omega) (by omega) (xE := yE2) ?_ (yE2_E xo)
  · intro R hR σ
    rcases hR with h | h
    · subst h
      show x_rd_readPart_1_p60_0 σ (nI 1) = _
      rw [e_rd_readPart_1_p60_0, nI_1]
      rfl
    · subst h
      show x_rd_readPart_1_p63_0 σ (nI 1) = _
      rw [e_rd_readPart_1_p63_0, nI_1]
      rfl
theorem yP1_L {X : mu_X} (xo : XOK X) : Lv X 6 1 22 yP1 isQ := by
  refine lv_prod xo (by omega) (x8 := yV1) (x56 := yW1) ?_ ?_ ?_ (yX1_L xo)
  · intro R hR σ
    rcases hR with h | h
    · subst h
      show x_rd_readProduct_1_p60_0 σ (nI 1) = _
      exact e_rd_readProduct_1_p60_0 σ (nI 1)
    · subst h
      show x_rd_readProduct_1_p63_0 σ (nI 1) = _
      exact e_rd_readProduct_1_p63_0 σ (nI 1)
  · intro R hR σ v3
    rcases hR with h | h
    · subst h
      show x_rd_readProduct_1_p60_8 σ (nI 1) v3 = _
      exact e_rd_readProduct_1_p60_8 σ (nI 1) v3
    · subst h
      show x_rd_readProduct_1_p63_8 σ (nI 1) v3 = _
      exact e_rd_readProduct_1_p63_8 σ (nI 1) v3
  · intro R hR σ v3 t0
    rcases hR with h | h
    · subst h
      show x_rd_readProduct_1_p60_56 σ (nI 1) v3 t0 = _
      exact e_rd_readProduct_1_p60_56 σ (nI 1) v3 t0
    · subst h
      show x_rd_readProduct_1_p63_56 σ (nI 1) v3 t0 = _
      exact e_rd_readProduct_1_p63_56 σ (nI 1) v3 t0
theorem yS1_L {X : mu_X} (xo : XOK X) : Lv X 5 1 23 yS1 isQ := by
  refine lv_sum xo (by omega) (x8 := yT1) (x56 := yU1) ?_ ?_ ?_ (yP1_L xo)
  · intro R hR σ
    rcases hR with h | h
    · subst h
      show x_rd_readSum_1_p60_0 σ (nI 1) = _
      exact e_rd_readSum_1_p60_0 σ (nI 1)
    · subst h
      show x_rd_readSum_1_p63_0 σ (nI 1) = _
      exact e_rd_readSum_1_p63_0 σ (nI 1)
  · intro R hR σ v3
    rcases hR with h | h
    · subst h
      show x_rd_readSum_1_p60_8 σ (nI 1) v3 = _
      exact e_rd_readSum_1_p60_8 σ (nI 1) v3
    · subst h
      show x_rd_readSum_1_p63_8 σ (nI 1) v3 = _
      exact e_rd_readSum_1_p63_8 σ (nI 1) v3
  · intro R hR σ v3 t0
    rcases hR with h | h
    · subst h
      show x_rd_readSum_1_p60_56 σ (nI 1) v3 t0 = _
      exact e_rd_readSum_1_p60_56 σ (nI 1) v3 t0
    · subst h
      show x_rd_readSum_1_p63_56 σ (nI 1) v3 t0 = _
      exact e_rd_readSum_1_p63_56 σ (nI 1) v3 t0
theorem yN1_L {X : mu_X} (xo : XOK X) : Lv X 3 1 24 yN1 isO := by
  refine lv_not xo (by omega) (by omega) (x2 := yO1) (x73 := yQ1) (x110 := yR1) ?_ ?_ ?_ ?_ (yS1_L xo)
  · intro R hR σ
    rcases hR with h | h
    · subst h
      show x_rd_readNot_1_p60_0 σ (nI 1) = _
      exact e_rd_readNot_1_p60_0 σ (nI 1)
    · subst h
      show x_rd_readNot_1_p63_0 σ (nI 1) = _
      exact e_rd_readNot_1_p63_0 σ (nI 1)
  · intro R hR σ v3
    rcases hR with h | h
    · subst h
      show x_rd_readNot_1_p60_2 σ (nI 1) v3 = _
      exact e_rd_readNot_1_p60_2 σ (nI 1) v3
    · subst h
      show x_rd_readNot_1_p63_2 σ (nI 1) v3 = _
      exact e_rd_readNot_1_p63_2 σ (nI 1) v3
  · intro R hR σ v3
    rcases hR with h | h
    · subst h
      show x_rd_readNot_1_p60_73 σ (nI 1) v3 = _
      exact e_rd_readNot_1_p60_73 σ (nI 1) v3
    · subst h
      show x_rd_readNot_1_p63_73 σ (nI 1) v3 = _
      exact e_rd_readNot_1_p63_73 σ (nI 1) v3
  · intro R hR σ v3 v4
    rcases hR with h | h
    · subst h
      show x_rd_readNot_1_p60_110 σ v3 v4 = _
      exact e_rd_readNot_1_p60_110 σ v3 v4
    · subst h
      show x_rd_readNot_1_p63_110 σ v3 v4 = _
      exact e_rd_readNot_1_p63_110 σ v3 v4
theorem yA1_L {X : mu_X} (xo : XOK X) : Lv X 2 1 25 yA1 isO := by
  refine lv_wrd xo (s := 2) (w := 14) (S := -10) (by omega) (Or.inl ⟨rfl, rfl, rfl⟩) (by omega) (x8 := yB1) (xW := x_rd_isWord_p1009_0) (fun c f g hT => c_w14 xo f g hT) ?_ ?_ (yN1_L xo)
  · intro R hR σ
    rcases hR with h | h
    · subst h
      show x_rd_readAnd_1_p60_0 σ (nI 1) = _
      exact e_rd_readAnd_1_p60_0 σ (nI 1)
    · subst h
      show x_rd_readAnd_1_p63_0 σ (nI 1) = _
      exact e_rd_readAnd_1_p63_0 σ (nI 1)
  · intro R hR σ v3
    rcases hR with h | h
    · subst h
      show x_rd_readAnd_1_p60_8 σ (nI 1) v3 = _
      exact e_rd_readAnd_1_p60_8 σ (nI 1) v3
    · subst h
      show x_rd_readAnd_1_p63_8 σ (nI 1) v3 = _
      exact e_rd_readAnd_1_p63_8 σ (nI 1) v3
theorem yE1_L {X : mu_X} (xo : XOK X) : Lv X 1 1 26 yE1 isO := by
  refine lv_wrd xo (s := 1) (w := 15) (S := -9) (by omega) (Or.inr ⟨rfl, rfl, rfl⟩) (by omega) (x8 := yF1) (xW := x_rd_isWord_p1008_0) (fun c f g hT => c_w15 xo f g hT) ?_ ?_ (yA1_L xo)
  · intro R hR σ
    rcases hR with h | h
    · subst h
      show x_rd_readExpr_1_p60_0 σ (nI 1) = _
      rw [e_rd_readExpr_1_p60_0, if_pos (by decide)]
      rfl
    · subst h
      show x_rd_readExpr_1_p63_0 σ (nI 1) = _
      rw [e_rd_readExpr_1_p63_0, if_pos (by decide)]
      rfl
  · intro R hR σ v3
    rcases hR with h | h
    · subst h
      show x_rd_readExpr_1_p60_48 σ (nI 1) v3 = _
      exact e_rd_readExpr_1_p60_48 σ (nI 1) v3
    · subst h
      show x_rd_readExpr_1_p63_48 σ (nI 1) v3 = _
      exact e_rd_readExpr_1_p63_48 σ (nI 1) v3
theorem yE1_E {X : mu_X} (xo : XOK X) : LvE X 1 26 yE1 := lv_expr (by omega) (yE1_L xo)
noncomputable def yE0 (R : Nat) (σ : en_S) : Option en_O := if R = 60 then x_rd_readExpr_0_p60_0 σ (nI 0) else x_rd_readExpr_0_p63_0 σ (nI 0)
noncomputable def yF0 (R : Nat) (σ : en_S) (v3 : Int32) : Option en_O := if R = 60 then x_rd_readExpr_0_p60_48 σ (nI 0) v3 else x_rd_readExpr_0_p63_48 σ (nI 0) v3
noncomputable def yA0 (R : Nat) (σ : en_S) : Option en_O := if R = 60 then x_rd_readAnd_0_p60_0 σ (nI 0) else x_rd_readAnd_0_p63_0 σ (nI 0)
noncomputable def yB0 (R : Nat) (σ : en_S) (v3 : Int32) : Option en_O := if R = 60 then x_rd_readAnd_0_p60_8 σ (nI 0) v3 else x_rd_readAnd_0_p63_8 σ (nI 0) v3
noncomputable def yN0 (R : Nat) (σ : en_S) : Option en_O := if R = 60 then x_rd_readNot_0_p60_0 σ (nI 0) else x_rd_readNot_0_p63_0 σ (nI 0)
noncomputable def yO0 (R : Nat) (σ : en_S) (v3 : Int32) : Option en_O := if R = 60 then x_rd_readNot_0_p60_2 σ (nI 0) v3 else x_rd_readNot_0_p63_2 σ (nI 0) v3
noncomputable def yQ0 (R : Nat) (σ : en_S) (v3 : Int32) : Option en_O := if R = 60 then x_rd_readNot_0_p60_73 σ (nI 0) v3 else x_rd_readNot_0_p63_73 σ (nI 0) v3
noncomputable def yR0 (R : Nat) (σ : en_S) (v3 v4 : Int32) : Option en_O := if R = 60 then x_rd_readNot_0_p60_110 σ v3 v4 else x_rd_readNot_0_p63_110 σ v3 v4
noncomputable def yS0 (R : Nat) (σ : en_S) : Option en_O := if R = 60 then x_rd_readSum_0_p60_0 σ (nI 0) else x_rd_readSum_0_p63_0 σ (nI 0)
noncomputable def yT0 (R : Nat) (σ : en_S) (v3 : Int32) : Option en_O := if R = 60 then x_rd_readSum_0_p60_8 σ (nI 0) v3 else x_rd_readSum_0_p63_8 σ (nI 0) v3
noncomputable def yU0 (R : Nat) (σ : en_S) (v3 t0 : Int32) : Option en_O := if R = 60 then x_rd_readSum_0_p60_56 σ (nI 0) v3 t0 else x_rd_readSum_0_p63_56 σ (nI 0) v3 t0
noncomputable def yP0 (R : Nat) (σ : en_S) : Option en_O := if R = 60 then x_rd_readProduct_0_p60_0 σ (nI 0) else x_rd_readProduct_0_p63_0 σ (nI 0)
noncomputable def yV0 (R : Nat) (σ : en_S) (v3 : Int32) : Option en_O := if R = 60 then x_rd_readProduct_0_p60_8 σ (nI 0) v3 else x_rd_readProduct_0_p63_8 σ (nI 0) v3
noncomputable def yW0 (R : Nat) (σ : en_S) (v3 t0 : Int32) : Option en_O := if R = 60 then x_rd_readProduct_0_p60_56 σ (nI 0) v3 t0 else x_rd_readProduct_0_p63_56 σ (nI 0) v3 t0
noncomputable def yX0 (R : Nat) (σ : en_S) : Option en_O := if R = 60 then x_rd_readPart_0_p60_0 σ (nI 0) else x_rd_readPart_0_p63_0 σ (nI 0)
theorem yX0_L {X : mu_X} (xo : XOK X) : Lv X 7 0 26 yX0 isQ := by
  refine lv_part xo (by omega) (by omega) (xE := yE1) ?_ (yE1_E xo)
  · intro R hR σ
    rcases hR with h | h
    · subst h
      show x_rd_readPart_0_p60_0 σ (nI 0) = _
      rw [e_rd_readPart_0_p60_0, nI_1]
      rfl
    · subst h
      show x_rd_readPart_0_p63_0 σ (nI 0) = _
      rw [e_rd_readPart_0_p63_0, nI_1]
      rfl
theorem yP0_L {X : mu_X} (xo : XOK X) : Lv X 6 0 27 yP0 isQ := by
  refine lv_prod xo (by omega) (x8 := yV0) (x56 := yW0) ?_ ?_ ?_ (yX0_L xo)
  · intro R hR σ
    rcases hR with h | h
    · subst h
      show x_rd_readProduct_0_p60_0 σ (nI 0) = _
      exact e_rd_readProduct_0_p60_0 σ (nI 0)
    · subst h
      show x_rd_readProduct_0_p63_0 σ (nI 0) = _
      exact e_rd_readProduct_0_p63_0 σ (nI 0)
  · intro R hR σ v3
    rcases hR with h | h
    · subst h
      show x_rd_readProduct_0_p60_8 σ (nI 0) v3 = _
      exact e_rd_readProduct_0_p60_8 σ (nI 0) v3
    · subst h
      show x_rd_readProduct_0_p63_8 σ (nI 0) v3 = _
      exact e_rd_readProduct_0_p63_8 σ (nI 0) v3
  · intro R hR σ v3 t0
    rcases hR with h | h
    · subst h
      show x_rd_readProduct_0_p60_56 σ (nI 0) v3 t0 = _
      exact e_rd_readProduct_0_p60_56 σ (nI 0) v3 t0
    · subst h
      show x_rd_readProduct_0_p63_56 σ (nI 0) v3 t0 = _
      exact e_rd_readProduct_0_p63_56 σ (nI 0) v3 t0
theorem yS0_L {X : mu_X} (xo : XOK X) : Lv X 5 0 28 yS0 isQ := by
  refine lv_sum xo (by omega) (x8 := yT0) (x56 := yU0) ?_ ?_ ?_ (yP0_L xo)
  · intro R hR σ
    rcases hR with h | h
    · subst h
      show x_rd_readSum_0_p60_0 σ (nI 0) = _
      exact e_rd_readSum_0_p60_0 σ (nI 0)
    · subst h
      show x_rd_readSum_0_p63_0 σ (nI 0) = _
      exact e_rd_readSum_0_p63_0 σ (nI 0)
  · intro R hR σ v3
    rcases hR with h | h
    · subst h
      show x_rd_readSum_0_p60_8 σ (nI 0) v3 = _
      exact e_rd_readSum_0_p60_8 σ (nI 0) v3
    · subst h
      show x_rd_readSum_0_p63_8 σ (nI 0) v3 = _
      exact e_rd_readSum_0_p63_8 σ (nI 0) v3
  · intro R hR σ v3 t0
    rcases hR with h | h
    · subst h
      show x_rd_readSum_0_p60_56 σ (nI 0) v3 t0 = _
      exact e_rd_readSum_0_p60_56 σ (nI 0) v3 t0
    · subst h
      show x_rd_readSum_0_p63_56 σ (nI 0) v3 t0 = _
      exact e_rd_readSum_0_p63_56 σ (nI 0) v3 t0
theorem yN0_L {X : mu_X} (xo : XOK X) : Lv X 3 0 29 yN0 isO := by
  refine lv_not xo (by omega) (by omega) (x2 := yO0) (x73 := yQ0) (x110 := yR0) ?_ ?_ ?_ ?_ (yS0_L xo)
  · intro R hR σ
    rcases hR with h | h
    · subst h
      show x_rd_readNot_0_p60_0 σ (nI 0) = _
      exact e_rd_readNot_0_p60_0 σ (nI 0)
    · subst h
      show x_rd_readNot_0_p63_0 σ (nI 0) = _
      exact e_rd_readNot_0_p63_0 σ (nI 0)
  · intro R hR σ v3
    rcases hR with h | h
    · subst h
      show x_rd_readNot_0_p60_2 σ (nI 0) v3 = _
      exact e_rd_readNot_0_p60_2 σ (nI 0) v3
    · subst h
      show x_rd_readNot_0_p63_2 σ (nI 0) v3 = _
      exact e_rd_readNot_0_p63_2 σ (nI 0) v3
  · intro R hR σ v3
    rcases hR with h | h
    · subst h
      show x_rd_readNot_0_p60_73 σ (nI 0) v3 = _
      exact e_rd_readNot_0_p60_73 σ (nI 0) v3
    · subst h
      show x_rd_readNot_0_p63_73 σ (nI 0) v3 = _
      exact e_rd_readNot_0_p63_73 σ (nI 0) v3
  · intro R hR σ v3 v4
    rcases hR with h | h
    · subst h
      show x_rd_readNot_0_p60_110 σ v3 v4 = _
      exact e_rd_readNot_0_p60_110 σ v3 v4
    · subst h
      show x_rd_readNot_0_p63_110 σ v3 v4 = _
      exact e_rd_readNot_0_p63_110 σ v3 v4
theorem yA0_L {X : mu_X} (xo : XOK X) : Lv X 2 0 30 yA0 isO := by
  refine lv_wrd xo (s := 2) (w := 14) (S := -10) (by omega) (Or.inl ⟨rfl, rfl, rfl⟩) (by omega) (x8 := yB0) (xW := x_rd_isWord_p1009_0) (fun c f g hT => c_w14 xo f g hT) ?_ ?_ (yN0_L xo)
  · intro R hR σ
    rcases hR with h | h
    · subst h
      show x_rd_readAnd_0_p60_0 σ (nI 0) = _
      exact e_rd_readAnd_0_p60_0 σ (nI 0)
    · subst h
      show x_rd_readAnd_0_p63_0 σ (nI 0) = _
      exact e_rd_readAnd_0_p63_0 σ (nI 0)
  · intro R hR σ v3
    rcases hR with h | h
    · subst h
      show x_rd_readAnd_0_p60_8 σ (nI 0) v3 = _
      exact e_rd_readAnd_0_p60_8 σ (nI 0) v3
    · subst h
      show x_rd_readAnd_0_p63_8 σ (nI 0) v3 = _
      exact e_rd_readAnd_0_p63_8 σ (nI 0) v3
theorem yE0_L {X : mu_X} (xo : XOK X) : Lv X 1 0 31 yE0 isO := by
  refine lv_wrd xo (s := 1) (w := 15) (S := -9) (by omega) (Or.inr ⟨rfl, rfl, rfl⟩) (by omega) (x8 := yF0) (xW := x_rd_isWord_p1008_0) (fun c f g hT => c_w15 xo f g hT) ?_ ?_ (yA0_L xo)
  · intro R hR σ
    rcases hR with h | h
    · subst h
      show x_rd_readExpr_0_p60_0 σ (nI 0) = _
      rw [e_rd_readExpr_0_p60_0, if_pos (by decide)]
      rfl
    · subst h
      show x_rd_readExpr_0_p63_0 σ (nI 0) = _
      rw [e_rd_readExpr_0_p63_0, if_pos (by decide)]
      rfl
  · intro R hR σ v3
    rcases hR with h | h
    · subst h
      show x_rd_readExpr_0_p60_48 σ (nI 0) v3 = _
      exact e_rd_readExpr_0_p60_48 σ (nI 0) v3
    · subst h
      show x_rd_readExpr_0_p63_48 σ (nI 0) v3 = _
      exact e_rd_readExpr_0_p63_48 σ (nI 0) v3
theorem yE0_E {X : mu_X} (xo : XOK X) : LvE X 0 31 yE0 := lv_expr (by omega) (yE0_L xo)
