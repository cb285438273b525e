/-! what is refused -/
section EQ
variable {X R : Mem} {σ : Nat → Int} {n : Nat}
theorem b224_n (h : SR X R σ) (hI : Iv n σ) : fL_errors_B224 X (zI (σ 0)) (zI (σ 1)) (zI (σ 2)) 1 1 = some (1, X) := by
  have hB := hI.1
  have h0 := hB.1
  have hN := hI.2.1
  have k1 : fX7_cancel X (zI (σ 3)) = some (-1, X) := by
    unfold fX7_cancel
    rw [hasGroup h hN.1 (by omega) (by omega), i1_f (by omega), if_pos rfl]
  have k2 : fX7_keep X 2 = some (-1, X) := by
    unfold fX7_keep
    rw [if_pos (by unfold fX7_isSlot; decide)]
  have k3 : fX7_restore X (-1) = some (-1, X) := by
    unfold fX7_restore
    rw [if_pos (by unfold fX7_isSlot; decide)]
  have k4 : fX7_box X (zI (σ 0)) 0 = some (-1) := by
    unfold fX7_box
    rw [X_hasBox h.ro hB (by omega) (by omega), i1_f (by omega), if_pos rfl]
  have k5 : fX7_prop X (zI (σ 1)) 0 = some (-1) := by
    unfold fX7_prop
    rw [X_hasProp h.ro hB (by omega) (by omega), i1_f (by omega), if_pos rfl]
  have k6 : fX7_clue X (zI (σ 2)) 0 = some (-1) := by
    unfold fX7_clue
    rw [X_hasClue h.ro hB (by omega) (by omega), i1_f (by omega), if_pos rfl]
  unfold fL_errors_B224
  rw [if_neg (by decide), if_neg (by decide), q_c3 h, bnd_some, k1, bnd_some]
  dsimp only
  rw [if_pos rfl, k2, bnd_some]
  dsimp only
  rw [if_pos rfl, k3, bnd_some]
  dsimp only
  rw [if_pos rfl, q_game6, bnd_some, if_pos rfl, k4, bnd_some, if_pos rfl, k5, bnd_some, if_pos rfl, k6, bnd_some, if_pos rfl, q_c15, bnd_some, if_pos rfl]
theorem b119_n (h : SR X R σ) (hI : Iv n σ) : fL_errors_B119 X (zI (σ 0)) (zI (σ 1)) (zI (σ 2)) 1 = some (1, X) := by
  have hB := hI.1
  have h0 := hB.1
  have hb : fX5_hasBox 4 X 0 = 1 := by
    have q := X_hasBox h.ro hB (a := 0) (by omega) (by omega)
    rw [i1_t (by omega)] at q
    exact q
  have k1 : fX7_setExit X 0 = some (-2, X) := by
    unfold fX7_setExit
    rw [hb, if_neg (by decide), if_pos rfl]
  have k2 : fX7_close X 0 = some (-2, X) := by
    unfold fX7_close
    rw [hb, if_neg (by decide), if_pos rfl]
  have k3 : fX7_setLimits X 9 0 = some (-2, X) := by
    unfold fX7_setLimits
    rw [if_pos (by decide)]
  have k4 : fX7_setLimits X 10 10 = some (-2, X) := by
    unfold fX7_setLimits
    rw [if_neg (by decide), if_neg (by decide), if_neg (by decide), if_neg (by decide)]
  have k5 : fX7_addPaint X 0 = some (-2, X) := by
    unfold fX7_addPaint
    rw [if_pos (by decide)]
  have k6 : fX7_book X 0 0 = some (-2, X) := by
    unfold fX7_book
    rw [if_pos (by unfold fX7_isGroupSize; decide)]
  have k7 : fX7_idle X 1001 = some (-2, X) := by
    unfold fX7_idle
    rw [if_neg (by decide), if_neg (by decide)]
  have k8 : fX7_rest X 0 = some (-2, X) := by
    unfold fX7_rest
    rw [if_pos (by decide)]
  have k9 : fX7_plan X 0 = some (-2, X) := by
    unfold fX7_plan
    rw [if_pos (by unfold fX7_isGroupSize; decide)]
  unfold fL_errors_B119
  rw [k1, bnd_some]
  dsimp only
  rw [if_pos rfl, k2, bnd_some]
  dsimp only
  rw [if_pos rfl, k3, bnd_some]
  dsimp only
  rw [if_pos rfl, k4, bnd_some]
  dsimp only
  rw [if_pos rfl, k5, bnd_some]
  dsimp only
  rw [if_pos rfl, k6, bnd_some]
  dsimp only
  rw [if_pos rfl, k7, bnd_some]
  dsimp only
  rw [if_pos rfl, k8, bnd_some]
  dsimp only
  rw [if_pos rfl, k9, bnd_some]
  dsimp only
  rw [if_pos rfl, b224_n h hI]
theorem errors_n (h : SR X R σ) (hI : Iv n σ) : fL_errors X = some (1, X) := by
  have hB := hI.1
  have h0 := hB.1
  have b0 : fX5_hasBox 4 X (zI (σ 0)) = 0 := by rw [X_hasBox h.ro hB (by omega) (by omega), i1_f (by omega)]
  have p0 : fX5_hasProp 4 X (zI (σ 1)) = 0 := by rw [X_hasProp h.ro hB (by omega) (by omega), i1_f (by omega)]
  have c0 : fX5_hasClue 4 X (zI (σ 2)) = 0 := by rw [X_hasClue h.ro hB (by omega) (by omega), i1_f (by omega)]
  have k1 : fX7_addProp X (zI (σ 0)) = some (-1, X) := by
    unfold fX7_addProp
    rw [b0, if_pos rfl]
  have k2 : fX7_addClue X (zI (σ 1)) 0 0 = some (-1, X) := by
    unfold fX7_addClue
    rw [p0, if_pos rfl]
  have k3 : fX7_setExit X (zI (σ 0)) = some (-1, X) := by
    unfold fX7_setExit
    rw [b0, if_pos rfl]
  have k4 : fX7_take X (zI (σ 1)) = some (-1, X) := by
    unfold fX7_take
    rw [p0, if_pos rfl]
  have k5 : fX7_lay X 0 (zI (σ 0)) = some (-1, X) := by
    unfold fX7_lay
    by_cases c : fX5_hasProp 4 X 0 = 0
    · rw [if_pos c]
    · rw [if_neg c, b0, if_pos rfl]
  have k6 : fX7_open X (zI (σ 0)) 0 = some (-1, X) := by
    unfold fX7_open
    rw [b0, if_pos rfl]
  have k7 : fX7_read X (zI (σ 2)) = some (-1, X) := by
    unfold fX7_read
    rw [c0, if_pos rfl]
  have k8 : fX7_putHome X (zI (σ 1)) = some (-1, X) := by
    unfold fX7_putHome
    rw [p0, if_pos rfl]
  have k9 : fX7_close X (zI (σ 0)) = some (-1, X) := by
    unfold fX7_close
    rw [b0, if_pos rfl]
  have ka : fX7_writeOver X (zI (σ 2)) = some (-1, X) := by
    unfold fX7_writeOver
    rw [c0, if_pos rfl]
  unfold fL_errors
  rw [q_c0 h, bnd_some, q_c1 h, bnd_some, q_c2 h, bnd_some, k1, bnd_some]
  dsimp only
  rw [if_pos rfl, k2, bnd_some]
  dsimp only
  rw [if_pos rfl, k3, bnd_some]
  dsimp only
  rw [if_pos rfl, k4, bnd_some]
  dsimp only
  rw [if_pos rfl, k5, bnd_some]
  dsimp only
  rw [if_pos rfl, k6, bnd_some]
  dsimp only
  rw [if_pos rfl, k7, bnd_some]
  dsimp only
  rw [if_pos rfl, k8, bnd_some]
  dsimp only
  rw [if_pos rfl, k9, bnd_some]
  dsimp only
  rw [if_pos rfl, ka, bnd_some]
  dsimp only
  rw [if_pos rfl, b119_n h hI]
end EQ
