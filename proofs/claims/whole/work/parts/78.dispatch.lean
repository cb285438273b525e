/-! every method, from the relation: s_<method> -/
section DI
variable {X R : Mem} {n : Nat}
/-- what only tells, both sides without a write -/
theorem Rel.next (h : Rel n X R) : Rel (n + 1) X R := by
  obtain ⟨σ, hS, hI, hT, h0, h1⟩ := h
  exact ⟨σ, hS, hI.mono (by omega), hT, h0.fr (by omega) (by omega) (fun _ _ => rfl) ⟨rfl, rfl⟩, h1.fr (by omega) (by omega) (fun _ _ => rfl) ⟨rfl, rfl⟩⟩
theorem s_startGame (h : Rel n X R) (hn : n ≤ 600) : Ok n (fX7_startGame X) (fX8_startGame R) := by
  obtain ⟨σ, hS, hI, hT, h0, h1⟩ := h
  exact Ok.step hT h0 h1 (start_ok hS hI hn)
theorem s_reset (h : Rel n X R) (hn : n ≤ 600) : Ok n (fX7_reset X) (fX8_reset R) := by
  obtain ⟨σ, hS, hI, hT, h0, h1⟩ := h
  exact Ok.step hT h0 h1 (reset_ok hS hI hn)
theorem s_giveUp (h : Rel n X R) (hn : n ≤ 600) : Ok n (fX7_giveUp X) (fX8_giveUp R) := by
  obtain ⟨σ, hS, hI, hT, h0, h1⟩ := h
  exact Ok.step hT h0 h1 (giveUp_ok hS hI hn)
theorem s_nudge (h : Rel n X R) (hn : n ≤ 600) : Ok n (fX7_nudge X) (fX8_nudge R) := by
  obtain ⟨σ, hS, hI, hT, h0, h1⟩ := h
  exact Ok.step hT h0 h1 (nudge_ok hS hI hn)
theorem s_take (h : Rel n X R) (hn : n ≤ 600) (x : Int32) : Ok n (fX7_take X x) (fX8_take R x) := by
  obtain ⟨σ, hS, hI, hT, h0, h1⟩ := h
  exact Ok.step hT h0 h1 (take_ok hS hI hn x)
theorem s_read (h : Rel n X R) (hn : n ≤ 600) (x : Int32) : Ok n (fX7_read X x) (fX8_read R x) := by
  obtain ⟨σ, hS, hI, hT, h0, h1⟩ := h
  exact Ok.step hT h0 h1 (read_ok hS hI hn x)
theorem s_rest (h : Rel n X R) (hn : n ≤ 600) (x : Int32) : Ok n (fX7_rest X x) (fX8_rest R x) := by
  obtain ⟨σ, hS, hI, hT, h0, h1⟩ := h
  exact Ok.step hT h0 h1 (rest_ok hS hI hn x)
theorem s_idle (h : Rel n X R) (hn : n ≤ 600) (x : Int32) : Ok n (fX7_idle X x) (fX8_idle R x) := by
  obtain ⟨σ, hS, hI, hT, h0, h1⟩ := h
  exact Ok.step hT h0 h1 (idle_ok hS hI hn x)
theorem s_putHome (h : Rel n X R) (hn : n ≤ 600) (x : Int32) : Ok n (fX7_putHome X x) (fX8_putHome R x) := by
  obtain ⟨σ, hS, hI, hT, h0, h1⟩ := h
  exact Ok.step hT h0 h1 (putHome_ok hS hI hn x)
theorem s_close (h : Rel n X R) (hn : n ≤ 600) (x : Int32) : Ok n (fX7_close X x) (fX8_close R x) := by
  obtain ⟨σ, hS, hI, hT, h0, h1⟩ := h
  exact Ok.step hT h0 h1 (close_ok hS hI hn x)
theorem s_writeOver (h : Rel n X R) (hn : n ≤ 600) (x : Int32) : Ok n (fX7_writeOver X x) (fX8_writeOver R x) := by
  obtain ⟨σ, hS, hI, hT, h0, h1⟩ := h
  exact Ok.step hT h0 h1 (writeOver_ok hS hI hn x)
theorem s_cancel (h : Rel n X R) (hn : n ≤ 600) (x : Int32) : Ok n (fX7_cancel X x) (fX8_cancel R x) := by
  obtain ⟨σ, hS, hI, hT, h0, h1⟩ := h
  exact Ok.step hT h0 h1 (cancel_ok hS hI x)
theorem s_setExit (h : Rel n X R) (hn : n ≤ 600) (x : Int32) : Ok n (fX7_setExit X x) (fX8_setExit R x) := by
  obtain ⟨σ, hS, hI, hT, h0, h1⟩ := h
  exact Ok.step hT h0 h1 (setExit_ok hS hI x)
theorem s_addProp (h : Rel n X R) (hn : n ≤ 600) (x : Int32) : Ok n (fX7_addProp X x) (fX8_addProp R x) := by
  obtain ⟨σ, hS, hI, hT, h0, h1⟩ := h
  exact Ok.step hT h0 h1 (addProp_ok hS hI x)
theorem s_addPaint (h : Rel n X R) (hn : n ≤ 600) (x : Int32) : Ok n (fX7_addPaint X x) (fX8_addPaint R x) := by
  obtain ⟨σ, hS, hI, hT, h0, h1⟩ := h
  exact Ok.step hT h0 h1 (addPaint_ok hS hI hn x)
theorem s_setLimits (h : Rel n X R) (hn : n ≤ 600) (x y : Int32) : Ok n (fX7_setLimits X x y) (fX8_setLimits R x y) := by
  obtain ⟨σ, hS, hI, hT, h0, h1⟩ := h
  exact Ok.step hT h0 h1 (setLimits_ok hS hI x y)
theorem s_book (h : Rel n X R) (hn : n ≤ 600) (x y : Int32) : Ok n (fX7_book X x y) (fX8_book R x y) := by
  obtain ⟨σ, hS, hI, hT, h0, h1⟩ := h
  exact Ok.step hT h0 h1 (book_ok hS hI x y)
theorem s_addClue (h : Rel n X R) (hn : n ≤ 600) (x y z : Int32) : Ok n (fX7_addClue X x y z) (fX8_addClue R x y z) := by
  obtain ⟨σ, hS, hI, hT, h0, h1⟩ := h
  exact Ok.step hT h0 h1 (addClue_ok hS hI x y z)
theorem s_lay (h : Rel n X R) (hn : n ≤ 600) (x y : Int32) : Ok n (fX7_lay X x y) (fX8_lay R x y) := by
  obtain ⟨σ, hS, hI, hT, h0, h1⟩ := h
  exact Ok.step hT h0 h1 (lay_ok hS hI hn x y)
theorem s_open (h : Rel n X R) (hn : n ≤ 600) (x y : Int32) : Ok n (fX7_open X x y) (fX8_open R x y) := by
  obtain ⟨σ, hS, hI, hT, h0, h1⟩ := h
  exact Ok.step hT h0 h1 (open_ok hS hI hn x y)
theorem s_box (h : Rel n X R) (hn : n ≤ 600) (x y : Int32) : ∃ v, fX7_box X x y = some v ∧ fX8_box R x y = some v ∧ Rel (n + 1) X R := by
  obtain ⟨v, a, b⟩ : Tl _ _ := by
    obtain ⟨σ, hS, hI, hT, h0, h1⟩ := h
    exact box_ok hS hI x y
  exact ⟨v, a, b, h.next⟩
theorem s_prop (h : Rel n X R) (hn : n ≤ 600) (x y : Int32) : ∃ v, fX7_prop X x y = some v ∧ fX8_prop R x y = some v ∧ Rel (n + 1) X R := by
  obtain ⟨v, a, b⟩ : Tl _ _ := by
    obtain ⟨σ, hS, hI, hT, h0, h1⟩ := h
    exact prop_ok hS hI x y
  exact ⟨v, a, b, h.next⟩
theorem s_clue (h : Rel n X R) (hn : n ≤ 600) (x y : Int32) : ∃ v, fX7_clue X x y = some v ∧ fX8_clue R x y = some v ∧ Rel (n + 1) X R := by
  obtain ⟨v, a, b⟩ : Tl _ _ := by
    obtain ⟨σ, hS, hI, hT, h0, h1⟩ := h
    exact clue_ok hS hI x y
  exact ⟨v, a, b, h.next⟩
theorem s_game (h : Rel n X R) (hn : n ≤ 600) (x : Int32) : ∃ v, fX7_game X x = some v ∧ fX8_game R x = some v ∧ Rel (n + 1) X R := by
  obtain ⟨v, a, b⟩ : Tl _ _ := by
    obtain ⟨σ, hS, hI, hT, h0, h1⟩ := h
    exact game_ok hS hI x
  exact ⟨v, a, b, h.next⟩
theorem s_group (h : Rel n X R) (hn : n ≤ 600) (x y : Int32) : ∃ v, fX7_group X x y = some v ∧ fX8_group R x y = some v ∧ Rel (n + 1) X R := by
  obtain ⟨v, a, b⟩ : Tl _ _ := by
    obtain ⟨σ, hS, hI, hT, h0, h1⟩ := h
    exact group_ok hS hI hn x y
  exact ⟨v, a, b, h.next⟩
theorem s_result (h : Rel n X R) (hn : n ≤ 600) (x y : Int32) : ∃ v, fX7_result X x y = v ∧ fX8_result R x y = some v ∧ Rel (n + 1) X R := by
  obtain ⟨v, a, b⟩ : Tl (some (fX7_result X x y)) (fX8_result R x y) := by
    obtain ⟨σ, hS, hI, hT, h0, h1⟩ := h
    exact result_ok hS hI x y
  exact ⟨v, Option.some.inj a, b, h.next⟩
theorem s_nextStep (h : Rel n X R) (hn : n ≤ 600) : ∃ v R', fX7_nextStep X = some v ∧ fX8_nextStep R = some (v, R') ∧ Rel (n + 1) X R' := by
  obtain ⟨σ, hS, hI, hT, h0, h1⟩ := h
  exact Ok.told hI hT h0 h1 (nextStep_ok hS hI)
theorem s_differences (h : Rel n X R) (hn : n ≤ 600) (x : Int32) : ∃ v R', fX7_differences X x = some v ∧ fX8_differences R x = some (v, R') ∧ Rel (n + 1) X R' := by
  obtain ⟨σ, hS, hI, hT, h0, h1⟩ := h
  exact Ok.told hI hT h0 h1 (differences_ok hS hI hn x)
theorem s_logAt (h : Rel n X R) (hn : n ≤ 600) (x : Int32) : ∃ v R', fX7_logAt X x = v ∧ fX8_logAt R x = some (v, R') ∧ Rel (n + 1) X R' := by
  obtain ⟨σ, hS, hI, hT, h0, h1⟩ := h
  obtain ⟨v, R', a, b, c⟩ := Ok.told hI hT h0 h1 (logAt_tm hS hI x)
  exact ⟨v, R', Option.some.inj a, b, c⟩
theorem s_count (h : Rel n X R) (hn : n ≤ 600) (x : Int32) : ∃ v R', fX7_count X x = some v ∧ fX8_count R x = some (v, R') ∧ Rel (n + 1) X R' := by
  obtain ⟨σ, hS, hI, hT, h0, h1⟩ := h
  have hT' := hT
  obtain ⟨m, t1, t2, t3, t4⟩ := hT'
  exact Ok.told hI hT h0 h1 (count_ok hS hI (by rw [t2, t3]) x)
end DI
