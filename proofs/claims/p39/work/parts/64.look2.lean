section LM
variable {X R : Mem} {σ : Nat → Int} {n : Nat}
/-- those behind: how many of the first i groups want to start ahead of the clock -/
def bhd (σ : Nat → Int) (i : Nat) : Nat := cnt (fun g => decide (σ (184 + g) < σ 9)) i
theorem bhd_L (h : SR X R σ) (hI : Iv n σ) (hn : n ≤ 600) : ∀ d i m : Nat, (i : Int) + d = σ 3 → d < m → fX3_waitingBefore_L4 16 m X (zI (σ 9)) (zI ((bhd σ i : Nat) : Int)) (zI (i : Int)) = some (zI ((bhd σ (σ 3).toNat : Nat) : Int)) := by
  have hN := hI.2.1
  intro d
  induction d with
  | zero =>
    intro i m hi hm
    obtain ⟨m, rfl⟩ := ex_succ hm
    rw [fX3_waitingBefore_L4, h.waiting, if_pos (by rw [zle] <;> omega), show i = (σ 3).toNat by omega]
  | succ d ih =>
    intro i m hi hm
    obtain ⟨m, rfl⟩ := ex_succ hm
    have q := ih (i + 1) m (by omega) (by omega)
    have hg2 := (hI.2.2.2.2.1 i (by omega) (by omega)).2
    rw [fX3_waitingBefore_L4, h.waiting, if_neg (by rw [zle] <;> omega), (SRget h (i := i) (by omega)).2]
    unfold bhd at q ⊢
    by_cases c : σ 9 ≤ σ (184 + i)
    · rw [if_pos (by rw [zle] <;> omega), zsuc]
      rw [cnt_f (i := i) (by simp only [decide_eq_false_iff_not]; omega)] at q
      exact q
    · rw [if_neg (by rw [zle] <;> omega), zsuc, zsuc]
      rw [cnt_t (i := i) (by simp only [decide_eq_true_eq]; omega)] at q
      exact q
theorem resAt (h : SR X R σ) {i : Nat} (hi : i < 210) : atX X 21 210 (zI (i : Int)) = zI (σ (192 + i)) := by
  have l := loc_r i hi
  have q := h.s (j := 192 + i) l.1
  rw [l.2.1, l.2.2] at q
  have z := zinb (a := (i : Int)) (n := 210) (by omega) (by omega)
  unfold atX
  rw [if_pos (by rw [z]; omega), ztn (by omega) (by omega), Int.toNat_natCast]
  exact q
theorem wns_L (h : SR X R σ) (hI : Iv n σ) : ∀ d i m : Nat, (i : Int) + d = σ 4 → d < m → fX4_wins_L4 20 m X (wns σ i) (zI (i : Int)) = some (wns σ (σ 4).toNat) := by
  have hN := hI.2.1
  intro d
  induction d with
  | zero =>
    intro i m hi hm
    obtain ⟨m, rfl⟩ := ex_succ hm
    rw [fX4_wins_L4, h.results, if_pos (by rw [zle] <;> omega), show i = (σ 4).toNat by omega]
  | succ d ih =>
    intro i m hi hm
    obtain ⟨m, rfl⟩ := ex_succ hm
    have q := ih (i + 1) m (by omega) (by omega)
    rw [fX4_wins_L4, h.results, if_neg (by rw [zle] <;> omega), zc7, zc4, zmul, zadd, show (i : Int) * 7 + 4 = ((4 + 7 * i : Nat) : Int) by omega]
    show (thn (wns σ i + atX X 21 210 (zI ((4 + 7 * i : Nat) : Int))) fun y3 => fX4_wins_L4 20 m X y3 (zI (i : Int) + 1)) = _
    rw [resAt h (i := 4 + 7 * i) (by omega), thn_eq, zsuc, show 192 + (4 + 7 * i) = 196 + 7 * i by omega]
    exact q
theorem q_resU (h : SR X R σ) (hI : Iv n σ) (y : Int32) : fX7_result X (zI (σ 4)) y = -1 := by
  have hN := hI.2.1
  unfold fX7_result
  rw [if_neg (by rw [zc0, zlt] <;> omega), h.results, if_neg (by rw [zlt] <;> omega)]
theorem q_res (h : SR X R σ) (hI : Iv n σ) {r w : Nat} (hr : (r : Int) < σ 4) (hw : w < 7) : fX7_result X (zI (r : Int)) (zI (w : Int)) = zI (σ (192 + w + 7 * r)) := by
  have hN := hI.2.1
  unfold fX7_result
  rw [if_neg (by rw [zc0, zlt] <;> omega), h.results, if_pos (by rw [zlt] <;> omega), if_neg (by rw [zc0, zlt] <;> omega), if_pos (by rw [zc7, zlt] <;> omega), zc7, zmul, zadd, show (r : Int) * 7 + (w : Int) = ((w + 7 * r : Nat) : Int) by omega]
  rw [resAt h (i := w + 7 * r) (by omega), show 192 + (w + 7 * r) = 192 + w + 7 * r by omega]
theorem q_c0 (h : SR X R σ) : fX7_count X 0 = some (zI (σ 0)) := by unfold fX7_count; rw [if_pos rfl]; exact congrArg some h.ro.nb
theorem q_c1 (h : SR X R σ) : fX7_count X 1 = some (zI (σ 1)) := by unfold fX7_count; rw [if_neg (by decide), if_pos rfl]; exact congrArg some h.ro.np
theorem q_c2 (h : SR X R σ) : fX7_count X 2 = some (zI (σ 2)) := by unfold fX7_count; rw [if_neg (by decide), if_neg (by decide), if_pos rfl]; exact congrArg some h.ro.nc
theorem q_c3 (h : SR X R σ) : fX7_count X 3 = some (zI (σ 3)) := by unfold fX7_count; rw [if_neg (by decide), if_neg (by decide), if_neg (by decide), if_pos rfl]; exact congrArg some h.waiting
theorem q_c4 (h : SR X R σ) (hI : Iv n σ) (hn : n ≤ 600) : fX7_count X 4 = some (zI ((bhd σ (σ 3).toNat : Nat) : Int)) := by
  have hN := hI.2.1
  unfold fX7_count
  rw [if_neg (by decide), if_neg (by decide), if_neg (by decide), if_neg (by decide), if_pos rfl, h.clock]
  have q := bhd_L h hI hn (σ 3).toNat 0 5000 (by omega) (by omega)
  unfold fX3_waitingBefore
  show bnd (fX3_waitingBefore_L4 16 5000 X (zI (σ 9)) (zI ((bhd σ 0 : Nat) : Int)) (zI ((0 : Nat) : Int))) _ = _
  rw [q, bnd_some]
theorem q_c5 (h : SR X R σ) : fX7_count X 5 = some (zI (σ 9)) := by unfold fX7_count; rw [if_neg (by decide), if_neg (by decide), if_neg (by decide), if_neg (by decide), if_neg (by decide), if_pos rfl]; exact congrArg some h.clock
theorem q_c6 (h : SR X R σ) : fX7_count X 6 = some (zI (σ 8)) := by unfold fX7_count; rw [if_neg (by decide), if_neg (by decide), if_neg (by decide), if_neg (by decide), if_neg (by decide), if_neg (by decide), if_pos rfl]; exact congrArg some h.paint
theorem q_c7 (h : SR X R σ) : fX7_count X 7 = some (zI (σ 4)) := by unfold fX7_count; rw [if_neg (by decide), if_neg (by decide), if_neg (by decide), if_neg (by decide), if_neg (by decide), if_neg (by decide), if_neg (by decide), if_pos rfl]; exact congrArg some h.results
theorem q_c8 (h : SR X R σ) (hI : Iv n σ) : fX7_count X 8 = some (wns σ (σ 4).toNat) := by
  have hN := hI.2.1
  unfold fX7_count
  rw [if_neg (by decide), if_neg (by decide), if_neg (by decide), if_neg (by decide), if_neg (by decide), if_neg (by decide), if_neg (by decide), if_neg (by decide), if_pos rfl]
  have q := wns_L h hI (σ 4).toNat 0 5000 (by omega) (by omega)
  unfold fX4_wins
  show bnd (fX4_wins_L4 20 5000 X (wns σ 0) (zI ((0 : Nat) : Int))) _ = _
  rw [q, bnd_some]
theorem q_c9 (h : SR X R σ) (hI : Iv n σ) : fX7_count X 9 = some (zI (if σ 5 = 0 then -5 else σ 5)) := by
  have h0 := hI.1.1
  unfold fX7_count
  rw [if_neg (by decide), if_neg (by decide), if_neg (by decide), if_neg (by decide), if_neg (by decide), if_neg (by decide), if_neg (by decide), if_neg (by decide), if_neg (by decide), if_pos rfl, show X 4 14 = zI (σ 5) from h.ro.ex]
  by_cases c : σ 5 = 0
  · rw [if_pos (by rw [c]; rfl), if_pos c]; rfl
  · rw [if_neg (by rw [zc0, zeq] <;> omega), if_neg c]
theorem q_c11 : fX7_count X 11 = some (X 1 1) := by unfold fX7_count; rw [if_neg (by decide), if_neg (by decide), if_neg (by decide), if_neg (by decide), if_neg (by decide), if_neg (by decide), if_neg (by decide), if_neg (by decide), if_neg (by decide), if_neg (by decide), if_neg (by decide), if_pos rfl]
theorem q_c12 (h : SR X R σ) : fX7_count X 12 = some (zI (σ 6)) := by unfold fX7_count; rw [if_neg (by decide), if_neg (by decide), if_neg (by decide), if_neg (by decide), if_neg (by decide), if_neg (by decide), if_neg (by decide), if_neg (by decide), if_neg (by decide), if_neg (by decide), if_neg (by decide), if_neg (by decide), if_pos rfl]; exact congrArg some h.limit
theorem q_c13 (h : SR X R σ) : fX7_count X 13 = some (zI (σ 7)) := by unfold fX7_count; rw [if_neg (by decide), if_neg (by decide), if_neg (by decide), if_neg (by decide), if_neg (by decide), if_neg (by decide), if_neg (by decide), if_neg (by decide), if_neg (by decide), if_neg (by decide), if_neg (by decide), if_neg (by decide), if_neg (by decide), if_pos rfl]; exact congrArg some h.nudges
theorem q_c14 (h : SR X R σ) (hI : Iv n σ) : fX7_count X 14 = some (i1 (σ 10 = 1)) := by unfold fX7_count; rw [if_neg (by decide), if_neg (by decide), if_neg (by decide), if_neg (by decide), if_neg (by decide), if_neg (by decide), if_neg (by decide), if_neg (by decide), if_neg (by decide), if_neg (by decide), if_neg (by decide), if_neg (by decide), if_neg (by decide), if_neg (by decide), if_pos rfl, running h hI, asN]
theorem q_c15 : fX7_count X 15 = some (-2) := by unfold fX7_count; rw [if_neg (by decide), if_neg (by decide), if_neg (by decide), if_neg (by decide), if_neg (by decide), if_neg (by decide), if_neg (by decide), if_neg (by decide), if_neg (by decide), if_neg (by decide), if_neg (by decide), if_neg (by decide), if_neg (by decide), if_neg (by decide), if_neg (by decide)]
/-- the log's codes -/
def lgl (σ : Nat → Int) : List Int := lgs σ (σ 17).toNat
theorem lgl_len (h : SR X R σ) : (lgl σ).length ≤ 2048 := h.1.2.2.2.2.2.2.2.1
theorem q_c10 (h : SR X R σ) : fX7_count X 10 = some (zI ((lgl σ).length : Int)) := by unfold fX7_count; rw [if_neg (by decide), if_neg (by decide), if_neg (by decide), if_neg (by decide), if_neg (by decide), if_neg (by decide), if_neg (by decide), if_neg (by decide), if_neg (by decide), if_neg (by decide), if_pos rfl]; exact congrArg some h.1.2.2.2.2.2.2.1
theorem q_log (h : SR X R σ) {k : Nat} (hk : k < (lgl σ).length) : fX7_logAt X (zI (k : Int)) = zI ((lgl σ).getD k 0) := by
  have hl := lgl_len h
  unfold fX7_logAt
  rw [if_pos (by rw [zc0, zle] <;> omega), show X 22 0 = zI ((lgl σ).length : Int) from h.1.2.2.2.2.2.2.1, if_pos (by rw [zlt] <;> omega)]
  have z := zinb (a := (k : Int)) (n := 2048) (by omega) (by omega)
  unfold atX
  rw [if_pos (by rw [z]; omega), ztn (by omega) (by omega), Int.toNat_natCast]
  exact h.1.2.2.2.2.2.2.2.2 k hk
theorem q_logE (h : SR X R σ) : fX7_logAt X (zI ((lgl σ).length : Int)) = -5 := by
  have hl := lgl_len h
  unfold fX7_logAt
  rw [if_pos (by rw [zc0, zle] <;> omega), show X 22 0 = zI ((lgl σ).length : Int) from h.1.2.2.2.2.2.2.1, if_neg (by rw [zlt] <;> omega)]
theorem q_logN : fX7_logAt X (-1) = -2 := by
  unfold fX7_logAt
  rw [if_neg (by decide)]
/-- props away, boxes open -/
def awy (σ : Nat → Int) : Nat := cnt (fun p => decide (σ (104 + p) ≠ σ (80 + p))) (σ 1).toNat
def opn (σ : Nat → Int) : Nat := cnt (fun b => decide (1 ≤ b ∧ σ (56 + b) = 1)) (σ 0).toNat
def ple (σ : Nat → Int) : Nat := cnt (fun c => decide (σ (164 + c) ≤ 3)) (σ 2).toNat
theorem q_d0 (h : SR X R σ) (hI : Iv n σ) : fX7_differences X 0 = some (zI (awy σ : Nat)) := by unfold fX7_differences; rw [if_pos rfl, X_propsAway h.ro hI.1, bnd_some]; rfl
theorem q_d1 (h : SR X R σ) (hI : Iv n σ) : fX7_differences X 1 = some (zI (opn σ : Nat)) := by unfold fX7_differences; rw [if_neg (by decide), if_pos rfl, X_openBoxes h.ro hI.1, bnd_some]; rfl
theorem q_d2 (h : SR X R σ) (hI : Iv n σ) : fX7_differences X 2 = some (zI (ple σ : Nat)) := by unfold fX7_differences; rw [if_neg (by decide), if_neg (by decide), if_pos rfl, X_paleClues h.ro hI.1, bnd_some]; rfl
theorem q_d3 (h : SR X R σ) (hI : Iv n σ) (hn : n ≤ 600) : fX7_differences X 3 = some (zI (rmm σ)) := by have hN := hI.2.1; unfold fX7_differences; rw [if_neg (by decide), if_neg (by decide), if_neg (by decide), if_pos rfl, X_resetMinutes h hI.1 (by omega), bnd_some]
theorem q_d4 (h : SR X R σ) (hI : Iv n σ) (hn : n ≤ 600) : fX7_differences X 4 = some (zI (ks σ (σ 2).toNat 0 (σ 8))) := by have hN := hI.2.1; unfold fX7_differences; rw [if_neg (by decide), if_neg (by decide), if_neg (by decide), if_neg (by decide), if_pos rfl, X_resetPaint h hI.1 (by omega), bnd_some]
theorem q_d5 : fX7_differences X 5 = some (-2) := by unfold fX7_differences; rw [if_neg (by decide), if_neg (by decide), if_neg (by decide), if_neg (by decide), if_neg (by decide)]
theorem rmm_eq (σ : Nat → Int) : rmm σ = (awy σ : Int) + (opn σ : Int) + kn σ (σ 2).toNat 0 (σ 8) := rfl
theorem q_step (h : SR X R σ) (hI : Iv n σ) (h10 : σ 10 = 1) : fX7_nextStep X = some (zI (told (stp σ))) := by
  have h0 := hI.1.1
  have hp := (hI.2.2.1 h10).1
  obtain ⟨R', -, -, r3⟩ := R_step h.row hI.1 hp.1 hp.2.1
  unfold fX7_nextStep
  rw [running h hI, i1_t h10, it1, show X 4 14 = zI (σ 5) from h.ro.ex, X_stepFor h.ro (h.1.2.2.2.2.1 h10) hI.1 hp.2.1, bnd_some]
  rcases r3 with r3 | r3
  · rw [r3]; rfl
  · rw [X_told (by omega)]
end LM
