/-- what is told: the same on both sides -/
def Tl (fx fr : Option Int32) : Prop := ∃ v, fx = some v ∧ fr = some v
theorem Tl.eq {fx fr : Option Int32} {v : Int32} (h1 : fx = some v) (h2 : fr = some v) : Tl fx fr := ⟨v, h1, h2⟩
section TD
variable {X R : Mem} {σ : Nat → Int} {n : Nat}
theorem asN {P : Prop} : fX7_asNumber X (i1 P) = i1 P := by
  unfold fX7_asNumber
  by_cases c : P
  · rw [i1_t c]; rfl
  · rw [i1_f c]; rfl
theorem n01 {P : Prop} : (if i1 P = (0 : Int32) then some (0 : Int32) else some (1 : Int32)) = some (i1 P) := by
  by_cases c : P
  · rw [i1_t c]; rfl
  · rw [i1_f c]; rfl
theorem box_ok (h : SR X R σ) (hI : Iv n σ) (x y : Int32) : Tl (fX7_box X x y) (fX8_box R x y) := by
  have hB := hI.1
  have h0 := hB.1
  obtain ⟨a, ha1, ha2, rfl⟩ := zof x
  unfold fX7_box fX8_box
  rw [X_hasBox h.ro hB ha1 ha2, R_noBox h.row hB ha1 ha2, bnd_some]
  by_cases c0 : 0 ≤ a ∧ a < σ 0
  · obtain ⟨b, rfl⟩ : ∃ p : Nat, a = p := ⟨a.toNat, by omega⟩
    rw [i1_t c0, i1_f (show ¬ ¬ (0 ≤ (b : Int) ∧ (b : Int) < σ 0) by omega), it1, it0]
    by_cases d0 : y = (0 : Int32)
    · rw [if_pos d0, if_pos d0]
      by_cases cb : zI (b : Int) = 0
      · rw [if_pos cb, if_pos cb]; exact Tl.eq rfl rfl
      · rw [if_neg cb, if_neg cb, if_pos (i20 (by omega)), j20 (by omega), rd h.row]
        exact Tl.eq rfl (congrArg some (h.ro.outer (by omega)).symm)
    · rw [if_neg d0, if_neg d0]
      by_cases d1 : y = (1 : Int32)
      · rw [if_pos d1, if_pos d1]
        by_cases cb : zI (b : Int) = 0
        · rw [if_pos cb, if_pos cb]; exact Tl.eq rfl rfl
        · rw [if_neg cb, if_neg cb, if_pos (i32 (by omega)), j32 (by omega), rd h.row]
          exact Tl.eq rfl (congrArg some (h.ro.lock (by omega)).symm)
      · rw [if_neg d1, if_neg d1]
        by_cases d2 : y = (2 : Int32)
        · rw [if_pos d2, if_pos d2, if_pos (i56 (by omega)), j56 (by omega), rd h.row]
          exact Tl.eq rfl (congrArg some (h.ro.opened (by omega)).symm)
        · rw [if_neg d2, if_neg d2]
          by_cases d3 : y = (3 : Int32)
          · rw [if_pos d3, if_pos d3, X_bh h.ro hB c0.2, bnd_some, R_bh h.row hB c0.2, bnd_some, asN, n01]
            exact Tl.eq rfl rfl
          · rw [if_neg d3, if_neg d3]
            by_cases d4 : y = (4 : Int32)
            · rw [if_pos d4, if_pos d4, X_propsIn h.ro hB (by omega), R_propsIn h.row hB (by omega), bnd_some]
              exact Tl.eq rfl rfl
            · rw [if_neg d4, if_neg d4]
              by_cases d5 : y = (5 : Int32)
              · rw [if_pos d5, if_pos d5, X_boxesIn h.ro hB (by omega), R_boxesIn h.row hB (by omega), bnd_some]
                exact Tl.eq rfl rfl
              · rw [if_neg d5, if_neg d5]
                by_cases d6 : y = (6 : Int32)
                · rw [if_pos d6, if_pos d6]
                  by_cases cb : zI (b : Int) = 0
                  · rw [if_pos cb, if_pos cb]; exact Tl.eq rfl rfl
                  · have hb1 : 1 ≤ b := by
                      rcases Nat.eq_zero_or_pos b with q | q
                      · subst q; exact absurd rfl cb
                      · exact q
                    have hbp := bp hB hb1 c0.2
                    rw [if_neg cb, if_neg cb, if_pos (i44 (by omega)), j44 (by omega), rd h.row, show fX5_hasLock 4 X (zI (b : Int)) (0 : Int32) = i1 (1 ≤ b ∧ σ (32 + b) = 0) from X_hasLock h.ro hB (l := 0) c0.2 (by omega)]
                    by_cases c6 : σ (32 + b) = 0
                    · rw [i1_t ⟨hb1, c6⟩, it1, hbp.2.1 c6]
                      exact Tl.eq rfl rfl
                    · rw [i1_f (fun q => c6 q.2), it0]
                      exact Tl.eq rfl (congrArg some (h.ro.item (by omega) c6).symm)
                · rw [if_neg d6, if_neg d6]
                  by_cases d7 : y = (7 : Int32)
                  · rw [if_pos d7, if_pos d7, plays h.row hI, bnd_some]
                    by_cases c2 : σ 10 = 1
                    · rw [i1_t c2, it1, if_pos (i68 (by omega)), j68 (by omega), rd h.row]
                      exact Tl.eq rfl (congrArg some (Kn.at (h.1.2.2.2.2.1 c2) (by omega)).symm)
                    · rw [i1_f c2, it0]
                      refine Tl.eq rfl (congrArg some ?_)
                      have q := zinb (a := (b : Int)) (n := 12) (by omega) (by omega)
                      unfold atX
                      rw [if_pos (by rw [q]; omega), ztn (by omega) (by omega), Int.toNat_natCast]
                      exact (h.1.2.2.2.2.2.1 (not10 hI c2) b (by omega)).symm
                  · rw [if_neg d7, if_neg d7]
                    exact Tl.eq rfl rfl
  · rw [i1_f c0, i1_t c0]
    exact Tl.eq rfl rfl
theorem prop_ok (h : SR X R σ) (hI : Iv n σ) (x y : Int32) : Tl (fX7_prop X x y) (fX8_prop R x y) := by
  have hB := hI.1
  have h0 := hB.1
  obtain ⟨a, ha1, ha2, rfl⟩ := zof x
  unfold fX7_prop fX8_prop
  rw [X_hasProp h.ro hB ha1 ha2, R_noProp h.row hB ha1 ha2, bnd_some]
  by_cases c0 : 0 ≤ a ∧ a < σ 1
  · obtain ⟨p, rfl⟩ : ∃ p : Nat, a = p := ⟨a.toNat, by omega⟩
    rw [i1_t c0, i1_f (show ¬ ¬ (0 ≤ (p : Int) ∧ (p : Int) < σ 1) by omega), it1, it0]
    by_cases d0 : y = (0 : Int32)
    · rw [if_pos d0, if_pos d0, if_pos (i80 (by omega)), j80 (by omega), rd h.row]
      exact Tl.eq rfl (congrArg some (h.ro.home (by omega)).symm)
    · rw [if_neg d0, if_neg d0]
      by_cases d1 : y = (1 : Int32)
      · rw [if_pos d1, if_pos d1, X_isHeld h.ro hB c0.2, R_isHeld h.row hB c0.2, bnd_some]
        by_cases c3 : σ (104 + p) = -1
        · rw [i1_t c3, it1, it1]; exact Tl.eq rfl rfl
        · rw [i1_f c3, it0, it0, if_pos (i104 (by omega)), j104 (by omega), rd h.row]
          exact Tl.eq rfl (congrArg some (h.ro.lies (by omega)).symm)
      · rw [if_neg d1, if_neg d1]
        by_cases d2 : y = (2 : Int32)
        · rw [if_pos d2, if_pos d2, X_ph h.ro hB c0.2, bnd_some, R_ph h.row hB c0.2, bnd_some, asN, n01]
          exact Tl.eq rfl rfl
        · rw [if_neg d2, if_neg d2]
          by_cases d3 : y = (3 : Int32)
          · rw [if_pos d3, if_pos d3, X_cluesOn h.ro hB (by omega), R_cluesOn h.row hB (by omega), bnd_some]
            exact Tl.eq rfl rfl
          · rw [if_neg d3, if_neg d3]
            by_cases d4 : y = (4 : Int32)
            · rw [if_pos d4, if_pos d4, X_locksWith h.ro hB (by omega), R_locksWith h.row hB (by omega), bnd_some]
              exact Tl.eq rfl rfl
            · rw [if_neg d4, if_neg d4]
              exact Tl.eq rfl rfl
  · rw [i1_f c0, i1_t c0]
    exact Tl.eq rfl rfl
theorem clue_ok (h : SR X R σ) (hI : Iv n σ) (x y : Int32) : Tl (fX7_clue X x y) (fX8_clue R x y) := by
  have hB := hI.1
  have h0 := hB.1
  obtain ⟨a, ha1, ha2, rfl⟩ := zof x
  unfold fX7_clue fX8_clue
  rw [X_hasClue h.ro hB ha1 ha2, R_noClue h.row hB ha1 ha2, bnd_some]
  by_cases c0 : 0 ≤ a ∧ a < σ 2
  · obtain ⟨c, rfl⟩ : ∃ p : Nat, a = p := ⟨a.toNat, by omega⟩
    rw [i1_t c0, i1_f (show ¬ ¬ (0 ≤ (c : Int) ∧ (c : Int) < σ 2) by omega), it1, it0]
    by_cases d0 : y = (0 : Int32)
    · rw [if_pos d0, if_pos d0, if_pos (i128 (by omega)), j128 (by omega), rd h.row]
      exact Tl.eq rfl (congrArg some (h.ro.cprop (by omega)).symm)
    · rw [if_neg d0, if_neg d0]
      by_cases d1 : y = (1 : Int32)
      · rw [if_pos d1, if_pos d1, if_pos (i140 (by omega)), j140 (by omega), rd h.row]
        exact Tl.eq rfl (congrArg some (h.ro.cbox (by omega)).symm)
      · rw [if_neg d1, if_neg d1]
        by_cases d2 : y = (2 : Int32)
        · rw [if_pos d2, if_pos d2, if_pos (i152 (by omega)), j152 (by omega), rd h.row]
          exact Tl.eq rfl (congrArg some (h.ro.cplace (by omega)).symm)
        · rw [if_neg d2, if_neg d2]
          by_cases d3 : y = (3 : Int32)
          · rw [if_pos d3, if_pos d3, if_pos (i164 (by omega)), j164 (by omega), rd h.row]
            exact Tl.eq rfl (congrArg some (h.ro.ink (by omega)).symm)
          · rw [if_neg d3, if_neg d3]
            by_cases d4 : y = (4 : Int32)
            · rw [if_pos d4, if_pos d4, X_clueDigit h.ro hB c0.2, R_digitOf h.row hB c0.2, bnd_some]
              exact Tl.eq rfl rfl
            · rw [if_neg d4, if_neg d4]
              by_cases d5 : y = (5 : Int32)
              · rw [if_pos d5, if_pos d5, X_ch h.ro hB c0.2, bnd_some, R_ch h.row hB c0.2, bnd_some, asN, n01]
                exact Tl.eq rfl rfl
              · rw [if_neg d5, if_neg d5]
                exact Tl.eq rfl rfl
  · rw [i1_f c0, i1_t c0]
    exact Tl.eq rfl rfl
theorem game_ok (h : SR X R σ) (hI : Iv n σ) (x : Int32) : Tl (fX7_game X x) (fX8_game R x) := by
  have hB := hI.1
  obtain ⟨a, ha1, ha2, rfl⟩ := zof x
  unfold fX7_game fX8_game
  rw [show fX8_in R (zI a) (0 : Int32) (5 : Int32) = i1 (0 ≤ a ∧ a ≤ 5) from R_in (a := a) (b := 0) (c := 5) ha1 ha2 (by omega) (by omega) (by omega) (by omega)]
  by_cases c0 : 0 ≤ a ∧ a ≤ 5
  · rw [if_neg (show ¬ zI a < 0 by rw [zc0, zlt] <;> omega), if_pos (show zI a ≤ 5 by rw [zc5, zle] <;> omega), i1_t c0, it1, plays h.row hI, bnd_some, running h hI]
    by_cases c2 : σ 10 = 1
    · rw [i1_t c2, it1, it1]
      by_cases d0 : zI a = (0 : Int32)
      · rw [if_pos d0, if_pos d0, rd h.row]; exact Tl.eq rfl (congrArg some h.players.symm)
      · rw [if_neg d0, if_neg d0]
        by_cases d1 : zI a = (1 : Int32)
        · rw [if_pos d1, if_pos d1, rd h.row]; exact Tl.eq rfl (congrArg some h.start.symm)
        · rw [if_neg d1, if_neg d1]
          by_cases d2 : zI a = (2 : Int32)
          · rw [if_pos d2, if_pos d2, left h, R_left h.row, bnd_some]; exact Tl.eq rfl rfl
          · rw [if_neg d2, if_neg d2]
            by_cases d3 : zI a = (3 : Int32)
            · rw [if_pos d3, if_pos d3, rd h.row]; exact Tl.eq rfl (congrArg some h.toldN.symm)
            · rw [if_neg d3, if_neg d3]
              by_cases d4 : zI a = (4 : Int32)
              · obtain ⟨v, q1, q2⟩ := XR_heldBits h.ro h.row hB
                rw [if_pos d4, if_pos d4, q1, q2, bnd_some]; exact Tl.eq rfl rfl
              · rw [if_neg d4, if_neg d4, rd h.row]; exact Tl.eq rfl (congrArg some h.wrong.symm)
    · rw [i1_f c2]; exact Tl.eq rfl rfl
  · rw [i1_f c0, it0]
    by_cases c1 : a < 0
    · rw [if_pos (by rw [zc0, zlt] <;> omega)]; exact Tl.eq rfl rfl
    · rw [if_neg (by rw [zc0, zlt] <;> omega), if_neg (by rw [zc5, zle] <;> omega)]; exact Tl.eq rfl rfl
theorem result_ok (h : SR X R σ) (hI : Iv n σ) (x y : Int32) : Tl (some (fX7_result X x y)) (fX8_result R x y) := by
  have hN := hI.2.1
  obtain ⟨a, ha1, ha2, rfl⟩ := zof x
  obtain ⟨b, hb1, hb2, rfl⟩ := zof y
  unfold fX7_result fX8_result
  rw [rd h.row, zc1, zsub, show fX8_in R (zI a) (0 : Int32) (zI (σ 4 - 1)) = i1 (0 ≤ a ∧ a ≤ σ 4 - 1) from R_in (a := a) (b := 0) (c := σ 4 - 1) ha1 ha2 (by omega) (by omega) (by omega) (by omega), show fX8_in R (zI b) (0 : Int32) (6 : Int32) = i1 (0 ≤ b ∧ b ≤ 6) from R_in (a := b) (b := 0) (c := 6) hb1 hb2 (by omega) (by omega) (by omega) (by omega), show X 20 0 = zI (σ 4) from h.results]
  by_cases c0 : 0 ≤ a ∧ a ≤ σ 4 - 1
  · rw [if_neg (show ¬ zI a < 0 by rw [zc0, zlt] <;> omega), if_pos (show zI a < zI (σ 4) by rw [zlt] <;> omega), i1_t c0, it1]
    by_cases c1 : 0 ≤ b ∧ b ≤ 6
    · obtain ⟨i, rfl⟩ : ∃ p : Nat, a = p := ⟨a.toNat, by omega⟩
      obtain ⟨k, rfl⟩ : ∃ p : Nat, b = p := ⟨b.toNat, by omega⟩
      rw [if_neg (show ¬ zI (k : Int) < 0 by rw [zc0, zlt] <;> omega), if_pos (show zI (k : Int) < 7 by rw [zc7, zlt] <;> omega), i1_t c1, it1, zc192, zc7, zmul, zmul, zadd, zadd, zadd, if_pos (show inb (zI (192 + 7 * (i : Int) + k)) 902 = true by rw [zinb (by omega) (by omega)]; omega), ztn (by omega) (by omega), rd h.row]
      have l := loc_r (i * 7 + k) (by omega)
      have hs := h.s l.1
      rw [l.2.1, l.2.2] at hs
      have q := zinb (a := (i : Int) * 7 + k) (n := 210) (by omega) (by omega)
      refine Tl.eq rfl (congrArg some ?_)
      unfold atX
      rw [if_pos (by rw [q]; omega), ztn (by omega) (by omega), show ((i : Int) * 7 + k).toNat = i * 7 + k by omega, show (192 + 7 * (i : Int) + k).toNat = 192 + (i * 7 + k) by omega]
      exact hs.symm
    · rw [i1_f c1, it0]
      by_cases c2 : b < 0
      · rw [if_pos (show zI b < 0 by rw [zc0, zlt] <;> omega)]; exact Tl.eq rfl rfl
      · rw [if_neg (show ¬ zI b < 0 by rw [zc0, zlt] <;> omega), if_neg (show ¬ zI b < 7 by rw [zc7, zlt] <;> omega)]; exact Tl.eq rfl rfl
  · rw [i1_f c0, it0]
    by_cases c1 : a < 0
    · rw [if_pos (show zI a < 0 by rw [zc0, zlt] <;> omega)]; exact Tl.eq rfl rfl
    · rw [if_neg (show ¬ zI a < 0 by rw [zc0, zlt] <;> omega), if_neg (show ¬ zI a < zI (σ 4) by rw [zlt] <;> omega)]; exact Tl.eq rfl rfl
theorem nextStep_ok (h : SR X R σ) (hI : Iv n σ) : ∃ v R', fX7_nextStep X = some v ∧ fX8_nextStep R = some (v, R') ∧ SR X R' σ ∧ Fr X R X R' := by
  have hB := hI.1
  unfold fX7_nextStep fX8_nextStep
  rw [plays h.row hI, bnd_some, running h hI]
  by_cases c2 : σ 10 = 1
  · obtain ⟨⟨p11, p5, -⟩, -⟩ := hI.2.2.1 c2
    obtain ⟨R0, r1, t0, r3⟩ := R_step h.row hB p11 p5
    rw [i1_t c2, it1, it1, show X 4 14 = zI (σ 5) from h.ro.ex, X_stepFor h.ro (h.1.2.2.2.2.1 c2) hB p5, bnd_some, r1, bnd_some]
    refine ⟨zI (told (stp σ)), R0, ?_, rfl, h.tf t0, Fr.tf t0⟩
    rcases r3 with r3 | r3
    · rw [r3]; rfl
    · rw [X_told (by omega)]
  · rw [i1_f c2]
    exact ⟨_, R, rfl, rfl, h, Fr.rf _ _⟩
end TD
