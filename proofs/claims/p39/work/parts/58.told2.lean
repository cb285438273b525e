section TE
variable {X R : Mem} {σ : Nat → Int} {n : Nat}
theorem start_L (h : SR X R σ) (hI : Iv n σ) {i : Nat} (hi : (i : Int) < σ 3) : ∀ (d j m m' : Nat) (v : Int), j + d = i → d < m → d < m' → 0 ≤ v ∧ v ≤ 900000 + 200 * j → ∃ w, fX6_latestStart_L35 3 m X (zI (i : Int)) (zI v) (zI (j : Int)) = some w ∧ fX8_startOf_L38 m' R (zI (i : Int)) (zI v) (zI (j : Int)) = some w := by
  have hN := hI.2.1
  intro d
  induction d with
  | zero =>
    intro j m m' v hj hm hm' hv
    obtain ⟨m, rfl⟩ := ex_succ hm
    obtain ⟨m', rfl⟩ := ex_succ hm'
    have hg := hI.2.2.2.2.1 i (by omega) hi
    rw [fX6_latestStart_L35, fX8_startOf_L38, if_pos (show zI (i : Int) ≤ zI (j : Int) by rw [zle] <;> omega), if_pos (show zI (i : Int) ≤ zI (j : Int) by rw [zle] <;> omega), if_pos (i184 (by omega)), if_pos (i184 (by omega)), j184 (by omega), rd h.row, show atX X (3 + 15) 8 (zI (i : Int)) = zI (σ (184 + i)) from (SRget h (i := i) (by omega)).2, zmx (by omega) (by omega) (by omega) (by omega)]
    by_cases c : v ≤ σ (184 + i)
    · rw [if_pos (show zI v ≤ zI (σ (184 + i)) by rw [zle] <;> omega), Int.max_eq_right (by omega)]
      exact ⟨_, rfl, rfl⟩
    · rw [if_neg (show ¬ zI v ≤ zI (σ (184 + i)) by rw [zle] <;> omega), Int.max_eq_left (by omega)]
      exact ⟨_, rfl, rfl⟩
  | succ d ih =>
    intro j m m' v hj hm hm' hv
    obtain ⟨m, rfl⟩ := ex_succ hm
    obtain ⟨m', rfl⟩ := ex_succ hm'
    have hg := hI.2.2.2.2.1 j (by omega) (by omega)
    obtain ⟨w, q1, q2⟩ := ih (j + 1) m m' (max v (σ (184 + j)) + σ 6 + 10) (by omega) (by omega) (by omega) (by omega)
    refine ⟨w, ?_, ?_⟩
    · rw [fX6_latestStart_L35, if_neg (show ¬ zI (i : Int) ≤ zI (j : Int) by rw [zle] <;> omega), show atX X (3 + 15) 8 (zI (j : Int)) = zI (σ (184 + j)) from (SRget h (i := j) (by omega)).2, zmx (by omega) (by omega) (by omega) (by omega), h.limit, zc10, zadd, zadd, thn_eq, zsuc]
      exact q1
    · rw [fX8_startOf_L38, if_neg (show ¬ zI (i : Int) ≤ zI (j : Int) by rw [zle] <;> omega), if_pos (i184 (by omega)), if_pos (i184 (by omega)), j184 (by omega), rd h.row, rd h.row, zc10, zadd, zadd, zadd, zadd, thn_eq, thn_eq, zsuc]
      by_cases c : v ≤ σ (184 + j)
      · rw [if_pos (show zI v ≤ zI (σ (184 + j)) by rw [zle] <;> omega)]
        rw [Int.max_eq_right (by omega)] at q2
        exact q2
      · rw [if_neg (show ¬ zI v ≤ zI (σ (184 + j)) by rw [zle] <;> omega)]
        rw [Int.max_eq_left (by omega)] at q2
        exact q2
theorem group_ok (h : SR X R σ) (hI : Iv n σ) (hn : n ≤ 600) (x y : Int32) : Tl (fX7_group X x y) (fX8_group R x y) := by
  have hN := hI.2.1
  obtain ⟨a, ha1, ha2, rfl⟩ := zof x
  unfold fX7_group fX8_group
  rw [hasGroup h hN.1 ha1 ha2, noGroup h hN.1 ha1 ha2, bnd_some]
  by_cases c0 : 0 ≤ a ∧ a < σ 3
  · obtain ⟨i, rfl⟩ : ∃ p : Nat, a = p := ⟨a.toNat, by omega⟩
    rw [i1_t c0, i1_f (show ¬ ¬ (0 ≤ (i : Int) ∧ (i : Int) < σ 3) by omega), it1, it0]
    by_cases d0 : y = (0 : Int32)
    · rw [if_pos d0, if_pos d0, if_pos (i176 (by omega)), j176 (by omega), rd h.row]
      exact Tl.eq rfl (congrArg some (SRget h (i := i) (by omega)).1.symm)
    · rw [if_neg d0, if_neg d0]
      by_cases d1 : y = (1 : Int32)
      · rw [if_pos d1, if_pos d1, if_pos (i184 (by omega)), j184 (by omega), rd h.row]
        exact Tl.eq rfl (congrArg some (SRget h (i := i) (by omega)).2.symm)
      · rw [if_neg d1, if_neg d1]
        by_cases d2 : y = (2 : Int32)
        · rw [if_pos d2, if_pos d2]
          unfold fX6_latestStart fX8_startOf
          rw [plays h.row hI, bnd_some, show bz (X (3 + 16) 0) = i1 (σ 10 = 1) from running h hI]
          by_cases c2 : σ 10 = 1
          · obtain ⟨w, q1, q2⟩ := start_L h hI c0.2 i 0 5000 5000 (σ 13 + σ 6 + 10) (by omega) (by omega) (by omega) (by omega)
            rw [i1_t c2, it1, it1, show X (3 + 16) 3 = zI (σ 13) from h.start, h.limit, rd h.row, rd h.row, zc10, zadd, zadd, thn_eq, thn_eq, show (0 : Int32) = zI ((0 : Nat) : Int) from rfl, q1, q2, bnd_some]
            exact Tl.eq rfl rfl
          · obtain ⟨w, q1, q2⟩ := start_L h hI c0.2 i 0 5000 5000 (σ 9) (by omega) (by omega) (by omega) (by omega)
            rw [i1_f c2, it0, it0, h.clock, rd h.row, show (0 : Int32) = zI ((0 : Nat) : Int) from rfl, q1, q2, bnd_some]
            exact Tl.eq rfl rfl
        · rw [if_neg d2, if_neg d2]
          exact Tl.eq rfl rfl
  · rw [i1_f c0, i1_t c0]
    exact Tl.eq rfl rfl
theorem behind_L (h : SR X R σ) (hI : Iv n σ) : ∀ (d j m m' : Nat) (y : Int32), (j : Int) + d = σ 3 → d < m → d < m' → ∃ w, fX3_waitingBefore_L4 16 m X (X 3 5) y (zI (j : Int)) = some w ∧ fX8_behind_L4 m' R y (zI (j : Int)) = some w := by
  have hN := hI.2.1
  intro d
  induction d with
  | zero =>
    intro j m m' y hj hm hm'
    obtain ⟨m, rfl⟩ := ex_succ hm
    obtain ⟨m', rfl⟩ := ex_succ hm'
    exact ⟨y, by rw [fX3_waitingBefore_L4, if_pos (by rw [h.waiting, zle] <;> omega)], by rw [fX8_behind_L4, if_pos (by rw [rd h.row, zle] <;> omega)]⟩
  | succ d ih =>
    intro j m m' y hj hm hm'
    obtain ⟨m, rfl⟩ := ex_succ hm
    obtain ⟨m', rfl⟩ := ex_succ hm'
    rw [fX3_waitingBefore_L4, fX8_behind_L4, if_neg (show ¬ X 16 0 ≤ zI (j : Int) by rw [h.waiting, zle] <;> omega), if_neg (show ¬ R 1 3 ≤ zI (j : Int) by rw [rd h.row, zle] <;> omega), if_pos (i184 (by omega)), j184 (by omega), rd h.row, rd h.row, show atX X (16 + 2) 8 (zI (j : Int)) = zI (σ (184 + j)) from (SRget h (i := j) (by omega)).2, h.clock, z_0, zsuc]
    have hc := h.clock
    by_cases c : zI (σ 9) ≤ zI (σ (184 + j))
    · rw [if_pos c, if_pos c, ← hc]
      exact ih (j + 1) m m' y (by omega) (by omega) (by omega)
    · rw [if_neg c, if_neg c, ← hc]
      exact ih (j + 1) m m' (y + 1) (by omega) (by omega) (by omega)
theorem wins_L (h : SR X R σ) (hI : Iv n σ) : ∀ (d j m m' : Nat) (y : Int32), (j : Int) + d = σ 4 → d < m → d < m' → ∃ w, fX4_wins_L4 20 m X y (zI (j : Int)) = some w ∧ fX8_wins_L4 m' R y (zI (j : Int)) = some w := by
  have hN := hI.2.1
  intro d
  induction d with
  | zero =>
    intro j m m' y hj hm hm'
    obtain ⟨m, rfl⟩ := ex_succ hm
    obtain ⟨m', rfl⟩ := ex_succ hm'
    exact ⟨y, by rw [fX4_wins_L4, if_pos (by rw [h.results, zle] <;> omega)], by rw [fX8_wins_L4, if_pos (by rw [rd h.row, zle] <;> omega)]⟩
  | succ d ih =>
    intro j m m' y hj hm hm'
    obtain ⟨m, rfl⟩ := ex_succ hm
    obtain ⟨m', rfl⟩ := ex_succ hm'
    have l := loc_r (j * 7 + 4) (by omega)
    have hs := h.s l.1
    rw [l.2.1, l.2.2] at hs
    have q := zinb (a := (j : Int) * 7 + 4) (n := 210) (by omega) (by omega)
    have e : atX X (20 + 1) 210 (zI (j : Int) * 7 + 4) = zI (σ (192 + (j * 7 + 4))) := by
      rw [zc7, zc4, zmul, zadd]
      unfold atX
      rw [if_pos (by rw [q]; omega), ztn (by omega) (by omega), show ((j : Int) * 7 + 4).toNat = j * 7 + 4 by omega]
      exact hs
    rw [fX4_wins_L4, fX8_wins_L4, if_neg (show ¬ X 20 0 ≤ zI (j : Int) by rw [h.results, zle] <;> omega), if_neg (show ¬ R 1 4 ≤ zI (j : Int) by rw [rd h.row, zle] <;> omega), e, show (192 : Int32) + 7 * zI (j : Int) + 4 = zI (192 + 7 * (j : Int) + 4) by rw [zc192, zc7, zc4, zmul, zadd, zadd], if_pos (show inb (zI (192 + 7 * (j : Int) + 4)) 902 = true by rw [zinb (by omega) (by omega)]; omega), ztn (by omega) (by omega), rd h.row, show (192 + 7 * (j : Int) + 4).toNat = 192 + (j * 7 + 4) by omega, thn_eq, thn_eq, zsuc]
    exact ih (j + 1) m m' _ (by omega) (by omega) (by omega)
/-- what is told, with the reference's own scratch -/
def Tm (fx : Option Int32) (fr : Option (Int32 × Mem)) (X R : Mem) (σ : Nat → Int) : Prop := ∃ v R', fx = some v ∧ fr = some (v, R') ∧ SR X R' σ ∧ Fr X R X R'
theorem Tm.same {fx : Option Int32} {fr : Option (Int32 × Mem)} (h : SR X R σ) {v : Int32} (h1 : fx = some v) (h2 : fr = some (v, R)) : Tm fx fr X R σ := ⟨v, R, h1, h2, h, Fr.rf X R⟩
theorem SRsp {R' : Mem} (h : SR X R σ) (t : SpF R R') : SR X R' σ := ⟨h.1, by rw [t.1 1 (by omega) (by omega)]; exact h.2⟩
theorem logAt_tm (h : SR X R σ) (hI : Iv n σ) (x : Int32) : Tm (some (fX7_logAt X x)) (fX8_logAt R x) X R σ := by
  obtain ⟨v, R', a, b, c⟩ := logAt_ok h hI.2.1.2.2.2.2.2.2.2.1 hI.2.2.2.2.2 x
  exact ⟨v, R', by rw [a], b, SRsp h c, Fr.sp c⟩
theorem count_ok (h : SR X R σ) (hI : Iv n σ) (hT : X 1 1 = R 0 4) (x : Int32) : Tm (fX7_count X x) (fX8_count R x) X R σ := by
  have hB := hI.1
  have h0 := hB.1
  have hN := hI.2.1
  unfold fX7_count fX8_count
  by_cases d0 : x = (0 : Int32)
  · rw [if_pos d0, if_pos d0, rd h.row]; exact Tm.same h (congrArg some h.ro.nb) rfl
  rw [if_neg d0, if_neg d0]
  by_cases d1 : x = (1 : Int32)
  · rw [if_pos d1, if_pos d1, rd h.row]; exact Tm.same h (congrArg some h.ro.np) rfl
  rw [if_neg d1, if_neg d1]
  by_cases d2 : x = (2 : Int32)
  · rw [if_pos d2, if_pos d2, rd h.row]; exact Tm.same h (congrArg some h.ro.nc) rfl
  rw [if_neg d2, if_neg d2]
  by_cases d3 : x = (3 : Int32)
  · rw [if_pos d3, if_pos d3, rd h.row]; exact Tm.same h (congrArg some h.waiting) rfl
  rw [if_neg d3, if_neg d3]
  by_cases d4 : x = (4 : Int32)
  · obtain ⟨w, q1, q2⟩ := behind_L h hI (σ 3).toNat 0 5000 5000 0 (by omega) (by omega) (by omega)
    rw [if_pos d4, if_pos d4, show fX3_waitingBefore 16 X (X 3 5) = some w from q1, show fX8_behind R = some w from q2, bnd_some]
    exact Tm.same h rfl rfl
  rw [if_neg d4, if_neg d4]
  by_cases d5 : x = (5 : Int32)
  · rw [if_pos d5, if_pos d5, rd h.row]; exact Tm.same h (congrArg some h.clock) rfl
  rw [if_neg d5, if_neg d5]
  by_cases d6 : x = (6 : Int32)
  · rw [if_pos d6, if_pos d6, rd h.row]; exact Tm.same h (congrArg some h.paint) rfl
  rw [if_neg d6, if_neg d6]
  by_cases d7 : x = (7 : Int32)
  · rw [if_pos d7, if_pos d7, rd h.row]; exact Tm.same h (congrArg some h.results) rfl
  rw [if_neg d7, if_neg d7]
  by_cases d8 : x = (8 : Int32)
  · obtain ⟨w, q1, q2⟩ := wins_L h hI (σ 4).toNat 0 5000 5000 0 (by omega) (by omega) (by omega)
    rw [if_pos d8, if_pos d8, show fX4_wins 20 X = some w from q1, show fX8_wins R = some w from q2, bnd_some]
    exact Tm.same h rfl rfl
  rw [if_neg d8, if_neg d8]
  by_cases d9 : x = (9 : Int32)
  · rw [if_pos d9, if_pos d9, rd h.row, show X 4 14 = zI (σ 5) from h.ro.ex]
    by_cases c : zI (σ 5) = 0
    · rw [if_pos c, if_pos c]; exact Tm.same h rfl rfl
    · rw [if_neg c, if_neg c]; exact Tm.same h rfl rfl
  rw [if_neg d9, if_neg d9]
  by_cases d10 : x = (10 : Int32)
  · obtain ⟨v, R', a, b, c⟩ := logLength_ok h hN.2.2.2.2.2.2.2.1 hI.2.2.2.2.2
    rw [if_pos d10, if_pos d10, b, bnd_some, a]
    exact ⟨v, R', rfl, rfl, SRsp h c, Fr.sp c⟩
  rw [if_neg d10, if_neg d10]
  by_cases d11 : x = (11 : Int32)
  · rw [if_pos d11, if_pos d11, hT]; exact Tm.same h rfl rfl
  rw [if_neg d11, if_neg d11]
  by_cases d12 : x = (12 : Int32)
  · rw [if_pos d12, if_pos d12, rd h.row]; exact Tm.same h (congrArg some h.limit) rfl
  rw [if_neg d12, if_neg d12]
  by_cases d13 : x = (13 : Int32)
  · rw [if_pos d13, if_pos d13, rd h.row]; exact Tm.same h (congrArg some h.nudges) rfl
  rw [if_neg d13, if_neg d13]
  by_cases d14 : x = (14 : Int32)
  · rw [if_pos d14, if_pos d14, rd h.row, running h hI, asN]
    refine Tm.same h rfl ?_
    rcases hN.2.2.2.2.2.2.1 with q | q
    · rw [q, i1_f (by omega)]; rfl
    · rw [q, i1_t rfl]; rfl
  rw [if_neg d14, if_neg d14]
  exact Tm.same h rfl rfl
end TE
