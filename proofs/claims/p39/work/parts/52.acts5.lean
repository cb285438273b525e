section AH
variable {X R : Mem} {σ : Nat → Int} {n : Nat}
theorem sf_5 (hB : RB σ) {b : Nat} (h1 : 1 ≤ b) (hb : (b : Int) < σ 0) (h100 : 100 ≤ sf σ b) (h5 : sf σ b % 1000 / 100 = 5) : ∃ k : Nat, k < 4 ∧ sf σ b = 500 + k + 1000 * b := by
  have h0 := hB.1
  have h9 := lhp_b hB
  unfold sf at *
  by_cases c : σ (32 + b) = 2
  · rw [if_pos c] at *
    unfold sfc at *
    have h4 := lu_le (zI (σ (68 + b))) 4 0
    by_cases c2 : lu (zI (σ (68 + b))) 4 0 = 4
    · rw [if_pos c2] at h5; omega
    · rw [if_neg c2] at *
      unfold sfe at *
      have q1 := bf_r σ b (lu (zI (σ (68 + b))) 4 0) (σ 2).toNat (-1)
      have q2 := lf_r (cma σ b (lu (zI (σ (68 + b))) 4 0)) (σ 2).toNat (-1)
      by_cases c3 : bf σ b (lu (zI (σ (68 + b))) 4 0) (σ 2).toNat (-1) < 0
      · rw [if_pos c3] at *
        by_cases c4 : lf (cma σ b (lu (zI (σ (68 + b))) 4 0)) (σ 2).toNat (-1) < 0
        · rw [if_pos c4] at *
          exact ⟨lu (zI (σ (68 + b))) 4 0, by omega, by omega⟩
        · rw [if_neg c4] at *
          rcases q2 with q2 | q2
          · have hc := cl hB (c := (lf (cma σ b (lu (zI (σ (68 + b))) 4 0)) (σ 2).toNat (-1)).toNat) (by omega)
            have h5 := cfl_r hB (p := (σ (128 + (lf (cma σ b (lu (zI (σ (68 + b))) 4 0)) (σ 2).toNat (-1)).toNat)).toNat) (by omega)
            omega
          · omega
      · rw [if_neg c3] at *
        omega
  · rw [if_neg c] at *
    have h := bp hB h1 hb
    unfold sft at *
    split at h5
    · omega
    · rename_i c3
      have h3 := h.2.2.1 (by omega)
      have hp : (((σ (44 + b)).toNat : Nat) : Int) < σ 1 := by omega
      have h7 := bo hB h1 hb
      have h6 := cfl_r hB hp
      split at h5
      · omega
      · rename_i c4
        rw [if_neg c3, if_neg c4] at h100
        unfold sth at h5 h100
        split at h5
        · split at h5 <;> omega
        · rename_i c5
          rw [if_neg c5] at h100
          omega
theorem go_5 (hB : RB σ) : ∀ (f b : Nat) (s : Int32), 1 ≤ b → (b : Int) < σ 0 → 100 ≤ go σ f s b → go σ f s b % 1000 / 100 = 5 → ∃ k c : Nat, k < 4 ∧ 1 ≤ c ∧ (c : Int) < σ 0 ∧ go σ f s b = 500 + k + 1000 * c := by
  have h0 := hB.1
  intro f
  induction f with
  | zero => intro b s _ _ h _; unfold go at h; omega
  | succ f ih =>
    intro b s h1 hb hg h5
    have h7 := bo hB h1 hb
    have hob : (((σ (20 + b)).toNat : Nat) : Int) < σ 0 := by omega
    have h6 := oc_lt hB 12 (σ (20 + b)).toNat 0 hob (by omega)
    have e6 : cf σ (σ (20 + b)).toNat = oc σ 12 (σ (20 + b)).toNat 0 := rfl
    unfold go at hg h5 ⊢
    by_cases c : bt s b = true
    · rw [if_pos c] at hg; omega
    · rw [if_neg c] at *
      by_cases c2 : nx σ b < 100
      · rw [if_pos c2] at *
        have : 1 ≤ nx σ b ∧ nx σ b < σ 0 := by
          unfold nx at *
          split
          · rename_i q
            rw [if_pos q] at c2
            have := sf_r hB h1 hb
            omega
          · omega
        exact ih _ _ (by omega) (by omega) hg h5
      · rw [if_neg c2] at *
        unfold nx at *
        by_cases q : cf σ (σ (20 + b)).toNat = 0
        · rw [if_pos q] at *
          obtain ⟨k, h8, h9⟩ := sf_5 hB h1 hb hg h5
          exact ⟨k, b, h8, h1, hb, h9⟩
        · rw [if_neg q] at *
          omega
theorem Step.tf {R' : Mem} {fx fr : Option (Int32 × Mem)} (h : Step fx fr n X R') (t : TF R R') : Step fx fr n X R := by
  obtain ⟨v, X1, R1, σ1, a, b, c, d, e⟩ := h
  exact ⟨v, X1, R1, σ1, a, b, c, (Fr.tf t).trans d, e⟩
theorem SR.tf {R' : Mem} (h : SR X R σ) (t : TF R R') : SR X R' σ := ⟨h.1, by rw [t.row (by omega)]; exact h.2⟩
theorem X_kind {a : Int} (ha : 0 ≤ a ∧ a ≤ 20000) : fX7_stepKind X (zI a) = zI (a % 1000 / 100 * 100) := by
  unfold fX7_stepKind
  rw [zc1000, zc100, zirm (by omega) (by omega) (by omega) (by omega), zdiv (by omega) (by omega) (by omega) (by omega), zmul]
theorem X_told {a : Int} (ha : 0 ≤ a ∧ a ≤ 20000) : fX7_toldStep X (zI a) = zI (told a) := by
  unfold fX7_toldStep told
  rw [X_kind ha, show (500 : Int32) = zI 500 from rfl, zc1000, zirm (by omega) (by omega) (by omega) (by omega)]
  by_cases c : a % 1000 / 100 = 5
  · rw [if_pos (by rw [c]; rfl), if_pos c]
  · rw [if_neg (by rw [zeq] <;> omega), if_neg c]
theorem nudge_ok (h : SR X R σ) (hI : Iv n σ) (hn : n ≤ 600) : Step (fX7_nudge X) (fX8_nudge R) n X R := by
  have hB := hI.1
  have h0 := hB.1
  unfold fX7_nudge fX8_nudge
  rw [plays h.row hI, bnd_some, running h hI]
  by_cases c2 : σ 10 = 1
  · have hI' := hI
    obtain ⟨-, ⟨h3, h4, h6, h7, h8, h9, -, h17, h13, h12, h14⟩, hp, -, hg, hE⟩ := hI'
    obtain ⟨⟨p11, p5, p9, p17, p4, p14⟩, hk0⟩ := hp c2
    rw [i1_t c2, it1, it1, rd h.row, rd h.row, h.toldN, show X 3 8 = zI (σ 7) from h.nudges, show X 4 14 = zI (σ 5) from h.ro.ex]
    by_cases c3 : σ 14 = σ 7
    · rw [if_neg (show ¬ zI (σ 14) < zI (σ 7) by rw [zlt] <;> omega), if_pos (show zI (σ 14) = zI (σ 7) by rw [c3])]
      exact Step.same h hI _ rfl rfl
    · rw [if_pos (show zI (σ 14) < zI (σ 7) by rw [zlt] <;> omega), if_neg (show ¬ zI (σ 14) = zI (σ 7) by rw [zeq] <;> omega), X_stepFor h.ro (h.1.2.2.2.2.1 c2) hB p5, bnd_some]
      obtain ⟨R0, r1, t0, r3⟩ := R_step h.row hB p11 p5
      have hg5 := go_5 hB 12 (σ 5).toNat 0 (by omega) (by omega)
      rw [r1, bnd_some]
      rcases r3 with r3 | r3
      · rw [r3, if_pos (by rfl), show ((zI (told (-5)), R0) : Int32 × Mem).1 = zI (told (-5)) from rfl, if_neg (by decide)]
        exact (Step.same (h.tf t0) hI _ rfl rfl).tf t0
      · have hgo : stp σ = go σ 12 0 (σ 5).toNat := rfl
        rw [← hgo] at hg5
        generalize stp σ = a at *
        have ht0 := told_r r3.1
        have ht1 : told a ≤ 20000 := by unfold told; split <;> omega
        have h' := h.tf t0
        rw [if_neg (by rw [zm5, zeq] <;> omega)]
        show Step _ (if 0 ≤ zI (told a) then _ else _) n X R
        rw [if_pos (show (0 : Int32) ≤ zI (told a) by rw [zc0, zle] <;> omega), show (2 : Int32) = zI 2 from rfl]
        show Step _ (bnd (fX8_isOver R0 (zI 2)) _) n X R
        have ht := inTime h' hI hn (m := 2) (by omega)
        by_cases c6 : 2 ≤ σ 13 + σ 6 - σ 9
        · rw [ht.1, i1_t c6, it1, ht.2 c6, bnd_some, X_told (by omega)]
          obtain ⟨X1, R1, σ1, a1, b1, s1, B1, e1, f1, go⟩ := act_go h' hI hn c2 (m := 2) ⟨by omega, c6⟩ (j := 11) (w := 4) (a := told a) (b := 0) (a' := told a) (b' := -1) (by omega) (by decide +kernel) (by omega) (Or.inl rfl) (by rw [argL1 (by omega)]; rfl) (by omega)
          have w0 := note_row0 b1
          have q14 : σ1 14 = σ 14 := e1 14 (by omega) (by omega)
          have q10 : σ1 10 = 1 := by rw [e1 10 (by omega) (by omega)]; exact c2
          obtain ⟨s2, f2⟩ := s1.stat (j := 14) rfl (σ1 14 + 1)
          have B2 : RB (us σ1 14 (σ1 14 + 1)) := B1.c (fun j hj hc => us_ne _ _ (by omega))
          rw [it0]
          show Step _ (bnd (fX8_note R0 (4 : Int32) (zI (told a)) (0 : Int32)) _) n X R
          rw [zc4, show (0 : Int32) = zI 0 from rfl, b1, bnd_some, zm1, a1, bnd_some, s1.toldN, show (1 : Int32) = zI 1 from rfl, zadd, thn_eq, X_kind (by omega)]
          show Step _ (if fX8_in R1 (zI (told a)) 500 503 = zI 0 then _ else _) n X R
          rw [show (503 : Int32) = zI 503 from rfl, show (500 : Int32) = zI 500 from rfl, R_in (by omega) (by omega) (by omega) (by omega) (by omega) (by omega)]
          by_cases c7 : a % 1000 / 100 = 5
          · obtain ⟨k, c, hk, hc1, hc2, ha⟩ := hg5 r3.1 c7
            have ta : told a = 500 + k := by unfold told; rw [if_pos c7]; omega
            have td : a / 1000 = c := by omega
            obtain ⟨s3, f3⟩ := s2.known (by rw [us_ne _ _ (by omega)]; exact q10) (b := c) (by omega) (zI (σ1 (68 + c)) ||| ((1 : Int32) <<< (zI (k : Int) &&& 31)))
            have B3 := known_iv B2 (b := c) (by omega) (zI (σ1 (68 + c)) ||| ((1 : Int32) <<< (zI (k : Int) &&& 31))).toInt
            generalize hV : (zI (σ1 (68 + c)) ||| ((1 : Int32) <<< (zI (k : Int) &&& 31))) = V at *
            obtain ⟨X4, R4, σ4, a4, b4, s4, B4, f4, I4, e4, t4⟩ := go _ _ _ s3 (f2.trans f3) B3 (fun j hj q _ => by rw [us_ne _ _ (by omega), us_ne _ _ (by omega)]) (by rw [us_ne _ _ (by omega), us_at]; omega) (fun q hq hcc => by rw [us_ne _ _ (by omega), us_ne _ _ (by omega), e1 _ (by omega) (by omega)]; exact hk0 q hq hcc)
            have eX : fX5_learnDigit 4 (wr X1 19 4 (zI (σ1 14 + 1))) (zI (c : Int)) (zI (k : Int)) = some (wr (wr X1 19 4 (zI (σ1 14 + 1))) 9 c V) := by
              unfold fX5_learnDigit
              have := Kn.at (s2.1.2.2.2.2.1 (by rw [us_ne _ _ (by omega)]; exact q10)) (b := c) (by omega)
              rw [us_ne _ _ (by omega)] at this
              rw [show atX (wr X1 19 4 (zI (σ1 14 + 1))) (4 + 5) 12 (zI (c : Int)) = zI (σ1 (68 + c)) from this, hV, thn_eq, put_in (by omega) (by omega)]
            rw [if_pos (by rw [c7]; rfl), zc1000, zdiv (by omega) (by omega) (by omega) (by omega), zc100, zirm (by omega) (by omega) (by omega) (by omega), td, show a % 100 = (k : Int) by omega, eX, bnd_some, i1_t (by omega), if_neg (by decide)]
            show Step _ (if inb (68 + R1 0 11) 902 = true then _ else none) n X R
            rw [w0, r3.2.2 c7, td, if_pos (i68 (by omega)), if_pos (i68 (by omega)), j68 (by omega), thn_eq]
            show Step _ (fX8_nudge_B95 (wr R1 1 (68 + c) (R1 1 (68 + c) ||| (1 : Int32) <<< ((zI (told a) - zI 500) &&& 31))) (zI (told a))) n X R
            rw [rd s1.row, ta, zsub, show (500 : Int) + k - 500 = k by omega, hV]
            unfold fX7_nudge_B147 fX8_nudge_B95
            rw [wr_i _ _ _ (show 14 ≠ 68 + c by omega), rd s1.row, zc1, zadd, thn_eq, wr_comm _ _ _ _ (show 68 + c ≠ 14 by omega), show (2 : Int32) = zI 2 from rfl, show wr X1 19 4 (zI (σ1 14 + 1)) = wr X1 (3 + sk 14) (si 14) (zI (σ1 14 + 1)) from rfl, a4, bnd_some, b4, bnd_some, X_told (by omega), ta]
            exact Step.tf (R' := R0) ⟨_, X4, R4, σ4, rfl, rfl, s4, f4, I4⟩ t0
          · clear hg5 hgo
            have ta : told a = a := by unfold told; rw [if_neg c7]
            obtain ⟨X4, R4, σ4, a4, b4, s4, B4, f4, I4, e4, t4⟩ := go _ _ _ s2 f2 B2 (fun j hj q _ => by rw [us_ne _ _ (by omega)]) (by rw [us_at]; omega) (fun q hq hcc => by rw [us_ne _ _ (by omega), e1 _ (by omega) (by omega)]; exact hk0 q hq hcc)
            rw [if_neg (by rw [zeq] <;> omega), i1_f (by omega), if_pos zc0]
            unfold fX7_nudge_B147 fX8_nudge_B95
            rw [rd s1.row, zc1, zadd, thn_eq, show (2 : Int32) = zI 2 from rfl]
            show Step (bnd (fX6_pass 3 (wr X1 (3 + sk 14) (si 14) (zI (σ1 14 + 1))) (zI 2)) _) _ n X R
            rw [a4, bnd_some, b4, bnd_some, X_told (by omega)]
            exact Step.tf (R' := R0) ⟨_, X4, R4, σ4, rfl, rfl, s4, f4, I4⟩ t0
        · rw [ht.1, i1_f c6, if_pos rfl]
          exact (over_step h' hI hn c2 (m := 2) (by omega) (by omega) (fun X' e => by rw [e, bnd_some]) (fun R' e => by rw [e, bnd_some]; exact it1 _ _)).tf t0
  · rw [i1_f c2]
    exact Step.same h hI _ rfl rfl
end AH
