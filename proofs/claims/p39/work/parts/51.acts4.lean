section AG
variable {X R : Mem} {σ : Nat → Int} {n : Nat}
theorem open_go (h : SR X R σ) (hI : Iv n σ) (hn : n ≤ 600) (c2 : σ 10 = 1) {b : Nat} (h1 : 1 ≤ b) (hb : (b : Int) < σ 0) (ho : ¬ σ (56 + b) = 1) {w : Int} (hw : w = 0 ∨ w = 1) : Step (fX7_open_B70 X (zI (b : Int)) (zI w)) (fX8_open_B76 R (zI (b : Int)) (zI (1 - w))) n X R := by
  have hB := hI.1
  have h0 := hB.1
  have hop : σ (56 + b) = 0 := (bop hB (b := b) (by omega)).resolve_right ho
  have hm := am_b 4 (σ 11) (by omega) (by omega)
  have eX : fX7_open_B70 X (zI (b : Int)) (zI w) = fX7_open_B91 X (zI (b : Int)) (zI w) (zI (am 4 (σ 11) * (1 + w))) := by
    unfold fX7_open_B70
    rw [h.ro.ha, zc4, X_am (by omega) (by omega)]
    rcases hw with rfl | rfl
    · rw [if_pos (by rfl), thn_eq, zc1, zmul]; rfl
    · rw [if_neg (by decide), thn_eq, zc2, zmul]; rfl
  have eR : fX8_open_B76 R (zI (b : Int)) (zI (1 - w)) = fX8_open_B97 R (zI (b : Int)) (zI (1 - w)) (zI (am 4 (σ 11) * (1 + w))) := by
    unfold fX8_open_B76
    rw [zc4, R_lessHalf h.row hB (by omega), bnd_some, bnd_some]
    rcases hw with rfl | rfl
    · rw [if_neg (by decide), show am 4 (σ 11) * (1 + 0) = am 4 (σ 11) by omega]
    · rw [if_pos (by rfl), zc2, zmul, show am 4 (σ 11) * (1 + 1) = 2 * am 4 (σ 11) by omega]
  rw [eX, eR]
  have hmm : 1 ≤ am 4 (σ 11) * (1 + w) ∧ am 4 (σ 11) * (1 + w) ≤ 200 := by rcases hw with rfl | rfl <;> omega
  generalize am 4 (σ 11) * (1 + w) = m at *
  unfold fX7_open_B91 fX8_open_B97
  have ht := inTime h hI hn (m := m) (by omega)
  by_cases c6 : m ≤ σ 13 + σ 6 - σ 9
  · rw [ht.1, i1_t c6, it1, ht.2 c6, bnd_some]
    obtain ⟨X1, R1, σ1, a1, b1, s1, B1, e1, f1, go⟩ := act_go h hI hn c2 ⟨hmm.1, c6⟩ (j := 8) (w := 2) (a := (b : Int)) (b := 0) (a' := (b : Int)) (b' := -1) (by omega) (by decide +kernel) (by omega) (Or.inl rfl) (by rw [argL1 (by omega)]; rfl) (by omega)
    have hI' := hI
    obtain ⟨-, ⟨h3, h4, h6, h7, h8, h9, -, h17, h13, h12, h14⟩, hp, -, hg, hE⟩ := hI'
    obtain ⟨⟨p11, p5, p9, p17, p4, p14⟩, hk0⟩ := hp c2
    rw [it0, zc2, zc0, b1, bnd_some, zm1, a1, bnd_some]
    rcases hw with rfl | rfl
    · -- it opens
      obtain ⟨s2, f2⟩ := SRput s1 (loc_56 b (by omega)) (m := 12) (by omega) (by omega) (by omega) (by omega) 1
      have B2 : RB (us σ1 (56 + b) 1) := B1.opn (by omega) (Or.inr rfl) (fun _ => rfl)
      obtain ⟨X3, R3, σ3, a3, b3, s3, B3, f3, I3, e3, t3⟩ := go _ _ _ s2 f2 B2 (fun j hj _ _ => us_ne _ _ (by omega)) (by rw [us_ne _ _ (by omega), e1 14 (by omega) (by omega)]; omega) (fun q hq hc => by rw [us_ne _ _ (by omega), e1 _ (by omega) (by omega)]; exact hk0 q hq hc)
      rw [if_pos rfl, thn_eq, show putX X1 8 12 (zI (b : Int)) (1 : Int32) = putX X1 (4 + 4) 12 (zI (b : Int)) (zI 1) from rfl, a3, bnd_some, if_neg (show ¬ zI (1 - 0) = zI 0 by decide), if_pos (i56 (by omega)), j56 (by omega), thn_eq]
      unfold fX8_open_B134
      rw [if_neg (show ¬ zI (1 - 0) = 0 by decide), z_0, wr_self, thn_eq]
      unfold fX8_open_B153
      rw [show wr R1 1 (56 + b) (1 : Int32) = wr R1 1 (56 + b) (zI 1) from rfl, b3, bnd_some, if_neg (show ¬ zI (1 - 0) = 0 by decide), rd s3.row, show X3 4 14 = zI (σ3 5) from s3.ro.ex]
      by_cases c7 : (b : Int) = σ3 5
      · obtain ⟨X4, R4, σ4, a4, b4, s4, f4, I4, -⟩ := end_iv s3 I3 (by rw [e3 10 (by omega) (by omega), us_ne _ _ (by omega), e1 10 (by omega) (by omega)]; exact c2) (won := 1) (Or.inr rfl)
        rw [if_pos (by rw [c7]), if_pos (by rw [c7]), zc1, a4, bnd_some, b4, bnd_some]
        exact ⟨_, X4, R4, σ4, rfl, rfl, s4, f3.trans f4, I4⟩
      · have u5 : σ3 5 = σ 5 := by rw [e3 5 (by omega) (by omega), us_ne _ _ (by omega), e1 5 (by omega) (by omega)]
        have c7' : ¬ zI (b : Int) = zI (σ3 5) := by rw [zeq] <;> omega
        rw [if_neg c7', if_neg c7']
        unfold fX8_open_B180
        rw [if_neg (show ¬ zI (1 - 0) = 0 by decide)]
        exact ⟨_, X3, R3, σ3, rfl, rfl, s3, f3, I3⟩
    · -- a wrong code
      have q15 : σ1 15 = σ 15 := e1 15 (by omega) (by omega)
      have hop1 : σ1 (56 + b) = 0 := by rw [e1 _ (by omega) (by omega)]; exact hop
      obtain ⟨s2, f2⟩ := s1.stat (j := 15) rfl (σ1 15 + 1)
      have B2 : RB (us σ1 15 (σ1 15 + 1)) := B1.c (fun j hj hc => us_ne _ _ (by omega))
      obtain ⟨X3, R3, σ3, a3, b3, s3, B3, f3, I3, e3, t3⟩ := go _ _ _ s2 f2 B2 (fun j hj _ q => us_ne _ _ (by omega)) (by rw [us_ne _ _ (by omega), e1 14 (by omega) (by omega)]; omega) (fun q hq hc => by rw [us_ne _ _ (by omega), e1 _ (by omega) (by omega)]; exact hk0 q hq hc)
      rw [if_neg (show ¬ zI 1 = zI 0 by decide), s1.wrong, zc1, zadd, thn_eq, show wr X1 19 5 (zI (σ1 15 + 1)) = wr X1 (3 + sk 15) (si 15) (zI (σ1 15 + 1)) from rfl, a3, bnd_some, if_pos (show zI (1 - 1) = zI 0 from rfl), if_pos (i56 (by omega)), j56 (by omega), thn_eq]
      have ew : wr R1 1 (56 + b) (zI 0) = R1 := by
        have := wr_self R1 1 (56 + b)
        rw [rd s1.row, hop1] at this
        exact this
      rw [ew]
      unfold fX8_open_B134
      rw [if_pos (show zI (1 - 1) = 0 from rfl), rd s1.row, zc1, zadd, thn_eq]
      unfold fX8_open_B153
      rw [b3, bnd_some, if_pos (show zI (1 - 1) = 0 from rfl)]
      unfold fX8_open_B180
      rw [if_pos (show zI (1 - 1) = 0 from rfl)]
      exact ⟨_, X3, R3, σ3, rfl, rfl, s3, f3, I3⟩
  · rw [ht.1, i1_f c6, if_pos rfl]
    exact over_step h hI hn c2 (m := m) (by omega) (by omega) (fun X' e => by rw [e, bnd_some]) (fun R' e => by rw [e, bnd_some]; exact it1 _ _)
theorem open_ok (h : SR X R σ) (hI : Iv n σ) (hn : n ≤ 600) (x y : Int32) : Step (fX7_open X x y) (fX8_open R x y) n X R := by
  have hB := hI.1
  have h0 := hB.1
  obtain ⟨a, ha1, ha2, rfl⟩ := zof x
  obtain ⟨v, hv1, hv2, rfl⟩ := zof y
  unfold fX7_open fX8_open
  rw [X_hasBox h.ro hB ha1 ha2, R_noBox h.row hB ha1 ha2, bnd_some]
  by_cases c0 : 0 ≤ a ∧ a < σ 0
  · rw [i1_t c0, i1_f (show ¬ ¬ (0 ≤ a ∧ a < σ 0) by omega), it1, it0, plays h.row hI, bnd_some, running h hI]
    by_cases c2 : σ 10 = 1
    · obtain ⟨b, rfl⟩ : ∃ p : Nat, a = p := ⟨a.toNat, by omega⟩
      rw [i1_t c2, it1, it1, X_canBeOpened h.ro hB c0.2, bnd_some, R_isOpen' h.row hB (by omega), bnd_some]
      by_cases c3 : σ (56 + b) = 1
      · rw [i1_t c3, i1_f (fun q => q.1 c3), it0, it1]
        exact Step.same h hI _ rfl rfl
      · have hb1 : 1 ≤ b := by
          rcases Nat.eq_zero_or_pos b with q | q
          · subst q; exact absurd hB.2.2.2.1.1 c3
          · exact q
        rw [i1_f c3, it0, R_bh h.row hB c0.2, bnd_some]
        by_cases c4 : bh σ b
        · rw [i1_t c4, it1, R_lets h.row hB hb1 c0.2, bnd_some]
          by_cases c5 : lts σ b
          · rw [i1_t c5, it1, i1_t ⟨c3, c4, c5⟩, it1, if_pos (i32 (by omega)), j32 (by omega), rd h.row, zc2, X_hasLock h.ro hB c0.2 (by omega)]
            have hbp := bp hB hb1 c0.2
            by_cases c6 : σ (32 + b) = 2
            · have hc := hbp.2.2.2 c6
              rw [c6, i1_t ⟨hb1, rfl⟩, it1, if_pos rfl, if_pos (i44 (by omega)), j44 (by omega), rd h.row, show atX X 7 12 (zI (b : Int)) = zI (σ (44 + b)) from h.ro.item (by omega) (by omega)]
              by_cases c7 : zI (σ (44 + b)) = zI v
              · rw [if_pos c7, if_pos c7]
                exact open_go h hI hn c2 hb1 c0.2 c3 (w := 0) (Or.inl rfl)
              · rw [if_neg c7, if_neg c7]
                exact open_go h hI hn c2 hb1 c0.2 c3 (w := 1) (Or.inr rfl)
            · rw [i1_f (fun q => c6 q.2), it0, if_neg (by rw [zeq] <;> omega)]
              exact open_go h hI hn c2 hb1 c0.2 c3 (w := 0) (Or.inl rfl)
          · rw [i1_f c5, it0, i1_f (fun q => c5 q.2.2), it0]
            exact Step.same h hI _ rfl rfl
        · rw [i1_f c4, it0, i1_f (fun q => c4 q.2.1), it0]
          exact Step.same h hI _ rfl rfl
    · rw [i1_f c2]
      exact Step.same h hI _ rfl rfl
  · rw [i1_f c0, i1_t c0]
    exact Step.same h hI _ rfl rfl
end AG
