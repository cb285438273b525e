section AF
variable {X R : Mem} {σ : Nat → Int} {n : Nat}
theorem note_row0 {R R1 : Mem} {a b c : Int32} (h : fX8_note R a b c = some R1) : R1 0 = R 0 := by
  unfold fX8_note at h
  simp only [thn_eq] at h
  by_cases q1 : inb ((402 : Int32) + ((4 : Int32) * (R 1 17))) 902 = true
  · rw [if_pos q1] at h
    by_cases q2 : inb (((402 : Int32) + ((4 : Int32) * (R 1 17))) + (1 : Int32)) 902 = true
    · rw [if_pos q2] at h
      by_cases q3 : inb (((402 : Int32) + ((4 : Int32) * (R 1 17))) + (2 : Int32)) 902 = true
      · rw [if_pos q3] at h
        by_cases q4 : inb (((402 : Int32) + ((4 : Int32) * (R 1 17))) + (3 : Int32)) 902 = true
        · rw [if_pos q4] at h
          cases h
          rw [wr_k _ _ _ (by omega), wr_k _ _ _ (by omega), wr_k _ _ _ (by omega), wr_k _ _ _ (by omega), wr_k _ _ _ (by omega)]
        · rw [if_neg q4] at h; cases h
      · rw [if_neg q3] at h; cases h
    · rw [if_neg q2] at h; cases h
  · rw [if_neg q1] at h; cases h
theorem wr_comm (M : Mem) (k : Nat) {i j : Nat} (a b : Int32) (h : i ≠ j) : wr (wr M k i a) k j b = wr (wr M k j b) k i a := by
  funext q x
  by_cases hq : q = k
  · subst hq
    by_cases h1 : x = i
    · subst h1
      rw [wr_i _ _ _ h, wr_at, wr_at]
    · by_cases h2 : x = j
      · subst h2
        rw [wr_at, wr_i _ _ _ h1, wr_at]
      · rw [wr_i _ _ _ h2, wr_i _ _ _ h1, wr_i _ _ _ h1, wr_i _ _ _ h2]
  · rw [wr_k _ _ _ hq, wr_k _ _ _ hq, wr_k _ _ _ hq, wr_k _ _ _ hq]
theorem RB.opn {σ : Nat → Int} (h : RB σ) {b : Nat} (hb : b < 12) {v : Int} (hv : v = 0 ∨ v = 1) (h1 : b = 0 → v = 1) : RB (us σ (56 + b) v) := by
  obtain ⟨a0, hO, hL, hP, -, hPr, hC⟩ := h
  have e : ∀ j, j < 56 ∨ 68 ≤ j → us σ (56 + b) v j = σ j := fun j hj => us_ne σ v (by omega)
  refine ⟨by rw [e 0 (by omega), e 1 (by omega), e 2 (by omega), e 5 (by omega), e 11 (by omega)]; exact a0, ?_, ?_, ⟨?_, ?_⟩, trivial, ?_, ?_⟩
  · intro b h1 hb
    rw [e 0 (by omega)] at hb
    rw [e (20 + b) (by omega)]
    exact hO b h1 hb
  · intro c h1 hc
    rw [e 0 (by omega)] at hc
    rw [e (32 + c) (by omega), e (44 + c) (by omega), e 1 (by omega)]
    exact hL c h1 hc
  · by_cases q : b = 0
    · subst q
      exact (us_at _ _ _).trans (h1 rfl)
    · rw [us_ne _ _ (by omega)]; exact hP.1
  · intro c hc
    by_cases q : c = b
    · subst q; rw [us_at]; exact hv
    · rw [us_ne _ _ (by omega)]; exact hP.2 c hc
  · intro p hp
    rw [e 1 (by omega)] at hp
    rw [e (80 + p) (by omega), e (104 + p) (by omega), e 0 (by omega)]
    exact hPr p hp
  · intro c hc
    rw [e 2 (by omega)] at hc
    have := hC c hc
    have q : (σ (140 + c)).toNat < 12 := by omega
    rw [e (128 + c) (by omega), e (140 + c) (by omega), e (152 + c) (by omega), e (164 + c) (by omega), e 0 (by omega), e 1 (by omega), e (32 + (σ (140 + c)).toNat) (by omega)]
    exact this
theorem known_iv {b : Nat} (hB : RB σ) (hb : b < 12) (v : Int) : RB (us σ (68 + b) v) := hB.c (fun j hj hc => us_ne σ v (by omega))
theorem read_ok (h : SR X R σ) (hI : Iv n σ) (hn : n ≤ 600) (x : Int32) : Step (fX7_read X x) (fX8_read R x) n X R := by
  have hB := hI.1
  have h0 := hB.1
  obtain ⟨a, ha1, ha2, rfl⟩ := zof x
  unfold fX7_read fX8_read
  rw [X_hasClue h.ro hB ha1 ha2, R_noClue h.row hB ha1 ha2, bnd_some]
  by_cases c1 : 0 ≤ a ∧ a < σ 2
  · rw [i1_t c1, i1_f (show ¬ ¬ (0 ≤ a ∧ a < σ 2) by omega), it1, it0, plays h.row hI, bnd_some, running h hI]
    by_cases c2 : σ 10 = 1
    · obtain ⟨c, rfl⟩ : ∃ p : Nat, a = p := ⟨a.toNat, by omega⟩
      have hc := cl hB (c := c) c1.2
      rw [i1_t c2, it1, it1, X_ch h.ro hB c1.2, bnd_some, R_ch h.row hB c1.2, bnd_some]
      by_cases c3 : ch σ c
      · rw [i1_t c3, it1, it1, if_pos (i164 (by omega)), j164 (by omega), rd h.row, show atX X 15 12 (zI (c : Int)) = zI (σ (164 + c)) from h.ro.ink (by omega)]
        by_cases c4 : σ (164 + c) = 0
        · rw [c4, if_pos zc0.symm, if_pos zc0.symm]
          exact Step.same h hI _ rfl rfl
        · have c4' : ¬ zI (σ (164 + c)) = 0 := by rw [zc0, zeq] <;> omega
          rw [if_neg c4', if_neg c4', X_readingMinutes h.ro hB c1.2, R_readMinutes h.row hB c1.2, bnd_some, thn_eq]
          have hm0 := am_b 3 (σ 11) (by omega) (by omega)
          have hm : 1 ≤ rmin σ c ∧ rmin σ c ≤ 200 := by unfold rmin; split <;> omega
          have ht := inTime h hI hn (m := rmin σ c) (by omega)
          by_cases c6 : rmin σ c ≤ σ 13 + σ 6 - σ 9
          · rw [ht.1, i1_t c6, it1, ht.2 c6, bnd_some]
            obtain ⟨X1, R1, σ1, a1, b1, s1, B1, e1, f1, go⟩ := act_go h hI hn c2 ⟨hm.1, c6⟩ (j := 9) (w := 3) (a := (c : Int)) (b := 0) (a' := (c : Int)) (b' := -1) (by omega) (by decide +kernel) (by omega) (Or.inl rfl) (by rw [argL1 (by omega)]; rfl) (by omega)
            obtain ⟨-, ⟨h3, h4, h6, h7, h8, h9, -, h17, h13, h12, h14⟩, hp, -, hg, hE⟩ := hI
            obtain ⟨⟨p11, p5, p9, p17, p4, p14⟩, hk0⟩ := hp c2
            have t2 : σ1 2 = σ 2 := e1 2 (by omega) (by omega)
            have t0 : σ1 0 = σ 0 := e1 0 (by omega) (by omega)
            have t10 : σ1 10 = 1 := by rw [e1 10 (by omega) (by omega)]; exact c2
            have ti : σ1 (164 + c) = σ (164 + c) := e1 _ (by omega) (by omega)
            have hc1 := cl B1 (c := c) (by omega)
            obtain ⟨b, hb⟩ : ∃ b : Nat, σ1 (140 + c) = b := ⟨(σ1 (140 + c)).toNat, by omega⟩
            obtain ⟨k, hk⟩ : ∃ k : Nat, σ1 (152 + c) = k := ⟨(σ1 (152 + c)).toNat, by omega⟩
            obtain ⟨s2, f2⟩ := s1.known t10 (b := b) (by omega) (zI (σ1 (68 + b)) ||| ((1 : Int32) <<< (zI (σ1 (152 + c)) &&& 31)))
            have B2 := known_iv B1 (b := b) (by omega) (zI (σ1 (68 + b)) ||| ((1 : Int32) <<< (zI (σ1 (152 + c)) &&& 31))).toInt
            generalize hV : (zI (σ1 (68 + b)) ||| ((1 : Int32) <<< (zI (σ1 (152 + c)) &&& 31))) = V at *
            have t164 : us σ1 (68 + b) V.toInt (164 + c) = σ (164 + c) := by rw [us_ne _ _ (by omega), ti]
            obtain ⟨s3, f3⟩ := SRput s2 (loc_164 c (by omega)) (m := 12) (by omega) (by omega) (by omega) (by omega) (σ (164 + c) - 1)
            have B3 := B2.ink (i := c) (by omega) (v := σ (164 + c) - 1) (by omega)
            obtain ⟨X4, R4, σ4, a4, b4, s4, B4, f4, I4, e4, t4⟩ := go _ _ _ s3 (f2.trans f3) B3 (fun j hj _ _ => by rw [us_ne _ _ (by omega), us_ne _ _ (by omega)]) (by rw [us_ne _ _ (by omega), us_ne _ _ (by omega), e1 14 (by omega) (by omega)]; omega) (fun q hq hcc => by rw [us_ne _ _ (by omega), us_ne _ _ (by omega), e1 _ (by omega) (by omega)]; exact hk0 q hq hcc)
            have eX : fX5_learnFromClue 4 X1 (zI (c : Int)) = some (putX (wr X1 9 b V) (4 + 11) 12 (zI (c : Int)) (zI (σ (164 + c) - 1))) := by
              unfold fX5_learnFromClue fX5_learnDigit
              rw [s1.ro.cbox (by omega), s1.ro.cplace (by omega), hb, Kn.at (s1.1.2.2.2.2.1 t10) (by omega), thn_eq, bnd_some, thn_eq, hV, show putX X1 (4 + 5) 12 (zI (b : Int)) V = wr X1 9 b V from put_in (by omega) (by omega) V, s2.ro.ink (by omega), t164, zc1, zsub, zc0, zmx (by omega) (by omega) (by omega) (by omega), Int.max_eq_right (by omega)]
            have eR : fX8_learn R1 (zI (c : Int)) = some (wr R1 1 (68 + b) V) := by
              unfold fX8_learn
              rw [if_pos (i140 (by omega)), j140 (by omega), if_pos (i152 (by omega)), j152 (by omega), rd s1.row (140 + c), rd s1.row (152 + c), hb, if_pos (i68 (by omega)), if_pos (i68 (by omega)), j68 (by omega), rd s1.row, hV, thn_eq]
            rw [it0, show (3 : Int32) = zI 3 from rfl, show (0 : Int32) = zI 0 from rfl, b1, bnd_some, zm1, a1, bnd_some, eX, bnd_some, eR, bnd_some, if_pos (i164 (by omega)), if_pos (i164 (by omega)), rd s2.row, t164, show (1 : Int32) = zI 1 from rfl, zsub, thn_eq, a4, bnd_some, b4, bnd_some]
            have u2 : σ4 2 = σ 2 := by rw [e4 2 (by omega) (by omega), us_ne _ _ (by omega), us_ne _ _ (by omega), t2]
            rw [X_clueDigit s4.ro B4 (by omega), R_digitOf s4.row B4 (by omega), bnd_some]
            exact ⟨_, X4, R4, σ4, rfl, rfl, s4, f4, I4⟩
          · rw [ht.1, i1_f c6, if_pos rfl]
            exact over_step h hI hn c2 (m := rmin σ c) (by omega) (by omega) (fun X' e => by rw [e, bnd_some]) (fun R' e => by rw [e, bnd_some]; exact it1 _ _)
      · rw [i1_f c3]
        exact Step.same h hI _ rfl rfl
    · rw [i1_f c2]
      exact Step.same h hI _ rfl rfl
  · rw [i1_f c1, i1_t c1]
    exact Step.same h hI _ rfl rfl
end AF
