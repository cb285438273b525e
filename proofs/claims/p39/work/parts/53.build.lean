section BA
variable {X R : Mem} {σ : Nat → Int} {n : Nat}
/-- out of a game: the room and the clock change -/
theorem Iv.off {σ' : Nat → Int} (hI : Iv n σ) (h10 : σ 10 = 0) (hB' : RB σ') (hs : ∀ j, j = 3 ∨ j = 4 ∨ j = 6 ∨ j = 7 ∨ j = 10 ∨ (12 ≤ j ∧ j ≤ 14) ∨ j = 17 ∨ (176 ≤ j ∧ j < 192) ∨ 402 ≤ j → σ' j = σ j) (q8 : 0 ≤ σ' 8 ∧ σ' 8 ≤ σ 8 + 1000) (q9 : σ 9 ≤ σ' 9 ∧ σ' 9 ≤ σ 9 + 1000) (hl : ∀ p : Nat, (p : Int) < σ' 1 → 0 ≤ σ' (104 + p)) : Iv (n + 1) σ' := by
  obtain ⟨hB, ⟨h3, h4, h6, h7, h8, h9, -, h17, h13, h12, h14⟩, hp, h0, hg, hE⟩ := hI
  have e3 := hs 3 (by omega)
  have e4 := hs 4 (by omega)
  have e6 := hs 6 (by omega)
  have e7 := hs 7 (by omega)
  have e10 := hs 10 (by omega)
  have e12 := hs 12 (by omega)
  have e13 := hs 13 (by omega)
  have e14 := hs 14 (by omega)
  have e17 := hs 17 (by omega)
  refine ⟨hB', ⟨by omega, by omega, by omega, by omega, by omega, by omega, by omega, by omega, by omega, by omega, by omega⟩, fun q => by omega, fun _ => hl, ?_, ?_⟩
  · intro g h1 h2
    rw [hs _ (by omega), hs _ (by omega)]
    exact hg g h1 (by omega)
  · rw [e17]
    exact hE.c (fun j h1 h2 => hs j (by omega))
/-- the groups change -/
theorem Iv.grp {σ' : Nat → Int} (hI : Iv n σ) (hs : ∀ j, j ≠ 3 → j < 176 ∨ 192 ≤ j → σ' j = σ j) (q3 : 0 ≤ σ' 3 ∧ σ' 3 ≤ 8) (hg' : ∀ g : Nat, g < 8 → (g : Int) < σ' 3 → (1 ≤ σ' (176 + g) ∧ σ' (176 + g) ≤ 6) ∧ (0 ≤ σ' (184 + g) ∧ σ' (184 + g) ≤ 100000)) : Iv (n + 1) σ' := by
  obtain ⟨hB, ⟨h3, h4, h6, h7, h8, h9, h10, h17, h13, h12, h14⟩, hp, h0, hg, hE⟩ := hI
  have e0 := hs 0 (by omega) (by omega)
  have e1 := hs 1 (by omega) (by omega)
  have e4 := hs 4 (by omega) (by omega)
  have e5 := hs 5 (by omega) (by omega)
  have e6 := hs 6 (by omega) (by omega)
  have e7 := hs 7 (by omega) (by omega)
  have e8 := hs 8 (by omega) (by omega)
  have e9 := hs 9 (by omega) (by omega)
  have e10 := hs 10 (by omega) (by omega)
  have e11 := hs 11 (by omega) (by omega)
  have e12 := hs 12 (by omega) (by omega)
  have e13 := hs 13 (by omega) (by omega)
  have e14 := hs 14 (by omega) (by omega)
  have e17 := hs 17 (by omega) (by omega)
  refine ⟨hB.c (fun j hj hc => hs j (by omega) (by omega)), ⟨q3, by omega, by omega, by omega, by omega, by omega, by omega, by omega, by omega, by omega, by omega⟩, fun q => ?_, fun q p hpp => ?_, hg', ?_⟩
  · have := hp (by omega)
    refine ⟨by omega, fun b hb hc => ?_⟩
    rw [hs _ (by omega) (by omega)]
    exact this.2 b hb (by omega)
  · rw [hs _ (by omega) (by have := hB.1; omega)]
    exact h0 (by omega) p (by omega)
  · rw [e17]
    exact hE.c (fun j h1 h2 => hs j (by omega) (by omega))
theorem not10 (hI : Iv n σ) (c : ¬ σ 10 = 1) : σ 10 = 0 := (hI.2.1.2.2.2.2.2.2.1).resolve_right c
theorem setExit_ok (h : SR X R σ) (hI : Iv n σ) (x : Int32) : Step (fX7_setExit X x) (fX8_setExit R x) n X R := by
  have hB := hI.1
  have h0 := hB.1
  obtain ⟨a, ha1, ha2, rfl⟩ := zof x
  unfold fX7_setExit fX8_setExit
  rw [X_hasBox h.ro hB ha1 ha2, R_noBox h.row hB ha1 ha2, bnd_some]
  by_cases c0 : 0 ≤ a ∧ a < σ 0
  · rw [i1_t c0, i1_f (show ¬ ¬ (0 ≤ a ∧ a < σ 0) by omega), it1, it0]
    by_cases c1 : a = 0
    · subst c1
      rw [if_pos zc0.symm, if_pos zc0.symm]
      exact Step.same h hI _ rfl rfl
    · have c1' : ¬ zI a = 0 := by rw [zc0, zeq] <;> omega
      rw [if_neg c1', if_neg c1', plays h.row hI, bnd_some, running h hI]
      by_cases c2 : σ 10 = 1
      · rw [i1_t c2, it1, it1]
        exact Step.same h hI _ rfl rfl
      · rw [i1_f c2, it0, it0, rd h.row, show X 4 14 = zI (σ 5) from h.ro.ex]
        by_cases c3 : σ 5 = a
        · have hw : wr R 1 5 (zI a) = R := by rw [← c3, ← rd h.row 5, wr_self]
          have c3' : zI (σ 5) = zI a := by rw [c3]
          rw [if_pos c3', thn_eq, if_pos c3', hw]
          exact Step.same h hI _ rfl rfl
        · have c3' : ¬ zI (σ 5) = zI a := by rw [zeq] <;> omega
          rw [if_neg c3', thn_eq, thn_eq, if_neg c3']
          obtain ⟨s1, f1⟩ := h.room (j := 5) rfl (by omega) (by omega) a
          refine ⟨_, _, _, _, rfl, rfl, s1, f1, hI.off (not10 hI c2) ?_ (fun j hj => us_ne _ _ (by omega)) (by rw [us_ne _ _ (by omega)]; have := hI.2.1; omega) (by rw [us_ne _ _ (by omega)]; omega) (fun p hp => by rw [us_ne _ _ (by omega)] at hp ⊢; exact hI.2.2.2.1 (not10 hI c2) p hp)⟩
          obtain ⟨⟨a0, a1, a2, a5, a11⟩, hO, hL, hP, -, hPr, hC⟩ := hB
          have e : ∀ j, j ≠ 5 → us σ 5 a j = σ j := fun j hj => us_ne σ _ hj
          refine ⟨⟨by rw [e 0 (by omega)]; exact a0, by rw [e 1 (by omega)]; exact a1, by rw [e 2 (by omega)]; exact a2, by rw [us_at, e 0 (by omega)]; omega, by rw [e 11 (by omega)]; exact a11⟩, ?_, ?_, ⟨by rw [e 56 (by omega)]; exact hP.1, fun b hb => by rw [e _ (by omega)]; exact hP.2 b hb⟩, trivial, ?_, ?_⟩
          · intro b h1 hb
            rw [e 0 (by omega)] at hb
            rw [e _ (by omega)]
            exact hO b h1 hb
          · intro b h1 hb
            rw [e 0 (by omega)] at hb
            rw [e (32 + b) (by omega), e (44 + b) (by omega), e 1 (by omega)]
            exact hL b h1 hb
          · intro p hp
            rw [e 1 (by omega)] at hp
            rw [e (80 + p) (by omega), e (104 + p) (by omega), e 0 (by omega)]
            exact hPr p hp
          · intro c hc
            rw [e 2 (by omega)] at hc
            rw [e (128 + c) (by omega), e (140 + c) (by omega), e (152 + c) (by omega), e (164 + c) (by omega), e 0 (by omega), e 1 (by omega), e (32 + (σ (140 + c)).toNat) (by omega)]
            exact hC c hc
  · rw [i1_f c0, i1_t c0]
    exact Step.same h hI _ rfl rfl
theorem addPaint_ok (h : SR X R σ) (hI : Iv n σ) (hn : n ≤ 600) (x : Int32) : Step (fX7_addPaint X x) (fX8_addPaint R x) n X R := by
  have hB := hI.1
  obtain ⟨a, ha1, ha2, rfl⟩ := zof x
  unfold fX7_addPaint fX8_addPaint
  rw [zc1, show (1000 : Int32) = zI 1000 from rfl, R_in (by omega) (by omega) (by omega) (by omega) (by omega) (by omega)]
  by_cases c1 : 1 ≤ a ∧ a ≤ 1000
  · rw [if_neg (show ¬ zI a < zI 1 by rw [zlt] <;> omega), if_pos (show zI a ≤ zI 1000 by rw [zle] <;> omega), i1_t c1, it1, h.paint, rd h.row, zadd, thn_eq, thn_eq]
    obtain ⟨s1, f1⟩ := h.stat (j := 8) rfl (σ 8 + a)
    refine ⟨zI (σ 8 + a), _, _, _, ?_, ?_, s1, f1, ?_⟩
    · rw [show wr X 3 6 (zI (σ 8 + a)) 3 6 = zI (σ 8 + a) from wr_at _ _ _ _]; rfl
    · rw [wr_at]
    · obtain ⟨hB, ⟨h3, h4, h6, h7, h8, h9, h10, h17, h13, h12, h14⟩, hp, h0, hg, hE⟩ := hI
      have e : ∀ j, j ≠ 8 → us σ 8 (σ 8 + a) j = σ j := fun j hj => us_ne σ _ hj
      refine ⟨hB.c (fun j hj hc => e j (by omega)), ?_, ?_, ?_, ?_, ?_⟩
      · rw [us_at, e 3 (by omega), e 4 (by omega), e 6 (by omega), e 7 (by omega), e 9 (by omega), e 10 (by omega), e 17 (by omega), e 13 (by omega), e 12 (by omega), e 14 (by omega)]
        exact ⟨h3, h4, h6, h7, by omega, by omega, h10, h17, h13, h12, h14⟩
      · rw [e 10 (by omega), e 11 (by omega), e 5 (by omega), e 9 (by omega), e 13 (by omega), e 6 (by omega), e 17 (by omega), e 4 (by omega), e 14 (by omega), e 7 (by omega), e 0 (by omega)]
        intro q
        exact ⟨(hp q).1, fun b hb hc => by rw [e _ (by omega)]; exact (hp q).2 b hb hc⟩
      · rw [e 10 (by omega), e 1 (by omega)]
        intro q p hpp
        rw [e _ (by omega)]
        exact h0 q p hpp
      · rw [e 3 (by omega)]
        intro g h1 h2
        rw [e _ (by omega), e _ (by omega)]
        exact hg g h1 h2
      · rw [e 17 (by omega)]
        exact hE.c (fun j h1 h2 => e j (by omega))
  · rw [i1_f c1, it0]
    by_cases c2 : a < 1
    · rw [if_pos (by rw [zlt] <;> omega)]
      exact Step.same h hI _ rfl rfl
    · rw [if_neg (by rw [zlt] <;> omega), if_neg (by rw [zle] <;> omega)]
      exact Step.same h hI _ rfl rfl
theorem setLimits_ok (h : SR X R σ) (hI : Iv n σ) (x y : Int32) : Step (fX7_setLimits X x y) (fX8_setLimits R x y) n X R := by
  have hB := hI.1
  have hN := hI.2.1
  obtain ⟨a, ha1, ha2, rfl⟩ := zof x
  obtain ⟨b, hb1, hb2, rfl⟩ := zof y
  unfold fX7_setLimits fX8_setLimits
  rw [show (10 : Int32) = zI 10 from rfl, show (120 : Int32) = zI 120 from rfl, show (9 : Int32) = zI 9 from rfl, show (0 : Int32) = zI 0 from rfl, R_in (by omega) (by omega) (by omega) (by omega) (by omega) (by omega), R_in (by omega) (by omega) (by omega) (by omega) (by omega) (by omega), ← zc0]
  by_cases c1 : 10 ≤ a ∧ a ≤ 120
  · rw [if_neg (show ¬ zI a < zI 10 by rw [zlt] <;> omega), if_neg (show ¬ zI 120 < zI a by rw [zlt] <;> omega), i1_t c1, it1]
    by_cases c3 : 0 ≤ b ∧ b ≤ 9
    · rw [if_neg (show ¬ zI b < 0 by rw [zc0, zlt] <;> omega), if_pos (show zI b ≤ zI 9 by rw [zle] <;> omega), i1_t c3, it1, plays h.row hI, bnd_some, running h hI]
      by_cases c2 : σ 10 = 1
      · rw [i1_t c2, it1, it1]
        exact Step.same h hI _ rfl rfl
      · rw [i1_f c2, it0, it0, rd h.row, rd h.row, show X 3 7 = zI (σ 6) from h.limit, show X 3 8 = zI (σ 7) from h.nudges]
        have go : ∀ w : Int32, w = 0 → Step (fX7_setLimits_B68 X (zI a) (zI b) (zI (σ 6))) (fX8_setLimits_B65 R (zI a) (zI b) (zI (σ 6)) w) n X R := by
          intro w hw
          subst hw
          unfold fX7_setLimits_B68 fX8_setLimits_B65
          obtain ⟨s1, f1⟩ := h.stat (j := 6) rfl a
          obtain ⟨s2, f2⟩ := s1.stat (j := 7) rfl b
          rw [thn_eq, thn_eq, thn_eq, thn_eq, it0]
          refine ⟨_, _, _, _, rfl, rfl, s2, f1.trans f2, ?_⟩
          obtain ⟨hB, ⟨h3, h4, h6, h7, h8, h9, h10, h17, h13, h12, h14⟩, hp, h0, hg, hE⟩ := hI
          have e : ∀ j, j ≠ 6 → j ≠ 7 → us (us σ 6 a) 7 b j = σ j := fun j hj hj2 => by rw [us_ne _ _ hj2, us_ne _ _ hj]
          refine ⟨hB.c (fun j hj hc => e j (by omega) (by omega)), ?_, ?_, ?_, ?_, ?_⟩
          · rw [us_at, us_ne _ _ (show 6 ≠ 7 by omega), us_at, e 3 (by omega) (by omega), e 4 (by omega) (by omega), e 8 (by omega) (by omega), e 9 (by omega) (by omega), e 10 (by omega) (by omega), e 17 (by omega) (by omega), e 13 (by omega) (by omega), e 12 (by omega) (by omega), e 14 (by omega) (by omega)]
            exact ⟨h3, h4, c1, c3, by omega, by omega, h10, h17, h13, h12, h14⟩
          · rw [e 10 (by omega) (by omega)]
            intro q
            exact absurd q c2
          · rw [e 10 (by omega) (by omega), e 1 (by omega) (by omega)]
            intro q p hpp
            rw [e _ (by omega) (by omega)]
            exact h0 q p hpp
          · rw [e 3 (by omega) (by omega)]
            intro g h1 h2
            rw [e _ (by omega) (by omega), e _ (by omega) (by omega)]
            exact hg g h1 h2
          · rw [e 17 (by omega) (by omega)]
            exact hE.c (fun j h1 h2 => e j (by omega) (by omega))
        by_cases c4 : σ 6 = a
        · have c4' : zI (σ 6) = zI a := by rw [c4]
          rw [if_pos c4', if_pos c4']
          by_cases c5 : σ 7 = b
          · have c5' : zI (σ 7) = zI b := by rw [c5]
            rw [if_pos c5', if_pos c5']
            unfold fX8_setLimits_B65
            rw [← c4, ← c5, ← rd h.row 6, ← rd h.row 7, wr_self, thn_eq, wr_self, thn_eq]
            exact Step.same h hI _ rfl rfl
          · have c5' : ¬ zI (σ 7) = zI b := by rw [zeq] <;> omega
            rw [if_neg c5', if_neg c5']
            exact go _ rfl
        · have c4' : ¬ zI (σ 6) = zI a := by rw [zeq] <;> omega
          rw [if_neg c4', if_neg c4']
          exact go _ rfl
    · rw [i1_f c3, it0]
      by_cases c5 : b < 0
      · rw [if_pos (by rw [zc0, zlt] <;> omega)]
        exact Step.same h hI _ rfl rfl
      · rw [if_neg (by rw [zc0, zlt] <;> omega), if_neg (by rw [zle] <;> omega)]
        exact Step.same h hI _ rfl rfl
  · rw [i1_f c1, it0]
    by_cases c2 : a < 10
    · rw [if_pos (by rw [zlt] <;> omega)]
      exact Step.same h hI _ rfl rfl
    · rw [if_neg (by rw [zlt] <;> omega), if_pos (by rw [zlt] <;> omega)]
      exact Step.same h hI _ rfl rfl
end BA
