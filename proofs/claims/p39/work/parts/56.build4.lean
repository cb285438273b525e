section BD
variable {X R : Mem} {σ : Nat → Int} {n : Nat}
/-- out of a game something is set right, and minutes pass -/
theorem tidy {X2 R2 : Mem} {σ2 : Nat → Int} (hI : Iv n σ) (hn : n ≤ 600) (h10 : σ 10 = 0) (s2 : SR X2 R2 σ2) (f2 : Fr X R X2 R2) (B2 : RB σ2) (e2 : ∀ j, (j < 56 ∨ (80 ≤ j ∧ j < 104) ∨ (128 ≤ j ∧ j < 164) ∨ 176 ≤ j) → j ≠ 8 → σ2 j = σ j) (q8 : 0 ≤ σ2 8 ∧ σ2 8 ≤ σ 8 + 1000) (hl : ∀ p : Nat, (p : Int) < σ 1 → 0 ≤ σ2 (104 + p)) {m : Int} (hm : 0 ≤ m ∧ m ≤ 1000) : ∃ X3 R3 σ3, fX6_pass 3 X2 (zI m) = some X3 ∧ fX8_pass R2 (zI m) = some R3 ∧ SR X3 R3 σ3 ∧ RB σ3 ∧ Fr X R X3 R3 ∧ Iv (n + 1) σ3 ∧ (∀ j, j < 164 ∨ 176 ≤ j → j ≠ 9 → σ3 j = σ2 j) ∧ σ3 9 = σ 9 + m := by
  have v9 : σ2 9 = σ 9 := e2 9 (by omega) (by omega)
  have hN := hI.2.1
  obtain ⟨X3, R3, σ3, a3, b3, s3, B3, f3, e3, t3⟩ := pass_ok s2 B2 (by omega) (m := m) (by omega) (by omega)
  refine ⟨X3, R3, σ3, a3, b3, s3, B3, f2.trans f3, hI.off h10 B3 (fun j hj => by rw [e3 j (by omega) (by omega), e2 j (by omega) (by omega)]) (by rw [e3 8 (by omega) (by omega)]; exact q8) (by omega) (fun p hp => ?_), e3, by omega⟩
  rw [e3 1 (by omega) (by omega), e2 1 (by omega) (by omega)] at hp
  rw [e3 _ (by have := hI.1.1; omega) (by omega)]
  exact hl p hp
theorem idle_ok (h : SR X R σ) (hI : Iv n σ) (hn : n ≤ 600) (x : Int32) : Step (fX7_idle X x) (fX8_idle R x) n X R := by
  have hN := hI.2.1
  obtain ⟨a, ha1, ha2, rfl⟩ := zof x
  unfold fX7_idle fX8_idle
  rw [zc1, zc1000, R_in (a := a) (b := 1) (c := 1000) ha1 ha2 (by omega) (by omega) (by omega) (by omega)]
  by_cases c1 : 1 ≤ a ∧ a ≤ 1000
  · rw [if_neg (show ¬ zI a < zI 1 by rw [zlt] <;> omega), if_pos (show zI a ≤ zI 1000 by rw [zle] <;> omega), i1_t c1, it1, plays h.row hI, bnd_some, running h hI]
    by_cases c2 : σ 10 = 1
    · rw [i1_t c2, it1, it1]
      exact Step.same h hI _ rfl rfl
    · rw [i1_f c2, it0, it0]
      obtain ⟨X3, R3, σ3, a3, b3, s3, B3, f3, I3, e3, t3⟩ := tidy hI hn (not10 hI c2) h (Fr.rf _ _) hI.1 (fun j _ _ => rfl) (by omega) (hI.2.2.2.1 (not10 hI c2)) (m := a) (by omega)
      rw [a3, bnd_some, b3, bnd_some]
      exact ⟨_, X3, R3, σ3, rfl, by rw [rd s3.row, s3.clock], s3, f3, I3⟩
  · rw [i1_f c1, it0]
    by_cases c2 : a < 1
    · rw [if_pos (by rw [zlt] <;> omega)]
      exact Step.same h hI _ rfl rfl
    · rw [if_neg (by rw [zlt] <;> omega), if_neg (by rw [zle] <;> omega)]
      exact Step.same h hI _ rfl rfl
theorem putHome_ok (h : SR X R σ) (hI : Iv n σ) (hn : n ≤ 600) (x : Int32) : Step (fX7_putHome X x) (fX8_putHome R x) n X R := by
  have hB := hI.1
  have h0 := hB.1
  have hN := hI.2.1
  obtain ⟨a, ha1, ha2, rfl⟩ := zof x
  unfold fX7_putHome fX8_putHome
  rw [X_hasProp h.ro hB ha1 ha2, R_noProp h.row hB ha1 ha2, bnd_some]
  by_cases c1 : 0 ≤ a ∧ a < σ 1
  · rw [i1_t c1, i1_f (show ¬ ¬ (0 ≤ a ∧ a < σ 1) by omega), it1, it0, plays h.row hI, bnd_some, running h hI]
    by_cases c2 : σ 10 = 1
    · rw [i1_t c2, it1, it1]
      exact Step.same h hI _ rfl rfl
    · obtain ⟨p, rfl⟩ : ∃ p : Nat, a = p := ⟨a.toNat, by omega⟩
      have hp := hB.2.2.2.2.2.1 p c1.2
      rw [i1_f c2, it0, it0, if_pos (i104 (by omega)), j104 (by omega), rd h.row (104 + p), thn_eq, thn_eq, if_pos (i80 (by omega)), j80 (by omega), rd h.row (80 + p), show atX X 11 24 (zI (p : Int)) = zI (σ (104 + p)) from h.ro.lies (by omega), show atX X 10 24 (zI (p : Int)) = zI (σ (80 + p)) from h.ro.home (by omega)]
      by_cases c3 : σ (104 + p) = σ (80 + p)
      · have c3' : zI (σ (104 + p)) = zI (σ (80 + p)) := by rw [c3]
        rw [if_pos c3', if_pos c3']
        exact Step.same h hI _ rfl rfl
      · have c3' : ¬ zI (σ (104 + p)) = zI (σ (80 + p)) := by rw [zeq] <;> omega
        obtain ⟨s1, f1⟩ := SRput h (loc_104 p (by omega)) (m := 24) (by omega) (by omega) (by omega) (by omega) (σ (80 + p))
        obtain ⟨X3, R3, σ3, a3, b3, s3, B3, f3, I3, e3, t3⟩ := tidy hI hn (not10 hI c2) s1 f1 (hB.lies (p := p) (v := σ (80 + p)) (by omega) (by omega)) (fun j _ _ => us_ne _ _ (by omega)) (by rw [us_ne _ _ (by omega)]; omega) (fun q hq => by
          by_cases cq : q = p
          · subst cq; rw [us_at]; omega
          · rw [us_ne _ _ (by omega)]; exact hI.2.2.2.1 (not10 hI c2) q hq) (m := 1) (by omega)
        rw [if_neg c3', if_neg c3', show putX X 11 24 (zI (p : Int)) (zI (σ (80 + p))) = putX X (4 + 7) 24 (zI (p : Int)) (zI (σ (80 + p))) from rfl, zc1, a3, bnd_some, if_pos (i80 (by omega)), if_pos (i104 (by omega)), thn_eq, b3, bnd_some]
        exact ⟨_, X3, R3, σ3, rfl, rfl, s3, f3, I3⟩
  · rw [i1_f c1, i1_t c1]
    exact Step.same h hI _ rfl rfl
theorem close_ok (h : SR X R σ) (hI : Iv n σ) (hn : n ≤ 600) (x : Int32) : Step (fX7_close X x) (fX8_close R x) n X R := by
  have hB := hI.1
  have h0 := hB.1
  have hN := hI.2.1
  obtain ⟨a, ha1, ha2, rfl⟩ := zof x
  unfold fX7_close fX8_close
  rw [X_hasBox h.ro hB ha1 ha2, R_noBox h.row hB ha1 ha2, bnd_some]
  by_cases c1 : 0 ≤ a ∧ a < σ 0
  · rw [i1_t c1, i1_f (show ¬ ¬ (0 ≤ a ∧ a < σ 0) by omega), it1, it0]
    by_cases c0 : a = 0
    · subst c0
      rw [if_pos zc0.symm, if_pos zc0.symm]
      exact Step.same h hI _ rfl rfl
    · have c0' : ¬ zI a = 0 := by rw [zc0, zeq] <;> omega
      rw [if_neg c0', if_neg c0', plays h.row hI, bnd_some, running h hI]
      by_cases c2 : σ 10 = 1
      · rw [i1_t c2, it1, it1]
        exact Step.same h hI _ rfl rfl
      · obtain ⟨b, rfl⟩ : ∃ p : Nat, a = p := ⟨a.toNat, by omega⟩
        rw [i1_f c2, it0, it0, X_isOpen h.ro hB (by omega), R_isOpen' h.row hB (by omega), bnd_some]
        by_cases c3 : σ (56 + b) = 1
        · rw [i1_t c3, it1, it1, if_pos (i56 (by omega)), j56 (by omega), thn_eq, thn_eq]
          obtain ⟨s1, f1⟩ := SRput h (loc_56 b (by omega)) (m := 12) (by omega) (by omega) (by omega) (by omega) 0
          obtain ⟨X3, R3, σ3, a3, b3, s3, B3, f3, I3, e3, t3⟩ := tidy hI hn (not10 hI c2) s1 f1 (hB.opn (b := b) (by omega) (Or.inl rfl) (fun q => by omega)) (fun j _ _ => us_ne _ _ (by omega)) (by rw [us_ne _ _ (by omega)]; omega) (fun q hq => by rw [us_ne _ _ (by omega)]; exact hI.2.2.2.1 (not10 hI c2) q hq) (m := 1) (by omega)
          rw [show putX X 8 12 (zI (b : Int)) (0 : Int32) = putX X (4 + 4) 12 (zI (b : Int)) (zI 0) from rfl, show wr R 1 (56 + b) (0 : Int32) = wr R 1 (56 + b) (zI 0) from rfl, zc1, a3, bnd_some, b3, bnd_some, X_openBoxes s3.ro B3, R_openOnes s3.row B3, bnd_some, bnd_some]
          exact ⟨_, X3, R3, σ3, rfl, rfl, s3, f3, I3⟩
        · rw [i1_f c3, it0, it0]
          exact Step.same h hI _ rfl rfl
  · rw [i1_f c1, i1_t c1]
    exact Step.same h hI _ rfl rfl
theorem writeOver_ok (h : SR X R σ) (hI : Iv n σ) (hn : n ≤ 600) (x : Int32) : Step (fX7_writeOver X x) (fX8_writeOver R x) n X R := by
  have hB := hI.1
  have h0 := hB.1
  have hN := hI.2.1
  obtain ⟨a, ha1, ha2, rfl⟩ := zof x
  unfold fX7_writeOver fX8_writeOver
  rw [X_hasClue h.ro hB ha1 ha2, R_noClue h.row hB ha1 ha2, bnd_some]
  by_cases c1 : 0 ≤ a ∧ a < σ 2
  · obtain ⟨c, rfl⟩ : ∃ p : Nat, a = p := ⟨a.toNat, by omega⟩
    have hc := cl hB (c := c) c1.2
    rw [i1_t c1, i1_f (show ¬ ¬ (0 ≤ (c : Int) ∧ (c : Int) < σ 2) by omega), it1, it0, if_pos (i164 (by omega)), j164 (by omega), rd h.row (164 + c), thn_eq, plays h.row hI, bnd_some, running h hI]
    by_cases c2 : σ 10 = 1
    · rw [i1_t c2, it1, it1]
      exact Step.same h hI _ rfl rfl
    · have hlack : fX5_inkLack 4 X (zI (c : Int)) = zI (9 - σ (164 + c)) := by
        unfold fX5_inkLack
        rw [h.ro.ink (by omega), zc9, zsub]
      rw [i1_f c2, it0, it0, hlack, show X 3 6 = zI (σ 8) from h.paint, rd h.row 8, zc9, zsub]
      by_cases c3 : 9 - σ (164 + c) ≤ σ 8
      · rw [if_pos (show zI (9 - σ (164 + c)) ≤ zI (σ 8) by rw [zle] <;> omega), if_pos (show zI (9 - σ (164 + c)) ≤ zI (σ 8) by rw [zle] <;> omega)]
        by_cases c4 : 9 - σ (164 + c) = 0
        · rw [if_pos (show zI (9 - σ (164 + c)) = 0 by rw [c4]; rfl), if_pos (show zI (9 - σ (164 + c)) = 0 by rw [c4]; rfl)]
          exact Step.same h hI _ rfl rfl
        · have c4' : ¬ zI (9 - σ (164 + c)) = 0 := by rw [zc0, zeq] <;> omega
          obtain ⟨s1, f1⟩ := h.stat (j := 8) rfl (σ 8 - (9 - σ (164 + c)))
          obtain ⟨s2, f2⟩ := SRput s1 (loc_164 c (by omega)) (m := 12) (by omega) (by omega) (by omega) (by omega) 9
          have B2 : RB (us (us σ 8 (σ 8 - (9 - σ (164 + c)))) (164 + c) 9) := (hB.c (σ' := us σ 8 (σ 8 - (9 - σ (164 + c)))) (fun j _ _ => us_ne _ _ (by omega))).ink (by omega) (by omega)
          obtain ⟨X3, R3, σ3, a3, b3, s3, B3, f3, I3, e3, t3⟩ := tidy hI hn (not10 hI c2) s2 (f1.trans f2) B2 (fun j _ _ => by rw [us_ne _ _ (by omega), us_ne _ _ (by omega)]) (by rw [us_ne _ _ (by omega), us_at]; omega) (fun q hq => by rw [us_ne _ _ (by omega), us_ne _ _ (by omega)]; exact hI.2.2.2.1 (not10 hI c2) q hq) (m := 1) (by omega)
          have eX : fX6_refill 3 X (zI (c : Int)) = some (putX (wr X (3 + sk 8) (si 8) (zI (σ 8 - (9 - σ (164 + c))))) (4 + 11) 12 (zI (c : Int)) (zI 9)) := by
            unfold fX6_refill
            rw [show fX5_inkLack (3 + 1) X (zI (c : Int)) = zI (9 - σ (164 + c)) from hlack, h.paint, zsub, thn_eq, thn_eq]
            rfl
          rw [if_neg c4', if_neg c4', eX, bnd_some, zc1, a3, bnd_some, if_pos (i164 (by omega)), thn_eq, wr_i _ _ _ (show 8 ≠ 164 + c by omega), rd h.row 8, zsub, thn_eq, wr_comm _ _ _ _ (show 164 + c ≠ 8 by omega), b3, bnd_some]
          exact ⟨_, X3, R3, σ3, rfl, rfl, s3, f3, I3⟩
      · rw [if_neg (show ¬ zI (9 - σ (164 + c)) ≤ zI (σ 8) by rw [zle] <;> omega), if_neg (show ¬ zI (9 - σ (164 + c)) ≤ zI (σ 8) by rw [zle] <;> omega)]
        exact Step.same h hI _ rfl rfl
  · rw [i1_f c1, i1_t c1]
    exact Step.same h hI _ rfl rfl
end BD
