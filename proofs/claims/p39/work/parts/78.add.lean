/-! a prop, a clue: what was kept stays so -/
def StepJ (B t : Int) (fx fr : Option (Int32 × Mem)) (n : Nat) (X R : Mem) : Prop := ∃ v X' R' σ', fx = some (v, X') ∧ fr = some (v, R') ∧ SR X' R' σ' ∧ Fr X R X' R' ∧ Iv (n + 1) σ' ∧ J B σ' ∧ σ' 10 = t
section BY
variable {X R : Mem} {σ : Nat → Int} {n : Nat} {B : Int}
theorem StepJ.same (h : SR X R σ) (hI : Iv n σ) (hJ : J B σ) (v : Int32) {fx fr : Option (Int32 × Mem)} (h1 : fx = some (v, X)) (h2 : fr = some (v, R)) : StepJ B (σ 10) fx fr n X R := ⟨v, X, R, σ, h1, h2, h, Fr.rf X R, hI.mono (by omega), hJ, rfl⟩
theorem addProp_j (h : SR X R σ) (hI : Iv n σ) (hJ : J B σ) (x : Int32) : StepJ B (σ 10) (fX7_addProp X x) (fX8_addProp R x) n X R := by
  have hB := hI.1
  have h0 := hB.1
  obtain ⟨a, ha1, ha2, rfl⟩ := zof x
  unfold fX7_addProp fX8_addProp
  rw [X_hasBox h.ro hB ha1 ha2, R_noBox h.row hB ha1 ha2, bnd_some]
  by_cases c0 : 0 ≤ a ∧ a < σ 0
  · rw [i1_t c0, i1_f (show ¬ ¬ (0 ≤ a ∧ a < σ 0) by omega), it1, it0, plays h.row hI, bnd_some, running h hI]
    by_cases c2 : σ 10 = 1
    · rw [i1_t c2, it1, it1]
      exact StepJ.same h hI hJ _ rfl rfl
    · rw [i1_f c2, it0, it0, rd h.row, show X 4 6 = zI (σ 1) from h.ro.np, zc24]
      by_cases c3 : σ 1 = 24
      · rw [if_neg (show ¬ zI (σ 1) < zI 24 by rw [zlt] <;> omega), if_pos (show zI (σ 1) = zI 24 by rw [c3])]
        exact StepJ.same h hI hJ _ rfl rfl
      · rw [if_pos (show zI (σ 1) < zI 24 by rw [zlt] <;> omega), if_neg (show ¬ zI (σ 1) = zI 24 by rw [zeq] <;> omega)]
        obtain ⟨p, hp⟩ : ∃ p : Nat, σ 1 = p := ⟨(σ 1).toNat, by omega⟩
        obtain ⟨s1, f1⟩ := SRput h (loc_80 p (by omega)) (m := 24) (by omega) (by omega) (by omega) (by omega) a
        obtain ⟨s2, f2⟩ := SRput s1 (loc_104 p (by omega)) (m := 24) (by omega) (by omega) (by omega) (by omega) a
        obtain ⟨s3, f3⟩ := s2.room (j := 1) rfl (by omega) (by omega) (σ 1 + 1)
        have e1 : us (us σ (80 + p) a) (104 + p) a 1 = σ 1 := by rw [us_ne _ _ (by omega), us_ne _ _ (by omega)]
        have n1 := s2.ro.np
        have r1 := rd s2.row 1
        rw [e1] at n1 r1
        unfold fX5_appendProp
        rw [show X 4 6 = zI (σ 1) from h.ro.np, thn_eq, thn_eq, thn_eq, bnd_some, hp, if_pos (i80 (by omega)), j80 (by omega), thn_eq, if_pos (i104 (by omega)), j104 (by omega), thn_eq, thn_eq]
        rw [hp] at s3 f3 n1 r1
        rw [show putX (putX X (4 + 6) 24 (zI (p : Int)) (zI a)) (4 + 7) 24 (zI (p : Int)) (zI a) 4 6 = zI (p : Int) from n1, r1, zc1, zadd]
        refine ⟨_, _, _, _, rfl, rfl, s3, (f1.trans f2).trans f3, ?_⟩
        rw [← hp]
        have e : ∀ j, j ≠ 1 → j ≠ 80 + p → j ≠ 104 + p → us (us (us σ (80 + p) a) (104 + p) a) 1 (σ 1 + 1) j = σ j := fun j q1 q2 q3 => by rw [us_ne _ _ q1, us_ne _ _ q3, us_ne _ _ q2]
        refine ⟨?_, j_off hI hJ (not10 hI c2) (fun j hj => e j (by omega) (by omega) (by omega)) (by rw [e 9 (by omega) (by omega) (by omega)]; omega), e 10 (by omega) (by omega) (by omega)⟩
        refine hI.off (not10 hI c2) ?_ (fun j hj => e j (by omega) (by omega) (by omega)) (by rw [e 8 (by omega) (by omega) (by omega)]; have := hI.2.1; omega) (by rw [e 9 (by omega) (by omega) (by omega)]; omega) ?_
        · obtain ⟨⟨a0, a1, a2, a5, a11⟩, hO, hL, hP, -, hPr, hC⟩ := hB
          refine ⟨⟨by rw [e 0 (by omega) (by omega) (by omega)]; exact a0, by rw [us_at]; omega, by rw [e 2 (by omega) (by omega) (by omega)]; exact a2, by rw [e 5 (by omega) (by omega) (by omega), e 0 (by omega) (by omega) (by omega)]; omega, by rw [e 11 (by omega) (by omega) (by omega)]; exact a11⟩, ?_, ?_, ⟨by rw [e 56 (by omega) (by omega) (by omega)]; exact hP.1, fun b hb => by rw [e _ (by omega) (by omega) (by omega)]; exact hP.2 b hb⟩, trivial, ?_, ?_⟩
          · intro b h1 hb
            rw [e 0 (by omega) (by omega) (by omega)] at hb
            rw [e _ (by omega) (by omega) (by omega)]
            exact hO b h1 hb
          · intro b h1 hb
            rw [e 0 (by omega) (by omega) (by omega)] at hb
            rw [e (32 + b) (by omega) (by omega) (by omega), e (44 + b) (by omega) (by omega) (by omega), us_at]
            have := hL b h1 hb
            exact ⟨this.1, this.2.1, fun q => ⟨(this.2.2.1 q).1, by have := (this.2.2.1 q).2; omega⟩, this.2.2.2⟩
          · intro q hq
            rw [us_at] at hq
            rw [e 0 (by omega) (by omega) (by omega)]
            by_cases cq : q = p
            · subst cq
              rw [us_ne _ _ (show 80 + q ≠ 1 by omega), us_ne _ _ (show 80 + q ≠ 104 + q by omega), us_at, us_ne _ _ (show 104 + q ≠ 1 by omega), us_at]
              omega
            · rw [e (80 + q) (by omega) (by omega) (by omega), e (104 + q) (by omega) (by omega) (by omega)]
              exact hPr q (by omega)
          · intro c hc
            rw [e 2 (by omega) (by omega) (by omega)] at hc
            have := hC c hc
            rw [e (128 + c) (by omega) (by omega) (by omega), e (140 + c) (by omega) (by omega) (by omega), e (152 + c) (by omega) (by omega) (by omega), e (164 + c) (by omega) (by omega) (by omega), e 0 (by omega) (by omega) (by omega), us_at, e (32 + (σ (140 + c)).toNat) (by omega) (by omega) (by omega)]
            exact ⟨⟨this.1.1, by have := this.1.2; omega⟩, this.2⟩
        · intro q hq
          rw [us_at] at hq
          by_cases cq : q = p
          · subst cq
            rw [us_ne _ _ (show 104 + q ≠ 1 by omega), us_at]
            omega
          · rw [e (104 + q) (by omega) (by omega) (by omega)]
            exact hI.2.2.2.1 (not10 hI c2) q (by omega)
  · rw [i1_f c0, i1_t c0]
    exact StepJ.same h hI hJ _ rfl rfl
theorem addClue_j (h : SR X R σ) (hI : Iv n σ) (hJ : J B σ) (x y z : Int32) : StepJ B (σ 10) (fX7_addClue X x y z) (fX8_addClue R x y z) n X R := by
  have hB := hI.1
  have h0 := hB.1
  obtain ⟨a, ha1, ha2, rfl⟩ := zof x
  obtain ⟨b, hb1, hb2, rfl⟩ := zof y
  obtain ⟨d, hd1, hd2, rfl⟩ := zof z
  unfold fX7_addClue fX8_addClue
  rw [X_hasProp h.ro hB ha1 ha2, R_noProp h.row hB ha1 ha2, bnd_some]
  by_cases c1 : 0 ≤ a ∧ a < σ 1
  · rw [i1_t c1, i1_f (show ¬ ¬ (0 ≤ a ∧ a < σ 1) by omega), it1, it0, X_hasBox h.ro hB hb1 hb2, R_noBox h.row hB hb1 hb2, bnd_some]
    by_cases c0 : 0 ≤ b ∧ b < σ 0
    · rw [i1_t c0, i1_f (show ¬ ¬ (0 ≤ b ∧ b < σ 0) by omega), it1, it0, show fX8_in R (zI d) (0 : Int32) (3 : Int32) = i1 (0 ≤ d ∧ d ≤ 3) from R_in (a := d) (b := 0) (c := 3) hd1 hd2 (by omega) (by omega) (by omega) (by omega)]
      by_cases c4 : 0 ≤ d ∧ d ≤ 3
      · obtain ⟨b, rfl⟩ : ∃ p : Nat, b = p := ⟨b.toNat, by omega⟩
        rw [if_neg (show ¬ zI d < 0 by rw [zc0, zlt] <;> omega), if_pos (show zI d < 4 by rw [zc4, zlt] <;> omega), i1_t c4, it1, show fX5_hasLock 4 X (zI (b : Int)) (2 : Int32) = i1 (1 ≤ b ∧ σ (32 + b) = 2) from X_hasLock h.ro hB (l := 2) c0.2 (by omega)]
        by_cases c5 : b = 0
        · subst c5
          rw [if_pos (show zI ((0 : Nat) : Int) = 0 from rfl), i1_f (by omega), it0]
          exact StepJ.same h hI hJ _ rfl rfl
        · rw [if_neg (show ¬ zI (b : Int) = 0 by rw [zc0, zeq] <;> omega), if_pos (i32 (by omega)), j32 (by omega), rd h.row]
          have hbp := bp hB (b := b) (by omega) c0.2
          by_cases c6 : σ (32 + b) = 2
          · rw [i1_t ⟨by omega, c6⟩, it1, c6, if_pos (show zI 2 = 2 from rfl), plays h.row hI, bnd_some, running h hI]
            by_cases c2 : σ 10 = 1
            · rw [i1_t c2, it1, it1]
              exact StepJ.same h hI hJ _ rfl rfl
            · rw [i1_f c2, it0, it0, rd h.row, show X 4 9 = zI (σ 2) from h.ro.nc, zc12]
              by_cases c3 : σ 2 = 12
              · rw [if_neg (show ¬ zI (σ 2) < zI 12 by rw [zlt] <;> omega), if_pos (show zI (σ 2) = zI 12 by rw [c3])]
                exact StepJ.same h hI hJ _ rfl rfl
              · rw [if_pos (show zI (σ 2) < zI 12 by rw [zlt] <;> omega), if_neg (show ¬ zI (σ 2) = zI 12 by rw [zeq] <;> omega)]
                obtain ⟨c, hc⟩ : ∃ p : Nat, σ 2 = p := ⟨(σ 2).toNat, by omega⟩
                obtain ⟨s1, f1⟩ := SRput h (loc_128 c (by omega)) (m := 12) (by omega) (by omega) (by omega) (by omega) a
                obtain ⟨s2, f2⟩ := SRput s1 (loc_140 c (by omega)) (m := 12) (by omega) (by omega) (by omega) (by omega) (b : Int)
                obtain ⟨s3, f3⟩ := SRput s2 (loc_152 c (by omega)) (m := 12) (by omega) (by omega) (by omega) (by omega) d
                obtain ⟨s4, f4⟩ := SRput s3 (loc_164 c (by omega)) (m := 12) (by omega) (by omega) (by omega) (by omega) 9
                obtain ⟨s5, f5⟩ := s4.room (j := 2) rfl (by omega) (by omega) (σ 2 + 1)
                have e1 : us (us (us (us σ (128 + c) a) (140 + c) (b : Int)) (152 + c) d) (164 + c) 9 2 = σ 2 := by rw [us_ne _ _ (by omega), us_ne _ _ (by omega), us_ne _ _ (by omega), us_ne _ _ (by omega)]
                have n1 := s4.ro.nc
                have r1 := rd s4.row 2
                rw [e1] at n1 r1
                unfold fX5_appendClue
                rw [show X 4 9 = zI (σ 2) from h.ro.nc, thn_eq, thn_eq, thn_eq, thn_eq, thn_eq, bnd_some, hc, if_pos (i128 (by omega)), j128 (by omega), thn_eq, if_pos (i140 (by omega)), j140 (by omega), thn_eq, if_pos (i152 (by omega)), j152 (by omega), thn_eq, if_pos (i164 (by omega)), j164 (by omega), thn_eq, thn_eq]
                rw [hc] at s5 f5 n1 r1
                rw [show putX (putX (putX (putX X (4 + 8) 12 (zI (c : Int)) (zI a)) (4 + 9) 12 (zI (c : Int)) (zI (b : Int))) (4 + 10) 12 (zI (c : Int)) (zI d)) (4 + 11) 12 (zI (c : Int)) (9 : Int32) 4 9 = zI (c : Int) from n1, show wr (wr (wr (wr R 1 (128 + c) (zI a)) 1 (140 + c) (zI (b : Int))) 1 (152 + c) (zI d)) 1 (164 + c) (9 : Int32) 1 2 = zI (c : Int) from r1, zc1, zadd]
                refine ⟨_, _, _, _, rfl, rfl, s5, (((f1.trans f2).trans f3).trans f4).trans f5, ?_⟩
                rw [← hc]
                have e : ∀ j, j ≠ 2 → j ≠ 128 + c → j ≠ 140 + c → j ≠ 152 + c → j ≠ 164 + c → us (us (us (us (us σ (128 + c) a) (140 + c) (b : Int)) (152 + c) d) (164 + c) 9) 2 (σ 2 + 1) j = σ j := fun j q1 q2 q3 q4 q5 => by rw [us_ne _ _ q1, us_ne _ _ q5, us_ne _ _ q4, us_ne _ _ q3, us_ne _ _ q2]
                have e' : ∀ j, j < 128 → j ≠ 2 → us (us (us (us (us σ (128 + c) a) (140 + c) (b : Int)) (152 + c) d) (164 + c) 9) 2 (σ 2 + 1) j = σ j := fun j q1 q2 => e j q2 (by omega) (by omega) (by omega) (by omega)
                refine ⟨?_, j_off hI hJ (not10 hI c2) (fun j hj => e j (by omega) (by omega) (by omega) (by omega) (by omega)) (by rw [e' 9 (by omega) (by omega)]; omega), e' 10 (by omega) (by omega)⟩
                refine hI.off (not10 hI c2) ?_ (fun j hj => e j (by omega) (by omega) (by omega) (by omega) (by omega)) (by rw [e' 8 (by omega) (by omega)]; have := hI.2.1; omega) (by rw [e' 9 (by omega) (by omega)]; omega) (fun p hp => by rw [e' 1 (by omega) (by omega)] at hp; rw [e' _ (by omega) (by omega)]; exact hI.2.2.2.1 (not10 hI c2) p hp)
                obtain ⟨⟨a0, a1, a2, a5, a11⟩, hO, hL, hP, -, hPr, hC⟩ := hB
                refine ⟨⟨by rw [e' 0 (by omega) (by omega)]; exact a0, by rw [e' 1 (by omega) (by omega)]; exact a1, by rw [us_at]; omega, by rw [e' 5 (by omega) (by omega), e' 0 (by omega) (by omega)]; omega, by rw [e' 11 (by omega) (by omega)]; exact a11⟩, ?_, ?_, ⟨by rw [e' 56 (by omega) (by omega)]; exact hP.1, fun b hb => by rw [e' _ (by omega) (by omega)]; exact hP.2 b hb⟩, trivial, ?_, ?_⟩
                · intro b h1 hb
                  rw [e' 0 (by omega) (by omega)] at hb
                  rw [e' _ (by omega) (by omega)]
                  exact hO b h1 hb
                · intro b h1 hb
                  rw [e' 0 (by omega) (by omega)] at hb
                  rw [e' (32 + b) (by omega) (by omega), e' (44 + b) (by omega) (by omega), e' 1 (by omega) (by omega)]
                  exact hL b h1 hb
                · intro p hp
                  rw [e' 1 (by omega) (by omega)] at hp
                  rw [e' (80 + p) (by omega) (by omega), e' (104 + p) (by omega) (by omega), e' 0 (by omega) (by omega)]
                  exact hPr p hp
                · intro q hq
                  rw [us_at] at hq
                  rw [e' 0 (by omega) (by omega), e' 1 (by omega) (by omega)]
                  by_cases cq : q = c
                  · subst cq
                    have w1 : us (us (us (us (us σ (128 + q) a) (140 + q) (b : Int)) (152 + q) d) (164 + q) 9) 2 (σ 2 + 1) (128 + q) = a := by rw [us_ne _ _ (by omega), us_ne _ _ (by omega), us_ne _ _ (by omega), us_ne _ _ (by omega), us_at]
                    have w2 : us (us (us (us (us σ (128 + q) a) (140 + q) (b : Int)) (152 + q) d) (164 + q) 9) 2 (σ 2 + 1) (140 + q) = b := by rw [us_ne _ _ (by omega), us_ne _ _ (by omega), us_ne _ _ (by omega), us_at]
                    have w3 : us (us (us (us (us σ (128 + q) a) (140 + q) (b : Int)) (152 + q) d) (164 + q) 9) 2 (σ 2 + 1) (152 + q) = d := by rw [us_ne _ _ (by omega), us_ne _ _ (by omega), us_at]
                    have w4 : us (us (us (us (us σ (128 + q) a) (140 + q) (b : Int)) (152 + q) d) (164 + q) 9) 2 (σ 2 + 1) (164 + q) = 9 := by rw [us_ne _ _ (by omega), us_at]
                    rw [w1, w2, w3, w4, show ((b : Int)).toNat = b from Int.toNat_natCast b, e' (32 + b) (by omega) (by omega)]
                    exact ⟨c1, by omega, c6, c4, by omega⟩
                  · have := hC q (by omega)
                    rw [e (128 + q) (by omega) (by omega) (by omega) (by omega) (by omega), e (140 + q) (by omega) (by omega) (by omega) (by omega) (by omega), e (152 + q) (by omega) (by omega) (by omega) (by omega) (by omega), e (164 + q) (by omega) (by omega) (by omega) (by omega) (by omega), e' (32 + (σ (140 + q)).toNat) (by omega) (by omega)]
                    exact this
          · rw [i1_f (fun q => c6 q.2), it0, if_neg (show ¬ zI (σ (32 + b)) = 2 by rw [zc2, zeq] <;> omega)]
            exact StepJ.same h hI hJ _ rfl rfl
      · rw [i1_f c4, it0]
        by_cases c5 : d < 0
        · rw [if_pos (by rw [zc0, zlt] <;> omega)]
          exact StepJ.same h hI hJ _ rfl rfl
        · rw [if_neg (by rw [zc0, zlt] <;> omega), if_neg (by rw [zc4, zlt] <;> omega)]
          exact StepJ.same h hI hJ _ rfl rfl
    · rw [i1_f c0, i1_t c0]
      exact StepJ.same h hI hJ _ rfl rfl
  · rw [i1_f c1, i1_t c1]
    exact StepJ.same h hI hJ _ rfl rfl
end BY
