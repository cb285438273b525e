def Step (fx fr : Option (Int32 × Mem)) (n : Nat) (X R : Mem) : Prop := ∃ v X' R' σ', fx = some (v, X') ∧ fr = some (v, R') ∧ SR X' R' σ' ∧ Fr X R X' R' ∧ Iv (n + 1) σ'
section AC
variable {X R : Mem} {σ : Nat → Int} {n : Nat}
theorem Step.same (h : SR X R σ) (hI : Iv n σ) (v : Int32) {fx fr : Option (Int32 × Mem)} (h1 : fx = some (v, X)) (h2 : fr = some (v, R)) : Step fx fr n X R := ⟨v, X, R, σ, h1, h2, h, Fr.rf X R, hI.mono (by omega)⟩
theorem SR.known (h : SR X R σ) (h10 : σ 10 = 1) {b : Nat} (hb : b < 12) (v : Int32) : SR (wr X 9 b v) (wr R 1 (68 + b) v) (us σ (68 + b) v.toInt) ∧ Fr X R (wr X 9 b v) (wr R 1 (68 + b) v) := by
  obtain ⟨⟨hr, hs, h1, h0, hk1, hk0, hg⟩, hR⟩ := h
  have ev : v = zI v.toInt := (Int32.ofInt_toInt v).symm
  refine ⟨⟨⟨?_, ?_, ?_, ?_, ?_, ?_, ?_⟩, ?_⟩, Fr.w2 _ _ _ _ _ (by omega)⟩
  · exact hr.frame (fun k hk hk5 => wr_k X _ _ (by omega)) (fun j hj hc => us_ne σ _ (by omega))
  · refine hs.frame (fun k hk => wr_k X _ _ (by omega)) (fun i _ => by rw [wr_k X _ _ (by omega)]) (fun j hj => us_ne σ _ ?_)
    intro q
    subst q
    simp [so] at hj
    omega
  · rw [wr_k X _ _ (by omega), us_ne σ _ (by omega)]; exact h1
  · rw [wr_k X _ _ (by omega), us_ne σ _ (by omega)]; exact h0
  · intro _ c hc
    have := hk1 h10 c hc
    by_cases q : c = b
    · subst q
      rw [us_at, ← ev]
      exact wr_at X 9 c v
    · rw [us_ne σ _ (by omega), ← this]
      exact wr_i X 9 v q
  · rw [us_ne σ _ (by omega)]
    intro q
    omega
  · exact hg.frame (wr_k X _ _ (by omega)) (wr_k X _ _ (by omega)) (fun i hi => us_ne σ _ (by omega))
  · conv => lhs; rw [ev]
    exact wrR hR (68 + b) v.toInt
theorem SRput (h : SR X R σ) {c k m i : Nat} (hl : ro (c + i) = true ∧ rk (c + i) = k ∧ ri (c + i) = i) (hi : i < m) (hm : m < 100000) (h4 : c + i < 32 ∨ 44 ≤ c + i) (h11 : c + i ≠ 11) (v : Int) : SR (putX X (4 + k) m (zI (i : Int)) (zI v)) (wr R 1 (c + i) (zI v)) (us σ (c + i) v) ∧ Fr X R (putX X (4 + k) m (zI (i : Int)) (zI v)) (wr R 1 (c + i) (zI v)) := by
  rw [put_in hi hm]
  have := h.room hl.1 h4 h11 v
  rw [hl.2.1, hl.2.2] at this
  exact this
theorem act_iv {σ' : Nat → Int} (hI : Iv n σ) (hn : n ≤ 600) (h10 : σ 10 = 1) {m : Int} (hm : 1 ≤ m ∧ m ≤ σ 13 + σ 6 - σ 9) (hB' : RB σ') (q9 : σ' 9 = σ 9 + m) (q17 : σ' 17 = σ 17 + 1) (hE' : Ents σ' (σ' 17).toNat) (hs : ∀ j, j = 0 ∨ j = 1 ∨ (3 ≤ j ∧ j ≤ 8) ∨ (10 ≤ j ∧ j ≤ 13) ∨ (176 ≤ j ∧ j < 192) → σ' j = σ j) (q14 : 0 ≤ σ' 14 ∧ σ' 14 ≤ σ 7) (hk : ∀ b : Nat, b < 12 → σ 0 ≤ b → σ' (68 + b) = 0) : Iv (n + 1) σ' := by
  obtain ⟨hB, ⟨h3, h4, h6, h7, h8, h9, -, h17, h13, h12, h14⟩, hp, h0, hg, hE⟩ := hI
  obtain ⟨⟨p11, p5, p9, p17, p4, p14⟩, hk0⟩ := hp h10
  have e0 := hs 0 (by omega)
  have e1 := hs 1 (by omega)
  have e3 := hs 3 (by omega)
  have e4 := hs 4 (by omega)
  have e5 := hs 5 (by omega)
  have e6 := hs 6 (by omega)
  have e7 := hs 7 (by omega)
  have e8 := hs 8 (by omega)
  have e10 := hs 10 (by omega)
  have e11 := hs 11 (by omega)
  have e12 := hs 12 (by omega)
  have e13 := hs 13 (by omega)
  refine ⟨hB', ⟨by omega, by omega, by omega, by omega, by omega, by omega, by omega, by omega, by omega, by omega, by omega⟩, fun _ => ⟨⟨by omega, by omega, by omega, by omega, by omega, by omega⟩, fun b hb hc => hk b hb (by omega)⟩, by omega, ?_, hE'⟩
  intro g hg1 hg2
  rw [hs (176 + g) (by omega), hs (184 + g) (by omega)]
  exact hg g hg1 (by omega)
theorem note3 {j : Nat} {a b : Int} {X' : Mem} (h : fX2_append 22 j X (fX6_gameMinute 3 X) (zI a) (zI b) = some X') : fX6_note 3 j X (zI a) (zI b) = some X' := by
  show (bnd (fX2_append 22 j X (fX6_gameMinute 3 X) (zI a) (zI b)) fun M2 => some M2) = _
  rw [h, bnd_some]
theorem over_step (h : SR X R σ) (hI : Iv n σ) (hn : n ≤ 600) (h10 : σ 10 = 1) {m : Int} (hm : 0 ≤ m ∧ m ≤ 100000) (hlt : σ 13 + σ 6 - σ 9 < m) {fx fr : Option (Int32 × Mem)} (h1 : ∀ X', fX6_runOutOfTime 3 X = some (zI (-6), X') → fx = some (zI (-6), X')) (h2 : ∀ R', fX8_isOver R (zI m) = some (1, R') → fr = some (zI (-6), R')) : Step fx fr n X R := by
  obtain ⟨X', R', σ', a, b, c, d, e⟩ := over_ok h hI hn h10 hm hlt
  exact ⟨_, X', R', σ', h1 X' a, h2 R' b, c, d, e⟩
theorem it1 {α : Type} (a b : α) : (if (1 : Int32) = 0 then a else b) = b := if_neg (by decide)
theorem it0 {α : Type} (a b : α) : (if (0 : Int32) = 0 then a else b) = a := if_pos rfl
theorem take_ok (h : SR X R σ) (hI : Iv n σ) (hn : n ≤ 600) (x : Int32) : Step (fX7_take X x) (fX8_take R x) n X R := by
  have hB := hI.1
  have h0 := hB.1
  obtain ⟨a, ha1, ha2, rfl⟩ := zof x
  unfold fX7_take fX8_take
  rw [X_hasProp h.ro hB ha1 ha2, R_noProp h.row hB ha1 ha2, bnd_some]
  by_cases c1 : 0 ≤ a ∧ a < σ 1
  · rw [i1_t c1, i1_f (show ¬ ¬ (0 ≤ a ∧ a < σ 1) by omega), it1, it0, plays h.row hI, bnd_some, running h hI]
    by_cases c2 : σ 10 = 1
    · obtain ⟨p, rfl⟩ : ∃ p : Nat, a = p := ⟨a.toNat, by omega⟩
      rw [i1_t c2, it1, it1, X_isHeld h.ro hB c1.2, R_isHeld h.row hB c1.2, bnd_some, X_ph h.ro hB c1.2, bnd_some, R_ph h.row hB c1.2, bnd_some]
      by_cases c3 : σ (104 + p) = -1
      · rw [i1_t c3]
        exact Step.same h hI _ rfl rfl
      · rw [i1_f c3, it0, it0]
        by_cases c4 : ph σ p
        · rw [i1_t c4, it1, it1, X_heldProps h.ro hB, bnd_some, R_held h.row hB, bnd_some, h.ro.ha, rd h.row]
          have hle := heldN_le hB
          unfold heldN at hle
          by_cases c5 : ((cnt (fun p => decide (σ (104 + p) = -1)) (σ 1).toNat : Nat) : Int) < σ 11
          · have c5' : zI ((cnt (fun p => decide (σ (104 + p) = -1)) (σ 1).toNat : Nat) : Int) < zI (σ 11) := by rw [zlt] <;> omega
            rw [if_pos c5', if_pos c5', zc3, X_am (by omega) (by omega), R_lessHalf h.row hB (by omega), bnd_some, thn_eq]
            have hm := am_b 3 (σ 11) (by omega) (by omega)
            have ht := inTime h hI hn (m := am 3 (σ 11)) (by omega)
            by_cases c6 : am 3 (σ 11) ≤ σ 13 + σ 6 - σ 9
            · rw [ht.1, i1_t c6, it1, ht.2 c6, bnd_some, it0]
              have hI' := hI
              obtain ⟨-, ⟨h3, h4, h6, h7, h8, h9, -, h17, h13, h12, h14⟩, hp, -, hg, hE⟩ := hI'
              obtain ⟨⟨p11, p5, p9, p17, p4, p14⟩, hk0⟩ := hp c2
              obtain ⟨X1, R1, σ1, a1, b1, s1, f1, e1, t1, E1⟩ := note_ok h (by omega) hE (j := 6) (w := 0) (a := (p : Int)) (b := 0) (a' := (p : Int)) (b' := -1) (by omega) (by decide +kernel) (by omega) (Or.inl rfl) (by unfold argL wa; rw [if_neg (by omega)]; simp) ⟨by omega, by omega, by omega, by omega, by omega⟩
              have hB1 : RB σ1 := hB.c (fun j hj hc => e1 j (by omega) (by omega))
              obtain ⟨s2, f2⟩ := SRput s1 (loc_104 p (by omega)) (m := 24) (by omega) (by omega) (by omega) (by omega) (-1)
              have hB2 : RB (us σ1 (104 + p) (-1)) := hB1.lies (by rw [e1 0 (by omega) (by omega)]; omega) (by omega)
              have q9 : us σ1 (104 + p) (-1) 9 = σ 9 := by rw [us_ne _ _ (by omega), e1 9 (by omega) (by omega)]
              obtain ⟨X3, R3, σ3, a3, b3, s3, B3, f3, e3, t3⟩ := pass_ok s2 hB2 (by omega) (m := am 3 (σ 11)) (by omega) (by omega)
              have ee : ∀ j, (j < 104 ∨ (128 ≤ j ∧ j < 164) ∨ (176 ≤ j ∧ j < 402)) → j ≠ 9 → j ≠ 17 → σ3 j = σ j := fun j q1 q2 q3 => by
                rw [e3 j (by omega) q2, us_ne _ _ (by omega), e1 j (by omega) q3]
              have r11 : us σ1 (104 + p) (-1) 11 = σ 11 := by rw [us_ne _ _ (by omega), e1 11 (by omega) (by omega)]
              rw [show (0 : Int32) = zI 0 from rfl, b1, bnd_some, if_pos (i104 (by omega)), thn_eq, j104 (by omega), zm1, note3 a1, bnd_some, thn_eq]
              rw [show putX X1 11 24 (zI (p : Int)) (zI (-1)) = putX X1 (4 + 7) 24 (zI (p : Int)) (zI (-1)) from rfl, R_lessHalf s2.row hB2 (by omega), bnd_some, r11, a3, bnd_some, b3, bnd_some, X_heldProps s3.ro B3, bnd_some, R_held s3.row B3, bnd_some]
              refine ⟨_, X3, R3, σ3, rfl, rfl, s3, (f1.trans f2).trans f3, ?_⟩
              have w17 : σ3 17 = σ 17 + 1 := by rw [e3 17 (by omega) (by omega), us_ne _ _ (by omega), t1]
              refine act_iv hI hn c2 ⟨hm.1, c6⟩ B3 (by rw [t3, q9]) w17 ?_ (fun j hj => ee j (by omega) (by omega) (by omega)) (by rw [ee 14 (by omega) (by omega) (by omega)]; omega) (fun b hb hc => by rw [ee _ (by omega) (by omega) (by omega)]; exact hk0 b hb hc)
              rw [w17, ← t1]
              exact E1.c (fun j q1 q2 => by rw [e3 j (by omega) (by omega), us_ne _ _ (by omega)])
            · rw [ht.1, i1_f c6, if_pos rfl]
              exact over_step h hI hn c2 (m := am 3 (σ 11)) (by omega) (by omega) (fun X' e => by rw [e, bnd_some]) (fun R' e => by rw [e, bnd_some]; exact it1 _ _)
          · have c5' : ¬ zI ((cnt (fun p => decide (σ (104 + p) = -1)) (σ 1).toNat : Nat) : Int) < zI (σ 11) := by rw [zlt] <;> omega
            rw [if_neg c5', if_neg c5']
            exact Step.same h hI _ rfl rfl
        · rw [i1_f c4]
          exact Step.same h hI _ rfl rfl
    · rw [i1_f c2]
      exact Step.same h hI _ rfl rfl
  · rw [i1_f c1, i1_t c1]
    exact Step.same h hI _ rfl rfl
end AC
