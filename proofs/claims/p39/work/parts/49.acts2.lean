section AE
variable {X R : Mem} {σ : Nat → Int} {n : Nat}
/-- an act: it is noted, it is done, its minutes pass -/
theorem act_go (h : SR X R σ) (hI : Iv n σ) (hn : n ≤ 600) (h10 : σ 10 = 1) {m : Int} (hm : 1 ≤ m ∧ m ≤ σ 13 + σ 6 - σ 9) {j : Nat} {w a b a' b' : Int} (hj : j < 13) (hw : wdl j = wl w) (ha' : a' = -1 ∨ (0 ≤ a' ∧ a' < 100000)) (hb' : b' = -1 ∨ (0 ≤ b' ∧ b' < 100000)) (hab : argL a' ++ argL b' = wa w a b) (hW : (0 ≤ w ∧ w ≤ 7) ∧ (0 ≤ a ∧ a < 100000) ∧ (0 ≤ b ∧ b < 100) ∧ (w ≠ 4 → a < 100)) :
    ∃ X1 R1 σ1, fX6_note 3 j X (zI a') (zI b') = some X1 ∧ fX8_note R (zI w) (zI a) (zI b) = some R1 ∧ SR X1 R1 σ1 ∧ RB σ1 ∧ (∀ k, k < 402 → k ≠ 17 → σ1 k = σ k) ∧ Fr X R X1 R1 ∧
    ∀ X2 R2 σ2, SR X2 R2 σ2 → Fr X1 R1 X2 R2 → RB σ2 → (∀ j, (j < 56 ∨ (80 ≤ j ∧ j < 104) ∨ (128 ≤ j ∧ j < 164) ∨ 176 ≤ j) → j ≠ 14 → j ≠ 15 → σ2 j = σ1 j) → (0 ≤ σ2 14 ∧ σ2 14 ≤ σ 7) → (∀ b : Nat, b < 12 → σ 0 ≤ b → σ2 (68 + b) = 0) →
      ∃ X3 R3 σ3, fX6_pass 3 X2 (zI m) = some X3 ∧ fX8_pass R2 (zI m) = some R3 ∧ SR X3 R3 σ3 ∧ RB σ3 ∧ Fr X R X3 R3 ∧ Iv (n + 1) σ3 ∧ (∀ j, j < 164 ∨ 176 ≤ j → j ≠ 9 → σ3 j = σ2 j) ∧ σ3 9 = σ 9 + m := by
  have hI' := hI
  obtain ⟨hB, ⟨h3, h4, h6, h7, h8, h9, -, h17, h13, h12, h14⟩, hp, -, hg, hE⟩ := hI'
  obtain ⟨⟨p11, p5, p9, p17, p4, p14⟩, hk0⟩ := hp h10
  obtain ⟨X1, R1, σ1, a1, b1, s1, f1, e1, t1, E1⟩ := note_ok h (by omega) hE hj hw ha' hb' hab ⟨by omega, hW.1, hW.2.1, hW.2.2.1, hW.2.2.2⟩
  refine ⟨X1, R1, σ1, note3 a1, b1, s1, hB.c (fun j hj hc => e1 j (by omega) (by omega)), e1, f1, ?_⟩
  intro X2 R2 σ2 s2 f2 B2 e2 q14 qk
  have v9 : σ2 9 = σ 9 := (e2 9 (by omega) (by omega) (by omega)).trans (e1 9 (by omega) (by omega))
  obtain ⟨X3, R3, σ3, a3, b3, s3, B3, f3, e3, t3⟩ := pass_ok s2 B2 (by omega) (m := m) (by omega) (by omega)
  have w17 : σ3 17 = σ 17 + 1 := by rw [e3 17 (by omega) (by omega), e2 17 (by omega) (by omega) (by omega), t1]
  refine ⟨X3, R3, σ3, a3, b3, s3, B3, (f1.trans f2).trans f3, ?_, e3, by rw [t3, v9]⟩
  refine act_iv hI hn h10 hm B3 (by rw [t3, v9]) w17 ?_ (fun j hj => ?_) (by rw [e3 14 (by omega) (by omega)]; exact q14) (fun b hb hc => by rw [e3 _ (by omega) (by omega)]; exact qk b hb hc)
  · rw [w17, ← t1]
    exact E1.c (fun j q1 q2 => by rw [e3 j (by omega) (by omega), e2 j (by omega) (by omega) (by omega)])
  · rw [e3 j (by omega) (by omega), e2 j (by omega) (by omega) (by omega), e1 j (by omega) (by omega)]
/-- the end of a game keeps what holds -/
theorem end_iw (h : SR X R σ) (hB : RB σ) (hN : (0 ≤ σ 3 ∧ σ 3 ≤ 8) ∧ (0 ≤ σ 4 ∧ σ 4 ≤ 30) ∧ (10 ≤ σ 6 ∧ σ 6 ≤ 120) ∧ (0 ≤ σ 7 ∧ σ 7 ≤ 9) ∧ (0 ≤ σ 8 ∧ σ 8 ≤ 1000 * n) ∧ (0 ≤ σ 9 ∧ σ 9 ≤ 100000 + 1000 * n) ∧ (σ 10 = 0 ∨ σ 10 = 1) ∧ (0 ≤ σ 17 ∧ σ 17 ≤ 121) ∧ (0 ≤ σ 13 ∧ σ 13 ≤ σ 9) ∧ (0 ≤ σ 12 ∧ σ 12 ≤ 100000) ∧ (0 ≤ σ 14 ∧ σ 14 ≤ 9)) (p4 : σ 4 ≤ 29) (hk0 : ∀ b : Nat, b < 12 → σ 0 ≤ b → σ (68 + b) = 0) (hg : ∀ g : Nat, g < 8 → (g : Int) < σ 3 → (1 ≤ σ (176 + g) ∧ σ (176 + g) ≤ 6) ∧ (0 ≤ σ (184 + g) ∧ σ (184 + g) ≤ 100000)) (hE : Ents σ (σ 17).toNat) (h10 : σ 10 = 1) {won : Int} (hw : won = 0 ∨ won = 1) : ∃ X' R' σ', fX6_endGame 3 X (zI won) = some X' ∧ fX8_end R (zI won) = some R' ∧ SR X' R' σ' ∧ Fr X R X' R' ∧ Iv n σ' ∧ (∀ j, j ≠ 10 → j ≠ 4 → (j < 104 ∨ 128 ≤ j) → (j < 192 ∨ 402 ≤ j) → σ' j = σ j) := by
  obtain ⟨h3, h4, h6, h7, h8, h9, -, h17, h13, h12, h14⟩ := hN
  have hb0 := hB.1
  obtain ⟨X3, R3, σ3, a3, b3, s3, f3, e3, t10, t4, B3, l3⟩ := end_ok h hB h10 (by omega) hk0 hw
  refine ⟨X3, R3, σ3, a3, b3, s3, f3, ⟨B3, ⟨?_, ?_, ?_, ?_, ?_, ?_, Or.inl t10, ?_, ?_, ?_, ?_⟩, ?_, ?_, ?_, ?_⟩, e3⟩
  · rw [e3 3 (by omega) (by omega) (by omega) (by omega)]; exact h3
  · omega
  · rw [e3 6 (by omega) (by omega) (by omega) (by omega)]; exact h6
  · rw [e3 7 (by omega) (by omega) (by omega) (by omega)]; exact h7
  · rw [e3 8 (by omega) (by omega) (by omega) (by omega)]; exact h8
  · rw [e3 9 (by omega) (by omega) (by omega) (by omega)]; exact h9
  · rw [e3 17 (by omega) (by omega) (by omega) (by omega)]; exact h17
  · rw [e3 13 (by omega) (by omega) (by omega) (by omega), e3 9 (by omega) (by omega) (by omega) (by omega)]; exact h13
  · rw [e3 12 (by omega) (by omega) (by omega) (by omega)]; exact h12
  · rw [e3 14 (by omega) (by omega) (by omega) (by omega)]; exact h14
  · intro q; omega
  · intro _ p hpp
    rw [e3 1 (by omega) (by omega) (by omega) (by omega)] at hpp
    exact l3 p hpp
  · intro q hq hq2
    rw [e3 3 (by omega) (by omega) (by omega) (by omega)] at hq2
    rw [e3 _ (by omega) (by omega) (by omega) (by omega), e3 _ (by omega) (by omega) (by omega) (by omega)]
    exact hg q hq hq2
  · rw [e3 17 (by omega) (by omega) (by omega) (by omega)]
    exact hE.c (fun j h1 h2 => e3 j (by omega) (by omega) (by omega) (by omega))
theorem end_iv (h : SR X R σ) (hI : Iv n σ) (h10 : σ 10 = 1) {won : Int} (hw : won = 0 ∨ won = 1) : ∃ X' R' σ', fX6_endGame 3 X (zI won) = some X' ∧ fX8_end R (zI won) = some R' ∧ SR X' R' σ' ∧ Fr X R X' R' ∧ Iv n σ' ∧ (∀ j, j ≠ 10 → j ≠ 4 → (j < 104 ∨ 128 ≤ j) → (j < 192 ∨ 402 ≤ j) → σ' j = σ j) :=
  end_iw h hI.1 hI.2.1 (hI.2.2.1 h10).1.2.2.2.2.1 (hI.2.2.1 h10).2 hI.2.2.2.2.1 hI.2.2.2.2.2 h10 hw
theorem oc_nz : ∀ f b c : Nat, c ≠ 0 → oc σ f b c ≠ 0 := by
  intro f
  induction f with
  | zero => intro b c hc; exact hc
  | succ f ih =>
    intro b c hc
    unfold oc
    split
    · exact hc
    · refine ih _ _ ?_
      split
      · exact hc
      · assumption
theorem oc_fuel (hB : RB σ) : ∀ f b c : Nat, (b : Int) < σ 0 → b < f → oc σ (f + 1) b c = oc σ f b c := by
  intro f
  induction f with
  | zero => intro b c _ hb; omega
  | succ f ih =>
    intro b c h1 hb
    by_cases q : b = 0
    · subst q
      unfold oc
      rw [if_pos rfl, if_pos rfl]
    · have := bo hB (b := b) (by omega) h1
      have e := ih (σ (20 + b)).toNat (if σ (56 + b) = 1 then c else b) (by omega) (by omega)
      rw [oc, if_neg q, e]
      conv => rhs; rw [oc, if_neg q]
theorem cf_zero (hB : RB σ) {b : Nat} (hb : (b : Int) < σ 0) : cf σ b = 0 ↔ (σ (56 + b) = 1 ∧ bh σ b) := by
  have h0 := hB.1
  by_cases q : b = 0
  · subst q
    exact ⟨fun _ => ⟨hB.2.2.2.1.1, Or.inl rfl⟩, fun _ => by unfold cf oc; rw [if_pos rfl]⟩
  · have h1 := bo hB (b := b) (by omega) hb
    have e : cf σ b = oc σ 11 (σ (20 + b)).toNat (if σ (56 + b) = 1 then 0 else b) := by unfold cf; rw [oc, if_neg q]
    rw [e]
    by_cases c : σ (56 + b) = 1
    · rw [if_pos c, ← oc_fuel hB 11 _ _ (by omega) (by omega)]
      exact ⟨fun t => ⟨c, Or.inr t⟩, fun t => t.2.resolve_left q⟩
    · rw [if_neg c]
      exact ⟨fun t => absurd t (oc_nz _ _ _ q), fun t => absurd t.1 c⟩
theorem argL1 {p : Int} (hp : 0 ≤ p) : argL p ++ argL (-1) = 32 :: dl p := by unfold argL; rw [if_neg (by omega)]; simp
theorem lay_ok (h : SR X R σ) (hI : Iv n σ) (hn : n ≤ 600) (x y : Int32) : Step (fX7_lay X x y) (fX8_lay R x y) n X R := by
  have hB := hI.1
  have h0 := hB.1
  obtain ⟨a, ha1, ha2, rfl⟩ := zof x
  obtain ⟨b, hb1, hb2, rfl⟩ := zof y
  unfold fX7_lay fX8_lay
  rw [X_hasProp h.ro hB ha1 ha2, R_noProp h.row hB ha1 ha2, bnd_some]
  by_cases c1 : 0 ≤ a ∧ a < σ 1
  · rw [i1_t c1, i1_f (show ¬ ¬ (0 ≤ a ∧ a < σ 1) by omega), it1, it0, X_hasBox h.ro hB hb1 hb2, R_noBox h.row hB hb1 hb2, bnd_some]
    by_cases c0 : 0 ≤ b ∧ b < σ 0
    · rw [i1_t c0, i1_f (show ¬ ¬ (0 ≤ b ∧ b < σ 0) by omega), it1, it0, plays h.row hI, bnd_some, running h hI]
      by_cases c2 : σ 10 = 1
      · obtain ⟨p, rfl⟩ : ∃ p : Nat, a = p := ⟨a.toNat, by omega⟩
        obtain ⟨b, rfl⟩ : ∃ p : Nat, b = p := ⟨b.toNat, by omega⟩
        rw [i1_t c2, it1, it1, X_isHeld h.ro hB c1.2, R_isHeld h.row hB c1.2, bnd_some]
        by_cases c3 : σ (104 + p) = -1
        · rw [i1_t c3, it1, it1, X_cf h.ro hB c0.2, bnd_some, R_isOpen' h.row hB (by omega), bnd_some, R_bh h.row hB c0.2, bnd_some]
          have hz := cf_z hB c0.2
          have hco : cf σ b = 0 ↔ (σ (56 + b) = 1 ∧ bh σ b) := by
            exact cf_zero hB c0.2
          by_cases c4 : cf σ b = 0
          · have c4' := hco.mp c4
            rw [if_pos (by rw [hz]; exact c4), i1_t c4'.1, it1, i1_t c4'.2, it1, h.ro.ha, zc2, X_am (by omega) (by omega), R_lessHalf h.row hB (by omega), bnd_some, thn_eq]
            have hm := am_b 2 (σ 11) (by omega) (by omega)
            have ht := inTime h hI hn (m := am 2 (σ 11)) (by omega)
            by_cases c6 : am 2 (σ 11) ≤ σ 13 + σ 6 - σ 9
            · rw [ht.1, i1_t c6, it1, ht.2 c6, bnd_some]
              obtain ⟨X1, R1, σ1, a1, b1, s1, B1, e1, f1, go⟩ := act_go h hI hn c2 ⟨hm.1, c6⟩ (j := 7) (w := 1) (a := (p : Int)) (b := (b : Int)) (a' := (p : Int)) (b' := (b : Int)) (by omega) (by decide +kernel) (by omega) (by omega) (by unfold argL wa; rw [if_neg (by omega), if_neg (by omega), if_pos rfl]) (by omega)
              obtain ⟨-, ⟨h3, h4, h6, h7, h8, h9, -, h17, h13, h12, h14⟩, hp, -, hg, hE⟩ := hI
              obtain ⟨⟨p11, p5, p9, p17, p4, p14⟩, hk0⟩ := hp c2
              obtain ⟨s2, f2⟩ := SRput s1 (loc_104 p (by omega)) (m := 24) (by omega) (by omega) (by omega) (by omega) (b : Int)
              have B2 : RB (us σ1 (104 + p) (b : Int)) := B1.lies (by rw [e1 0 (by omega) (by omega)]; omega) (by omega)
              obtain ⟨X3, R3, σ3, a3, b3, s3, B3, f3, I3, e3, t3⟩ := go _ _ _ s2 f2 B2 (fun j hj _ _ => us_ne _ _ (by omega)) (by rw [us_ne _ _ (by omega), e1 14 (by omega) (by omega)]; omega) (fun q hq hc => by rw [us_ne _ _ (by omega), e1 _ (by omega) (by omega)]; exact hk0 q hq hc)
              have r11 : us σ1 (104 + p) (b : Int) 11 = σ 11 := by rw [us_ne _ _ (by omega), e1 11 (by omega) (by omega)]
              rw [it0, show (1 : Int32) = zI 1 from rfl, b1, bnd_some, if_pos (i104 (by omega)), thn_eq, j104 (by omega), a1, bnd_some, thn_eq]
              rw [show putX X1 11 24 (zI (p : Int)) (zI (b : Int)) = putX X1 (4 + 7) 24 (zI (p : Int)) (zI (b : Int)) from rfl, R_lessHalf s2.row B2 (by omega), bnd_some, r11, a3, bnd_some, b3, bnd_some, X_heldProps s3.ro B3, bnd_some, R_held s3.row B3, bnd_some]
              exact ⟨_, X3, R3, σ3, rfl, rfl, s3, f3, I3⟩
            · rw [ht.1, i1_f c6, if_pos rfl]
              exact over_step h hI hn c2 (m := am 2 (σ 11)) (by omega) (by omega) (fun X' e => by rw [e, bnd_some]) (fun R' e => by rw [e, bnd_some]; exact it1 _ _)
          · rw [if_neg (by rw [hz]; exact c4)]
            by_cases c5 : σ (56 + b) = 1
            · rw [i1_t c5, it1, i1_f (fun q => c4 (hco.mpr ⟨c5, q⟩)), it0]
              exact Step.same h hI _ rfl rfl
            · rw [i1_f c5, it0]
              exact Step.same h hI _ rfl rfl
        · rw [i1_f c3]
          exact Step.same h hI _ rfl rfl
      · rw [i1_f c2]
        exact Step.same h hI _ rfl rfl
    · rw [i1_f c0, i1_t c0]
      exact Step.same h hI _ rfl rfl
  · rw [i1_f c1, i1_t c1]
    exact Step.same h hI _ rfl rfl
theorem rest_ok (h : SR X R σ) (hI : Iv n σ) (hn : n ≤ 600) (x : Int32) : Step (fX7_rest X x) (fX8_rest R x) n X R := by
  have hB := hI.1
  have h0 := hB.1
  obtain ⟨a, ha1, ha2, rfl⟩ := zof x
  unfold fX7_rest fX8_rest
  rw [show (1 : Int32) = zI 1 from rfl, show (60 : Int32) = zI 60 from rfl, R_in (by omega) (by omega) (by omega) (by omega) (by omega) (by omega)]
  by_cases c1 : 1 ≤ a ∧ a ≤ 60
  · rw [if_neg (by rw [zlt] <;> omega), if_pos (by rw [zle] <;> omega), i1_t c1, it1, plays h.row hI, bnd_some, running h hI]
    by_cases c2 : σ 10 = 1
    · rw [i1_t c2, it1, it1]
      have ht := inTime h hI hn (m := a) (by omega)
      by_cases c6 : a ≤ σ 13 + σ 6 - σ 9
      · rw [ht.1, i1_t c6, it1, ht.2 c6, bnd_some]
        obtain ⟨X1, R1, σ1, a1, b1, s1, B1, e1, f1, go⟩ := act_go h hI hn c2 ⟨c1.1, c6⟩ (j := 10) (w := 5) (a := a) (b := 0) (a' := a) (b' := -1) (by omega) (by decide +kernel) (by omega) (Or.inl rfl) (by rw [argL1 (by omega)]; rfl) (by omega)
        obtain ⟨-, ⟨h3, h4, h6, h7, h8, h9, -, h17, h13, h12, h14⟩, hp, -, hg, hE⟩ := hI
        obtain ⟨⟨p11, p5, p9, p17, p4, p14⟩, hk0⟩ := hp c2
        obtain ⟨X3, R3, σ3, a3, b3, s3, B3, f3, I3, e3, t3⟩ := go _ _ _ s1 (Fr.rf _ _) B1 (fun j hj _ _ => rfl) (by rw [e1 14 (by omega) (by omega)]; omega) (fun q hq hc => by rw [e1 _ (by omega) (by omega)]; exact hk0 q hq hc)
        rw [it0, show (5 : Int32) = zI 5 from rfl, show (0 : Int32) = zI 0 from rfl, b1, bnd_some, show (-zI 1 : Int32) = zI (-1) from rfl, a1, bnd_some, a3, bnd_some, b3, bnd_some, left s3, R_left s3.row, bnd_some]
        exact ⟨_, X3, R3, σ3, rfl, rfl, s3, f3, I3⟩
      · rw [ht.1, i1_f c6, if_pos rfl]
        exact over_step h hI hn c2 (m := a) (by omega) (by omega) (fun X' e => by rw [e, bnd_some]) (fun R' e => by rw [e, bnd_some]; exact it1 _ _)
    · rw [i1_f c2]
      exact Step.same h hI _ rfl rfl
  · rw [i1_f c1, it0]
    by_cases c2 : a < 1
    · rw [if_pos (by rw [zlt] <;> omega)]
      exact Step.same h hI _ rfl rfl
    · rw [if_neg (by rw [zlt] <;> omega), if_neg (by rw [zle] <;> omega)]
      exact Step.same h hI _ rfl rfl
theorem giveUp_ok (h : SR X R σ) (hI : Iv n σ) (hn : n ≤ 600) : Step (fX7_giveUp X) (fX8_giveUp R) n X R := by
  have hB := hI.1
  unfold fX7_giveUp fX8_giveUp
  rw [plays h.row hI, bnd_some, running h hI]
  by_cases c2 : σ 10 = 1
  · rw [i1_t c2, it1, it1]
    have hI' := hI
    obtain ⟨-, ⟨h3, h4, h6, h7, h8, h9, -, h17, h13, h12, h14⟩, hp, hz, hg, hE⟩ := hI'
    obtain ⟨⟨p11, p5, p9, p17, p4, p14⟩, hk0⟩ := hp c2
    obtain ⟨X1, R1, σ1, a1, b1, s1, f1, e1, t1, E1⟩ := note_ok h (by omega) hE (j := 12) (w := 7) (a := 0) (b := 0) (a' := -1) (b' := -1) (by omega) (by decide +kernel) (Or.inl rfl) (Or.inl rfl) rfl ⟨by omega, by omega, by omega, by omega, by omega⟩
    obtain ⟨X3, R3, σ3, a3, b3, s3, f3, I3, e3⟩ := end_iw (n := n) s1 (hB.c (fun j hj hc => e1 j (by omega) (by omega))) (by
        rw [e1 3 (by omega) (by omega), e1 4 (by omega) (by omega), e1 6 (by omega) (by omega), e1 7 (by omega) (by omega), e1 8 (by omega) (by omega), e1 9 (by omega) (by omega), e1 10 (by omega) (by omega), e1 13 (by omega) (by omega), e1 12 (by omega) (by omega), e1 14 (by omega) (by omega)]
        exact ⟨h3, h4, h6, h7, h8, h9, Or.inr c2, by omega, h13, h12, h14⟩) (by rw [e1 4 (by omega) (by omega)]; exact p4) (fun q hq hc => by rw [e1 0 (by omega) (by omega)] at hc; rw [e1 _ (by omega) (by omega)]; exact hk0 q hq hc) (fun g h1 h2 => by rw [e1 3 (by omega) (by omega)] at h2; rw [e1 _ (by omega) (by omega), e1 _ (by omega) (by omega)]; exact hg g h1 h2) E1 (by rw [e1 10 (by omega) (by omega)]; exact c2) (won := 0) (Or.inl rfl)
    rw [zm1, note3 a1, bnd_some, show (7 : Int32) = zI 7 from rfl, show (0 : Int32) = zI 0 from rfl, b1, bnd_some, a3, bnd_some, b3, bnd_some, minute h, rd s1.row, rd s1.row, zsub, e1 9 (by omega) (by omega), e1 13 (by omega) (by omega)]
    exact ⟨_, X3, R3, σ3, rfl, rfl, s3, f1.trans f3, I3.mono (by omega)⟩
  · rw [i1_f c2]
    exact Step.same h hI _ rfl rfl
end AE
