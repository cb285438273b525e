/-! the acts, with what they leave -/
/-- the time was over: the game has ended, lost -/
def OvP (B : Int) (n : Nat) (σ : Nat → Int) (X' : Mem) (σ' : Nat → Int) : Prop := ∃ R', SR X' R' σ' ∧ Iv (n + 1) σ' ∧ J B σ' ∧ σ' 9 = σ 13 + σ 6 ∧ σ' 10 = 0 ∧ σ' 4 = σ 4 + 1 ∧ σ' (195 + 7 * (σ 4).toNat) = σ 6 ∧ σ' 6 = σ 6
/-- the act was done, m minutes have passed -/
def DnP (B : Int) (n : Nat) (σ : Nat → Int) (m : Int) (X' : Mem) (σ' : Nat → Int) : Prop := ∃ R', SR X' R' σ' ∧ Iv (n + 1) σ' ∧ J B σ' ∧ σ' 9 = σ 9 + m
section NA
variable {X R : Mem} {σ : Nat → Int} {n : Nat} {B : Int}
theorem over_n (h : SR X R σ) (hI : Iv n σ) (hJ : J0 B σ) (hn : n ≤ 600) (h10 : σ 10 = 1) {m : Int} (hm : 0 ≤ m ∧ m ≤ 100000) (hlt : σ 13 + σ 6 - σ 9 < m) : ∃ X' σ', fX6_runOutOfTime 3 X = some (zI (-6), X') ∧ OvP B n σ X' σ' := by
  have hI0 := hI
  obtain ⟨hB, ⟨h3, h4, h6, h7, h8, h9, -, h17, h13, h12, h14⟩, hp, h0, hg, hE⟩ := hI
  obtain ⟨⟨p11, p5, p9, p17, p4, p14⟩, hk0⟩ := hp h10
  have hb0 := hB.1
  obtain ⟨X1, R1, σ1, a1, -, s1, -, N1, E1⟩ := note_n h (by omega) hE (j := 5) (w := 6) (a := 0) (b := 0) (a' := -1) (b' := -1) (by omega) (by decide +kernel) (Or.inl rfl) (Or.inl rfl) rfl ⟨by omega, by omega, by omega, by omega, by omega⟩
  have J1 := hJ.note hI0 h10 N1
  obtain ⟨e1, t1, tn, to⟩ := N1
  have hB1 : RB σ1 := hB.c (fun j hj hc => e1 j (by omega) (by omega))
  have q9 : σ1 9 = σ 9 := e1 9 (by omega) (by omega)
  have q13 : σ1 13 = σ 13 := e1 13 (by omega) (by omega)
  have q6 : σ1 6 = σ 6 := e1 6 (by omega) (by omega)
  have q17 : 0 ≤ σ1 17 := by omega
  obtain ⟨X2, R2, σ2, a2, -, s2, B2, -, e2, t2⟩ := pass_ok s1 hB1 (by omega) (m := σ1 13 + σ1 6 - σ1 9) (by omega) (by omega)
  have J2 : J0 B σ2 := J1.upd q17 (by rw [e1 4 (by omega) (by omega)]; omega) (by rw [e1 3 (by omega) (by omega)]; omega) (fun j hj => e2 j (by omega) (by omega)) (by omega) (fun q => by
    rw [heldN_c (e2 1 (by omega) (by omega)) (fun p _ => by
      by_cases c : 104 + p < 164
      · exact e2 _ (by omega) (by omega)
      · have := hB1.1; omega)]
    exact (J1.2.2.2.2 q).1)
  have e02 : ∀ j, j < 164 ∨ 176 ≤ j → j ≠ 9 → j < 402 → j ≠ 17 → σ2 j = σ j := fun j a b c d => (e2 j a b).trans (e1 j c d)
  obtain ⟨X3, R3, σ3, a3, -, s3, -, N3, B3, l3⟩ := end_n s2 B2 (by rw [e02 10 (by omega) (by omega) (by omega) (by omega)]; exact h10) (by rw [e02 4 (by omega) (by omega) (by omega) (by omega)]; omega) (fun b hb hc => by
    rw [e02 0 (by omega) (by omega) (by omega) (by omega)] at hc
    rw [e02 _ (by omega) (by omega) (by omega) (by omega)]
    exact hk0 b hb hc) (won := 0) (Or.inl rfl)
  have v4 : σ2 4 = σ 4 := e02 4 (by omega) (by omega) (by omega) (by omega)
  have v13 : σ2 13 = σ 13 := e02 13 (by omega) (by omega) (by omega) (by omega)
  have v9 : σ2 9 = σ 13 + σ 6 := by omega
  have J3 : J0 B σ3 := J2.fin (n := n) (by rw [e02 3 (by omega) (by omega) (by omega) (by omega)]; omega) (by omega) (by rw [e2 17 (by omega) (by omega)]; exact q17) (by rw [e02 10 (by omega) (by omega) (by omega) (by omega)]; exact h10) (by have := hJ.1.1; rw [e02 12 (by omega) (by omega) (by omega) (by omega)]; omega) (by rw [e02 14 (by omega) (by omega) (by omega) (by omega)]; exact h14) N3
  obtain ⟨e3, t10, t4, -, w1, w2, w3, w4, w5⟩ := N3
  have e03 : ∀ j, j ≠ 10 → j ≠ 4 → (j < 104 ∨ (128 ≤ j ∧ j < 164) ∨ (176 ≤ j ∧ j < 192)) → j ≠ 9 → j ≠ 17 → σ3 j = σ j := fun j a b c d f => (e3 j a b (by omega) (by omega)).trans (e02 j (by omega) d (by omega) f)
  have s9 : σ3 9 = σ 13 + σ 6 := by rw [e3 9 (by omega) (by omega) (by omega) (by omega)]; exact v9
  have s17 : σ3 17 = σ 17 + 1 := by rw [e3 17 (by omega) (by omega) (by omega) (by omega), e2 17 (by omega) (by omega), t1]
  have s4 : σ3 4 = σ 4 + 1 := by rw [t4, v4]
  refine ⟨X3, σ3, ?_, R3, s3, ?_, ⟨J3, fun q => by omega⟩, s9, t10, s4, ?_, e03 6 (by omega) (by omega) (by omega) (by omega) (by omega)⟩
  · unfold fX6_runOutOfTime
    show (bnd (fX2_append 22 5 X (fX6_gameMinute 3 X) (-1) (-1)) fun M2 => _) = _
    rw [zm1, a1, bnd_some, left s1, a2, bnd_some, zc0, a3, bnd_some]
    rfl
  · refine ⟨B3, ⟨?_, ?_, ?_, ?_, ?_, ?_, Or.inl t10, ?_, ?_, ?_, ?_⟩, ?_, ?_, ?_, ?_⟩
    · rw [e03 3 (by omega) (by omega) (by omega) (by omega) (by omega)]; exact h3
    · omega
    · rw [e03 6 (by omega) (by omega) (by omega) (by omega) (by omega)]; exact h6
    · rw [e03 7 (by omega) (by omega) (by omega) (by omega) (by omega)]; exact h7
    · rw [e03 8 (by omega) (by omega) (by omega) (by omega) (by omega)]; omega
    · omega
    · omega
    · rw [e03 13 (by omega) (by omega) (by omega) (by omega) (by omega), s9]; omega
    · rw [e03 12 (by omega) (by omega) (by omega) (by omega) (by omega)]; exact h12
    · rw [e03 14 (by omega) (by omega) (by omega) (by omega) (by omega)]; exact h14
    · intro q; omega
    · intro _ p hpp
      refine l3 p ?_
      rw [e03 1 (by omega) (by omega) (by omega) (by omega) (by omega)] at hpp
      rw [e02 1 (by omega) (by omega) (by omega) (by omega)]
      exact hpp
    · intro q hq hq2
      rw [e03 3 (by omega) (by omega) (by omega) (by omega) (by omega)] at hq2
      rw [e03 _ (by omega) (by omega) (by omega) (by omega) (by omega), e03 _ (by omega) (by omega) (by omega) (by omega) (by omega)]
      exact hg q hq hq2
    · rw [s17, ← t1]
      exact E1.c (fun j h1 h2 => by rw [e3 j (by omega) (by omega) (by omega) (by omega), e2 j (by omega) (by omega)])
  · rw [← v4, w3, v9, v13]; omega
/-- an act: it is noted, it is done, its minutes pass -/
theorem act_n (h : SR X R σ) (hI : Iv n σ) (hJ : J0 B σ) (hn : n ≤ 600) (h10 : σ 10 = 1) {m : Int} (hm : 1 ≤ m ∧ m ≤ σ 13 + σ 6 - σ 9) {j : Nat} {w a b a' b' : Int} (hj : j < 13) (hw : wdl j = wl w) (ha' : a' = -1 ∨ (0 ≤ a' ∧ a' < 100000)) (hb' : b' = -1 ∨ (0 ≤ b' ∧ b' < 100000)) (hab : argL a' ++ argL b' = wa w a b) (hW : (0 ≤ w ∧ w ≤ 7) ∧ (0 ≤ a ∧ a < 100000) ∧ (0 ≤ b ∧ b < 100) ∧ (w ≠ 4 → a < 100)) :
    ∃ X1 R1 σ1, fX6_note 3 j X (zI a') (zI b') = some X1 ∧ SR X1 R1 σ1 ∧ RB σ1 ∧ (∀ k, k < 402 → k ≠ 17 → σ1 k = σ k) ∧
    ∀ X2 R2 σ2, SR X2 R2 σ2 → RB σ2 → (∀ j, (j < 56 ∨ (80 ≤ j ∧ j < 104) ∨ (128 ≤ j ∧ j < 164) ∨ 176 ≤ j) → j ≠ 14 → j ≠ 15 → σ2 j = σ1 j) → (0 ≤ σ2 14 ∧ σ2 14 ≤ σ 7) → (∀ b : Nat, b < 12 → σ 0 ≤ b → σ2 (68 + b) = 0) → (heldN σ2 : Int) ≤ σ 11 →
      ∃ X3 R3 σ3, fX6_pass 3 X2 (zI m) = some X3 ∧ SR X3 R3 σ3 ∧ RB σ3 ∧ Iv (n + 1) σ3 ∧ J0 B σ3 ∧ (∀ j, j < 164 ∨ 176 ≤ j → j ≠ 9 → σ3 j = σ2 j) ∧ σ3 9 = σ 9 + m := by
  have hI' := hI
  obtain ⟨hB, ⟨h3, h4, h6, h7, h8, h9, -, h17, h13, h12, h14⟩, hp, -, hg, hE⟩ := hI'
  obtain ⟨⟨p11, p5, p9, p17, p4, p14⟩, hk0⟩ := hp h10
  obtain ⟨X1, R1, σ1, a1, b1, s1, f1, N1, E1⟩ := note_n h (by omega) hE hj hw ha' hb' hab ⟨by omega, hW.1, hW.2.1, hW.2.2.1, hW.2.2.2⟩
  have J1 := hJ.note hI h10 N1
  obtain ⟨e1, t1, tn, to⟩ := N1
  refine ⟨X1, R1, σ1, note3 a1, s1, hB.c (fun j hj hc => e1 j (by omega) (by omega)), e1, ?_⟩
  intro X2 R2 σ2 s2 B2 e2 q14 qk hh
  have v9 : σ2 9 = σ 9 := (e2 9 (by omega) (by omega) (by omega)).trans (e1 9 (by omega) (by omega))
  obtain ⟨X3, R3, σ3, a3, b3, s3, B3, f3, e3, t3⟩ := pass_ok s2 B2 (by omega) (m := m) (by omega) (by omega)
  have w17 : σ3 17 = σ 17 + 1 := by rw [e3 17 (by omega) (by omega), e2 17 (by omega) (by omega) (by omega), t1]
  refine ⟨X3, R3, σ3, a3, s3, B3, ?_, ?_, e3, by rw [t3, v9]⟩
  · refine act_iv hI hn h10 hm B3 (by rw [t3, v9]) w17 ?_ (fun j hj => ?_) (by rw [e3 14 (by omega) (by omega)]; exact q14) (fun b hb hc => by rw [e3 _ (by omega) (by omega)]; exact qk b hb hc)
    · rw [w17, ← t1]
      exact E1.c (fun j q1 q2 => by rw [e3 j (by omega) (by omega), e2 j (by omega) (by omega) (by omega)])
    · rw [e3 j (by omega) (by omega), e2 j (by omega) (by omega) (by omega), e1 j (by omega) (by omega)]
  · refine J1.upd (by omega) (by rw [e1 4 (by omega) (by omega)]; omega) (by rw [e1 3 (by omega) (by omega)]; omega) (fun j hj => ?_) (by rw [t3, v9, e1 9 (by omega) (by omega)]; omega) (fun _ => ?_)
    · rw [e3 j (by omega) (by omega), e2 j (by omega) (by omega) (by omega)]
    · have h1 := B2.1
      rw [heldN_c (e3 1 (by omega) (by omega)) (fun p hp => e3 _ (by omega) (by omega)), e1 11 (by omega) (by omega)]
      exact hh
theorem jheld (hJ : J B σ) (h10 : σ 10 = 1) : (heldN σ : Int) ≤ σ 11 := (hJ.1.2.2.2.2 h10).1
theorem rest_n (h : SR X R σ) (hI : Iv n σ) (hJ : J B σ) (hn : n ≤ 600) (c2 : σ 10 = 1) {a : Int} (c1 : 1 ≤ a ∧ a ≤ 60) :
    (a ≤ σ 13 + σ 6 - σ 9 ∧ ∃ X' σ' v, fX7_rest X (zI a) = some (zI v, X') ∧ 0 ≤ v ∧ v ≤ 1000 ∧ DnP B n σ a X' σ') ∨ (σ 13 + σ 6 - σ 9 < a ∧ ∃ X' σ', fX7_rest X (zI a) = some (zI (-6), X') ∧ OvP B n σ X' σ') := by
  have hB := hI.1
  have h0 := hB.1
  unfold fX7_rest
  rw [show (1 : Int32) = zI 1 from rfl, show (60 : Int32) = zI 60 from rfl, if_neg (by rw [zlt] <;> omega), if_pos (by rw [zle] <;> omega), running h hI, i1_t c2, it1]
  have ht := inTime h hI hn (m := a) (by omega)
  by_cases c6 : a ≤ σ 13 + σ 6 - σ 9
  · refine Or.inl ⟨c6, ?_⟩
    rw [ht.1, i1_t c6, it1]
    obtain ⟨X1, R1, σ1, a1, s1, B1, e1, go⟩ := act_n h hI hJ.1 hn c2 ⟨c1.1, c6⟩ (j := 10) (w := 5) (a := a) (b := 0) (a' := a) (b' := -1) (by omega) (by decide +kernel) (by omega) (Or.inl rfl) (by rw [argL1 (by omega)]; rfl) (by omega)
    have hI' := hI
    obtain ⟨-, ⟨h3, h4, h6, h7, h8, h9, -, h17, h13, h12, h14⟩, hp, -, hg, hE⟩ := hI'
    obtain ⟨⟨p11, p5, p9, p17, p4, p14⟩, hk0⟩ := hp c2
    obtain ⟨X3, R3, σ3, a3, s3, B3, I3, J3, e3, t3⟩ := go _ _ _ s1 B1 (fun j hj _ _ => rfl) (by rw [e1 14 (by omega) (by omega)]; omega) (fun q hq hc => by rw [e1 _ (by omega) (by omega)]; exact hk0 q hq hc) (by rw [heldN_c (e1 1 (by omega) (by omega)) (fun p hp => e1 _ (by omega) (by omega))]; exact jheld hJ c2)
    have u13 : σ3 13 = σ 13 := by rw [e3 13 (by omega) (by omega), e1 13 (by omega) (by omega)]
    have u6 : σ3 6 = σ 6 := by rw [e3 6 (by omega) (by omega), e1 6 (by omega) (by omega)]
    rw [show (-zI 1 : Int32) = zI (-1) from rfl, a1, bnd_some, a3, bnd_some, left s3]
    exact ⟨X3, σ3, _, rfl, by omega, by omega, R3, s3, I3, ⟨J3, hJ.2.keep (by omega) (fun j hj => by rw [e3 j (by omega) (by omega), e1 j (by omega) (by omega)])⟩, t3⟩
  · refine Or.inr ⟨by omega, ?_⟩
    rw [ht.1, i1_f c6, if_pos rfl]
    obtain ⟨X', σ', q1, q2⟩ := over_n h hI hJ.1 hn c2 (m := a) (by omega) (by omega)
    rw [q1, bnd_some]
    exact ⟨X', σ', rfl, q2⟩
/-- a prop is taken -/
theorem take_n (h : SR X R σ) (hI : Iv n σ) (hJ : J B σ) (hn : n ≤ 600) (c2 : σ 10 = 1) {p : Nat} (hp : (p : Int) < σ 1) :
    (∃ v, (v = -4 ∧ ¬ (σ (104 + p) ≠ -1 ∧ ph σ p) ∨ v = -3 ∧ σ (104 + p) ≠ -1 ∧ ph σ p) ∧ fX7_take X (zI (p : Int)) = some (zI v, X)) ∨
    ((σ (104 + p) ≠ -1 ∧ ph σ p) ∧ ((am 3 (σ 11) ≤ σ 13 + σ 6 - σ 9 ∧ ∃ X' σ' v, fX7_take X (zI (p : Int)) = some (zI v, X') ∧ 0 ≤ v ∧ v ≤ 1000 ∧ σ' (104 + p) = -1 ∧ σ' 1 = σ 1 ∧ DnP B n σ (am 3 (σ 11)) X' σ') ∨ (σ 13 + σ 6 - σ 9 < am 3 (σ 11) ∧ ∃ X' σ', fX7_take X (zI (p : Int)) = some (zI (-6), X') ∧ OvP B n σ X' σ'))) := by
  have hB := hI.1
  have h0 := hB.1
  have hI' := hI
  obtain ⟨-, ⟨h3, h4, h6, h7, h8, h9, -, h17, h13, h12, h14⟩, hpp, -, hg, hE⟩ := hI'
  obtain ⟨⟨p11, p5, p9, p17, p4, p14⟩, hk0⟩ := hpp c2
  unfold fX7_take
  rw [isP h hI hp, it1, running h hI, i1_t c2, it1, X_isHeld h.ro hB hp]
  by_cases c3 : σ (104 + p) = -1
  · rw [i1_t c3, if_neg (by decide)]
    exact Or.inl ⟨-4, Or.inl ⟨rfl, fun q => q.1 c3⟩, rfl⟩
  · rw [i1_f c3, it0, X_ph h.ro hB hp, bnd_some]
    by_cases c4 : ph σ p
    · rw [i1_t c4, it1, X_heldProps h.ro hB, bnd_some, h.ro.ha]
      have hle := heldN_le hB
      have hH : ((cnt (fun p => decide (σ (104 + p) = -1)) (σ 1).toNat : Nat) : Int) = (heldN σ : Int) := rfl
      rw [hH]
      by_cases c5 : (heldN σ : Int) < σ 11
      · rw [if_pos (show zI (heldN σ : Int) < zI (σ 11) by rw [zlt] <;> omega), zc3, X_am (by omega) (by omega), thn_eq]
        have hm := am_b 3 (σ 11) (by omega) (by omega)
        have ht := inTime h hI hn (m := am 3 (σ 11)) (by omega)
        refine Or.inr ⟨⟨c3, c4⟩, ?_⟩
        by_cases c6 : am 3 (σ 11) ≤ σ 13 + σ 6 - σ 9
        · refine Or.inl ⟨c6, ?_⟩
          rw [ht.1, i1_t c6, it1]
          obtain ⟨X1, R1, σ1, a1, s1, B1, e1, go⟩ := act_n h hI hJ.1 hn c2 ⟨hm.1, c6⟩ (j := 6) (w := 0) (a := (p : Int)) (b := 0) (a' := (p : Int)) (b' := -1) (by omega) (by decide +kernel) (by omega) (Or.inl rfl) (by unfold argL wa; rw [if_neg (by omega)]; simp) (by omega)
          obtain ⟨s2, f2⟩ := SRput s1 (loc_104 p (by omega)) (m := 24) (by omega) (by omega) (by omega) (by omega) (-1)
          have B2 : RB (us σ1 (104 + p) (-1)) := B1.lies (by rw [e1 0 (by omega) (by omega)]; omega) (by omega)
          have hh : heldN (us σ1 (104 + p) (-1)) ≤ heldN σ + 1 := by
            have := heldN_put (σ := σ1) p (-1)
            rw [heldN_c (σ := σ) (σ' := σ1) (e1 1 (by omega) (by omega)) (fun p hp => e1 _ (by omega) (by omega))] at this
            exact this
          obtain ⟨X3, R3, σ3, a3, s3, B3, I3, J3, e3, t3⟩ := go _ _ _ s2 B2 (fun j hj _ _ => us_ne _ _ (by omega)) (by rw [us_ne _ _ (by omega), e1 14 (by omega) (by omega)]; omega) (fun q hq hc => by rw [us_ne _ _ (by omega), e1 _ (by omega) (by omega)]; exact hk0 q hq hc) (by omega)
          rw [zm1, a1, bnd_some, thn_eq, show putX X1 11 24 (zI (p : Int)) (zI (-1)) = putX X1 (4 + 7) 24 (zI (p : Int)) (zI (-1)) from rfl, a3, bnd_some, X_heldProps s3.ro B3, bnd_some]
          have h3' := B3.1
          have l3 := heldN_le B3
          refine ⟨X3, σ3, _, rfl, by omega, ?_, ?_, ?_, R3, s3, I3, ⟨J3, hJ.2.keep (by omega) (fun j hj => by rw [e3 j (by omega) (by omega), us_ne _ _ (by omega), e1 j (by omega) (by omega)])⟩, t3⟩
          · show ((heldN σ3 : Nat) : Int) ≤ 1000
            omega
          · rw [e3 _ (by omega) (by omega), us_at]
          · rw [e3 1 (by omega) (by omega), us_ne _ _ (by omega), e1 1 (by omega) (by omega)]
        · refine Or.inr ⟨by omega, ?_⟩
          rw [ht.1, i1_f c6, if_pos rfl]
          obtain ⟨X', σ', q1, q2⟩ := over_n h hI hJ.1 hn c2 (m := am 3 (σ 11)) (by omega) (by omega)
          rw [q1, bnd_some]
          exact ⟨X', σ', rfl, q2⟩
      · rw [if_neg (show ¬ zI (heldN σ : Int) < zI (σ 11) by rw [zlt] <;> omega)]
        exact Or.inl ⟨-3, Or.inr ⟨rfl, c3, c4⟩, rfl⟩
    · rw [i1_f c4, if_pos rfl]
      exact Or.inl ⟨-4, Or.inl ⟨rfl, fun q => c4 q.2⟩, rfl⟩
/-- a prop that is held is laid into a box that is open and at hand -/
theorem lay_n (h : SR X R σ) (hI : Iv n σ) (hJ : J B σ) (hn : n ≤ 600) (c2 : σ 10 = 1) {p b : Nat} (hp : (p : Int) < σ 1) (hb : (b : Int) < σ 0) (c3 : σ (104 + p) = -1) (c4 : cf σ b = 0) :
    ∃ X' σ' v, fX7_lay X (zI (p : Int)) (zI (b : Int)) = some (zI v, X') ∧ v ≠ -4 ∧ -6 ≤ v ∧ v ≤ 1000 ∧ ((∃ m, DnP B n σ m X' σ') ∨ OvP B n σ X' σ') := by
  have hB := hI.1
  have h0 := hB.1
  have hI' := hI
  obtain ⟨-, ⟨h3, h4, h6, h7, h8, h9, -, h17, h13, h12, h14⟩, hpp, -, hg, hE⟩ := hI'
  obtain ⟨⟨p11, p5, p9, p17, p4, p14⟩, hk0⟩ := hpp c2
  unfold fX7_lay
  rw [isP h hI hp, it1, isB h hI hb, it1, running h hI, i1_t c2, it1, X_isHeld h.ro hB hp, i1_t c3, it1, X_cf h.ro hB hb, bnd_some, if_pos (by rw [cf_z hB hb]; exact c4), h.ro.ha, zc2, X_am (by omega) (by omega), thn_eq]
  have hm := am_b 2 (σ 11) (by omega) (by omega)
  have ht := inTime h hI hn (m := am 2 (σ 11)) (by omega)
  by_cases c6 : am 2 (σ 11) ≤ σ 13 + σ 6 - σ 9
  · rw [ht.1, i1_t c6, it1]
    obtain ⟨X1, R1, σ1, a1, s1, B1, e1, go⟩ := act_n h hI hJ.1 hn c2 ⟨hm.1, c6⟩ (j := 7) (w := 1) (a := (p : Int)) (b := (b : Int)) (a' := (p : Int)) (b' := (b : Int)) (by omega) (by decide +kernel) (by omega) (by omega) (by unfold argL wa; rw [if_neg (by omega), if_neg (by omega), if_pos rfl]) (by omega)
    obtain ⟨s2, f2⟩ := SRput s1 (loc_104 p (by omega)) (m := 24) (by omega) (by omega) (by omega) (by omega) (b : Int)
    have B2 : RB (us σ1 (104 + p) (b : Int)) := B1.lies (by rw [e1 0 (by omega) (by omega)]; omega) (by omega)
    have hh : heldN (us σ1 (104 + p) (b : Int)) ≤ heldN σ := by
      have := heldN_drop (σ := σ1) p (v := (b : Int)) (by omega)
      rw [heldN_c (σ := σ) (σ' := σ1) (e1 1 (by omega) (by omega)) (fun p hp => e1 _ (by omega) (by omega))] at this
      exact this
    have hj := jheld hJ c2
    obtain ⟨X3, R3, σ3, a3, s3, B3, I3, J3, e3, t3⟩ := go _ _ _ s2 B2 (fun j hj _ _ => us_ne _ _ (by omega)) (by rw [us_ne _ _ (by omega), e1 14 (by omega) (by omega)]; omega) (fun q hq hc => by rw [us_ne _ _ (by omega), e1 _ (by omega) (by omega)]; exact hk0 q hq hc) (by omega)
    rw [a1, bnd_some, thn_eq, show putX X1 11 24 (zI (p : Int)) (zI (b : Int)) = putX X1 (4 + 7) 24 (zI (p : Int)) (zI (b : Int)) from rfl, a3, bnd_some, X_heldProps s3.ro B3, bnd_some]
    have h3' := B3.1
    have l3 := heldN_le B3
    have hH : ((cnt (fun p => decide (σ3 (104 + p) = -1)) (σ3 1).toNat : Nat) : Int) = (heldN σ3 : Int) := rfl
    refine ⟨X3, σ3, _, rfl, by omega, by omega, by omega, Or.inl ⟨_, R3, s3, I3, ⟨J3, hJ.2.keep (by omega) (fun j hj => by rw [e3 j (by omega) (by omega), us_ne _ _ (by omega), e1 j (by omega) (by omega)])⟩, t3⟩⟩
  · rw [ht.1, i1_f c6, if_pos rfl]
    obtain ⟨X', σ', q1, q2⟩ := over_n h hI hJ.1 hn c2 (m := am 2 (σ 11)) (by omega) (by omega)
    rw [q1, bnd_some]
    exact ⟨X', σ', _, rfl, by omega, by omega, by omega, Or.inr q2⟩
/-- a clue that is at hand and has ink is read -/
theorem read_n (h : SR X R σ) (hI : Iv n σ) (hJ : J B σ) (hn : n ≤ 600) (c2 : σ 10 = 1) {c : Nat} (hcc : (c : Int) < σ 2) (c3 : ch σ c) (c4 : σ (164 + c) ≠ 0) :
    ∃ X' σ' v, fX7_read X (zI (c : Int)) = some (zI v, X') ∧ (v = -6 ∨ v = dgt σ c) ∧ ((∃ m, DnP B n σ m X' σ') ∨ OvP B n σ X' σ') := by
  have hB := hI.1
  have h0 := hB.1
  have hc := cl hB (c := c) hcc
  have hI' := hI
  obtain ⟨-, ⟨h3, h4, h6, h7, h8, h9, -, h17, h13, h12, h14⟩, hpp, -, hg, hE⟩ := hI'
  obtain ⟨⟨p11, p5, p9, p17, p4, p14⟩, hk0⟩ := hpp c2
  unfold fX7_read
  rw [isC h hI hcc, it1, running h hI, i1_t c2, it1, X_ch h.ro hB hcc, bnd_some, i1_t c3, it1, show atX X 15 12 (zI (c : Int)) = zI (σ (164 + c)) from h.ro.ink (by omega), if_neg (show ¬ zI (σ (164 + c)) = 0 by rw [zc0, zeq] <;> omega), X_readingMinutes h.ro hB hcc, thn_eq]
  have hm0 := am_b 3 (σ 11) (by omega) (by omega)
  have hm : 1 ≤ rmin σ c ∧ rmin σ c ≤ 200 := by unfold rmin; split <;> omega
  have ht := inTime h hI hn (m := rmin σ c) (by omega)
  by_cases c6 : rmin σ c ≤ σ 13 + σ 6 - σ 9
  · rw [ht.1, i1_t c6, it1]
    obtain ⟨X1, R1, σ1, a1, s1, B1, e1, go⟩ := act_n h hI hJ.1 hn c2 ⟨hm.1, c6⟩ (j := 9) (w := 3) (a := (c : Int)) (b := 0) (a' := (c : Int)) (b' := -1) (by omega) (by decide +kernel) (by omega) (Or.inl rfl) (by rw [argL1 (by omega)]; rfl) (by omega)
    have t2 : σ1 2 = σ 2 := e1 2 (by omega) (by omega)
    have t0 : σ1 0 = σ 0 := e1 0 (by omega) (by omega)
    have t10 : σ1 10 = 1 := by rw [e1 10 (by omega) (by omega)]; exact c2
    have ti : σ1 (164 + c) = σ (164 + c) := e1 _ (by omega) (by omega)
    have hc1 := cl B1 (c := c) (by omega)
    obtain ⟨b, hb⟩ : ∃ b : Nat, σ1 (140 + c) = b := ⟨(σ1 (140 + c)).toNat, by omega⟩
    obtain ⟨s2, f2⟩ := s1.known t10 (b := b) (by omega) (zI (σ1 (68 + b)) ||| ((1 : Int32) <<< (zI (σ1 (152 + c)) &&& 31)))
    have B2 := known_iv B1 (b := b) (by omega) (zI (σ1 (68 + b)) ||| ((1 : Int32) <<< (zI (σ1 (152 + c)) &&& 31))).toInt
    generalize hV : (zI (σ1 (68 + b)) ||| ((1 : Int32) <<< (zI (σ1 (152 + c)) &&& 31))) = V at *
    have t164 : us σ1 (68 + b) V.toInt (164 + c) = σ (164 + c) := by rw [us_ne _ _ (by omega), ti]
    obtain ⟨s3, f3⟩ := SRput s2 (loc_164 c (by omega)) (m := 12) (by omega) (by omega) (by omega) (by omega) (σ (164 + c) - 1)
    have B3 := B2.ink (i := c) (by omega) (v := σ (164 + c) - 1) (by omega)
    obtain ⟨X4, R4, σ4, a4, s4, B4, I4, J4, e4, t4⟩ := go _ _ _ s3 B3 (fun j hj _ _ => by rw [us_ne _ _ (by omega), us_ne _ _ (by omega)]) (by rw [us_ne _ _ (by omega), us_ne _ _ (by omega), e1 14 (by omega) (by omega)]; omega) (fun q hq hcc => by rw [us_ne _ _ (by omega), us_ne _ _ (by omega), e1 _ (by omega) (by omega)]; exact hk0 q hq hcc) (by rw [heldN_c (σ := σ) (by rw [us_ne _ _ (by omega), us_ne _ _ (by omega)]; exact e1 1 (by omega) (by omega)) (fun p hp => by rw [us_ne _ _ (by omega), us_ne _ _ (by omega)]; exact e1 _ (by omega) (by omega))]; exact jheld hJ c2)
    have eX : fX5_learnFromClue 4 X1 (zI (c : Int)) = some (putX (wr X1 9 b V) (4 + 11) 12 (zI (c : Int)) (zI (σ (164 + c) - 1))) := by
      unfold fX5_learnFromClue fX5_learnDigit
      rw [s1.ro.cbox (by omega), s1.ro.cplace (by omega), hb, Kn.at (s1.1.2.2.2.2.1 t10) (by omega), thn_eq, bnd_some, thn_eq, hV, show putX X1 (4 + 5) 12 (zI (b : Int)) V = wr X1 9 b V from put_in (by omega) (by omega) V, s2.ro.ink (by omega), t164, zc1, zsub, zc0, zmx (by omega) (by omega) (by omega) (by omega), Int.max_eq_right (by omega)]
    rw [zm1, a1, bnd_some, eX, bnd_some, a4, bnd_some]
    have u2 : σ4 2 = σ 2 := by rw [e4 2 (by omega) (by omega), us_ne _ _ (by omega), us_ne _ _ (by omega), t2]
    rw [X_clueDigit s4.ro B4 (by omega)]
    have hx : Jx σ4 := hJ.2.know c2 (by omega) (b := b) (k := σ1 (152 + c)) (by omega) (by omega) (fun j hj hjb => by rw [e4 j (by omega) (by omega), us_ne _ _ (by omega), us_ne _ _ hjb, e1 j (by omega) (by omega)]) (by rw [e4 _ (by omega) (by omega), us_ne _ _ (by omega), us_at, ← hV, e1 (68 + b) (by omega) (by omega)])
    have ee : ∀ j, (j < 56 ∨ (80 ≤ j ∧ j < 104) ∨ (128 ≤ j ∧ j < 164)) → j ≠ 9 → j ≠ 17 → σ4 j = σ j := fun j q1 q2 q3 => by rw [e4 j (by omega) q2, us_ne _ _ (by omega), us_ne _ _ (by omega), e1 j (by omega) q3]
    have ed : dgt σ4 c = dgt σ c := by
      unfold dgt
      rw [ee (140 + c) (by omega) (by omega) (by omega), ee (152 + c) (by omega) (by omega) (by omega), ee (44 + (σ (140 + c)).toNat) (by omega) (by omega) (by omega)]
    exact ⟨X4, σ4, _, rfl, Or.inr ed, Or.inl ⟨_, R4, s4, I4, ⟨J4, hx⟩, t4⟩⟩
  · rw [ht.1, i1_f c6, if_pos rfl]
    obtain ⟨X', σ', q1, q2⟩ := over_n h hI hJ.1 hn c2 (m := rmin σ c) (by omega) (by omega)
    rw [q1, bnd_some]
    exact ⟨X', σ', _, rfl, Or.inl rfl, Or.inr q2⟩
end NA
