/-- what holds of a state after at most n calls -/
def Iv (n : Nat) (σ : Nat → Int) : Prop :=
  RB σ ∧
  ((0 ≤ σ 3 ∧ σ 3 ≤ 8) ∧ (0 ≤ σ 4 ∧ σ 4 ≤ 30) ∧ (10 ≤ σ 6 ∧ σ 6 ≤ 120) ∧ (0 ≤ σ 7 ∧ σ 7 ≤ 9) ∧ (0 ≤ σ 8 ∧ σ 8 ≤ 1000 * n) ∧ (0 ≤ σ 9 ∧ σ 9 ≤ 100000 + 1000 * n) ∧ (σ 10 = 0 ∨ σ 10 = 1) ∧ (0 ≤ σ 17 ∧ σ 17 ≤ 121) ∧ (0 ≤ σ 13 ∧ σ 13 ≤ σ 9) ∧ (0 ≤ σ 12 ∧ σ 12 ≤ 100000) ∧ (0 ≤ σ 14 ∧ σ 14 ≤ 9)) ∧
  (σ 10 = 1 → (1 ≤ σ 11 ∧ 1 ≤ σ 5 ∧ σ 9 ≤ σ 13 + σ 6 ∧ σ 17 ≤ σ 9 - σ 13 ∧ σ 4 ≤ 29 ∧ σ 14 ≤ σ 7) ∧ ∀ b : Nat, b < 12 → σ 0 ≤ b → σ (68 + b) = 0) ∧
  (σ 10 = 0 → ∀ p : Nat, (p : Int) < σ 1 → 0 ≤ σ (104 + p)) ∧
  (∀ g : Nat, g < 8 → (g : Int) < σ 3 → (1 ≤ σ (176 + g) ∧ σ (176 + g) ≤ 6) ∧ (0 ≤ σ (184 + g) ∧ σ (184 + g) ≤ 100000)) ∧
  Ents σ (σ 17).toNat
theorem Iv.mono {n m : Nat} {σ : Nat → Int} (h : Iv n σ) (hm : n ≤ m) : Iv m σ := by
  obtain ⟨hB, ⟨h3, h4, h6, h7, h8, h9, h10, h17, h13, h12, h14⟩, hp, h0, hg, hE⟩ := h
  exact ⟨hB, ⟨h3, h4, h6, h7, by omega, by omega, h10, h17, h13, h12, h14⟩, hp, h0, hg, hE⟩
theorem Ents.c {σ σ' : Nat → Int} {n : Nat} (h : Ents σ n) (hs : ∀ j, 402 ≤ j → j < 402 + 4 * n → σ' j = σ j) : Ents σ' n := by
  intro e he
  rw [hs _ (by omega) (by omega), hs _ (by omega) (by omega), hs _ (by omega) (by omega), hs _ (by omega) (by omega)]
  exact h e he
section OV
variable {X R : Mem} {σ : Nat → Int} {n : Nat}
theorem plays (hR : R 1 = enc σ) (hI : Iv n σ) : fX8_plays R = some (i1 (σ 10 = 1)) := by
  have h10 := hI.2.1.2.2.2.2.2.2.1
  unfold fX8_plays
  rw [rd hR]
  simp (disch := omega) only [zc1, zeq]
  rw [← zc1, so_if]
theorem running (h : SR X R σ) (hI : Iv n σ) : bz (X 19 0) = i1 (σ 10 = 1) := by
  have h10 := hI.2.1.2.2.2.2.2.2.1
  rw [h.running, zbz h10]
  rcases h10 with q | q
  · rw [q, i1_f (by omega)]; rfl
  · rw [q, i1_t rfl]; rfl
/-- the time is over: the game ends, lost -/
theorem over_ok (h : SR X R σ) (hI : Iv n σ) (hn : n ≤ 600) (h10 : σ 10 = 1) {m : Int} (hm : 0 ≤ m ∧ m ≤ 100000) (hlt : σ 13 + σ 6 - σ 9 < m) : ∃ X' R' σ', fX6_runOutOfTime 3 X = some (zI (-6), X') ∧ fX8_isOver R (zI m) = some (1, R') ∧ SR X' R' σ' ∧ Fr X R X' R' ∧ Iv (n + 1) σ' := by
  obtain ⟨hB, ⟨h3, h4, h6, h7, h8, h9, -, h17, h13, h12, h14⟩, hp, h0, hg, hE⟩ := hI
  obtain ⟨⟨p11, p5, p9, p17, p4, p14⟩, hk0⟩ := hp h10
  have hb0 := hB.1
  obtain ⟨X1, R1, σ1, a1, b1, s1, f1, e1, t1, E1⟩ := note_ok h (by omega) hE (j := 5) (w := 6) (a := 0) (b := 0) (a' := -1) (b' := -1) (by omega) (by decide +kernel) (Or.inl rfl) (Or.inl rfl) rfl ⟨by omega, by omega, by omega, by omega, by omega⟩
  have hB1 : RB σ1 := hB.c (fun j hj hc => e1 j (by omega) (by omega))
  have q9 : σ1 9 = σ 9 := e1 9 (by omega) (by omega)
  have q13 : σ1 13 = σ 13 := e1 13 (by omega) (by omega)
  have q6 : σ1 6 = σ 6 := e1 6 (by omega) (by omega)
  obtain ⟨X2, R2, σ2, a2, b2, s2, B2, f2, e2, t2⟩ := pass_ok s1 hB1 (by omega) (m := σ1 13 + σ1 6 - σ1 9) (by omega) (by omega)
  have e02 : ∀ j, j < 164 ∨ 176 ≤ j → j ≠ 9 → j < 402 → j ≠ 17 → σ2 j = σ j := fun j a b c d => (e2 j a b).trans (e1 j c d)
  obtain ⟨X3, R3, σ3, a3, b3, s3, f3, e3, t10, t4, B3, l3⟩ := end_ok s2 B2 (by rw [e02 10 (by omega) (by omega) (by omega) (by omega)]; exact h10) (by rw [e02 4 (by omega) (by omega) (by omega) (by omega)]; omega) (fun b hb hc => by
    rw [e02 0 (by omega) (by omega) (by omega) (by omega)] at hc
    rw [e02 _ (by omega) (by omega) (by omega) (by omega)]
    exact hk0 b hb hc) (won := 0) (Or.inl rfl)
  have e03 : ∀ j, j ≠ 10 → j ≠ 4 → (j < 104 ∨ (128 ≤ j ∧ j < 164) ∨ (176 ≤ j ∧ j < 192)) → j ≠ 9 → j ≠ 17 → σ3 j = σ j := fun j a b c d f => (e3 j a b (by omega) (by omega)).trans (e02 j (by omega) d (by omega) f)
  refine ⟨X3, R3, σ3, ?_, ?_, s3, (f1.trans f2).trans f3, ?_⟩
  · unfold fX6_runOutOfTime
    show (bnd (fX2_append 22 5 X (fX6_gameMinute 3 X) (-1) (-1)) fun M2 => _) = _
    rw [zm1, a1, bnd_some, left s1, a2, bnd_some, zc0, a3, bnd_some]
    rfl
  · unfold fX8_isOver
    rw [R_left h.row, bnd_some, if_pos (by rw [zlt] <;> omega), show (6 : Int32) = zI 6 from rfl, show (0 : Int32) = zI 0 from rfl, b1, bnd_some, R_left s1.row, bnd_some, b2, bnd_some, b3, bnd_some]
  · have s9 : σ3 9 = σ 13 + σ 6 := by rw [e3 9 (by omega) (by omega) (by omega) (by omega), t2]; omega
    have s17 : σ3 17 = σ 17 + 1 := by rw [e3 17 (by omega) (by omega) (by omega) (by omega), e2 17 (by omega) (by omega), t1]
    have s4 : σ3 4 = σ 4 + 1 := by rw [t4, e02 4 (by omega) (by omega) (by omega) (by omega)]
    have g := fun j a b c d f => e03 j a b c d f
    refine ⟨B3, ⟨?_, ?_, ?_, ?_, ?_, ?_, Or.inl t10, ?_, ?_, ?_, ?_⟩, ?_, ?_, ?_, ?_⟩
    · rw [e03 3 (by omega) (by omega) (by omega) (by omega) (by omega)]; exact h3
    · omega
    · rw [e03 6 (by omega) (by omega) (by omega) (by omega) (by omega)]; exact h6
    · rw [e03 7 (by omega) (by omega) (by omega) (by omega) (by omega)]; exact h7
    · rw [e03 8 (by omega) (by omega) (by omega) (by omega) (by omega)]; omega
    · omega
    · omega
    · rw [e03 13 (by omega) (by omega) (by omega) (by omega) (by omega), s9]; omega
    · rw [e03 12 (by omega) (by omega) (by omega) (by omega) (by omega)]; exact h12
    · rw [e03 14 (by omega) (by omega) (by omega) (by omega) (by omega)]; exact h14
    · intro q; omega
    · intro _ p hpp
      refine l3 p ?_
      rw [e03 1 (by omega) (by omega) (by omega) (by omega) (by omega)] at hpp
      rw [e02 1 (by omega) (by omega) (by omega) (by omega)]
      exact hpp
    · intro q hq hq2
      rw [e03 3 (by omega) (by omega) (by omega) (by omega) (by omega)] at hq2
      rw [e03 _ (by omega) (by omega) (by omega) (by omega) (by omega), e03 _ (by omega) (by omega) (by omega) (by omega) (by omega)]
      exact hg q hq hq2
    · rw [s17, ← t1]
      exact E1.c (fun j h1 h2 => by rw [e3 j (by omega) (by omega) (by omega) (by omega), e2 j (by omega) (by omega)])
/-- there is time -/
theorem inTime (h : SR X R σ) (hI : Iv n σ) (hn : n ≤ 600) {m : Int} (hm : 0 ≤ m ∧ m ≤ 100000) : fX6_hasTimeFor 3 X (zI m) = i1 (m ≤ σ 13 + σ 6 - σ 9) ∧ (m ≤ σ 13 + σ 6 - σ 9 → fX8_isOver R (zI m) = some (0, R)) := by
  obtain ⟨hB, ⟨h3, h4, h6, h7, h8, h9, -, h17, h13, h12, h14⟩, -⟩ := hI
  constructor
  · unfold fX6_hasTimeFor
    rw [left h]
    by_cases c : m ≤ σ 13 + σ 6 - σ 9
    · rw [if_neg (by rw [zlt] <;> omega), i1_t c]
    · rw [if_pos (by rw [zlt] <;> omega), i1_f c]
  · intro c
    unfold fX8_isOver
    rw [R_left h.row, bnd_some, if_neg (by rw [zlt] <;> omega)]
end OV
