theorem copyX_at (M : Mem) (k k' : Nat) {n i : Nat} (h : i < n) : copyX M k k' n k' i = M k i := by
  unfold copyX
  rw [setR_at, if_pos h]
theorem copyX_k (M : Mem) (k n : Nat) {k' q : Nat} (h : q ≠ k') : copyX M k k' n q = M q := by
  unfold copyX
  exact setR_ne M _ h
section KP
variable {M : Mem} {k k2 : Nat}
theorem cp5 (hk : k + 21 ≤ k2 ∨ k2 + 21 ≤ k) : ∃ M', fX5_copyFrom k k2 M = some M' ∧ (∀ q, q < k ∨ k + 12 ≤ q → M' q = M q) ∧ (∀ i, i = 0 ∨ i = 6 ∨ i = 9 ∨ i = 14 ∨ i = 15 → M' k i = M k2 i) ∧ (∀ r i, 1 ≤ r → r < 12 → i < 12 ∨ ((r = 6 ∨ r = 7) ∧ i < 24) → M' (k + r) i = M (k2 + r) i) := by
  unfold fX5_copyFrom
  simp only [thn_eq]
  refine ⟨_, rfl, ?_, ?_, ?_⟩
  · intro q hq
    simp (disch := omega) only [wr_k, copyX_k]
  · intro i hi
    rcases hi with rfl | rfl | rfl | rfl | rfl <;> simp (disch := omega) only [wr_k, copyX_k, wr_i, wr_at]
  · intro r i h1 h2 hi
    have : r = 1 ∨ r = 2 ∨ r = 3 ∨ r = 4 ∨ r = 5 ∨ r = 6 ∨ r = 7 ∨ r = 8 ∨ r = 9 ∨ r = 10 ∨ r = 11 := by omega
    rcases this with rfl | rfl | rfl | rfl | rfl | rfl | rfl | rfl | rfl | rfl | rfl <;> simp (disch := omega) only [wr_k, copyX_k, copyX_at]
theorem cp3 (hk : k + 3 ≤ k2 ∨ k2 + 3 ≤ k) : ∃ M', fX3_copyFrom k k2 M = some M' ∧ (∀ q, q < k ∨ k + 3 ≤ q → M' q = M q) ∧ M' k 0 = M k2 0 ∧ (∀ i, i < 8 → M' (k + 1) i = M (k2 + 1) i) ∧ (∀ i, i < 8 → M' (k + 2) i = M (k2 + 2) i) := by
  unfold fX3_copyFrom
  simp only [thn_eq]
  refine ⟨_, rfl, ?_, ?_, ?_, ?_⟩
  · intro q hq
    simp (disch := omega) only [wr_k, copyX_k]
  · simp (disch := omega) only [wr_k, copyX_k, wr_at]
  · intro i hi
    simp (disch := omega) only [wr_k, copyX_k, copyX_at]
  · intro i hi
    simp (disch := omega) only [wr_k, copyX_k, copyX_at]
theorem cp4 (hk : k + 2 ≤ k2 ∨ k2 + 2 ≤ k) : ∃ M', fX4_copyFrom k k2 M = some M' ∧ (∀ q, q < k ∨ k + 2 ≤ q → M' q = M q) ∧ M' k 0 = M k2 0 ∧ (∀ i, i < 210 → M' (k + 1) i = M (k2 + 1) i) := by
  unfold fX4_copyFrom
  simp only [thn_eq]
  refine ⟨_, rfl, ?_, ?_, ?_⟩
  · intro q hq
    simp (disch := omega) only [wr_k, copyX_k]
  · simp (disch := omega) only [wr_k, copyX_k, wr_at]
  · intro i hi
    simp (disch := omega) only [wr_k, copyX_k, copyX_at]
theorem cp1 (hk : k ≠ k2) : ∃ M', fX1_copyFrom k k2 M = some M' ∧ (∀ q, q ≠ k → M' q = M q) ∧ M' k 0 = bz (M k2 0) ∧ (∀ i, 1 ≤ i → i < 7 → M' k i = M k2 i) := by
  unfold fX1_copyFrom
  simp only [thn_eq]
  refine ⟨_, rfl, ?_, ?_, ?_⟩
  · intro q hq
    simp (disch := omega) only [wr_k]
  · simp (disch := omega) only [wr_k, wr_i, wr_at]
  · intro i h1 h2
    have : i = 1 ∨ i = 2 ∨ i = 3 ∨ i = 4 ∨ i = 5 ∨ i = 6 := by omega
    rcases this with rfl | rfl | rfl | rfl | rfl | rfl <;> simp (disch := omega) only [wr_k, wr_i, wr_at]
theorem cp2_L {len : Nat} (hk : k + 2 ≤ k2 ∨ k2 + 2 ≤ k) (hl : len ≤ 2048) : ∀ (d i m : Nat) (M : Mem), M k 0 = zI (len : Int) → i + d = len → d < m → ∃ M', fX2_copyFrom_L10 k k2 m M (zI (i : Int)) = some M' ∧ (∀ q, q ≠ k + 1 → M' q = M q) ∧ (∀ j, j < i → M' (k + 1) j = M (k + 1) j) ∧ (∀ j, i ≤ j → j < len → M' (k + 1) j = M (k2 + 1) j) := by
  intro d
  induction d with
  | zero =>
    intro i m M h0 hi hm
    obtain ⟨m, rfl⟩ := ex_succ hm
    exact ⟨M, by rw [fX2_copyFrom_L10, if_pos (by rw [h0, zle] <;> omega)], fun _ _ => rfl, fun _ _ => rfl, fun j h1 h2 => by omega⟩
  | succ d ih =>
    intro i m M h0 hi hm
    obtain ⟨m, rfl⟩ := ex_succ hm
    have hq := zinb (a := (i : Int)) (n := 2048) (by omega) (by omega)
    have ea : atX M (k2 + 1) 2048 (zI (i : Int)) = M (k2 + 1) i := by
      unfold atX
      rw [if_pos (by rw [hq]; omega), ztn (by omega) (by omega), Int.toNat_natCast]
    obtain ⟨M', q1, q2, q3, q4⟩ := ih (i + 1) m (wr M (k + 1) i (M (k2 + 1) i)) (by rw [wr_k _ _ _ (by omega)]; exact h0) (by omega) (by omega)
    refine ⟨M', ?_, fun q hq => by rw [q2 q hq, wr_k _ _ _ hq], fun j hj => by rw [q3 j (by omega), wr_i _ _ _ (by omega)], fun j h1 h2 => ?_⟩
    · rw [fX2_copyFrom_L10, if_neg (by rw [h0, zle] <;> omega), ea, put_in (by omega) (by omega), thn_eq, zsuc]
      exact q1
    · by_cases c : j = i
      · subst c
        rw [q3 j (by omega), wr_at]
      · rw [q4 j (by omega) h2, wr_k _ _ _ (by omega)]
theorem cp2 {len : Nat} (hk : k + 2 ≤ k2 ∨ k2 + 2 ≤ k) (hl : len ≤ 2048) (h0 : M k2 0 = zI (len : Int)) : ∃ M', fX2_copyFrom k k2 M = some M' ∧ (∀ q, q < k ∨ k + 2 ≤ q → M' q = M q) ∧ M' k 0 = M k2 0 ∧ (∀ i, i < len → M' (k + 1) i = M (k2 + 1) i) := by
  obtain ⟨M', q1, q2, q3, q4⟩ := cp2_L hk hl len 0 5000 (wr M k 0 (M k2 0)) (by rw [wr_at, h0]) (by omega) (by omega)
  refine ⟨M', ?_, fun q hq => by rw [q2 q (by omega), wr_k _ _ _ (by omega)], by rw [q2 k (by omega), wr_at], fun i hi => by rw [q4 i (by omega) hi, wr_k _ _ _ (by omega)]⟩
  unfold fX2_copyFrom
  rw [thn_eq]
  exact q1
theorem rk_in : ∀ j, j < 176 → ro j = true → (rk j = 0 ∧ (ri j = 0 ∨ ri j = 6 ∨ ri j = 9 ∨ ri j = 14 ∨ ri j = 15)) ∨ (1 ≤ rk j ∧ rk j < 12 ∧ (ri j < 12 ∨ ((rk j = 6 ∨ rk j = 7) ∧ ri j < 24))) := by decide +kernel
def sb (k i : Nat) : Bool := (k == 0 && (i == 5 || i == 6 || i == 7 || i == 8)) || (k == 13 && i == 0) || (k == 17 && i == 0) || (k == 16 && decide (1 ≤ i) && decide (i < 7)) || (k == 14 && decide (i < 8)) || (k == 15 && decide (i < 8)) || (k == 18 && decide (i < 210))
theorem sk_in0 : ∀ j, j < 402 → so j = true → sb (sk j) (si j) = true := by decide +kernel
theorem sk_in {j : Nat} (hj : so j = true) : (sk j = 0 ∧ (si j = 5 ∨ si j = 6 ∨ si j = 7 ∨ si j = 8)) ∨ (sk j = 13 ∧ si j = 0) ∨ (sk j = 17 ∧ si j = 0) ∨ (sk j = 16 ∧ 1 ≤ si j ∧ si j < 7) ∨ (sk j = 14 ∧ si j < 8) ∨ (sk j = 15 ∧ si j < 8) ∨ (sk j = 18 ∧ si j < 210) := by
  have h := sk_in0 j (so_lt hj) hj
  simp only [sb, Bool.or_eq_true, Bool.and_eq_true, beq_iff_eq, decide_eq_true_eq] at h
  omega
/-- a state is copied -/
theorem cp6 {σ : Nat → Int} (hk : k + 21 ≤ k2 ∨ k2 + 21 ≤ k) (h : St M k2 σ) (h10 : σ 10 = 0 ∨ σ 10 = 1) : ∃ M', fX6_copyFrom k k2 M = some M' ∧ St M' k σ ∧ (∀ q, q < k ∨ k + 21 ≤ q → M' q = M q) := by
  obtain ⟨⟨hr1, hr2⟩, hs, g1, g0, hk1, hk0, l1, l2, l3⟩ := h
  obtain ⟨M1, a1, a2, a3, a4⟩ := cp5 (M := M) (k := k + 1) (k2 := k2 + 1) (by omega)
  obtain ⟨M2, b1, b2, b3, b4, b5⟩ := cp3 (M := M1) (k := k + 13) (k2 := k2 + 13) (by omega)
  obtain ⟨M3, c1, c2, c3, c4⟩ := cp1 (M := M2) (k := k + 16) (k2 := k2 + 16) (by omega)
  obtain ⟨M4, d1, d2, d3, d4⟩ := cp4 (M := M3) (k := k + 17) (k2 := k2 + 17) (by omega)
  have up4 : ∀ q, q < k + 1 ∨ k + 19 ≤ q → M4 q = M q := fun q hq => by rw [d2 q (by omega), c2 q (by omega), b2 q (by omega), a2 q (by omega)]
  obtain ⟨M5, e1, e2, e3, e4⟩ := cp2 (M := M4) (k := k + 19) (k2 := k2 + 19) (by omega) l2 (by rw [up4 _ (by omega)]; exact l1)
  have up5 : ∀ q, q < k + 1 ∨ k + 21 ≤ q → M5 q = M q := fun q hq => by rw [e2 q (by omega), up4 q (by omega)]
  refine ⟨wr (wr (wr (wr M5 k 5 (M k2 5)) k 6 (M k2 6)) k 7 (M k2 7)) k 8 (M k2 8), ?_, ?_, ?_⟩
  · unfold fX6_copyFrom
    rw [a1, bnd_some, b1, bnd_some, c1, bnd_some, d1, bnd_some, e1, bnd_some]
    simp only [thn_eq]
    have n : k2 ≠ k := by omega
    rw [wr_k _ _ _ n, wr_k _ _ _ n, wr_k _ _ _ n, wr_k _ _ _ n, wr_k _ _ _ n, wr_k _ _ _ n, up5 k2 (by omega)]
  · generalize hF : wr (wr (wr (wr M5 k 5 (M k2 5)) k 6 (M k2 6)) k 7 (M k2 7)) k 8 (M k2 8) = F
    have F5 : ∀ q, q ≠ k → F q = M5 q := fun q hq => by rw [← hF, wr_k _ _ _ hq, wr_k _ _ _ hq, wr_k _ _ _ hq, wr_k _ _ _ hq]
    have F0 : ∀ i, i = 5 ∨ i = 6 ∨ i = 7 ∨ i = 8 → F k i = M k2 i := by
      intro i hi
      rw [← hF]
      rcases hi with rfl | rfl | rfl | rfl <;> simp (disch := omega) only [wr_i, wr_at]
    have r0 : ∀ i, i = 0 ∨ i = 6 ∨ i = 9 ∨ i = 14 ∨ i = 15 → F (k + 1) i = M (k2 + 1) i := fun i hi => by rw [F5 _ (by omega), e2 _ (by omega), d2 _ (by omega), c2 _ (by omega), b2 _ (by omega), a3 i hi]
    have r1 : ∀ r i, 1 ≤ r → r < 12 → i < 12 ∨ ((r = 6 ∨ r = 7) ∧ i < 24) → F (k + 1 + r) i = M (k2 + 1 + r) i := fun r i h1 h2 hi => by rw [F5 _ (by omega), e2 _ (by omega), d2 _ (by omega), c2 _ (by omega), b2 _ (by omega), a4 r i h1 h2 hi]
    have s13 : F (k + 13) 0 = M (k2 + 13) 0 := by rw [F5 _ (by omega), e2 _ (by omega), d2 _ (by omega), c2 _ (by omega), b3, a2 _ (by omega)]
    have s14 : ∀ i, i < 8 → F (k + 14) i = M (k2 + 14) i := fun i hi => by rw [F5 _ (by omega), e2 _ (by omega), d2 _ (by omega), c2 _ (by omega), show k + 14 = k + 13 + 1 by omega, b4 i hi, a2 _ (by omega)]
    have s15 : ∀ i, i < 8 → F (k + 15) i = M (k2 + 15) i := fun i hi => by rw [F5 _ (by omega), e2 _ (by omega), d2 _ (by omega), c2 _ (by omega), show k + 15 = k + 13 + 2 by omega, b5 i hi, a2 _ (by omega)]
    have s16 : ∀ i, 1 ≤ i → i < 7 → F (k + 16) i = M (k2 + 16) i := fun i h1 h2 => by rw [F5 _ (by omega), e2 _ (by omega), d2 _ (by omega), c4 i h1 h2, b2 _ (by omega), a2 _ (by omega)]
    have s160 : F (k + 16) 0 = bz (M (k2 + 16) 0) := by rw [F5 _ (by omega), e2 _ (by omega), d2 _ (by omega), c3, b2 _ (by omega), a2 _ (by omega)]
    have s17 : F (k + 17) 0 = M (k2 + 17) 0 := by rw [F5 _ (by omega), e2 _ (by omega), d3, c2 _ (by omega), b2 _ (by omega), a2 _ (by omega)]
    have s18 : ∀ i, i < 210 → F (k + 18) i = M (k2 + 18) i := fun i hi => by rw [F5 _ (by omega), e2 _ (by omega), show k + 18 = k + 17 + 1 by omega, d4 i hi, c2 _ (by omega), b2 _ (by omega), a2 _ (by omega)]
    have s19 : F (k + 19) 0 = M (k2 + 19) 0 := by rw [F5 _ (by omega), e3, up4 _ (by omega)]
    have s20 : ∀ i, i < (lgs σ (σ 17).toNat).length → F (k + 19 + 1) i = M (k2 + 19 + 1) i := fun i hi => by rw [F5 _ (by omega), e4 i hi, up4 _ (by omega)]
    refine ⟨⟨fun j hj => ?_, fun b hb hn => ?_⟩, fun j hj => ?_, ?_, ?_, fun q b hb => ?_, fun q b hb => ?_, ?_, l2, fun i hi => ?_⟩
    · rw [← hr1 j hj]
      rcases rk_in j (ro_lt hj) hj with ⟨w1, w2⟩ | ⟨w1, w2, w3⟩
      · rw [w1]; exact r0 _ w2
      · exact r1 _ _ w1 w2 w3
    · rw [← hr2 b hb hn]
      exact r1 3 b (by omega) (by omega) (by omega)
    · rw [← hs j hj]
      rcases sk_in hj with ⟨w1, w2⟩ | ⟨w1, w2⟩ | ⟨w1, w2⟩ | ⟨w1, w2, w3⟩ | ⟨w1, w2⟩ | ⟨w1, w2⟩ | ⟨w1, w2⟩
      · rw [w1]; exact F0 _ (by omega)
      · rw [w1, w2]; exact s13
      · rw [w1, w2]; exact s17
      · rw [w1]; exact s16 _ w2 w3
      · rw [w1]; exact s14 _ w2
      · rw [w1]; exact s15 _ w2
      · rw [w1]; exact s18 _ w2
    · rw [s16 1 (by omega) (by omega)]; exact g1
    · rw [s160, g0]; exact zbz h10
    · rw [r1 5 b (by omega) (by omega) (by omega)]; exact hk1 q b hb
    · rw [show k + 6 = k + 1 + 5 by omega, r1 5 b (by omega) (by omega) (by omega)]; exact hk0 q b hb
    · rw [s19]; exact l1
    · rw [s20 i hi]; exact l3 i hi
  · intro q hq
    rw [wr_k _ _ _ (by omega), wr_k _ _ _ (by omega), wr_k _ _ _ (by omega), wr_k _ _ _ (by omega), up5 q (by omega)]
end KP
