/-! what the pure side owes -/
def ini (j : Nat) : Int := if j = 0 then 1 else if j = 56 then 1 else if j = 6 then 60 else if j = 7 then 3 else 0
def inX (k i : Nat) : Int32 := if k = 4 ∧ i = 0 then 1 else if k = 8 ∧ i = 0 then 1 else if k = 3 ∧ i = 7 then 60 else if k = 3 ∧ i = 8 then 3 else 0
theorem ini_ro : ∀ j, j < 176 → ro j = true → inX (4 + rk j) (ri j) = zI (ini j) := by decide +kernel
theorem ini_so : ∀ j, j < 402 → so j = true → inX (3 + sk j) (si j) = zI (ini j) := by decide +kernel
theorem ini_z : ∀ j, j ≠ 0 → j ≠ 56 → j ≠ 6 → j ≠ 7 → ini j = 0 := fun j a b c d => by unfold ini; rw [if_neg a, if_neg b, if_neg c, if_neg d]
theorem ini_X (k : Nat) (h1 : 3 ≤ k) (h2 : k < 24) (i : Nat) : exX k i = inX k i := by
  have e : exX k = stM (k - 3) := by
    unfold exX
    rw [if_neg (by omega), if_pos h2]
  rw [e]
  have hk : k = 3 ∨ k = 4 ∨ k = 8 ∨ (k ≠ 3 ∧ k ≠ 4 ∧ k ≠ 8) := by omega
  rcases hk with rfl | rfl | rfl | ⟨h3, h4, h8⟩
  · show (if i = 7 then (60 : Int32) else if i = 8 then 3 else 0) = _
    unfold inX
    by_cases a : i = 7
    · subst a; rfl
    · by_cases b : i = 8
      · subst b; rfl
      · simp [a, b]
  · show (if i = 0 then (1 : Int32) else 0) = _
    unfold inX
    by_cases a : i = 0
    · subst a; rfl
    · simp [a]
  · show upd (fun _ => (0 : Int32)) 0 1 i = _
    unfold inX
    by_cases a : i = 0
    · subst a; rfl
    · simp [a, upd]
  · have hz : inX k i = 0 := by simp [inX, h3, h4, h8]
    rw [hz]
    have hk : ∀ q, q < 21 → q ≠ 0 → q ≠ 1 → q ≠ 5 → stM q i = 0 := by
      intro q hq h0 h1 h5
      unfold stM
      rw [if_neg h0]
      by_cases hq13 : q < 13
      · rw [if_pos hq13]
        match q, h0, h1, h5 with
        | 2, _, _, _ => rfl
        | 3, _, _, _ => rfl
        | 4, _, _, _ => rfl
        | q + 6, _, _, _ => rfl
      · rw [if_neg hq13]
    exact hk _ (by omega) (by omega) (by omega) (by omega)
theorem ini_ok : SR exX (fun k => if k = 1 then enc ini else fun _ => 0) ini ∧ Iv 0 ini ∧ J 400 ini := by
  have hX := ini_X
  have hz := ini_z
  have e0 : ini 0 = 1 := rfl
  have e1 : ini 1 = 0 := rfl
  have e2 : ini 2 = 0 := rfl
  have e3 : ini 3 = 0 := rfl
  have e4 : ini 4 = 0 := rfl
  have e17 : ini 17 = 0 := rfl
  refine ⟨⟨⟨⟨fun j hj => ?_, fun b hb hn => ?_⟩, fun j hj => ?_, ?_, ?_, fun q => ?_, fun _ b hb => ?_, ?_⟩, rfl⟩, ⟨⟨?_, ?_, ?_, ⟨rfl, ?_⟩, trivial, ?_, ?_⟩, ?_, ?_, ?_, ?_, ?_⟩, ⟨⟨⟨rfl, rfl⟩, ⟨fun g hg => ?_, fun g hg => ?_⟩, fun r hr => ?_, ⟨fun e he => ?_, fun e he => ?_⟩, fun q => ?_⟩, fun q => ?_⟩⟩
  · have := rk_ok j (ro_lt hj) hj
    rw [hX _ (by omega) (by omega)]
    exact ini_ro j (ro_lt hj) hj
  · exact absurd (hz (32 + b) (by omega) (by omega) (by omega) (by omega)) hn
  · have := sk_ok j (so_lt hj) hj
    rw [hX _ (by omega) (by omega)]
    exact ini_so j (so_lt hj) hj
  · rw [hX _ (by omega) (by omega)]; rfl
  · rw [hX _ (by omega) (by omega)]; rfl
  · exact absurd q (by decide)
  · rw [hX _ (by omega) (by omega)]
    unfold inX
    rw [if_neg (by omega), if_neg (by omega), if_neg (by omega), if_neg (by omega)]
  · unfold Lg LogIs
    rw [show (ini 17).toNat = 0 from rfl]
    refine ⟨?_, by show 0 ≤ 2048; omega, fun i hi => absurd hi (by show ¬ i < 0; omega)⟩
    rw [hX _ (by omega) (by omega)]
    rfl
  · decide
  · intro b h1 hb; omega
  · intro b h1 hb; omega
  · intro b hb
    by_cases q : b = 0
    · subst q; exact Or.inr rfl
    · exact Or.inl (hz _ (by omega) (by omega) (by omega) (by omega))
  · intro p hp; omega
  · intro c hc; omega
  · decide
  · intro q; exact absurd q (by decide)
  · intro _ p hp; omega
  · intro g _ hg; omega
  · intro e he; exact absurd he (by show ¬ e < 0; omega)
  · omega
  · omega
  · omega
  · omega
  · omega
  · exact absurd q (by decide)
  · exact absurd q (by decide)
def Inv39 (k : Nat) (X : Mem) : Prop := ∃ R σ, SR X R σ ∧ Iv (3 * k) σ ∧ J (400 + 60 * (k : Int)) σ ∧ (k ≤ 7 → σ 10 = 0)
theorem looks_n {X : Mem} {k : Nat} (hk : k ≤ 34) (h : Inv39 k X) : fL_boxes X = some 1 ∧ fL_clues X = some 1 ∧ fL_groups X = some 1 ∧ fL_log X = some 1 := by
  obtain ⟨R, σ, h, hI, hJ, -⟩ := h
  exact ⟨boxes_n h hI hJ, clues_n h hI (by omega), groups_n h hI hJ (by omega), log_n h hI hJ⟩
theorem owed_ok : ∃ Inv, Owed Inv := by
  refine ⟨Inv39, ⟨?_, ?_, ?_⟩, ?_, ?_⟩
  · obtain ⟨a, b, c⟩ := ini_ok
    exact ⟨_, ini, a, b, c, fun _ => rfl⟩
  · rfl
  · rfl
  · intro k X g h hk hInv
    have st : ∃ X', Ev1 k X g h X' ∧ Inv39 (k + 1) X' := by
      obtain ⟨R, σ, hs, hI, hJ, h10⟩ := hInv
      have hN := hI.2.1
      by_cases c : k < 7
      · obtain ⟨X', R', σ', d1, d2, d3, d4, d5⟩ := build_n hs hI hJ (h10 (by omega)) g h
        exact ⟨X', Or.inl ⟨c, d1⟩, R', σ', d2, d3.mono (by omega), d4.mono (by omega), fun _ => d5⟩
      · by_cases c1 : σ 10 = 1
        · obtain ⟨X', d1, R', σ', d2, d3, d4⟩ := acts_n hs hI hJ (by omega) c1 g h
          refine ⟨X', Or.inr (Or.inl ⟨c, ?_, d1⟩), R', σ', d2, d3.mono (by omega), d4.mono (by omega), fun q => absurd q (by omega)⟩
          rw [q_c14 hs hI, i1_t c1]
        · obtain ⟨X', d1, R', σ', d2, d3, d4⟩ := between_n hs hI hJ (by omega) (by omega) (by omega) g h
          refine ⟨X', Or.inr (Or.inr ⟨c, ⟨0, ?_, by decide⟩, d1⟩), R', σ', d2, d3.mono (by omega), d4.mono (by omega), fun q => absurd q (by omega)⟩
          rw [q_c14 hs hI, i1_f c1]
    obtain ⟨X', e, i⟩ := st
    have q := looks_n (by omega) i
    exact ⟨X', e, i, q.1, q.2.1, q.2.2.1, q.2.2.2⟩
  · intro X hInv
    obtain ⟨R, σ, hs, hI, -, -⟩ := hInv
    exact ⟨X, errors_n hs hI⟩
