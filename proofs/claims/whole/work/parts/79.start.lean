/-! the two memories at the start -/
def ini (j : Nat) : Int := if j = 0 then 1 else if j = 56 then 1 else if j = 6 then 60 else if j = 7 then 3 else 0
/-- the class's own state at first -/
def inX (k i : Nat) : Int32 := if k = 4 ∧ i = 0 then 1 else if k = 8 ∧ i = 0 then 1 else if k = 3 ∧ i = 7 then 60 else if k = 3 ∧ i = 8 then 3 else 0
theorem ini_ro : ∀ j, j < 176 → ro j = true → inX (4 + rk j) (ri j) = zI (ini j) := by decide +kernel
theorem ini_so : ∀ j, j < 402 → so j = true → inX (3 + sk j) (si j) = zI (ini j) := by decide +kernel
theorem rel_0 {X R : Mem} (hX : ∀ k, 3 ≤ k → k < 24 → ∀ i, X k i = inX k i) (h0 : X 0 5 = 0) (h1 : X 1 1 = 0) (hR : R 1 = enc ini) (r4 : R 0 4 = 0) (k4 : R 4 0 = 0 ∧ R 4 1 = 0) : Rel 0 X R := by
  have hz : ∀ j, j ≠ 0 → j ≠ 56 → j ≠ 6 → j ≠ 7 → ini j = 0 := fun j a b c d => by unfold ini; rw [if_neg a, if_neg b, if_neg c, if_neg d]
  have e0 : ini 0 = 1 := rfl
  have e1 : ini 1 = 0 := rfl
  have e2 : ini 2 = 0 := rfl
  have e3 : ini 3 = 0 := rfl
  refine ⟨ini, ⟨⟨⟨fun j hj => ?_, fun b hb hn => ?_⟩, fun j hj => ?_, ?_, ?_, fun q => ?_, fun _ b hb => ?_, ?_⟩, hR⟩, ⟨⟨?_, ?_, ?_, ⟨rfl, ?_⟩, trivial, ?_, ?_⟩, ?_, ?_, ?_, ?_, ?_⟩, ⟨0, by omega, h1, r4, fun i hi => by omega⟩, ⟨fun q => ?_, fun _ => k4.1⟩, ⟨fun q => ?_, fun _ => k4.2⟩⟩
  · have := rk_ok j (ro_lt hj) hj
    rw [hX _ (by omega) (by omega)]
    exact ini_ro j (ro_lt hj) hj
  · exact absurd (hz (32 + b) (by omega) (by omega) (by omega) (by omega)) hn
  · have := sk_ok j (so_lt hj) hj
    rw [hX _ (by omega) (by omega)]
    exact ini_so j (so_lt hj) hj
  · rw [hX _ (by omega) (by omega)]; rfl
  · rw [hX _ (by omega) (by omega)]; rfl
  · exact absurd q (by decide)
  · rw [hX _ (by omega) (by omega)]
    unfold inX
    rw [if_neg (by omega), if_neg (by omega), if_neg (by omega), if_neg (by omega)]
  · unfold Lg LogIs
    rw [show (ini 17).toNat = 0 from rfl]
    refine ⟨?_, by show 0 ≤ 2048; omega, fun i hi => absurd hi (by show ¬ i < 0; omega)⟩
    rw [hX _ (by omega) (by omega)]
    rfl
  · decide
  · intro b h1 hb; omega
  · intro b h1 hb; omega
  · intro b hb
    by_cases q : b = 0
    · subst q; exact Or.inr rfl
    · exact Or.inl (hz _ (by omega) (by omega) (by omega) (by omega))
  · intro p hp; omega
  · intro c hc; omega
  · decide
  · intro q; exact absurd q (by decide)
  · intro _ p hp; omega
  · intro g _ hg; omega
  · intro e he; exact absurd he (by show ¬ e < 0; omega)
  · rw [h0, b_0] at q; cases q
  · rw [h0, b_0] at q; cases q
