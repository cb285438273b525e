/-- what the two memories have in common: the state, the text, the snapshots -/
def Txt (X R : Mem) : Prop := ∃ n : Nat, n ≤ 20 ∧ X 1 1 = zI (n : Int) ∧ R 0 4 = zI (n : Int) ∧ ∀ i, i < n → X 2 i = R 5 i
def Snp (n : Nat) (X R : Mem) (s : Nat) : Prop := (bt (X 0 5) s = true → R 4 s = 1 ∧ ∃ τ, St X (24 + 21 * s) τ ∧ Iv n τ ∧ ∀ j, j < 902 → R 3 (902 * s + j) = zI (τ j)) ∧ (bt (X 0 5) s = false → R 4 s = 0)
def Rel (n : Nat) (X R : Mem) : Prop := ∃ σ, SR X R σ ∧ Iv n σ ∧ Txt X R ∧ Snp n X R 0 ∧ Snp n X R 1
theorem Snp.fr {n m : Nat} {X R X' R' : Mem} {s : Nat} (h : Snp n X R s) (hs : s < 2) (hm : n ≤ m) (hX : ∀ k, k = 0 ∨ (24 ≤ k ∧ k < 66) → X' k = X k) (hR : R' 3 = R 3 ∧ R' 4 = R 4) : Snp m X' R' s := by
  unfold Snp at *
  rw [hX 0 (by omega), hR.1, hR.2]
  refine ⟨fun q => ?_, h.2⟩
  obtain ⟨h1, τ, h2, h3, h4⟩ := h.1 q
  refine ⟨h1, τ, ?_, h3.mono hm, h4⟩
  obtain ⟨⟨hr1, hr2⟩, hs', g1, g0, hk1, hk0, l1, l2, l3⟩ := h2
  have e : ∀ r, r < 21 → X' (24 + 21 * s + r) = X (24 + 21 * s + r) := fun r hr => hX _ (by omega)
  have e1 : ∀ r, r < 12 → X' (24 + 21 * s + 1 + r) = X (24 + 21 * s + 1 + r) := fun r hr => hX _ (by omega)
  refine ⟨⟨fun j hj => ?_, fun b hb hn => ?_⟩, fun j hj => ?_, ?_, ?_, fun q b hb => ?_, fun q b hb => ?_, ?_, l2, fun i hi => ?_⟩
  · rw [e1 _ (rk_ok j (ro_lt hj) hj).1]; exact hr1 j hj
  · rw [e1 3 (by omega)]; exact hr2 b hb hn
  · have := sk_ok j (so_lt hj) hj
    rw [e _ (by omega)]; exact hs' j hj
  · rw [e 16 (by omega)]; exact g1
  · rw [e 16 (by omega)]; exact g0
  · rw [e1 5 (by omega)]; exact hk1 q b hb
  · rw [e 6 (by omega)]; exact hk0 q b hb
  · rw [e 19 (by omega)]; exact l1
  · rw [e 20 (by omega)]; exact l3 i hi
theorem Txt.fr {X R X' R' : Mem} (h : Txt X R) (h1 : X' 1 = X 1) (h2 : X' 2 = X 2) (h3 : R' 0 4 = R 0 4) (h5 : R' 5 = R 5) : Txt X' R' := by
  obtain ⟨n, a, b, c, d⟩ := h
  exact ⟨n, a, by rw [h1]; exact b, by rw [h3]; exact c, fun i hi => by rw [h2, h5]; exact d i hi⟩
/-- one call keeps the relation, and both sides answer the same -/
def Ok (n : Nat) (fx fr : Option (Int32 × Mem)) : Prop := ∃ v X' R', fx = some (v, X') ∧ fr = some (v, R') ∧ Rel (n + 1) X' R'
section RL
variable {X R : Mem} {n : Nat}
theorem Ok.step {fx fr : Option (Int32 × Mem)} (hT : Txt X R) (h0 : Snp n X R 0) (h1 : Snp n X R 1) (h : Step fx fr n X R) : Ok n fx fr := by
  obtain ⟨v, X', R', σ', a, b, c, d, e⟩ := h
  refine ⟨v, X', R', a, b, σ', c, e, hT.fr (d.1 1 (by omega)) (d.1 2 (by omega)) d.2.2 (d.2.1 5 (by omega) (by omega)), h0.fr (by omega) (by omega) (fun k hk => d.1 k (by omega)) ⟨d.2.1 3 (by omega) (by omega), d.2.1 4 (by omega) (by omega)⟩, h1.fr (by omega) (by omega) (fun k hk => d.1 k (by omega)) ⟨d.2.1 3 (by omega) (by omega), d.2.1 4 (by omega) (by omega)⟩⟩
/-- what only tells -/
theorem Ok.told {σ : Nat → Int} {fx : Option Int32} {fr : Option (Int32 × Mem)} (hI : Iv n σ) (hT : Txt X R) (h0 : Snp n X R 0) (h1 : Snp n X R 1) (h : Tm fx fr X R σ) : ∃ v R', fx = some v ∧ fr = some (v, R') ∧ Rel (n + 1) X R' := by
  obtain ⟨v, R', a, b, c, d⟩ := h
  exact ⟨v, R', a, b, σ, c, hI.mono (by omega), hT.fr rfl rfl d.2.2 (d.2.1 5 (by omega) (by omega)), h0.fr (by omega) (by omega) (fun _ _ => rfl) ⟨d.2.1 3 (by omega) (by omega), d.2.1 4 (by omega) (by omega)⟩, h1.fr (by omega) (by omega) (fun _ _ => rfl) ⟨d.2.1 3 (by omega) (by omega), d.2.1 4 (by omega) (by omega)⟩⟩
end RL
