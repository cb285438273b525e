theorem loc_r : ∀ i, i < 210 → so (192 + i) = true ∧ sk (192 + i) = 18 ∧ si (192 + i) = i := by decide +kernel
theorem loc_g : ∀ i, i < 8 → so (176 + i) = true ∧ sk (176 + i) = 14 ∧ si (176 + i) = i := by decide
theorem loc_w : ∀ i, i < 8 → so (184 + i) = true ∧ sk (184 + i) = 15 ∧ si (184 + i) = i := by decide
section OV
variable {X R : Mem} {σ : Nat → Int}
theorem St.stat (h : St X 3 σ) {j : Nat} (hj : so j = true) (v : Int) : St (wr X (3 + sk j) (si j) (zI v)) 3 (us σ j v) :=
  (SR.stat (R := fun _ => enc σ) ⟨h, rfl⟩ hj v).1.1
theorem St.sr (h : St X 3 σ) : SR X (fun _ => enc σ) σ := ⟨h, rfl⟩
theorem St.res (h : St X 3 σ) {i : Nat} (hi : i < 210) (v : Int) : St (putX X 21 210 (zI (i : Int)) (zI v)) 3 (us σ (192 + i) v) := by
  have q := loc_r i hi
  have := h.stat q.1 v
  rw [q.2.1, q.2.2] at this
  rw [put_in hi (by omega)]
  exact this
theorem X_res (h : St X 3 σ) {k : Nat} (hk : σ 4 = k) (hk2 : k ≤ 29) (lasted won : Int) : ∃ X', fX4_append 20 19 X (zI lasted) (zI won) = some X' ∧ St X' 3 (us (us (us (us (us (us (us (us σ (192 + 7 * k) (σ 11)) (193 + 7 * k) (σ 12)) (194 + 7 * k) (σ 13)) (195 + 7 * k) lasted) (196 + 7 * k) won) (197 + 7 * k) (σ 14)) (198 + 7 * k) (σ 16)) 4 (σ 4 + 1)) ∧ FX X X' ∧ ∀ q, q ≠ 20 → q ≠ 21 → X' q = X q := by
  have e0 : X 20 0 * (7 : Int32) = zI ((7 * k : Nat) : Int) := by rw [h.sr.results, hk, zc7, zmul]; congr 1; omega
  have e : ∀ i : Nat, zI ((7 * k : Nat) : Int) + zI (i : Int) = zI ((7 * k + i : Nat) : Int) := fun i => by rw [zadd]; congr 1
  have f : ∀ (M : Mem) (i : Nat) (v : Int32), i < 210 → putX M 21 210 (zI (i : Int)) v = wr M 21 i v := fun M i v hi => put_in hi (by omega) v
  have g1 := h.res (i := 7 * k) (by omega) (σ 11)
  have g2 := g1.res (i := 7 * k + 1) (by omega) (σ 12)
  have g3 := g2.res (i := 7 * k + 2) (by omega) (σ 13)
  have g4 := g3.res (i := 7 * k + 3) (by omega) lasted
  have g5 := g4.res (i := 7 * k + 4) (by omega) won
  have g6 := g5.res (i := 7 * k + 5) (by omega) (σ 14)
  have g7 := g6.res (i := 7 * k + 6) (by omega) (σ 16)
  have g8 := g7.stat (j := 4) rfl (σ 4 + 1)
  rw [f _ _ _ (by omega), f _ _ _ (by omega), f _ _ _ (by omega), f _ _ _ (by omega), f _ _ _ (by omega), f _ _ _ (by omega), f _ _ _ (by omega)] at g8
  refine ⟨wr (wr (wr (wr (wr (wr (wr (wr X 21 (7 * k) (zI (σ 11))) 21 (7 * k + 1) (zI (σ 12))) 21 (7 * k + 2) (zI (σ 13))) 21 (7 * k + 3) (zI lasted)) 21 (7 * k + 4) (zI won)) 21 (7 * k + 5) (zI (σ 14))) 21 (7 * k + 6) (zI (σ 16))) 20 0 (zI (σ 4 + 1)), ?_, ?_, ?_, ?_⟩
  rotate_left
  · rw [show 193 + 7 * k = 192 + (7 * k + 1) by omega, show 194 + 7 * k = 192 + (7 * k + 2) by omega, show 195 + 7 * k = 192 + (7 * k + 3) by omega, show 196 + 7 * k = 192 + (7 * k + 4) by omega, show 197 + 7 * k = 192 + (7 * k + 5) by omega, show 198 + 7 * k = 192 + (7 * k + 6) by omega]
    exact g8
  · intro q hq
    rw [wr_k _ _ _ (by omega), wr_k _ _ _ (by omega), wr_k _ _ _ (by omega), wr_k _ _ _ (by omega), wr_k _ _ _ (by omega), wr_k _ _ _ (by omega), wr_k _ _ _ (by omega), wr_k _ _ _ (by omega)]
  · intro q h1 h2
    rw [wr_k _ _ _ (by omega), wr_k _ _ _ (by omega), wr_k _ _ _ (by omega), wr_k _ _ _ (by omega), wr_k _ _ _ (by omega), wr_k _ _ _ (by omega), wr_k _ _ _ (by omega), wr_k _ _ _ (by omega)]
  · unfold fX4_append
    show (thn (putX X 21 210 (X 20 0 * (7 : Int32)) (X 19 1)) fun M1 => _) = _
    rw [e0, h.sr.players, f _ _ _ (by omega), thn_eq]
    rw [show (1 : Int32) = zI ((1 : Nat) : Int) from rfl, e, show (20 + 1 : Nat) = 21 from rfl, f _ _ _ (by omega), wr_k X _ _ (show (19 : Nat) ≠ 21 by omega), h.sr.wanted, thn_eq]
    rw [show (2 : Int32) = zI ((2 : Nat) : Int) from rfl, e, f _ _ _ (by omega), wr_k _ _ _ (show (19 : Nat) ≠ 21 by omega), wr_k _ _ _ (show (19 : Nat) ≠ 21 by omega), h.sr.start, thn_eq]
    rw [show (3 : Int32) = zI ((3 : Nat) : Int) from rfl, e, f _ _ _ (by omega), thn_eq]
    rw [show (4 : Int32) = zI ((4 : Nat) : Int) from rfl, e, f _ _ _ (by omega), thn_eq]
    rw [show (5 : Int32) = zI ((5 : Nat) : Int) from rfl, e, f _ _ _ (by omega), wr_k _ _ _ (show (19 : Nat) ≠ 21 by omega), wr_k _ _ _ (show (19 : Nat) ≠ 21 by omega), wr_k _ _ _ (show (19 : Nat) ≠ 21 by omega), wr_k _ _ _ (show (19 : Nat) ≠ 21 by omega), wr_k _ _ _ (show (19 : Nat) ≠ 21 by omega), h.sr.toldN, thn_eq]
    rw [show (6 : Int32) = zI ((6 : Nat) : Int) from rfl, e, f _ _ _ (by omega), wr_k _ _ _ (show (19 : Nat) ≠ 21 by omega), wr_k _ _ _ (show (19 : Nat) ≠ 21 by omega), wr_k _ _ _ (show (19 : Nat) ≠ 21 by omega), wr_k _ _ _ (show (19 : Nat) ≠ 21 by omega), wr_k _ _ _ (show (19 : Nat) ≠ 21 by omega), wr_k _ _ _ (show (19 : Nat) ≠ 21 by omega), h.sr.off, thn_eq, thn_eq]
    rw [wr_k _ _ _ (show (20 : Nat) ≠ 21 by omega), wr_k _ _ _ (show (20 : Nat) ≠ 21 by omega), wr_k _ _ _ (show (20 : Nat) ≠ 21 by omega), wr_k _ _ _ (show (20 : Nat) ≠ 21 by omega), wr_k _ _ _ (show (20 : Nat) ≠ 21 by omega), wr_k _ _ _ (show (20 : Nat) ≠ 21 by omega), wr_k _ _ _ (show (20 : Nat) ≠ 21 by omega), h.sr.results, show ((1 : Nat) : Int) = 1 from rfl, zadd]
theorem enE_drp {won : Int} {k i : Nat} (hi : i ≤ 24) (hk : k ≤ 29) : enE (drp σ i) won k = us (drp (us (us (us (us (us (us (us (us σ (192 + 7 * k) (σ 11)) (193 + 7 * k) (σ 12)) (194 + 7 * k) (σ 13)) (195 + 7 * k) (σ 9 - σ 13)) (196 + 7 * k) won) (197 + 7 * k) (σ 14)) (198 + 7 * k) (σ 16)) 4 (σ 4 + 1)) i) 10 0 := by
  unfold enE
  rw [drp_us (by omega), drp_us (by omega), drp_us (by omega), drp_us (by omega), drp_us (by omega), drp_us (by omega), drp_us (by omega), drp_us (by omega)]
  rw [drp_ne (j := 11) (by omega), drp_ne (j := 12) (by omega), drp_ne (j := 13) (by omega), drp_ne (j := 9) (by omega), drp_ne (j := 14) (by omega), drp_ne (j := 16) (by omega), drp_ne (j := 4) (by omega)]
theorem enE_ne {won : Int} {k j : Nat} (h1 : j ≠ 10) (h2 : j ≠ 4) (h3 : j < 192 ∨ 402 ≤ j) (hk : k ≤ 29) : enE σ won k j = σ j := by
  unfold enE
  rw [us_ne _ _ h1, us_ne _ _ h2, us_ne _ _ (by omega), us_ne _ _ (by omega), us_ne _ _ (by omega), us_ne _ _ (by omega), us_ne _ _ (by omega), us_ne _ _ (by omega), us_ne _ _ (by omega)]
/-- the game ends on both sides -/
theorem end_ok (h : SR X R σ) (hB : RB σ) (h10 : σ 10 = 1) (h4 : 0 ≤ σ 4 ∧ σ 4 ≤ 29) (hk0 : ∀ b : Nat, b < 12 → σ 0 ≤ b → σ (68 + b) = 0) {won : Int} (hw : won = 0 ∨ won = 1) : ∃ X' R' σ', fX6_endGame 3 X (zI won) = some X' ∧ fX8_end R (zI won) = some R' ∧ SR X' R' σ' ∧ Fr X R X' R' ∧ (∀ j, j ≠ 10 → j ≠ 4 → (j < 104 ∨ 128 ≤ j) → (j < 192 ∨ 402 ≤ j) → σ' j = σ j) ∧ σ' 10 = 0 ∧ σ' 4 = σ 4 + 1 ∧ RB σ' ∧ (∀ p : Nat, (p : Int) < σ 1 → 0 ≤ σ' (104 + p)) := by
  have h0 := hB.1
  obtain ⟨k, hk⟩ : ∃ k : Nat, σ 4 = k := ⟨(σ 4).toNat, by omega⟩
  obtain ⟨X1, p1, s1, f1, g1⟩ := X_res h.1 hk (by omega) (σ 9 - σ 13) won
  generalize hσ1 : us (us (us (us (us (us (us (us σ (192 + 7 * k) (σ 11)) (193 + 7 * k) (σ 12)) (194 + 7 * k) (σ 13)) (195 + 7 * k) (σ 9 - σ 13)) (196 + 7 * k) won) (197 + 7 * k) (σ 14)) (198 + 7 * k) (σ 16)) 4 (σ 4 + 1) = σ1 at s1
  have eσ1 : ∀ j, j ≠ 4 → (j < 192 ∨ 402 ≤ j) → σ1 j = σ j := by
    intro j a b
    subst hσ1
    rw [us_ne _ _ a, us_ne _ _ (by omega), us_ne _ _ (by omega), us_ne _ _ (by omega), us_ne _ _ (by omega), us_ne _ _ (by omega), us_ne _ _ (by omega), us_ne _ _ (by omega)]
  have hB1 : RB σ1 := hB.c (fun j hj hc => eσ1 j (by omega) (by omega))
  have er : enE (drp σ (σ 1).toNat) won k = us (drp σ1 (σ 1).toNat) 10 0 := by rw [enE_drp (by omega) (by omega), hσ1]
  have e1 : σ1 1 = σ 1 := eσ1 1 (by omega) (by omega)
  have r1 : Ro (wr X1 19 0 0) 4 σ1 := s1.1.frame (fun q hq _ => wr_k X1 _ _ (by omega)) (fun _ _ _ => rfl)
  obtain ⟨X2, p2, s2, g2⟩ := X_drop r1 hB1
  rw [e1] at s2
  have hB2 : RB (drp σ1 (σ 1).toNat) := drp_B hB1 _ (by omega)
  obtain ⟨X3, p3, g3, z3, z3'⟩ := X_forget s2 hB2
  have d0 : drp σ1 (σ 1).toNat 0 = σ 0 := by rw [drp_ne (by omega), eσ1 0 (by omega) (by omega)]
  have eX3 : ∀ q, q ≠ 9 → q ≠ 11 → q ≠ 19 → X3 q = X1 q := fun q a b c => by rw [g3 q a, g2 q b, wr_k X1 _ _ c]
  have eX19 : ∀ i, i ≠ 0 → X3 19 i = X1 19 i := fun i a => by rw [g3 19 (by omega), g2 19 (by omega), wr_i X1 _ _ a]
  have en : enE (drp σ (σ 1).toNat) won k = us (drp σ1 (σ 1).toNat) 10 0 := er
  refine ⟨X3, _, us (drp σ1 (σ 1).toNat) 10 0, ?_, R_end h.row hB hk (by omega) won, ⟨⟨?_, ?_, ?_, ?_, ?_, ?_, ?_⟩, ?_⟩, ⟨?_, ?_, ?_⟩, ?_, us_at _ _ _, ?_, ?_, ?_⟩
  · unfold fX6_endGame
    have ea : fX7_asNumber X (zI won) = zI won := by
      rcases hw with rfl | rfl <;> rfl
    rw [ea, minute h]
    show (bnd (fX4_append 20 19 X (zI (σ 9 - σ 13)) (zI won)) fun M3 => _) = _
    rw [p1, bnd_some, thn_eq]
    show (bnd (fX5_dropHeldProps 4 (wr X1 19 0 0)) fun M5 => _) = _
    rw [p2, bnd_some]
    show (bnd (fX5_forgetDigits 4 X2) fun M6 => _) = _
    rw [p3, bnd_some]
  · refine s2.frame (fun q hq hq5 => ?_) (fun j hj hc => us_ne _ _ (by omega))
    exact g3 _ (by omega)
  · refine s1.2.1.frame (fun q hq => eX3 _ (by omega) (by omega) (by omega)) (fun i hi => eX19 i (by omega)) (fun j hj => ?_)
    have hj2 := so_lt hj
    have hj3 := (sk_ok j hj2 hj).2.1
    have n10 : j ≠ 10 := by intro q; subst q; exact absurd hj (by decide)
    rw [us_ne _ _ n10]
    refine drp_ne ?_
    have : ¬ (104 ≤ j ∧ j < 128) := by
      intro q
      simp [ro] at hj3
      omega
    omega
  · rw [eX19 1 (by omega), us_ne _ _ (by omega), drp_ne (by omega)]
    exact s1.2.2.1
  · rw [us_at, g3 19 (by omega), g2 19 (by omega), wr_at]; rfl
  · rw [us_at]
    intro q
    omega
  · intro _ b hb
    show X3 9 b = 0
    by_cases c : (b : Int) < σ 0
    · exact z3 b (by rw [d0]; exact c)
    · rw [z3' b (by rw [d0]; omega), g2 (4 + 5) (by omega), wr_k X1 _ _ (by omega)]
      have := s1.2.2.2.2.1 (by rw [eσ1 10 (by omega) (by omega)]; exact h10) b hb
      rw [eσ1 _ (by omega) (by omega), hk0 b hb (by omega)] at this
      exact this
  · exact (s1.2.2.2.2.2.2).frame (eX3 22 (by omega) (by omega) (by omega)) (eX3 23 (by omega) (by omega) (by omega)) (fun j hj => by rw [us_ne _ _ (by omega), drp_ne (by omega)])
  · rw [setR_at, en]
  · intro q hq
    rw [eX3 q (by omega) (by omega) (by omega)]
    exact f1 q hq
  · intro q h1 h2
    exact setR_ne R _ (by omega)
  · rw [setR_ne R _ (by omega)]
  · intro j a b c d
    rw [us_ne _ _ a, drp_ne (by omega)]
    exact eσ1 j b d
  · rw [us_ne _ _ (by omega), drp_ne (by omega)]
    subst hσ1
    exact us_at _ _ _
  · exact hB2.c (fun j hj hc => us_ne _ _ (by omega))
  · intro p hp
    rw [us_ne _ _ (by omega)]
    have q := pr hB hp
    unfold drp
    split
    · omega
    · rename_i c
      have : σ1 (104 + p) = σ (104 + p) := eσ1 _ (by omega) (by omega)
      rw [this] at c ⊢
      omega
end OV
