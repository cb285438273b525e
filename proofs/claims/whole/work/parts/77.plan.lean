section PZ
variable {X R : Mem} {n : Nat}
theorem aside_L (x : Int32) : ∀ (d i m : Nat) (R : Mem), i + d = 902 → d < m → ∃ R', fX8_plan_L34 m R x (zI (i : Int)) = fX8_plan_L69 5000 (wr R' 1 11 x) 0 ∧ (∀ k, k ≠ 2 → R' k = R k) ∧ (∀ j, i ≤ j → j < 902 → R' 2 j = R 1 j) ∧ (∀ j, j < i → R' 2 j = R 2 j) := by
  intro d
  induction d with
  | zero =>
    intro i m R hi hm
    obtain ⟨m, rfl⟩ := ex_succ hm
    exact ⟨R, by rw [fX8_plan_L34, if_pos (by rw [zc902, zle] <;> omega), thn_eq], fun _ _ => rfl, fun j h1 h2 => by omega, fun _ _ => rfl⟩
  | succ d ih =>
    intro i m R hi hm
    obtain ⟨m, rfl⟩ := ex_succ hm
    obtain ⟨R', q1, q2, q3, q4⟩ := ih (i + 1) m (wr R 2 i (R 1 i)) (by omega) (by omega)
    have hib : inb (zI (i : Int)) 902 = true := by rw [zinb (by omega) (by omega)]; omega
    refine ⟨R', ?_, fun k hk => by rw [q2 k hk, wr_k _ _ _ hk], fun j h1 h2 => ?_, fun j hj => by rw [q4 j (by omega), wr_i _ _ _ (by omega)]⟩
    · rw [fX8_plan_L34, if_neg (by rw [zc902, zle] <;> omega), if_pos hib, if_pos hib, ztn (by omega) (by omega), Int.toNat_natCast, thn_eq, zsuc]
      exact q1
    · by_cases c : j = i
      · subst c
        rw [q4 j (by omega), wr_at]
      · rw [q3 j (by omega) h2, wr_k _ _ _ (by omega)]
theorem zero_L {ρ : Nat → Int} : ∀ (d i m : Nat) (R : Mem), R 1 = enc (kz ρ i) → i + d = 12 → d < m → ∃ R', fX8_plan_L69 m R (zI (i : Int)) = fX8_plan_L93 5000 R' 0 ∧ R' 1 = enc (kz ρ 12) ∧ (∀ k, k ≠ 1 → R' k = R k) := by
  intro d
  induction d with
  | zero =>
    intro i m R hR hi hm
    obtain ⟨m, rfl⟩ := ex_succ hm
    obtain rfl : i = 12 := by omega
    exact ⟨R, by rw [fX8_plan_L69, if_pos (by decide)], hR, fun _ _ => rfl⟩
  | succ d ih =>
    intro i m R hR hi hm
    obtain ⟨m, rfl⟩ := ex_succ hm
    have e : us (kz ρ i) (68 + i) 0 = kz ρ (i + 1) := by
      funext j
      unfold us kz
      by_cases q : j = 68 + i
      · rw [if_pos q, if_pos (by omega)]
      · rw [if_neg q]
        by_cases q2 : 68 ≤ j ∧ j < 68 + i
        · rw [if_pos q2, if_pos (by omega)]
        · rw [if_neg q2, if_neg (by omega)]
    obtain ⟨R', q1, q2, q3⟩ := ih (i + 1) m (wr R 1 (68 + i) (zI 0)) (by rw [wrR hR, e]) (by omega) (by omega)
    refine ⟨R', ?_, q2, fun k hk => by rw [q3 k hk, wr_k _ _ _ hk]⟩
    rw [fX8_plan_L69, if_neg (by rw [zc12, zle] <;> omega), if_pos (i68 (by omega)), j68 (by omega), thn_eq, zsuc]
    exact q1
theorem back_L (v : Int32) : ∀ (d i m : Nat) (R : Mem), i + d = 902 → d < m → ∃ R', fX8_plan_L137 m R v (zI (i : Int)) = some (v, R') ∧ (∀ k, k ≠ 1 → R' k = R k) ∧ (∀ j, i ≤ j → j < 902 → R' 1 j = R 2 j) ∧ (∀ j, j < i → R' 1 j = R 1 j) := by
  intro d
  induction d with
  | zero =>
    intro i m R hi hm
    obtain ⟨m, rfl⟩ := ex_succ hm
    exact ⟨R, by rw [fX8_plan_L137, if_pos (by rw [zc902, zle] <;> omega)], fun _ _ => rfl, fun j h1 h2 => by omega, fun _ _ => rfl⟩
  | succ d ih =>
    intro i m R hi hm
    obtain ⟨m, rfl⟩ := ex_succ hm
    obtain ⟨R', q1, q2, q3, q4⟩ := ih (i + 1) m (wr R 1 i (R 2 i)) (by omega) (by omega)
    have hib : inb (zI (i : Int)) 902 = true := by rw [zinb (by omega) (by omega)]; omega
    refine ⟨R', ?_, fun k hk => by rw [q2 k hk, wr_k _ _ _ hk], fun j h1 h2 => ?_, fun j hj => by rw [q4 j (by omega), wr_i _ _ _ (by omega)]⟩
    · rw [fX8_plan_L137, if_neg (by rw [zc902, zle] <;> omega), if_pos hib, if_pos hib, ztn (by omega) (by omega), Int.toNat_natCast, thn_eq, zsuc]
      exact q1
    · by_cases c : j = i
      · subst c
        rw [q4 j (by omega), wr_at]
      · rw [q3 j (by omega) h2, wr_k _ _ _ (by omega)]
theorem plan_ok (h : Rel n X R) (x : Int32) : Ok n (fX7_plan X x) (fX8_plan R x) := by
  obtain ⟨σ, hS, hI, hT, hs0, hs1⟩ := h
  have hB := hI.1
  have h0 := hB.1
  obtain ⟨a, ha1, ha2, rfl⟩ := zof x
  unfold fX7_plan fX8_plan
  rw [groupSize ha1 ha2, show fX8_in R (zI a) (1 : Int32) (6 : Int32) = i1 (1 ≤ a ∧ a ≤ 6) from R_in (a := a) (b := 1) (c := 6) ha1 ha2 (by omega) (by omega) (by omega) (by omega)]
  by_cases c1 : 1 ≤ a ∧ a ≤ 6
  · rw [i1_t c1, it1, it1, plays hS.row hI, bnd_some, running hS hI]
    by_cases c2 : σ 10 = 1
    · rw [i1_t c2, it1, it1]
      exact Ok.step hT hs0 hs1 (Step.same hS hI _ rfl rfl)
    · have n10 := not10 hI c2
      rw [i1_f c2, it0, it0, rd hS.row 5, show X 4 14 = zI (σ 5) from hS.ro.ex]
      by_cases c3 : σ 5 = 0
      · have c3' : zI (σ 5) = 0 := by rw [c3]; rfl
        rw [if_pos c3', if_pos c3']
        exact Ok.step hT hs0 hs1 (Step.same hS hI _ rfl rfl)
      · have c3' : ¬ zI (σ 5) = 0 := by rw [zc0, zeq] <;> omega
        obtain ⟨M5, a1, a2, a3, a4⟩ := cp5 (M := X) (k := 66) (k2 := 4) (by omega)
        have ro5 : Ro M5 66 σ := by
          refine ⟨fun j hj => ?_, fun b hb hn => ?_⟩
          · rw [← hS.ro.1 j hj]
            rcases rk_in j (ro_lt hj) hj with ⟨w1, w2⟩ | ⟨w1, w2, w3⟩
            · rw [w1]; exact a3 _ w2
            · exact a4 _ _ w1 w2 w3
          · rw [← hS.ro.2 b hb hn]
            exact a4 3 b (by omega) (by omega) (by omega)
        have e0 : ∀ j, j < 68 ∨ 80 ≤ j → kz (us σ 11 a) 12 j = us σ 11 a j := fun j hj => by unfold kz; rw [if_neg (by omega)]
        have ro6 : Ro (wr M5 66 15 (zI a)) 66 (kz (us σ 11 a) 12) := (ro5.wr (j := 11) rfl (by omega) a).frame (fun _ _ _ => rfl) (fun j hj hc => e0 j (by omega))
        have kn6 : Kn (wr M5 66 15 (zI a)) 66 (kz (us σ 11 a) 12) := by
          intro b hb
          rw [wr_k _ _ _ (by omega), a4 5 b (by omega) (by omega) (by omega)]
          have : kz (us σ 11 a) 12 (68 + b) = 0 := by unfold kz; rw [if_pos (by omega)]
          rw [this]
          exact hS.1.2.2.2.2.2.1 n10 b hb
        have B6 : RB (kz (us σ 11 a) 12) := (hB.eleven (o := a) (by omega)).c (fun j hj hc => e0 j (by omega))
        obtain ⟨R1, b1, b2, b3, b4⟩ := aside_L (zI a) 902 0 5000 R (by omega) (by omega)
        have hR1 : wr R1 1 11 (zI a) 1 = enc (us σ 11 a) := wrR (by rw [b2 1 (by omega)]; exact hS.2) 11 a
        obtain ⟨R2, d1, d2, d3⟩ := zero_L (ρ := us σ 11 a) 12 0 5000 _ (by rw [kz0]; exact hR1) (by omega) (by omega)
        have z11 : kz (us σ 11 a) 12 11 = a := by rw [e0 11 (by omega), us_at]
        have z5 : kz (us σ 11 a) 12 5 = σ 5 := by rw [e0 5 (by omega), us_ne _ _ (by omega)]
        have zh : heldN (kz (us σ 11 a) 12) = 0 := by
          rcases Nat.eq_zero_or_pos (heldN (kz (us σ 11 a) 12)) with t | t
          · exact t
          · obtain ⟨j, j1, j2⟩ := held_ex t
            rw [e0 1 (by omega), us_ne _ _ (by omega)] at j1
            rw [e0 _ (by omega), us_ne _ _ (by omega)] at j2
            have := hI.2.2.2.1 n10 j (by omega)
            omega
        have l1 := cnt_le (fun i => !bt (zI (kz (us σ 11 a) 12 (68 + i / 4))) (i % 4)) 48
        have l2 := cnt_le (fun b => decide (kz (us σ 11 a) 12 (56 + b) ≠ 1)) 12
        obtain ⟨v, M', R3, p1, p2, p3, p4, p5⟩ := plan_L 243 5000 5000 (wr M5 66 15 (zI a)) R2 _ 0 0 3 ⟨ro6, kn6, B6, d2⟩ (by rw [z11]; exact c1) (by rw [z5]; omega) (by rw [zh, z11]; omega) (fun _ => pot_le _ _) (by unfold clo un4; omega) (by omega) (by omega) (by omega) (by omega)
        obtain ⟨R4, q1, q2, q3, q4⟩ := back_L v 902 0 5000 R3 (by omega) (by omega)
        have fR : ∀ k, 3 ≤ k → R4 k = R k := fun k hk => by rw [q2 k (by omega), p4 k (by omega), d3 k (by omega), wr_k _ _ _ (by omega), b2 k (by omega)]
        have fX : ∀ k, k < 66 → M' k = X k := fun k hk => by rw [p3 k hk, wr_k _ _ _ (by omega), a2 k (by omega)]
        have e : ∀ j, j < 902 → (fun j => if j < 902 then σ j else (R4 1 j).toInt) j = σ j := fun j hj => if_pos hj
        have hR4 : R4 1 = enc (fun j => if j < 902 then σ j else (R4 1 j).toInt) := by
          funext j
          show R4 1 j = zI (if j < 902 then σ j else (R4 1 j).toInt)
          by_cases c : j < 902
          · rw [if_pos c, q3 j (by omega) c, p4 2 (by omega), d3 2 (by omega), wr_k _ _ _ (by omega), b3 j (by omega) c, rd hS.row]
          · rw [if_neg c]; exact (Int32.ofInt_toInt _).symm
        have hS4 : SR M' R4 (fun j => if j < 902 then σ j else (R4 1 j).toInt) := ⟨(hS.1.rows (fun r hr => fX _ (by omega))).c hI.2.1.2.2.2.2.2.2.2.1 e, hR4⟩
        refine ⟨v, M', R4, ?_, ?_, Rel.mk' hT hs0 hs1 hS4 ((hI.c e).mono (by omega)) (fun k hk => fX k (by omega)) (by rw [fX 1 (by omega)]) (fun k k1 k2 => fR k (by omega)) ?_⟩
        · rw [if_neg c3', a1, bnd_some, thn_eq]
          unfold fX5_minutesToExit
          rw [show fX5_minutesToExit_L4 66 5000 (wr M5 66 15 (zI a)) 0 0 = some (v, M') from p1, bnd_some]
        · rw [if_neg c3', show (0 : Int32) = zI ((0 : Nat) : Int) from rfl, b1, show (0 : Int32) = zI ((0 : Nat) : Int) from rfl, d1, show fX8_plan_L93 5000 R2 0 = fX8_plan_L137 5000 R3 v 0 from p2, show (0 : Int32) = zI ((0 : Nat) : Int) from rfl, q1]
        · rw [q2 0 (by omega), p5 4 (by omega), d3 0 (by omega), wr_k _ _ _ (by omega), b2 0 (by omega)]
  · rw [i1_f c1, it0, it0]
    exact Ok.step hT hs0 hs1 (Step.same hS hI _ rfl rfl)
end PZ
