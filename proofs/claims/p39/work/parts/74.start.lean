/-! a game begins -/
theorem cnt_c {P Q : Nat → Bool} : ∀ m : Nat, (∀ i, i < m → P i = Q i) → cnt P m = cnt Q m := by
  intro m
  induction m with
  | zero => intro _; rfl
  | succ m ih =>
    intro h
    unfold cnt
    rw [ih (fun i hi => h i (by omega)), h m (by omega)]
section ND
variable {X R : Mem} {σ : Nat → Int} {n : Nat} {B : Int}
theorem start_n (h : SR X R σ) (hI : Iv n σ) (hJ : J B σ) (hn : n ≤ 600) (n10 : σ 10 = 0) (c3 : σ 3 ≠ 0) (c4 : σ 5 ≠ 0) (c5 : σ (56 + (σ 5).toNat) ≠ 1) (c6 : σ 4 ≠ 30) : ∃ X' R' σ', fX7_startGame X = some (zI (max (σ 9) (σ 184) - σ 184), X') ∧ SR X' R' σ' ∧ Iv (n + 1) σ' ∧ J B σ' ∧ σ' 9 = max (σ 9) (σ 184) ∧ σ' 10 = 1 ∧ σ' 13 = max (σ 9) (σ 184) ∧ σ' 17 = 0 ∧ awy σ' = awy σ ∧ opn σ' = opn σ ∧ σ' 6 = σ 6 := by
  have hB := hI.1
  have h0 := hB.1
  have hN := hI.2.1
  have c2 : ¬ σ 10 = 1 := by omega
  unfold fX7_startGame
  rw [running h hI, i1_f c2, it0, h.waiting, show X 4 14 = zI (σ 5) from h.ro.ex, h.results]
  rw [if_neg (show ¬ zI (σ 3) = 0 by rw [zc0, zeq] <;> omega), if_neg (show ¬ zI (σ 5) = 0 by rw [zc0, zeq] <;> omega), zn_of h0.2.2.2.1.1, X_isOpen h.ro hB (by omega), i1_f c5, it0, if_pos (show zI (σ 4) < 30 by rw [zc30, zlt] <;> omega)]
  obtain ⟨g1, g2⟩ := hI.2.2.2.2.1 0 (by omega) (by omega)
  obtain ⟨a, ha⟩ : ∃ a, σ (176 + 0) = a := ⟨_, rfl⟩
  obtain ⟨b, hb⟩ : ∃ b, σ (184 + 0) = b := ⟨_, rfl⟩
  rw [ha] at g1
  rw [hb] at g2
  have hga := SRget h (i := 0) (by omega)
  rw [ha, hb] at hga
  obtain ⟨s1, f1⟩ := SReleven h a
  obtain ⟨s2', f2'⟩ := s1.stat (j := 12) rfl b
  have s2 : SR (wr (wr (wr X 4 15 (zI a)) 19 1 (zI a)) 19 2 (zI b)) (wr (wr R 1 11 (zI a)) 1 12 (zI b)) (us (us σ 11 a) 12 b) := s2'
  have f2 : Fr (wr (wr X 4 15 (zI a)) 19 1 (zI a)) (wr R 1 11 (zI a)) (wr (wr (wr X 4 15 (zI a)) 19 1 (zI a)) 19 2 (zI b)) (wr (wr R 1 11 (zI a)) 1 12 (zI b)) := f2'
  have q3 : us (us σ 11 a) 12 b 3 = σ 3 := by rw [us_ne _ _ (by omega), us_ne _ _ (by omega)]
  obtain ⟨Y1, R1, a1, b1, s3, f3⟩ := remove_ok s2 (by omega) (i := 0) (by omega)
  rw [q3] at s3
  generalize hσ1 : us (shf (σ 3 - 1 - ((0 : Nat) : Int)).toNat 0 (us (us σ 11 a) 12 b)) 3 (σ 3 - 1) = σ1 at *
  have e1 : ∀ j, j ≠ 3 → j ≠ 11 → j ≠ 12 → (j < 176 ∨ 192 ≤ j) → σ1 j = σ j := fun j x1 x2 x3 x4 => by
    rw [← hσ1, us_ne _ _ x1, shf_ne _ _ _ _ (by omega) x4, us_ne _ _ x3, us_ne _ _ x2]
  have e11 : σ1 11 = a := by rw [← hσ1, us_ne _ _ (by omega), shf_ne _ _ _ _ (by omega) (by omega), us_ne _ _ (by omega), us_at]
  have e12 : σ1 12 = b := by rw [← hσ1, us_ne _ _ (by omega), shf_ne _ _ _ _ (by omega) (by omega), us_at]
  have e3 : σ1 3 = σ 3 - 1 := by rw [← hσ1, us_at]
  have e9 : σ1 9 = σ 9 := e1 9 (by omega) (by omega) (by omega) (by omega)
  have eg : ∀ g : Nat, g < 8 → (g : Int) < σ 3 - 1 → (1 ≤ σ1 (176 + g) ∧ σ1 (176 + g) ≤ 6) ∧ (0 ≤ σ1 (184 + g) ∧ σ1 (184 + g) ≤ 100000) := fun g x1 x2 => by
    rw [← hσ1, us_ne _ _ (by omega), us_ne _ _ (by omega)]
    exact shf_g (N := σ 3) _ _ _ (by omega) hN.1.2 (fun q y1 y2 => by rw [us_ne _ _ (by omega), us_ne _ _ (by omega), us_ne _ _ (by omega), us_ne _ _ (by omega)]; exact hI.2.2.2.2.1 q y1 y2) g x1 (by omega)
  have B1 : RB σ1 := (hB.eleven (o := a) (by omega)).c (fun j x1 x2 => by
    by_cases y : j = 11
    · subst y; rw [us_at, e11]
    · rw [us_ne _ _ y, e1 j (by omega) y (by omega) (by omega)])
  -- the class's own memory waits for its players
  have x15 : X 4 15 = zI (σ 11) := h.ro.ha
  have eX2 : wr (wr X 19 1 (zI a)) 19 2 (zI b) = wr (wr (wr (wr X 4 15 (zI a)) 19 1 (zI a)) 19 2 (zI b)) 4 15 (zI (σ 11)) := by
    rw [wr_kc _ _ _ _ _ (show (19 : Nat) ≠ 4 by omega), wr_kc _ _ _ _ _ (show (19 : Nat) ≠ 4 by omega), wr_wr, wr_id _ x15]
  have rX : fX3_remove 16 (wr (wr X 19 1 (zI a)) 19 2 (zI b)) 0 = some (wr Y1 4 15 (zI (σ 11))) := by
    rw [eX2]
    unfold fX3_remove at a1 ⊢
    exact remove_wr 15 (zI (σ 11)) (by omega) _ _ _ _ a1
  have hT : ∃ T, T = max (σ 9) b := ⟨_, rfl⟩
  obtain ⟨T, hT⟩ := hT
  have clk : wr Y1 4 15 (zI (σ 11)) 3 5 = zI (σ 9) := by rw [wr_k _ _ _ (by omega), s3.clock, e9]
  have wnt : wr Y1 4 15 (zI (σ 11)) 19 2 = zI b := by rw [wr_k _ _ _ (by omega), s3.wanted, e12]
  have key : ∃ Y2 R2 σ2, fX6_pass 3 (wr (wr Y1 4 15 (zI (σ 11))) 19 3 (zI T)) (zI (T - σ 9)) = some (wr (wr Y2 4 15 (zI (σ 11))) 19 3 (zI T)) ∧ (if R1 1 12 ≤ R1 1 9 then fX8_startGame_B126 R1 else bnd (fX8_pass R1 (R1 1 12 - R1 1 9)) fun M27 => fX8_startGame_B126 M27) = fX8_startGame_B126 R2 ∧ SR Y2 R2 σ2 ∧ RB σ2 ∧ Fr Y1 R1 Y2 R2 ∧ (∀ j, j < 164 ∨ 176 ≤ j → j ≠ 9 → σ2 j = σ1 j) ∧ σ2 9 = T := by
    rw [rd s3.row, rd s3.row, e12, e9]
    by_cases c : b ≤ σ 9
    · refine ⟨Y1, R1, σ1, ?_, by rw [if_pos (by rw [zle] <;> omega)], s3, B1, Fr.rf _ _, fun _ _ _ => rfl, by omega⟩
      rw [show T - σ 9 = 0 by omega]
      exact pass_0 (c := σ 9) (by rw [wr_k _ _ _ (by omega)]; exact clk) (by omega)
    · obtain ⟨Y2, R2, σ2, p1, p2, p3, p4, p5, p6, p7⟩ := pass_p s3 B1 (by omega) (m := T - σ 9) (by omega) (by omega) (o := σ 11) (by omega) (zI T)
      refine ⟨Y2, R2, σ2, p1, ?_, p3, p4, p5, p6, by omega⟩
      rw [if_neg (by rw [zle] <;> omega), zsub, show b - σ 9 = T - σ 9 by omega, p2, bnd_some]
  obtain ⟨Y2, R2, σ2, p1, p2, s4, B2, f4, e2, t9⟩ := key
  have z : ∀ j, j ≠ 3 → j ≠ 9 → j ≠ 11 → j ≠ 12 → (j < 164 ∨ (192 ≤ j)) → σ2 j = σ j := fun j x1 x2 x3 x4 x5 => by rw [e2 j (by omega) x2, e1 j x1 x3 x4 (by omega)]
  obtain ⟨R3, p3, p4, p5⟩ := R_begin s4.row B2
  have hro : Ro (wr (wr (wr (wr Y2 4 15 (zI (σ 11))) 19 3 (zI T)) 19 4 0) 19 5 0) 4 (us σ2 11 (σ 11)) := (s4.ro.wr (j := 11) rfl (by omega) (σ 11)).frame (fun k hk _ => by rw [wr_k _ _ _ (by omega), wr_k _ _ _ (by omega), wr_k _ _ _ (by omega)]; rfl) (fun _ _ _ => rfl)
  have B3 := B2.eleven (o := σ 11) (by omega)
  have m1 := X_propsAway hro B3
  have m2 := X_openBoxes hro B3
  have u1 : (fun p => decide (us σ2 11 (σ 11) (104 + p) ≠ us σ2 11 (σ 11) (80 + p))) = (fun p => decide (σ2 (104 + p) ≠ σ2 (80 + p))) := by
    funext p
    rw [us_ne _ _ (show 104 + p ≠ 11 by omega), us_ne _ _ (show 80 + p ≠ 11 by omega)]
  have u2 : (fun b => decide (1 ≤ b ∧ us σ2 11 (σ 11) (56 + b) = 1)) = (fun b => decide (1 ≤ b ∧ σ2 (56 + b) = 1)) := by
    funext p
    rw [us_ne _ _ (show 56 + p ≠ 11 by omega)]
  rw [u1, us_ne _ _ (show 1 ≠ 11 by omega)] at m1
  rw [u2, us_ne _ _ (show 0 ≠ 11 by omega)] at m2
  generalize hc1 : ((cnt (fun p => decide (σ2 (104 + p) ≠ σ2 (80 + p))) (σ2 1).toNat : Nat) : Int) = w1 at *
  generalize hc2 : ((cnt (fun b => decide (1 ≤ b ∧ σ2 (56 + b) = 1)) (σ2 0).toNat : Nat) : Int) = w2 at *
  -- the class's side, written out
  have y15 : Y2 4 15 = zI a := by rw [s4.ro.ha, e2 11 (by omega) (by omega), e11]
  have y1 : Y2 19 1 = zI a := by rw [s4.players, e2 11 (by omega) (by omega), e11]
  have y2 : Y2 19 2 = zI b := by rw [s4.wanted, e2 12 (by omega) (by omega), e12]
  have fin : fX6_beginGame 3 X = some (zI (T - b), wr (wr (wr (wr (wr (wr Y2 19 3 (zI T)) 19 4 (zI 0)) 19 5 (zI 0)) 19 6 (zI (w1 + w2))) 19 0 1) 22 0 0) := by
    unfold fX6_beginGame
    rw [show atX X (3 + 14) 8 0 = zI a from hga.1, thn_eq, atX_wr _ _ _ (show 3 + 15 ≠ 3 + 16 by omega), show atX X (3 + 15) 8 0 = zI b from hga.2, thn_eq, show fX3_remove (3 + 13) (wr (wr X (3 + 16) 1 (zI a)) (3 + 16) 2 (zI b)) 0 = some (wr Y1 4 15 (zI (σ 11))) from rX, bnd_some, clk, show wr Y1 4 15 (zI (σ 11)) (3 + 16) 2 = zI b from wnt, zmx (by omega) (by omega) (by omega) (by omega), ← hT, thn_eq, wr_at, wr_k _ _ _ (show 3 ≠ 3 + 16 by omega), clk, zsub, show fX6_pass 3 (wr (wr Y1 4 15 (zI (σ 11))) (3 + 16) 3 (zI T)) (zI (T - σ 9)) = some (wr (wr Y2 4 15 (zI (σ 11))) 19 3 (zI T)) from p1, bnd_some, thn_eq, thn_eq, show fX5_propsAway (3 + 1) (wr (wr (wr (wr Y2 4 15 (zI (σ 11))) 19 3 (zI T)) (3 + 16) 4 0) (3 + 16) 5 0) = some (zI w1) from m1, bnd_some, show fX5_openBoxes (3 + 1) (wr (wr (wr (wr Y2 4 15 (zI (σ 11))) 19 3 (zI T)) (3 + 16) 4 0) (3 + 16) 5 0) = some (zI w2) from m2, bnd_some, zadd, thn_eq, thn_eq, thn_eq, thn_eq]
    have r1 : wr (wr (wr (wr (wr (wr Y2 4 15 (zI (σ 11))) 19 3 (zI T)) 19 4 0) 19 5 0) 19 6 (zI (w1 + w2))) 19 0 1 19 1 = zI a := by
      rw [wr_i _ _ _ (by omega), wr_i _ _ _ (by omega), wr_i _ _ _ (by omega), wr_i _ _ _ (by omega), wr_i _ _ _ (by omega), wr_k _ _ _ (by omega)]
      exact y1
    have eM : wr (wr (wr (wr (wr (wr (wr Y2 4 15 (zI (σ 11))) 19 3 (zI T)) 19 4 0) 19 5 0) 19 6 (zI (w1 + w2))) 19 0 1) 4 15 (zI a) = wr (wr (wr (wr (wr Y2 19 3 (zI T)) 19 4 (zI 0)) 19 5 (zI 0)) 19 6 (zI (w1 + w2))) 19 0 1 := by
      rw [wr_kc _ _ _ _ _ (show (19 : Nat) ≠ 4 by omega), wr_kc _ _ _ _ _ (show (19 : Nat) ≠ 4 by omega), wr_kc _ _ _ _ _ (show (19 : Nat) ≠ 4 by omega), wr_kc _ _ _ _ _ (show (19 : Nat) ≠ 4 by omega), wr_kc _ _ _ _ _ (show (19 : Nat) ≠ 4 by omega), wr_wr, wr_id _ y15]
      rfl
    show some ((wr (wr (wr (wr (wr (wr (wr (wr Y2 4 15 (zI (σ 11))) 19 3 (zI T)) 19 4 0) 19 5 0) 19 6 (zI (w1 + w2))) 19 0 1) 4 15 ((wr (wr (wr (wr (wr (wr Y2 4 15 (zI (σ 11))) 19 3 (zI T)) 19 4 0) 19 5 0) 19 6 (zI (w1 + w2))) 19 0 1) 19 1)) 22 0 0) 19 3 - (wr (wr (wr (wr (wr (wr (wr (wr Y2 4 15 (zI (σ 11))) 19 3 (zI T)) 19 4 0) 19 5 0) 19 6 (zI (w1 + w2))) 19 0 1) 4 15 ((wr (wr (wr (wr (wr (wr Y2 4 15 (zI (σ 11))) 19 3 (zI T)) 19 4 0) 19 5 0) 19 6 (zI (w1 + w2))) 19 0 1) 19 1)) 22 0 0) 19 2, wr (wr (wr (wr (wr (wr (wr (wr Y2 4 15 (zI (σ 11))) 19 3 (zI T)) 19 4 0) 19 5 0) 19 6 (zI (w1 + w2))) 19 0 1) 4 15 ((wr (wr (wr (wr (wr (wr Y2 4 15 (zI (σ 11))) 19 3 (zI T)) 19 4 0) 19 5 0) 19 6 (zI (w1 + w2))) 19 0 1) 19 1)) 22 0 0) = _
    rw [r1, eM]
    have r3 : wr (wr (wr (wr (wr (wr Y2 19 3 (zI T)) 19 4 (zI 0)) 19 5 (zI 0)) 19 6 (zI (w1 + w2))) 19 0 1) 22 0 0 19 3 = zI T := by
      rw [wr_k _ _ _ (by omega), wr_i _ _ _ (by omega), wr_i _ _ _ (by omega), wr_i _ _ _ (by omega), wr_i _ _ _ (by omega), wr_at]
    have r2 : wr (wr (wr (wr (wr (wr Y2 19 3 (zI T)) 19 4 (zI 0)) 19 5 (zI 0)) 19 6 (zI (w1 + w2))) 19 0 1) 22 0 0 19 2 = zI b := by
      rw [wr_k _ _ _ (by omega), wr_i _ _ _ (by omega), wr_i _ _ _ (by omega), wr_i _ _ _ (by omega), wr_i _ _ _ (by omega), wr_i _ _ _ (by omega)]
      exact y2
    rw [r3, r2, zsub]
  have k1 := s4.1.stat (j := 13) rfl T
  have k2 := k1.stat (j := 14) rfl 0
  have k3 := k2.stat (j := 15) rfl 0
  have k4 : St (wr (wr (wr (wr Y2 19 3 (zI T)) 19 4 (zI 0)) 19 5 (zI 0)) 19 6 (zI (w1 + w2))) 3 (us (us (us (us σ2 13 T) 14 0) 15 0) 16 (w1 + w2)) := k3.stat (j := 16) rfl (w1 + w2)
  rw [t9] at p3 p4
  have hF : ∀ j, j ≠ 10 → j ≠ 17 → (j < 68 ∨ 80 ≤ j) → kz (us (us (us (us (us (us σ2 10 1) 13 T) 14 0) 15 0) 16 (w1 + w2)) 17 0) 12 j = us (us (us (us σ2 13 T) 14 0) 15 0) 16 (w1 + w2) j := by
    intro j x1 x2 x3
    unfold kz
    rw [if_neg (by omega), us_ne _ _ x2]
    by_cases q16 : j = 16
    · subst q16; rw [us_at, us_at]
    · rw [us_ne _ _ q16, us_ne _ _ q16]
      by_cases q15 : j = 15
      · subst q15; rw [us_at, us_at]
      · rw [us_ne _ _ q15, us_ne _ _ q15]
        by_cases q14 : j = 14
        · subst q14; rw [us_at, us_at]
        · rw [us_ne _ _ q14, us_ne _ _ q14]
          by_cases q13 : j = 13
          · subst q13; rw [us_at, us_at]
          · rw [us_ne _ _ q13, us_ne _ _ q13, us_ne _ _ x1]
  have F10 : kz (us (us (us (us (us (us σ2 10 1) 13 T) 14 0) 15 0) 16 (w1 + w2)) 17 0) 12 10 = 1 := by
    unfold kz
    rw [if_neg (by omega), us_ne _ _ (by omega), us_ne _ _ (by omega), us_ne _ _ (by omega), us_ne _ _ (by omega), us_ne _ _ (by omega), us_at]
  have F17 : kz (us (us (us (us (us (us σ2 10 1) 13 T) 14 0) 15 0) 16 (w1 + w2)) 17 0) 12 17 = 0 := by
    unfold kz
    rw [if_neg (by omega), us_at]
  have Fk : ∀ b, b < 12 → kz (us (us (us (us (us (us σ2 10 1) 13 T) 14 0) 15 0) 16 (w1 + w2)) 17 0) 12 (68 + b) = 0 := by
    intro b hb
    unfold kz
    rw [if_pos (by omega)]
  have z10 : σ2 10 = 0 := by rw [z 10 (by omega) (by omega) (by omega) (by omega) (by omega)]; exact n10
  have k5 := k4.begin (by rw [us_ne _ _ (by omega), us_ne _ _ (by omega), us_ne _ _ (by omega), us_ne _ _ (by omega)]; exact z10) hF F10 F17 Fk
  generalize hσF : kz (us (us (us (us (us (us σ2 10 1) 13 T) 14 0) 15 0) 16 (w1 + w2)) 17 0) 12 = σF at *
  have F : ∀ j, j ≠ 10 → j ≠ 13 → j ≠ 14 → j ≠ 15 → j ≠ 16 → j ≠ 17 → (j < 68 ∨ 80 ≤ j) → σF j = σ2 j := fun j y1 y2 y3 y4 y5 y6 y7 => by rw [hF j y1 y6 y7, us_ne _ _ y5, us_ne _ _ y4, us_ne _ _ y3, us_ne _ _ y2]
  have F13 : σF 13 = T := by rw [hF 13 (by omega) (by omega) (by omega), us_ne _ _ (by omega), us_ne _ _ (by omega), us_ne _ _ (by omega), us_at]
  have F14 : σF 14 = 0 := by rw [hF 14 (by omega) (by omega) (by omega), us_ne _ _ (by omega), us_ne _ _ (by omega), us_at]
  have z3 : σ2 3 = σ 3 - 1 := by rw [e2 3 (by omega) (by omega), e3]
  have z11 : σ2 11 = a := by rw [e2 11 (by omega) (by omega), e11]
  have z12 : σ2 12 = b := by rw [e2 12 (by omega) (by omega), e12]
  have b4 : σF 4 = σ 4 := (F 4 (by omega) (by omega) (by omega) (by omega) (by omega) (by omega) (by omega)).trans (z 4 (by omega) (by omega) (by omega) (by omega) (by omega))
  have b5 : σF 5 = σ 5 := (F 5 (by omega) (by omega) (by omega) (by omega) (by omega) (by omega) (by omega)).trans (z 5 (by omega) (by omega) (by omega) (by omega) (by omega))
  have b6 : σF 6 = σ 6 := (F 6 (by omega) (by omega) (by omega) (by omega) (by omega) (by omega) (by omega)).trans (z 6 (by omega) (by omega) (by omega) (by omega) (by omega))
  have b7 : σF 7 = σ 7 := (F 7 (by omega) (by omega) (by omega) (by omega) (by omega) (by omega) (by omega)).trans (z 7 (by omega) (by omega) (by omega) (by omega) (by omega))
  have b8 : σF 8 = σ 8 := (F 8 (by omega) (by omega) (by omega) (by omega) (by omega) (by omega) (by omega)).trans (z 8 (by omega) (by omega) (by omega) (by omega) (by omega))
  have b3 : σF 3 = σ 3 - 1 := (F 3 (by omega) (by omega) (by omega) (by omega) (by omega) (by omega) (by omega)).trans z3
  have b9 : σF 9 = T := (F 9 (by omega) (by omega) (by omega) (by omega) (by omega) (by omega) (by omega)).trans t9
  have b11 : σF 11 = a := (F 11 (by omega) (by omega) (by omega) (by omega) (by omega) (by omega) (by omega)).trans z11
  have b12 : σF 12 = b := (F 12 (by omega) (by omega) (by omega) (by omega) (by omega) (by omega) (by omega)).trans z12
  have hb' : σ 184 = b := hb
  rw [hb', ← hT, fin, bnd_some]
  have zF : ∀ j, j ≠ 3 → j ≠ 9 → j ≠ 10 → j ≠ 11 → j ≠ 12 → j ≠ 13 → j ≠ 14 → j ≠ 15 → j ≠ 16 → j ≠ 17 → (j < 68 ∨ (80 ≤ j ∧ j < 164) ∨ 192 ≤ j) → σF j = σ j := fun j x1 x2 x3 x4 x5 x6 x7 x8 x9 x10 x11 => (F j x3 x6 x7 x8 x9 x10 (by omega)).trans (z j x1 x2 x4 x5 (by omega))
  have iF : Iv (n + 1) σF := by
    refine ⟨B2.c (fun j x1 x2 => F j (by omega) (by omega) (by omega) (by omega) (by omega) (by omega) (by omega)), ⟨by omega, by omega, by omega, by omega, by omega, by omega, Or.inr F10, by omega, by omega, by omega, by omega⟩, fun _ => ⟨⟨by omega, by omega, by omega, by omega, by omega, by omega⟩, fun q hq _ => Fk q hq⟩, fun q => by omega, fun g x1 x2 => ?_, ?_⟩
    · rw [F _ (by omega) (by omega) (by omega) (by omega) (by omega) (by omega) (by omega), F _ (by omega) (by omega) (by omega) (by omega) (by omega) (by omega) (by omega), e2 _ (by omega) (by omega), e2 _ (by omega) (by omega)]
      exact eg g x1 (by omega)
    · intro e he
      rw [F17] at he
      exact absurd he (by show ¬ e < 0; omega)
  have h1 : σF 1 = σ 1 := zF 1 (by omega) (by omega) (by omega) (by omega) (by omega) (by omega) (by omega) (by omega) (by omega) (by omega) (by omega)
  have h00 : σF 0 = σ 0 := zF 0 (by omega) (by omega) (by omega) (by omega) (by omega) (by omega) (by omega) (by omega) (by omega) (by omega) (by omega)
  have hl : ∀ j, 80 ≤ j → j < 128 → σF j = σ j := fun j x1 x2 => zF j (by omega) (by omega) (by omega) (by omega) (by omega) (by omega) (by omega) (by omega) (by omega) (by omega) (by omega)
  have ho : ∀ j, 56 ≤ j → j < 68 → σF j = σ j := fun j x1 x2 => zF j (by omega) (by omega) (by omega) (by omega) (by omega) (by omega) (by omega) (by omega) (by omega) (by omega) (by omega)
  have hr : ∀ j, 192 ≤ j → σF j = σ j := fun j x1 => zF j (by omega) (by omega) (by omega) (by omega) (by omega) (by omega) (by omega) (by omega) (by omega) (by omega) (by omega)
  have hw : ∀ g : Nat, (g : Int) < σ 3 - 1 → σF (184 + g) = σ (184 + (g + 1)) := fun g hg => by
    rw [F _ (by omega) (by omega) (by omega) (by omega) (by omega) (by omega) (by omega), e2 _ (by omega) (by omega), ← hσ1, us_ne _ _ (by omega), shf_w _ _ _ _ (by omega) (by omega), if_pos (by omega), us_ne _ _ (by omega), us_ne _ _ (by omega)]
  have hh : heldN σF = 0 := by
    unfold heldN
    rw [h1]
    refine cnt_0 _ (fun p hp => ?_)
    have hp' : (p : Int) < σ 1 := by omega
    have := hI.2.2.2.1 n10 p hp'
    rw [hl _ (by omega) (by omega)]
    simp only [decide_eq_false_iff_not]
    omega
  refine ⟨_, R3, σF, rfl, ⟨k5, p4⟩, iF, ?_, b9, F10, F13, F17, ?_, ?_, b6⟩
  · obtain ⟨⟨⟨j6, j7⟩, ⟨q1, q2⟩, hr', ⟨l1, l2⟩, hgm⟩, hx⟩ := hJ
    refine ⟨⟨⟨by rw [b6]; exact j6, by rw [b7]; exact j7⟩, ⟨fun g hg => ?_, fun g hg => ?_⟩, fun r hrr => ?_, ⟨fun k hk => ?_, fun k hk => ?_⟩, fun _ => ⟨?_, ?_, fun k hk => ?_⟩⟩, fun _ => ⟨by rw [b5, ho _ (by omega) (by omega)]; exact c5, fun q hq => by rw [Fk q hq]; omega⟩⟩
    · rw [b3] at hg
      rw [hw g (by omega), hw (g + 1) (by omega)]
      exact q1 (g + 1) (by omega)
    · rw [b3] at hg
      rw [hw g (by omega)]
      exact q2 (g + 1) (by omega)
    · rw [b4] at hrr
      rw [hr _ (by omega), hr _ (by omega), hr _ (by omega), hr _ (by omega)]
      exact hr' r hrr
    · omega
    · omega
    · rw [hh, b11]; omega
    · rw [b12, F13]; omega
    · omega
  · unfold awy
    rw [h1]
    refine cnt_c _ (fun p hp => ?_)
    rw [hl _ (by omega) (by omega), hl _ (by omega) (by omega)]
  · unfold opn
    rw [h00]
    refine cnt_c _ (fun p hp => ?_)
    rw [ho _ (by omega) (by omega)]
end ND
