section SH
variable {X R Y : Mem} {σ : Nat → Int} {n : Nat}
theorem SReleven (h : SR X R σ) (a : Int) : SR (wr (wr X 4 15 (zI a)) 19 1 (zI a)) (wr R 1 11 (zI a)) (us σ 11 a) ∧ Fr X R (wr (wr X 4 15 (zI a)) 19 1 (zI a)) (wr R 1 11 (zI a)) := by
  obtain ⟨⟨hr, hs, h1, h0, hk1, hk0, hg⟩, hR⟩ := h
  refine ⟨⟨⟨?_, ?_, ?_, ?_, ?_, ?_, ?_⟩, wrR hR 11 a⟩, ⟨fun k hk => by rw [wr_k _ _ _ (by omega), wr_k _ _ _ (by omega)], fun k h1 h2 => wr_k _ _ _ (by omega), by rw [wr_k _ _ _ (by omega)]⟩⟩
  · exact (hr.wr (j := 11) rfl (by omega) a).frame (fun k hk _ => wr_k _ _ _ (by omega)) (fun _ _ _ => rfl)
  · refine hs.frame (fun k hk => by rw [wr_k _ _ _ (by omega), wr_k _ _ _ (by omega)]) (fun i hi => by rw [wr_i _ _ _ (by omega), wr_k _ _ _ (by omega)]) (fun j hj => us_ne _ _ ?_)
    intro q; subst q; exact absurd hj (by decide)
  · rw [us_at]; exact wr_at _ _ _ _
  · rw [us_ne _ _ (by omega), wr_i _ _ _ (by omega), wr_k _ _ _ (by omega)]; exact h0
  · rw [us_ne _ _ (by omega)]
    intro e
    exact (hk1 e).frame (by rw [wr_k _ _ _ (by omega), wr_k _ _ _ (by omega)]) (fun b hb => us_ne _ _ (by omega))
  · rw [us_ne _ _ (by omega)]
    intro e b hb
    rw [wr_k _ _ _ (by omega), wr_k _ _ _ (by omega)]
    exact hk0 e b hb
  · exact hg.frame (by rw [wr_k _ _ _ (by omega), wr_k _ _ _ (by omega)]) (by rw [wr_k _ _ _ (by omega), wr_k _ _ _ (by omega)]) (fun j hj => us_ne _ _ (by omega))
theorem pass_0 {M : Mem} {c : Int} (h : M 3 5 = zI c) (hc : 0 ≤ c ∧ c ≤ 1000000) : fX6_pass 3 M (zI 0) = some M := by
  unfold fX6_pass
  rw [h, zadd, show c + 0 = c by omega, zc60, zdiv (by omega) (by omega) (by omega) (by omega), zsub, thn_eq, thn_eq, show c / 60 - c / 60 = 0 by omega, if_pos (show zI 0 ≤ 0 by decide), wr_id M h]
def kz (ρ : Nat → Int) (i : Nat) : Nat → Int := fun j => if 68 ≤ j ∧ j < 68 + i then 0 else ρ j
theorem kz0 (ρ : Nat → Int) : kz ρ 0 = ρ := by
  funext j
  unfold kz
  rw [if_neg (by omega)]
theorem known0_L {ρ : Nat → Int} : ∀ (d i m : Nat) (R : Mem), R 1 = enc (kz ρ i) → i + d = 12 → d < m → ∃ R', fX8_startGame_L190 m R (zI (i : Int)) = some (zI (ρ 13 - ρ 12), R') ∧ R' 1 = enc (kz ρ 12) ∧ FR R R' := by
  intro d
  induction d with
  | zero =>
    intro i m R hR hi hm
    obtain ⟨m, rfl⟩ := ex_succ hm
    obtain rfl : i = 12 := by omega
    refine ⟨R, ?_, hR, fun _ _ _ => rfl, rfl⟩
    rw [fX8_startGame_L190, if_pos (by decide), rd hR, rd hR, zsub]
    rfl
  | succ d ih =>
    intro i m R hR hi hm
    obtain ⟨m, rfl⟩ := ex_succ hm
    have e : us (kz ρ i) (68 + i) 0 = kz ρ (i + 1) := by
      funext j
      unfold us kz
      by_cases q : j = 68 + i
      · rw [if_pos q, if_pos (by omega)]
      · rw [if_neg q]
        by_cases q2 : 68 ≤ j ∧ j < 68 + i
        · rw [if_pos q2, if_pos (by omega)]
        · rw [if_neg q2, if_neg (by omega)]
    obtain ⟨R', q1, q2, q3⟩ := ih (i + 1) m (wr R 1 (68 + i) (zI 0)) (by rw [wrR hR, e]) (by omega) (by omega)
    refine ⟨R', ?_, q2, fun k h1 h2 => by rw [q3.1 k h1 h2, wr_k _ _ _ (by omega)], by rw [q3.2, wr_k _ _ _ (by omega)]⟩
    rw [fX8_startGame_L190, if_neg (by rw [zc12, zle] <;> omega), if_pos (i68 (by omega)), j68 (by omega), thn_eq, zsuc]
    exact q1
theorem R_begin (hR : R 1 = enc σ) (hB : RB σ) : ∃ R', fX8_startGame_B126 R = some (zI (σ 9 - σ 12), R') ∧ R' 1 = enc (kz (us (us (us (us (us (us σ 10 1) 13 (σ 9)) 14 0) 15 0) 16 (((cnt (fun p => decide (σ (104 + p) ≠ σ (80 + p))) (σ 1).toNat : Nat) : Int) + ((cnt (fun b => decide (1 ≤ b ∧ σ (56 + b) = 1)) (σ 0).toNat : Nat) : Int))) 17 0) 12) ∧ FR R R' := by
  have h1 := wrR hR 10 1
  have h2 := wrR h1 13 (σ 9)
  have h3 := wrR h2 14 0
  have h4 := wrR h3 15 0
  have hB4 : RB (us (us (us (us σ 10 1) 13 (σ 9)) 14 0) 15 0) := hB.c (fun j _ _ => by rw [us_ne _ _ (by omega), us_ne _ _ (by omega), us_ne _ _ (by omega), us_ne _ _ (by omega)])
  have e1 : (fun p => decide (us (us (us (us σ 10 1) 13 (σ 9)) 14 0) 15 0 (104 + p) ≠ us (us (us (us σ 10 1) 13 (σ 9)) 14 0) 15 0 (80 + p))) = (fun p => decide (σ (104 + p) ≠ σ (80 + p))) := by
    funext p
    rw [us_ne _ _ (show 104 + p ≠ 15 by omega), us_ne _ _ (show 104 + p ≠ 14 by omega), us_ne _ _ (show 104 + p ≠ 13 by omega), us_ne _ _ (show 104 + p ≠ 10 by omega), us_ne _ _ (show 80 + p ≠ 15 by omega), us_ne _ _ (show 80 + p ≠ 14 by omega), us_ne _ _ (show 80 + p ≠ 13 by omega), us_ne _ _ (show 80 + p ≠ 10 by omega)]
  have e2 : (fun b => decide (1 ≤ b ∧ us (us (us (us σ 10 1) 13 (σ 9)) 14 0) 15 0 (56 + b) = 1)) = (fun b => decide (1 ≤ b ∧ σ (56 + b) = 1)) := by
    funext p
    rw [us_ne _ _ (show 56 + p ≠ 15 by omega), us_ne _ _ (show 56 + p ≠ 14 by omega), us_ne _ _ (show 56 + p ≠ 13 by omega), us_ne _ _ (show 56 + p ≠ 10 by omega)]
  have n1 := R_notAtHome h4 hB4
  have n2 := R_openOnes h4 hB4
  rw [e1, us_ne _ _ (show 1 ≠ 15 by omega), us_ne _ _ (show 1 ≠ 14 by omega), us_ne _ _ (show 1 ≠ 13 by omega), us_ne _ _ (show 1 ≠ 10 by omega)] at n1
  rw [e2, us_ne _ _ (show 0 ≠ 15 by omega), us_ne _ _ (show 0 ≠ 14 by omega), us_ne _ _ (show 0 ≠ 13 by omega), us_ne _ _ (show 0 ≠ 10 by omega)] at n2
  generalize hs : ((cnt (fun p => decide (σ (104 + p) ≠ σ (80 + p))) (σ 1).toNat : Nat) : Int) = s1 at *
  generalize hs' : ((cnt (fun b => decide (1 ≤ b ∧ σ (56 + b) = 1)) (σ 0).toNat : Nat) : Int) = s2 at *
  have h5 := wrR h4 16 (s1 + s2)
  have h6 := wrR h5 17 0
  have h7 := h6.trans (congrArg enc (kz0 _).symm)
  obtain ⟨R', q1, q2, q3⟩ := known0_L (ρ := us (us (us (us (us (us σ 10 1) 13 (σ 9)) 14 0) 15 0) 16 (s1 + s2)) 17 0) 12 0 5000 _ h7 (by omega) (by omega)
  refine ⟨R', ?_, q2, fun k k1 k2 => by rw [q3.1 k k1 k2, wr_k _ _ _ (by omega), wr_k _ _ _ (by omega), wr_k _ _ _ (by omega), wr_k _ _ _ (by omega), wr_k _ _ _ (by omega), wr_k _ _ _ (by omega)], by rw [q3.2, wr_k _ _ _ (by omega), wr_k _ _ _ (by omega), wr_k _ _ _ (by omega), wr_k _ _ _ (by omega), wr_k _ _ _ (by omega), wr_k _ _ _ (by omega)]⟩
  unfold fX8_startGame_B126
  rw [zc1, zc0, thn_eq, rd h1, us_ne _ _ (show 9 ≠ 10 by omega), thn_eq, thn_eq, thn_eq, n1, bnd_some, n2, bnd_some, zadd, thn_eq, thn_eq]
  rw [show zI 0 = zI ((0 : Nat) : Int) from rfl]
  rw [show (zI ((0 : Nat) : Int)) = zI 0 from rfl] at q1 ⊢
  rw [q1, us_ne _ _ (show 13 ≠ 17 by omega), us_ne _ _ (show 13 ≠ 16 by omega), us_ne _ _ (show 13 ≠ 15 by omega), us_ne _ _ (show 13 ≠ 14 by omega), us_at, us_ne _ _ (show 12 ≠ 17 by omega), us_ne _ _ (show 12 ≠ 16 by omega), us_ne _ _ (show 12 ≠ 15 by omega), us_ne _ _ (show 12 ≠ 14 by omega), us_ne _ _ (show 12 ≠ 13 by omega), us_ne _ _ (show 12 ≠ 10 by omega)]
theorem start_ok (h : SR X R σ) (hI : Iv n σ) (hn : n ≤ 600) : Step (fX7_startGame X) (fX8_startGame R) n X R := by
  have hB := hI.1
  have h0 := hB.1
  have hN := hI.2.1
  unfold fX7_startGame fX8_startGame
  rw [plays h.row hI, bnd_some, running h hI]
  by_cases c2 : σ 10 = 1
  · rw [i1_t c2, it1, it1]
    exact Step.same h hI _ rfl rfl
  rw [i1_f c2, it0, it0, rd h.row 3, rd h.row 5, h.waiting, show X 4 14 = zI (σ 5) from h.ro.ex, h.results, rd h.row 4]
  have n10 := not10 hI c2
  by_cases c3 : σ 3 = 0
  · have c3' : zI (σ 3) = 0 := by rw [c3]; rfl
    rw [if_pos c3', if_pos c3']
    exact Step.same h hI _ rfl rfl
  have c3' : ¬ zI (σ 3) = 0 := by rw [zc0, zeq] <;> omega
  rw [if_neg c3', if_neg c3']
  by_cases c4 : σ 5 = 0
  · have c4' : zI (σ 5) = 0 := by rw [c4]; rfl
    rw [if_pos c4', if_pos c4']
    exact Step.same h hI _ rfl rfl
  have c4' : ¬ zI (σ 5) = 0 := by rw [zc0, zeq] <;> omega
  rw [if_neg c4', if_neg c4', zn_of h0.2.2.2.1.1, X_isOpen h.ro hB (by omega), R_isOpen' h.row hB (by omega), bnd_some]
  by_cases c5 : σ (56 + (σ 5).toNat) = 1
  · rw [i1_t c5, it1, it1]
    exact Step.same h hI _ rfl rfl
  rw [i1_f c5, it0, it0]
  by_cases c6 : σ 4 = 30
  · rw [if_neg (show ¬ zI (σ 4) < 30 by rw [zc30, zlt] <;> omega), if_pos (show zI (σ 4) = 30 by rw [c6]; rfl)]
    exact Step.same h hI _ rfl rfl
  rw [if_pos (show zI (σ 4) < 30 by rw [zc30, zlt] <;> omega), if_neg (show ¬ zI (σ 4) = 30 by rw [zc30, zeq] <;> omega)]
  obtain ⟨g1, g2⟩ := hI.2.2.2.2.1 0 (by omega) (by omega)
  obtain ⟨a, ha⟩ : ∃ a, σ (176 + 0) = a := ⟨_, rfl⟩
  obtain ⟨b, hb⟩ : ∃ b, σ (184 + 0) = b := ⟨_, rfl⟩
  rw [ha] at g1
  rw [hb] at g2
  have hga := SRget h (i := 0) (by omega)
  rw [ha, hb] at hga
  obtain ⟨s1, f1⟩ := SReleven h a
  obtain ⟨s2', f2'⟩ := s1.stat (j := 12) rfl b
  have s2 : SR (wr (wr (wr X 4 15 (zI a)) 19 1 (zI a)) 19 2 (zI b)) (wr (wr R 1 11 (zI a)) 1 12 (zI b)) (us (us σ 11 a) 12 b) := s2'
  have f2 : Fr (wr (wr X 4 15 (zI a)) 19 1 (zI a)) (wr R 1 11 (zI a)) (wr (wr (wr X 4 15 (zI a)) 19 1 (zI a)) 19 2 (zI b)) (wr (wr R 1 11 (zI a)) 1 12 (zI b)) := f2'
  have q3 : us (us σ 11 a) 12 b 3 = σ 3 := by rw [us_ne _ _ (by omega), us_ne _ _ (by omega)]
  obtain ⟨Y1, R1, a1, b1, s3, f3⟩ := remove_ok s2 (by omega) (i := 0) (by omega)
  rw [q3] at s3
  generalize hσ1 : us (shf (σ 3 - 1 - ((0 : Nat) : Int)).toNat 0 (us (us σ 11 a) 12 b)) 3 (σ 3 - 1) = σ1 at *
  have e1 : ∀ j, j ≠ 3 → j ≠ 11 → j ≠ 12 → (j < 176 ∨ 192 ≤ j) → σ1 j = σ j := fun j x1 x2 x3 x4 => by
    rw [← hσ1, us_ne _ _ x1, shf_ne _ _ _ _ (by omega) x4, us_ne _ _ x3, us_ne _ _ x2]
  have e11 : σ1 11 = a := by rw [← hσ1, us_ne _ _ (by omega), shf_ne _ _ _ _ (by omega) (by omega), us_ne _ _ (by omega), us_at]
  have e12 : σ1 12 = b := by rw [← hσ1, us_ne _ _ (by omega), shf_ne _ _ _ _ (by omega) (by omega), us_at]
  have e3 : σ1 3 = σ 3 - 1 := by rw [← hσ1, us_at]
  have e9 : σ1 9 = σ 9 := e1 9 (by omega) (by omega) (by omega) (by omega)
  have eg : ∀ g : Nat, g < 8 → (g : Int) < σ 3 - 1 → (1 ≤ σ1 (176 + g) ∧ σ1 (176 + g) ≤ 6) ∧ (0 ≤ σ1 (184 + g) ∧ σ1 (184 + g) ≤ 100000) := fun g x1 x2 => by
    rw [← hσ1, us_ne _ _ (by omega), us_ne _ _ (by omega)]
    exact shf_g (N := σ 3) _ _ _ (by omega) hN.1.2 (fun q y1 y2 => by rw [us_ne _ _ (by omega), us_ne _ _ (by omega), us_ne _ _ (by omega), us_ne _ _ (by omega)]; exact hI.2.2.2.2.1 q y1 y2) g x1 (by omega)
  have B1 : RB σ1 := (hB.eleven (o := a) (by omega)).c (fun j x1 x2 => by
    by_cases y : j = 11
    · subst y; rw [us_at, e11]
    · rw [us_ne _ _ y, e1 j (by omega) y (by omega) (by omega)])
  -- the class's own memory waits for its players
  have x15 : X 4 15 = zI (σ 11) := h.ro.ha
  have eX2 : wr (wr X 19 1 (zI a)) 19 2 (zI b) = wr (wr (wr (wr X 4 15 (zI a)) 19 1 (zI a)) 19 2 (zI b)) 4 15 (zI (σ 11)) := by
    rw [wr_kc _ _ _ _ _ (show (19 : Nat) ≠ 4 by omega), wr_kc _ _ _ _ _ (show (19 : Nat) ≠ 4 by omega), wr_wr, wr_id _ x15]
  have rX : fX3_remove 16 (wr (wr X 19 1 (zI a)) 19 2 (zI b)) 0 = some (wr Y1 4 15 (zI (σ 11))) := by
    rw [eX2]
    unfold fX3_remove at a1 ⊢
    exact remove_wr 15 (zI (σ 11)) (by omega) _ _ _ _ a1
  have hT : ∃ T, T = max (σ 9) b := ⟨_, rfl⟩
  obtain ⟨T, hT⟩ := hT
  have clk : wr Y1 4 15 (zI (σ 11)) 3 5 = zI (σ 9) := by rw [wr_k _ _ _ (by omega), s3.clock, e9]
  have wnt : wr Y1 4 15 (zI (σ 11)) 19 2 = zI b := by rw [wr_k _ _ _ (by omega), s3.wanted, e12]
  have key : ∃ Y2 R2 σ2, fX6_pass 3 (wr (wr Y1 4 15 (zI (σ 11))) 19 3 (zI T)) (zI (T - σ 9)) = some (wr (wr Y2 4 15 (zI (σ 11))) 19 3 (zI T)) ∧ (if R1 1 12 ≤ R1 1 9 then fX8_startGame_B126 R1 else bnd (fX8_pass R1 (R1 1 12 - R1 1 9)) fun M27 => fX8_startGame_B126 M27) = fX8_startGame_B126 R2 ∧ SR Y2 R2 σ2 ∧ RB σ2 ∧ Fr Y1 R1 Y2 R2 ∧ (∀ j, j < 164 ∨ 176 ≤ j → j ≠ 9 → σ2 j = σ1 j) ∧ σ2 9 = T := by
    rw [rd s3.row, rd s3.row, e12, e9]
    by_cases c : b ≤ σ 9
    · refine ⟨Y1, R1, σ1, ?_, by rw [if_pos (by rw [zle] <;> omega)], s3, B1, Fr.rf _ _, fun _ _ _ => rfl, by omega⟩
      rw [show T - σ 9 = 0 by omega]
      exact pass_0 (c := σ 9) (by rw [wr_k _ _ _ (by omega)]; exact clk) (by omega)
    · obtain ⟨Y2, R2, σ2, p1, p2, p3, p4, p5, p6, p7⟩ := pass_p s3 B1 (by omega) (m := T - σ 9) (by omega) (by omega) (o := σ 11) (by omega) (zI T)
      refine ⟨Y2, R2, σ2, p1, ?_, p3, p4, p5, p6, by omega⟩
      rw [if_neg (by rw [zle] <;> omega), zsub, show b - σ 9 = T - σ 9 by omega, p2, bnd_some]
  obtain ⟨Y2, R2, σ2, p1, p2, s4, B2, f4, e2, t9⟩ := key
  have z : ∀ j, j ≠ 3 → j ≠ 9 → j ≠ 11 → j ≠ 12 → (j < 164 ∨ (192 ≤ j)) → σ2 j = σ j := fun j x1 x2 x3 x4 x5 => by rw [e2 j (by omega) x2, e1 j x1 x3 x4 (by omega)]
  obtain ⟨R3, p3, p4, p5⟩ := R_begin s4.row B2
  have hro : Ro (wr (wr (wr (wr Y2 4 15 (zI (σ 11))) 19 3 (zI T)) 19 4 0) 19 5 0) 4 (us σ2 11 (σ 11)) := (s4.ro.wr (j := 11) rfl (by omega) (σ 11)).frame (fun k hk _ => by rw [wr_k _ _ _ (by omega), wr_k _ _ _ (by omega), wr_k _ _ _ (by omega)]; rfl) (fun _ _ _ => rfl)
  have B3 := B2.eleven (o := σ 11) (by omega)
  have m1 := X_propsAway hro B3
  have m2 := X_openBoxes hro B3
  have u1 : (fun p => decide (us σ2 11 (σ 11) (104 + p) ≠ us σ2 11 (σ 11) (80 + p))) = (fun p => decide (σ2 (104 + p) ≠ σ2 (80 + p))) := by
    funext p
    rw [us_ne _ _ (show 104 + p ≠ 11 by omega), us_ne _ _ (show 80 + p ≠ 11 by omega)]
  have u2 : (fun b => decide (1 ≤ b ∧ us σ2 11 (σ 11) (56 + b) = 1)) = (fun b => decide (1 ≤ b ∧ σ2 (56 + b) = 1)) := by
    funext p
    rw [us_ne _ _ (show 56 + p ≠ 11 by omega)]
  rw [u1, us_ne _ _ (show 1 ≠ 11 by omega)] at m1
  rw [u2, us_ne _ _ (show 0 ≠ 11 by omega)] at m2
  generalize hc1 : ((cnt (fun p => decide (σ2 (104 + p) ≠ σ2 (80 + p))) (σ2 1).toNat : Nat) : Int) = w1 at *
  generalize hc2 : ((cnt (fun b => decide (1 ≤ b ∧ σ2 (56 + b) = 1)) (σ2 0).toNat : Nat) : Int) = w2 at *
  -- the class's side, written out
  have y15 : Y2 4 15 = zI a := by rw [s4.ro.ha, e2 11 (by omega) (by omega), e11]
  have y1 : Y2 19 1 = zI a := by rw [s4.players, e2 11 (by omega) (by omega), e11]
  have y2 : Y2 19 2 = zI b := by rw [s4.wanted, e2 12 (by omega) (by omega), e12]
  have fin : fX6_beginGame 3 X = some (zI (T - b), wr (wr (wr (wr (wr (wr Y2 19 3 (zI T)) 19 4 (zI 0)) 19 5 (zI 0)) 19 6 (zI (w1 + w2))) 19 0 1) 22 0 0) := by
    unfold fX6_beginGame
    rw [show atX X (3 + 14) 8 0 = zI a from hga.1, thn_eq, atX_wr _ _ _ (show 3 + 15 ≠ 3 + 16 by omega), show atX X (3 + 15) 8 0 = zI b from hga.2, thn_eq, show fX3_remove (3 + 13) (wr (wr X (3 + 16) 1 (zI a)) (3 + 16) 2 (zI b)) 0 = some (wr Y1 4 15 (zI (σ 11))) from rX, bnd_some, clk, show wr Y1 4 15 (zI (σ 11)) (3 + 16) 2 = zI b from wnt, zmx (by omega) (by omega) (by omega) (by omega), ← hT, thn_eq, wr_at, wr_k _ _ _ (show 3 ≠ 3 + 16 by omega), clk, zsub, show fX6_pass 3 (wr (wr Y1 4 15 (zI (σ 11))) (3 + 16) 3 (zI T)) (zI (T - σ 9)) = some (wr (wr Y2 4 15 (zI (σ 11))) 19 3 (zI T)) from p1, bnd_some, thn_eq, thn_eq, show fX5_propsAway (3 + 1) (wr (wr (wr (wr Y2 4 15 (zI (σ 11))) 19 3 (zI T)) (3 + 16) 4 0) (3 + 16) 5 0) = some (zI w1) from m1, bnd_some, show fX5_openBoxes (3 + 1) (wr (wr (wr (wr Y2 4 15 (zI (σ 11))) 19 3 (zI T)) (3 + 16) 4 0) (3 + 16) 5 0) = some (zI w2) from m2, bnd_some, zadd, thn_eq, thn_eq, thn_eq, thn_eq]
    have r1 : wr (wr (wr (wr (wr (wr Y2 4 15 (zI (σ 11))) 19 3 (zI T)) 19 4 0) 19 5 0) 19 6 (zI (w1 + w2))) 19 0 1 19 1 = zI a := by
      rw [wr_i _ _ _ (by omega), wr_i _ _ _ (by omega), wr_i _ _ _ (by omega), wr_i _ _ _ (by omega), wr_i _ _ _ (by omega), wr_k _ _ _ (by omega)]
      exact y1
    have eM : wr (wr (wr (wr (wr (wr (wr Y2 4 15 (zI (σ 11))) 19 3 (zI T)) 19 4 0) 19 5 0) 19 6 (zI (w1 + w2))) 19 0 1) 4 15 (zI a) = wr (wr (wr (wr (wr Y2 19 3 (zI T)) 19 4 (zI 0)) 19 5 (zI 0)) 19 6 (zI (w1 + w2))) 19 0 1 := by
      rw [wr_kc _ _ _ _ _ (show (19 : Nat) ≠ 4 by omega), wr_kc _ _ _ _ _ (show (19 : Nat) ≠ 4 by omega), wr_kc _ _ _ _ _ (show (19 : Nat) ≠ 4 by omega), wr_kc _ _ _ _ _ (show (19 : Nat) ≠ 4 by omega), wr_kc _ _ _ _ _ (show (19 : Nat) ≠ 4 by omega), wr_wr, wr_id _ y15]
      rfl
    show some ((wr (wr (wr (wr (wr (wr (wr (wr Y2 4 15 (zI (σ 11))) 19 3 (zI T)) 19 4 0) 19 5 0) 19 6 (zI (w1 + w2))) 19 0 1) 4 15 ((wr (wr (wr (wr (wr (wr Y2 4 15 (zI (σ 11))) 19 3 (zI T)) 19 4 0) 19 5 0) 19 6 (zI (w1 + w2))) 19 0 1) 19 1)) 22 0 0) 19 3 - (wr (wr (wr (wr (wr (wr (wr (wr Y2 4 15 (zI (σ 11))) 19 3 (zI T)) 19 4 0) 19 5 0) 19 6 (zI (w1 + w2))) 19 0 1) 4 15 ((wr (wr (wr (wr (wr (wr Y2 4 15 (zI (σ 11))) 19 3 (zI T)) 19 4 0) 19 5 0) 19 6 (zI (w1 + w2))) 19 0 1) 19 1)) 22 0 0) 19 2, wr (wr (wr (wr (wr (wr (wr (wr Y2 4 15 (zI (σ 11))) 19 3 (zI T)) 19 4 0) 19 5 0) 19 6 (zI (w1 + w2))) 19 0 1) 4 15 ((wr (wr (wr (wr (wr (wr Y2 4 15 (zI (σ 11))) 19 3 (zI T)) 19 4 0) 19 5 0) 19 6 (zI (w1 + w2))) 19 0 1) 19 1)) 22 0 0) = _
    rw [r1, eM]
    have r3 : wr (wr (wr (wr (wr (wr Y2 19 3 (zI T)) 19 4 (zI 0)) 19 5 (zI 0)) 19 6 (zI (w1 + w2))) 19 0 1) 22 0 0 19 3 = zI T := by
      rw [wr_k _ _ _ (by omega), wr_i _ _ _ (by omega), wr_i _ _ _ (by omega), wr_i _ _ _ (by omega), wr_i _ _ _ (by omega), wr_at]
    have r2 : wr (wr (wr (wr (wr (wr Y2 19 3 (zI T)) 19 4 (zI 0)) 19 5 (zI 0)) 19 6 (zI (w1 + w2))) 19 0 1) 22 0 0 19 2 = zI b := by
      rw [wr_k _ _ _ (by omega), wr_i _ _ _ (by omega), wr_i _ _ _ (by omega), wr_i _ _ _ (by omega), wr_i _ _ _ (by omega), wr_i _ _ _ (by omega)]
      exact y2
    rw [r3, r2, zsub]
  have k1 := s4.1.stat (j := 13) rfl T
  have k2 := k1.stat (j := 14) rfl 0
  have k3 := k2.stat (j := 15) rfl 0
  have k4 : St (wr (wr (wr (wr Y2 19 3 (zI T)) 19 4 (zI 0)) 19 5 (zI 0)) 19 6 (zI (w1 + w2))) 3 (us (us (us (us σ2 13 T) 14 0) 15 0) 16 (w1 + w2)) := k3.stat (j := 16) rfl (w1 + w2)
  rw [t9] at p3 p4
  have hF : ∀ j, j ≠ 10 → j ≠ 17 → (j < 68 ∨ 80 ≤ j) → kz (us (us (us (us (us (us σ2 10 1) 13 T) 14 0) 15 0) 16 (w1 + w2)) 17 0) 12 j = us (us (us (us σ2 13 T) 14 0) 15 0) 16 (w1 + w2) j := by
    intro j x1 x2 x3
    unfold kz
    rw [if_neg (by omega), us_ne _ _ x2]
    by_cases q16 : j = 16
    · subst q16; rw [us_at, us_at]
    · rw [us_ne _ _ q16, us_ne _ _ q16]
      by_cases q15 : j = 15
      · subst q15; rw [us_at, us_at]
      · rw [us_ne _ _ q15, us_ne _ _ q15]
        by_cases q14 : j = 14
        · subst q14; rw [us_at, us_at]
        · rw [us_ne _ _ q14, us_ne _ _ q14]
          by_cases q13 : j = 13
          · subst q13; rw [us_at, us_at]
          · rw [us_ne _ _ q13, us_ne _ _ q13, us_ne _ _ x1]
  have F10 : kz (us (us (us (us (us (us σ2 10 1) 13 T) 14 0) 15 0) 16 (w1 + w2)) 17 0) 12 10 = 1 := by
    unfold kz
    rw [if_neg (by omega), us_ne _ _ (by omega), us_ne _ _ (by omega), us_ne _ _ (by omega), us_ne _ _ (by omega), us_ne _ _ (by omega), us_at]
  have F17 : kz (us (us (us (us (us (us σ2 10 1) 13 T) 14 0) 15 0) 16 (w1 + w2)) 17 0) 12 17 = 0 := by
    unfold kz
    rw [if_neg (by omega), us_at]
  have Fk : ∀ b, b < 12 → kz (us (us (us (us (us (us σ2 10 1) 13 T) 14 0) 15 0) 16 (w1 + w2)) 17 0) 12 (68 + b) = 0 := by
    intro b hb
    unfold kz
    rw [if_pos (by omega)]
  have z10 : σ2 10 = 0 := by rw [z 10 (by omega) (by omega) (by omega) (by omega) (by omega)]; exact n10
  have k5 := k4.begin (by rw [us_ne _ _ (by omega), us_ne _ _ (by omega), us_ne _ _ (by omega), us_ne _ _ (by omega)]; exact z10) hF F10 F17 Fk
  generalize hσF : kz (us (us (us (us (us (us σ2 10 1) 13 T) 14 0) 15 0) 16 (w1 + w2)) 17 0) 12 = σF at *
  have F : ∀ j, j ≠ 10 → j ≠ 13 → j ≠ 14 → j ≠ 15 → j ≠ 16 → j ≠ 17 → (j < 68 ∨ 80 ≤ j) → σF j = σ2 j := fun j y1 y2 y3 y4 y5 y6 y7 => by rw [hF j y1 y6 y7, us_ne _ _ y5, us_ne _ _ y4, us_ne _ _ y3, us_ne _ _ y2]
  have F13 : σF 13 = T := by rw [hF 13 (by omega) (by omega) (by omega), us_ne _ _ (by omega), us_ne _ _ (by omega), us_ne _ _ (by omega), us_at]
  have F14 : σF 14 = 0 := by rw [hF 14 (by omega) (by omega) (by omega), us_ne _ _ (by omega), us_ne _ _ (by omega), us_at]
  have z3 : σ2 3 = σ 3 - 1 := by rw [e2 3 (by omega) (by omega), e3]
  have z11 : σ2 11 = a := by rw [e2 11 (by omega) (by omega), e11]
  have z12 : σ2 12 = b := by rw [e2 12 (by omega) (by omega), e12]
  rw [fin, bnd_some, rd h.row 176, show σ 176 = a from ha, thn_eq, wr_i _ _ _ (show 184 ≠ 11 by omega), rd h.row 184, show σ 184 = b from hb, thn_eq, show fX8_removeGroup (wr (wr R 1 11 (zI a)) 1 12 (zI b)) 0 = some R1 from b1, bnd_some, p2, p3, z12]
  refine ⟨_, _, R3, σF, rfl, rfl, ⟨k5, p4⟩, ((((f1.trans f2).trans f3).trans f4).trans ⟨fun k hk => ?_, p5⟩), ?_⟩
  · show (wr (wr (wr (wr (wr (wr Y2 19 3 (zI T)) 19 4 (zI 0)) 19 5 (zI 0)) 19 6 (zI (w1 + w2))) 19 0 1) 22 0 0) k = Y2 k
    rw [wr_k _ _ _ (by omega), wr_k _ _ _ (by omega), wr_k _ _ _ (by omega), wr_k _ _ _ (by omega), wr_k _ _ _ (by omega), wr_k _ _ _ (by omega)]
  · have b4 : σF 4 = σ 4 := (F 4 (by omega) (by omega) (by omega) (by omega) (by omega) (by omega) (by omega)).trans (z 4 (by omega) (by omega) (by omega) (by omega) (by omega))
    have b5 : σF 5 = σ 5 := (F 5 (by omega) (by omega) (by omega) (by omega) (by omega) (by omega) (by omega)).trans (z 5 (by omega) (by omega) (by omega) (by omega) (by omega))
    have b6 : σF 6 = σ 6 := (F 6 (by omega) (by omega) (by omega) (by omega) (by omega) (by omega) (by omega)).trans (z 6 (by omega) (by omega) (by omega) (by omega) (by omega))
    have b7 : σF 7 = σ 7 := (F 7 (by omega) (by omega) (by omega) (by omega) (by omega) (by omega) (by omega)).trans (z 7 (by omega) (by omega) (by omega) (by omega) (by omega))
    have b8 : σF 8 = σ 8 := (F 8 (by omega) (by omega) (by omega) (by omega) (by omega) (by omega) (by omega)).trans (z 8 (by omega) (by omega) (by omega) (by omega) (by omega))
    have b3 : σF 3 = σ 3 - 1 := (F 3 (by omega) (by omega) (by omega) (by omega) (by omega) (by omega) (by omega)).trans z3
    have b9 : σF 9 = T := (F 9 (by omega) (by omega) (by omega) (by omega) (by omega) (by omega) (by omega)).trans t9
    have b11 : σF 11 = a := (F 11 (by omega) (by omega) (by omega) (by omega) (by omega) (by omega) (by omega)).trans z11
    have b12 : σF 12 = b := (F 12 (by omega) (by omega) (by omega) (by omega) (by omega) (by omega) (by omega)).trans z12
    refine ⟨B2.c (fun j x1 x2 => F j (by omega) (by omega) (by omega) (by omega) (by omega) (by omega) (by omega)), ⟨by omega, by omega, by omega, by omega, by omega, by omega, Or.inr F10, by omega, by omega, by omega, by omega⟩, fun _ => ⟨⟨by omega, by omega, by omega, by omega, by omega, by omega⟩, fun q hq _ => Fk q hq⟩, fun q => by omega, fun g x1 x2 => ?_, ?_⟩
    · rw [F _ (by omega) (by omega) (by omega) (by omega) (by omega) (by omega) (by omega), F _ (by omega) (by omega) (by omega) (by omega) (by omega) (by omega) (by omega), e2 _ (by omega) (by omega), e2 _ (by omega) (by omega)]
      exact eg g x1 (by omega)
    · intro e he
      rw [F17] at he
      exact absurd he (by show ¬ e < 0; omega)
end SH
