section PN
theorem held_c {σ σ' : Nat → Int} (h1 : σ' 1 = σ 1) (hb : σ 1 ≤ 24) (h : ∀ p, p < 24 → σ' (104 + p) = σ (104 + p)) : heldN σ' = heldN σ := by
  unfold heldN
  rw [h1]
  exact cnt_c _ (fun i hi => by rw [h i (by omega)])
theorem clo_c {σ σ' : Nat → Int} (h : ∀ b, b < 12 → σ' (56 + b) = σ (56 + b)) : clo σ' = clo σ := cnt_c _ (fun i hi => by rw [h i hi])
theorem un_c {σ σ' : Nat → Int} (h : ∀ b, b < 12 → σ' (68 + b) = σ (68 + b)) : un4 σ' = un4 σ := cnt_c _ (fun i hi => by rw [h (i / 4) (by omega)])
theorem plan_L : ∀ (N n n' : Nat) (M R : Mem) (ρ : Nat → Int) (x1 : Int) (x2 t : Nat), PL M R ρ → (1 ≤ ρ 11 ∧ ρ 11 ≤ 6) → 1 ≤ ρ 5 → (heldN ρ : Int) ≤ ρ 11 → (100 ≤ stp ρ → pot ρ (gB ρ 12 0 (ρ 5).toNat) ≤ t) → 4 * (clo ρ + un4 ρ) + t ≤ N → x2 + N < 1000 → N < n → N + 1 < n' → 0 ≤ x1 ∧ x1 ≤ 200 * x2 → ∃ v M' R', fX5_minutesToExit_L4 66 n M (zI x1) (zI (x2 : Int)) = some (v, M') ∧ fX8_plan_L93 n' R (zI x1) = fX8_plan_L137 5000 R' v 0 ∧ (∀ k, k < 66 → M' k = M k) ∧ (∀ k, 2 ≤ k → R' k = R k) ∧ (∀ i, i ≠ 11 → R' 0 i = R 0 i) := by
  intro N
  induction N with
  | zero =>
    intro n n' M R ρ x1 x2 t h h11 h5 hh hp hN hx hn hn' hx1
    obtain ⟨n, rfl⟩ := ex_succ hn
    obtain ⟨n', rfl⟩ := ex_succ (show 0 < n' by omega)
    have hB := h.2.2.1
    have h0 := hB.1
    have ho : ρ (56 + (ρ 5).toNat) = 1 := by
      rcases bop hB (b := (ρ 5).toNat) (by omega) with q | q
      · have := clo_dn (σ := ρ) (B := (ρ 5).toNat) (by omega) (by omega)
        omega
      · exact q
    refine ⟨zI x1, M, R, ?_, ?_, fun _ _ => rfl, fun _ _ => rfl, fun _ _ => rfl⟩
    · rw [fX5_minutesToExit_L4, if_neg (show ¬ (1000 : Int32) ≤ zI (x2 : Int) by rw [zc1000, zle] <;> omega), show M 66 14 = zI (ρ 5) from h.1.ex, zn_of h0.2.2.2.1.1, X_isOpen h.1 hB (by omega), i1_t ho, it1]
      unfold fX5_minutesToExit_B66
      rw [show M 66 14 = zI (ρ 5) from h.1.ex, zn_of h0.2.2.2.1.1, X_isOpen h.1 hB (by omega), i1_t ho, it1]
    · rw [fX8_plan_L93, if_neg (show ¬ zI x1 < 0 by rw [zc0, zlt] <;> omega), rd h.2.2.2, zn_of h0.2.2.2.1.1, R_isOpen' h.2.2.2 hB (by omega), bnd_some, i1_t ho, it1]
  | succ N ih =>
    intro n n' M R ρ x1 x2 t h h11 h5 hh hp hN hx hn hn' hx1
    obtain ⟨n, rfl⟩ := ex_succ hn
    obtain ⟨n', rfl⟩ := ex_succ (show 0 < n' by omega)
    have hB := h.2.2.1
    have h0 := hB.1
    have eO : fX5_isOpen 66 M (M 66 14) = i1 (ρ (56 + (ρ 5).toNat) = 1) := by
      rw [show M 66 14 = zI (ρ 5) from h.1.ex, zn_of h0.2.2.2.1.1]
      exact X_isOpen h.1 hB (by omega)
    rw [fX5_minutesToExit_L4, if_neg (show ¬ (1000 : Int32) ≤ zI (x2 : Int) by rw [zc1000, zle] <;> omega), eO, fX8_plan_L93, if_neg (show ¬ zI x1 < 0 by rw [zc0, zlt] <;> omega), rd h.2.2.2, zn_of h0.2.2.2.1.1, R_isOpen' h.2.2.2 hB (by omega), bnd_some]
    by_cases ho : ρ (56 + (ρ 5).toNat) = 1
    · refine ⟨zI x1, M, R, ?_, ?_, fun _ _ => rfl, fun _ _ => rfl, fun _ _ => rfl⟩
      · rw [i1_t ho, it1]
        unfold fX5_minutesToExit_B66
        rw [eO, i1_t ho, it1]
      · rw [i1_t ho, it1]
    · obtain ⟨R0, r1, t0, r3⟩ := R_step h.2.2.2 hB h11.1 h5
      rw [i1_f ho, it0, it0, show M 66 14 = zI (ρ 5) from h.1.ex, X_stepFor h.1 h.2.1 hB h5, bnd_some, r1, bnd_some]
      have hP0 : PL M R0 ρ := ⟨h.1, h.2.1, hB, by rw [t0.row (by omega)]; exact h.2.2.2⟩
      have fR0 : ∀ k, 2 ≤ k → R0 k = R k := fun k hk => t0.row (by omega)
      have gR0 : ∀ i, i ≠ 11 → R0 0 i = R 0 i := fun i hi => t0 0 i (by omega)
      rcases r3 with r3 | r3
      · obtain ⟨n', rfl⟩ := ex_succ (show 0 < n' by omega)
        refine ⟨zI (-5), M, R0, by rw [r3, if_pos (by rfl)]; rfl, ?_, fun _ _ => rfl, fR0, gR0⟩
        rw [r3]
        show (if 0 ≤ zI (told (-5)) then _ else fX8_plan_L93 (n' + 1) R0 (-5 : Int32)) = _
        rw [if_neg (by decide), fX8_plan_L93, if_pos (by decide)]
        rfl
      · have hgo : stp ρ = go ρ 12 0 (ρ 5).toNat := rfl
        have hg := go_B hB 12 (ρ 5).toNat 0 (by omega) (by omega) (by rw [← hgo]; exact r3.1)
        have hcl := go_cl hB 12 (ρ 5).toNat 0 (by omega) (by omega) ho (by rw [← hgo]; exact r3.1)
        have hgs := fun σ' hs => go_same (σ := ρ) (σ' := σ') hB hs 12 (ρ 5).toNat 0 (by omega) (by omega) (by rw [← hgo]; exact r3.1)
        have hpt := hp r3.1
        rw [← hgo] at hg
        generalize hBB : gB ρ 12 0 (ρ 5).toNat = B at *
        have hnx := nx_r hB hg.1 hg.2.1
        have hsf : stp ρ = sf ρ B := by omega
        have hcf : cf ρ (ρ (20 + B)).toNat = 0 := by omega
        have a1 := r3.1
        have a2 := r3.2.1
        have r4 := r3.2.2
        have hs100 : 100 ≤ sf ρ B := by omega
        rw [if_neg (show ¬ zI (stp ρ) = -5 by rw [zm5, zeq] <;> omega), X_kind (by omega), zc100, zc1000, zirm (by omega) (by omega) (by omega) (by omega), zdiv (by omega) (by omega) (by omega) (by omega)]
        have ht1 : 0 ≤ told (stp ρ) ∧ told (stp ρ) ≤ 20000 := by unfold told; split <;> omega
        show ∃ v M' R', _ ∧ (if 0 ≤ zI (told (stp ρ)) then (bnd (fX8_planned R0 (zI (told (stp ρ)))) fun q21 => fX8_plan_L93 n' q21.2 (zI x1 + q21.1)) else _) = _ ∧ _
        rw [if_pos (show (0 : Int32) ≤ zI (told (stp ρ)) by rw [zc0, zle] <;> omega)]
        -- one move, then the rest
        have cont : ∀ (M1 R1 : Mem) (ρ1 : Nat → Int) (m : Int) (t1 : Nat), fX5_follow 66 M (zI (stp ρ % 1000 / 100 * 100)) (zI (stp ρ % 100)) (zI (stp ρ / 1000)) = some (zI m, M1) → fX8_planned R0 (zI (told (stp ρ))) = some (zI m, R1) → PL M1 R1 ρ1 → (∀ k, k < 66 → M1 k = M k) → (∀ k, k ≠ 1 → R1 k = R0 k) → 0 ≤ m ∧ m ≤ 200 → ρ1 11 = ρ 11 → ρ1 5 = ρ 5 → (heldN ρ1 : Int) ≤ ρ 11 → (100 ≤ stp ρ1 → pot ρ1 (gB ρ1 12 0 (ρ1 5).toNat) ≤ t1) → 4 * (clo ρ1 + un4 ρ1) + t1 ≤ N → ∃ v M' R', (bnd (fX5_follow 66 M (zI (stp ρ % 1000 / 100 * 100)) (zI (stp ρ % 100)) (zI (stp ρ / 1000))) fun q10 => fX5_minutesToExit_L4 66 n q10.2 (zI x1 + q10.1) (zI (x2 : Int) + 1)) = some (v, M') ∧ (bnd (fX8_planned R0 (zI (told (stp ρ)))) fun q21 => fX8_plan_L93 n' q21.2 (zI x1 + q21.1)) = fX8_plan_L137 5000 R' v 0 ∧ (∀ k, k < 66 → M' k = M k) ∧ (∀ k, 2 ≤ k → R' k = R k) ∧ (∀ i, i ≠ 11 → R' 0 i = R 0 i) := by
          intro M1 R1 ρ1 m t1 c1 c2 c3 c4 c5 c6 c7 c8 c9 c10 c11
          obtain ⟨v, M', R', d1, d2, d3, d4, d5⟩ := ih n n' M1 R1 ρ1 (x1 + m) (x2 + 1) t1 c3 (by omega) (by omega) (by omega) c10 c11 (by omega) (by omega) (by omega) (by omega)
          refine ⟨v, M', R', ?_, ?_, fun k hk => by rw [d3 k hk, c4 k hk], fun k hk => by rw [d4 k hk, c5 k (by omega), fR0 k hk], fun i hi => by rw [d5 i hi, c5 0 (by omega), gR0 i hi]⟩
          · rw [c1, bnd_some]
            show fX5_minutesToExit_L4 66 n M1 (zI x1 + zI m) (zI (x2 : Int) + 1) = _
            rw [zadd, zsuc]
            exact d1
          · rw [c2, bnd_some]
            show fX8_plan_L93 n' R1 (zI x1 + zI m) = _
            rw [zadd]
            exact d2
        have hB12 : B < 12 := by omega
        have hm3 := am_b 3 (ρ 11) (by omega) (by omega)
        by_cases hs : ρ (32 + B) = 2 ∨ sat ρ B
        · rcases fin_code hB hg.1 hg.2.1 hs hs100 with e | ⟨c, k, c1, e, c2, c3, c4, c5, c6⟩ | ⟨k, k1, e, k2⟩
          · obtain ⟨M1, R1, m1, m2, m3, m4, m5⟩ := mv_open hP0 hg.2.1 hg.1 (zI (stp ρ / 1000))
            have hm := am_b 4 (ρ 11) (by omega) (by omega)
            have hd := clo_dn (σ := ρ) hB12 hcl
            have hu : un4 (us ρ (56 + B) 1) = un4 ρ := un_c (fun b hb => us_ne _ _ (by omega))
            refine cont M1 R1 _ (am 4 (ρ 11)) 3 ?_ ?_ m3 m4 m5 (by omega) (us_ne _ _ (by omega)) (us_ne _ _ (by omega)) ?_ (fun _ => pot_le _ _) (by omega)
            · rw [show stp ρ % 1000 / 100 * 100 = 300 by omega, show stp ρ % 100 = (B : Int) by omega]
              exact m1
            · rw [show told (stp ρ) = 300 + (B : Int) by unfold told; rw [if_neg (by omega)]; omega]
              exact m2
            · rw [held_c (σ := ρ) (us_ne _ _ (by omega)) (by omega) (fun p hp => us_ne _ _ (by omega))]
              exact hh
          · obtain ⟨M1, R1, m1, m2, m3, m4, m5⟩ := mv_clue hP0 c1 c5 (zI (stp ρ / 1000))
            rw [show (ρ (140 + c)).toNat = B by omega, c3] at m3
            have hd := un_dn (σ := ρ) hB12 c4 c6
            generalize hV : (zI (ρ (68 + B)) ||| ((1 : Int32) <<< (zI (k : Int) &&& 31))).toInt = V at *
            have hu : un4 (us (us ρ (68 + B) V) (164 + c) (ρ (164 + c) - 1)) = un4 (us ρ (68 + B) V) := un_c (fun b hb => us_ne _ _ (by omega))
            have hk : clo (us (us ρ (68 + B) V) (164 + c) (ρ (164 + c) - 1)) = clo ρ := clo_c (fun b hb => by rw [us_ne _ _ (by omega), us_ne _ _ (by omega)])
            have hm : 0 ≤ rmin ρ c ∧ rmin ρ c ≤ 200 := by unfold rmin; split <;> omega
            refine cont M1 R1 _ (rmin ρ c) 3 ?_ ?_ m3 m4 m5 hm (by rw [us_ne _ _ (by omega), us_ne _ _ (by omega)]) (by rw [us_ne _ _ (by omega), us_ne _ _ (by omega)]) ?_ (fun _ => pot_le _ _) (by omega)
            · rw [show stp ρ % 1000 / 100 * 100 = 400 by omega, show stp ρ % 100 = (c : Int) by omega]
              exact m1
            · rw [show told (stp ρ) = 400 + (c : Int) by unfold told; rw [if_neg (by omega)]; omega]
              exact m2
            · rw [held_c (σ := ρ) (by rw [us_ne _ _ (by omega), us_ne _ _ (by omega)]) (by omega) (fun p hp => by rw [us_ne _ _ (by omega), us_ne _ _ (by omega)])]
              exact hh
          · obtain ⟨M1, R1, m1, m2, m3, m4, m5⟩ := mv_known hP0 (b := B) (k := k) hB12 k1 (by rw [r4 (by omega)]; congr 1; omega)
            have hd := un_dn (σ := ρ) hB12 k1 k2
            generalize hV : (zI (ρ (68 + B)) ||| ((1 : Int32) <<< (zI (k : Int) &&& 31))).toInt = V at *
            have hk : clo (us ρ (68 + B) V) = clo ρ := clo_c (fun b hb => us_ne _ _ (by omega))
            refine cont M1 R1 _ 2 3 ?_ ?_ m3 m4 m5 (by omega) (us_ne _ _ (by omega)) (us_ne _ _ (by omega)) ?_ (fun _ => pot_le _ _) (by omega)
            · rw [show stp ρ % 1000 / 100 * 100 = 500 by omega, show stp ρ % 100 = (k : Int) by omega, show stp ρ / 1000 = (B : Int) by omega]
              exact m1
            · rw [show told (stp ρ) = 500 + (k : Int) by unfold told; rw [if_pos (by omega)]; omega]
              exact m2
            · rw [held_c (σ := ρ) (us_ne _ _ (by omega)) (by omega) (fun p hp => us_ne _ _ (by omega))]
              exact hh
        · obtain ⟨q, v, hv, y1, y2, y3, y4⟩ := mv_prop hB h11 hh hg.1 hg.2.1 hcf hs100 hs
          have hq := hv.1
          have hsm := hgs (us ρ (104 + q) v) (fun c d1 d2 d3 => (nx_us hB hv d1 d2).1 d3) (by rw [(nx_us hB hv hg.1 hg.2.1).2 (by omega)]; exact y3)
          have hu : un4 (us ρ (104 + q) v) = un4 ρ := un_c (fun b hb => us_ne _ _ (by omega))
          have hk : clo (us ρ (104 + q) v) = clo ρ := clo_c (fun b hb => us_ne _ _ (by omega))
          have e5 : us ρ (104 + q) v 5 = ρ 5 := us_ne _ _ (by omega)
          rcases y4 with ⟨rfl, e⟩ | ⟨v0, e⟩
          · obtain ⟨M1, R1, m1, m2, m3, m4, m5⟩ := mv_take hP0 hq (zI (stp ρ / 1000))
            refine cont M1 R1 _ (am 3 (ρ 11)) (t - 1) ?_ ?_ m3 m4 m5 (by omega) (us_ne _ _ (by omega)) e5 y1 (fun _ => by rw [e5, hsm.2]; omega) (by omega)
            · rw [show stp ρ % 1000 / 100 * 100 = 100 by omega, show stp ρ % 100 = (q : Int) by omega]
              exact m1
            · rw [show told (stp ρ) = 100 + (q : Int) by unfold told; rw [if_neg (by omega)]; omega]
              exact m2
          · obtain ⟨M1, R1, m1, m2, m3, m4, m5⟩ := mv_lay hP0 hq (o := v) ⟨v0, hv.2.1.2⟩
            have hm := am_b 2 (ρ 11) (by omega) (by omega)
            have hv2 := hv.2.1.2
            refine cont M1 R1 _ (am 2 (ρ 11)) (t - 1) ?_ ?_ m3 m4 m5 (by omega) (us_ne _ _ (by omega)) e5 y1 (fun _ => by rw [e5, hsm.2]; omega) (by omega)
            · rw [show stp ρ % 1000 / 100 * 100 = 200 by omega, show stp ρ % 100 = (q : Int) by omega, show stp ρ / 1000 = v by omega]
              exact m1
            · rw [show told (stp ρ) = 200 + (q : Int) + 1000 * v by unfold told; rw [if_neg (by omega)]; omega]
              exact m2
end PN
