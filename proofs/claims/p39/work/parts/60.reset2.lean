section RT
variable {X R : Mem} {σ : Nat → Int} {n : Nat}
theorem home_L (x1 : Int32) : ∀ (d i m m' : Nat) (X R : Mem) (σ : Nat → Int), SR X R σ → RB σ → (i : Int) + d = σ 1 → d < m → d < m' → ∃ X' R' σ', fX5_bringPropsHome_L2 4 m X (zI (i : Int)) = some X' ∧ fX8_reset_L24 m' R x1 (zI (i : Int)) = fX8_reset_L60 5000 R' x1 1 ∧ SR X' R' σ' ∧ Fr X R X' R' ∧ RB σ' ∧ (∀ j, j < 104 + i ∨ 128 ≤ j → σ' j = σ j) ∧ (∀ p : Nat, i ≤ p → (p : Int) < σ 1 → σ' (104 + p) = σ (80 + p)) := by
  intro d
  induction d with
  | zero =>
    intro i m m' X R σ h hB hi hm hm'
    have h0 := hB.1
    obtain ⟨m, rfl⟩ := ex_succ hm
    obtain ⟨m', rfl⟩ := ex_succ hm'
    exact ⟨X, R, σ, by rw [fX5_bringPropsHome_L2, if_pos (show X 4 6 ≤ zI (i : Int) by rw [show X 4 6 = zI (σ 1) from h.ro.np, zle] <;> omega)], by rw [fX8_reset_L24, if_pos (show R 1 1 ≤ zI (i : Int) by rw [rd h.row, zle] <;> omega)], h, Fr.rf _ _, hB, fun _ _ => rfl, fun p h1 h2 => by omega⟩
  | succ d ih =>
    intro i m m' X R σ h hB hi hm hm'
    have h0 := hB.1
    obtain ⟨m, rfl⟩ := ex_succ hm
    obtain ⟨m', rfl⟩ := ex_succ hm'
    have hp := pr hB (p := i) (by omega)
    obtain ⟨s1, f1⟩ := SRput h (loc_104 i (by omega)) (m := 24) (by omega) (by omega) (by omega) (by omega) (σ (80 + i))
    obtain ⟨X', R', σ', q1, q2, q3, q4, q5, q6, q7⟩ := ih (i + 1) m m' _ _ _ s1 (hB.lies (p := i) (v := σ (80 + i)) (by omega) (by omega)) (by rw [us_ne _ _ (by omega)]; omega) (by omega) (by omega)
    refine ⟨X', R', σ', ?_, ?_, q3, f1.trans q4, q5, fun j hj => ?_, fun p h1 h2 => ?_⟩
    · rw [fX5_bringPropsHome_L2, if_neg (show ¬ X 4 6 ≤ zI (i : Int) by rw [show X 4 6 = zI (σ 1) from h.ro.np, zle] <;> omega), h.ro.home (by omega), thn_eq, zsuc]
      exact q1
    · rw [fX8_reset_L24, if_neg (show ¬ R 1 1 ≤ zI (i : Int) by rw [rd h.row, zle] <;> omega), if_pos (i80 (by omega)), if_pos (i104 (by omega)), j80 (by omega), j104 (by omega), rd h.row, thn_eq, zsuc]
      exact q2
    · rw [q6 j (by omega), us_ne _ _ (by omega)]
    · by_cases c : p = i
      · subst c
        rw [q6 _ (by omega), us_at]
      · rw [q7 p (by omega) (by rw [us_ne _ _ (by omega)]; exact h2), us_ne _ _ (by omega)]
theorem close_L (x1 : Int32) : ∀ (d i m m' : Nat) (X R : Mem) (σ : Nat → Int), SR X R σ → RB σ → 1 ≤ i → (i : Int) + d = σ 0 → d < m → d < m' → ∃ X' R' σ', fX5_closeBoxes_L2 4 m X (zI (i : Int)) = some X' ∧ fX8_reset_L60 m' R x1 (zI (i : Int)) = (bnd (fX8_written R' (0 : Int32) (1 : Int32)) fun q9 => bnd (fX8_pass q9.2 x1) fun M11 => some (x1, M11)) ∧ SR X' R' σ' ∧ Fr X R X' R' ∧ RB σ' ∧ (∀ j, j < 56 ∨ 68 ≤ j → σ' j = σ j) := by
  intro d
  induction d with
  | zero =>
    intro i m m' X R σ h hB h1 hi hm hm'
    have h0 := hB.1
    obtain ⟨m, rfl⟩ := ex_succ hm
    obtain ⟨m', rfl⟩ := ex_succ hm'
    exact ⟨X, R, σ, by rw [fX5_closeBoxes_L2, if_pos (show X 4 0 ≤ zI (i : Int) by rw [h.ro.nb, zle] <;> omega)], by rw [fX8_reset_L60, if_pos (show R 1 0 ≤ zI (i : Int) by rw [rd h.row, zle] <;> omega)], h, Fr.rf _ _, hB, fun _ _ => rfl⟩
  | succ d ih =>
    intro i m m' X R σ h hB h1 hi hm hm'
    have h0 := hB.1
    obtain ⟨m, rfl⟩ := ex_succ hm
    obtain ⟨m', rfl⟩ := ex_succ hm'
    obtain ⟨s1, f1⟩ := SRput h (loc_56 i (by omega)) (m := 12) (by omega) (by omega) (by omega) (by omega) 0
    obtain ⟨X', R', σ', q1, q2, q3, q4, q5, q6⟩ := ih (i + 1) m m' _ _ _ s1 (hB.opn (b := i) (by omega) (Or.inl rfl) (fun q => by omega)) (by omega) (by rw [us_ne _ _ (by omega)]; omega) (by omega) (by omega)
    refine ⟨X', R', σ', ?_, ?_, q3, f1.trans q4, q5, fun j hj => ?_⟩
    · rw [fX5_closeBoxes_L2, if_neg (show ¬ X 4 0 ≤ zI (i : Int) by rw [h.ro.nb, zle] <;> omega), thn_eq, zsuc]
      exact q1
    · rw [fX8_reset_L60, if_neg (show ¬ R 1 0 ≤ zI (i : Int) by rw [rd h.row, zle] <;> omega), if_pos (i56 (by omega)), j56 (by omega), thn_eq, zsuc]
      exact q2
    · rw [q6 j hj, us_ne _ _ (by omega)]
theorem fl_ne : ∀ (d i : Nat) (τ : Nat → Int) (j : Nat), j ≠ 8 → j < 164 ∨ 176 ≤ j → i + d ≤ 12 → fl d i τ j = τ j := by
  intro d
  induction d with
  | zero => intro i τ j _ _ _; rfl
  | succ d ih =>
    intro i τ j h1 h2 h3
    unfold fl
    split
    · rw [ih _ _ _ h1 h2 (by omega), us_ne _ _ (by omega), us_ne _ _ h1]
    · exact ih _ _ _ h1 h2 (by omega)
theorem fl_B : ∀ (d i : Nat) (τ : Nat → Int), RB τ → (i : Int) + d ≤ τ 2 → 0 ≤ τ 8 → RB (fl d i τ) ∧ 0 ≤ fl d i τ 8 ∧ fl d i τ 8 ≤ τ 8 := by
  intro d
  induction d with
  | zero => intro i τ hB _ h8; exact ⟨hB, h8, by unfold fl; omega⟩
  | succ d ih =>
    intro i τ hB hi h8
    have h0 := hB.1
    have hc := cl hB (c := i) (by omega)
    unfold fl
    split
    · have := ih (i + 1) (us (us τ 8 (τ 8 - (9 - τ (164 + i)))) (164 + i) 9) ((hB.c (σ' := us τ 8 (τ 8 - (9 - τ (164 + i)))) (fun j _ _ => us_ne _ _ (by omega))).ink (by omega) (by omega)) (by rw [us_ne _ _ (by omega), us_ne _ _ (by omega)]; omega) (by rw [us_ne _ _ (by omega), us_at]; omega)
      rw [us_ne _ _ (show 8 ≠ 164 + i by omega), us_at] at this
      exact ⟨this.1, this.2.1, by omega⟩
    · exact ih (i + 1) τ hB (by omega) h8
theorem X_fill_L {K : Int32} : ∀ (d i m : Nat) (X : Mem) (τ : Nat → Int), St X 3 τ → RB τ → 0 ≤ τ 8 → (i : Int) + d = τ 2 → d < m → (∀ j, i ≤ j → j < 12 → bt K j = ck τ d i (τ 8) j) → ∃ X', fX6_bringToOrder_L21 3 m X K (zI (i : Int)) = some X' ∧ St X' 3 (fl d i τ) ∧ FX X X' := by
  intro d
  induction d with
  | zero =>
    intro i m X τ h hB h8 hi hm hk
    have h0 := hB.1
    obtain ⟨m, rfl⟩ := ex_succ hm
    exact ⟨X, by rw [fX6_bringToOrder_L21, if_pos (show X (3 + 1) 9 ≤ zI (i : Int) by rw [h.sr.ro.nc, zle] <;> omega)], h, fun _ _ => rfl⟩
  | succ d ih =>
    intro i m X τ h hB h8 hi hm hk
    have h0 := hB.1
    have hc := cl hB (c := i) (by omega)
    obtain ⟨m, rfl⟩ := ex_succ hm
    have hki := hk i (by omega) (by omega)
    have ht := bt_tst (x := K) (b := i) (by omega)
    rw [fX6_bringToOrder_L21, if_neg (show ¬ X (3 + 1) 9 ≤ zI (i : Int) by rw [h.sr.ro.nc, zle] <;> omega), zsuc]
    unfold fl
    unfold ck at hk hki
    by_cases c : τ (164 + i) ≤ 3 ∧ 9 - τ (164 + i) ≤ τ 8
    · rw [if_pos c] at hk hki ⊢
      rw [if_pos (by rw [ht, hki]; simp)]
      have s1 := h.stat (j := 8) rfl (τ 8 - (9 - τ (164 + i)))
      obtain ⟨s2, f2⟩ := SRput s1.sr (loc_164 i (by omega)) (m := 12) (by omega) (by omega) (by omega) (by omega) 9
      have e8 : us (us τ 8 (τ 8 - (9 - τ (164 + i)))) (164 + i) 9 8 = τ 8 - (9 - τ (164 + i)) := by rw [us_ne _ _ (by omega), us_at]
      obtain ⟨X', q1, q2, q3⟩ := ih (i + 1) m _ _ s2.1 ((hB.c (σ' := us τ 8 (τ 8 - (9 - τ (164 + i)))) (fun j _ _ => us_ne _ _ (by omega))).ink (by omega) (by omega)) (by rw [e8]; omega) (by rw [us_ne _ _ (by omega), us_ne _ _ (by omega)]; omega) (by omega) (fun j h1 h2 => by
        rw [hk j (by omega) h2, decide_eq_false (by omega), Bool.false_or, e8]
        exact (congrFun (ck_c d (i + 1) _ (fun q a b => by rw [us_ne _ _ (by omega), us_ne _ _ (by omega)])) j).symm)
      refine ⟨X', ?_, q2, fun k hk => (q3 k hk).trans ((f2.1 k hk).trans (wr_k X _ _ (show k ≠ 3 by omega)))⟩
      have eX : fX6_refill 3 X (zI (i : Int)) = some (putX (wr X (3 + sk 8) (si 8) (zI (τ 8 - (9 - τ (164 + i))))) (4 + 11) 12 (zI (i : Int)) (zI 9)) := by
        unfold fX6_refill
        rw [show fX5_inkLack (3 + 1) X (zI (i : Int)) = zI (9 - τ (164 + i)) from X_lack h.sr hB (by omega), h.sr.paint, zsub, thn_eq, thn_eq]
        rfl
      rw [eX, bnd_some]
      exact q1
    · rw [if_neg c] at hk hki ⊢
      have hf : ck τ d (i + 1) (τ 8) i = false := by
        rcases hq : ck τ d (i + 1) (τ 8) i with _ | _
        · rfl
        · have := ck_r τ _ _ _ _ hq; omega
      rw [if_neg (by rw [ht, hki, hf]; simp)]
      exact ih (i + 1) m X τ h hB h8 (by omega) (by omega) (fun j h1 h2 => hk j (by omega) h2)
theorem R_fill_L : ∀ (d i m : Nat) (R : Mem) (τ : Nat → Int) (x3 x4 : Int), R 1 = enc (us τ 8 (τ 8 + x4)) → RB τ → 0 ≤ τ 8 ∧ τ 8 ≤ 1000000 → (i : Int) + d = τ 2 → d < m → ∃ v R', fX8_written_L8 m R 0 1 (zI x3) (zI x4) (zI (i : Int)) = some (v, R') ∧ R' 1 = enc (fl d i τ) ∧ FR R R' := by
  intro d
  induction d with
  | zero =>
    intro i m R τ x3 x4 hR hB h8 hi hm
    have h0 := hB.1
    obtain ⟨m, rfl⟩ := ex_succ hm
    refine ⟨zI x3, wr R 1 8 (zI (τ 8)), ?_, ?_, fun k h1 h2 => wr_k _ _ _ (by omega), by rw [wr_k _ _ _ (by omega)]⟩
    · rw [fX8_written_L8, if_pos (show R 1 2 ≤ zI (i : Int) by rw [rd hR, us_ne _ _ (by omega), zle] <;> omega), it1, rd hR, us_at, zsub, thn_eq, show τ 8 + x4 - x4 = τ 8 by omega]
      unfold fX8_written_B123
      rw [if_pos rfl]
    · rw [wrR hR 8 (τ 8)]
      congr 1
      funext j
      by_cases c : j = 8
      · subst c; rw [us_at]; rfl
      · rw [us_ne _ _ c, us_ne _ _ c]; rfl
  | succ d ih =>
    intro i m R τ x3 x4 hR hB h8 hi hm
    have h0 := hB.1
    have hc := cl hB (c := i) (by omega)
    obtain ⟨m, rfl⟩ := ex_succ hm
    rw [fX8_written_L8, if_neg (show ¬ R 1 2 ≤ zI (i : Int) by rw [rd hR, us_ne _ _ (by omega), zle] <;> omega), if_pos (i164 (by omega)), j164 (by omega), rd hR (164 + i), us_ne _ _ (by omega), zc9, zsub, thn_eq, rd hR 8, us_at, zsub, zsuc, zc5, show τ 8 + x4 - x4 = τ 8 by omega]
    unfold fl
    by_cases c1 : τ (164 + i) ≤ 3
    · rw [if_neg (show ¬ zI (9 - τ (164 + i)) ≤ zI 5 by rw [zle] <;> omega)]
      by_cases c2 : 9 - τ (164 + i) ≤ τ 8
      · rw [if_neg (show ¬ zI (τ 8) < zI (9 - τ (164 + i)) by rw [zlt] <;> omega), it1, if_pos (i164 (by omega)), thn_eq, if_pos ⟨c1, c2⟩, zc1, zadd, zadd]
        have e8 : us (us τ 8 (τ 8 - (9 - τ (164 + i)))) (164 + i) 9 8 = τ 8 - (9 - τ (164 + i)) := by rw [us_ne _ _ (by omega), us_at]
        obtain ⟨v, R', q1, q2, q3⟩ := ih (i + 1) m (wr R 1 (164 + i) (zI 9)) (us (us τ 8 (τ 8 - (9 - τ (164 + i)))) (164 + i) 9) (x3 + 1) (x4 + (9 - τ (164 + i))) (by
          rw [wrR hR (164 + i) 9, e8]
          congr 1
          funext j
          by_cases q : j = 8
          · subst q
            rw [us_ne _ _ (by omega), us_at, us_at]; omega
          · rw [us_ne _ _ q]
            by_cases q' : j = 164 + i
            · subst q'; rw [us_at, us_at]
            · rw [us_ne _ _ q', us_ne _ _ q', us_ne _ _ q, us_ne _ _ q]) ((hB.c (σ' := us τ 8 (τ 8 - (9 - τ (164 + i)))) (fun j _ _ => us_ne _ _ (by omega))).ink (by omega) (by omega)) (by rw [e8]; omega) (by rw [us_ne _ _ (by omega), us_ne _ _ (by omega)]; omega) (by omega)
        exact ⟨v, R', q1, q2, fun k h1 h2 => by rw [q3.1 k h1 h2, wr_k _ _ _ (by omega)], by rw [q3.2, wr_k _ _ _ (by omega)]⟩
      · rw [if_pos (show zI (τ 8) < zI (9 - τ (164 + i)) by rw [zlt] <;> omega), if_neg (show ¬ (τ (164 + i) ≤ 3 ∧ 9 - τ (164 + i) ≤ τ 8) by omega)]
        exact ih (i + 1) m R τ x3 x4 hR hB h8 (by omega) (by omega)
    · rw [if_pos (show zI (9 - τ (164 + i)) ≤ zI 5 by rw [zle] <;> omega), if_neg (show ¬ (τ (164 + i) ≤ 3 ∧ 9 - τ (164 + i) ≤ τ 8) by omega)]
      exact ih (i + 1) m R τ x3 x4 hR hB h8 (by omega) (by omega)
theorem reset_ok (h : SR X R σ) (hI : Iv n σ) (hn : n ≤ 600) : Step (fX7_reset X) (fX8_reset R) n X R := by
  have hB := hI.1
  have h0 := hB.1
  have hN := hI.2.1
  unfold fX7_reset fX8_reset
  rw [plays h.row hI, bnd_some, running h hI]
  by_cases c2 : σ 10 = 1
  · rw [i1_t c2, it1, it1]
    exact Step.same h hI _ rfl rfl
  · have hr := rmm_b hB
    rw [i1_f c2, it0, it0, X_resetMinutes h hB (by omega), bnd_some, R_resetMinutes h.row hB (by omega), bnd_some]
    show Step _ (if zI (rmm σ) = 0 then some (-5, R) else fX8_reset_L24 5000 R (zI (rmm σ)) 0) n X R
    by_cases c3 : rmm σ = 0
    · have c3' : zI (rmm σ) = 0 := by rw [c3]; rfl
      rw [if_pos c3', if_pos c3']
      exact Step.same h hI _ rfl rfl
    · have c3' : ¬ zI (rmm σ) = 0 := by rw [zc0, zeq] <;> omega
      rw [if_neg c3', if_neg c3']
      obtain ⟨K, k1, k2, k3⟩ := X_mask h hB (by omega)
      obtain ⟨X1, R1, σ1, a1, b1, s1, f1, B1, e1, l1⟩ := home_L (zI (rmm σ)) (σ 1).toNat 0 5000 5000 X R σ h hB (by omega) (by omega) (by omega)
      have t0 : σ1 0 = σ 0 := e1 0 (by omega)
      have g0 := B1.1
      obtain ⟨X2, R2, σ2, a2, b2, s2, f2, B2, e2⟩ := close_L (zI (rmm σ)) (σ 0 - 1).toNat 1 5000 5000 X1 R1 σ1 s1 B1 (by omega) (by omega) (by omega) (by omega)
      have e12 : ∀ j, j < 56 ∨ (68 ≤ j ∧ j < 104) ∨ 128 ≤ j → σ2 j = σ j := fun j hj => by rw [e2 j (by omega), e1 j (by omega)]
      have t2 : σ2 2 = σ 2 := e12 2 (by omega)
      have t8 : σ2 8 = σ 8 := e12 8 (by omega)
      obtain ⟨X3, a3, s3, f3⟩ := X_fill_L (K := K) (σ 2).toNat 0 5000 X2 σ2 s2.1 B2 (by omega) (by omega) (by omega) (fun j _ hj => by
        rw [k2 j (by omega), t8]
        exact (congrFun (ck_c _ _ _ (fun q _ _ => e12 _ (by omega))) j).symm)
      obtain ⟨v, R3, b3, r3, g3⟩ := R_fill_L (σ 2).toNat 0 5000 R2 σ2 0 0 (by
        rw [s2.row]
        congr 1
        funext j
        by_cases q : j = 8
        · subst q; rw [us_at]; omega
        · rw [us_ne _ _ q]) B2 (by omega) (by omega) (by omega)
      have hfb := fl_B (σ 2).toNat 0 σ2 B2 (by omega) (by omega)
      have hfn := fl_ne (σ 2).toNat 0 σ2
      obtain ⟨X4, R4, σ4, a4, b4, s4, B4, f4, I4, e4, t4⟩ := tidy (σ2 := fl (σ 2).toNat 0 σ2) hI hn (not10 hI c2) (⟨s3, r3⟩ : SR X3 R3 _) ((f1.trans f2).trans ⟨f3, g3⟩) hfb.1 (fun j hj q => by rw [hfn j q (by omega) (by omega), e12 j (by omega)]) (by omega) (fun p hp => by
        rw [hfn _ (by omega) (by omega) (by omega), e2 _ (by omega), l1 p (by omega) hp]
        exact (pr hB hp).1.1) (m := rmm σ) (by omega)
      have eX : fX6_bringToOrder 3 X = some X3 := by
        unfold fX6_bringToOrder
        rw [k1, bnd_some, show fX5_bringPropsHome (3 + 1) X = some X1 from a1, bnd_some, show fX5_closeBoxes (3 + 1) X1 = some X2 from a2, bnd_some]
        exact a3
      rw [eX, bnd_some, a4, bnd_some, show (0 : Int32) = zI ((0 : Nat) : Int) from rfl, b1, show (1 : Int32) = zI ((1 : Nat) : Int) from rfl, b2, show fX8_written R2 (0 : Int32) (1 : Int32) = some (v, R3) from b3, bnd_some, b4, bnd_some]
      exact ⟨_, X4, R4, σ4, rfl, rfl, s4, f4, I4⟩
end RT
