section AX
variable {X R : Mem} {σ : Nat → Int} {n : Nat}
theorem Rel.mk' {X' R' : Mem} {σ' : Nat → Int} (hT : Txt X R) (h0 : Snp n X R 0) (h1 : Snp n X R 1) (hS : SR X' R' σ') (hI : Iv (n + 1) σ') (hX : ∀ k, k = 0 ∨ k = 2 ∨ (24 ≤ k ∧ k < 66) → X' k = X k) (hX1 : X' 1 1 = X 1 1) (hR : ∀ k, 3 ≤ k → k ≤ 5 → R' k = R k) (hR0 : R' 0 4 = R 0 4) : Rel (n + 1) X' R' := by
  refine ⟨σ', hS, hI, ?_, h0.fr (by omega) (by omega) (fun k hk => hX k (by omega)) ⟨hR 3 (by omega) (by omega), hR 4 (by omega) (by omega)⟩, h1.fr (by omega) (by omega) (fun k hk => hX k (by omega)) ⟨hR 3 (by omega) (by omega), hR 4 (by omega) (by omega)⟩⟩
  obtain ⟨m, a, b, c, d⟩ := hT
  exact ⟨m, a, by rw [hX1]; exact b, by rw [hR0]; exact c, fun i hi => by rw [hX 2 (by omega), hR 5 (by omega) (by omega)]; exact d i hi⟩
/-- a lock and what it asks for -/
theorem SRlock (h : SR X R σ) {b : Nat} (hb : b < 12) {k v : Int} {iv : Int32} (hiv : k ≠ 0 → iv = zI v) : SR (wr (wr X 6 b (zI k)) 7 b iv) (wr (wr R 1 (32 + b) (zI k)) 1 (44 + b) (zI v)) (us (us σ (32 + b) k) (44 + b) v) ∧ Fr X R (wr (wr X 6 b (zI k)) 7 b iv) (wr (wr R 1 (32 + b) (zI k)) 1 (44 + b) (zI v)) := by
  obtain ⟨⟨⟨hr1, hr2⟩, hs, h1, h0, hk1, hk0, hg⟩, hR⟩ := h
  have e : ∀ j, j ≠ 32 + b → j ≠ 44 + b → us (us σ (32 + b) k) (44 + b) v j = σ j := fun j q1 q2 => by rw [us_ne _ _ q2, us_ne _ _ q1]
  refine ⟨⟨⟨⟨fun j hj => ?_, fun c hc hn => ?_⟩, ?_, ?_, ?_, ?_, ?_, ?_⟩, wrR (wrR hR _ _) _ _⟩, ⟨fun q hq => by rw [wr_k _ _ _ (by omega), wr_k _ _ _ (by omega)], fun q q1 q2 => by rw [wr_k _ _ _ (by omega), wr_k _ _ _ (by omega)], by rw [wr_k _ _ _ (by omega), wr_k _ _ _ (by omega)]⟩⟩
  · have l := loc_32 b hb
    have q3 := rk_ok j (ro_lt hj) hj
    by_cases c : j = 32 + b
    · subst c
      rw [us_ne _ _ (by omega), us_at, l.2.1, l.2.2, wr_k _ _ _ (by omega), wr_at]
    · have c2 : j ≠ 44 + b := by
        intro q; subst q
        simp [ro] at hj
        omega
      rw [e j c c2, ← hr1 j hj, wr_k _ _ _ (by omega)]
      by_cases q : rk j = 2
      · rw [q, wr_i _ _ _ ?_]
        intro t
        exact c (ro_inj hj l.1 (by rw [q, l.2.1]) (by rw [t, l.2.2]))
      · rw [wr_k _ _ _ (by omega)]
  · by_cases q : c = b
    · subst q
      rw [us_ne _ _ (by omega), us_at] at hn
      rw [us_at, show (4 : Nat) + 3 = 7 from rfl, wr_at]
      exact hiv hn
    · rw [us_ne _ _ (by omega), us_ne _ _ (by omega)] at hn
      rw [us_ne _ _ (by omega), us_ne _ _ (by omega), ← hr2 c hc hn, show (4 : Nat) + 3 = 7 from rfl, wr_i _ _ _ q, wr_k _ _ _ (by omega)]
  · refine hs.frame (fun q hq => by rw [wr_k _ _ _ (by omega), wr_k _ _ _ (by omega)]) (fun i _ => by rw [wr_k _ _ _ (by omega), wr_k _ _ _ (by omega)]) (fun i hi => e i ?_ ?_)
    · intro q; subst q; simp [so] at hi; omega
    · intro q; subst q; simp [so] at hi; omega
  · rw [wr_k _ _ _ (by omega), wr_k _ _ _ (by omega), e 11 (by omega) (by omega)]; exact h1
  · rw [wr_k _ _ _ (by omega), wr_k _ _ _ (by omega), e 10 (by omega) (by omega)]; exact h0
  · rw [e 10 (by omega) (by omega)]
    exact fun q => (hk1 q).frame (by rw [wr_k _ _ _ (by omega), wr_k _ _ _ (by omega)]) (fun b' hb' => e _ (by omega) (by omega))
  · rw [e 10 (by omega) (by omega)]
    intro q c hc
    rw [wr_k _ _ _ (by omega), wr_k _ _ _ (by omega)]
    exact hk0 q c hc
  · exact hg.frame (by rw [wr_k _ _ _ (by omega), wr_k _ _ _ (by omega)]) (by rw [wr_k _ _ _ (by omega), wr_k _ _ _ (by omega)]) (fun j hj => e j (by omega) (by omega))
theorem RB.box (hB : RB σ) {b : Nat} (hb : σ 0 = b) (hb2 : b < 12) {o k v : Int} (ho : 0 ≤ o ∧ o < b) (hk : 0 ≤ k ∧ k ≤ 3) (h0 : k = 0 → v = -5) (h13 : k = 1 ∨ k = 3 → 0 ≤ v ∧ v < σ 1) (h2 : k = 2 → 0 ≤ v ∧ v ≤ 9999) : RB (us (us (us (us (us σ (20 + b) o) (32 + b) k) (44 + b) v) (56 + b) 0) 0 (σ 0 + 1)) := by
  obtain ⟨⟨a0, a1, a2, a5, a11⟩, hO, hL, hP, -, hPr, hC⟩ := hB
  generalize hσ' : us (us (us (us (us σ (20 + b) o) (32 + b) k) (44 + b) v) (56 + b) 0) 0 (σ 0 + 1) = σ'
  have e : ∀ j, j ≠ 0 → j ≠ 20 + b → j ≠ 32 + b → j ≠ 44 + b → j ≠ 56 + b → σ' j = σ j := fun j q1 q2 q3 q4 q5 => by rw [← hσ', us_ne _ _ q1, us_ne _ _ q5, us_ne _ _ q4, us_ne _ _ q3, us_ne _ _ q2]
  have e0 : σ' 0 = σ 0 + 1 := by rw [← hσ', us_at]
  have e20 : σ' (20 + b) = o := by rw [← hσ', us_ne _ _ (by omega), us_ne _ _ (by omega), us_ne _ _ (by omega), us_ne _ _ (by omega), us_at]
  have e32 : σ' (32 + b) = k := by rw [← hσ', us_ne _ _ (by omega), us_ne _ _ (by omega), us_ne _ _ (by omega), us_at]
  have e44 : σ' (44 + b) = v := by rw [← hσ', us_ne _ _ (by omega), us_ne _ _ (by omega), us_at]
  have e56 : σ' (56 + b) = 0 := by rw [← hσ', us_ne _ _ (by omega), us_at]
  have e1 := e 1 (by omega) (by omega) (by omega) (by omega) (by omega)
  have e2 := e 2 (by omega) (by omega) (by omega) (by omega) (by omega)
  have e5 := e 5 (by omega) (by omega) (by omega) (by omega) (by omega)
  have e11 := e 11 (by omega) (by omega) (by omega) (by omega) (by omega)
  refine ⟨⟨by omega, by omega, by omega, by omega, by omega⟩, ?_, ?_, ⟨?_, ?_⟩, trivial, ?_, ?_⟩
  · intro c h1 hc
    by_cases q : c = b
    · subst q; rw [e20]; omega
    · rw [e _ (by omega) (by omega) (by omega) (by omega) (by omega)]
      exact hO c h1 (by omega)
  · intro c h1 hc
    by_cases q : c = b
    · subst q; rw [e32, e44, e1]; exact ⟨hk, h0, h13, h2⟩
    · rw [e (32 + c) (by omega) (by omega) (by omega) (by omega) (by omega), e (44 + c) (by omega) (by omega) (by omega) (by omega) (by omega), e1]
      exact hL c h1 (by omega)
  · rw [e 56 (by omega) (by omega) (by omega) (by omega) (by omega)]; exact hP.1
  · intro c hc
    by_cases q : c = b
    · subst q; rw [e56]; exact Or.inl rfl
    · rw [e _ (by omega) (by omega) (by omega) (by omega) (by omega)]; exact hP.2 c hc
  · intro p hp
    rw [e1] at hp
    have := hPr p hp
    rw [e (80 + p) (by omega) (by omega) (by omega) (by omega) (by omega), e (104 + p) (by omega) (by omega) (by omega) (by omega) (by omega), e0]
    omega
  · intro c hc
    rw [e2] at hc
    have := hC c hc
    rw [e (128 + c) (by omega) (by omega) (by omega) (by omega) (by omega), e (140 + c) (by omega) (by omega) (by omega) (by omega) (by omega), e (152 + c) (by omega) (by omega) (by omega) (by omega) (by omega), e (164 + c) (by omega) (by omega) (by omega) (by omega) (by omega), e0, e1, e (32 + (σ (140 + c)).toNat) (by omega) (by omega) (by omega) (by omega) (by omega)]
    omega
/-- the box is added -/
theorem append_ok (h : SR X R σ) (hI : Iv n σ) (h10 : σ 10 = 0) (h12 : σ 0 < 12) {o k v : Int} {iv : Int32} (ho : 0 ≤ o ∧ o < σ 0) (hk : 0 ≤ k ∧ k ≤ 3) (h0 : k = 0 → v = -5) (h13 : k = 1 ∨ k = 3 → 0 ≤ v ∧ v < σ 1) (h2 : k = 2 → 0 ≤ v ∧ v ≤ 9999) (hiv : k ≠ 0 → iv = zI v) (r8 : R 0 8 = zI o) (r9 : R 0 9 = zI k) (r10 : R 0 10 = zI v) : ∃ X' R' σ', fX5_appendBox 4 X (zI o) (zI k) iv = some (zI (σ 0), X') ∧ fX8_addBox_B64 R = some (zI (σ 0), R') ∧ SR X' R' σ' ∧ Fr X R X' R' ∧ Iv (n + 1) σ' := by
  have hB := hI.1
  have b0 := hB.1
  obtain ⟨b, hb⟩ : ∃ b : Nat, σ 0 = b := ⟨(σ 0).toNat, by omega⟩
  obtain ⟨s1, f1⟩ := SRput h (loc_20 b (by omega)) (m := 12) (by omega) (by omega) (by omega) (by omega) o
  obtain ⟨s2, f2⟩ := SRlock s1 (b := b) (by omega) (k := k) (v := v) hiv
  obtain ⟨s3, f3⟩ := SRput s2 (loc_56 b (by omega)) (m := 12) (by omega) (by omega) (by omega) (by omega) 0
  obtain ⟨s4, f4⟩ := s3.room (j := 0) rfl (by omega) (by omega) (σ 0 + 1)
  have hB' := hB.box hb (by omega) (o := o) (k := k) (v := v) (by omega) hk h0 h13 h2
  have e : ∀ j, j ≠ 0 → j ≠ 20 + b → j ≠ 32 + b → j ≠ 44 + b → j ≠ 56 + b → us (us (us (us (us σ (20 + b) o) (32 + b) k) (44 + b) v) (56 + b) 0) 0 (σ 0 + 1) j = σ j := fun j q1 q2 q3 q4 q5 => by rw [us_ne _ _ q1, us_ne _ _ q5, us_ne _ _ q4, us_ne _ _ q3, us_ne _ _ q2]
  have z9 : putX X (4 + 1) 12 (zI (b : Int)) (zI o) 9 b = 0 := by
    rw [put_in (by omega) (by omega), wr_k _ _ _ (by omega)]
    exact h.1.2.2.2.2.2.1 h10 b (by omega)
  have z9' : putX (wr (wr (putX X (4 + 1) 12 (zI (b : Int)) (zI o)) 6 b (zI k)) 7 b iv) (4 + 4) 12 (zI (b : Int)) (zI 0) 9 b = 0 := by
    rw [put_in (by omega) (by omega), wr_k _ _ _ (by omega), wr_k _ _ _ (by omega), wr_k _ _ _ (by omega)]
    exact z9
  have nb := s3.ro.nb
  have rb := rd s3.row 0
  rw [us_ne _ _ (by omega), us_ne _ _ (by omega), us_ne _ _ (by omega), us_ne _ _ (by omega), hb] at nb rb
  refine ⟨_, _, _, ?_, ?_, s4, ((f1.trans f2).trans f3).trans f4, hI.off h10 hB' (fun j hj => e j (by omega) (by omega) (by omega) (by omega) (by omega)) ?_ ?_ ?_⟩
  · unfold fX5_appendBox
    rw [h.ro.nb, hb, thn_eq, thn_eq, thn_eq, thn_eq, thn_eq, thn_eq]
    rw [show putX (putX X (4 + 1) 12 (zI (b : Int)) (zI o)) (4 + 2) 12 (zI (b : Int)) (zI k) = wr (putX X (4 + 1) 12 (zI (b : Int)) (zI o)) 6 b (zI k) from put_in (by omega) (by omega) _, show putX (wr (putX X (4 + 1) 12 (zI (b : Int)) (zI o)) 6 b (zI k)) (4 + 3) 12 (zI (b : Int)) iv = wr (wr (putX X (4 + 1) 12 (zI (b : Int)) (zI o)) 6 b (zI k)) 7 b iv from put_in (by omega) (by omega) _]
    rw [show putX (putX (wr (wr (putX X (4 + 1) 12 (zI (b : Int)) (zI o)) 6 b (zI k)) 7 b iv) (4 + 4) 12 (zI (b : Int)) 0) (4 + 5) 12 (zI (b : Int)) 0 = putX (wr (wr (putX X (4 + 1) 12 (zI (b : Int)) (zI o)) 6 b (zI k)) 7 b iv) (4 + 4) 12 (zI (b : Int)) (zI 0) from by rw [show (0 : Int32) = zI 0 from rfl]; exact (put_in (k := 4 + 5) (by omega) (by omega) _).trans (wr_id _ z9')]
    rw [nb, zc1, zadd]
    rfl
  · unfold fX8_addBox_B64
    rw [plays h.row hI, bnd_some, i1_f (by omega), it0, rd h.row 0, hb, if_neg (show ¬ zI (b : Int) = 12 by rw [zc12, zeq] <;> omega), if_pos (i20 (by omega)), j20 (by omega), r8, thn_eq, if_pos (i32 (by omega)), j32 (by omega), wr_k _ _ _ (show 0 ≠ 1 by omega), r9, thn_eq, if_pos (i44 (by omega)), j44 (by omega), wr_k _ _ _ (show 0 ≠ 1 by omega), wr_k _ _ _ (show 0 ≠ 1 by omega), r10, thn_eq, if_pos (i56 (by omega)), j56 (by omega), thn_eq, thn_eq, zc0, rb, zc1, zadd]
  · rw [e 8 (by omega) (by omega) (by omega) (by omega) (by omega)]; have := hI.2.1; omega
  · rw [e 9 (by omega) (by omega) (by omega) (by omega) (by omega)]; omega
  · intro p hp
    rw [e 1 (by omega) (by omega) (by omega) (by omega) (by omega)] at hp
    rw [e _ (by omega) (by omega) (by omega) (by omega) (by omega)]
    exact hI.2.2.2.1 h10 p hp
theorem addBox_ok (h : Rel n X R) : Ok n (fX7_addBox X) (fX8_addBox R) := by
  obtain ⟨σ, hS, hI, hT, hs0, hs1⟩ := h
  have hB := hI.1
  have b0 := hB.1
  have hT' := hT
  obtain ⟨m, t1, t2, t3, t4⟩ := hT'
  have hx : ∀ i, i < m → X 2 i = zI ((X 2 i).toInt) := fun i _ => (Int32.ofInt_toInt _).symm
  obtain ⟨X1, R1, f, g, a1, a2, a3, a4, a5, a6, a7⟩ := parse (X := X) (R := R) (n := m) (T := fun i => (X 2 i).toInt) t1 (fun i => ⟨Int32.le_toInt _, by have := Int32.toInt_lt (X 2 i); show (X 2 i).toInt ≤ 2147483647; omega⟩) t2 t3 hx (fun i hi => by rw [← t4 i hi]; exact hx i hi)
  have hS1 : SR X1 R1 σ := ⟨hS.1.rows (fun r hr => a3 _ (by omega)), by rw [a4 1 (by omega)]; exact hS.2⟩
  have fin : ∀ v : Int32, Ok n (some (v, X1)) (some (v, R1)) := fun v => ⟨v, X1, R1, rfl, rfl, Rel.mk' hT hs0 hs1 hS1 (hI.mono (by omega)) (fun k hk => a3 k (by omega)) a5 (fun k k1 k2 => a4 k (by omega)) a6⟩
  unfold fX7_addBox fX8_addBox
  rw [a1, a2, bnd_some, bnd_some]
  dsimp only
  rcases a7 with ⟨rfl, q1, q2⟩ | ⟨rfl, rfl, o, k, v, o1, o2, k1, v1, v2, w1, w2, w3, w4, w5, w6⟩
  · rw [if_neg (show ¬ zI f = -1 by rw [zm1, zeq] <;> omega), if_neg (show ¬ zI f < 0 by rw [zc0, zlt] <;> omega)]
    exact fin _
  · rw [if_pos (show zI (-1) = -1 from rfl), if_pos (show zI (-5) < 0 by decide)]
    have iv : ∃ iv, X1 1 4 = iv := ⟨_, rfl⟩
    obtain ⟨iv, hiv⟩ := iv
    have vv : ∃ vv, R1 0 10 = zI vv ∧ (k = 0 → vv = -5) ∧ (k ≠ 0 → vv = v ∧ iv = zI vv) := by
      by_cases c : k = 0
      · exact ⟨-5, w6 c, fun _ => rfl, fun q => absurd c q⟩
      · exact ⟨v, (w5 c).2, fun q => absurd q c, fun _ => ⟨rfl, by rw [← hiv]; exact (w5 c).1⟩⟩
    obtain ⟨vv, y1, y2, y3⟩ := vv
    -- the last part, with or without a prop to look at
    have last : (0 ≤ o ∧ o < σ 0) → (k = 1 ∨ k = 3 → 0 ≤ vv ∧ vv < σ 1) → Ok n (fX7_addBox_B88 X1) (fX8_addBox_B64 R1) := by
      intro ho h13
      unfold fX7_addBox_B88
      rw [running hS1 hI, w1, w3, hiv]
      by_cases c2 : σ 10 = 1
      · unfold fX8_addBox_B64
        rw [plays hS1.row hI, bnd_some, i1_t c2, it1, it1]
        exact fin _
      · rw [i1_f c2, it0, hS1.ro.nb]
        by_cases c3 : σ 0 < 12
        · obtain ⟨X2, R2, σ2, d1, d2, d3, d4, d5⟩ := append_ok hS1 hI (not10 hI c2) c3 (o := o) (k := (k : Int)) (v := vv) (iv := iv) ho (by omega) (fun q => y2 (by omega)) (fun q => h13 (by omega)) (fun q => by have := (y3 (by omega)).1; omega) (fun q => (y3 (by omega)).2) w2 w4 y1
          rw [if_pos (show zI (σ 0) < 12 by rw [zc12, zlt] <;> omega), d1, d2, bnd_some]
          exact ⟨_, X2, R2, rfl, rfl, Rel.mk' hT hs0 hs1 d3 d5 (fun k hk => by rw [d4.1 k (by omega), a3 k (by omega)]) (by rw [d4.1 1 (by omega), a5]) (fun k k1 k2 => by rw [d4.2.1 k k1 k2, a4 k (by omega)]) (by rw [d4.2.2, a6])⟩
        · unfold fX8_addBox_B64
          rw [if_neg (show ¬ zI (σ 0) < 12 by rw [zc12, zlt] <;> omega), plays hS1.row hI, bnd_some, i1_f c2, it0, rd hS1.row 0, if_pos (show zI (σ 0) = 12 by rw [show σ 0 = 12 by omega]; rfl)]
          exact fin _
    have mid : ∀ w : Int32, (w = 1 ∧ (k = 1 ∨ k = 3)) ∨ (w = 0 ∧ ¬ (k = 1 ∨ k = 3)) → Ok n (fX7_addBox_B54 X1 w) (fX8_addBox_B36 R1 w) := by
      intro w hw
      unfold fX7_addBox_B54 fX8_addBox_B36
      rw [w1, w2, X_hasBox hS1.ro hB (by omega) (by omega), R_noBox hS1.row hB (by omega) (by omega), bnd_some]
      by_cases ho : 0 ≤ o ∧ o < σ 0
      · rw [i1_t ho, i1_f (show ¬ ¬ (0 ≤ o ∧ o < σ 0) by omega), it1, it0]
        rcases hw with ⟨rfl, hk⟩ | ⟨rfl, hk⟩
        · have y3' := y3 (by omega)
          rw [it1, it1, hiv, y3'.2, y1, X_hasProp hS1.ro hB (by omega) (by omega), R_noProp hS1.row hB (by omega) (by omega), bnd_some]
          by_cases hp : 0 ≤ vv ∧ vv < σ 1
          · rw [i1_t hp, i1_f (show ¬ ¬ (0 ≤ vv ∧ vv < σ 1) by omega), it1, it0]
            exact last ho (fun _ => hp)
          · rw [i1_f hp, i1_t hp, it0, it1]
            exact fin _
        · rw [it0, it0]
          exact last ho (fun q => absurd q hk)
      · rw [i1_f ho, i1_t ho, it0, it1]
        exact fin _
    have : k = 0 ∨ k = 1 ∨ k = 2 ∨ k = 3 := by omega
    rcases this with rfl | rfl | rfl | rfl
    · rw [if_neg (show ¬ X1 1 3 = 1 by rw [w3]; decide), if_neg (show ¬ X1 1 3 = 3 by rw [w3]; decide), if_neg (show ¬ R1 0 9 = 1 by rw [w4]; decide), if_pos (show R1 0 9 ≤ 2 by rw [w4]; decide)]
      exact mid 0 (Or.inr ⟨rfl, by omega⟩)
    · rw [if_pos (show X1 1 3 = 1 by rw [w3]; decide), if_pos (show R1 0 9 = 1 by rw [w4]; decide)]
      exact mid 1 (Or.inl ⟨rfl, by omega⟩)
    · rw [if_neg (show ¬ X1 1 3 = 1 by rw [w3]; decide), if_neg (show ¬ X1 1 3 = 3 by rw [w3]; decide), if_neg (show ¬ R1 0 9 = 1 by rw [w4]; decide), if_pos (show R1 0 9 ≤ 2 by rw [w4]; decide)]
      exact mid 0 (Or.inr ⟨rfl, by omega⟩)
    · rw [if_neg (show ¬ X1 1 3 = 1 by rw [w3]; decide), if_pos (show X1 1 3 = 3 by rw [w3]; decide), if_neg (show ¬ R1 0 9 = 1 by rw [w4]; decide), if_neg (show ¬ R1 0 9 ≤ 2 by rw [w4]; decide)]
      exact mid 1 (Or.inl ⟨rfl, by omega⟩)
/-- a sign is typed: a char -/
theorem type_ok (h : Rel n X R) {x : Int32} (hx : vp_nar .char x = x) : Ok n (fX7_type X x) (fX8_type R x) := by
  obtain ⟨σ, hS, hI, hT, hs0, hs1⟩ := h
  have hT' := hT
  obtain ⟨m, t1, t2, t3, t4⟩ := hT'
  unfold fX7_type fX8_type
  rw [t2, t3, hx]
  by_cases c : m = 20
  · subst c
    rw [if_neg (by decide), if_pos (by rfl)]
    exact Ok.step hT hs0 hs1 (Step.same hS hI _ rfl rfl)
  · rw [if_pos (by rw [zc20, zlt] <;> omega), if_neg (by rw [zc20, zeq] <;> omega), if_pos (by rw [zinb (by omega) (by omega)]; omega), ztn (by omega) (by omega), Int.toNat_natCast, put_in (by omega) (by omega), thn_eq, thn_eq, thn_eq, thn_eq, wr_k _ _ _ (show 1 ≠ 2 by omega), t2, wr_k _ _ _ (show 0 ≠ 5 by omega), t3, zsuc, wr_at, wr_at]
    refine ⟨_, _, _, rfl, rfl, σ, ⟨hS.1.rows (fun r hr => by rw [wr_k _ _ _ (by omega), wr_k _ _ _ (by omega)]), by rw [wr_k _ _ _ (by omega), wr_k _ _ _ (by omega)]; exact hS.2⟩, hI.mono (by omega), ⟨m + 1, by omega, wr_at _ _ _ _, wr_at _ _ _ _, fun i hi => ?_⟩, ?_, ?_⟩
    · rw [wr_k _ _ _ (show 2 ≠ 1 by omega), wr_k _ _ _ (show 5 ≠ 0 by omega)]
      by_cases q : i = m
      · subst q; rw [wr_at, wr_at]
      · rw [wr_i _ _ _ q, wr_i _ _ _ q]; exact t4 i (by omega)
    · exact hs0.fr (by omega) (by omega) (fun k hk => by rw [wr_k _ _ _ (by omega), wr_k _ _ _ (by omega)]) ⟨by rw [wr_k _ _ _ (by omega), wr_k _ _ _ (by omega)], by rw [wr_k _ _ _ (by omega), wr_k _ _ _ (by omega)]⟩
    · exact hs1.fr (by omega) (by omega) (fun k hk => by rw [wr_k _ _ _ (by omega), wr_k _ _ _ (by omega)]) ⟨by rw [wr_k _ _ _ (by omega), wr_k _ _ _ (by omega)], by rw [wr_k _ _ _ (by omega), wr_k _ _ _ (by omega)]⟩
theorem clear_ok (h : Rel n X R) : Ok n (fX7_clearText X) (fX8_clearText R) := by
  obtain ⟨σ, hS, hI, hT, hs0, hs1⟩ := h
  have hT' := hT
  obtain ⟨m, t1, t2, t3, t4⟩ := hT'
  unfold fX7_clearText fX8_clearText
  rw [thn_eq, thn_eq, t2, t3]
  refine ⟨_, _, _, rfl, rfl, σ, ⟨hS.1.rows (fun r hr => by rw [wr_k _ _ _ (by omega)]), by rw [wr_k _ _ _ (by omega)]; exact hS.2⟩, hI.mono (by omega), ⟨0, by omega, wr_at _ _ _ _, wr_at _ _ _ _, fun i hi => by omega⟩, ?_, ?_⟩
  · exact hs0.fr (by omega) (by omega) (fun k hk => by rw [wr_k _ _ _ (by omega)]) ⟨by rw [wr_k _ _ _ (by omega)], by rw [wr_k _ _ _ (by omega)]⟩
  · exact hs1.fr (by omega) (by omega) (fun k hk => by rw [wr_k _ _ _ (by omega)]) ⟨by rw [wr_k _ _ _ (by omega)], by rw [wr_k _ _ _ (by omega)]⟩
end AX
