/-! between games, with what is left -/
section NC
variable {X R : Mem} {σ : Nat → Int} {n : Nat} {B : Int}
theorem j_off {σ' : Nat → Int} (hI : Iv n σ) (hJ : J B σ) (c2 : σ 10 = 0) (e : ∀ j, j = 3 ∨ j = 4 ∨ j = 6 ∨ j = 7 ∨ (10 ≤ j ∧ j ≤ 13) ∨ j = 17 ∨ 184 ≤ j → σ' j = σ j) (e9 : σ 9 ≤ σ' 9) : J B σ' := by
  have hN := hI.2.1
  exact ⟨hJ.1.upd (by omega) (by omega) (by omega) (fun j hj => e j (by omega)) e9 (fun q => by omega), fun q => by rw [e 10 (by omega)] at q; omega⟩
theorem idle_n (h : SR X R σ) (hI : Iv n σ) (hJ : J B σ) (hn : n ≤ 600) (c2 : σ 10 = 0) {a : Int} (c1 : 1 ≤ a ∧ a ≤ 1000) : ∃ X' R' σ', fX7_idle X (zI a) = some (zI (σ 9 + a), X') ∧ SR X' R' σ' ∧ Iv (n + 1) σ' ∧ J B σ' := by
  have hN := hI.2.1
  unfold fX7_idle
  rw [zc1, zc1000, if_neg (show ¬ zI a < zI 1 by rw [zlt] <;> omega), if_pos (show zI a ≤ zI 1000 by rw [zle] <;> omega), running h hI, i1_f (by omega), it0]
  obtain ⟨X3, R3, σ3, a3, b3, s3, B3, f3, I3, e3, t3⟩ := tidy hI hn c2 h (Fr.rf _ _) hI.1 (fun j _ _ => rfl) (by omega) (hI.2.2.2.1 c2) (m := a) (by omega)
  rw [a3, bnd_some, s3.clock, t3]
  exact ⟨X3, R3, σ3, rfl, s3, I3, j_off hI hJ c2 (fun j hj => e3 j (by omega) (by omega)) (by omega)⟩
theorem addPaint_n (h : SR X R σ) (hI : Iv n σ) (hJ : J B σ) (hn : n ≤ 600) (c2 : σ 10 = 0) {a : Int} (c1 : 1 ≤ a ∧ a ≤ 1000) : ∃ X' R' σ', fX7_addPaint X (zI a) = some (zI (σ 8 + a), X') ∧ SR X' R' σ' ∧ Iv (n + 1) σ' ∧ J B σ' ∧ σ' 8 = σ 8 + a := by
  have hN := hI.2.1
  unfold fX7_addPaint
  rw [zc1, zc1000, if_neg (show ¬ zI a < zI 1 by rw [zlt] <;> omega), if_pos (show zI a ≤ zI 1000 by rw [zle] <;> omega), h.paint, zadd, thn_eq]
  obtain ⟨s1, f1⟩ := h.stat (j := 8) rfl (σ 8 + a)
  have e : ∀ j, j ≠ 8 → us σ 8 (σ 8 + a) j = σ j := fun j hj => us_ne σ _ hj
  refine ⟨_, _, us σ 8 (σ 8 + a), ?_, s1, hI.off c2 (hI.1.c (fun j hj hc => e j (by omega))) (fun j hj => e j (by omega)) (by rw [us_at]; omega) (by rw [e 9 (by omega)]; omega) (fun p hp => by rw [e 1 (by omega)] at hp; rw [e _ (by omega)]; exact hI.2.2.2.1 c2 p hp), j_off hI hJ c2 (fun j hj => e j (by omega)) (by rw [e 9 (by omega)]; omega), us_at _ _ _⟩
  rw [show wr X 3 6 (zI (σ 8 + a)) 3 6 = zI (σ 8 + a) from wr_at _ _ _ _]
  rfl
theorem setExit_n (h : SR X R σ) (hI : Iv n σ) (hJ : J B σ) (c2 : σ 10 = 0) {b : Nat} (h1 : 1 ≤ b) (hb : (b : Int) < σ 0) :
    (σ 5 = b ∧ fX7_setExit X (zI (b : Int)) = some (zI (-5), X)) ∨ (σ 5 ≠ b ∧ ∃ X' R' σ', fX7_setExit X (zI (b : Int)) = some (zI (σ 5), X') ∧ SR X' R' σ' ∧ Iv (n + 1) σ' ∧ J B σ' ∧ σ' 5 = b) := by
  have hB := hI.1
  have h0 := hB.1
  unfold fX7_setExit
  rw [isB h hI hb, it1, if_neg (show ¬ zI (b : Int) = 0 by rw [zc0, zeq] <;> omega), running h hI, i1_f (by omega), it0, show X 4 14 = zI (σ 5) from h.ro.ex]
  by_cases c3 : σ 5 = b
  · rw [if_pos (show zI (σ 5) = zI (b : Int) by rw [c3])]
    exact Or.inl ⟨c3, rfl⟩
  · rw [if_neg (show ¬ zI (σ 5) = zI (b : Int) by rw [zeq] <;> omega), thn_eq]
    obtain ⟨s1, f1⟩ := h.room (j := 5) rfl (by omega) (by omega) (b : Int)
    have e : ∀ j, j ≠ 5 → us σ 5 (b : Int) j = σ j := fun j hj => us_ne σ _ hj
    refine Or.inr ⟨c3, _, _, us σ 5 (b : Int), rfl, s1, hI.off c2 ?_ (fun j hj => e j (by omega)) (by rw [e 8 (by omega)]; have := hI.2.1; omega) (by rw [e 9 (by omega)]; omega) (fun p hp => by rw [e 1 (by omega)] at hp; rw [e _ (by omega)]; exact hI.2.2.2.1 c2 p hp), j_off hI hJ c2 (fun j hj => e j (by omega)) (by rw [e 9 (by omega)]; omega), us_at _ _ _⟩
    obtain ⟨⟨a0, a1, a2, a5, a11⟩, hO, hL, hP, -, hPr, hC⟩ := hB
    refine ⟨⟨by rw [e 0 (by omega)]; exact a0, by rw [e 1 (by omega)]; exact a1, by rw [e 2 (by omega)]; exact a2, by rw [us_at, e 0 (by omega)]; omega, by rw [e 11 (by omega)]; exact a11⟩, ?_, ?_, ⟨by rw [e 56 (by omega)]; exact hP.1, fun b hb => by rw [e _ (by omega)]; exact hP.2 b hb⟩, trivial, ?_, ?_⟩
    · intro b h1 hb
      rw [e 0 (by omega)] at hb
      rw [e _ (by omega)]
      exact hO b h1 hb
    · intro b h1 hb
      rw [e 0 (by omega)] at hb
      rw [e (32 + b) (by omega), e (44 + b) (by omega), e 1 (by omega)]
      exact hL b h1 hb
    · intro p hp
      rw [e 1 (by omega)] at hp
      rw [e (80 + p) (by omega), e (104 + p) (by omega), e 0 (by omega)]
      exact hPr p hp
    · intro c hc
      rw [e 2 (by omega)] at hc
      rw [e (128 + c) (by omega), e (140 + c) (by omega), e (152 + c) (by omega), e (164 + c) (by omega), e 0 (by omega), e 1 (by omega), e (32 + (σ (140 + c)).toNat) (by omega)]
      exact hC c hc
theorem close_n (h : SR X R σ) (hI : Iv n σ) (hJ : J B σ) (hn : n ≤ 600) (c2 : σ 10 = 0) {b : Nat} (h1 : 1 ≤ b) (hb : (b : Int) < σ 0) :
    (σ (56 + b) ≠ 1 ∧ fX7_close X (zI (b : Int)) = some (zI (-5), X)) ∨ (σ (56 + b) = 1 ∧ ∃ X' R' σ', fX7_close X (zI (b : Int)) = some (zI (opn σ' : Nat), X') ∧ SR X' R' σ' ∧ Iv (n + 1) σ' ∧ J B σ' ∧ σ' 9 = σ 9 + 1 ∧ σ' (56 + b) = 0 ∧ σ' 0 = σ 0) := by
  have hB := hI.1
  have h0 := hB.1
  have hN := hI.2.1
  unfold fX7_close
  rw [isB h hI hb, it1, if_neg (show ¬ zI (b : Int) = 0 by rw [zc0, zeq] <;> omega), running h hI, i1_f (by omega), it0, X_isOpen h.ro hB (by omega)]
  by_cases c3 : σ (56 + b) = 1
  · refine Or.inr ⟨c3, ?_⟩
    rw [i1_t c3, it1, thn_eq]
    obtain ⟨s1, f1⟩ := SRput h (loc_56 b (by omega)) (m := 12) (by omega) (by omega) (by omega) (by omega) 0
    obtain ⟨X3, R3, σ3, a3, b3, s3, B3, f3, I3, e3, t3⟩ := tidy hI hn c2 s1 f1 (hB.opn (b := b) (by omega) (Or.inl rfl) (fun q => by omega)) (fun j _ _ => us_ne _ _ (by omega)) (by rw [us_ne _ _ (by omega)]; omega) (fun q hq => by rw [us_ne _ _ (by omega)]; exact hI.2.2.2.1 c2 q hq) (m := 1) (by omega)
    rw [show putX X 8 12 (zI (b : Int)) (0 : Int32) = putX X (4 + 4) 12 (zI (b : Int)) (zI 0) from rfl, zc1, a3, bnd_some, X_openBoxes s3.ro B3, bnd_some]
    exact ⟨X3, R3, σ3, rfl, s3, I3, j_off hI hJ c2 (fun j hj => by rw [e3 j (by omega) (by omega), us_ne _ _ (by omega)]) (by omega), t3, by rw [e3 _ (by omega) (by omega), us_at], by rw [e3 0 (by omega) (by omega), us_ne _ _ (by omega)]⟩
  · rw [i1_f c3, it0]
    exact Or.inl ⟨c3, rfl⟩
/-! the reset -/
theorem closeX_L : ∀ (d i m : Nat) (X R : Mem) (σ : Nat → Int), SR X R σ → RB σ → 1 ≤ i → (i : Int) + d = σ 0 → d < m → ∃ X' R' σ', fX5_closeBoxes_L2 4 m X (zI (i : Int)) = some X' ∧ SR X' R' σ' ∧ Fr X R X' R' ∧ RB σ' ∧ (∀ j, j < 56 + i ∨ 68 ≤ j → σ' j = σ j) ∧ (∀ b : Nat, i ≤ b → (b : Int) < σ 0 → σ' (56 + b) = 0) := by
  intro d
  induction d with
  | zero =>
    intro i m X R σ h hB h1 hi hm
    have h0 := hB.1
    obtain ⟨m, rfl⟩ := ex_succ hm
    exact ⟨X, R, σ, by rw [fX5_closeBoxes_L2, if_pos (show X 4 0 ≤ zI (i : Int) by rw [h.ro.nb, zle] <;> omega)], h, Fr.rf _ _, hB, fun _ _ => rfl, fun b q1 q2 => by omega⟩
  | succ d ih =>
    intro i m X R σ h hB h1 hi hm
    have h0 := hB.1
    obtain ⟨m, rfl⟩ := ex_succ hm
    obtain ⟨s1, f1⟩ := SRput h (loc_56 i (by omega)) (m := 12) (by omega) (by omega) (by omega) (by omega) 0
    have u0 : us σ (56 + i) 0 0 = σ 0 := us_ne _ _ (by omega)
    obtain ⟨X', R', σ', q1, q3, q4, q5, q6, q7⟩ := ih (i + 1) m _ _ _ s1 (hB.opn (b := i) (by omega) (Or.inl rfl) (fun q => by omega)) (by omega) (by rw [u0]; omega) (by omega)
    refine ⟨X', R', σ', ?_, q3, f1.trans q4, q5, fun j hj => ?_, fun b b1 b2 => ?_⟩
    · rw [fX5_closeBoxes_L2, if_neg (show ¬ X 4 0 ≤ zI (i : Int) by rw [h.ro.nb, zle] <;> omega), thn_eq, zsuc]
      exact q1
    · rw [q6 j (by omega), us_ne _ _ (by omega)]
    · by_cases c : b = i
      · subst c
        rw [q6 _ (by omega), us_at]
      · exact q7 b (by omega) (by rw [u0]; exact b2)
theorem ks_c {σ σ' : Nat → Int} : ∀ (d i : Nat) (l : Int), (∀ j, i ≤ j → j < i + d → σ' (164 + j) = σ (164 + j)) → ks σ' d i l = ks σ d i l := by
  intro d
  induction d with
  | zero => intro i l _; rfl
  | succ d ih =>
    intro i l h
    unfold ks
    rw [h i (by omega) (by omega), ih (i + 1) l (fun j h1 h2 => h j (by omega) (by omega)), ih (i + 1) (l - (9 - σ (164 + i))) (fun j h1 h2 => h j (by omega) (by omega))]
theorem fl_8 : ∀ (d i : Nat) (τ : Nat → Int), i + d ≤ 12 → fl d i τ 8 = τ 8 - ks τ d i (τ 8) := by
  intro d
  induction d with
  | zero => intro i τ _; show τ 8 = τ 8 - 0; omega
  | succ d ih =>
    intro i τ h
    unfold fl ks
    split
    · rw [ih _ _ (by omega), us_ne _ _ (by omega), us_at, ks_c (σ := τ) d (i + 1) _ (fun j h1 h2 => by rw [us_ne _ _ (by omega), us_ne _ _ (by omega)])]
      omega
    · exact ih _ _ (by omega)
theorem kn_ks (σ : Nat → Int) : ∀ (d i : Nat) (l : Int), kn σ d i l = 0 → ks σ d i l = 0 := by
  intro d
  induction d with
  | zero => intro i l _; rfl
  | succ d ih =>
    intro i l h
    unfold kn at h
    unfold ks
    split at h
    · rename_i c
      have := kn_b σ d (i + 1) (l - (9 - σ (164 + i)))
      omega
    · rename_i c
      rw [if_neg c]
      exact ih _ _ h
theorem cnt_0 {P : Nat → Bool} : ∀ m : Nat, (∀ i, i < m → P i = false) → cnt P m = 0 := by
  intro m
  induction m with
  | zero => intro _; rfl
  | succ m ih =>
    intro h
    rw [cnt_f (h m (by omega))]
    exact ih (fun i hi => h i (by omega))
theorem reset_n (h : SR X R σ) (hI : Iv n σ) (hJ : J B σ) (hn : n ≤ 600) (c2 : σ 10 = 0) :
    (rmm σ = 0 ∧ fX7_reset X = some (zI (-5), X)) ∨ (rmm σ ≠ 0 ∧ ∃ X' R' σ', fX7_reset X = some (zI (rmm σ), X') ∧ SR X' R' σ' ∧ Iv (n + 1) σ' ∧ J B σ' ∧ σ' 9 = σ 9 + rmm σ ∧ awy σ' = 0 ∧ opn σ' = 0 ∧ σ' 8 = σ 8 - ks σ (σ 2).toNat 0 (σ 8)) := by
  have hB := hI.1
  have h0 := hB.1
  have hN := hI.2.1
  have hr := rmm_b hB
  unfold fX7_reset
  rw [running h hI, i1_f (by omega), it0, X_resetMinutes h hB (by omega), bnd_some]
  by_cases c3 : rmm σ = 0
  · rw [if_pos (show zI (rmm σ) = 0 by rw [c3]; rfl)]
    exact Or.inl ⟨c3, rfl⟩
  · refine Or.inr ⟨c3, ?_⟩
    rw [if_neg (show ¬ zI (rmm σ) = 0 by rw [zc0, zeq] <;> omega)]
    obtain ⟨K, k1, k2, k3⟩ := X_mask h hB (by omega)
    obtain ⟨X1, R1, σ1, a1, -, s1, f1, B1, e1, l1⟩ := home_L (zI (rmm σ)) (σ 1).toNat 0 5000 5000 X R σ h hB (by omega) (by omega) (by omega)
    have t0 : σ1 0 = σ 0 := e1 0 (by omega)
    have g0 := B1.1
    obtain ⟨X2, R2, σ2, a2, s2, f2, B2, e2, l2⟩ := closeX_L (σ 0 - 1).toNat 1 5000 X1 R1 σ1 s1 B1 (by omega) (by omega) (by omega)
    have e12 : ∀ j, j < 56 ∨ (68 ≤ j ∧ j < 104) ∨ 128 ≤ j → σ2 j = σ j := fun j hj => by rw [e2 j (by omega), e1 j (by omega)]
    have t2 : σ2 2 = σ 2 := e12 2 (by omega)
    have t8 : σ2 8 = σ 8 := e12 8 (by omega)
    obtain ⟨X3, a3, s3, f3⟩ := X_fill_L (K := K) (σ 2).toNat 0 5000 X2 σ2 s2.1 B2 (by omega) (by omega) (by omega) (fun j _ hj => by
      rw [k2 j (by omega), t8]
      exact (congrFun (ck_c _ _ _ (fun q _ _ => e12 _ (by omega))) j).symm)
    obtain ⟨v, R3, b3, r3, g3⟩ := R_fill_L (σ 2).toNat 0 5000 R2 σ2 0 0 (by
      rw [s2.row]
      congr 1
      funext j
      by_cases q : j = 8
      · subst q; rw [us_at]; omega
      · rw [us_ne _ _ q]) B2 (by omega) (by omega) (by omega)
    have hfb := fl_B (σ 2).toNat 0 σ2 B2 (by omega) (by omega)
    have hfn := fl_ne (σ 2).toNat 0 σ2
    obtain ⟨X4, R4, σ4, a4, b4, s4, B4, f4, I4, e4, t4⟩ := tidy (σ2 := fl (σ 2).toNat 0 σ2) hI hn c2 (⟨s3, r3⟩ : SR X3 R3 _) ((f1.trans f2).trans ⟨f3, g3⟩) hfb.1 (fun j hj q => by rw [hfn j q (by omega) (by omega), e12 j (by omega)]) (by omega) (fun p hp => by
      rw [hfn _ (by omega) (by omega) (by omega), e2 _ (by omega), l1 p (by omega) hp]
      exact (pr hB hp).1.1) (m := rmm σ) (by omega)
    have eX : fX6_bringToOrder 3 X = some X3 := by
      unfold fX6_bringToOrder
      rw [k1, bnd_some, show fX5_bringPropsHome (3 + 1) X = some X1 from a1, bnd_some, show fX5_closeBoxes (3 + 1) X1 = some X2 from a2, bnd_some]
      exact a3
    rw [eX, bnd_some, a4, bnd_some]
    have ee : ∀ j, j ≠ 8 → j ≠ 9 → j < 164 ∨ 176 ≤ j → σ4 j = σ2 j := fun j q1 q2 q3 => by rw [e4 j q3 q2, hfn j q1 q3 (by omega)]
    refine ⟨X4, R4, σ4, rfl, s4, I4, j_off hI hJ c2 (fun j hj => by rw [ee j (by omega) (by omega) (by omega), e12 j (by omega)]) (by omega), t4, ?_, ?_, ?_⟩
    · unfold awy
      rw [ee 1 (by omega) (by omega) (by omega), e12 1 (by omega)]
      refine cnt_0 _ (fun p hp => ?_)
      have hp' : (p : Int) < σ 1 := by omega
      rw [ee _ (by omega) (by omega) (by omega), ee _ (by omega) (by omega) (by omega), e2 _ (by omega), l1 p (by omega) hp', e12 (80 + p) (by omega)]
      simp
    · unfold opn
      rw [ee 0 (by omega) (by omega) (by omega), e12 0 (by omega)]
      refine cnt_0 _ (fun b hb => ?_)
      by_cases c : 1 ≤ b
      · rw [ee _ (by omega) (by omega) (by omega), l2 b c (by rw [t0]; omega)]
        simp
      · simp [c]
    · rw [e4 8 (by omega) (by omega), fl_8 _ _ _ (by omega), t8, ks_c (σ := σ) _ _ _ (fun j _ h2 => e12 _ (by omega))]
/-! a group is booked -/
theorem book_n (h : SR X R σ) (hI : Iv n σ) (hJ : J B σ) {a b : Int} (c1 : 1 ≤ a ∧ a ≤ 6) (c3 : 0 ≤ b ∧ b ≤ 100000) (hs : ∀ g : Nat, (g : Int) + 1 = σ 3 → σ (184 + g) ≤ b) {B' : Int} (hB : B ≤ B') (hb : b ≤ B') :
    (σ 3 = 8 ∧ fX7_book X (zI a) (zI b) = some (zI (-3), X)) ∨ (σ 3 < 8 ∧ ∃ X' R' σ', fX7_book X (zI a) (zI b) = some (zI (σ 3 + 1), X') ∧ SR X' R' σ' ∧ Iv (n + 1) σ' ∧ J B' σ' ∧ σ' 3 = σ 3 + 1 ∧ (∀ j, j ≠ 3 → j < 176 ∨ 192 ≤ j → σ' j = σ j)) := by
  have hN := hI.2.1
  have e1 : fX7_book X (zI a) (zI b) = fX7_book_B55 X (zI a) (zI b) := by
    unfold fX7_book
    rw [groupSize (by omega) (by omega), i1_t c1, it1, if_neg (show ¬ zI b < 0 by rw [zc0, zlt] <;> omega), if_pos (show zI b ≤ 100000 by rw [zc100000, zle] <;> omega), show X 16 0 = zI (σ 3) from h.waiting]
    by_cases c4 : σ 3 ≤ 0
    · rw [if_pos (show zI (σ 3) ≤ 0 by rw [zc0, zle] <;> omega)]
    · rw [if_neg (show ¬ zI (σ 3) ≤ 0 by rw [zc0, zle] <;> omega)]
      obtain ⟨g, hg⟩ : ∃ p : Nat, σ 3 = p + 1 := ⟨(σ 3 - 1).toNat, by omega⟩
      have hgg := hI.2.2.2.2.1 g (by omega) (by omega)
      have := hs g (by omega)
      rw [show zI (σ 3) - 1 = zI (g : Int) by rw [zc1, zsub, hg]; congr 1; omega, (SRget h (i := g) (by omega)).2, if_pos (show zI (σ (184 + g)) ≤ zI b by rw [zle] <;> omega)]
  rw [e1]
  unfold fX7_book_B55
  rw [show X 16 0 = zI (σ 3) from h.waiting, zc8]
  by_cases c : σ 3 = 8
  · rw [if_neg (show ¬ zI (σ 3) < zI 8 by rw [zlt] <;> omega)]
    exact Or.inl ⟨c, rfl⟩
  · refine Or.inr ⟨by omega, ?_⟩
    rw [if_pos (show zI (σ 3) < zI 8 by rw [zlt] <;> omega)]
    obtain ⟨g, hg⟩ : ∃ p : Nat, σ 3 = p := ⟨(σ 3).toNat, by omega⟩
    obtain ⟨s1, f1⟩ := SRputG h (i := g) (by omega) a
    obtain ⟨s2, f2⟩ := SRputW s1 (i := g) (by omega) b
    obtain ⟨s3, f3⟩ := s2.stat (j := 3) rfl (σ 3 + 1)
    have w1 := s1.waiting
    have w2 := s2.waiting
    rw [us_ne _ _ (by omega)] at w1
    rw [us_ne _ _ (by omega), us_ne _ _ (by omega)] at w2
    rw [hg] at w1 w2 s3 f3
    unfold fX3_append
    rw [show X 16 0 = zI (σ 3) from h.waiting, hg, thn_eq, thn_eq, show putX X (16 + 1) 8 (zI (g : Int)) (zI a) 16 0 = zI (g : Int) from w1, thn_eq, bnd_some]
    rw [show putX (putX X (16 + 1) 8 (zI (g : Int)) (zI a)) (16 + 2) 8 (zI (g : Int)) (zI b) 16 0 = zI (g : Int) from w2, zc1, zadd, wr_at]
    have e : ∀ j, j ≠ 3 → j ≠ 176 + g → j ≠ 184 + g → us (us (us σ (176 + g) a) (184 + g) b) 3 ((g : Int) + 1) j = σ j := fun j q1 q2 q3 => by rw [us_ne _ _ q1, us_ne _ _ q3, us_ne _ _ q2]
    have eg : us (us (us σ (176 + g) a) (184 + g) b) 3 ((g : Int) + 1) (184 + g) = b := by rw [us_ne _ _ (by omega), us_at]
    refine ⟨_, _, us (us (us σ (176 + g) a) (184 + g) b) 3 ((g : Int) + 1), rfl, s3, hI.grp (fun j q1 q2 => e j q1 (by omega) (by omega)) (by rw [us_at]; omega) ?_, ?_, us_at _ _ _, fun j q1 q2 => e j q1 (by omega) (by omega)⟩
    · intro q hq hq2
      rw [us_at] at hq2
      by_cases cq : q = g
      · subst cq
        have e1 : us (us (us σ (176 + q) a) (184 + q) b) 3 ((q : Int) + 1) (176 + q) = a := by rw [us_ne _ _ (by omega), us_ne _ _ (by omega), us_at]
        rw [e1, eg]
        exact ⟨c1, c3⟩
      · rw [e _ (by omega) (by omega) (by omega), e _ (by omega) (by omega) (by omega)]
        exact hI.2.2.2.2.1 q hq (by omega)
    · obtain ⟨⟨⟨j6, j7⟩, ⟨q1, q2⟩, hr, ⟨l1, l2⟩, hgm⟩, hx⟩ := hJ
      have hb5 := hI.1.1
      have e' : ∀ j, j ≠ 3 → j < 176 ∨ 192 ≤ j → us (us (us σ (176 + g) a) (184 + g) b) 3 ((g : Int) + 1) j = σ j := fun j q1 q2 => e j q1 (by omega) (by omega)
      refine ⟨⟨⟨by rw [e' 6 (by omega) (by omega)]; exact j6, by rw [e' 7 (by omega) (by omega)]; exact j7⟩, ⟨fun q hq => ?_, fun q hq => ?_⟩, fun r hr' => ?_, ⟨fun k hk => ?_, fun k hk => ?_⟩, fun q => ?_⟩, hx.keep (by omega) (fun j hj => e' j (by omega) (by omega))⟩
      · rw [us_at] at hq
        by_cases cq : q + 1 = g
        · subst cq
          rw [eg, e _ (by omega) (by omega) (by omega)]
          exact hs q (by omega)
        · rw [e _ (by omega) (by omega) (by omega), e _ (by omega) (by omega) (by omega)]
          exact q1 q (by omega)
      · rw [us_at] at hq
        by_cases cq : q = g
        · subst cq; rw [eg]; exact hb
        · rw [e _ (by omega) (by omega) (by omega)]
          have := q2 q (by omega)
          omega
      · rw [e' 4 (by omega) (by omega)] at hr'
        rw [e' _ (by omega) (by omega), e' _ (by omega) (by omega), e' _ (by omega) (by omega), e' _ (by omega) (by omega)]
        exact hr r hr'
      · rw [e' 17 (by omega) (by omega)] at hk
        rw [e' _ (by omega) (by omega)]
        exact l1 k hk
      · rw [e' 17 (by omega) (by omega)] at hk
        rw [e' _ (by omega) (by omega), e' _ (by omega) (by omega)]
        exact l2 k hk
      · rw [e' 10 (by omega) (by omega)] at q
        obtain ⟨g1, g2, g3⟩ := hgm q
        refine ⟨?_, ?_, fun k hk => ?_⟩
        · rw [heldN_c (σ := σ) (e' 1 (by omega) (by omega)) (fun p hp => by have := hI.1.1; exact e' _ (by omega) (by omega)), e' 11 (by omega) (by omega)]; exact g1
        · rw [e' 12 (by omega) (by omega), e' 13 (by omega) (by omega)]; exact g2
        · rw [e' 17 (by omega) (by omega)] at hk
          rw [e' _ (by omega) (by omega), e' 9 (by omega) (by omega), e' 13 (by omega) (by omega)]
          exact g3 k hk
theorem shf_w : ∀ (d i : Nat) (σ : Nat → Int) (g : Nat), i + d ≤ 7 → g < 8 → shf d i σ (184 + g) = if i ≤ g ∧ g < i + d then σ (184 + (g + 1)) else σ (184 + g) := by
  intro d
  induction d with
  | zero => intro i σ g _ _; rw [if_neg (by omega)]; rfl
  | succ d ih =>
    intro i σ g h1 h2
    unfold shf
    rw [ih _ _ _ (by omega) h2]
    by_cases c : g = i
    · subst c
      rw [if_neg (by omega), us_at, if_pos (by omega), show 185 + g = 184 + (g + 1) by omega]
    · by_cases c2 : i + 1 ≤ g ∧ g < i + 1 + d
      · rw [if_pos c2, us_ne _ _ (by omega), us_ne _ _ (by omega), if_pos (by omega)]
      · rw [if_neg c2, us_ne _ _ (by omega), us_ne _ _ (by omega), if_neg (by omega)]
end NC
