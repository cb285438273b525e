section BC
variable {X R : Mem} {σ : Nat → Int} {n : Nat}
theorem groupSize {a : Int} (h1 : -2147483648 ≤ a) (h2 : a ≤ 2147483647) : fX7_isGroupSize X (zI a) = i1 (1 ≤ a ∧ a ≤ 6) := by
  unfold fX7_isGroupSize
  rw [zc1, zc6]
  by_cases c : a < 1
  · rw [if_pos (show zI a < zI 1 by rw [zlt] <;> omega), i1_f (by omega)]
  · rw [if_neg (show ¬ zI a < zI 1 by rw [zlt] <;> omega)]
    by_cases d : 6 < a
    · rw [if_pos (show zI 6 < zI a by rw [zlt] <;> omega), i1_f (by omega)]
    · rw [if_neg (show ¬ zI 6 < zI a by rw [zlt] <;> omega), i1_t (by omega)]; rfl
theorem SRget (h : SR X R σ) {i : Nat} (hi : i < 8) : atX X 17 8 (zI (i : Int)) = zI (σ (176 + i)) ∧ atX X 18 8 (zI (i : Int)) = zI (σ (184 + i)) := by
  have g := loc_g i hi
  have w := loc_w i hi
  have hg := h.s g.1
  have hw := h.s w.1
  rw [g.2.1, g.2.2] at hg
  rw [w.2.1, w.2.2] at hw
  have q := zinb (a := (i : Int)) (n := 8) (by omega) (by omega)
  unfold atX
  rw [if_pos (by rw [q]; omega), if_pos (by rw [q]; omega), ztn (by omega) (by omega), Int.toNat_natCast]
  exact ⟨hg, hw⟩
theorem SRputG (h : SR X R σ) {i : Nat} (hi : i < 8) (v : Int) : SR (putX X 17 8 (zI (i : Int)) (zI v)) (wr R 1 (176 + i) (zI v)) (us σ (176 + i) v) ∧ Fr X R (putX X 17 8 (zI (i : Int)) (zI v)) (wr R 1 (176 + i) (zI v)) := by
  have g := loc_g i hi
  have := h.stat g.1 v
  rw [g.2.1, g.2.2] at this
  rw [put_in hi (by omega)]
  exact this
theorem SRputW (h : SR X R σ) {i : Nat} (hi : i < 8) (v : Int) : SR (putX X 18 8 (zI (i : Int)) (zI v)) (wr R 1 (184 + i) (zI v)) (us σ (184 + i) v) ∧ Fr X R (putX X 18 8 (zI (i : Int)) (zI v)) (wr R 1 (184 + i) (zI v)) := by
  have g := loc_w i hi
  have := h.stat g.1 v
  rw [g.2.1, g.2.2] at this
  rw [put_in hi (by omega)]
  exact this
theorem book_go (h : SR X R σ) (hI : Iv n σ) {a b : Int} (c1 : 1 ≤ a ∧ a ≤ 6) (c3 : 0 ≤ b ∧ b ≤ 100000) : Step (fX7_book_B55 X (zI a) (zI b)) (fX8_book_B53 R (zI a) (zI b) (zI (σ 3))) n X R := by
  have hN := hI.2.1
  unfold fX7_book_B55 fX8_book_B53
  rw [show X 16 0 = zI (σ 3) from h.waiting, zc8]
  by_cases c : σ 3 = 8
  · rw [if_neg (show ¬ zI (σ 3) < zI 8 by rw [zlt] <;> omega), if_pos (show zI (σ 3) = zI 8 by rw [c])]
    exact Step.same h hI _ rfl rfl
  · rw [if_pos (show zI (σ 3) < zI 8 by rw [zlt] <;> omega), if_neg (show ¬ zI (σ 3) = zI 8 by rw [zeq] <;> omega)]
    obtain ⟨g, hg⟩ : ∃ p : Nat, σ 3 = p := ⟨(σ 3).toNat, by omega⟩
    obtain ⟨s1, f1⟩ := SRputG h (i := g) (by omega) a
    obtain ⟨s2, f2⟩ := SRputW s1 (i := g) (by omega) b
    obtain ⟨s3, f3⟩ := s2.stat (j := 3) rfl (σ 3 + 1)
    have w1 := s1.waiting
    have w2 := s2.waiting
    have r2 := rd s2.row 3
    rw [us_ne _ _ (by omega)] at w1
    rw [us_ne _ _ (by omega), us_ne _ _ (by omega)] at w2 r2
    rw [hg] at w1 w2 r2 s3 f3
    unfold fX3_append
    rw [show X 16 0 = zI (σ 3) from h.waiting, hg, thn_eq, thn_eq, show putX X (16 + 1) 8 (zI (g : Int)) (zI a) 16 0 = zI (g : Int) from w1, thn_eq, bnd_some, if_pos (i176 (by omega)), j176 (by omega), thn_eq, if_pos (i184 (by omega)), j184 (by omega), thn_eq, thn_eq]
    rw [show putX (putX X (16 + 1) 8 (zI (g : Int)) (zI a)) (16 + 2) 8 (zI (g : Int)) (zI b) 16 0 = zI (g : Int) from w2, r2, zc1, zadd, wr_at]
    refine ⟨_, _, _, _, rfl, rfl, s3, (f1.trans f2).trans f3, hI.grp (fun j q1 q2 => by rw [us_ne _ _ (by omega), us_ne _ _ (by omega), us_ne _ _ (by omega)]) (by rw [us_at]; omega) ?_⟩
    intro q hq hq2
    rw [us_at] at hq2
    by_cases cq : q = g
    · subst cq
      have e1 : us (us (us σ (176 + q) a) (184 + q) b) 3 ((q : Int) + 1) (176 + q) = a := by rw [us_ne _ _ (by omega), us_ne _ _ (by omega), us_at]
      have e2 : us (us (us σ (176 + q) a) (184 + q) b) 3 ((q : Int) + 1) (184 + q) = b := by rw [us_ne _ _ (by omega), us_at]
      rw [e1, e2]
      exact ⟨c1, c3⟩
    · have e1 : us (us (us σ (176 + g) a) (184 + g) b) 3 ((g : Int) + 1) (176 + q) = σ (176 + q) := by rw [us_ne _ _ (by omega), us_ne _ _ (by omega), us_ne _ _ (by omega)]
      have e2 : us (us (us σ (176 + g) a) (184 + g) b) 3 ((g : Int) + 1) (184 + q) = σ (184 + q) := by rw [us_ne _ _ (by omega), us_ne _ _ (by omega), us_ne _ _ (by omega)]
      rw [e1, e2]
      exact hI.2.2.2.2.1 q hq (by omega)
theorem book_ok (h : SR X R σ) (hI : Iv n σ) (x y : Int32) : Step (fX7_book X x y) (fX8_book R x y) n X R := by
  have hN := hI.2.1
  obtain ⟨a, ha1, ha2, rfl⟩ := zof x
  obtain ⟨b, hb1, hb2, rfl⟩ := zof y
  unfold fX7_book fX8_book
  rw [groupSize ha1 ha2, show fX8_in R (zI a) (1 : Int32) (6 : Int32) = i1 (1 ≤ a ∧ a ≤ 6) from R_in (a := a) (b := 1) (c := 6) ha1 ha2 (by omega) (by omega) (by omega) (by omega), show fX8_in R (zI b) (0 : Int32) (100000 : Int32) = i1 (0 ≤ b ∧ b ≤ 100000) from R_in (a := b) (b := 0) (c := 100000) hb1 hb2 (by omega) (by omega) (by omega) (by omega)]
  by_cases c1 : 1 ≤ a ∧ a ≤ 6
  · rw [i1_t c1, it1, it1]
    by_cases c3 : 0 ≤ b ∧ b ≤ 100000
    · rw [if_neg (show ¬ zI b < 0 by rw [zc0, zlt] <;> omega), if_pos (show zI b ≤ 100000 by rw [zc100000, zle] <;> omega), i1_t c3, it1, show X 16 0 = zI (σ 3) from h.waiting, rd h.row]
      by_cases c4 : σ 3 ≤ 0
      · rw [if_pos (show zI (σ 3) ≤ 0 by rw [zc0, zle] <;> omega), if_pos (show zI (σ 3) ≤ 0 by rw [zc0, zle] <;> omega)]
        exact book_go h hI c1 c3
      · rw [if_neg (show ¬ zI (σ 3) ≤ 0 by rw [zc0, zle] <;> omega), if_neg (show ¬ zI (σ 3) ≤ 0 by rw [zc0, zle] <;> omega)]
        obtain ⟨g, hg⟩ : ∃ p : Nat, σ 3 = p + 1 := ⟨(σ 3 - 1).toNat, by omega⟩
        have hgg := hI.2.2.2.2.1 g (by omega) (by omega)
        rw [show zI (σ 3) - 1 = zI (g : Int) by rw [zc1, zsub, hg]; congr 1; omega, (SRget h (i := g) (by omega)).2, show (184 : Int32) + zI (σ 3) - 1 = zI (184 + (g : Int)) by rw [zc184, zc1, zadd, zsub, hg]; congr 1; omega, if_pos (show inb (zI (184 + (g : Int))) 902 = true by rw [zinb (by omega) (by omega)]; omega), ztn (by omega) (by omega), tn184, rd h.row]
        by_cases c5 : σ (184 + g) ≤ b
        · rw [if_pos (show zI (σ (184 + g)) ≤ zI b by rw [zle] <;> omega), if_pos (show zI (σ (184 + g)) ≤ zI b by rw [zle] <;> omega)]
          exact book_go h hI c1 c3
        · rw [if_neg (show ¬ zI (σ (184 + g)) ≤ zI b by rw [zle] <;> omega), if_neg (show ¬ zI (σ (184 + g)) ≤ zI b by rw [zle] <;> omega)]
          exact Step.same h hI _ rfl rfl
    · rw [i1_f c3, it0]
      by_cases c5 : b < 0
      · rw [if_pos (by rw [zc0, zlt] <;> omega)]
        exact Step.same h hI _ rfl rfl
      · rw [if_neg (by rw [zc0, zlt] <;> omega), if_neg (by rw [zc100000, zle] <;> omega)]
        exact Step.same h hI _ rfl rfl
  · rw [i1_f c1]
    exact Step.same h hI _ rfl rfl
/-- the groups from i on move down -/
def shf : Nat → Nat → (Nat → Int) → (Nat → Int)
  | 0, _, σ => σ
  | d + 1, i, σ => shf d (i + 1) (us (us σ (176 + i) (σ (177 + i))) (184 + i) (σ (185 + i)))
theorem shf_ne : ∀ (d i : Nat) (σ : Nat → Int) (j : Nat), i + d ≤ 7 → j < 176 ∨ 192 ≤ j → shf d i σ j = σ j := by
  intro d
  induction d with
  | zero => intro i σ j _ _; rfl
  | succ d ih =>
    intro i σ j h1 h2
    unfold shf
    rw [ih _ _ _ (by omega) h2, us_ne _ _ (by omega), us_ne _ _ (by omega)]
theorem shf_us : ∀ (d i : Nat) (σ : Nat → Int) (v : Int), i + d ≤ 7 → us (shf d i σ) 3 v = shf d i (us σ 3 v) := by
  intro d
  induction d with
  | zero => intro i σ v _; rfl
  | succ d ih =>
    intro i σ v h1
    unfold shf
    rw [ih _ _ _ (by omega)]
    congr 1
    funext j
    rw [us_ne σ v (show 177 + i ≠ 3 by omega), us_ne σ v (show 185 + i ≠ 3 by omega)]
    by_cases q3 : j = 3
    · subst q3
      rw [us_at, us_ne _ _ (by omega), us_ne _ _ (by omega), us_at]
    · rw [us_ne _ _ q3]
      by_cases q1 : j = 184 + i
      · subst q1; rw [us_at, us_at]
      · rw [us_ne _ _ q1, us_ne _ _ q1]
        by_cases q2 : j = 176 + i
        · subst q2; rw [us_at, us_at]
        · rw [us_ne _ _ q2, us_ne _ _ q2, us_ne _ _ q3]
theorem shf_g {N : Int} : ∀ (d i : Nat) (σ : Nat → Int), (i : Int) + d + 1 = N → N ≤ 8 → (∀ g : Nat, g < 8 → (g : Int) < N → (1 ≤ σ (176 + g) ∧ σ (176 + g) ≤ 6) ∧ (0 ≤ σ (184 + g) ∧ σ (184 + g) ≤ 100000)) → ∀ g : Nat, g < 8 → (g : Int) < N → (1 ≤ shf d i σ (176 + g) ∧ shf d i σ (176 + g) ≤ 6) ∧ (0 ≤ shf d i σ (184 + g) ∧ shf d i σ (184 + g) ≤ 100000) := by
  intro d
  induction d with
  | zero => intro i σ _ _ h; exact h
  | succ d ih =>
    intro i σ h1 h2 h g hg1 hg2
    unfold shf
    refine ih (i + 1) _ (by omega) h2 (fun q hq1 hq2 => ?_) g hg1 hg2
    have hn := h (i + 1) (by omega) (by omega)
    have e1 : us (us σ (176 + i) (σ (177 + i))) (184 + i) (σ (185 + i)) (176 + q) = if q = i then σ (177 + i) else σ (176 + q) := by
      by_cases c : q = i
      · subst c; rw [us_ne _ _ (by omega), us_at, if_pos rfl]
      · rw [us_ne _ _ (by omega), us_ne _ _ (by omega), if_neg c]
    have e2 : us (us σ (176 + i) (σ (177 + i))) (184 + i) (σ (185 + i)) (184 + q) = if q = i then σ (185 + i) else σ (184 + q) := by
      by_cases c : q = i
      · subst c; rw [us_at, if_pos rfl]
      · rw [us_ne _ _ (by omega), us_ne _ _ (by omega), if_neg c]
    rw [e1, e2]
    by_cases c : q = i
    · rw [if_pos c, if_pos c, show 177 + i = 176 + (i + 1) by omega, show 185 + i = 184 + (i + 1) by omega]
      exact hn
    · rw [if_neg c, if_neg c]
      exact h q hq1 hq2
theorem X_remove_L {N : Int} (hN : N ≤ 8) : ∀ (d i m : Nat) (X : Mem) (σ : Nat → Int), St X 3 σ → σ 3 = N → (i : Int) + d + 1 = N → d < m → ∃ X', fX3_remove_L4 16 m X (zI ((i + 1 : Nat) : Int)) = some X' ∧ St X' 3 (us (shf d i σ) 3 (N - 1)) ∧ FX X X' := by
  intro d
  induction d with
  | zero =>
    intro i m X σ hs h3 hi hm
    obtain ⟨m, rfl⟩ := ex_succ hm
    have s1 := hs.stat (j := 3) rfl (N - 1)
    refine ⟨_, ?_, s1, fun k hk => wr_k X _ _ (show k ≠ 3 + 13 by omega)⟩
    have w := hs.sr.waiting
    rw [fX3_remove_L4, w, h3, if_pos (by rw [zle] <;> omega), thn_eq, zc1, zsub]
    rfl
  | succ d ih =>
    intro i m X σ hs h3 hi hm
    obtain ⟨m, rfl⟩ := ex_succ hm
    have w := hs.sr.waiting
    obtain ⟨s1, f1⟩ := SRputG hs.sr (i := i) (by omega) (σ (176 + (i + 1)))
    obtain ⟨s2, f2⟩ := SRputW s1 (i := i) (by omega) (σ (184 + (i + 1)))
    obtain ⟨X', q1, q2, q3⟩ := ih (i + 1) m _ _ s2.1 (by rw [us_ne _ _ (by omega), us_ne _ _ (by omega)]; exact h3) (by omega) (by omega)
    have g1 := (SRget hs.sr (i := i + 1) (by omega)).1
    have g2 := (SRget s1 (i := i + 1) (by omega)).2
    rw [us_ne _ _ (by omega)] at g2
    refine ⟨X', ?_, ?_, fun k hk => (q3 k hk).trans (((f1.trans f2).1) k hk)⟩
    · rw [fX3_remove_L4, w, h3, if_neg (by rw [zle] <;> omega), show zI ((i + 1 : Nat) : Int) - 1 = zI (i : Int) by rw [zc1, zsub]; congr 1; omega, show atX X (16 + 1) 8 (zI ((i + 1 : Nat) : Int)) = zI (σ (176 + (i + 1))) from g1, thn_eq, show atX (putX X (16 + 1) 8 (zI (i : Int)) (zI (σ (176 + (i + 1))))) (16 + 2) 8 (zI ((i + 1 : Nat) : Int)) = zI (σ (184 + (i + 1))) from g2, thn_eq, zsuc]
      exact q1
    · unfold shf
      rw [show 177 + i = 176 + (i + 1) by omega, show 185 + i = 184 + (i + 1) by omega]
      exact q2
theorem R_remove_L {N : Int} (hN : N ≤ 8) : ∀ (d i m : Nat) (R : Mem) (σ : Nat → Int), R 1 = enc σ → σ 3 = N - 1 → (i : Int) + d + 1 = N → d < m → ∃ R', fX8_removeGroup_L12 m R (zI (i : Int)) = some R' ∧ R' 1 = enc (shf d i σ) ∧ FR R R' := by
  intro d
  induction d with
  | zero =>
    intro i m R σ hR h3 hi hm
    obtain ⟨m, rfl⟩ := ex_succ hm
    exact ⟨R, by rw [fX8_removeGroup_L12, rd hR, h3, if_pos (by rw [zle] <;> omega)], hR, fun _ _ _ => rfl, rfl⟩
  | succ d ih =>
    intro i m R σ hR h3 hi hm
    obtain ⟨m, rfl⟩ := ex_succ hm
    have h1 := wrR hR (176 + i) (σ (177 + i))
    have h2 := wrR h1 (184 + i) (σ (185 + i))
    obtain ⟨R', q1, q2, q3⟩ := ih (i + 1) m _ _ h2 (by rw [us_ne _ _ (by omega), us_ne _ _ (by omega)]; exact h3) (by omega) (by omega)
    refine ⟨R', ?_, q2, ?_⟩
    · rw [fX8_removeGroup_L12, rd hR, h3, if_neg (by rw [zle] <;> omega), show (176 : Int32) + zI (i : Int) + 1 = zI (177 + (i : Int)) by rw [zc176, zc1, zadd, zadd]; congr 1; omega, show (184 : Int32) + zI (i : Int) + 1 = zI (185 + (i : Int)) by rw [zc184, zc1, zadd, zadd]; congr 1; omega, if_pos (by rw [zinb (by omega) (by omega)]; omega), if_pos (i176 (by omega)), j176 (by omega), ztn (by omega) (by omega), rd hR, show ((177 : Int) + i).toNat = 177 + i by omega, thn_eq, if_pos (by rw [zinb (by omega) (by omega)]; omega), if_pos (i184 (by omega)), j184 (by omega), ztn (by omega) (by omega), rd h1, show ((185 : Int) + i).toNat = 185 + i by omega, us_ne _ _ (by omega), thn_eq, zsuc]
      exact q1
    · refine ⟨fun k k1 k2 => ?_, ?_⟩
      · rw [q3.1 k k1 k2, wr_k _ _ _ (by omega), wr_k _ _ _ (by omega)]
      · rw [q3.2, wr_k _ _ _ (by omega), wr_k _ _ _ (by omega)]
theorem remove_ok (h : SR X R σ) (h3 : 0 ≤ σ 3 ∧ σ 3 ≤ 8) {i : Nat} (hi : (i : Int) < σ 3) : ∃ X' R', fX3_remove 16 X (zI (i : Int)) = some X' ∧ fX8_removeGroup R (zI (i : Int)) = some R' ∧ SR X' R' (us (shf (σ 3 - 1 - i).toNat i σ) 3 (σ 3 - 1)) ∧ Fr X R X' R' := by
  obtain ⟨X', a1, a2, a3⟩ := X_remove_L (N := σ 3) h3.2 (σ 3 - 1 - i).toNat i 5000 X σ h.1 rfl (by omega) (by omega)
  obtain ⟨R', b1, b2, b3⟩ := R_remove_L (N := σ 3) h3.2 (σ 3 - 1 - i).toNat i 5000 _ _ (wrR h.row 3 (σ 3 - 1)) (us_at _ _ _) (by omega) (by omega)
  refine ⟨X', R', ?_, ?_, ⟨a2, ?_⟩, a3, ?_⟩
  · unfold fX3_remove
    rw [zsuc]; exact a1
  · unfold fX8_removeGroup
    rw [rd h.row, zc1, zsub, thn_eq]; exact b1
  · rw [b2, shf_us _ _ _ _ (by omega)]
  · exact ⟨fun k k1 k2 => by rw [b3.1 k k1 k2, wr_k _ _ _ (by omega)], by rw [b3.2, wr_k _ _ _ (by omega)]⟩
theorem hasGroup (h : SR X R σ) (h3 : 0 ≤ σ 3 ∧ σ 3 ≤ 8) {a : Int} (h1 : -2147483648 ≤ a) (h2 : a ≤ 2147483647) : fX3_hasGroup 16 X (zI a) = i1 (0 ≤ a ∧ a < σ 3) := by
  unfold fX3_hasGroup
  rw [h.waiting, zc0]
  by_cases c : a < 0
  · rw [if_pos (by rw [zlt] <;> omega), i1_f (by omega)]; rfl
  · rw [if_neg (by rw [zlt] <;> omega)]
    by_cases d : σ 3 ≤ a
    · rw [if_pos (by rw [zle] <;> omega), i1_f (by omega)]; rfl
    · rw [if_neg (by rw [zle] <;> omega), i1_t (by omega)]
theorem noGroup (h : SR X R σ) (h3 : 0 ≤ σ 3 ∧ σ 3 ≤ 8) {a : Int} (h1 : -2147483648 ≤ a) (h2 : a ≤ 2147483647) : fX8_noGroup R (zI a) = some (i1 (¬ (0 ≤ a ∧ a < σ 3))) := by
  unfold fX8_noGroup
  rw [rd h.row, zc1, zsub, show fX8_in R (zI a) (0 : Int32) (zI (σ 3 - 1)) = i1 (0 ≤ a ∧ a ≤ σ 3 - 1) from R_in (a := a) (b := 0) (c := σ 3 - 1) h1 h2 (by omega) (by omega) (by omega) (by omega)]
  by_cases c : 0 ≤ a ∧ a < σ 3
  · rw [i1_t (by omega), it1, i1_f (by omega)]
  · rw [i1_f (by omega), it0, i1_t c]; rfl
theorem cancel_ok (h : SR X R σ) (hI : Iv n σ) (x : Int32) : Step (fX7_cancel X x) (fX8_cancel R x) n X R := by
  have hN := hI.2.1
  obtain ⟨a, ha1, ha2, rfl⟩ := zof x
  unfold fX7_cancel fX8_cancel
  rw [hasGroup h hN.1 ha1 ha2, noGroup h hN.1 ha1 ha2, bnd_some]
  by_cases c1 : 0 ≤ a ∧ a < σ 3
  · obtain ⟨i, rfl⟩ : ∃ p : Nat, a = p := ⟨a.toNat, by omega⟩
    obtain ⟨X', R', a1, b1, s1, f1⟩ := remove_ok h hN.1 c1.2
    rw [i1_t c1, i1_f (by omega), it1, it0, a1, bnd_some, b1, bnd_some]
    refine ⟨_, X', R', _, rfl, ?_, s1, f1, hI.grp (fun j q1 q2 => by rw [us_ne _ _ q1, shf_ne _ _ _ _ (by omega) q2]) (by rw [us_at]; omega) (fun g hg hg2 => ?_)⟩
    · rw [rd s1.row, s1.waiting]
    · rw [us_at] at hg2
      rw [us_ne _ _ (by omega), us_ne _ _ (by omega)]
      exact shf_g (N := σ 3) _ _ σ (by omega) hN.1.2 hI.2.2.2.2.1 g hg (by omega)
  · rw [i1_f c1, i1_t c1]
    exact Step.same h hI _ rfl rfl
end BC
