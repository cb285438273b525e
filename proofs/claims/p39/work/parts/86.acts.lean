/-! the law's acts -/
theorem max_n {a b : Int} (M : Mem) (h1 : -2147483648 ≤ a) (h2 : a ≤ 2147483647) (h3 : -2147483648 ≤ b) (h4 : b ≤ 2147483647) : fL_max M (zI a) (zI b) = zI (max a b) := by
  unfold fL_max
  simp only [zle h1 h2 h3 h4, zlt h1 h2 h3 h4, zlt h3 h4 h1 h2, zle h3 h4 h1 h2]
  split
  · congr 1; omega
  · congr 1; omega
section AT
variable {X R : Mem} {σ : Nat → Int} {n : Nat} {B : Int}
theorem b500_d {X' : Mem} {σ' : Nat → Int} {m l v : Int} (hI : Iv n σ) (hn : n ≤ 600) (d : DnP B n σ m X' σ') (hm : 0 ≤ m ∧ m ≤ l) (hl : l ≤ 1000) (hv : -6 < v ∧ v ≤ 100000) (x8 : Int32) : fL_acts_B500 X' (zI (σ 9)) (zI l) x8 (zI v) (zI m) = some (1, X') := by
  obtain ⟨R', s', I', J', t⟩ := d
  have hN := hI.2.1
  unfold fL_acts_B500
  rw [if_neg (show ¬ zI v = -6 by rw [zm6, zeq] <;> omega), if_neg (show ¬ zI l < zI m by rw [zlt] <;> omega), q_c5 s', bnd_some, zadd, if_pos (show zI (σ' 9) = zI (σ 9 + m) by rw [t])]
theorem b500_s {l v : Int} (h : SR X R σ) (hl : 0 ≤ l ∧ l ≤ 1000) (hv : -6 < v ∧ v ≤ 100000) (x8 : Int32) : fL_acts_B500 X (zI (σ 9)) (zI l) x8 (zI v) 0 = some (1, X) := by
  unfold fL_acts_B500
  rw [if_neg (show ¬ zI v = -6 by rw [zm6, zeq] <;> omega), if_neg (show ¬ zI l < 0 by rw [zc0, zlt] <;> omega), q_c5 h, bnd_some, if_pos (z_0 _).symm]
theorem b500_o {X' : Mem} {σ' : Nat → Int} {m : Int} (hI : Iv n σ) (hn : n ≤ 600) (c2 : σ 10 = 1) (d : OvP B n σ X' σ') (hm : σ 13 + σ 6 - σ 9 < m ∧ m ≤ 100000) : fL_acts_B500 X' (zI (σ 9)) (zI (σ 13 + σ 6 - σ 9)) (zI (σ 4)) (zI (-6)) (zI m) = some (1, X') := by
  obtain ⟨R', s', I', J', t9, t10, t4, t195, t6⟩ := d
  have hN := hI.2.1
  have hp := (hI.2.2.1 c2).1
  obtain ⟨r, hr⟩ : ∃ r : Nat, σ 4 = r := ⟨(σ 4).toNat, by omega⟩
  have hrt : (σ 4).toNat = r := by omega
  rw [hrt] at t195
  unfold fL_acts_B500
  rw [if_pos (show zI (-6) = -6 from rfl), if_neg (show ¬ zI m ≤ zI (σ 13 + σ 6 - σ 9) by rw [zle] <;> omega), q_c5 s', bnd_some, zadd, if_pos (show zI (σ' 9) = zI (σ 9 + (σ 13 + σ 6 - σ 9)) by congr 1; omega), q_c14 s' I', bnd_some, i1_f (by omega), if_pos rfl, q_c7 s', bnd_some, zc1, zadd, if_pos (show zI (σ' 4) = zI (σ 4 + 1) by rw [t4]), q_c12 s', bnd_some, hr, show (3 : Int32) = zI ((3 : Nat) : Int) from rfl, q_res s' I' (by omega) (by omega), show 192 + 3 + 7 * r = 195 + 7 * r by omega, t195, t6, if_pos rfl]
theorem give_n (h : SR X R σ) (hI : Iv n σ) (hJ : J B σ) (hn : n ≤ 600) (c2 : σ 10 = 1) : ∃ X', fL_acts_B453 X (zI (σ 9)) (zI (σ 13 + σ 6 - σ 9)) (zI (σ 4)) = some (1, X') ∧ Out B n X' := by
  have hN := hI.2.1
  obtain ⟨X', R', σ', a1, s', I', J', t6, t10, t4, t196⟩ := giveUp_n h hI hJ hn c2
  obtain ⟨r, hr⟩ : ∃ r : Nat, σ 4 = r := ⟨(σ 4).toNat, by omega⟩
  have hrt : (σ 4).toNat = r := by omega
  rw [hrt] at t196
  unfold fL_acts_B453
  rw [a1, bnd_some]
  dsimp only
  rw [q_c12 s', bnd_some, zadd, zsub, zsub, if_pos (show zI (σ 9 - σ 13) = zI (σ 9 - (σ 9 + (σ 13 + σ 6 - σ 9) - σ' 6)) by congr 1; omega), q_c14 s' I', bnd_some, i1_f (by omega), if_pos rfl, hr, show (4 : Int32) = zI ((4 : Nat) : Int) from rfl, q_res s' I' (by omega) (by omega), show 192 + 4 + 7 * r = 196 + 7 * r by omega, t196, if_pos (show zI 0 = 0 from rfl)]
  exact ⟨X', rfl, R', σ', s', I', J'⟩
theorem acts_n (h : SR X R σ) (hI : Iv n σ) (hJ : J B σ) (hn : n ≤ 600) (c2 : σ 10 = 1) (f g : Int32) : ∃ X', fL_acts X f g = some (1, X') ∧ Out B n X' := by
  have hB := hI.1
  have h0 := hB.1
  have hN := hI.2.1
  have hp := (hI.2.2.1 c2).1
  have same : Out B n X := ⟨R, σ, h, hI.mono (by omega), hJ⟩
  obtain ⟨r, r1, r2⟩ := low_n f (m := 7) (by omega)
  have give := give_n h hI hJ hn c2
  have hS : (told (stp σ) = -5 ∧ stp σ = -5) ∨ (0 ≤ told (stp σ) ∧ told (stp σ) ≤ 20000 ∧ stp σ ≠ -5) := by
    obtain ⟨R0, -, -, r3⟩ := R_step h.row hB hp.1 hp.2.1
    rcases r3 with r3 | ⟨r1, r2, -⟩
    · rw [r3]; exact Or.inl ⟨rfl, rfl⟩
    · refine Or.inr ⟨told_r r1, ?_, by omega⟩
      unfold told; split <;> omega
  have hdoes := does_n h hI hJ hn c2
  have hnd := nudge_n h hI hJ hn c2
  unfold fL_acts
  rw [show fL_low X f (7 : Int32) = some (zI r) from r2 X, bnd_some, q_c5 h, bnd_some, q_game2 h hI c2, bnd_some, q_game0 h hI c2, bnd_some, q_step h hI c2, bnd_some, q_c7 h, bnd_some]
  generalize hA : told (stp σ) = a at *
  have b339 : ∀ x3 : Int32, ∃ X', fL_acts_B339 X g x3 (zI (σ 9)) (zI (σ 13 + σ 6 - σ 9)) (zI (σ 11) / 2) (zI (σ 4)) = some (1, X') ∧ Out B n X' := by
    intro x3
    unfold fL_acts_B339
    by_cases c : x3 = 6
    · rw [if_pos c, q_c1 h, bnd_some]
      by_cases cp : σ 1 ≤ 0
      · rw [if_pos (show zI (σ 1) ≤ 0 by rw [zc0, zle] <;> omega)]
        exact give
      · rw [if_neg (show ¬ zI (σ 1) ≤ 0 by rw [zc0, zle] <;> omega), bnd_some]
        obtain ⟨p, p1, p2⟩ := low_n g (m := σ 1) (by omega)
        obtain ⟨p, rfl⟩ : ∃ j : Nat, p = j := ⟨p.toNat, by omega⟩
        rw [p2, bnd_some, q_prop2 h hI p1.2, bnd_some]
        have go : ∀ x12 : Int32, ((σ (104 + p) ≠ -1 ∧ ph σ p) → x12 = 1) → ∃ X', fL_acts_B392 X (zI (σ 9)) (zI (σ 13 + σ 6 - σ 9)) (zI (σ 11) / 2) (zI (σ 4)) (zI (p : Int)) x12 = some (1, X') ∧ Out B n X' := by
          intro x12 hx
          have ea : ∀ M : Mem, fL_max M (1 : Int32) ((3 : Int32) - zI (σ 11) / 2) = zI (am 3 (σ 11)) := fun M => by
            rw [zc2, zdiv (by omega) (by omega) (by omega) (by omega), zc3, zsub, zc1, max_n M (by omega) (by omega) (by omega) (by omega)]
            rfl
          have hm := am_b 3 (σ 11) (by omega) (by omega)
          unfold fL_acts_B392
          rcases take_n h hI hJ hn c2 p1.2 with ⟨v, hv, tk⟩ | ⟨ok, ⟨le, X', σ', v, tk, v0, v1, t104, t1, d⟩ | ⟨lt, X', σ', tk, d⟩⟩
          · have hv2 : v = -4 ∨ v = -3 := by omega
            rw [tk, bnd_some]
            dsimp only
            rw [if_neg (show ¬ (0 : Int32) ≤ zI v by rw [zc0, zle] <;> omega), if_neg (show ¬ zI v = -6 by rw [zm6, zeq] <;> omega)]
            unfold fL_acts_B426
            rw [if_pos (show zI v ≤ 0 by rw [zc0, zle] <;> omega), b500_s h (by omega) (by omega)]
            exact ⟨X, rfl, same⟩
          · rw [tk, bnd_some]
            dsimp only
            rw [if_pos (show (0 : Int32) ≤ zI v by rw [zc0, zle] <;> omega)]
            unfold fL_acts_B416
            rw [ea, thn_eq]
            unfold fL_acts_B426
            have e5 := b500_d (B := B) hI hn d (by omega) (l := σ 13 + σ 6 - σ 9) (by omega) (v := v) (by omega) (zI (σ 4))
            by_cases cv : v ≤ 0
            · rw [if_pos (show zI v ≤ 0 by rw [zc0, zle] <;> omega), e5]
              exact ⟨X', rfl, d.out⟩
            · obtain ⟨R', s', I', J', -⟩ := id d
              rw [if_neg (show ¬ zI v ≤ 0 by rw [zc0, zle] <;> omega), hx ok, if_neg (by decide), q_prop1 s' I' (by omega), bnd_some, if_pos t104, if_pos (show zI (-5) = -5 from rfl), e5]
              exact ⟨X', rfl, d.out⟩
          · rw [tk, bnd_some]
            dsimp only
            rw [if_neg (by decide), if_pos (show zI (-6) = -6 from rfl)]
            unfold fL_acts_B416
            rw [ea, thn_eq]
            unfold fL_acts_B426
            rw [if_pos (by decide), b500_o hI hn c2 d (by omega)]
            exact ⟨X', rfl, d.out⟩
        by_cases c4 : ph σ p
        · rw [i1_t c4, if_pos rfl, q_prop1 h hI p1.2, bnd_some]
          have hpr := pr hB p1.2
          by_cases c3 : σ (104 + p) = -1
          · rw [if_pos c3, if_pos (by decide)]
            exact go 0 (fun q => absurd c3 q.1)
          · rw [if_neg c3, if_neg (show ¬ zI (σ (104 + p)) < 0 by rw [zc0, zlt] <;> omega)]
            exact go 1 (fun _ => rfl)
        · rw [i1_f c4, if_neg (by decide)]
          exact go 0 (fun q => absurd q.2 c4)
    · rw [if_neg c]
      exact give
  by_cases c3 : 3 ≤ r
  · rw [if_pos (show (3 : Int32) ≤ zI r by rw [zc3, zle] <;> omega)]
    by_cases k3 : r = 3
    · -- a rest
      rw [if_pos (show zI r = 3 by rw [k3]; rfl)]
      obtain ⟨w, w1, w2⟩ := low_n g (m := 9) (by omega)
      rw [show fL_low X g (9 : Int32) = some (zI w) from w2 X, bnd_some, zc1, zadd]
      rcases rest_n h hI hJ hn c2 (a := 1 + w) (by omega) with ⟨le, X', σ', v, rs, v0, v1, d⟩ | ⟨lt, X', σ', rs, d⟩
      · rw [rs, bnd_some]
        dsimp only
        rw [show fL_low X' g (9 : Int32) = some (zI w) from w2 X', bnd_some, zadd, b500_d (B := B) hI hn d (by omega) (by omega) (by omega)]
        exact ⟨X', rfl, d.out⟩
      · rw [rs, bnd_some]
        dsimp only
        rw [show fL_low X' g (9 : Int32) = some (zI w) from w2 X', bnd_some, zadd, b500_o hI hn c2 d (by omega)]
        exact ⟨X', rfl, d.out⟩
    rw [if_neg (show ¬ zI r = 3 by rw [zc3, zeq] <;> omega)]
    by_cases k4 : r = 4
    · -- a nudge
      rw [if_pos (show zI r = 4 by rw [k4]; rfl), q_game3 h hI c2, bnd_some, q_c13 h, bnd_some]
      rcases hnd with ⟨e14, nd⟩ | ⟨e14, q, nd⟩ | ⟨e14, q, ⟨le, X', σ', nd, d⟩ | ⟨lt, X', σ', nd, d⟩⟩
      · rw [nd, bnd_some, if_pos (show zI (σ 14) = zI (σ 7) by rw [e14])]
        unfold fL_acts_B150
        dsimp only
        rw [if_neg (show ¬ zI (-3) = -6 by decide), if_pos (show zI (σ 14) = zI (σ 7) by rw [e14]), if_pos (show zI (-3) = -3 from rfl), b500_s h (by omega) (by omega)]
        exact ⟨X, rfl, same⟩
      · have ha : a = -5 := by omega
        have e14' : ¬ zI (σ 14) = zI (σ 7) := by rw [zeq] <;> omega
        rw [nd, bnd_some, if_neg e14', ha, if_pos (show zI (-5) = -5 from rfl)]
        unfold fL_acts_B150
        dsimp only
        rw [if_neg (show ¬ zI (-5) = -6 by decide), if_neg e14', if_pos rfl, b500_s h (by omega) (by omega)]
        exact ⟨X, rfl, same⟩
      · have e14' : ¬ zI (σ 14) = zI (σ 7) := by rw [zeq] <;> omega
        rw [nd, bnd_some, if_neg e14', if_neg (show ¬ zI a = -5 by rw [zm5, zeq] <;> omega)]
        unfold fL_acts_B150
        dsimp only
        rw [if_neg (show ¬ zI a = -6 by rw [zm6, zeq] <;> omega), if_neg e14', if_pos rfl, zc2, b500_d (B := B) hI hn d (by omega) (by omega) (by omega)]
        exact ⟨X', rfl, d.out⟩
      · have e14' : ¬ zI (σ 14) = zI (σ 7) := by rw [zeq] <;> omega
        rw [nd, bnd_some, if_neg e14', if_neg (show ¬ zI a = -5 by rw [zm5, zeq] <;> omega)]
        unfold fL_acts_B150
        dsimp only
        rw [if_pos (show zI (-6) = -6 from rfl), zc2, b500_o hI hn c2 d (by omega)]
        exact ⟨X', rfl, d.out⟩
    rw [if_neg (show ¬ zI r = 4 by rw [zc4, zeq] <;> omega)]
    by_cases k5 : r = 5
    · -- a box is opened, with a wrong code
      rw [if_pos (show zI r = 5 by rw [k5]; rfl), q_c0 h, bnd_some]
      by_cases c0 : σ 0 ≤ 1
      · rw [if_pos (show zI (σ 0) ≤ 1 by rw [zc1, zle] <;> omega)]
        exact b339 _
      · rw [if_neg (show ¬ zI (σ 0) ≤ 1 by rw [zc1, zle] <;> omega), bnd_some, zc1, zsub]
        obtain ⟨w, w1, w2⟩ := low_n g (m := σ 0 - 1) (by omega)
        rw [w2, bnd_some, zadd]
        obtain ⟨b, hb⟩ : ∃ b : Nat, 1 + w = b := ⟨(1 + w).toNat, by omega⟩
        rw [hb, show (zI 1 : Int32) = 1 from rfl]
        have b1 : 1 ≤ b := by omega
        have b2 : (b : Int) < σ 0 := by omega
        have hbp := bp hB b1 b2
        have hop := bop hB (b := b) (by omega)
        have hm := am_b 4 (σ 11) (by omega) (by omega)
        have ea : ∀ M : Mem, fL_max M (1 : Int32) ((4 : Int32) - zI (σ 11) / 2) = zI (am 4 (σ 11)) := fun M => by
          rw [zc2, zdiv (by omega) (by omega) (by omega) (by omega), zc4, zsub, zc1, max_n M (by omega) (by omega) (by omega) (by omega)]
          rfl
        -- the mark of a code, and that of a box that can be opened
        have go : ∀ q x13 : Int32, (σ (32 + b) = 2 → q = 1) → (σ (32 + b) ≠ 2 → q = 0) → ((σ (56 + b) ≠ 1 ∧ bh σ b) → x13 = 1) → ∃ X', fL_acts_B256 X (zI (σ 9)) (zI (σ 13 + σ 6 - σ 9)) (zI (σ 11) / 2) (zI (σ 4)) (zI (b : Int)) q x13 = some (1, X') ∧ Out B n X' := by
          intro q x13 hq1 hq0 hx
          have hw : (σ (32 + b) = 2 ∧ wrg σ b (-1) = 1) ∨ (σ (32 + b) ≠ 2 ∧ wrg σ b (-1) = 0) := by
            by_cases c : σ (32 + b) = 2
            · have h44 := hbp.2.2.2 c
              exact Or.inl ⟨c, by unfold wrg; rw [if_pos ⟨c, by rw [zm1, ne_eq, zeq] <;> omega⟩]⟩
            · exact Or.inr ⟨c, by unfold wrg; rw [if_neg (fun z => c z.1)]⟩
          have b281 : ∀ (M : Mem) (v : Int32), fL_acts_B281 M (zI (σ 9)) (zI (σ 13 + σ 6 - σ 9)) (zI (σ 11) / 2) (zI (σ 4)) v q x13 = fL_acts_B309 M (zI (σ 9)) (zI (σ 13 + σ 6 - σ 9)) (zI (σ 4)) v (zI (am 4 (σ 11) * (1 + wrg σ b (-1)))) q x13 := by
            intro M v
            unfold fL_acts_B281
            rcases hw with ⟨w1, w2⟩ | ⟨w1, w2⟩
            · rw [hq1 w1, if_neg (by decide), ea, w2, zc2, zmul, thn_eq, show 2 * am 4 (σ 11) = am 4 (σ 11) * (1 + 1) by omega]
            · rw [hq0 w1, if_pos rfl, ea, w2, thn_eq, show am 4 (σ 11) * (1 + 0) = am 4 (σ 11) by omega]
          have hmm : 1 ≤ am 4 (σ 11) * (1 + wrg σ b (-1)) ∧ am 4 (σ 11) * (1 + wrg σ b (-1)) ≤ 200 := by
            rcases hw with ⟨w1, w2⟩ | ⟨w1, w2⟩ <;> rw [w2] <;> omega
          unfold fL_acts_B256
          rcases open_n h hI hJ hn c2 b1 b2 (-1) with ⟨no, op⟩ | ⟨can, ⟨le, X', σ', v, op, v0, d⟩ | ⟨lt, X', σ', op, d⟩⟩
          · rw [op, bnd_some]
            dsimp only
            rw [if_neg (by decide), if_neg (show ¬ zI (-4) = -6 by decide)]
            unfold fL_acts_B309
            rw [if_pos (by decide), b500_s h (by omega) (by omega)]
            exact ⟨X, rfl, same⟩
          · have hv : 0 ≤ v ∧ v ≤ 2 := by omega
            rw [op, bnd_some]
            dsimp only
            rw [if_pos (show (0 : Int32) ≤ zI v by rw [zc0, zle] <;> omega), b281]
            unfold fL_acts_B309
            have e5 := b500_d (B := B) hI hn d (by omega) (l := σ 13 + σ 6 - σ 9) (by omega) (v := v) (by omega) (zI (σ 4))
            rw [if_neg (show ¬ zI v < 0 by rw [zc0, zlt] <;> omega), hx ⟨can.1, can.2.1⟩, if_neg (by decide)]
            by_cases cv : v = 0
            · rw [if_pos (show zI v = 0 by rw [cv]; rfl), if_pos (hq1 (by omega)), e5]
              exact ⟨X', rfl, d.out⟩
            · rw [if_neg (show ¬ zI v = 0 by rw [zc0, zeq] <;> omega), if_pos (hq0 (by omega)), e5]
              exact ⟨X', rfl, d.out⟩
          · rw [op, bnd_some]
            dsimp only
            rw [if_neg (by decide), if_pos (show zI (-6) = -6 from rfl), b281]
            unfold fL_acts_B309
            rw [if_pos (by decide), b500_o hI hn c2 d (by omega)]
            exact ⟨X', rfl, d.out⟩
        have b228 : ∀ q : Int32, (σ (32 + b) = 2 → q = 1) → (σ (32 + b) ≠ 2 → q = 0) → ∃ X', fL_acts_B228 X (zI (σ 9)) (zI (σ 13 + σ 6 - σ 9)) (zI (σ 11) / 2) (zI (σ 4)) (zI (b : Int)) q = some (1, X') ∧ Out B n X' := by
          intro q hq1 hq0
          unfold fL_acts_B228
          rw [q_box2 h hI b2, bnd_some]
          by_cases c5 : σ (56 + b) = 0
          · rw [if_pos (show zI (σ (56 + b)) = 0 by rw [c5]; rfl), q_box3 h hI b2, bnd_some]
            by_cases c6 : bh σ b
            · rw [i1_t c6, if_pos rfl]
              exact go q 1 hq1 hq0 (fun _ => rfl)
            · rw [i1_f c6, if_neg (by decide)]
              exact go q 0 hq1 hq0 (fun z => absurd z.2 c6)
          · rw [if_neg (show ¬ zI (σ (56 + b)) = 0 by rw [zc0, zeq] <;> omega)]
            exact go q 0 hq1 hq0 (fun z => by omega)
        rw [q_box1 h hI b2, bnd_some, if_neg (show ¬ b = 0 by omega)]
        by_cases c7 : σ (32 + b) = 2
        · rw [if_pos (show zI (σ (32 + b)) = 2 by rw [c7]; rfl)]
          exact b228 1 (fun _ => rfl) (fun z => absurd c7 z)
        · rw [if_neg (show ¬ zI (σ (32 + b)) = 2 by rw [zc2, zeq] <;> omega)]
          exact b228 0 (fun z => absurd z c7) (fun _ => rfl)
    rw [if_neg (show ¬ zI r = 5 by rw [zc5, zeq] <;> omega)]
    exact b339 _
  · rw [if_neg (show ¬ (3 : Int32) ≤ zI r by rw [zc3, zle] <;> omega)]
    rcases hS with ⟨ha, -⟩ | ⟨ha, ha2, hs⟩
    · rw [if_pos (show zI a = -5 by rw [ha]; rfl)]
      exact ⟨X, rfl, same⟩
    · obtain ⟨X', d1, d2⟩ := hdoes hs
      rw [if_neg (show ¬ zI a = -5 by rw [zm5, zeq] <;> omega), d1, bnd_some]
      dsimp only
      rw [if_neg (by decide)]
      exact ⟨X', rfl, d2⟩
end AT
