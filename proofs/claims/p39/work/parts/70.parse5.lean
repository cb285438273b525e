section PF
variable {T : Nat → Int} {n : Nat} {X R : Mem}
theorem lkP_b {k p : Nat} (hp : p ≤ n) : lkP T n k p ≤ n := by
  have h1 := wmP_b T n (wdl (k + 1)) p hp
  have h2 := nuP_b T n (hi4 k) (wmP T n (wdl (k + 1)) p) h1.2
  unfold lkP
  split <;> omega
theorem lkV_b {k p : Nat} : 0 ≤ lkV T n k p ∧ lkV T n k p < 10000 := by
  have h := nuV_b T n (hi4 k) (wmP T n (wdl (k + 1)) p) 0 (by omega)
  unfold lkV
  unfold hi4 at *
  by_cases c : k = 2
  · rw [if_pos c] at *
    have e : (0 + 1 : Int) * 10 ^ 4 = 10000 := by decide
    rw [e] at h
    exact h
  · rw [if_neg c] at *
    have e : (0 + 1 : Int) * 10 ^ 2 = 100 := by decide
    rw [e] at h
    omega
theorem B37_1 {p : Nat} (h : RP T n R p 1) : fX8_faultOfText_B37 R = some (zI (p : Int), R) := by
  unfold fX8_faultOfText_B37
  rw [h.2.2.1, if_neg bz_1, h.2.1]
theorem parse (hn : n ≤ 20) (hT : Tok T) (x1 : X 1 1 = zI (n : Int)) (r4 : R 0 4 = zI (n : Int)) (xs : ∀ i, i < n → X 2 i = zI (T i)) (rs : ∀ i, i < n → R 5 i = zI (T i)) : ∃ X' R' f g, fX0_findFault X = some (zI f, X') ∧ fX8_faultOfText R = some (zI g, R') ∧ (∀ k, k ≠ 1 → X' k = X k) ∧ (∀ k, k ≠ 0 → R' k = R k) ∧ X' 1 1 = X 1 1 ∧ R' 0 4 = R 0 4 ∧ ((f = g ∧ 0 ≤ f ∧ f ≤ 20) ∨ (f = -1 ∧ g = -5 ∧ ∃ (o : Int) (k : Nat) (v : Int), 0 ≤ o ∧ o < 1000 ∧ k < 4 ∧ 0 ≤ v ∧ v < 10000 ∧ X' 1 2 = zI o ∧ R' 0 8 = zI o ∧ X' 1 3 = zI (k : Int) ∧ R' 0 9 = zI (k : Int) ∧ (k ≠ 0 → X' 1 4 = zI v ∧ R' 0 10 = zI v) ∧ (k = 0 → R' 0 10 = zI (-5)))) := by
  have h0 : XP T n (wr X 1 5 (0 : Int32)) 0 := ⟨by rw [wr_i _ _ _ (by omega)]; exact x1, wr_at _ _ _ _, fun i hi => by rw [wr_k _ _ _ (by omega)]; exact xs i hi⟩
  have g0 : RP T n (wr (wr R 0 6 (0 : Int32)) 0 7 (0 : Int32)) 0 0 := ⟨by rw [wr_i _ _ _ (by omega), wr_i _ _ _ (by omega)]; exact r4, by rw [wr_i _ _ _ (by omega), wr_at]; rfl, wr_at _ _ _ _, fun i hi => by rw [wr_k _ _ _ (by omega), wr_k _ _ _ (by omega)]; exact rs i hi⟩
  have f0 : ∀ k, k ≠ 1 → wr X 1 5 (0 : Int32) k = X k := fun k hk => wr_k _ _ _ hk
  have e0 : wr X 1 5 (0 : Int32) 1 1 = X 1 1 := wr_i _ _ _ (by omega)
  have k0 : ∀ k, k ≠ 0 → wr (wr R 0 6 (0 : Int32)) 0 7 (0 : Int32) k = R k := fun k hk => by rw [wr_k _ _ _ hk, wr_k _ _ _ hk]
  have d0 : wr (wr R 0 6 (0 : Int32)) 0 7 (0 : Int32) 0 4 = R 0 4 := by rw [wr_i _ _ _ (by omega), wr_i _ _ _ (by omega)]
  unfold fX0_findFault fX8_faultOfText
  rw [thn_eq, thn_eq, thn_eq]
  generalize wr X 1 5 (0 : Int32) = X0 at *
  generalize wr (wr R 0 6 (0 : Int32)) 0 7 (0 : Int32) = R0 at *
  have b1 := nuP_b T n 2 0 (by omega)
  have bv := nuV_b T n 2 0 0 (by omega)
  rw [show (0 + 1 : Int) * 10 ^ 2 = 100 by decide] at bv
  obtain ⟨X1, a1, a2, a3, a4⟩ := X_num hn hT (lo := 1) (hi := 2) (by omega) (by omega) h0 (by omega)
  obtain ⟨R1, v1, w, c1, c2, c3, c4⟩ := R_num hn hT (lo := 1) (hi := 2) (by omega) g0 (by omega)
  generalize hp1 : nuP T n 2 0 = p1 at *
  generalize hv : nuV T n 2 0 0 = v at *
  have s2 := c2.cell (i := 8) (by omega) (zI v1)
  rw [show fX0_matchesDigits X0 (1 : Int32) (2 : Int32) = _ from a1, bnd_some, show fX8_number R0 (1 : Int32) (2 : Int32) = _ from c1, bnd_some]
  show ∃ X' R' f g, (if i1 (1 ≤ p1 - 0) = 0 then some (X1 1 5, X1) else _) = some (zI f, X') ∧ (thn (wr R1 0 8 (zI v1)) _) = _ ∧ _
  have kR : ∀ k, k ≠ 0 → wr R1 0 8 (zI v1) k = R k := fun k hk => by rw [wr_k _ _ _ hk, c4.1 k hk, k0 k hk]
  have dR : wr R1 0 8 (zI v1) 0 4 = R 0 4 := by rw [wr_i _ _ _ (by omega), c4.2 4 (by omega) (by omega), d0]
  rcases c3 with ⟨t1, rfl, t3⟩ | ⟨t1, rfl⟩
  · rw [i1_t t1, it1, thn_eq, thn_eq, thn_eq]
    dsimp only
    rw [a3]
    have x3 := (a2.cell (i := 2) (by omega) (zI v)).cell (i := 6) (by omega) 0
    obtain ⟨X2, e1, e2, e3⟩ := X_word hn hT (j := 0) (by omega) x3 (by omega)
    rw [show wdl 0 = [32] from ltl_w.2.2.2.2] at e1 e2
    obtain ⟨R2, g1, g2, g3⟩ := R_takes hn hT s2 (by omega) (c := 32) (by omega)
    have fX2 : ∀ k, k ≠ 1 → X2 k = X k := fun k hk => by rw [e3.1 k hk, wr_k _ _ _ hk, wr_k _ _ _ hk, a4.1 k hk, f0 k hk]
    have eX2 : X2 1 1 = X 1 1 := by rw [e3.2 1 (by omega) (by omega), wr_i _ _ _ (by omega), wr_i _ _ _ (by omega), a4.2 1 (by omega) (by omega), e0]
    have oX2 : X2 1 2 = zI v := by rw [e3.2 2 (by omega) (by omega), wr_i _ _ _ (by omega), wr_at]
    have oR2 : R2 0 8 = zI v := by rw [g2.2 8 (by omega) (by omega), wr_at, t3]
    have fR2 : ∀ k, k ≠ 0 → R2 k = R k := fun k hk => by rw [g2.1 k hk, kR k hk]
    have dR2 : R2 0 4 = R 0 4 := by rw [g2.2 4 (by omega) (by omega), dR]
    rw [e1, bnd_some, show fX8_takes (wr R1 0 8 (zI v1)) (32 : Int32) = some R2 from g1, bnd_some]
    show ∃ X' R' f g, (if i1 (wmB T n [32] p1 = true) = 0 then some (X2 1 5, X2) else _) = some (zI f, X') ∧ _
    rcases g3 with ⟨q1, q2, s3⟩ | ⟨q1, s3⟩
    · have wm := wm1_t (T := T) (n := n) (c := 32) ⟨q1, q2⟩
      rw [wm.2] at e2
      rw [wm.1, i1_t rfl, it1, s3.2.2.1, if_pos (show bz (zI 0) = 0 by decide)]
      obtain ⟨R3, w, l1, l2, l3, l4, l5⟩ := R_readsLock hn hT s3 (by omega)
      have fR3 : ∀ k, k ≠ 0 → R3 k = R k := fun k hk => by rw [l4 k hk, fR2 k hk]
      have dR3 : R3 0 4 = R 0 4 := by rw [l3, dR2]
      rw [l1, bnd_some]
      rcases X_lockAll hn hT e2 (by omega) with ⟨u1, u2⟩ | ⟨u1, X3, u2, u3, u4, u5, u6, u7⟩
      · rcases l5 with ⟨m1, m2⟩ | ⟨m1, m2⟩
        · rw [u2, bnd_some, B37_1 m2]
          exact ⟨X2, R3, _, _, by show (if (0 : Int32) = 0 then some (X2 1 5, X2) else _) = _; rw [it0, e2.2.1], rfl, fX2, fR3, eX2, dR3, Or.inl ⟨rfl, by omega, by omega⟩⟩
        · omega
      · rcases l5 with ⟨m1, m2⟩ | ⟨m1, m2, m3, m4, m5, m6⟩
        · omega
        · have lb := lkP_b (T := T) (n := n) (k := kd T n (p1 + 1)) (p := p1 + 1) (by omega)
          have lv := lkV_b (T := T) (n := n) (k := kd T n (p1 + 1)) (p := p1 + 1)
          generalize hk : kd T n (p1 + 1) = k at *
          have fX3 : ∀ q, q ≠ 1 → X3 q = X q := fun q hq => by rw [u7 q hq, fX2 q hq]
          rw [u2, bnd_some]
          rcases m3 with ⟨rfl, mB⟩ | ⟨rfl, mB⟩
          · show ∃ X' R' f g, (if i1 (lkB T n k (p1 + 1)) = 0 then some (X3 1 5, X3) else if X3 1 5 = X3 1 1 then thn (wr X3 1 4 (X3 1 6)) fun M14 => some ((-1 : Int32), M14) else some (X3 1 5, X3)) = some (zI f, X') ∧ _
            rw [i1_t mB, it1]
            unfold fX8_faultOfText_B37
            rw [m2.2.2.1, if_pos (show bz (zI 0) = 0 by decide), m2.1, m2.2.1, u3.2.1, u3.1]
            by_cases q : lkP T n k (p1 + 1) = n
            · rw [if_pos (by rw [q]), if_pos (show zI (n : Int) ≤ zI (lkP T n k (p1 + 1) : Int) by rw [zle] <;> omega), thn_eq]
              refine ⟨_, R3, -1, -5, rfl, rfl, fun x hx => by rw [wr_k _ _ _ hx, fX3 x hx], fR3, by rw [wr_i _ _ _ (by omega), u3.1, x1], dR3, Or.inr ⟨rfl, rfl, v, k, lkV T n k (p1 + 1), by omega, by omega, u1, lv.1, lv.2, by rw [wr_i _ _ _ (by omega), u5, oX2], by rw [l2, oR2], by rw [wr_i _ _ _ (by omega), u4], m4, fun c => ⟨by rw [wr_at, u6 c mB], m6 c mB⟩, m5⟩⟩
            · rw [if_neg (show ¬ zI (lkP T n k (p1 + 1) : Int) = zI (n : Int) by rw [zeq] <;> omega), if_neg (show ¬ zI (n : Int) ≤ zI (lkP T n k (p1 + 1) : Int) by rw [zle] <;> omega)]
              exact ⟨X3, R3, _, _, rfl, rfl, fX3, fR3, by rw [u3.1, x1], dR3, Or.inl ⟨rfl, by omega, by omega⟩⟩
          · show ∃ X' R' f g, (if i1 (lkB T n k (p1 + 1)) = 0 then some (X3 1 5, X3) else _) = some (zI f, X') ∧ _
            rw [i1_f mB, it0, B37_1 m2, u3.2.1]
            exact ⟨X3, R3, _, _, rfl, rfl, fX3, fR3, by rw [u3.1, x1], dR3, Or.inl ⟨rfl, by omega, by omega⟩⟩
    · have wm := wm1_f (T := T) (n := n) (c := 32) q1
      rw [wm.2] at e2
      rw [wm.1, i1_f (by simp), it0, s3.2.2.1, if_neg bz_1, B37_1 s3, e2.2.1]
      exact ⟨X2, R2, _, _, rfl, rfl, fX2, fR2, eX2, dR2, Or.inl ⟨rfl, by omega, by omega⟩⟩
  · rw [i1_f (by omega), it0, thn_eq, R_takes1 s2, bnd_some, s2.2.2.1, if_neg bz_1, B37_1 s2, a2.2.1]
    exact ⟨X1, _, _, _, rfl, rfl, fun k hk => by rw [a4.1 k hk, f0 k hk], kR, by rw [a4.2 1 (by omega) (by omega), e0], dR, Or.inl ⟨rfl, by omega, by omega⟩⟩
end PF
