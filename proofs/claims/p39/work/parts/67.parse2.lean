section PB
variable {T : Nat → Int} {n : Nat} {X R : Mem}
theorem RP.stop {p : Nat} {w : Int} (h : RP T n R p w) (w' : Int) : RP T n (wr R 0 7 (zI w')) p w' ∧ RC R (wr R 0 7 (zI w')) :=
  ⟨⟨by rw [wr_i _ _ _ (by omega)]; exact h.1, by rw [wr_i _ _ _ (by omega)]; exact h.2.1, wr_at _ _ _ _, fun i hi => by rw [wr_k _ _ _ (by omega)]; exact h.2.2.2 i hi⟩, fun k hk => wr_k _ _ _ hk, fun i _ h1 => wr_i _ _ _ h1⟩
theorem RP.go {p : Nat} {w : Int} (h : RP T n R p w) (q : Nat) : RP T n (wr R 0 6 (zI (q : Int))) q w ∧ RC R (wr R 0 6 (zI (q : Int))) :=
  ⟨⟨by rw [wr_i _ _ _ (by omega)]; exact h.1, wr_at _ _ _ _, by rw [wr_i _ _ _ (by omega)]; exact h.2.2.1, fun i hi => by rw [wr_k _ _ _ (by omega)]; exact h.2.2.2 i hi⟩, fun k hk => wr_k _ _ _ hk, fun i h1 _ => wr_i _ _ _ h1⟩
theorem R_sees {p : Nat} {w : Int} (h : RP T n R p w) (hn : n ≤ 20) (hp : p < n) : fX8_sees R = some (zI (T p)) := by
  unfold fX8_sees
  rw [h.1, h.2.1, if_neg (by rw [zle] <;> omega), if_pos (by rw [zinb (by omega) (by omega)]; omega), ztn (by omega) (by omega), Int.toNat_natCast, h.2.2.2 p hp]
theorem R_digit {p : Nat} {w : Int} (h : RP T n R p w) (hn : n ≤ 20) (hp : p ≤ n) (hT : Tok T) : fX8_seesDigit R = some (i1 (dgp T n p)) := by
  have ht := hT p
  unfold fX8_seesDigit
  rw [h.1, h.2.1]
  by_cases c : p < n
  · rw [if_neg (by rw [zle] <;> omega), R_sees h hn c, bnd_some, show fX8_in R (zI (T p)) (48 : Int32) (57 : Int32) = i1 (48 ≤ T p ∧ T p ≤ 57) from R_in (a := T p) (b := 48) (c := 57) (by omega) (by omega) (by omega) (by omega) (by omega) (by omega)]
    by_cases c1 : 48 ≤ T p ∧ T p ≤ 57
    · rw [i1_t c1, i1_t (show dgp T n p from ⟨c, c1⟩)]; rfl
    · rw [i1_f c1, i1_f (show ¬ dgp T n p from fun q => c1 q.2)]; rfl
  · rw [if_pos (by rw [zle] <;> omega), i1_f (by omega)]
theorem bz_1 : ¬ bz (zI 1) = 0 := by decide
theorem R_num_L (hn : n ≤ 20) (hT : Tok T) {lo hi : Int} (hh : 0 ≤ lo ∧ lo ≤ hi ∧ hi ≤ 10) : ∀ (d c p m : Nat) (R : Mem) (v : Int), RP T n R p 0 → p ≤ n → (c : Int) + d = hi → d < m → ∃ R' v1 w, fX8_number_L5 m R (zI lo) (zI hi) (zI v) (zI (c : Int)) = some (zI v1, R') ∧ RP T n R' (nuP T n d p) w ∧ ((lo ≤ ((c + (nuP T n d p - p) : Nat) : Int) ∧ w = 0 ∧ v1 = nuV T n d p v) ∨ (((c + (nuP T n d p - p) : Nat) : Int) < lo ∧ w = 1)) ∧ RC R R' := by
  intro d
  induction d with
  | zero =>
    intro c p m R v h hp hc hm
    obtain ⟨m, rfl⟩ := ex_succ hm
    refine ⟨R, v, 0, ?_, h, ?_, fun _ _ => rfl, fun _ _ _ => rfl⟩
    · rw [fX8_number_L5, h.2.2.1, if_pos (by decide), if_pos (show zI hi ≤ zI (c : Int) by rw [zle] <;> omega)]
    · unfold nuP nuV
      left
      refine ⟨by omega, rfl, rfl⟩
  | succ d ih =>
    intro c p m R v h hp hc hm
    obtain ⟨m, rfl⟩ := ex_succ hm
    have hid : wr R 0 7 (0 : Int32) = R := wr_id _ h.2.2.1
    rw [fX8_number_L5, h.2.2.1, if_pos (show bz (zI 0) = 0 by decide), if_neg (show ¬ zI hi ≤ zI (c : Int) by rw [zle] <;> omega), R_digit h hn hp hT, bnd_some, bnd_some]
    unfold nuP nuV
    by_cases q : dgp T n p
    · have b := nuP_b T n d (p + 1) (by have := q.1; omega)
      obtain ⟨s2, x2⟩ := h.go (p + 1)
      obtain ⟨R', v1, w, a1, a2, a3, a4⟩ := ih (c + 1) (p + 1) m _ (10 * v + (T p - 48)) s2 (by have := q.1; omega) (by omega) (by omega)
      have e : c + 1 + (nuP T n d (p + 1) - (p + 1)) = c + (nuP T n d (p + 1) - p) := by omega
      rw [e] at a3
      refine ⟨R', v1, w, ?_, by rw [if_pos q]; exact a2, by rw [if_pos q, if_pos q]; exact a3, x2.tr a4⟩
      rw [i1_t q, it1, it1, ite_self, hid, thn_eq, h.2.2.1, if_pos (show bz (zI 0) = 0 by decide), R_sees h hn q.1, bnd_some, zc10, zc48, zmul, zsub, zadd, thn_eq, if_pos (show bz (zI 0) = 0 by decide), h.2.1, thn_eq, zsuc, zsuc]
      exact a1
    · rw [i1_f q, it0, it0]
      by_cases c1 : (c : Int) < lo
      · rw [if_pos (show zI (c : Int) < zI lo by rw [zlt] <;> omega), thn_eq]
        obtain ⟨s1, x1⟩ := h.stop 1
        obtain ⟨s2, x2⟩ := s1.go p
        obtain ⟨m, rfl⟩ := ex_succ (show 0 < m by omega)
        refine ⟨_, 10 * v + 0, 1, ?_, by rw [if_neg q]; exact s2, by rw [if_neg q]; right; exact ⟨by omega, rfl⟩, x1.tr x2⟩
        rw [show wr R 0 7 (1 : Int32) = wr R 0 7 (zI 1) from rfl, s1.2.2.1, if_neg bz_1, zc10, zc0, zmul, zadd, thn_eq, if_neg (show ¬ bz (zI 1) = zI 0 from bz_1), s1.2.1, zadd, show (p : Int) + 0 = p by omega, thn_eq, fX8_number_L5, s2.2.2.1, if_neg bz_1]
      · rw [if_neg (show ¬ zI (c : Int) < zI lo by rw [zlt] <;> omega)]
        refine ⟨R, v, 0, rfl, by rw [if_neg q]; exact h, by rw [if_neg q, if_neg q]; left; exact ⟨by omega, rfl, rfl⟩, fun _ _ => rfl, fun _ _ _ => rfl⟩
theorem R_num (hn : n ≤ 20) (hT : Tok T) {lo hi : Nat} (hh : lo ≤ hi ∧ hi ≤ 10) {p : Nat} (h : RP T n R p 0) (hp : p ≤ n) : ∃ R' v1 w, fX8_number R (zI (lo : Int)) (zI (hi : Int)) = some (zI v1, R') ∧ RP T n R' (nuP T n hi p) w ∧ ((lo ≤ nuP T n hi p - p ∧ w = 0 ∧ v1 = nuV T n hi p 0) ∨ (nuP T n hi p - p < lo ∧ w = 1)) ∧ RC R R' := by
  obtain ⟨R', v1, w, a1, a2, a3, a4⟩ := R_num_L hn hT (lo := (lo : Int)) (hi := (hi : Int)) (by omega) hi 0 p 5000 R 0 h hp (by omega) (by omega)
  exact ⟨R', v1, w, a1, a2, by omega, a4⟩
/-- a number is not read once the reading has stopped -/
theorem R_num1 {p : Nat} (h : RP T n R p 1) (lo hi : Int32) : fX8_number R lo hi = some (0, R) := by
  unfold fX8_number
  rw [show (5000 : Nat) = 4999 + 1 from rfl, fX8_number_L5, h.2.2.1, if_neg bz_1]
theorem R_takes (hn : n ≤ 20) (hT : Tok T) {p : Nat} (h : RP T n R p 0) (hp : p ≤ n) {c : Int} (hc : 0 ≤ c ∧ c ≤ 200) : ∃ R', fX8_takes R (zI c) = some R' ∧ RC R R' ∧ ((p < n ∧ T p = c ∧ RP T n R' (p + 1) 0) ∨ (¬ (p < n ∧ T p = c) ∧ RP T n R' p 1)) := by
  have ht := hT p
  have hid : wr R 0 7 (0 : Int32) = R := wr_id _ h.2.2.1
  unfold fX8_takes
  rw [h.2.2.1, if_pos (show bz (zI 0) = 0 by decide), h.1, h.2.1]
  have stop : ∃ R', fX8_takes_B35 (wr R 0 7 (1 : Int32)) = some R' ∧ RC R R' ∧ RP T n R' p 1 := by
    obtain ⟨s1, x1⟩ := h.stop 1
    refine ⟨_, ?_, x1, s1⟩
    unfold fX8_takes_B35
    rw [show wr R 0 7 (1 : Int32) = wr R 0 7 (zI 1) from rfl, s1.2.2.1, if_neg bz_1, s1.2.1, zc0, zadd, show (p : Int) + 0 = p by omega, thn_eq, wr_id _ s1.2.1]
  by_cases q : p < n
  · rw [if_neg (show ¬ zI (n : Int) ≤ zI (p : Int) by rw [zle] <;> omega), R_sees h hn q, bnd_some]
    by_cases q2 : T p = c
    · obtain ⟨s2, x2⟩ := h.go (p + 1)
      refine ⟨_, ?_, x2, Or.inl ⟨q, q2, s2⟩⟩
      unfold fX8_takes_B35
      rw [if_pos (by rw [q2]), hid, thn_eq, h.2.2.1, if_pos (show bz (zI 0) = 0 by decide), h.2.1, zsuc, thn_eq]
    · obtain ⟨R', a, b, d⟩ := stop
      refine ⟨R', ?_, b, Or.inr ⟨fun t => q2 t.2, d⟩⟩
      rw [if_neg (show ¬ zI (T p) = zI c by rw [zeq] <;> omega), thn_eq]
      exact a
  · obtain ⟨R', a, b, d⟩ := stop
    refine ⟨R', ?_, b, Or.inr ⟨fun t => q t.1, d⟩⟩
    rw [if_pos (show zI (n : Int) ≤ zI (p : Int) by rw [zle] <;> omega), thn_eq]
    exact a
theorem R_takes1 {p : Nat} (h : RP T n R p 1) (c : Int32) : fX8_takes R c = some R := by
  unfold fX8_takes
  have h7 : wr R 0 7 (1 : Int32) = R := wr_id _ h.2.2.1
  rw [h.2.2.1, if_neg bz_1, h7, thn_eq]
  unfold fX8_takes_B35
  rw [h.2.2.1, if_neg bz_1, z_0, wr_self, thn_eq]
end PB
