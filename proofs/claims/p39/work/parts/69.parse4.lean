def kd (T : Nat → Int) (n p : Nat) : Nat := if p < n then (if T p = 99 then 2 else if T p = 107 then 1 else if T p = 108 then 0 else if T p = 112 then 3 else 4) else 4
section PE
variable {T : Nat → Int} {n : Nat} {X R : Mem}
theorem X_lockAll (hn : n ≤ 20) (hT : Tok T) {p : Nat} (h : XP T n X p) (hp : p ≤ n) : (kd T n p = 4 ∧ fX0_matchesLock X = some (0, X)) ∨ (kd T n p < 4 ∧ ∃ X', fX0_matchesLock X = some (i1 (lkB T n (kd T n p) p), X') ∧ XP T n X' (lkP T n (kd T n p) p) ∧ X' 1 3 = zI (kd T n p : Int) ∧ X' 1 2 = X 1 2 ∧ (kd T n p ≠ 0 → lkB T n (kd T n p) p → X' 1 6 = zI (lkV T n (kd T n p) p)) ∧ (∀ q, q ≠ 1 → X' q = X q)) := by
  have ht := hT p
  unfold fX0_matchesLock kd
  rw [X_seen h hn hp]
  by_cases c : p < n
  · rw [if_pos c, if_pos c]
    by_cases c1 : T p = 99
    · rw [if_pos c1, if_pos (show zI (T p) = 99 by rw [c1]; rfl)]
      obtain ⟨X', a⟩ := X_lockK hn hT (k := 2) (by omega) h hp
      exact Or.inr ⟨by omega, X', a⟩
    · rw [if_neg c1, if_neg (show ¬ zI (T p) = 99 by rw [show (99 : Int32) = zI 99 from rfl, zeq] <;> omega)]
      by_cases c2 : T p = 107
      · rw [if_pos c2, if_pos (show zI (T p) = 107 by rw [c2]; rfl)]
        obtain ⟨X', a⟩ := X_lockK hn hT (k := 1) (by omega) h hp
        exact Or.inr ⟨by omega, X', a⟩
      · rw [if_neg c2, if_neg (show ¬ zI (T p) = 107 by rw [show (107 : Int32) = zI 107 from rfl, zeq] <;> omega)]
        by_cases c3 : T p = 108
        · rw [if_pos c3, if_pos (show zI (T p) = 108 by rw [c3]; rfl)]
          obtain ⟨X', a⟩ := X_lockK hn hT (k := 0) (by omega) h hp
          exact Or.inr ⟨by omega, X', a⟩
        · rw [if_neg c3, if_neg (show ¬ zI (T p) = 108 by rw [show (108 : Int32) = zI 108 from rfl, zeq] <;> omega)]
          by_cases c4 : T p = 112
          · rw [if_pos c4, if_pos (show zI (T p) = 112 by rw [c4]; rfl)]
            obtain ⟨X', a⟩ := X_lockK hn hT (k := 3) (by omega) h hp
            exact Or.inr ⟨by omega, X', a⟩
          · rw [if_neg c4, if_neg (show ¬ zI (T p) = 112 by rw [show (112 : Int32) = zI 112 from rfl, zeq] <;> omega)]
            exact Or.inl ⟨rfl, rfl⟩
  · rw [if_neg c, if_neg c]
    exact Or.inl ⟨rfl, rfl⟩
def lt1 (k : Nat) : Int := if k = 0 then 108 else if k = 1 then 107 else if k = 2 then 99 else 112
theorem R_L8 (hn : n ≤ 20) (hT : Tok T) {p : Nat} (hp : p ≤ n) {k : Nat} (hk : k < 4) (m : Nat) {R : Mem} {a : Int} (h : RP T n R p 0) (h9 : R 0 9 = zI a) : fX8_readsLock_L8 (m + 1) R (zI (k : Int)) = fX8_readsLock_L8 m (wr R 0 9 (zI (if p < n ∧ T p = lt1 k then (k : Int) else a))) (zI ((k + 1 : Nat) : Int)) := by
  have ht := hT p
  have el : fX8_lockLetter R (zI (k : Int)) (0 : Int32) = zI (lt1 k) := by
    have : k = 0 ∨ k = 1 ∨ k = 2 ∨ k = 3 := by omega
    rcases this with rfl | rfl | rfl | rfl <;> rfl
  have hlt : 0 ≤ lt1 k ∧ lt1 k ≤ 200 := by unfold lt1; split <;> (try split) <;> (try split) <;> omega
  rw [fX8_readsLock_L8, if_neg (show ¬ (4 : Int32) ≤ zI (k : Int) by rw [zc4, zle] <;> omega), h.1, h.2.1, el, zsuc]
  by_cases c : p < n
  · rw [if_neg (show ¬ zI (n : Int) ≤ zI (p : Int) by rw [zle] <;> omega), R_sees h hn c, bnd_some]
    by_cases q : T p = lt1 k
    · rw [if_pos (by rw [q]), if_pos ⟨c, q⟩, thn_eq]
    · rw [if_neg (show ¬ zI (T p) = zI (lt1 k) by rw [zeq] <;> omega), if_neg (fun t => q t.2), thn_eq, h9]
  · rw [if_pos (show zI (n : Int) ≤ zI (p : Int) by rw [zle] <;> omega), if_neg (fun t => c t.1), thn_eq, h9]
theorem R_readsLock (hn : n ≤ 20) (hT : Tok T) {p : Nat} (h : RP T n R p 0) (hp : p ≤ n) : ∃ R' w, fX8_readsLock R = some R' ∧ R' 0 8 = R 0 8 ∧ R' 0 4 = R 0 4 ∧ (∀ q, q ≠ 0 → R' q = R q) ∧ ((kd T n p = 4 ∧ RP T n R' p 1) ∨ (kd T n p < 4 ∧ RP T n R' (lkP T n (kd T n p) p) w ∧ ((w = 0 ∧ lkB T n (kd T n p) p) ∨ (w = 1 ∧ ¬ lkB T n (kd T n p) p)) ∧ R' 0 9 = zI (kd T n p : Int) ∧ (kd T n p = 0 → R' 0 10 = zI (-5)) ∧ (kd T n p ≠ 0 → lkB T n (kd T n p) p → R' 0 10 = zI (lkV T n (kd T n p) p)))) := by
  have s0 := h.cell (i := 9) (by omega) (zI (-5))
  unfold fX8_readsLock
  rw [show (-5 : Int32) = zI (-5) from rfl, thn_eq, show (5000 : Nat) = 4995 + 1 + 1 + 1 + 1 + 1 from rfl, show (0 : Int32) = zI ((0 : Nat) : Int) from rfl]
  rw [R_L8 hn hT hp (k := 0) (by omega) _ s0 (wr_at _ _ _ _), wr_wr]
  generalize ha0 : (if p < n ∧ T p = lt1 0 then ((0 : Nat) : Int) else -5) = a0
  rw [R_L8 hn hT hp (k := 0 + 1) (by omega) _ (h.cell (i := 9) (by omega) (zI a0)) (wr_at _ _ _ _), wr_wr]
  generalize ha1 : (if p < n ∧ T p = lt1 (0 + 1) then ((0 + 1 : Nat) : Int) else a0) = a1
  rw [R_L8 hn hT hp (k := 0 + 1 + 1) (by omega) _ (h.cell (i := 9) (by omega) (zI a1)) (wr_at _ _ _ _), wr_wr]
  generalize ha2 : (if p < n ∧ T p = lt1 (0 + 1 + 1) then ((0 + 1 + 1 : Nat) : Int) else a1) = a2
  rw [R_L8 hn hT hp (k := 0 + 1 + 1 + 1) (by omega) _ (h.cell (i := 9) (by omega) (zI a2)) (wr_at _ _ _ _), wr_wr]
  generalize ha3 : (if p < n ∧ T p = lt1 (0 + 1 + 1 + 1) then ((0 + 1 + 1 + 1 : Nat) : Int) else a2) = a3
  have hfin : (kd T n p = 4 ∧ a3 = -5) ∨ (kd T n p < 4 ∧ a3 = (kd T n p : Int)) := by
    have e0 : lt1 0 = 108 := rfl
    have e1 : lt1 (0 + 1) = 107 := rfl
    have e2 : lt1 (0 + 1 + 1) = 99 := rfl
    have e3 : lt1 (0 + 1 + 1 + 1) = 112 := rfl
    rw [e0] at ha0
    rw [e1] at ha1
    rw [e2] at ha2
    rw [e3] at ha3
    unfold kd
    by_cases c : p < n
    · rw [if_pos c]
      by_cases c1 : T p = 99
      · rw [if_pos c1]
        rw [if_pos ⟨c, c1⟩] at ha2
        rw [if_neg (by omega)] at ha3
        omega
      · rw [if_neg c1]
        rw [if_neg (by omega)] at ha2
        by_cases c2 : T p = 107
        · rw [if_pos c2]
          rw [if_pos ⟨c, c2⟩] at ha1
          rw [if_neg (by omega)] at ha3
          omega
        · rw [if_neg c2]
          rw [if_neg (by omega)] at ha1
          by_cases c3 : T p = 108
          · rw [if_pos c3]
            rw [if_pos ⟨c, c3⟩] at ha0
            rw [if_neg (by omega)] at ha3
            omega
          · rw [if_neg c3]
            rw [if_neg (by omega)] at ha0
            by_cases c4 : T p = 112
            · rw [if_pos c4]
              rw [if_pos ⟨c, c4⟩] at ha3
              omega
            · rw [if_neg c4]
              rw [if_neg (by omega)] at ha3
              omega
    · rw [if_neg c]
      rw [if_neg (by omega)] at ha0 ha1 ha2 ha3
      omega
  have s1 := h.cell (i := 9) (by omega) (zI a3)
  rw [fX8_readsLock_L8, if_pos (by decide), s1.2.2.1, if_pos (show bz (zI 0) = 0 by decide), wr_at]
  rcases hfin with ⟨k4, rfl⟩ | ⟨k4, hk⟩
  · rw [if_neg (by decide)]
    obtain ⟨s2, x2⟩ := s1.stop 1
    have s3 := s2.cell (i := 10) (by omega) (-5)
    refine ⟨_, 1, ?_, ?_, ?_, ?_, Or.inl ⟨k4, s3⟩⟩
    · rw [thn_eq, show (1 : Int32) = zI 1 from rfl, show (5000 : Nat) = 4999 + 1 from rfl, fX8_readsLock_L79, s2.2.2.1, if_neg bz_1]
      unfold fX8_readsLock_B115
      rw [thn_eq, s3.2.2.1, if_neg bz_1]
    · rw [wr_i _ _ _ (by omega), wr_i _ _ _ (by omega), wr_i _ _ _ (by omega)]
    · rw [wr_i _ _ _ (by omega), wr_i _ _ _ (by omega), wr_i _ _ _ (by omega)]
    · intro q hq
      rw [wr_k _ _ _ hq, wr_k _ _ _ hq, wr_k _ _ _ hq]
  · subst hk
    have hid : wr (wr R 0 9 (zI (kd T n p : Int))) 0 7 (0 : Int32) = wr R 0 9 (zI (kd T n p : Int)) := wr_id _ s1.2.2.1
    rw [if_pos (show (0 : Int32) ≤ zI (kd T n p : Int) by rw [zc0, zle] <;> omega), thn_eq]
    obtain ⟨R', w, a1, a2, a3, a4, a5, a6, a7, a8, a9⟩ := R_lockK hn hT k4 s1 hp (wr_at _ _ _ _)
    refine ⟨R', w, ?_, ?_, ?_, ?_, Or.inr ⟨k4, a2, a3, a4, a7, a8⟩⟩
    · rw [hid]
      exact a1
    · rw [a5, wr_i _ _ _ (by omega)]
    · rw [a6, wr_i _ _ _ (by omega)]
    · intro q hq
      rw [a9 q hq, wr_k _ _ _ hq]
end PE
