def ltl (k : Nat) : List Int := if k = 0 then [108, 97, 116, 99, 104] else if k = 1 then [107, 101, 121] else if k = 2 then [99, 111, 100, 101] else [112, 108, 97, 116, 101]
theorem ltl_w : wdl 1 = ltl 0 ∧ wdl 2 = ltl 1 ++ [32] ∧ wdl 3 = ltl 2 ++ [32] ∧ wdl 4 = ltl 3 ++ [32] ∧ wdl 0 = [32] := by decide +kernel
theorem ltl_at0 : ∀ k, k < 4 → (∀ i, i < (ltl k).length → fX8_lockLetter (fun _ _ => 0) (zI (k : Int)) (zI (i : Int)) = zI ((ltl k).getD i 0) ∧ 0 < (ltl k).getD i 0 ∧ (ltl k).getD i 0 < 128) ∧ fX8_lockLetter (fun _ _ => 0) (zI (k : Int)) (zI ((ltl k).length : Int)) = 0 ∧ (ltl k).length ≤ 5 ∧ 0 < (ltl k).length := by decide +kernel
theorem ltl_at (M : Mem) {k : Nat} (hk : k < 4) : (∀ i, i < (ltl k).length → fX8_lockLetter M (zI (k : Int)) (zI (i : Int)) = zI ((ltl k).getD i 0) ∧ 0 < (ltl k).getD i 0 ∧ (ltl k).getD i 0 < 128) ∧ fX8_lockLetter M (zI (k : Int)) (zI ((ltl k).length : Int)) = 0 ∧ (ltl k).length ≤ 5 ∧ 0 < (ltl k).length := ltl_at0 k hk
section PD
variable {T : Nat → Int} {n : Nat} {X R : Mem}
theorem R_lets_L (hn : n ≤ 20) (hT : Tok T) {k : Nat} (hk : k < 4) : ∀ (d i p m : Nat) (R : Mem), RP T n R p 0 → p ≤ n → R 0 9 = zI (k : Int) → i + d = (ltl k).length → d + 1 < m → ∃ R' w, fX8_readsLock_L79 m R (zI (i : Int)) = fX8_readsLock_B115 R' ∧ RP T n R' (wmP T n ((ltl k).drop i) p) w ∧ ((w = 0 ∧ wmB T n ((ltl k).drop i) p = true) ∨ (w = 1 ∧ wmB T n ((ltl k).drop i) p = false)) ∧ RC R R' := by
  intro d
  induction d with
  | zero =>
    intro i p m R h hp h9 hi hm
    obtain ⟨m, rfl⟩ := ex_succ hm
    have hl := ltl_at R hk
    obtain rfl : i = (ltl k).length := by omega
    refine ⟨R, 0, ?_, ?_, ?_, fun _ _ => rfl, fun _ _ _ => rfl⟩
    · rw [fX8_readsLock_L79, h.2.2.1, if_pos (show bz (zI 0) = 0 by decide), h9, hl.2.1, if_pos (by decide)]
    · rw [List.drop_eq_nil_of_le (by omega)]; exact h
    · rw [List.drop_eq_nil_of_le (by omega)]; exact Or.inl ⟨rfl, rfl⟩
  | succ d ih =>
    intro i p m R h hp h9 hi hm
    obtain ⟨m, rfl⟩ := ex_succ hm
    have hl := ltl_at R hk
    have hkl : i < (ltl k).length := by omega
    have hb := hl.1 i hkl
    have ec : (ltl k).drop i = (ltl k).getD i 0 :: (ltl k).drop (i + 1) := by
      rw [List.drop_eq_getElem_cons hkl, List.getD_eq_getElem?_getD, List.getElem?_eq_getElem hkl]; rfl
    rw [ec]
    generalize (ltl k).getD i 0 = c at *
    obtain ⟨R1, a1, x1, a2⟩ := R_takes hn hT h hp (c := c) (by omega)
    have e9 : R1 0 9 = zI (k : Int) := by rw [x1.2 9 (by omega) (by omega)]; exact h9
    rw [fX8_readsLock_L79, h.2.2.1, if_pos (show bz (zI 0) = 0 by decide), h9, hb.1, if_neg (show ¬ zI c ≤ 0 by rw [zc0, zle] <;> omega), a1, bnd_some, zsuc]
    unfold wmP wmB
    rcases a2 with ⟨q1, q2, s1⟩ | ⟨q, s1⟩
    · obtain ⟨R', w, b1, b2, b3, b4⟩ := ih (i + 1) (p + 1) m R1 s1 (by omega) e9 (by omega) (by omega)
      exact ⟨R', w, b1, by rw [if_pos ⟨q1, q2⟩]; exact b2, by rw [if_pos ⟨q1, q2⟩]; exact b3, x1.tr b4⟩
    · obtain ⟨m, rfl⟩ := ex_succ (show 0 < m by omega)
      refine ⟨R1, 1, ?_, by rw [if_neg q]; exact s1, by rw [if_neg q]; exact Or.inr ⟨rfl, rfl⟩, x1⟩
      rw [fX8_readsLock_L79, s1.2.2.1, if_neg bz_1]
theorem wm1_t {c : Int} {p : Nat} (h : p < n ∧ T p = c) : wmB T n [c] p = true ∧ wmP T n [c] p = p + 1 := by
  constructor
  · unfold wmB; rw [if_pos h]; rfl
  · unfold wmP; rw [if_pos h]; rfl
theorem wm1_f {c : Int} {p : Nat} (h : ¬ (p < n ∧ T p = c)) : wmB T n [c] p = false ∧ wmP T n [c] p = p := by
  constructor
  · unfold wmB; rw [if_neg h]
  · unfold wmP; rw [if_neg h]
/-- cells of the reading, one by one -/
theorem RP.cell {p : Nat} {w : Int} (h : RP T n R p w) {i : Nat} (hi : 8 ≤ i) (v : Int32) : RP T n (wr R 0 i v) p w :=
  ⟨by rw [wr_i _ _ _ (by omega)]; exact h.1, by rw [wr_i _ _ _ (by omega)]; exact h.2.1, by rw [wr_i _ _ _ (by omega)]; exact h.2.2.1, fun i hi => by rw [wr_k _ _ _ (by omega)]; exact h.2.2.2 i hi⟩
theorem XP.cell {p : Nat} (h : XP T n X p) {i : Nat} (hi : i ≠ 1 ∧ i ≠ 5) (v : Int32) : XP T n (wr X 1 i v) p :=
  ⟨by rw [wr_i _ _ _ (by omega)]; exact h.1, by rw [wr_i _ _ _ (by omega)]; exact h.2.1, fun i hi => by rw [wr_k _ _ _ (by omega)]; exact h.2.2 i hi⟩
def lo4 (k : Nat) : Nat := if k = 2 then 4 else 1
def hi4 (k : Nat) : Nat := if k = 2 then 4 else 2
/-- the lock of kind k at p: does it read, where does it end, its number -/
def lkB (T : Nat → Int) (n k p : Nat) : Prop := wmB T n (wdl (k + 1)) p = true ∧ (k ≠ 0 → lo4 k ≤ nuP T n (hi4 k) (wmP T n (wdl (k + 1)) p) - wmP T n (wdl (k + 1)) p)
def lkP (T : Nat → Int) (n k p : Nat) : Nat := if wmB T n (wdl (k + 1)) p = true ∧ k ≠ 0 then nuP T n (hi4 k) (wmP T n (wdl (k + 1)) p) else wmP T n (wdl (k + 1)) p
def lkV (T : Nat → Int) (n k p : Nat) : Int := nuV T n (hi4 k) (wmP T n (wdl (k + 1)) p) 0
theorem X_lockK (hn : n ≤ 20) (hT : Tok T) {k : Nat} (hk : k < 4) {p : Nat} (h : XP T n X p) (hp : p ≤ n) : ∃ X', (if k = 0 then (bnd (fX0_matchesWord 1 (wr X 1 3 (0 : Int32))) fun q14 => some (q14.1, q14.2)) else bnd (fX0_matchesWord (k + 1) (wr X 1 3 (zI (k : Int)))) fun q24 => if q24.1 = 0 then (some ((0 : Int32), q24.2)) else (bnd (fX0_matchesDigits q24.2 (zI (lo4 k : Int)) (zI (hi4 k : Int))) fun q27 => if q27.1 = 0 then (some ((0 : Int32), q27.2)) else (some ((1 : Int32), q27.2)))) = some (i1 (lkB T n k p), X') ∧ XP T n X' (lkP T n k p) ∧ X' 1 3 = zI (k : Int) ∧ X' 1 2 = X 1 2 ∧ (k ≠ 0 → lkB T n k p → X' 1 6 = zI (lkV T n k p)) ∧ (∀ q, q ≠ 1 → X' q = X q) := by
  have s0 := h.cell (i := 3) (by omega) (zI (k : Int))
  have hw := wmP_b T n (wdl (k + 1)) p hp
  obtain ⟨X1, a1, a2, a3⟩ := X_word hn hT (j := k + 1) (by omega) s0 hp
  unfold lkB lkP lkV
  by_cases c : k = 0
  · subst c
    refine ⟨X1, ?_, by rw [if_neg (by omega)]; exact a2, by rw [a3.2 3 (by omega) (by omega), wr_at], by rw [a3.2 2 (by omega) (by omega), wr_i _ _ _ (by omega)], fun q => absurd rfl q, fun q hq => by rw [a3.1 q hq, wr_k _ _ _ hq]⟩
    rw [if_pos rfl, show fX0_matchesWord 1 (wr X 1 3 (0 : Int32)) = _ from a1, bnd_some]
    congr 2
    exact i1_c ⟨fun t => ⟨t, fun q => absurd rfl q⟩, fun t => t.1⟩
  · rw [if_neg c, a1, bnd_some]
    show ∃ X', (if i1 (wmB T n (wdl (k + 1)) p = true) = 0 then some ((0 : Int32), X1) else bnd (fX0_matchesDigits X1 (zI (lo4 k : Int)) (zI (hi4 k : Int))) fun q27 => if q27.1 = 0 then (some ((0 : Int32), q27.2)) else (some ((1 : Int32), q27.2))) = _ ∧ _
    by_cases q : wmB T n (wdl (k + 1)) p = true
    · obtain ⟨X2, b1, b2, b3, b4⟩ := X_num hn hT (lo := lo4 k) (hi := hi4 k) (by unfold hi4; split <;> omega) (by unfold hi4 lo4; split <;> omega) a2 hw.2
      refine ⟨X2, ?_, by rw [if_pos ⟨q, c⟩]; exact b2, by rw [b4.2 3 (by omega) (by omega), a3.2 3 (by omega) (by omega), wr_at], by rw [b4.2 2 (by omega) (by omega), a3.2 2 (by omega) (by omega), wr_i _ _ _ (by omega)], fun _ _ => b3, fun q hq => by rw [b4.1 q hq, a3.1 q hq, wr_k _ _ _ hq]⟩
      rw [i1_t q, it1, b1, bnd_some]
      by_cases q2 : lo4 k ≤ nuP T n (hi4 k) (wmP T n (wdl (k + 1)) p) - wmP T n (wdl (k + 1)) p
      · rw [i1_t q2, i1_t ⟨q, fun _ => q2⟩]; rfl
      · rw [i1_f q2, i1_f (fun t => q2 (t.2 c))]; rfl
    · refine ⟨X1, ?_, by rw [if_neg (fun t => q t.1)]; exact a2, by rw [a3.2 3 (by omega) (by omega), wr_at], by rw [a3.2 2 (by omega) (by omega), wr_i _ _ _ (by omega)], fun _ t => absurd t.1 q, fun q hq => by rw [a3.1 q hq, wr_k _ _ _ hq]⟩
      rw [i1_f q, it0, i1_f (fun t => q t.1)]
/-- the reference reads a lock of kind k -/
theorem R_lockK (hn : n ≤ 20) (hT : Tok T) {k : Nat} (hk : k < 4) {p : Nat} (h : RP T n R p 0) (hp : p ≤ n) (h9 : R 0 9 = zI (k : Int)) : ∃ R' w, fX8_readsLock_L79 5000 R 0 = some R' ∧ RP T n R' (lkP T n k p) w ∧ ((w = 0 ∧ lkB T n k p) ∨ (w = 1 ∧ ¬ lkB T n k p)) ∧ R' 0 9 = zI (k : Int) ∧ R' 0 8 = R 0 8 ∧ R' 0 4 = R 0 4 ∧ (k = 0 → R' 0 10 = zI (-5)) ∧ (k ≠ 0 → lkB T n k p → R' 0 10 = zI (lkV T n k p)) ∧ (∀ q, q ≠ 0 → R' q = R q) := by
  have hlt := ltl_at R hk
  obtain ⟨R1, w1, a1, a2, a3, a4⟩ := R_lets_L hn hT hk (ltl k).length 0 p 5000 R h hp h9 (by omega) (by omega)
  have hw := wmP_b T n ((ltl k).drop 0) p hp
  rw [List.drop_zero] at a2 a3 hw
  rw [show (0 : Int32) = zI ((0 : Nat) : Int) from rfl, a1]
  have e4 := a4.2 4 (by omega) (by omega)
  have e8 := a4.2 8 (by omega) (by omega)
  have e9 : R1 0 9 = zI (k : Int) := by rw [a4.2 9 (by omega) (by omega)]; exact h9
  have s1 := a2.cell (i := 10) (by omega) (-5)
  have f9 : wr R1 0 10 (-5 : Int32) 0 9 = zI (k : Int) := by rw [wr_i _ _ _ (by omega)]; exact e9
  unfold fX8_readsLock_B115
  rw [thn_eq, s1.2.2.1, f9]
  have hwd := ltl_w
  rcases a3 with ⟨rfl, q⟩ | ⟨rfl, q⟩
  · rw [if_pos (show bz (zI 0) = 0 by decide)]
    by_cases c : k = 0
    · subst c
      have ew : wdl (0 + 1) = ltl 0 := hwd.1
      unfold lkB lkP lkV
      rw [if_pos (show zI ((0 : Nat) : Int) = 0 from rfl), ew]
      exact ⟨_, 0, rfl, by rw [if_neg (by omega)]; exact s1, Or.inl ⟨rfl, q, fun t => absurd rfl t⟩, f9, by rw [wr_i _ _ _ (by omega)]; exact e8, by rw [wr_i _ _ _ (by omega)]; exact e4, fun _ => wr_at _ _ _ _, fun t => absurd rfl t, fun x hx => by rw [wr_k _ _ _ hx, a4.1 x hx]⟩
    · have ew : wdl (k + 1) = ltl k ++ [32] := by
        have : k = 1 ∨ k = 2 ∨ k = 3 := by omega
        rcases this with rfl | rfl | rfl
        · exact hwd.2.1
        · exact hwd.2.2.1
        · exact hwd.2.2.2.1
      have wa := wm_app T n [32] (ltl k) p
      rw [q] at wa
      simp only [Bool.true_and, if_true] at wa
      obtain ⟨R2, b1, b2, b3⟩ := R_takes hn hT s1 hw.2 (c := 32) (by omega)
      have g9 : R2 0 9 = zI (k : Int) := by rw [b2.2 9 (by omega) (by omega)]; exact f9
      rw [if_neg (show ¬ zI (k : Int) = 0 by rw [zc0, zeq] <;> omega), show fX8_takes (wr R1 0 10 (-5 : Int32)) (32 : Int32) = some R2 from b1, bnd_some, g9]
      have hnum : (if zI (k : Int) = (2 : Int32) then (bnd (fX8_number R2 (4 : Int32) (4 : Int32)) fun q14 => thn (wr q14.2 0 10 q14.1) fun M16 => some M16) else (bnd (fX8_number R2 (1 : Int32) (2 : Int32)) fun q11 => thn (wr q11.2 0 10 q11.1) fun M13 => some M13)) = bnd (fX8_number R2 (zI (lo4 k : Int)) (zI (hi4 k : Int))) fun q11 => thn (wr q11.2 0 10 q11.1) fun M13 => some M13 := by
        have : k = 1 ∨ k = 2 ∨ k = 3 := by omega
        rcases this with rfl | rfl | rfl <;> rfl
      rw [hnum]
      unfold lkB lkP lkV
      rw [ew, wa.1, wa.2]
      rcases b3 with ⟨q1, q2, s2⟩ | ⟨q1, s2⟩
      · obtain ⟨R3, v1, w, c1, c2, c3, c4⟩ := R_num hn hT (lo := lo4 k) (hi := hi4 k) (by unfold hi4 lo4; split <;> omega) s2 (by omega)
        have s3 := c2.cell (i := 10) (by omega) (zI v1)
        rw [c1, bnd_some, (wm1_t ⟨q1, q2⟩).1, (wm1_t ⟨q1, q2⟩).2]
        refine ⟨_, w, rfl, by rw [if_pos ⟨rfl, c⟩]; exact s3, ?_, ?_, ?_, ?_, fun t => absurd t c, fun _ t => ?_, fun x hx => ?_⟩
        · rcases c3 with ⟨t1, t2, t3⟩ | ⟨t1, t2⟩
          · exact Or.inl ⟨t2, rfl, fun _ => t1⟩
          · exact Or.inr ⟨t2, fun t => by have := t.2 c; omega⟩
        · show wr R3 0 10 (zI v1) 0 9 = _
          rw [wr_i _ _ _ (by omega), c4.2 9 (by omega) (by omega)]; exact g9
        · show wr R3 0 10 (zI v1) 0 8 = _
          rw [wr_i _ _ _ (by omega), c4.2 8 (by omega) (by omega), b2.2 8 (by omega) (by omega), wr_i _ _ _ (by omega)]; exact e8
        · show wr R3 0 10 (zI v1) 0 4 = _
          rw [wr_i _ _ _ (by omega), c4.2 4 (by omega) (by omega), b2.2 4 (by omega) (by omega), wr_i _ _ _ (by omega)]; exact e4
        · show wr R3 0 10 (zI v1) 0 10 = _
          rw [wr_at]
          have := t.2 c
          rcases c3 with ⟨t1, t2, t3⟩ | ⟨t1, t2⟩
          · rw [t3]
          · omega
        · show wr R3 0 10 (zI v1) x = _
          rw [wr_k _ _ _ hx, c4.1 x hx, b2.1 x hx, wr_k _ _ _ hx, a4.1 x hx]
      · rw [R_num1 s2, bnd_some, (wm1_f q1).1, (wm1_f q1).2]
        have s3 := s2.cell (i := 10) (by omega) 0
        refine ⟨_, 1, rfl, by rw [if_neg (by simp)]; exact s3, Or.inr ⟨rfl, fun t => by simp at t⟩, ?_, ?_, ?_, fun t => absurd t c, fun _ t => by simp at t, fun x hx => ?_⟩
        · show wr R2 0 10 (0 : Int32) 0 9 = _
          rw [wr_i _ _ _ (by omega)]; exact g9
        · show wr R2 0 10 (0 : Int32) 0 8 = _
          rw [wr_i _ _ _ (by omega), b2.2 8 (by omega) (by omega), wr_i _ _ _ (by omega)]; exact e8
        · show wr R2 0 10 (0 : Int32) 0 4 = _
          rw [wr_i _ _ _ (by omega), b2.2 4 (by omega) (by omega), wr_i _ _ _ (by omega)]; exact e4
        · show wr R2 0 10 (0 : Int32) x = _
          rw [wr_k _ _ _ hx, b2.1 x hx, wr_k _ _ _ hx, a4.1 x hx]
  · rw [if_neg bz_1]
    have hwB : wmB T n (wdl (k + 1)) p = false ∧ wmP T n (wdl (k + 1)) p = wmP T n (ltl k) p := by
      have : k = 0 ∨ k = 1 ∨ k = 2 ∨ k = 3 := by omega
      have wa := wm_app T n [32] (ltl k) p
      rw [q] at wa
      simp only [Bool.false_and] at wa
      rcases this with rfl | rfl | rfl | rfl
      · rw [show wdl (0 + 1) = ltl 0 from hwd.1]; exact ⟨q, rfl⟩
      · rw [show wdl (1 + 1) = ltl 1 ++ [32] from hwd.2.1]; exact ⟨wa.1, wa.2⟩
      · rw [show wdl (2 + 1) = ltl 2 ++ [32] from hwd.2.2.1]; exact ⟨wa.1, wa.2⟩
      · rw [show wdl (3 + 1) = ltl 3 ++ [32] from hwd.2.2.2.1]; exact ⟨wa.1, wa.2⟩
    unfold lkB lkP lkV
    rw [hwB.1, hwB.2]
    exact ⟨_, 1, rfl, by rw [if_neg (by simp)]; exact s1, Or.inr ⟨rfl, fun t => by simp at t⟩, f9, by rw [wr_i _ _ _ (by omega)]; exact e8, by rw [wr_i _ _ _ (by omega)]; exact e4, fun _ => wr_at _ _ _ _, fun _ t => by simp at t, fun x hx => by rw [wr_k _ _ _ hx, a4.1 x hx]⟩
end PD
