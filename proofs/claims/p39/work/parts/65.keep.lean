/-! what holds between two events, beside Iv: limits, queue, results, log, the game -/
def Jl (σ : Nat → Int) : Prop :=
  (∀ e : Nat, (e : Int) < σ 17 → σ (402 + 4 * e) ≤ 60) ∧ (∀ e : Nat, (e : Int) + 1 < σ 17 → σ (402 + 4 * e) ≤ σ (402 + 4 * (e + 1)))
def Jr (σ : Nat → Int) : Prop := ∀ r : Nat, (r : Int) < σ 4 → (0 ≤ σ (193 + 7 * r) ∧ σ (193 + 7 * r) ≤ σ (194 + 7 * r) ∧ σ (194 + 7 * r) ≤ 1000000) ∧ (0 ≤ σ (195 + 7 * r) ∧ σ (195 + 7 * r) ≤ 60) ∧ (0 ≤ σ (197 + 7 * r) ∧ σ (197 + 7 * r) ≤ 9)
def Jq (B : Int) (σ : Nat → Int) : Prop := (∀ g : Nat, (g : Int) + 1 < σ 3 → σ (184 + g) ≤ σ (184 + (g + 1))) ∧ (∀ g : Nat, (g : Int) < σ 3 → σ (184 + g) ≤ B)
def Jg (σ : Nat → Int) : Prop := σ 10 = 1 → (heldN σ : Int) ≤ σ 11 ∧ σ 12 ≤ σ 13 ∧ ∀ e : Nat, (e : Int) < σ 17 → σ (402 + 4 * e) ≤ σ 9 - σ 13
def J0 (B : Int) (σ : Nat → Int) : Prop := (σ 6 = 60 ∧ σ 7 = 3) ∧ Jq B σ ∧ Jr σ ∧ Jl σ ∧ Jg σ
/-- while a game is played its exit is closed, and of each box at most four digits are known -/
def Jx (σ : Nat → Int) : Prop := σ 10 = 1 → σ (56 + (σ 5).toNat) ≠ 1 ∧ ∀ b : Nat, b < 12 → 0 ≤ σ (68 + b) ∧ σ (68 + b) ≤ 15
def J (B : Int) (σ : Nat → Int) : Prop := J0 B σ ∧ Jx σ
theorem Jx.keep {σ σ' : Nat → Int} (h : Jx σ) (h5 : 0 ≤ σ 5 ∧ σ 5 < 12) (e : ∀ j : Nat, j = 5 ∨ j = 10 ∨ (56 ≤ j ∧ j < 80) → σ' j = σ j) : Jx σ' := by
  intro q
  rw [e 10 (by omega)] at q
  rw [e 5 (by omega), e _ (by omega)]
  refine ⟨(h q).1, fun b hb => ?_⟩
  rw [e _ (by omega)]
  exact (h q).2 b hb
theorem kn16 : ∀ a, a < 16 → ∀ k, k < 4 → 0 ≤ (zI ((a : Nat) : Int) ||| ((1 : Int32) <<< (zI ((k : Nat) : Int) &&& 31))).toInt ∧ (zI ((a : Nat) : Int) ||| ((1 : Int32) <<< (zI ((k : Nat) : Int) &&& 31))).toInt ≤ 15 := by decide +kernel
theorem Jx.know {σ σ' : Nat → Int} (h : Jx σ) (h10 : σ 10 = 1) (h5 : 0 ≤ σ 5 ∧ σ 5 < 12) {b : Nat} {k : Int} (hb : b < 12) (hk : 0 ≤ k ∧ k ≤ 3) (e : ∀ j : Nat, j = 5 ∨ (56 ≤ j ∧ j < 80) → j ≠ 68 + b → σ' j = σ j) (eb : σ' (68 + b) = (zI (σ (68 + b)) ||| ((1 : Int32) <<< (zI k &&& 31))).toInt) : Jx σ' := by
  intro _
  obtain ⟨h1, h2⟩ := h h10
  rw [e 5 (by omega) (by omega), e _ (by omega) (by omega)]
  refine ⟨h1, fun c hc => ?_⟩
  by_cases q : c = b
  · subst q
    obtain ⟨a, ha⟩ : ∃ a : Nat, σ (68 + c) = a := ⟨(σ (68 + c)).toNat, by have := h2 c hc; omega⟩
    obtain ⟨k, rfl⟩ : ∃ j : Nat, k = j := ⟨k.toNat, by omega⟩
    rw [eb, ha]
    have := h2 c hc
    exact kn16 a (by omega) k (by omega)
  · rw [e _ (by omega) (by omega)]
    exact h2 c hc
theorem J0.mono {B B' : Int} {σ : Nat → Int} (h : J0 B σ) (hB : B ≤ B') : J0 B' σ := ⟨h.1, ⟨h.2.1.1, fun g hg => Int.le_trans (h.2.1.2 g hg) hB⟩, h.2.2⟩
theorem J.mono {B B' : Int} {σ : Nat → Int} (h : J B σ) (hB : B ≤ B') : J B' σ := ⟨h.1.mono hB, h.2⟩
/-- a change -/
theorem J0.upd {B : Int} {σ σ' : Nat → Int} (h : J0 B σ) (h17 : 0 ≤ σ 17) (h4 : σ 4 ≤ 30) (h3 : σ 3 ≤ 8) (e : ∀ j : Nat, j = 3 ∨ j = 4 ∨ j = 6 ∨ j = 7 ∨ (10 ≤ j ∧ j ≤ 13) ∨ j = 17 ∨ (184 ≤ j ∧ j < 402) ∨ (402 ≤ j ∧ (j : Int) < 402 + 4 * σ 17) → σ' j = σ j) (e9 : σ 9 ≤ σ' 9) (hh : σ 10 = 1 → (heldN σ' : Int) ≤ σ 11) : J0 B σ' := by
  obtain ⟨⟨j6, j7⟩, ⟨q1, q2⟩, hr, ⟨l1, l2⟩, hg⟩ := h
  have e3 := e 3 (by omega)
  have e4 := e 4 (by omega)
  have e10 := e 10 (by omega)
  have e11 := e 11 (by omega)
  have e12 := e 12 (by omega)
  have e13 := e 13 (by omega)
  have e17 := e 17 (by omega)
  refine ⟨⟨by rw [e 6 (by omega)]; exact j6, by rw [e 7 (by omega)]; exact j7⟩, ⟨fun g hg => ?_, fun g hg => ?_⟩, fun r hr' => ?_, ⟨fun k hk => ?_, fun k hk => ?_⟩, fun q => ?_⟩
  · rw [e3] at hg
    rw [e _ (by omega), e _ (by omega)]
    exact q1 g hg
  · rw [e3] at hg
    rw [e _ (by omega)]
    exact q2 g hg
  · rw [e4] at hr'
    rw [e _ (by omega), e _ (by omega), e _ (by omega), e _ (by omega)]
    exact hr r hr'
  · rw [e17] at hk
    rw [e _ (by omega)]
    exact l1 k hk
  · rw [e17] at hk
    rw [e _ (by omega), e _ (by omega)]
    exact l2 k hk
  · rw [e10] at q
    obtain ⟨g1, g2, g3⟩ := hg q
    refine ⟨by rw [e11]; exact hh q, by omega, fun k hk => ?_⟩
    rw [e17] at hk
    rw [e _ (by omega), e13]
    have := g3 k hk
    omega
/-- an entry is written -/
def Nt (σ σ' : Nat → Int) : Prop := (∀ k, k < 402 → k ≠ 17 → σ' k = σ k) ∧ σ' 17 = σ 17 + 1 ∧ σ' (402 + 4 * (σ 17).toNat) = σ 9 - σ 13 ∧ (∀ k, 402 ≤ k → k < 402 + 4 * (σ 17).toNat → σ' k = σ k)
theorem heldN_c {σ σ' : Nat → Int} (h1 : σ' 1 = σ 1) (h : ∀ p : Nat, (p : Int) < σ 1 → σ' (104 + p) = σ (104 + p)) : heldN σ' = heldN σ := by
  unfold heldN
  rw [h1]
  have : ∀ n : Nat, (n : Int) ≤ σ 1 → cnt (fun p => decide (σ' (104 + p) = -1)) n = cnt (fun p => decide (σ (104 + p) = -1)) n := by
    intro n
    induction n with
    | zero => intro _; rfl
    | succ n ih =>
      intro hn
      unfold cnt
      rw [ih (by omega), h n (by omega)]
  by_cases c : 0 ≤ σ 1
  · exact this _ (by omega)
  · rw [show (σ 1).toNat = 0 by omega]; rfl
theorem J0.note {B : Int} {n : Nat} {σ σ' : Nat → Int} (h : J0 B σ) (hI : Iv n σ) (h10 : σ 10 = 1) (t : Nt σ σ') : J0 B σ' := by
  obtain ⟨⟨j6, j7⟩, ⟨q1, q2⟩, hr, ⟨l1, l2⟩, hg⟩ := h
  obtain ⟨g1, g2, g3⟩ := hg h10
  obtain ⟨e, t17, tn, to⟩ := t
  have hN := hI.2.1
  have hp := (hI.2.2.1 h10).1
  have hB := hI.1.1
  obtain ⟨m, hm⟩ : ∃ m : Nat, σ 17 = m := ⟨(σ 17).toNat, by omega⟩
  have hmt : (σ 17).toNat = m := by omega
  rw [hmt] at tn to
  have val : ∀ k : Nat, k < m → σ' (402 + 4 * k) = σ (402 + 4 * k) := fun k hk => to _ (by omega) (by omega)
  refine ⟨⟨by rw [e 6 (by omega) (by omega)]; exact j6, by rw [e 7 (by omega) (by omega)]; exact j7⟩, ⟨fun g hg => ?_, fun g hg => ?_⟩, fun r hr' => ?_, ⟨fun k hk => ?_, fun k hk => ?_⟩, fun q => ?_⟩
  · rw [e 3 (by omega) (by omega)] at hg
    rw [e _ (by omega) (by omega), e _ (by omega) (by omega)]
    exact q1 g hg
  · rw [e 3 (by omega) (by omega)] at hg
    rw [e _ (by omega) (by omega)]
    exact q2 g hg
  · rw [e 4 (by omega) (by omega)] at hr'
    rw [e _ (by omega) (by omega), e _ (by omega) (by omega), e _ (by omega) (by omega), e _ (by omega) (by omega)]
    exact hr r hr'
  · rw [t17] at hk
    by_cases c : k = m
    · subst c; rw [tn]; omega
    · rw [val k (by omega)]; exact l1 k (by omega)
  · rw [t17] at hk
    by_cases c : k + 1 = m
    · subst c
      rw [tn, val k (by omega)]
      exact g3 k (by omega)
    · rw [val k (by omega), val (k + 1) (by omega)]
      exact l2 k (by omega)
  · refine ⟨?_, ?_, fun k hk => ?_⟩
    · rw [heldN_c (e 1 (by omega) (by omega)) (fun p hp => e _ (by omega) (by omega)), e 11 (by omega) (by omega)]; exact g1
    · rw [e 12 (by omega) (by omega), e 13 (by omega) (by omega)]; exact g2
    · rw [t17] at hk
      rw [e 9 (by omega) (by omega), e 13 (by omega) (by omega)]
      by_cases c : k = m
      · subst c; rw [tn]; omega
      · rw [val k (by omega)]; exact g3 k (by omega)
/-- the end of a game -/
def En (won : Int) (σ σ' : Nat → Int) : Prop := (∀ j, j ≠ 10 → j ≠ 4 → (j < 104 ∨ 128 ≤ j) → (j < 192 ∨ 402 ≤ j) → σ' j = σ j) ∧ σ' 10 = 0 ∧ σ' 4 = σ 4 + 1 ∧ (∀ j, 192 ≤ j → j < 402 → ¬ (192 + 7 * (σ 4).toNat ≤ j ∧ j < 199 + 7 * (σ 4).toNat) → σ' j = σ j) ∧
  (σ' (193 + 7 * (σ 4).toNat) = σ 12 ∧ σ' (194 + 7 * (σ 4).toNat) = σ 13 ∧ σ' (195 + 7 * (σ 4).toNat) = σ 9 - σ 13 ∧ σ' (196 + 7 * (σ 4).toNat) = won ∧ σ' (197 + 7 * (σ 4).toNat) = σ 14)
theorem J0.fin {B : Int} {n : Nat} {σ σ' : Nat → Int} {won : Int} (h : J0 B σ) (h3 : σ 3 ≤ 8) (h4 : 0 ≤ σ 4 ∧ σ 4 ≤ 29) (h17 : 0 ≤ σ 17) (h10 : σ 10 = 1) (h13 : 0 ≤ σ 12 ∧ σ 13 ≤ σ 9 ∧ σ 9 ≤ σ 13 + 60 ∧ σ 13 ≤ 1000000) (h14 : 0 ≤ σ 14 ∧ σ 14 ≤ 9) (t : En won σ σ') : J0 B σ' := by
  obtain ⟨⟨j6, j7⟩, ⟨q1, q2⟩, hr, ⟨l1, l2⟩, hg⟩ := h
  obtain ⟨g1, g2, g3⟩ := hg h10
  obtain ⟨e, t10, t4, to, w1, w2, w3, w4, w5⟩ := t
  obtain ⟨m, hm⟩ : ∃ m : Nat, σ 4 = m := ⟨(σ 4).toNat, by omega⟩
  have hmt : (σ 4).toNat = m := by omega
  rw [hmt] at to w1 w2 w3 w4 w5
  have e' : ∀ j, j ≠ 10 → j ≠ 4 → (j < 104 ∨ (128 ≤ j ∧ j < 192) ∨ 402 ≤ j) → σ' j = σ j := fun j a b c => e j a b (by omega) (by omega)
  refine ⟨⟨by rw [e' 6 (by omega) (by omega) (by omega)]; exact j6, by rw [e' 7 (by omega) (by omega) (by omega)]; exact j7⟩, ⟨fun g hg => ?_, fun g hg => ?_⟩, fun r hr' => ?_, ⟨fun k hk => ?_, fun k hk => ?_⟩, fun q => ?_⟩
  · rw [e' 3 (by omega) (by omega) (by omega)] at hg
    rw [e' _ (by omega) (by omega) (by omega), e' _ (by omega) (by omega) (by omega)]
    exact q1 g hg
  · rw [e' 3 (by omega) (by omega) (by omega)] at hg
    rw [e' _ (by omega) (by omega) (by omega)]
    exact q2 g hg
  · rw [t4] at hr'
    by_cases c : r = m
    · subst c
      rw [w1, w2, w3, w5]
      omega
    · rw [to _ (by omega) (by omega) (by omega), to _ (by omega) (by omega) (by omega), to _ (by omega) (by omega) (by omega), to _ (by omega) (by omega) (by omega)]
      exact hr r (by omega)
  · rw [e' 17 (by omega) (by omega) (by omega)] at hk
    rw [e' _ (by omega) (by omega) (by omega)]
    exact l1 k hk
  · rw [e' 17 (by omega) (by omega) (by omega)] at hk
    rw [e' _ (by omega) (by omega) (by omega), e' _ (by omega) (by omega) (by omega)]
    exact l2 k hk
  · omega
section NE
variable {X R : Mem} {σ : Nat → Int} {n : Nat} {B : Int}
theorem note_n (h : SR X R σ) (h17 : 0 ≤ σ 17 ∧ σ 17 ≤ 120) (hE : Ents σ (σ 17).toNat) {j : Nat} {w a b a' b' : Int} (hj : j < 13) (hw : wdl j = wl w) (ha' : a' = -1 ∨ (0 ≤ a' ∧ a' < 100000)) (hb' : b' = -1 ∨ (0 ≤ b' ∧ b' < 100000)) (hab : argL a' ++ argL b' = wa w a b) (hEn : Ent (σ 9 - σ 13) w a b) : ∃ X' R' σ', fX2_append 22 j X (fX6_gameMinute 3 X) (zI a') (zI b') = some X' ∧ fX8_note R (zI w) (zI a) (zI b) = some R' ∧ SR X' R' σ' ∧ Fr X R X' R' ∧ Nt σ σ' ∧ Ents σ' (σ' 17).toNat := by
  have hR := h.row
  obtain ⟨e, he⟩ : ∃ e : Nat, σ 17 = e := ⟨(σ 17).toNat, by omega⟩
  have het : (σ 17).toNat = e := by omega
  rw [het] at hE
  have hL : LogIs X 22 (lgs σ e) := by have := h.1.2.2.2.2.2.2; unfold Lg at this; rw [het] at this; exact this
  have hlen := lgs_len e hE
  obtain ⟨X', p1, p2, p3⟩ := X_append (j := j) hL hj (m := σ 9 - σ 13) (a := a') (b := b') (by have := hEn.1; omega) ha' hb' (by omega)
  rw [minute h, p1]
  generalize hs1 : us σ (402 + 4 * e) (σ 9 - σ 13) = σ1
  generalize hs2 : us σ1 (403 + 4 * e) w = σ2
  generalize hs3 : us σ2 (404 + 4 * e) a = σ3
  generalize hs4 : us σ3 (405 + 4 * e) b = σ4
  have r1 := wrR hR (402 + 4 * e) (σ 9 - σ 13)
  rw [hs1] at r1
  have r2 := wrR r1 (403 + 4 * e) w
  rw [hs2] at r2
  have r3 := wrR r2 (404 + 4 * e) a
  rw [hs3] at r3
  have r4 := wrR r3 (405 + 4 * e) b
  rw [hs4] at r4
  have v17 : σ4 17 = σ 17 := by subst hs4; subst hs3; subst hs2; subst hs1; rw [us_ne _ _ (by omega), us_ne _ _ (by omega), us_ne _ _ (by omega), us_ne _ _ (by omega)]
  have r5 := wrR r4 17 (σ 17 + 1)
  have t0 : (zI ((402 + 4 * e : Nat) : Int)).toNatClampNeg = 402 + 4 * e := by rw [ztn (by omega) (by omega)]; omega
  have t1 : zI ((402 + 4 * e : Nat) : Int) + 1 = zI ((403 + 4 * e : Nat) : Int) := by rw [zc1, zadd]; congr 1; omega
  have t1' : (zI ((403 + 4 * e : Nat) : Int)).toNatClampNeg = 403 + 4 * e := by rw [ztn (by omega) (by omega)]; omega
  have t2 : zI ((402 + 4 * e : Nat) : Int) + 2 = zI ((404 + 4 * e : Nat) : Int) := by rw [zc2, zadd]; congr 1; omega
  have t2' : (zI ((404 + 4 * e : Nat) : Int)).toNatClampNeg = 404 + 4 * e := by rw [ztn (by omega) (by omega)]; omega
  have t3 : zI ((402 + 4 * e : Nat) : Int) + 3 = zI ((405 + 4 * e : Nat) : Int) := by rw [zc3, zadd]; congr 1; omega
  have t3' : (zI ((405 + 4 * e : Nat) : Int)).toNatClampNeg = 405 + 4 * e := by rw [ztn (by omega) (by omega)]; omega
  have eN : fX8_note R (zI w) (zI a) (zI b) = some (wr (wr (wr (wr (wr R 1 (402 + 4 * e) (zI (σ 9 - σ 13))) 1 (403 + 4 * e) (zI w)) 1 (404 + 4 * e) (zI a)) 1 (405 + 4 * e) (zI b)) 1 17 (zI (σ 17 + 1))) := by
    unfold fX8_note
    rw [rd hR 17, he, zc402, zc4, zmul, zadd, show (402 : Int) + 4 * (e : Int) = ((402 + 4 * e : Nat) : Int) by omega, thn_eq, if_pos (by rw [zinb] <;> omega), t0, rd hR, rd hR, zsub, thn_eq, t1, if_pos (by rw [zinb] <;> omega), t1', thn_eq, t2, if_pos (by rw [zinb] <;> omega), t2', thn_eq, t3, if_pos (by rw [zinb] <;> omega), t3', thn_eq, thn_eq, rd r4, v17, zc1, zadd, he]
  rw [eN]
  have val : ∀ k, us σ4 17 (σ 17 + 1) k = if k = 17 then σ 17 + 1 else if k = 405 + 4 * e then b else if k = 404 + 4 * e then a else if k = 403 + 4 * e then w else if k = 402 + 4 * e then σ 9 - σ 13 else σ k := by
    intro k
    subst hs4; subst hs3; subst hs2; subst hs1
    rfl
  have g17 : us σ4 17 (σ 17 + 1) 17 = σ 17 + 1 := us_at _ _ _
  have glow : ∀ k, k < 402 → k ≠ 17 → us σ4 17 (σ 17 + 1) k = σ k := by
    intro k h1 h2
    rw [val, if_neg h2, if_neg (by omega), if_neg (by omega), if_neg (by omega), if_neg (by omega)]
  have gold : ∀ k, 402 ≤ k → k < 402 + 4 * e → us σ4 17 (σ 17 + 1) k = σ k := by
    intro k h1 h2
    rw [val, if_neg (by omega), if_neg (by omega), if_neg (by omega), if_neg (by omega), if_neg (by omega)]
  have gn0 : us σ4 17 (σ 17 + 1) (402 + 4 * e) = σ 9 - σ 13 := by rw [val, if_neg (by omega), if_neg (by omega), if_neg (by omega), if_neg (by omega), if_pos rfl]
  have gn1 : us σ4 17 (σ 17 + 1) (403 + 4 * e) = w := by rw [val, if_neg (by omega), if_neg (by omega), if_neg (by omega), if_pos rfl]
  have gn2 : us σ4 17 (σ 17 + 1) (404 + 4 * e) = a := by rw [val, if_neg (by omega), if_neg (by omega), if_pos rfl]
  have gn3 : us σ4 17 (σ 17 + 1) (405 + 4 * e) = b := by rw [val, if_neg (by omega), if_pos rfl]
  have ht : (us σ4 17 (σ 17 + 1) 17).toNat = e + 1 := by rw [g17]; omega
  refine ⟨X', _, us σ4 17 (σ 17 + 1), rfl, rfl, ⟨h.1.log_new p3 ?_ glow, r5⟩, ⟨fun k hk => p3 k (by omega) (by omega), ?_, ?_⟩, ⟨glow, g17, by rw [het]; exact gn0, by rw [het]; exact gold⟩, ?_⟩
  · rw [ht]
    unfold lgs spE
    rw [lgs_c e gold, gn0, gn1, gn2, gn3]
    have : sp (σ 9 - σ 13) w a b = dl (σ 9 - σ 13) ++ (58 :: wdl j) ++ (argL a' ++ argL b') ++ [47] := by unfold sp; rw [hw, hab]
    rw [this]
    exact p2
  · intro k h1 h2
    rw [wr_k _ _ _ (by omega), wr_k _ _ _ (by omega), wr_k _ _ _ (by omega), wr_k _ _ _ (by omega), wr_k _ _ _ (by omega)]
  · rw [wr_k _ _ _ (by omega), wr_k _ _ _ (by omega), wr_k _ _ _ (by omega), wr_k _ _ _ (by omega), wr_k _ _ _ (by omega)]
  · rw [ht]
    intro i hi
    by_cases q : i = e
    · subst q
      rw [gn0, gn1, gn2, gn3]
      exact hEn
    · rw [gold _ (by omega) (by omega), gold _ (by omega) (by omega), gold _ (by omega) (by omega), gold _ (by omega) (by omega)]
      exact hE i (by omega)
theorem end_n (h : SR X R σ) (hB : RB σ) (h10 : σ 10 = 1) (h4 : 0 ≤ σ 4 ∧ σ 4 ≤ 29) (hk0 : ∀ b : Nat, b < 12 → σ 0 ≤ b → σ (68 + b) = 0) {won : Int} (hw : won = 0 ∨ won = 1) : ∃ X' R' σ', fX6_endGame 3 X (zI won) = some X' ∧ fX8_end R (zI won) = some R' ∧ SR X' R' σ' ∧ Fr X R X' R' ∧ En won σ σ' ∧ RB σ' ∧ (∀ p : Nat, (p : Int) < σ 1 → 0 ≤ σ' (104 + p)) := by
  have h0 := hB.1
  obtain ⟨k, hk⟩ : ∃ k : Nat, σ 4 = k := ⟨(σ 4).toNat, by omega⟩
  obtain ⟨X1, p1, s1, f1, g1⟩ := X_res h.1 hk (by omega) (σ 9 - σ 13) won
  generalize hσ1 : us (us (us (us (us (us (us (us σ (192 + 7 * k) (σ 11)) (193 + 7 * k) (σ 12)) (194 + 7 * k) (σ 13)) (195 + 7 * k) (σ 9 - σ 13)) (196 + 7 * k) won) (197 + 7 * k) (σ 14)) (198 + 7 * k) (σ 16)) 4 (σ 4 + 1) = σ1 at s1
  have eσ1 : ∀ j, j ≠ 4 → (j < 192 ∨ 402 ≤ j) → σ1 j = σ j := by
    intro j a b
    subst hσ1
    rw [us_ne _ _ a, us_ne _ _ (by omega), us_ne _ _ (by omega), us_ne _ _ (by omega), us_ne _ _ (by omega), us_ne _ _ (by omega), us_ne _ _ (by omega), us_ne _ _ (by omega)]
  have hB1 : RB σ1 := hB.c (fun j hj hc => eσ1 j (by omega) (by omega))
  have er : enE (drp σ (σ 1).toNat) won k = us (drp σ1 (σ 1).toNat) 10 0 := by rw [enE_drp (by omega) (by omega), hσ1]
  have e1 : σ1 1 = σ 1 := eσ1 1 (by omega) (by omega)
  have r1 : Ro (wr X1 19 0 0) 4 σ1 := s1.1.frame (fun q hq _ => wr_k X1 _ _ (by omega)) (fun _ _ _ => rfl)
  obtain ⟨X2, p2, s2, g2⟩ := X_drop r1 hB1
  rw [e1] at s2
  have hB2 : RB (drp σ1 (σ 1).toNat) := drp_B hB1 _ (by omega)
  obtain ⟨X3, p3, g3, z3, z3'⟩ := X_forget s2 hB2
  have d0 : drp σ1 (σ 1).toNat 0 = σ 0 := by rw [drp_ne (by omega), eσ1 0 (by omega) (by omega)]
  have eX3 : ∀ q, q ≠ 9 → q ≠ 11 → q ≠ 19 → X3 q = X1 q := fun q a b c => by rw [g3 q a, g2 q b, wr_k X1 _ _ c]
  have eX19 : ∀ i, i ≠ 0 → X3 19 i = X1 19 i := fun i a => by rw [g3 19 (by omega), g2 19 (by omega), wr_i X1 _ _ a]
  have en : enE (drp σ (σ 1).toNat) won k = us (drp σ1 (σ 1).toNat) 10 0 := er
  refine ⟨X3, _, us (drp σ1 (σ 1).toNat) 10 0, ?_, R_end h.row hB hk (by omega) won, ⟨⟨?_, ?_, ?_, ?_, ?_, ?_, ?_⟩, ?_⟩, ⟨?_, ?_, ?_⟩, ⟨?_, us_at _ _ _, ?_, ?_, ?_, ?_, ?_, ?_, ?_⟩, ?_, ?_⟩
  · unfold fX6_endGame
    have ea : fX7_asNumber X (zI won) = zI won := by
      rcases hw with rfl | rfl <;> rfl
    rw [ea, minute h]
    show (bnd (fX4_append 20 19 X (zI (σ 9 - σ 13)) (zI won)) fun M3 => _) = _
    rw [p1, bnd_some, thn_eq]
    show (bnd (fX5_dropHeldProps 4 (wr X1 19 0 0)) fun M5 => _) = _
    rw [p2, bnd_some]
    show (bnd (fX5_forgetDigits 4 X2) fun M6 => _) = _
    rw [p3, bnd_some]
  · refine s2.frame (fun q hq hq5 => ?_) (fun j hj hc => us_ne _ _ (by omega))
    exact g3 _ (by omega)
  · refine s1.2.1.frame (fun q hq => eX3 _ (by omega) (by omega) (by omega)) (fun i hi => eX19 i (by omega)) (fun j hj => ?_)
    have hj2 := so_lt hj
    have hj3 := (sk_ok j hj2 hj).2.1
    have n10 : j ≠ 10 := by intro q; subst q; exact absurd hj (by decide)
    rw [us_ne _ _ n10]
    refine drp_ne ?_
    have : ¬ (104 ≤ j ∧ j < 128) := by
      intro q
      simp [ro] at hj3
      omega
    omega
  · rw [eX19 1 (by omega), us_ne _ _ (by omega), drp_ne (by omega)]
    exact s1.2.2.1
  · rw [us_at, g3 19 (by omega), g2 19 (by omega), wr_at]; rfl
  · rw [us_at]
    intro q
    omega
  · intro _ b hb
    show X3 9 b = 0
    by_cases c : (b : Int) < σ 0
    · exact z3 b (by rw [d0]; exact c)
    · rw [z3' b (by rw [d0]; omega), g2 (4 + 5) (by omega), wr_k X1 _ _ (by omega)]
      have := s1.2.2.2.2.1 (by rw [eσ1 10 (by omega) (by omega)]; exact h10) b hb
      rw [eσ1 _ (by omega) (by omega), hk0 b hb (by omega)] at this
      exact this
  · exact (s1.2.2.2.2.2.2).frame (eX3 22 (by omega) (by omega) (by omega)) (eX3 23 (by omega) (by omega) (by omega)) (fun j hj => by rw [us_ne _ _ (by omega), drp_ne (by omega)])
  · rw [setR_at, en]
  · intro q hq
    rw [eX3 q (by omega) (by omega) (by omega)]
    exact f1 q hq
  · intro q h1 h2
    exact setR_ne R _ (by omega)
  · rw [setR_ne R _ (by omega)]
  · intro j a b c d
    rw [us_ne _ _ a, drp_ne (by omega)]
    exact eσ1 j b d
  · rw [us_ne _ _ (by omega), drp_ne (by omega)]
    subst hσ1
    exact us_at _ _ _
  · intro j j1 j2 j3
    rw [show (σ 4).toNat = k by omega] at j3
    rw [us_ne _ _ (by omega), drp_ne (by omega)]
    subst hσ1
    rw [us_ne _ _ (by omega), us_ne _ _ (by omega), us_ne _ _ (by omega), us_ne _ _ (by omega), us_ne _ _ (by omega), us_ne _ _ (by omega), us_ne _ _ (by omega), us_ne _ _ (by omega)]
  · rw [show (σ 4).toNat = k by omega, us_ne _ _ (by omega), drp_ne (by omega)]
    subst hσ1
    rw [us_ne _ _ (by omega), us_ne _ _ (by omega), us_ne _ _ (by omega), us_ne _ _ (by omega), us_ne _ _ (by omega), us_ne _ _ (by omega), us_at]
  · rw [show (σ 4).toNat = k by omega, us_ne _ _ (by omega), drp_ne (by omega)]
    subst hσ1
    rw [us_ne _ _ (by omega), us_ne _ _ (by omega), us_ne _ _ (by omega), us_ne _ _ (by omega), us_ne _ _ (by omega), us_at]
  · rw [show (σ 4).toNat = k by omega, us_ne _ _ (by omega), drp_ne (by omega)]
    subst hσ1
    rw [us_ne _ _ (by omega), us_ne _ _ (by omega), us_ne _ _ (by omega), us_ne _ _ (by omega), us_at]
  · rw [show (σ 4).toNat = k by omega, us_ne _ _ (by omega), drp_ne (by omega)]
    subst hσ1
    rw [us_ne _ _ (by omega), us_ne _ _ (by omega), us_ne _ _ (by omega), us_at]
  · rw [show (σ 4).toNat = k by omega, us_ne _ _ (by omega), drp_ne (by omega)]
    subst hσ1
    rw [us_ne _ _ (by omega), us_ne _ _ (by omega), us_at]
  · exact hB2.c (fun j hj hc => us_ne _ _ (by omega))
  · intro p hp
    rw [us_ne _ _ (by omega)]
    have q := pr hB hp
    unfold drp
    split
    · omega
    · rename_i c
      have : σ1 (104 + p) = σ (104 + p) := eσ1 _ (by omega) (by omega)
      rw [this] at c ⊢
      omega
end NE
/-! how many props are held, when one is put elsewhere -/
theorem heldN_put {σ : Nat → Int} (p : Nat) (v : Int) : heldN (us σ (104 + p) v) ≤ heldN σ + 1 := by
  unfold heldN
  by_cases hp1 : 104 + p = 1
  · omega
  rw [us_ne σ v (by omega)]
  have : ∀ n : Nat, cnt (fun q => decide (us σ (104 + p) v (104 + q) = -1)) n ≤ cnt (fun q => decide (σ (104 + q) = -1)) n + (if p < n then 1 else 0) := by
    intro n
    induction n with
    | zero => exact Nat.zero_le _
    | succ n ih =>
      unfold cnt
      by_cases c : n = p
      · subst c
        rw [if_neg (by omega)] at ih
        rw [if_pos (show n < n + 1 by omega)]
        split <;> split <;> omega
      · rw [us_ne σ v (show 104 + n ≠ 104 + p by omega)]
        have e : (if p < n + 1 then 1 else 0) = (if p < n then 1 else 0) := by
          by_cases q : p < n
          · rw [if_pos q, if_pos (by omega)]
          · rw [if_neg q, if_neg (by omega)]
        rw [e]
        omega
  have := this (σ 1).toNat
  split at this <;> omega
theorem heldN_drop {σ : Nat → Int} (p : Nat) {v : Int} (hv : v ≠ -1) : heldN (us σ (104 + p) v) ≤ heldN σ := by
  unfold heldN
  rw [us_ne σ v (by omega)]
  generalize (σ 1).toNat = n
  induction n with
  | zero => exact Nat.le_refl _
  | succ n ih =>
    unfold cnt
    by_cases c : n = p
    · subst c
      rw [us_at, if_neg (by simp [hv])]
      split <;> omega
    · rw [us_ne σ v (show 104 + n ≠ 104 + p by omega)]
      omega
