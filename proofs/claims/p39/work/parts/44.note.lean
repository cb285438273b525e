theorem lgs_len {σ : Nat → Int} : ∀ n : Nat, (∀ e, e < n → Ent (σ (402 + 4 * e)) (σ (403 + 4 * e)) (σ (404 + 4 * e)) (σ (405 + 4 * e))) → (lgs σ n).length ≤ 16 * n := by
  intro n
  induction n with
  | zero => intro _; simp [lgs]
  | succ n ih =>
    intro h
    have h1 := ih (fun e he => h e (by omega))
    have h2 := sp_len (h n (by omega))
    unfold lgs spE
    rw [List.length_append]
    omega
def Ents (σ : Nat → Int) (n : Nat) : Prop := ∀ e, e < n → Ent (σ (402 + 4 * e)) (σ (403 + 4 * e)) (σ (404 + 4 * e)) (σ (405 + 4 * e))
section NT
variable {X R : Mem} {σ : Nat → Int}
theorem St.log_new {X' : Mem} {σ' : Nat → Int} (h : St X 3 σ) (hX : LF 22 X X') (hL : LogIs X' 22 (lgs σ' (σ' 17).toNat)) (hs : ∀ j, j < 402 → j ≠ 17 → σ' j = σ j) : St X' 3 σ' := by
  obtain ⟨hr, hs2, h1, h0, hk1, hk0, hg⟩ := h
  have e10 : σ' 10 = σ 10 := hs 10 (by omega) (by omega)
  refine ⟨hr.frame (fun k hk _ => hX _ (by omega) (by omega)) (fun j hj hc => hs j (by omega) (by omega)), ?_, ?_, ?_, ?_, ?_, hL⟩
  · refine hs2.frame (fun k hk => hX _ (by omega) (by omega)) (fun i _ => by rw [hX _ (by omega) (by omega)]) (fun j hj => hs j (so_lt hj) ?_)
    intro q
    subst q
    exact absurd hj (by decide)
  · rw [hX _ (by omega) (by omega), hs 11 (by omega) (by omega)]; exact h1
  · rw [hX _ (by omega) (by omega), e10]; exact h0
  · rw [e10]
    intro e
    exact (hk1 e).frame (hX _ (by omega) (by omega)) (fun b hb => hs _ (by omega) (by omega))
  · rw [e10]
    intro e b hb
    rw [hX _ (by omega) (by omega)]
    exact hk0 e b hb
theorem minute (h : SR X R σ) : fX6_gameMinute 3 X = zI (σ 9 - σ 13) := by
  unfold fX6_gameMinute
  rw [h.clock, h.start, zsub]
theorem left (h : SR X R σ) : fX6_minutesLeft 3 X = zI (σ 13 + σ 6 - σ 9) := by
  unfold fX6_minutesLeft
  rw [h.clock, h.start, h.limit, zadd, zsub]
theorem R_left (hR : R 1 = enc σ) : fX8_minutesLeft R = some (zI (σ 13 + σ 6 - σ 9)) := by
  unfold fX8_minutesLeft
  rw [rd hR, rd hR, rd hR, zadd, zsub]
/-- an entry of the log -/
theorem note_ok (h : SR X R σ) (h17 : 0 ≤ σ 17 ∧ σ 17 ≤ 120) (hE : Ents σ (σ 17).toNat) {j : Nat} {w a b a' b' : Int} (hj : j < 13) (hw : wdl j = wl w) (ha' : a' = -1 ∨ (0 ≤ a' ∧ a' < 100000)) (hb' : b' = -1 ∨ (0 ≤ b' ∧ b' < 100000)) (hab : argL a' ++ argL b' = wa w a b) (hEn : Ent (σ 9 - σ 13) w a b) : ∃ X' R' σ', fX2_append 22 j X (fX6_gameMinute 3 X) (zI a') (zI b') = some X' ∧ fX8_note R (zI w) (zI a) (zI b) = some R' ∧ SR X' R' σ' ∧ Fr X R X' R' ∧ (∀ k, k < 402 → k ≠ 17 → σ' k = σ k) ∧ σ' 17 = σ 17 + 1 ∧ Ents σ' (σ' 17).toNat := by
  have hR := h.row
  obtain ⟨e, he⟩ : ∃ e : Nat, σ 17 = e := ⟨(σ 17).toNat, by omega⟩
  have het : (σ 17).toNat = e := by omega
  rw [het] at hE
  have hL : LogIs X 22 (lgs σ e) := by have := h.1.2.2.2.2.2.2; unfold Lg at this; rw [het] at this; exact this
  have hlen := lgs_len e hE
  obtain ⟨X', p1, p2, p3⟩ := X_append (j := j) hL hj (m := σ 9 - σ 13) (a := a') (b := b') (by have := hEn.1; omega) ha' hb' (by omega)
  rw [minute h, p1]
  generalize hs1 : us σ (402 + 4 * e) (σ 9 - σ 13) = σ1
  generalize hs2 : us σ1 (403 + 4 * e) w = σ2
  generalize hs3 : us σ2 (404 + 4 * e) a = σ3
  generalize hs4 : us σ3 (405 + 4 * e) b = σ4
  have r1 := wrR hR (402 + 4 * e) (σ 9 - σ 13)
  rw [hs1] at r1
  have r2 := wrR r1 (403 + 4 * e) w
  rw [hs2] at r2
  have r3 := wrR r2 (404 + 4 * e) a
  rw [hs3] at r3
  have r4 := wrR r3 (405 + 4 * e) b
  rw [hs4] at r4
  have v17 : σ4 17 = σ 17 := by subst hs4; subst hs3; subst hs2; subst hs1; rw [us_ne _ _ (by omega), us_ne _ _ (by omega), us_ne _ _ (by omega), us_ne _ _ (by omega)]
  have r5 := wrR r4 17 (σ 17 + 1)
  have t0 : (zI ((402 + 4 * e : Nat) : Int)).toNatClampNeg = 402 + 4 * e := by rw [ztn (by omega) (by omega)]; omega
  have t1 : zI ((402 + 4 * e : Nat) : Int) + 1 = zI ((403 + 4 * e : Nat) : Int) := by rw [zc1, zadd]; congr 1; omega
  have t1' : (zI ((403 + 4 * e : Nat) : Int)).toNatClampNeg = 403 + 4 * e := by rw [ztn (by omega) (by omega)]; omega
  have t2 : zI ((402 + 4 * e : Nat) : Int) + 2 = zI ((404 + 4 * e : Nat) : Int) := by rw [zc2, zadd]; congr 1; omega
  have t2' : (zI ((404 + 4 * e : Nat) : Int)).toNatClampNeg = 404 + 4 * e := by rw [ztn (by omega) (by omega)]; omega
  have t3 : zI ((402 + 4 * e : Nat) : Int) + 3 = zI ((405 + 4 * e : Nat) : Int) := by rw [zc3, zadd]; congr 1; omega
  have t3' : (zI ((405 + 4 * e : Nat) : Int)).toNatClampNeg = 405 + 4 * e := by rw [ztn (by omega) (by omega)]; omega
  have eN : fX8_note R (zI w) (zI a) (zI b) = some (wr (wr (wr (wr (wr R 1 (402 + 4 * e) (zI (σ 9 - σ 13))) 1 (403 + 4 * e) (zI w)) 1 (404 + 4 * e) (zI a)) 1 (405 + 4 * e) (zI b)) 1 17 (zI (σ 17 + 1))) := by
    unfold fX8_note
    rw [rd hR 17, he, zc402, zc4, zmul, zadd, show (402 : Int) + 4 * (e : Int) = ((402 + 4 * e : Nat) : Int) by omega, thn_eq, if_pos (by rw [zinb] <;> omega), t0, rd hR, rd hR, zsub, thn_eq, t1, if_pos (by rw [zinb] <;> omega), t1', thn_eq, t2, if_pos (by rw [zinb] <;> omega), t2', thn_eq, t3, if_pos (by rw [zinb] <;> omega), t3', thn_eq, thn_eq, rd r4, v17, zc1, zadd, he]
  rw [eN]
  have val : ∀ k, us σ4 17 (σ 17 + 1) k = if k = 17 then σ 17 + 1 else if k = 405 + 4 * e then b else if k = 404 + 4 * e then a else if k = 403 + 4 * e then w else if k = 402 + 4 * e then σ 9 - σ 13 else σ k := by
    intro k
    subst hs4; subst hs3; subst hs2; subst hs1
    rfl
  have g17 : us σ4 17 (σ 17 + 1) 17 = σ 17 + 1 := us_at _ _ _
  have glow : ∀ k, k < 402 → k ≠ 17 → us σ4 17 (σ 17 + 1) k = σ k := by
    intro k h1 h2
    rw [val, if_neg h2, if_neg (by omega), if_neg (by omega), if_neg (by omega), if_neg (by omega)]
  have gold : ∀ k, 402 ≤ k → k < 402 + 4 * e → us σ4 17 (σ 17 + 1) k = σ k := by
    intro k h1 h2
    rw [val, if_neg (by omega), if_neg (by omega), if_neg (by omega), if_neg (by omega), if_neg (by omega)]
  have gn0 : us σ4 17 (σ 17 + 1) (402 + 4 * e) = σ 9 - σ 13 := by rw [val, if_neg (by omega), if_neg (by omega), if_neg (by omega), if_neg (by omega), if_pos rfl]
  have gn1 : us σ4 17 (σ 17 + 1) (403 + 4 * e) = w := by rw [val, if_neg (by omega), if_neg (by omega), if_neg (by omega), if_pos rfl]
  have gn2 : us σ4 17 (σ 17 + 1) (404 + 4 * e) = a := by rw [val, if_neg (by omega), if_neg (by omega), if_pos rfl]
  have gn3 : us σ4 17 (σ 17 + 1) (405 + 4 * e) = b := by rw [val, if_neg (by omega), if_pos rfl]
  have ht : (us σ4 17 (σ 17 + 1) 17).toNat = e + 1 := by rw [g17]; omega
  refine ⟨X', _, us σ4 17 (σ 17 + 1), rfl, rfl, ⟨h.1.log_new p3 ?_ glow, r5⟩, ⟨fun k hk => p3 k (by omega) (by omega), ?_, ?_⟩, glow, g17, ?_⟩
  · rw [ht]
    unfold lgs spE
    rw [lgs_c e gold, gn0, gn1, gn2, gn3]
    have : sp (σ 9 - σ 13) w a b = dl (σ 9 - σ 13) ++ (58 :: wdl j) ++ (argL a' ++ argL b') ++ [47] := by unfold sp; rw [hw, hab]
    rw [this]
    exact p2
  · intro k h1 h2
    rw [wr_k _ _ _ (by omega), wr_k _ _ _ (by omega), wr_k _ _ _ (by omega), wr_k _ _ _ (by omega), wr_k _ _ _ (by omega)]
  · rw [wr_k _ _ _ (by omega), wr_k _ _ _ (by omega), wr_k _ _ _ (by omega), wr_k _ _ _ (by omega), wr_k _ _ _ (by omega)]
  · rw [ht]
    intro i hi
    by_cases q : i = e
    · subst q
      rw [gn0, gn1, gn2, gn3]
      exact hEn
    · rw [gold _ (by omega) (by omega), gold _ (by omega) (by omega), gold _ (by omega) (by omega), gold _ (by omega) (by omega)]
      exact hE i (by omega)
/-! what is told of the log -/
theorem lgs_get {σ : Nat → Int} : ∀ n e : Nat, e < n → ∀ k, k < (spE σ e).length → (lgs σ n).getD ((lgs σ e).length + k) 0 = (spE σ e).getD k 0 ∧ (lgs σ e).length + k < (lgs σ n).length := by
  intro n
  induction n with
  | zero => intro e he; omega
  | succ n ih =>
    intro e he k hk
    rw [show lgs σ (n + 1) = lgs σ n ++ spE σ n from rfl]
    by_cases q : e = n
    · subst q
      refine ⟨?_, by rw [List.length_append]; omega⟩
      simp [List.getD_eq_getElem?_getD, List.getElem?_append_right]
    · have := ih e (by omega) k hk
      refine ⟨?_, by rw [List.length_append]; omega⟩
      have h3 := this.1
      rw [← h3]
      simp [List.getD_eq_getElem?_getD, List.getElem?_append_left this.2]
theorem R_logAt_L (hR0 : 0 ≤ σ 17 ∧ σ 17 ≤ 121) (hE : Ents σ (σ 17).toNat) {x : Int} (hx : 0 ≤ x ∧ x ≤ 2147483647) : ∀ (d e n : Nat) (R : Mem), R 1 = enc σ → (e : Int) + d = σ 17 → d < n → ((lgs σ e).length : Int) ≤ x → ∃ R', fX8_logAt_L11 n R (zI (x - (lgs σ e).length)) (zI (e : Int)) = some (zI (if x < (lgs σ (σ 17).toNat).length then (lgs σ (σ 17).toNat).getD x.toNat 0 else -5), R') ∧ SpF R R' := by
  intro d
  induction d with
  | zero =>
    intro e n R hR he hn hl
    obtain ⟨n, rfl⟩ := ex_succ hn
    rw [fX8_logAt_L11, if_pos (by rw [rd hR, zle] <;> omega), show (σ 17).toNat = e by omega, if_neg (by omega)]
    exact ⟨R, rfl, SpF.rf R⟩
  | succ d ih =>
    intro e n R hR he hn hl
    obtain ⟨n, rfl⟩ := ex_succ hn
    obtain ⟨R1, p1, p2, p3⟩ := R_spell hR (e := e) (by omega) (hE e (by omega))
    have hlen := sp_len (hE e (by omega))
    have hlen2 := lgs_len e (fun i hi => hE i (by omega))
    rw [fX8_logAt_L11, if_neg (by rw [rd hR, zle] <;> omega), p1, bnd_some, p2.1]
    have hl1 : (lgs σ (e + 1)).length = (lgs σ e).length + (spE σ e).length := by rw [lgs, List.length_append]
    have hle : (spE σ e).length ≤ 16 := hlen
    by_cases c : ((spE σ e).length : Int) ≤ x - (lgs σ e).length
    · rw [if_pos (by rw [zle] <;> omega), zsub, zsuc]
      obtain ⟨R2, q1, q2⟩ := ih (e + 1) n R1 (by rw [p3.1 1 (by omega) (by omega)]; exact hR) (by omega) (by omega) (by omega)
      refine ⟨R2, ?_, p3.trans q2⟩
      rw [show x - ((lgs σ e).length : Int) - ((spE σ e).length : Int) = x - ((lgs σ (e + 1)).length : Int) by omega]
      exact q1
    · rw [if_neg (by rw [zle] <;> omega), if_pos (by rw [zinb] <;> omega), ztn (by omega) (by omega), p2.2.2 _ (by omega)]
      have g := lgs_get (σ := σ) (σ 17).toNat e (by omega) (x - (lgs σ e).length).toNat (by omega)
      have hx2 : (lgs σ e).length + (x - (lgs σ e).length).toNat = x.toNat := by omega
      rw [hx2] at g
      rw [if_pos (by omega), g.1]
      exact ⟨R1, rfl, p3⟩
theorem R_logLength_L (hR0 : 0 ≤ σ 17 ∧ σ 17 ≤ 121) (hE : Ents σ (σ 17).toNat) : ∀ (d e n : Nat) (R : Mem), R 1 = enc σ → (e : Int) + d = σ 17 → d < n → ∃ R', fX8_logLength_L4 n R (zI ((lgs σ e).length : Int)) (zI (e : Int)) = some (zI ((lgs σ (σ 17).toNat).length : Int), R') ∧ SpF R R' := by
  intro d
  induction d with
  | zero =>
    intro e n R hR he hn
    obtain ⟨n, rfl⟩ := ex_succ hn
    rw [fX8_logLength_L4, if_pos (by rw [rd hR, zle] <;> omega), show (σ 17).toNat = e by omega]
    exact ⟨R, rfl, SpF.rf R⟩
  | succ d ih =>
    intro e n R hR he hn
    obtain ⟨n, rfl⟩ := ex_succ hn
    obtain ⟨R1, p1, p2, p3⟩ := R_spell hR (e := e) (by omega) (hE e (by omega))
    rw [fX8_logLength_L4, if_neg (by rw [rd hR, zle] <;> omega), p1, bnd_some, p2.1, zadd, zsuc]
    have hl1 : (lgs σ (e + 1)).length = (lgs σ e).length + (spE σ e).length := by rw [lgs, List.length_append]
    obtain ⟨R2, q1, q2⟩ := ih (e + 1) n R1 (by rw [p3.1 1 (by omega) (by omega)]; exact hR) (by omega) (by omega)
    refine ⟨R2, ?_, p3.trans q2⟩
    rw [hl1] at q1
    exact q1
theorem logLength_ok (h : SR X R σ) (hR0 : 0 ≤ σ 17 ∧ σ 17 ≤ 121) (hE : Ents σ (σ 17).toNat) : ∃ v R', X 22 0 = v ∧ fX8_logLength R = some (v, R') ∧ SpF R R' := by
  obtain ⟨R', p1, p2⟩ := R_logLength_L hR0 hE (σ 17).toNat 0 5000 R h.row (by omega) (by omega)
  exact ⟨_, R', h.1.2.2.2.2.2.2.1, p1, p2⟩
theorem logAt_ok (h : SR X R σ) (hR0 : 0 ≤ σ 17 ∧ σ 17 ≤ 121) (hE : Ents σ (σ 17).toNat) (x : Int32) : ∃ v R', fX7_logAt X x = v ∧ fX8_logAt R x = some (v, R') ∧ SpF R R' := by
  obtain ⟨a, h1, h2, rfl⟩ := zof x
  unfold fX7_logAt fX8_logAt
  by_cases c : 0 ≤ a
  · obtain ⟨l1, l2, l3⟩ := h.1.2.2.2.2.2.2
    have hx : (0 : Int32) ≤ zI a := by rw [zc0, zle] <;> omega
    obtain ⟨R', p1, p2⟩ := R_logAt_L hR0 hE (x := a) (by omega) (σ 17).toNat 0 5000 R h.row (by omega) (by omega) (by simp [lgs]; omega)
    rw [if_pos hx, if_pos hx]
    refine ⟨_, R', rfl, ?_, p2⟩
    have l1' : X 22 0 = zI ((lgs σ (σ 17).toNat).length : Int) := l1
    rw [l1']
    have p1' : fX8_logAt_L11 5000 R (zI a) 0 = some (zI (if a < (lgs σ (σ 17).toNat).length then (lgs σ (σ 17).toNat).getD a.toNat 0 else -5), R') := by
      have := p1
      simp only [lgs, List.length_nil] at this
      rw [show a - ((0 : Nat) : Int) = a by omega] at this
      exact this
    rw [p1']
    congr 2
    by_cases c2 : a < (lgs σ (σ 17).toNat).length
    · rw [if_pos c2, if_pos (by rw [zlt] <;> omega)]
      have e1 : zI a = zI ((a.toNat : Nat) : Int) := zn_of c
      unfold atX
      rw [if_pos (by rw [zinb] <;> omega), ztn (by omega) (by omega)]
      exact (l3 a.toNat (by omega)).symm
    · rw [if_neg c2, if_neg (by rw [zlt] <;> omega)]; rfl
  · have hx : ¬ (0 : Int32) ≤ zI a := by rw [zc0, zle] <;> omega
    rw [if_neg hx, if_neg hx]
    exact ⟨_, R, rfl, rfl, SpF.rf R⟩
end NT
