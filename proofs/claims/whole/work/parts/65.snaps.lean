section SN
variable {X R : Mem} {n : Nat} {σ : Nat → Int}
theorem St.rows {X' : Mem} {t : Nat} (h : St X t σ) (e : ∀ r, r < 21 → X' (t + r) = X (t + r)) : St X' t σ := by
  obtain ⟨⟨hr1, hr2⟩, hs', g1, g0, hk1, hk0, l1, l2, l3⟩ := h
  have e1 : ∀ r, r < 12 → X' (t + 1 + r) = X (t + 1 + r) := fun r hr => by rw [show t + 1 + r = t + (1 + r) by omega]; exact e _ (by omega)
  refine ⟨⟨fun j hj => ?_, fun b hb hn => ?_⟩, fun j hj => ?_, ?_, ?_, fun q b hb => ?_, fun q b hb => ?_, ?_, l2, fun i hi => ?_⟩
  · rw [e1 _ (rk_ok j (ro_lt hj) hj).1]; exact hr1 j hj
  · rw [e1 3 (by omega)]; exact hr2 b hb hn
  · have := sk_ok j (so_lt hj) hj
    rw [e _ (by omega)]; exact hs' j hj
  · rw [e 16 (by omega)]; exact g1
  · rw [e 16 (by omega)]; exact g0
  · rw [e1 5 (by omega)]; exact hk1 q b hb
  · rw [e 6 (by omega)]; exact hk0 q b hb
  · rw [e 19 (by omega)]; exact l1
  · rw [show t + 19 + 1 = t + 20 by omega, e 20 (by omega), show t + 20 = t + 19 + 1 by omega]; exact l3 i hi
theorem St.c {t : Nat} {σ' : Nat → Int} (h : St X t σ) (h17 : 0 ≤ σ 17 ∧ σ 17 ≤ 121) (e : ∀ j, j < 902 → σ' j = σ j) : St X t σ' := by
  obtain ⟨hr, hs, g1, g0, hk1, hk0, hl⟩ := h
  refine ⟨hr.frame (fun _ _ _ => rfl) (fun j hj _ => e j (by omega)), hs.frame (fun _ _ => rfl) (fun _ _ => rfl) (fun j hj => e j (by have := so_lt hj; omega)), ?_, ?_, ?_, ?_, ?_⟩
  · rw [e 11 (by omega)]; exact g1
  · rw [e 10 (by omega)]; exact g0
  · rw [e 10 (by omega)]
    exact fun q => (hk1 q).frame rfl (fun b hb => e _ (by omega))
  · rw [e 10 (by omega)]; exact hk0
  · unfold Lg LogIs at *
    rw [e 17 (by omega), lgs_c _ (fun j h1 h2 => e j (by omega))]
    exact hl
theorem Iv.c {σ' : Nat → Int} (h : Iv n σ) (e : ∀ j, j < 902 → σ' j = σ j) : Iv n σ' := by
  obtain ⟨hB, hN, hp, h0, hg, hE⟩ := h
  have b0 := hB.1
  refine ⟨hB.c (fun j hj _ => e j (by omega)), ?_, ?_, ?_, ?_, ?_⟩
  · rw [e 3 (by omega), e 4 (by omega), e 6 (by omega), e 7 (by omega), e 8 (by omega), e 9 (by omega), e 10 (by omega), e 17 (by omega), e 13 (by omega), e 12 (by omega), e 14 (by omega)]
    exact hN
  · rw [e 10 (by omega), e 11 (by omega), e 5 (by omega), e 9 (by omega), e 13 (by omega), e 6 (by omega), e 17 (by omega), e 4 (by omega), e 14 (by omega), e 7 (by omega), e 0 (by omega)]
    intro q
    exact ⟨(hp q).1, fun b hb hc => by rw [e _ (by omega)]; exact (hp q).2 b hb hc⟩
  · rw [e 10 (by omega), e 1 (by omega)]
    intro q p hpp
    rw [e _ (by omega)]
    exact h0 q p hpp
  · rw [e 3 (by omega)]
    intro g h1 h2
    rw [e _ (by omega), e _ (by omega)]
    exact hg g h1 h2
  · rw [e 17 (by omega)]
    exact hE.c (fun j h1 h2 => e j (by have := hN.2.2.2.2.2.2.2.1; omega))
theorem slot_is {s : Nat} (hs : s < 2) : slotK (zI (s : Int)) = 24 + 21 * s := by
  have : s = 0 ∨ s = 1 := by omega
  rcases this with rfl | rfl <;> rfl
theorem isSlot {a : Int} (h1 : -2147483648 ≤ a) (h2 : a ≤ 2147483647) : fX7_isSlot X (zI a) = i1 (0 ≤ a ∧ a ≤ 1) := by
  unfold fX7_isSlot
  by_cases c : a = 0
  · rw [if_pos (by rw [c]; rfl), i1_t (by omega)]
  · rw [if_neg (by rw [zc0, zeq] <;> omega)]
    by_cases d : a = 1
    · rw [if_pos (by rw [d]; rfl), i1_t (by omega)]
    · rw [if_neg (by rw [zc1, zeq] <;> omega), i1_f (by omega)]
theorem keep_L {s : Nat} (hs : s < 2) : ∀ (d i m : Nat) (R : Mem), i + d = 902 → d < m → ∃ R', fX8_keep_L20 m R (zI (s : Int)) (zI (i : Int)) = some (R 1 9, R') ∧ (∀ k, k ≠ 3 → R' k = R k) ∧ (∀ j, i ≤ j → j < 902 → R' 3 (902 * s + j) = R 1 j) ∧ (∀ q, q < 902 * s + i ∨ 902 * s + 902 ≤ q → R' 3 q = R 3 q) := by
  intro d
  induction d with
  | zero =>
    intro i m R hi hm
    obtain ⟨m, rfl⟩ := ex_succ hm
    exact ⟨R, by rw [fX8_keep_L20, if_pos (by rw [zc902, zle] <;> omega)], fun _ _ => rfl, fun j h1 h2 => by omega, fun _ _ => rfl⟩
  | succ d ih =>
    intro i m R hi hm
    obtain ⟨m, rfl⟩ := ex_succ hm
    obtain ⟨R', q1, q2, q3, q4⟩ := ih (i + 1) m (wr R 3 (902 * s + i) (R 1 i)) (by omega) (by omega)
    rw [wr_k _ _ _ (by omega)] at q1
    refine ⟨R', ?_, fun k hk => by rw [q2 k hk, wr_k _ _ _ hk], fun j h1 h2 => ?_, fun q hq => by rw [q4 q (by omega), wr_i _ _ _ (by omega)]⟩
    · rw [fX8_keep_L20, if_neg (by rw [zc902, zle] <;> omega), if_pos (by rw [zinb (by omega) (by omega)]; omega), zc902, zmul, zadd, if_pos (by rw [zinb (by omega) (by omega)]; omega), ztn (by omega) (by omega), ztn (by omega) (by omega), thn_eq, zsuc, show ((902 : Int) * (s : Int) + (i : Int)).toNat = 902 * s + i by omega, Int.toNat_natCast]
      exact q1
    · by_cases c : j = i
      · subst c
        rw [q4 _ (by omega), wr_at]
      · rw [q3 j (by omega) h2, wr_k _ _ _ (by omega)]
theorem restore_L {s : Nat} (hs : s < 2) : ∀ (d i m : Nat) (R : Mem), i + d = 902 → d < m → ∃ R', fX8_restore_L25 m R (zI (s : Int)) (zI (i : Int)) = some (R' 1 9, R') ∧ (∀ k, k ≠ 1 → R' k = R k) ∧ (∀ j, i ≤ j → j < 902 → R' 1 j = R 3 (902 * s + j)) ∧ (∀ q, q < i ∨ 902 ≤ q → R' 1 q = R 1 q) := by
  intro d
  induction d with
  | zero =>
    intro i m R hi hm
    obtain ⟨m, rfl⟩ := ex_succ hm
    exact ⟨R, by rw [fX8_restore_L25, if_pos (by rw [zc902, zle] <;> omega)], fun _ _ => rfl, fun j h1 h2 => by omega, fun _ _ => rfl⟩
  | succ d ih =>
    intro i m R hi hm
    obtain ⟨m, rfl⟩ := ex_succ hm
    obtain ⟨R', q1, q2, q3, q4⟩ := ih (i + 1) m (wr R 1 i (R 3 (902 * s + i))) (by omega) (by omega)
    refine ⟨R', ?_, fun k hk => by rw [q2 k hk, wr_k _ _ _ hk], fun j h1 h2 => ?_, fun q hq => by rw [q4 q (by omega), wr_i _ _ _ (by omega)]⟩
    · rw [fX8_restore_L25, if_neg (by rw [zc902, zle] <;> omega), zc902, zmul, zadd, if_pos (by rw [zinb (by omega) (by omega)]; omega), if_pos (by rw [zinb (by omega) (by omega)]; omega), ztn (by omega) (by omega), ztn (by omega) (by omega), thn_eq, zsuc, show ((902 : Int) * (s : Int) + (i : Int)).toNat = 902 * s + i by omega, Int.toNat_natCast]
      exact q1
    · by_cases c : j = i
      · subst c
        rw [q4 _ (by omega), wr_at]
      · rw [q3 j (by omega) h2, wr_k _ _ _ (by omega)]
theorem keep_ok (h : Rel n X R) (x : Int32) : Ok n (fX7_keep X x) (fX8_keep R x) := by
  obtain ⟨σ, hS, hI, hT, hs0, hs1⟩ := h
  obtain ⟨a, ha1, ha2, rfl⟩ := zof x
  unfold fX7_keep fX8_keep
  rw [isSlot ha1 ha2, show fX8_in R (zI a) (0 : Int32) (1 : Int32) = i1 (0 ≤ a ∧ a ≤ 1) from R_in (a := a) (b := 0) (c := 1) ha1 ha2 (by omega) (by omega) (by omega) (by omega)]
  by_cases c0 : 0 ≤ a ∧ a ≤ 1
  · obtain ⟨s, rfl⟩ : ∃ p : Nat, a = p := ⟨a.toNat, by omega⟩
    have hs : s < 2 := by omega
    obtain ⟨X1, a1, a2, a3⟩ := cp6 (M := X) (k := 24 + 21 * s) (k2 := 3) (by omega) hS.1 hI.2.1.2.2.2.2.2.2.1
    obtain ⟨R1, b1, b2, b3, b4⟩ := keep_L hs 902 0 5000 (wr R 4 s 1) (by omega) (by omega)
    rw [i1_t c0, it1, it1, slot_is hs, a1, bnd_some, if_pos (by rw [zinb (by omega) (by omega)]; omega), ztn (by omega) (by omega), Int.toNat_natCast, thn_eq, thn_eq, show vp_nar .boolean (1 : Int32) = 1 from rfl, show (0 : Int32) = zI ((0 : Nat) : Int) from rfl, b1]
    refine ⟨zI (σ 9), wr X1 0 5 (X1 0 5 ||| ((1 : Int32) <<< (zI (s : Int) &&& 31))), R1, ?_, ?_, σ, ⟨?_, ?_⟩, hI.mono (by omega), ?_, ?_⟩
    · rw [wr_k _ _ _ (by omega), a3 3 (by omega), hS.clock]
    · rw [wr_k _ _ _ (by omega), rd hS.row]
    · exact hS.1.rows (fun r hr => by rw [wr_k _ _ _ (by omega), a3 _ (by omega)])
    · rw [b2 1 (by omega), wr_k _ _ _ (by omega)]; exact hS.2
    · exact hT.fr (by rw [wr_k _ _ _ (by omega), a3 1 (by omega)]) (by rw [wr_k _ _ _ (by omega), a3 2 (by omega)]) (by rw [b2 0 (by omega), wr_k _ _ _ (by omega)]) (by rw [b2 5 (by omega), wr_k _ _ _ (by omega)])
    · have new : Snp (n + 1) (wr X1 0 5 (X1 0 5 ||| ((1 : Int32) <<< (zI (s : Int) &&& 31)))) R1 s := by
        refine ⟨fun _ => ⟨by rw [b2 4 (by omega), wr_at], σ, a2.rows (fun r hr => by rw [wr_k _ _ _ (by omega)]), hI.mono (by omega), fun j hj => by rw [b3 j (by omega) hj, wr_k _ _ _ (by omega), rd hS.row]⟩, fun q => ?_⟩
        rw [wr_at, bt_set (by omega) (by omega)] at q
        simp at q
      have old : ∀ u, u < 2 → u ≠ s → Snp n X R u → Snp (n + 1) (wr X1 0 5 (X1 0 5 ||| ((1 : Int32) <<< (zI (s : Int) &&& 31)))) R1 u := by
        intro u hu hne hw
        have eb : bt (wr X1 0 5 (X1 0 5 ||| ((1 : Int32) <<< (zI (s : Int) &&& 31))) 0 5) u = bt (X 0 5) u := by
          rw [wr_at, bt_set (by omega) (by omega), a3 0 (by omega), decide_eq_false hne, Bool.or_false]
        refine ⟨fun q => ?_, fun q => ?_⟩
        · rw [eb] at q
          obtain ⟨w1, τ, w2, w3, w4⟩ := hw.1 q
          refine ⟨by rw [b2 4 (by omega), wr_i _ _ _ hne]; exact w1, τ, w2.rows (fun r hr => by rw [wr_k _ _ _ (by omega), a3 _ (by omega)]), w3.mono (by omega), fun j hj => ?_⟩
          rw [b4 _ (by omega), wr_k _ _ _ (by omega)]
          exact w4 j hj
        · rw [eb] at q
          rw [b2 4 (by omega), wr_i _ _ _ hne]
          exact hw.2 q
      have : s = 0 ∨ s = 1 := by omega
      rcases this with rfl | rfl
      · exact ⟨new, old 1 (by omega) (by omega) hs1⟩
      · exact ⟨old 0 (by omega) (by omega) hs0, new⟩
  · rw [i1_f c0, it0, it0]
    exact Ok.step hT hs0 hs1 (Step.same hS hI _ rfl rfl)
theorem restore_ok (h : Rel n X R) (x : Int32) : Ok n (fX7_restore X x) (fX8_restore R x) := by
  obtain ⟨σ, hS, hI, hT, hs0, hs1⟩ := h
  obtain ⟨a, ha1, ha2, rfl⟩ := zof x
  unfold fX7_restore fX8_restore
  rw [isSlot ha1 ha2, show fX8_in R (zI a) (0 : Int32) (1 : Int32) = i1 (0 ≤ a ∧ a ≤ 1) from R_in (a := a) (b := 0) (c := 1) ha1 ha2 (by omega) (by omega) (by omega) (by omega)]
  by_cases c0 : 0 ≤ a ∧ a ≤ 1
  · obtain ⟨s, rfl⟩ : ∃ p : Nat, a = p := ⟨a.toNat, by omega⟩
    have hs : s < 2 := by omega
    have hw : Snp n X R s := by
      have : s = 0 ∨ s = 1 := by omega
      rcases this with rfl | rfl
      · exact hs0
      · exact hs1
    rw [i1_t c0, it1, it1, if_pos (show inb (zI (s : Int)) 2 = true by rw [zinb (by omega) (by omega)]; omega), ztn (by omega) (by omega), Int.toNat_natCast, bt_0 (by omega)]
    rcases hb : bt (X 0 5) s with _ | _
    · rw [if_pos (by simp), hw.2 hb, if_pos rfl]
      exact Ok.step hT hs0 hs1 (Step.same hS hI _ rfl rfl)
    · obtain ⟨w1, τ, w2, w3, w4⟩ := hw.1 hb
      obtain ⟨X1, a1, a2, a3⟩ := cp6 (M := X) (k := 3) (k2 := 24 + 21 * s) (by omega) w2 w3.2.1.2.2.2.2.2.2.1
      obtain ⟨R1, b1, b2, b3, b4⟩ := restore_L hs 902 0 5000 R (by omega) (by omega)
      have e : ∀ j, j < 902 → (fun j => if j < 902 then τ j else σ j) j = τ j := fun j hj => if_pos hj
      have hR1 : R1 1 = enc (fun j => if j < 902 then τ j else σ j) := by
        funext j
        by_cases c : j < 902
        · rw [b3 j (by omega) c, w4 j c]
          show _ = zI (if j < 902 then τ j else σ j)
          rw [if_pos c]
        · rw [b4 j (by omega), rd hS.row]
          show _ = zI (if j < 902 then τ j else σ j)
          rw [if_neg c]
      have hS1 : SR X1 R1 (fun j => if j < 902 then τ j else σ j) := ⟨a2.c w3.2.1.2.2.2.2.2.2.2.1 e, hR1⟩
      rw [if_neg (by simp), slot_is hs, a1, bnd_some, w1, it1, show (0 : Int32) = zI ((0 : Nat) : Int) from rfl, b1]
      refine ⟨R1 1 9, X1, R1, ?_, rfl, _, hS1, (w3.c e).mono (by omega), hT.fr (a3 1 (by omega)) (a3 2 (by omega)) (by rw [b2 0 (by omega)]) (b2 5 (by omega)), hs0.fr (by omega) (by omega) (fun k hk => a3 k (by omega)) ⟨b2 3 (by omega), b2 4 (by omega)⟩, hs1.fr (by omega) (by omega) (fun k hk => a3 k (by omega)) ⟨b2 3 (by omega), b2 4 (by omega)⟩⟩
      rw [hS1.clock, rd hS1.row]
  · rw [i1_f c0, it0, it0]
    exact Ok.step hT hs0 hs1 (Step.same hS hI _ rfl rfl)
end SN
