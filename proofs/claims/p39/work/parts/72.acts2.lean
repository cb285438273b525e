section NB
variable {X R : Mem} {σ : Nat → Int} {n : Nat} {B : Int}
/-- the end of a game keeps what holds -/
theorem fin_n (h : SR X R σ) (hI : Iv n σ) (hJ : J0 B σ) (h10 : σ 10 = 1) (hn : n ≤ 601) {won : Int} (hw : won = 0 ∨ won = 1) : ∃ X' R' σ', fX6_endGame 3 X (zI won) = some X' ∧ SR X' R' σ' ∧ Iv n σ' ∧ J B σ' ∧ σ' 9 = σ 9 ∧ σ' 10 = 0 ∧ σ' 4 = σ 4 + 1 ∧ σ' 5 = σ 5 ∧ σ' (196 + 7 * (σ 4).toNat) = won := by
  obtain ⟨hB, ⟨h3, h4, h6, h7, h8, h9, -, h17, h13, h12, h14⟩, hp, -, hg, hE⟩ := id hI
  obtain ⟨⟨p11, p5, p9, p17, p4, p14⟩, hk0⟩ := hp h10
  have hb0 := hB.1
  have j6 := hJ.1.1
  obtain ⟨X3, R3, σ3, a3, b3, s3, f3, N3, B3, l3⟩ := end_n h hB h10 (by omega) hk0 hw
  have J3 := hJ.fin (n := n) h3.2 (by omega) h17.1 h10 (by omega) h14 N3
  obtain ⟨e3, t10, t4, -, w1, w2, w3, w4, w5⟩ := N3
  refine ⟨X3, R3, σ3, a3, s3, ⟨B3, ⟨?_, ?_, ?_, ?_, ?_, ?_, Or.inl t10, ?_, ?_, ?_, ?_⟩, ?_, ?_, ?_, ?_⟩, ⟨J3, fun q => by omega⟩, e3 9 (by omega) (by omega) (by omega) (by omega), t10, t4, e3 5 (by omega) (by omega) (by omega) (by omega), w4⟩
  · rw [e3 3 (by omega) (by omega) (by omega) (by omega)]; exact h3
  · omega
  · rw [e3 6 (by omega) (by omega) (by omega) (by omega)]; exact h6
  · rw [e3 7 (by omega) (by omega) (by omega) (by omega)]; exact h7
  · rw [e3 8 (by omega) (by omega) (by omega) (by omega)]; exact h8
  · rw [e3 9 (by omega) (by omega) (by omega) (by omega)]; exact h9
  · rw [e3 17 (by omega) (by omega) (by omega) (by omega)]; exact h17
  · rw [e3 13 (by omega) (by omega) (by omega) (by omega), e3 9 (by omega) (by omega) (by omega) (by omega)]; exact h13
  · rw [e3 12 (by omega) (by omega) (by omega) (by omega)]; exact h12
  · rw [e3 14 (by omega) (by omega) (by omega) (by omega)]; exact h14
  · intro q; omega
  · intro _ p hpp
    rw [e3 1 (by omega) (by omega) (by omega) (by omega)] at hpp
    exact l3 p hpp
  · intro q hq hq2
    rw [e3 3 (by omega) (by omega) (by omega) (by omega)] at hq2
    rw [e3 _ (by omega) (by omega) (by omega) (by omega), e3 _ (by omega) (by omega) (by omega) (by omega)]
    exact hg q hq hq2
  · rw [e3 17 (by omega) (by omega) (by omega) (by omega)]
    exact hE.c (fun j h1 h2 => e3 j (by omega) (by omega) (by omega) (by omega))
theorem open_g (h : SR X R σ) (hI : Iv n σ) (hJ : J B σ) (hn : n ≤ 600) (c2 : σ 10 = 1) {b : Nat} (h1 : 1 ≤ b) (hb : (b : Int) < σ 0) {w : Int} (hw : w = 0 ∨ w = 1) :
    (am 4 (σ 11) * (1 + w) ≤ σ 13 + σ 6 - σ 9 ∧ ∃ X' σ' v, fX7_open_B70 X (zI (b : Int)) (zI w) = some (zI v, X') ∧ (w = 1 ∧ v = 0 ∨ w = 0 ∧ v = 1 ∨ w = 0 ∧ v = 2 ∧ (b : Int) = σ' 5) ∧ DnP B n σ (am 4 (σ 11) * (1 + w)) X' σ') ∨ (σ 13 + σ 6 - σ 9 < am 4 (σ 11) * (1 + w) ∧ ∃ X' σ', fX7_open_B70 X (zI (b : Int)) (zI w) = some (zI (-6), X') ∧ OvP B n σ X' σ') := by
  have hB := hI.1
  have h0 := hB.1
  have hm := am_b 4 (σ 11) (by omega) (by omega)
  have eX : fX7_open_B70 X (zI (b : Int)) (zI w) = fX7_open_B91 X (zI (b : Int)) (zI w) (zI (am 4 (σ 11) * (1 + w))) := by
    unfold fX7_open_B70
    rw [h.ro.ha, zc4, X_am (by omega) (by omega)]
    rcases hw with rfl | rfl
    · rw [if_pos (by rfl), thn_eq, zc1, zmul]; rfl
    · rw [if_neg (by decide), thn_eq, zc2, zmul]; rfl
  rw [eX]
  have hmm : 1 ≤ am 4 (σ 11) * (1 + w) ∧ am 4 (σ 11) * (1 + w) ≤ 200 := by rcases hw with rfl | rfl <;> omega
  generalize am 4 (σ 11) * (1 + w) = m at *
  unfold fX7_open_B91
  have ht := inTime h hI hn (m := m) (by omega)
  by_cases c6 : m ≤ σ 13 + σ 6 - σ 9
  · refine Or.inl ⟨c6, ?_⟩
    rw [ht.1, i1_t c6, it1]
    obtain ⟨X1, R1, σ1, a1, s1, B1, e1, go⟩ := act_n h hI hJ.1 hn c2 ⟨hmm.1, c6⟩ (j := 8) (w := 2) (a := (b : Int)) (b := 0) (a' := (b : Int)) (b' := -1) (by omega) (by decide +kernel) (by omega) (Or.inl rfl) (by rw [argL1 (by omega)]; rfl) (by omega)
    have hI' := hI
    obtain ⟨-, ⟨h3, h4, h6, h7, h8, h9, -, h17, h13, h12, h14⟩, hp, -, hg, hE⟩ := hI'
    obtain ⟨⟨p11, p5, p9, p17, p4, p14⟩, hk0⟩ := hp c2
    have hh : (heldN σ1 : Int) ≤ σ 11 := by rw [heldN_c (σ := σ) (e1 1 (by omega) (by omega)) (fun p hp => e1 _ (by omega) (by omega))]; exact jheld hJ c2
    rw [zm1, a1, bnd_some]
    rcases hw with rfl | rfl
    · obtain ⟨s2, f2⟩ := SRput s1 (loc_56 b (by omega)) (m := 12) (by omega) (by omega) (by omega) (by omega) 1
      have B2 : RB (us σ1 (56 + b) 1) := B1.opn (by omega) (Or.inr rfl) (fun _ => rfl)
      obtain ⟨X3, R3, σ3, a3, s3, B3, I3, J3, e3, t3⟩ := go _ _ _ s2 B2 (fun j hj _ _ => us_ne _ _ (by omega)) (by rw [us_ne _ _ (by omega), e1 14 (by omega) (by omega)]; omega) (fun q hq hc => by rw [us_ne _ _ (by omega), e1 _ (by omega) (by omega)]; exact hk0 q hq hc) (by rw [heldN_c (σ := σ1) (us_ne _ _ (by omega)) (fun p hp => us_ne _ _ (by omega))]; exact hh)
      rw [if_pos (show zI 0 = 0 from rfl), thn_eq, show putX X1 8 12 (zI (b : Int)) (1 : Int32) = putX X1 (4 + 4) 12 (zI (b : Int)) (zI 1) from rfl, a3, bnd_some, show X3 4 14 = zI (σ3 5) from s3.ro.ex]
      by_cases c7 : (b : Int) = σ3 5
      · obtain ⟨X4, R4, σ4, a4, s4, I4, J4, u9, u10, u4, u5, -⟩ := fin_n s3 I3 J3 (by rw [e3 10 (by omega) (by omega), us_ne _ _ (by omega), e1 10 (by omega) (by omega)]; exact c2) (by omega) (won := 1) (Or.inr rfl)
        rw [if_pos (by rw [c7]), zc1, a4, bnd_some]
        exact ⟨X4, σ4, 2, rfl, Or.inr (Or.inr ⟨rfl, rfl, by rw [u5]; exact c7⟩), R4, s4, I4, J4, by rw [u9, t3]⟩
      · have u5 : σ3 5 = σ 5 := by rw [e3 5 (by omega) (by omega), us_ne _ _ (by omega), e1 5 (by omega) (by omega)]
        rw [if_neg (show ¬ zI (b : Int) = zI (σ3 5) by rw [zeq] <;> omega)]
        have hx : Jx σ3 := fun q => by
          refine ⟨?_, fun q hq => ?_⟩
          · rw [u5, e3 _ (by omega) (by omega), us_ne _ _ (by omega), e1 _ (by omega) (by omega)]
            exact (hJ.2 c2).1
          · rw [e3 _ (by omega) (by omega), us_ne _ _ (by omega), e1 _ (by omega) (by omega)]
            exact (hJ.2 c2).2 q hq
        exact ⟨X3, σ3, 1, rfl, Or.inr (Or.inl ⟨rfl, rfl⟩), R3, s3, I3, ⟨J3, hx⟩, t3⟩
    · have q15 : σ1 15 = σ 15 := e1 15 (by omega) (by omega)
      obtain ⟨s2, f2⟩ := s1.stat (j := 15) rfl (σ1 15 + 1)
      have B2 : RB (us σ1 15 (σ1 15 + 1)) := B1.c (fun j hj hc => us_ne _ _ (by omega))
      obtain ⟨X3, R3, σ3, a3, s3, B3, I3, J3, e3, t3⟩ := go _ _ _ s2 B2 (fun j hj _ q => us_ne _ _ (by omega)) (by rw [us_ne _ _ (by omega), e1 14 (by omega) (by omega)]; omega) (fun q hq hc => by rw [us_ne _ _ (by omega), e1 _ (by omega) (by omega)]; exact hk0 q hq hc) (by rw [heldN_c (σ := σ1) (us_ne _ _ (by omega)) (fun p hp => us_ne _ _ (by omega))]; exact hh)
      rw [if_neg (show ¬ zI 1 = 0 by decide), s1.wrong, zc1, zadd, thn_eq, show wr X1 19 5 (zI (σ1 15 + 1)) = wr X1 (3 + sk 15) (si 15) (zI (σ1 15 + 1)) from rfl, a3, bnd_some]
      exact ⟨X3, σ3, 0, rfl, Or.inl ⟨rfl, rfl⟩, R3, s3, I3, ⟨J3, hJ.2.keep (by omega) (fun j hj => by rw [e3 j (by omega) (by omega), us_ne _ _ (by omega), e1 j (by omega) (by omega)])⟩, t3⟩
  · refine Or.inr ⟨by omega, ?_⟩
    rw [ht.1, i1_f c6, if_pos rfl]
    obtain ⟨X', σ', q1, q2⟩ := over_n h hI hJ.1 hn c2 (m := m) (by omega) (by omega)
    rw [q1, bnd_some]
    exact ⟨X', σ', rfl, q2⟩
/-- is the code a wrong one -/
noncomputable def wrg (σ : Nat → Int) (b : Nat) (y : Int32) : Int := by classical exact if σ (32 + b) = 2 ∧ zI (σ (44 + b)) ≠ y then 1 else 0
/-- a box is opened -/
theorem open_n (h : SR X R σ) (hI : Iv n σ) (hJ : J B σ) (hn : n ≤ 600) (c2 : σ 10 = 1) {b : Nat} (h1 : 1 ≤ b) (hb : (b : Int) < σ 0) (y : Int32) :
    (¬ (σ (56 + b) ≠ 1 ∧ bh σ b ∧ lts σ b) ∧ fX7_open X (zI (b : Int)) y = some (zI (-4), X)) ∨
    ((σ (56 + b) ≠ 1 ∧ bh σ b ∧ lts σ b) ∧ ((am 4 (σ 11) * (1 + wrg σ b y) ≤ σ 13 + σ 6 - σ 9 ∧ ∃ X' σ' v, fX7_open X (zI (b : Int)) y = some (zI v, X') ∧ (wrg σ b y = 1 ∧ v = 0 ∨ wrg σ b y = 0 ∧ v = 1 ∨ wrg σ b y = 0 ∧ v = 2 ∧ (b : Int) = σ' 5) ∧ DnP B n σ (am 4 (σ 11) * (1 + wrg σ b y)) X' σ') ∨ (σ 13 + σ 6 - σ 9 < am 4 (σ 11) * (1 + wrg σ b y) ∧ ∃ X' σ', fX7_open X (zI (b : Int)) y = some (zI (-6), X') ∧ OvP B n σ X' σ'))) := by
  have hB := hI.1
  have h0 := hB.1
  unfold fX7_open
  rw [isB h hI hb, it1, running h hI, i1_t c2, it1, X_canBeOpened h.ro hB hb, bnd_some]
  by_cases c3 : σ (56 + b) ≠ 1 ∧ bh σ b ∧ lts σ b
  · refine Or.inr ⟨c3, ?_⟩
    rw [i1_t c3, it1, zc2, X_hasLock h.ro hB hb (by omega)]
    by_cases c6 : σ (32 + b) = 2
    · rw [i1_t ⟨h1, c6⟩, it1, show atX X 7 12 (zI (b : Int)) = zI (σ (44 + b)) from h.ro.item (by omega) (by omega)]
      by_cases c7 : zI (σ (44 + b)) = y
      · have e : wrg σ b y = 0 := by unfold wrg; rw [if_neg (fun q => q.2 c7)]
        rw [if_pos c7, e]
        exact open_g h hI hJ hn c2 h1 hb (w := 0) (Or.inl rfl)
      · have e : wrg σ b y = 1 := by unfold wrg; rw [if_pos ⟨c6, c7⟩]
        rw [if_neg c7, e]
        exact open_g h hI hJ hn c2 h1 hb (w := 1) (Or.inr rfl)
    · have e : wrg σ b y = 0 := by unfold wrg; rw [if_neg (fun q => c6 q.1)]
      rw [i1_f (fun q => c6 q.2), it0, e]
      exact open_g h hI hJ hn c2 h1 hb (w := 0) (Or.inl rfl)
  · rw [i1_f c3, it0]
    exact Or.inl ⟨c3, rfl⟩
/-- the master is asked -/
theorem nudge_n (h : SR X R σ) (hI : Iv n σ) (hJ : J B σ) (hn : n ≤ 600) (c2 : σ 10 = 1) :
    (σ 14 = σ 7 ∧ fX7_nudge X = some (zI (-3), X)) ∨ (σ 14 ≠ σ 7 ∧ stp σ = -5 ∧ fX7_nudge X = some (zI (-5), X)) ∨
    (σ 14 ≠ σ 7 ∧ (100 ≤ stp σ ∧ stp σ ≤ 20000) ∧ ((2 ≤ σ 13 + σ 6 - σ 9 ∧ ∃ X' σ', fX7_nudge X = some (zI (told (stp σ)), X') ∧ DnP B n σ 2 X' σ') ∨ (σ 13 + σ 6 - σ 9 < 2 ∧ ∃ X' σ', fX7_nudge X = some (zI (-6), X') ∧ OvP B n σ X' σ'))) := by
  have hB := hI.1
  have h0 := hB.1
  have hI' := hI
  obtain ⟨-, ⟨h3, h4, h6, h7, h8, h9, -, h17, h13, h12, h14⟩, hp, -, hg, hE⟩ := hI'
  obtain ⟨⟨p11, p5, p9, p17, p4, p14⟩, hk0⟩ := hp c2
  unfold fX7_nudge
  rw [running h hI, i1_t c2, it1, h.toldN, show X 3 8 = zI (σ 7) from h.nudges, show X 4 14 = zI (σ 5) from h.ro.ex]
  by_cases c3 : σ 14 = σ 7
  · rw [if_neg (show ¬ zI (σ 14) < zI (σ 7) by rw [zlt] <;> omega)]
    exact Or.inl ⟨c3, rfl⟩
  · rw [if_pos (show zI (σ 14) < zI (σ 7) by rw [zlt] <;> omega), X_stepFor h.ro (h.1.2.2.2.2.1 c2) hB p5, bnd_some]
    obtain ⟨R0, -, -, r3⟩ := R_step h.row hB p11 p5
    have hg5 := go_5 hB 12 (σ 5).toNat 0 (by omega) (by omega)
    rcases r3 with r3 | r3
    · rw [r3, if_pos (by rfl)]
      exact Or.inr (Or.inl ⟨c3, rfl, rfl⟩)
    · refine Or.inr (Or.inr ⟨c3, ⟨r3.1, r3.2.1⟩, ?_⟩)
      have hgo : stp σ = go σ 12 0 (σ 5).toNat := rfl
      rw [← hgo] at hg5
      generalize stp σ = a at *
      have ht0 := told_r r3.1
      have ht1 : told a ≤ 20000 := by unfold told; split <;> omega
      rw [if_neg (by rw [zm5, zeq] <;> omega), zc2]
      have ht := inTime h hI hn (m := 2) (by omega)
      by_cases c6 : 2 ≤ σ 13 + σ 6 - σ 9
      · refine Or.inl ⟨c6, ?_⟩
        rw [ht.1, i1_t c6, it1, X_told (by omega)]
        obtain ⟨X1, R1, σ1, a1, s1, B1, e1, go⟩ := act_n h hI hJ.1 hn c2 (m := 2) ⟨by omega, c6⟩ (j := 11) (w := 4) (a := told a) (b := 0) (a' := told a) (b' := -1) (by omega) (by decide +kernel) (by omega) (Or.inl rfl) (by rw [argL1 (by omega)]; rfl) (by omega)
        have q14 : σ1 14 = σ 14 := e1 14 (by omega) (by omega)
        have q10 : σ1 10 = 1 := by rw [e1 10 (by omega) (by omega)]; exact c2
        have hh : (heldN σ1 : Int) ≤ σ 11 := by rw [heldN_c (σ := σ) (e1 1 (by omega) (by omega)) (fun p hp => e1 _ (by omega) (by omega))]; exact jheld hJ c2
        obtain ⟨s2, f2⟩ := s1.stat (j := 14) rfl (σ1 14 + 1)
        have B2 : RB (us σ1 14 (σ1 14 + 1)) := B1.c (fun j hj hc => us_ne _ _ (by omega))
        rw [zm1, a1, bnd_some, s1.toldN, zc1, zadd, thn_eq, X_kind (by omega)]
        by_cases c7 : a % 1000 / 100 = 5
        · obtain ⟨k, c, hk, hc1, hc2, ha⟩ := hg5 r3.1 c7
          have ta : told a = 500 + k := by unfold told; rw [if_pos c7]; omega
          have td : a / 1000 = c := by omega
          obtain ⟨s3, f3⟩ := s2.known (by rw [us_ne _ _ (by omega)]; exact q10) (b := c) (by omega) (zI (σ1 (68 + c)) ||| ((1 : Int32) <<< (zI (k : Int) &&& 31)))
          have B3 := known_iv B2 (b := c) (by omega) (zI (σ1 (68 + c)) ||| ((1 : Int32) <<< (zI (k : Int) &&& 31))).toInt
          generalize hV : (zI (σ1 (68 + c)) ||| ((1 : Int32) <<< (zI (k : Int) &&& 31))) = V at *
          obtain ⟨X4, R4, σ4, a4, s4, B4, I4, J4, e4, t4⟩ := go _ _ _ s3 B3 (fun j hj q _ => by rw [us_ne _ _ (by omega), us_ne _ _ (by omega)]) (by rw [us_ne _ _ (by omega), us_at]; omega) (fun q hq hcc => by rw [us_ne _ _ (by omega), us_ne _ _ (by omega), e1 _ (by omega) (by omega)]; exact hk0 q hq hcc) (by rw [heldN_c (σ := σ1) (by rw [us_ne _ _ (by omega), us_ne _ _ (by omega)]) (fun p hp => by rw [us_ne _ _ (by omega), us_ne _ _ (by omega)])]; exact hh)
          have eX : fX5_learnDigit 4 (wr X1 19 4 (zI (σ1 14 + 1))) (zI (c : Int)) (zI (k : Int)) = some (wr (wr X1 19 4 (zI (σ1 14 + 1))) 9 c V) := by
            unfold fX5_learnDigit
            have := Kn.at (s2.1.2.2.2.2.1 (by rw [us_ne _ _ (by omega)]; exact q10)) (b := c) (by omega)
            rw [us_ne _ _ (by omega)] at this
            rw [show atX (wr X1 19 4 (zI (σ1 14 + 1))) (4 + 5) 12 (zI (c : Int)) = zI (σ1 (68 + c)) from this, hV, thn_eq, put_in (by omega) (by omega)]
          rw [if_pos (by rw [c7]; rfl), zc1000, zdiv (by omega) (by omega) (by omega) (by omega), zc100, zirm (by omega) (by omega) (by omega) (by omega), td, show a % 100 = (k : Int) by omega, eX, bnd_some]
          unfold fX7_nudge_B147
          rw [zc2, show wr X1 19 4 (zI (σ1 14 + 1)) = wr X1 (3 + sk 14) (si 14) (zI (σ1 14 + 1)) from rfl, a4, bnd_some, X_told (by omega), ta]
          exact ⟨X4, σ4, rfl, R4, s4, I4, ⟨J4, hJ.2.know c2 (by omega) (b := c) (k := (k : Int)) (by omega) (by omega) (fun j hj hjb => by rw [e4 j (by omega) (by omega), us_ne _ _ hjb, us_ne _ _ (by omega), e1 j (by omega) (by omega)]) (by rw [e4 _ (by omega) (by omega), us_at, ← hV, e1 (68 + c) (by omega) (by omega)])⟩, t4⟩
        · clear hg5 hgo
          have ta : told a = a := by unfold told; rw [if_neg c7]
          obtain ⟨X4, R4, σ4, a4, s4, B4, I4, J4, e4, t4⟩ := go _ _ _ s2 B2 (fun j hj q _ => by rw [us_ne _ _ (by omega)]) (by rw [us_at]; omega) (fun q hq hcc => by rw [us_ne _ _ (by omega), e1 _ (by omega) (by omega)]; exact hk0 q hq hcc) (by rw [heldN_c (σ := σ1) (us_ne _ _ (by omega)) (fun p hp => us_ne _ _ (by omega))]; exact hh)
          rw [if_neg (show ¬ zI (a % 1000 / 100 * 100) = 500 by rw [show (500 : Int32) = zI 500 from rfl, zeq] <;> omega)]
          unfold fX7_nudge_B147
          rw [zc2, show wr X1 19 4 (zI (σ1 14 + 1)) = wr X1 (3 + sk 14) (si 14) (zI (σ1 14 + 1)) from rfl, a4, bnd_some, X_told (by omega)]
          exact ⟨X4, σ4, rfl, R4, s4, I4, ⟨J4, hJ.2.keep (by omega) (fun j hj => by rw [e4 j (by omega) (by omega), us_ne _ _ (by omega), e1 j (by omega) (by omega)])⟩, t4⟩
      · refine Or.inr ⟨by omega, ?_⟩
        rw [ht.1, i1_f c6, if_pos rfl]
        obtain ⟨X', σ', q1, q2⟩ := over_n h hI hJ.1 hn c2 (m := 2) (by omega) (by omega)
        rw [q1, bnd_some]
        exact ⟨X', σ', rfl, q2⟩
/-- the group gives up -/
theorem giveUp_n (h : SR X R σ) (hI : Iv n σ) (hJ : J B σ) (hn : n ≤ 600) (c2 : σ 10 = 1) : ∃ X' R' σ', fX7_giveUp X = some (zI (σ 9 - σ 13), X') ∧ SR X' R' σ' ∧ Iv (n + 1) σ' ∧ J B σ' ∧ σ' 6 = σ 6 ∧ σ' 10 = 0 ∧ σ' 4 = σ 4 + 1 ∧ σ' (196 + 7 * (σ 4).toNat) = 0 := by
  have hB := hI.1
  unfold fX7_giveUp
  rw [running h hI, i1_t c2, it1]
  have hI' := hI
  obtain ⟨-, ⟨h3, h4, h6, h7, h8, h9, -, h17, h13, h12, h14⟩, hp, hz, hg, hE⟩ := hI'
  obtain ⟨⟨p11, p5, p9, p17, p4, p14⟩, hk0⟩ := hp c2
  obtain ⟨X1, R1, σ1, a1, b1, s1, f1, N1, E1⟩ := note_n h (by omega) hE (j := 12) (w := 7) (a := 0) (b := 0) (a' := -1) (b' := -1) (by omega) (by decide +kernel) (Or.inl rfl) (Or.inl rfl) rfl ⟨by omega, by omega, by omega, by omega, by omega⟩
  have J1 := hJ.1.note hI c2 N1
  obtain ⟨e1, t1, tn, to⟩ := N1
  have B1 : RB σ1 := hB.c (fun j hj hc => e1 j (by omega) (by omega))
  have v4 : σ1 4 = σ 4 := e1 4 (by omega) (by omega)
  have v10 : σ1 10 = 1 := by rw [e1 10 (by omega) (by omega)]; exact c2
  have j6 := hJ.1.1.1
  have hb0 := hB.1
  obtain ⟨X3, R3, σ3, a3, b3, s3, f3, N3, B3, l3⟩ := end_n s1 B1 v10 (by omega) (fun q hq hc => by rw [e1 0 (by omega) (by omega)] at hc; rw [e1 _ (by omega) (by omega)]; exact hk0 q hq hc) (won := 0) (Or.inl rfl)
  have J3 := J1.fin (n := n) (by rw [e1 3 (by omega) (by omega)]; omega) (by omega) (by omega) v10 (by rw [e1 12 (by omega) (by omega), e1 13 (by omega) (by omega), e1 9 (by omega) (by omega)]; omega) (by rw [e1 14 (by omega) (by omega)]; exact h14) N3
  obtain ⟨e3, t10, t4, -, w1, w2, w3, w4, w5⟩ := N3
  have e03 : ∀ j, j ≠ 10 → j ≠ 4 → j ≠ 17 → (j < 104 ∨ (128 ≤ j ∧ j < 192)) → σ3 j = σ j := fun j a b c d => (e3 j a b (by omega) (by omega)).trans (e1 j (by omega) c)
  rw [zm1, note3 a1, bnd_some, zc0, a3, bnd_some, minute h]
  refine ⟨X3, R3, σ3, rfl, s3, ⟨B3, ⟨?_, ?_, ?_, ?_, ?_, ?_, Or.inl t10, ?_, ?_, ?_, ?_⟩, ?_, ?_, ?_, ?_⟩, ⟨J3, fun q => by omega⟩, e03 6 (by omega) (by omega) (by omega) (by omega), t10, by omega, by rw [← v4]; exact w4⟩
  · rw [e03 3 (by omega) (by omega) (by omega) (by omega)]; exact h3
  · omega
  · rw [e03 6 (by omega) (by omega) (by omega) (by omega)]; exact h6
  · rw [e03 7 (by omega) (by omega) (by omega) (by omega)]; exact h7
  · rw [e03 8 (by omega) (by omega) (by omega) (by omega)]; omega
  · rw [e03 9 (by omega) (by omega) (by omega) (by omega)]; omega
  · rw [e3 17 (by omega) (by omega) (by omega) (by omega), t1]; omega
  · rw [e03 13 (by omega) (by omega) (by omega) (by omega), e03 9 (by omega) (by omega) (by omega) (by omega)]; exact h13
  · rw [e03 12 (by omega) (by omega) (by omega) (by omega)]; exact h12
  · rw [e03 14 (by omega) (by omega) (by omega) (by omega)]; exact h14
  · intro q; omega
  · intro _ p hpp
    rw [e03 1 (by omega) (by omega) (by omega) (by omega)] at hpp
    exact l3 p (by rw [e1 1 (by omega) (by omega)]; exact hpp)
  · intro q hq hq2
    rw [e03 3 (by omega) (by omega) (by omega) (by omega)] at hq2
    rw [e03 _ (by omega) (by omega) (by omega) (by omega), e03 _ (by omega) (by omega) (by omega) (by omega)]
    exact hg q hq hq2
  · rw [e3 17 (by omega) (by omega) (by omega) (by omega)]
    exact E1.c (fun j h1 h2 => e3 j (by omega) (by omega) (by omega) (by omega))
end NB
