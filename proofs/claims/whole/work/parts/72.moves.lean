/-! the moves of a plan, on the aside room (66) and on the reference's row -/
def PL (M R : Mem) (ρ : Nat → Int) : Prop := Ro M 66 ρ ∧ Kn M 66 ρ ∧ RB ρ ∧ R 1 = enc ρ
section MV
variable {M R : Mem} {ρ : Nat → Int}
theorem PL.put {c k m i : Nat} (h : PL M R ρ) (hl : ro (c + i) = true ∧ rk (c + i) = k ∧ ri (c + i) = i) (hk : k ≠ 5) (hi : i < m) (hm : m < 100000) (h4 : c + i < 32 ∨ 44 ≤ c + i) (v : Int) (hB : RB (us ρ (c + i) v)) : PL (putX M (66 + k) m (zI (i : Int)) (zI v)) (wr R 1 (c + i) (zI v)) (us ρ (c + i) v) := by
  have q := ro_so (c + i) (by have := ro_lt hl.1; omega) hl.1
  refine ⟨h.1.put hl hi hm h4 v, ?_, hB, wrR h.2.2.2 _ _⟩
  rw [put_in hi hm]
  exact h.2.1.frame (wr_k _ _ _ (by omega)) (fun b hb => us_ne _ _ (by omega))
theorem PL.known (h : PL M R ρ) {b : Nat} (hb : b < 12) (v : Int32) : PL (wr M 71 b v) (wr R 1 (68 + b) v) (us ρ (68 + b) v.toInt) := by
  have ev : v = zI v.toInt := (Int32.ofInt_toInt v).symm
  refine ⟨h.1.frame (fun k hk hk5 => wr_k M _ _ (by omega)) (fun j hj hc => us_ne _ _ (by omega)), fun c hc => ?_, known_iv h.2.2.1 hb _, ?_⟩
  · by_cases q : c = b
    · subst q
      rw [us_at, ← ev]
      exact wr_at M 71 c v
    · rw [us_ne _ _ (by omega), ← h.2.1 c hc]
      exact wr_i M 71 v q
  · conv => lhs; rw [ev]
    exact wrR h.2.2.2 (68 + b) v.toInt
theorem PL.ha (h : PL M R ρ) : M 66 15 = zI (ρ 11) := h.1.ha
/-- a prop is taken, or laid -/
theorem mv_take (h : PL M R ρ) {p : Nat} (hp : (p : Int) < ρ 1) (x : Int32) : ∃ M' R', fX5_follow 66 M (100 : Int32) (zI (p : Int)) x = some (zI (am 3 (ρ 11)), M') ∧ fX8_planned R (zI (100 + (p : Int))) = some (zI (am 3 (ρ 11)), R') ∧ PL M' R' (us ρ (104 + p) (-1)) ∧ (∀ k, k < 66 → M' k = M k) ∧ (∀ k, k ≠ 1 → R' k = R k) := by
  have h0 := h.2.2.1.1
  have hB' : RB (us ρ (104 + p) (-1)) := h.2.2.1.lies (by omega) (by omega)
  have h' := h.put (loc_104 p (by omega)) (by omega) (m := 24) (by omega) (by omega) (by omega) (-1) hB'
  have e11 : us ρ (104 + p) (-1) 11 = ρ 11 := us_ne _ _ (by omega)
  have ha := h'.ha
  rw [e11] at ha
  refine ⟨_, _, ?_, ?_, h', fun k hk => ?_, fun k hk => wr_k _ _ _ hk⟩
  · unfold fX5_follow
    rw [if_pos rfl, thn_eq, show putX M (66 + 7) 24 (zI (p : Int)) (-1 : Int32) = putX M (66 + 7) 24 (zI (p : Int)) (zI (-1)) from rfl, ha, zc3, X_am (by omega) (by omega)]
  · unfold fX8_planned
    rw [zc1000, zc100, zirm (by omega) (by omega) (by omega) (by omega), zirm (by omega) (by omega) (by omega) (by omega), zdiv (by omega) (by omega) (by omega) (by omega), thn_eq, show (100 + (p : Int)) % 1000 / 100 = 1 by omega, if_pos (by rfl), show (100 + (p : Int)) % 100 = (p : Int) by omega, if_pos (i104 (by omega)), j104 (by omega), thn_eq, show wr R 1 (104 + p) (-1 : Int32) = wr R 1 (104 + p) (zI (-1)) from rfl, zc3, R_lessHalf h'.2.2.2 hB' (by omega), bnd_some, e11]
  · rw [put_in (by omega) (by omega), wr_k _ _ _ (by omega)]
theorem mv_lay (h : PL M R ρ) {p : Nat} {o : Int} (hp : (p : Int) < ρ 1) (ho : 0 ≤ o ∧ o < ρ 0) : ∃ M' R', fX5_follow 66 M (200 : Int32) (zI (p : Int)) (zI o) = some (zI (am 2 (ρ 11)), M') ∧ fX8_planned R (zI (200 + (p : Int) + 1000 * o)) = some (zI (am 2 (ρ 11)), R') ∧ PL M' R' (us ρ (104 + p) o) ∧ (∀ k, k < 66 → M' k = M k) ∧ (∀ k, k ≠ 1 → R' k = R k) := by
  have h0 := h.2.2.1.1
  have hB' : RB (us ρ (104 + p) o) := h.2.2.1.lies (by omega) (by omega)
  have h' := h.put (loc_104 p (by omega)) (by omega) (m := 24) (by omega) (by omega) (by omega) o hB'
  have e11 : us ρ (104 + p) o 11 = ρ 11 := us_ne _ _ (by omega)
  have ha := h'.ha
  rw [e11] at ha
  refine ⟨_, _, ?_, ?_, h', fun k hk => ?_, fun k hk => wr_k _ _ _ hk⟩
  · unfold fX5_follow
    rw [if_neg (by decide), if_pos rfl, thn_eq, ha, zc2, X_am (by omega) (by omega)]
  · unfold fX8_planned
    rw [zc1000, zc100, zirm (by omega) (by omega) (by omega) (by omega), zirm (by omega) (by omega) (by omega) (by omega), zdiv (by omega) (by omega) (by omega) (by omega), zdiv (by omega) (by omega) (by omega) (by omega), thn_eq, show (200 + (p : Int) + 1000 * o) % 1000 / 100 = 2 by omega, if_neg (by decide), if_pos (by rfl), show (200 + (p : Int) + 1000 * o) % 100 = (p : Int) by omega, show (200 + (p : Int) + 1000 * o) / 1000 = o by omega, if_pos (i104 (by omega)), j104 (by omega), thn_eq, zc2, R_lessHalf h'.2.2.2 hB' (by omega), bnd_some, e11]
  · rw [put_in (by omega) (by omega), wr_k _ _ _ (by omega)]
theorem mv_open (h : PL M R ρ) {b : Nat} (hb : (b : Int) < ρ 0) (h1 : 1 ≤ b) (x : Int32) : ∃ M' R', fX5_follow 66 M (300 : Int32) (zI (b : Int)) x = some (zI (am 4 (ρ 11)), M') ∧ fX8_planned R (zI (300 + (b : Int))) = some (zI (am 4 (ρ 11)), R') ∧ PL M' R' (us ρ (56 + b) 1) ∧ (∀ k, k < 66 → M' k = M k) ∧ (∀ k, k ≠ 1 → R' k = R k) := by
  have h0 := h.2.2.1.1
  have hB' : RB (us ρ (56 + b) 1) := h.2.2.1.opn (by omega) (Or.inr rfl) (fun _ => rfl)
  have h' := h.put (loc_56 b (by omega)) (by omega) (m := 12) (by omega) (by omega) (by omega) 1 hB'
  have e11 : us ρ (56 + b) 1 11 = ρ 11 := us_ne _ _ (by omega)
  have ha := h'.ha
  rw [e11] at ha
  refine ⟨_, _, ?_, ?_, h', fun k hk => ?_, fun k hk => wr_k _ _ _ hk⟩
  · unfold fX5_follow
    rw [if_neg (by decide), if_neg (by decide), if_pos rfl, thn_eq, show putX M (66 + 4) 12 (zI (b : Int)) (1 : Int32) = putX M (66 + 4) 12 (zI (b : Int)) (zI 1) from rfl, ha, zc4, X_am (by omega) (by omega)]
  · unfold fX8_planned
    rw [zc1000, zc100, zirm (by omega) (by omega) (by omega) (by omega), zirm (by omega) (by omega) (by omega) (by omega), zdiv (by omega) (by omega) (by omega) (by omega), thn_eq, show (300 + (b : Int)) % 1000 / 100 = 3 by omega, if_neg (by decide), if_neg (by decide), if_pos (by rfl), show (300 + (b : Int)) % 100 = (b : Int) by omega, if_pos (i56 (by omega)), j56 (by omega), thn_eq, show wr R 1 (56 + b) (1 : Int32) = wr R 1 (56 + b) (zI 1) from rfl, zc4, R_lessHalf h'.2.2.2 hB' (by omega), bnd_some, e11]
  · rw [put_in (by omega) (by omega), wr_k _ _ _ (by omega)]
/-- a digit is told -/
theorem mv_known (h : PL M R ρ) {b k : Nat} (hb : b < 12) (hk : k < 4) (r11 : R 0 11 = zI (b : Int)) : ∃ M' R', fX5_follow 66 M (500 : Int32) (zI (k : Int)) (zI (b : Int)) = some (zI 2, M') ∧ fX8_planned R (zI (500 + (k : Int))) = some (zI 2, R') ∧ PL M' R' (us ρ (68 + b) (zI (ρ (68 + b)) ||| ((1 : Int32) <<< (zI (k : Int) &&& 31))).toInt) ∧ (∀ k, k < 66 → M' k = M k) ∧ (∀ k, k ≠ 1 → R' k = R k) := by
  have h' := h.known hb (zI (ρ (68 + b)) ||| ((1 : Int32) <<< (zI (k : Int) &&& 31)))
  refine ⟨_, _, ?_, ?_, h', fun k hk => wr_k _ _ _ (by omega), fun k hk => wr_k _ _ _ hk⟩
  · unfold fX5_follow
    rw [if_neg (by decide), if_neg (by decide), if_neg (by decide), if_neg (by decide)]
    unfold fX5_learnDigit
    rw [Kn.at h.2.1 hb, thn_eq, put_in hb (by omega), bnd_some]
    rfl
  · unfold fX8_planned
    rw [zc1000, zc100, zirm (by omega) (by omega) (by omega) (by omega), zirm (by omega) (by omega) (by omega) (by omega), zdiv (by omega) (by omega) (by omega) (by omega), thn_eq, show (500 + (k : Int)) % 1000 / 100 = 5 by omega, if_neg (by decide), if_neg (by decide), if_neg (by decide), if_neg (by decide), show (500 + (k : Int)) % 100 = (k : Int) by omega, r11, if_pos (i68 (by omega)), if_pos (i68 (by omega)), j68 (by omega), rd h.2.2.2, thn_eq]
    rfl
/-- a clue is read -/
theorem mv_clue (h : PL M R ρ) {c : Nat} (hc : (c : Int) < ρ 2) (hi : 0 < ρ (164 + c)) (x : Int32) : ∃ M' R', fX5_follow 66 M (400 : Int32) (zI (c : Int)) x = some (zI (rmin ρ c), M') ∧ fX8_planned R (zI (400 + (c : Int))) = some (zI (rmin ρ c), R') ∧ PL M' R' (us (us ρ (68 + (ρ (140 + c)).toNat) (zI (ρ (68 + (ρ (140 + c)).toNat)) ||| ((1 : Int32) <<< (zI (ρ (152 + c)) &&& 31))).toInt) (164 + c) (ρ (164 + c) - 1)) ∧ (∀ k, k < 66 → M' k = M k) ∧ (∀ k, k ≠ 1 → R' k = R k) := by
  have h0 := h.2.2.1.1
  have hcl := cl h.2.2.1 hc
  obtain ⟨b, hb⟩ : ∃ b : Nat, ρ (140 + c) = b := ⟨(ρ (140 + c)).toNat, by omega⟩
  have hbn : (ρ (140 + c)).toNat = b := by omega
  rw [hbn]
  have h1 := h.known (b := b) (by omega) (zI (ρ (68 + b)) ||| ((1 : Int32) <<< (zI (ρ (152 + c)) &&& 31)))
  generalize hV : (zI (ρ (68 + b)) ||| ((1 : Int32) <<< (zI (ρ (152 + c)) &&& 31))) = V at *
  have t164 : us ρ (68 + b) V.toInt (164 + c) = ρ (164 + c) := us_ne _ _ (by omega)
  have h2 := h1.put (loc_164 c (by omega)) (by omega) (m := 12) (by omega) (by omega) (by omega) (ρ (164 + c) - 1) (h1.2.2.1.ink (by omega) (by omega))
  refine ⟨_, _, ?_, ?_, h2, fun k hk => ?_, fun k hk => by rw [wr_k _ _ _ hk, wr_k _ _ _ hk]⟩
  · unfold fX5_follow
    rw [if_neg (by decide), if_neg (by decide), if_neg (by decide), if_pos rfl, X_readingMinutes h.1 h.2.2.1 hc, thn_eq]
    unfold fX5_learnFromClue fX5_learnDigit
    rw [h.1.cbox (by omega), h.1.cplace (by omega), hb, Kn.at h.2.1 (by omega), hV, thn_eq, bnd_some, thn_eq, show putX M (66 + 5) 12 (zI (b : Int)) V = wr M 71 b V from put_in (by omega) (by omega) V, h1.1.ink (by omega), t164, zc1, zsub, zc0, zmx (by omega) (by omega) (by omega) (by omega), Int.max_eq_right (by omega), bnd_some]
  · have eR : fX8_learn R (zI (c : Int)) = some (wr R 1 (68 + b) V) := by
      unfold fX8_learn
      rw [if_pos (i140 (by omega)), j140 (by omega), if_pos (i152 (by omega)), j152 (by omega), rd h.2.2.2 (140 + c), rd h.2.2.2 (152 + c), hb, if_pos (i68 (by omega)), if_pos (i68 (by omega)), j68 (by omega), rd h.2.2.2, hV, thn_eq]
    unfold fX8_planned
    rw [zc1000, zc100, zirm (by omega) (by omega) (by omega) (by omega), zirm (by omega) (by omega) (by omega) (by omega), zdiv (by omega) (by omega) (by omega) (by omega), thn_eq, show (400 + (c : Int)) % 1000 / 100 = 4 by omega, if_neg (by decide), if_neg (by decide), if_neg (by decide), if_pos (by rfl), show (400 + (c : Int)) % 100 = (c : Int) by omega, R_readMinutes h.2.2.2 h.2.2.1 hc, bnd_some, eR, bnd_some, if_pos (i164 (by omega)), if_pos (i164 (by omega)), j164 (by omega), rd h1.2.2.2, t164, show (1 : Int32) = zI 1 from rfl, zsub, thn_eq]
  · rw [put_in (by omega) (by omega), wr_k _ _ _ (by omega), wr_k _ _ _ (by omega)]
end MV
