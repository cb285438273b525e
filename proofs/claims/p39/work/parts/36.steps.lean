theorem cnt_pos {P : Nat → Bool} : ∀ n : Nat, 0 < cnt P n → ∃ i, i < n ∧ P i = true := by
  intro n
  induction n with
  | zero => intro h; exact absurd h (by simp [cnt])
  | succ n ih =>
    intro h
    by_cases c : P n = true
    · exact ⟨n, by omega, c⟩
    · rw [cnt_f (by simpa using c)] at h
      obtain ⟨i, hi, q⟩ := ih h
      exact ⟨i, by omega, q⟩
/-- the lowest prop from i on that is held -/
def lh (σ : Nat → Int) : Nat → Nat → Nat
  | 0, i => i
  | d + 1, i => if σ (104 + i) = -1 then i else lh σ d (i + 1)
def lhp (σ : Nat → Int) : Nat := lh σ (σ 1).toNat 0
def heldN (σ : Nat → Int) : Nat := cnt (fun p => decide (σ (104 + p) = -1)) (σ 1).toNat
def am (m k : Int) : Int := max 1 (m - k / 2)
/-- the lowest place from i on whose bit is not set -/
def lu (x : Int32) : Nat → Nat → Nat
  | 0, i => i
  | d + 1, i => if bt x i = true then lu x d (i + 1) else i
theorem lh_spec (σ : Nat → Int) : ∀ d i, (∃ j, i ≤ j ∧ j < i + d ∧ σ (104 + j) = -1) → lh σ d i < i + d ∧ σ (104 + lh σ d i) = -1 := by
  intro d
  induction d with
  | zero => intro i h; obtain ⟨j, h1, h2, -⟩ := h; omega
  | succ d ih =>
    intro i h
    unfold lh
    by_cases c : σ (104 + i) = -1
    · rw [if_pos c]; exact ⟨by omega, c⟩
    · rw [if_neg c]
      obtain ⟨j, h1, h2, h3⟩ := h
      have hj : j ≠ i := by intro q; subst q; exact c h3
      have := ih (i + 1) ⟨j, by omega, by omega, h3⟩
      exact ⟨by omega, this.2⟩
theorem lu_le (x : Int32) : ∀ d i, i ≤ lu x d i ∧ lu x d i ≤ i + d := by
  intro d
  induction d with
  | zero => intro i; unfold lu; omega
  | succ d ih =>
    intro i
    unfold lu
    split
    · have := ih (i + 1); omega
    · omega
section RM
variable {X R : Mem} {r : Nat} {σ : Nat → Int}
theorem X_lowestHeld_L (hr : Ro X r σ) (hB : RB σ) : ∀ d i n : Nat, ((i : Nat) : Int) + d = σ 1 → d < n → fX5_lowestHeld_L2 r n X (zI (i : Int)) = some (zI (lh σ d i : Nat)) := by
  have h0 := hB.1
  intro d
  induction d with
  | zero =>
    intro i n hi hn
    obtain ⟨n, rfl⟩ := ex_succ hn
    rw [fX5_lowestHeld_L2, if_pos (by rw [hr.np, zle] <;> omega)]; rfl
  | succ d ih =>
    intro i n hi hn
    obtain ⟨n, rfl⟩ := ex_succ hn
    rw [fX5_lowestHeld_L2, if_neg (by rw [hr.np, zle] <;> omega), X_isHeld hr hB (by omega), zsuc]
    unfold lh
    by_cases c : σ (104 + i) = -1
    · rw [i1_t c, if_neg (by decide), if_pos c]
    · rw [i1_f c, if_pos rfl, if_neg c]
      exact ih (i + 1) n (by omega) (by omega)
theorem X_lowestHeld (hr : Ro X r σ) (hB : RB σ) : fX5_lowestHeld r X = some (zI (lhp σ : Nat)) := by
  have h0 := hB.1
  exact X_lowestHeld_L hr hB (σ 1).toNat 0 5000 (by omega) (by omega)
theorem R_lowestHeld_L (hR : R 1 = enc σ) (hB : RB σ) : ∀ d i n : Nat, ((i : Nat) : Int) + d = σ 1 → d < n → (∃ j, i ≤ j ∧ j < i + d ∧ σ (104 + j) = -1) → fX8_lowestHeld_L2 n R (zI (i : Int)) = some (zI (lh σ d i : Nat)) := by
  have h0 := hB.1
  intro d
  induction d with
  | zero => intro i n hi hn h; obtain ⟨j, h1, h2, -⟩ := h; omega
  | succ d ih =>
    intro i n hi hn h
    obtain ⟨n, rfl⟩ := ex_succ hn
    rw [fX8_lowestHeld_L2, R_isHeld hR hB (by omega), bnd_some, zsuc]
    unfold lh
    by_cases c : σ (104 + i) = -1
    · rw [i1_t c, if_neg (by decide), if_pos c]
    · rw [i1_f c, if_pos rfl, if_neg c]
      obtain ⟨j, h1, h2, h3⟩ := h
      have hj : j ≠ i := by intro q; subst q; exact c h3
      exact ih (i + 1) n (by omega) (by omega) ⟨j, by omega, by omega, h3⟩
theorem held_ex (h : 0 < heldN σ) : ∃ j, j < (σ 1).toNat ∧ σ (104 + j) = -1 := by
  obtain ⟨j, h1, h2⟩ := cnt_pos _ h
  exact ⟨j, h1, by simpa using h2⟩
theorem lhp_spec (h : 0 < heldN σ) : lhp σ < (σ 1).toNat ∧ σ (104 + lhp σ) = -1 := by
  obtain ⟨j, h1, h2⟩ := held_ex h
  have := lh_spec σ (σ 1).toNat 0 ⟨j, by omega, by omega, h2⟩
  unfold lhp
  exact ⟨by omega, this.2⟩
theorem R_lowestHeld (hR : R 1 = enc σ) (hB : RB σ) (h : 0 < heldN σ) : fX8_lowestHeld R = some (zI (lhp σ : Nat)) := by
  have h0 := hB.1
  obtain ⟨j, h1, h2⟩ := held_ex h
  exact R_lowestHeld_L hR hB (σ 1).toNat 0 5000 (by omega) (by omega) ⟨j, by omega, by omega, h2⟩
theorem X_am {m k : Int} (hm : 0 ≤ m ∧ m ≤ 100) (hk : 0 ≤ k ∧ k ≤ 100) : fX7_actMinutes X (zI m) (zI k) = zI (am m k) := by
  unfold fX7_actMinutes am
  rw [zc1, zc2, zdiv (by omega) (by omega) (by omega) (by omega), zsub, zmx (by omega) (by omega) (by omega) (by omega)]
theorem R_lessHalf (hR : R 1 = enc σ) (hB : RB σ) {m : Int} (hm : 0 ≤ m ∧ m ≤ 100) : fX8_lessHalf R (zI m) = some (zI (am m (σ 11))) := by
  have h0 := hB.1
  unfold fX8_lessHalf am
  rw [thn_eq, rd hR, zc1, zc2, zdiv (by omega) (by omega) (by omega) (by omega), zsub]
  simp (disch := omega) only [zle]
  split
  · rw [Int.max_eq_left (by omega)]
  · rw [Int.max_eq_right (by omega)]
theorem am_b (m k : Int) (hm : 0 ≤ m ∧ m ≤ 100) (hk : 0 ≤ k ∧ k ≤ 100) : 1 ≤ am m k ∧ am m k ≤ 100 := by unfold am; omega
def rmin (σ : Nat → Int) (c : Nat) : Int := am 3 (σ 11) * (if σ (164 + c) ≤ 3 then 2 else 1)
theorem X_readingMinutes (hr : Ro X r σ) (hB : RB σ) {c : Nat} (hc : (c : Int) < σ 2) : fX5_readingMinutes r X (zI (c : Int)) = zI (rmin σ c) := by
  have h0 := hB.1
  have h := cl hB hc
  unfold fX5_readingMinutes fX5_isPale rmin
  rw [hr.ink (by omega), hr.ha, zc3, X_am (by omega) (by omega), zc1, zc2, zmul, zmul]
  simp (disch := omega) only [zlt]
  by_cases q : σ (164 + c) ≤ 3
  · rw [if_neg (show ¬ 3 < σ (164 + c) by omega), if_neg (by decide), if_pos q]
  · rw [if_pos (show 3 < σ (164 + c) by omega), if_pos rfl, if_neg q]
theorem R_readMinutes (hR : R 1 = enc σ) (hB : RB σ) {c : Nat} (hc : (c : Int) < σ 2) : fX8_readMinutes R (zI (c : Int)) = some (zI (rmin σ c)) := by
  have h0 := hB.1
  have h := cl hB hc
  unfold fX8_readMinutes rmin
  rw [zc3, R_lessHalf hR hB (by omega), bnd_some]
  simp (disch := omega) only [zc164, zc4, zc2, zadd, zinbT, ztn, tn164, rd hR, if_true, zle, zmul]
  by_cases q : σ (164 + c) ≤ 3
  · rw [if_neg (by omega), if_pos q, Int.mul_comm]
  · rw [if_pos (by omega), if_neg q, Int.mul_one]
/-- the digit of a clue -/
def dgt (σ : Nat → Int) (c : Nat) : Int :=
  let code := σ (44 + (σ (140 + c)).toNat)
  if σ (152 + c) = 0 then code / 1000 % 10 else if σ (152 + c) = 1 then code / 100 % 10 else if σ (152 + c) = 2 then code / 10 % 10 else code % 10
theorem X_clueDigit (hr : Ro X r σ) (hB : RB σ) {c : Nat} (hc : (c : Int) < σ 2) : fX5_clueDigit r X (zI (c : Int)) = zI (dgt σ c) := by
  have h0 := hB.1
  have h := cl hB hc
  have h2 := bp hB (b := (σ (140 + c)).toNat) (by omega) (by omega)
  have h3 := h2.2.2.2 h.2.2.1
  unfold fX5_clueDigit dgt
  rw [hr.cbox (by omega), zn_of (by omega), hr.item (by omega) (by omega), hr.cplace (by omega), thn_eq]
  simp (disch := omega) only [zc0, zc1, zc2, zc10, zc100, zc1000, zeq, zdiv, zirm]
  split
  · rfl
  · split
    · rfl
    · split <;> rfl
theorem R_digitOf (hR : R 1 = enc σ) (hB : RB σ) {c : Nat} (hc : (c : Int) < σ 2) : fX8_digitOf R (zI (c : Int)) = some (zI (dgt σ c)) := by
  have h0 := hB.1
  have h := cl hB hc
  have h2 := bp hB (b := (σ (140 + c)).toNat) (by omega) (by omega)
  have h3 := h2.2.2.2 h.2.2.1
  unfold fX8_digitOf dgt
  simp (disch := omega) only [zc140, zc152, zadd, zinbT, ztn, tn140, tn152, rd hR, if_true, thn_eq]
  rw [zn_of (show 0 ≤ σ (140 + c) by omega)]
  simp (disch := omega) only [zc44, zadd, zinbT, ztn, tn44, rd hR, if_true]
  have hp : σ (152 + c) = 0 ∨ σ (152 + c) = 1 ∨ σ (152 + c) = 2 ∨ σ (152 + c) = 3 := by omega
  have e3 : ∀ n x, fX8_digitOf_L30 (n + 1) R x (zI 3) = some (irm x 10) := fun n x => by rw [fX8_digitOf_L30, if_pos (by decide)]
  have e2 : ∀ n x, fX8_digitOf_L30 (n + 2) R x (zI 2) = some (irm (x / 10) 10) := fun n x => by
    rw [fX8_digitOf_L30, if_neg (by decide), show zI 2 + 1 = zI 3 from rfl, e3]
  have e1 : ∀ n x, fX8_digitOf_L30 (n + 3) R x (zI 1) = some (irm (x / 10 / 10) 10) := fun n x => by
    rw [fX8_digitOf_L30, if_neg (by decide), show zI 1 + 1 = zI 2 from rfl, e2]
  have e0 : ∀ n x, fX8_digitOf_L30 (n + 4) R x (zI 0) = some (irm (x / 10 / 10 / 10) 10) := fun n x => by
    rw [fX8_digitOf_L30, if_neg (by decide), show zI 0 + 1 = zI 1 from rfl, e1]
  rcases hp with p | p | p | p
  · rw [p, if_pos rfl, e0 4996]
    simp (disch := omega) only [zc10, zdiv, zirm]
    congr 2; omega
  · rw [p, if_neg (by omega), if_pos rfl, e1 4997]
    simp (disch := omega) only [zc10, zdiv, zirm]
    congr 2; omega
  · rw [p, if_neg (by omega), if_neg (by omega), if_pos rfl, e2 4998]
    simp (disch := omega) only [zc10, zdiv, zirm]
  · rw [p, if_neg (by omega), if_neg (by omega), if_neg (by omega), e3 4999]
    simp (disch := omega) only [zc10, zirm]
theorem X_lu_L (hk : Kn X r σ) {b : Nat} (hb : b < 12) : ∀ d i n : Nat, i + d = 4 → d < n → fX5_lowestUnknownPlace_L2 r n X (zI (b : Int)) (zI (i : Int)) = some (zI (lu (zI (σ (68 + b))) d i : Nat)) := by
  intro d
  induction d with
  | zero =>
    intro i n hi hn
    obtain ⟨n, rfl⟩ := ex_succ hn
    rw [fX5_lowestUnknownPlace_L2, if_pos (by rw [zc4, zle] <;> omega)]; rfl
  | succ d ih =>
    intro i n hi hn
    obtain ⟨n, rfl⟩ := ex_succ hn
    rw [fX5_lowestUnknownPlace_L2, if_neg (by rw [zc4, zle] <;> omega), hk.at hb, zsuc]
    have e := bt_tst (x := zI (σ (68 + b))) (b := i) (by omega)
    unfold lu
    by_cases c : bt (zI (σ (68 + b))) i = true
    · rw [if_pos (e.mpr c), if_pos c]
      exact ih (i + 1) n (by omega) (by omega)
    · rw [if_neg (fun q => c (e.mp q)), if_neg c]
theorem X_lu (hk : Kn X r σ) {b : Nat} (hb : b < 12) : fX5_lowestUnknownPlace r X (zI (b : Int)) = some (zI (lu (zI (σ (68 + b))) 4 0 : Nat)) := X_lu_L hk hb 4 0 5000 rfl (by omega)
theorem R_lu_L (hR : R 1 = enc σ) {b : Nat} (hb : b < 12) : ∀ d i n : Nat, i + d = 4 → d < n → fX8_lowestUnknown_L2 n R (zI (b : Int)) (zI (i : Int)) = some (zI (lu (zI (σ (68 + b))) d i : Nat)) := by
  intro d
  induction d with
  | zero =>
    intro i n hi hn
    obtain ⟨n, rfl⟩ := ex_succ hn
    rw [fX8_lowestUnknown_L2, if_pos (by rw [zc4, zle] <;> omega)]; rfl
  | succ d ih =>
    intro i n hi hn
    obtain ⟨n, rfl⟩ := ex_succ hn
    rw [fX8_lowestUnknown_L2, if_neg (by rw [zc4, zle] <;> omega), zsuc]
    simp (disch := omega) only [zc68, zadd, zinbT, ztn, tn68, rd hR, if_true]
    have e := bt_tst (x := zI (σ (68 + b))) (b := i) (by omega)
    unfold lu
    by_cases c : bt (zI (σ (68 + b))) i = true
    · rw [if_pos (e.mpr c), if_pos c]
      exact ih (i + 1) n (by omega) (by omega)
    · rw [if_neg (fun q => c (e.mp q)), if_neg c]
theorem R_lu (hR : R 1 = enc σ) {b : Nat} (hb : b < 12) : fX8_lowestUnknown R (zI (b : Int)) = some (zI (lu (zI (σ (68 + b))) 4 0 : Nat)) := R_lu_L hR hb 4 0 5000 rfl (by omega)
/-- the held props as bits: the same on both sides -/
theorem XR_heldBits_L (hr : Ro X r σ) (hR : R 1 = enc σ) (hB : RB σ) : ∀ (d i n m : Nat) (x : Int32), ((i : Nat) : Int) + d = σ 1 → d < n → d < m → ∃ v, fX5_heldBits_L4 r n X x (zI (i : Int)) = some v ∧ fX8_heldSet_L4 m R x (zI (i : Int)) = some v := by
  have h0 := hB.1
  intro d
  induction d with
  | zero =>
    intro i n m x hi hn hm
    obtain ⟨n, rfl⟩ := ex_succ hn
    obtain ⟨m, rfl⟩ := ex_succ hm
    exact ⟨x, by rw [fX5_heldBits_L4, if_pos (by rw [hr.np, zle] <;> omega)], by rw [fX8_heldSet_L4, if_pos (by rw [rd hR, zle] <;> omega)]⟩
  | succ d ih =>
    intro i n m x hi hn hm
    obtain ⟨n, rfl⟩ := ex_succ hn
    obtain ⟨m, rfl⟩ := ex_succ hm
    rw [fX5_heldBits_L4, if_neg (show ¬ X r 6 ≤ zI (i : Int) by rw [hr.np, zle] <;> omega), fX8_heldSet_L4, if_neg (show ¬ R 1 1 ≤ zI (i : Int) by rw [rd hR, zle] <;> omega), X_isHeld hr hB (by omega), R_isHeld hR hB (by omega), bnd_some, zsuc]
    by_cases c : σ (104 + i) = -1
    · rw [i1_t c, if_neg (by decide), if_neg (by decide), thn_eq, thn_eq]
      exact ih (i + 1) n m _ (by omega) (by omega) (by omega)
    · rw [i1_f c, if_pos rfl, if_pos rfl, show x ||| (0 : Int32) = x from Int32.or_zero]
      exact ih (i + 1) n m _ (by omega) (by omega) (by omega)
theorem XR_heldBits (hr : Ro X r σ) (hR : R 1 = enc σ) (hB : RB σ) : ∃ v, fX5_heldBits r X = some v ∧ fX8_heldSet R = some v := by
  have h0 := hB.1
  exact XR_heldBits_L hr hR hB (σ 1).toNat 0 5000 5000 0 (by omega) (by omega) (by omega)
end RM
