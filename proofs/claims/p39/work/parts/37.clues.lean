/-- a clue for the place k of the box b that has ink: at hand; not at hand; any -/
def cmh (σ : Nat → Int) (b k : Nat) (c : Nat) : Bool := decide ((σ (140 + c) = b ∧ σ (152 + c) = k ∧ 0 < σ (164 + c)) ∧ cf σ (σ (104 + (σ (128 + c)).toNat)).toNat = 0)
def cmn (σ : Nat → Int) (b k : Nat) (c : Nat) : Bool := decide ((σ (140 + c) = b ∧ σ (152 + c) = k ∧ 0 < σ (164 + c)) ∧ ¬ cf σ (σ (104 + (σ (128 + c)).toNat)).toNat = 0)
def cma (σ : Nat → Int) (b k : Nat) (c : Nat) : Bool := decide (σ (140 + c) = b ∧ σ (152 + c) = k ∧ 0 < σ (164 + c))
def bf (σ : Nat → Int) (b k : Nat) : Nat → Int → Int
  | 0, best => best
  | i + 1, best => bf σ b k i (if cmh σ b k i = true ∧ (best < 0 ∨ σ (164 + best.toNat) ≤ σ (164 + i)) then (i : Int) else best)
def lf (P : Nat → Bool) : Nat → Int → Int
  | 0, low => low
  | i + 1, low => lf P i (if P i = true then (i : Int) else low)
theorem bf_r (σ : Nat → Int) (b k : Nat) : ∀ i e, (0 ≤ bf σ b k i e ∧ bf σ b k i e < i) ∨ bf σ b k i e = e := by
  intro i
  induction i with
  | zero => intro e; exact Or.inr rfl
  | succ i ih =>
    intro e
    unfold bf
    have := ih (if cmh σ b k i = true ∧ (e < 0 ∨ σ (164 + e.toNat) ≤ σ (164 + i)) then (i : Int) else e)
    split at this
    · rw [if_pos (by assumption)]; omega
    · rw [if_neg (by assumption)]; omega
theorem bf_e (σ : Nat → Int) (b k : Nat) : ∀ i e e', e < 0 → e' < 0 → (bf σ b k i e = e ∧ bf σ b k i e' = e') ∨ (bf σ b k i e = bf σ b k i e' ∧ 0 ≤ bf σ b k i e) := by
  intro i
  induction i with
  | zero => intro e e' _ _; exact Or.inl ⟨rfl, rfl⟩
  | succ i ih =>
    intro e e' h h'
    unfold bf
    by_cases c : cmh σ b k i = true
    · rw [if_pos ⟨c, Or.inl h⟩, if_pos ⟨c, Or.inl h'⟩]
      right
      refine ⟨rfl, ?_⟩
      have := bf_r σ b k i (i : Int)
      omega
    · rw [if_neg (fun q => c q.1), if_neg (fun q => c q.1)]
      exact ih e e' h h'
theorem bf_none (σ : Nat → Int) (b k : Nat) : ∀ i e, bf σ b k i e < 0 → ∀ c, c < i → cmh σ b k c = false := by
  intro i
  induction i with
  | zero => intro e _ c hc; omega
  | succ i ih =>
    intro e h c hc
    unfold bf at h
    by_cases q : cmh σ b k i = true
    · exfalso
      by_cases q2 : e < 0 ∨ σ (164 + e.toNat) ≤ σ (164 + i)
      · rw [if_pos ⟨q, q2⟩] at h
        have := bf_r σ b k i (i : Int)
        omega
      · rw [if_neg (fun t => q2 t.2)] at h
        have := bf_r σ b k i e
        omega
    · rw [if_neg (fun t => q t.1)] at h
      by_cases q3 : c = i
      · subst q3; simpa using q
      · exact ih e h c (by omega)
theorem lf_r (P : Nat → Bool) : ∀ i e, (0 ≤ lf P i e ∧ lf P i e < i ∧ P (lf P i e).toNat = true) ∨ lf P i e = e := by
  intro i
  induction i with
  | zero => intro e; exact Or.inr rfl
  | succ i ih =>
    intro e
    unfold lf
    by_cases c : P i = true
    · rw [if_pos c]
      rcases ih (i : Int) with h | h
      · exact Or.inl ⟨h.1, by omega, h.2.2⟩
      · rw [h]
        exact Or.inl ⟨by omega, by omega, by simpa using c⟩
    · rw [if_neg c]
      rcases ih e with h | h
      · exact Or.inl ⟨h.1, by omega, h.2.2⟩
      · exact Or.inr h
theorem lf_e (P : Nat → Bool) : ∀ i e e', e < 0 → e' < 0 → (lf P i e = e ∧ lf P i e' = e') ∨ (lf P i e = lf P i e' ∧ 0 ≤ lf P i e) := by
  intro i
  induction i with
  | zero => intro e e' _ _; exact Or.inl ⟨rfl, rfl⟩
  | succ i ih =>
    intro e e' h h'
    unfold lf
    by_cases c : P i = true
    · rw [if_pos c, if_pos c]
      right
      refine ⟨rfl, ?_⟩
      have := lf_r P i (i : Int)
      omega
    · rw [if_neg c, if_neg c]
      exact ih e e' h h'
theorem lf_c {P Q : Nat → Bool} : ∀ i e, (∀ c, c < i → P c = Q c) → lf P i e = lf Q i e := by
  intro i
  induction i with
  | zero => intro e _; rfl
  | succ i ih =>
    intro e h
    unfold lf
    rw [h i (by omega)]
    exact ih _ (fun c hc => h c (by omega))
section RM
variable {X R : Mem} {r : Nat} {σ : Nat → Int}
theorem zpre (i : Nat) : zI (((i + 1 : Nat) : Int) - 1) = zI (i : Int) := by congr 1; omega
theorem zprm (i : Nat) : zI (i : Int) + (-1) = zI ((i : Int) - 1) := by rw [zm1, zadd]; rfl
/-- the end of the class's loop over the clues -/
def sfe (σ : Nat → Int) (b k : Nat) (best low : Int) : Int := if best < 0 then (if low < 0 then 500 + k + 1000 * b else ((cf σ (σ (104 + (σ (128 + low.toNat)).toNat)).toNat : Nat) : Int)) else 400 + best
theorem X_clues_L (hr : Ro X r σ) (hB : RB σ) {b k : Nat} (hb : b < 12) (hk : k < 4) : ∀ (i n : Nat) (best low : Int), (i : Int) ≤ σ 2 → i < n → (-1 ≤ best ∧ best < σ 2) → (-1 ≤ low ∧ low < σ 2) → fX5_stepForCode_L30 r n X (zI (b : Int)) (zI (k : Int)) (zI best) (zI low) (zI ((i : Int) - 1)) = some (zI (sfe σ b k (bf σ b k i best) (lf (cma σ b k) i low))) := by
  have h0 := hB.1
  intro i
  induction i with
  | zero =>
    intro n best low hi hn hbe hlo
    obtain ⟨n, rfl⟩ := ex_succ hn
    rw [fX5_stepForCode_L30, if_pos (by decide)]
    unfold sfe bf lf
    simp (disch := omega) only [zc0, zlt]
    by_cases c : best < 0
    · rw [if_pos c, if_pos c]
      by_cases c2 : low < 0
      · rw [if_pos c2, if_pos c2, zc500, zc1000, zadd, zmul, zadd]
      · rw [if_neg c2, if_neg c2]
        have h := cl hB (c := low.toNat) (by omega)
        rw [zn_of (show 0 ≤ low by omega), hr.cprop (by omega), zn_of h.1.1, X_cfl hr hB (by omega), bnd_some]
    · rw [if_neg c, if_neg c, zc400, zadd]
  | succ i ih =>
    intro n best low hi hn hbe hlo
    obtain ⟨n, rfl⟩ := ex_succ hn
    rw [zpre]
    have h := cl hB (c := i) (by omega)
    have e1 : ∀ be lo : Int, (-1 ≤ be ∧ be < σ 2) → (-1 ≤ lo ∧ lo < σ 2) → fX5_stepForCode_L30 r n X (zI (b : Int)) (zI (k : Int)) (zI be) (zI lo) (zI (i : Int) + (-1)) = some (zI (sfe σ b k (bf σ b k i be) (lf (cma σ b k) i lo))) := fun be lo h1 h2 => by
      rw [zprm]; exact ih n be lo (by omega) (by omega) h1 h2
    have q1 := e1 best low hbe hlo
    have q2 := e1 best i hbe (by omega)
    have q3 := e1 i i (by omega) (by omega)
    rw [fX5_stepForCode_L30, if_neg (by rw [zc0, zlt] <;> omega), hr.cbox (by omega), hr.cplace (by omega), hr.ink (by omega)]
    unfold bf lf
    by_cases c1 : σ (140 + i) = b
    · by_cases c2 : σ (152 + i) = k
      · rw [if_pos (by rw [c1]), if_pos (by rw [c2])]
        by_cases c3 : 0 < σ (164 + i)
        · have ha : cma σ b k i = true := by simp [cma, c1, c2, c3]
          rw [if_neg (by rw [zc0, zle] <;> omega), X_ch hr hB (by omega), bnd_some, if_pos ha]
          by_cases c4 : ch σ i
          · have hh : cmh σ b k i = true := by
              have : cf σ (σ (104 + (σ (128 + i)).toNat)).toNat = 0 := c4
              simp [cmh, c1, c2, c3, this]
            rw [i1_t c4, if_neg (by decide)]
            by_cases c5 : best < 0
            · rw [if_pos (show zI best < 0 by rw [zc0, zlt] <;> omega), if_pos ⟨hh, Or.inl c5⟩]
              exact q3
            · have h5 := cl hB (c := best.toNat) (by omega)
              rw [if_neg (show ¬ zI best < 0 by rw [zc0, zlt] <;> omega), zn_of (show 0 ≤ best by omega), hr.ink (b := best.toNat) (by omega), ← zn_of (show 0 ≤ best by omega)]
              by_cases c6 : σ (164 + i) < σ (164 + best.toNat)
              · rw [if_pos (by rw [zlt] <;> omega), if_neg (by omega)]
                exact q2
              · rw [if_neg (by rw [zlt] <;> omega), if_pos ⟨hh, by omega⟩]
                exact q3
          · have hh : ¬ cmh σ b k i = true := by
              have : ¬ cf σ (σ (104 + (σ (128 + i)).toNat)).toNat = 0 := c4
              simp [cmh, this]
            rw [i1_f c4, if_pos rfl, if_neg (fun t => hh t.1)]
            exact q2
        · have ha : ¬ cma σ b k i = true := by simp [cma]; omega
          have hh : ¬ cmh σ b k i = true := by simp [cmh]; omega
          rw [if_pos (by rw [zc0, zle] <;> omega), if_neg (fun t => hh t.1), if_neg ha]
          exact q1
      · have ha : ¬ cma σ b k i = true := by simp [cma, c2]
        have hh : ¬ cmh σ b k i = true := by simp [cmh, c2]
        rw [if_pos (by rw [c1]), if_neg (by rw [zeq] <;> omega), if_neg (fun t => hh t.1), if_neg ha]
        exact q1
    · have ha : ¬ cma σ b k i = true := by simp [cma, c1]
      have hh : ¬ cmh σ b k i = true := by simp [cmh, c1]
      rw [if_neg (by rw [zeq] <;> omega), if_neg (fun t => hh t.1), if_neg ha]
      exact q1
/-- the reference's two searches -/
theorem R_clueH_L (hR : R 1 = enc σ) (hB : RB σ) {b k : Nat} (hb : b < 12) (hk : k < 4) : ∀ (i n : Nat) (best : Int), (i : Int) ≤ σ 2 → i < n → (-5 ≤ best ∧ best < σ 2) → fX8_clueFor_L14 n R (zI (b : Int)) (zI (k : Int)) 1 (zI best) (zI ((i : Int) - 1)) = some (zI (bf σ b k i best)) := by
  have h0 := hB.1
  intro i
  induction i with
  | zero =>
    intro n best hi hn hbe
    obtain ⟨n, rfl⟩ := ex_succ hn
    rw [fX8_clueFor_L14, if_pos (by decide)]; rfl
  | succ i ih =>
    intro n best hi hn hbe
    obtain ⟨n, rfl⟩ := ex_succ hn
    rw [zpre]
    have h := cl hB (c := i) (by omega)
    have e1 : ∀ be : Int, (-5 ≤ be ∧ be < σ 2) → fX8_clueFor_L14 n R (zI (b : Int)) (zI (k : Int)) 1 (zI be) (zI (i : Int) + (-1)) = some (zI (bf σ b k i be)) := fun be h1 => by
      rw [zprm]; exact ih n be (by omega) (by omega) h1
    have q1 := e1 best hbe
    have q3 := e1 i (by omega)
    rw [fX8_clueFor_L14, if_neg (by rw [zc0, zlt] <;> omega)]
    simp (disch := omega) only [zc140, zc152, zc164, zadd, zinbT, ztn, tn140, tn152, tn164, rd hR, if_true]
    unfold bf
    by_cases c1 : σ (140 + i) = b
    · by_cases c2 : σ (152 + i) = k
      · rw [if_pos (by rw [c1]), if_pos (by rw [c2])]
        by_cases c3 : 0 < σ (164 + i)
        · rw [if_neg (by rw [zc0, zle] <;> omega), R_ch hR hB (by omega), bnd_some]
          by_cases c4 : ch σ i
          · have hh : cmh σ b k i = true := by
              have : cf σ (σ (104 + (σ (128 + i)).toNat)).toNat = 0 := c4
              simp [cmh, c1, c2, c3, this]
            rw [i1_t c4, if_pos rfl]
            by_cases c5 : best < 0
            · rw [if_pos (show zI best < 0 by rw [zc0, zlt] <;> omega), if_pos ⟨hh, Or.inl c5⟩]
              exact q3
            · have h5 := cl hB (c := best.toNat) (by omega)
              rw [if_neg (show ¬ zI best < 0 by rw [zc0, zlt] <;> omega), if_neg (by decide)]
              rw [show (164 : Int) + best = 164 + ((best.toNat : Nat) : Int) by omega]
              simp (disch := omega) only [zinbT, ztn, tn164, rd hR, if_true]
              by_cases c6 : σ (164 + i) < σ (164 + best.toNat)
              · rw [if_pos (by rw [zlt] <;> omega), if_neg (by omega)]
                exact q1
              · rw [if_neg (by rw [zlt] <;> omega), if_pos ⟨hh, by omega⟩]
                exact q3
          · have hh : ¬ cmh σ b k i = true := by
              have : ¬ cf σ (σ (104 + (σ (128 + i)).toNat)).toNat = 0 := c4
              simp [cmh, this]
            rw [i1_f c4, if_neg (by decide), if_neg (fun t => hh t.1)]
            exact q1
        · have hh : ¬ cmh σ b k i = true := by simp [cmh]; omega
          rw [if_pos (by rw [zc0, zle] <;> omega), if_neg (fun t => hh t.1)]
          exact q1
      · have hh : ¬ cmh σ b k i = true := by simp [cmh, c2]
        rw [if_pos (by rw [c1]), if_neg (by rw [zeq] <;> omega), if_neg (fun t => hh t.1)]
        exact q1
    · have hh : ¬ cmh σ b k i = true := by simp [cmh, c1]
      rw [if_neg (by rw [zeq] <;> omega), if_neg (fun t => hh t.1)]
      exact q1
theorem R_clueN_L (hR : R 1 = enc σ) (hB : RB σ) {b k : Nat} (hb : b < 12) (hk : k < 4) : ∀ (i n : Nat) (best : Int), (i : Int) ≤ σ 2 → i < n → (-5 ≤ best ∧ best < σ 2) → fX8_clueFor_L14 n R (zI (b : Int)) (zI (k : Int)) 0 (zI best) (zI ((i : Int) - 1)) = some (zI (lf (cmn σ b k) i best)) := by
  have h0 := hB.1
  intro i
  induction i with
  | zero =>
    intro n best hi hn hbe
    obtain ⟨n, rfl⟩ := ex_succ hn
    rw [fX8_clueFor_L14, if_pos (by decide)]; rfl
  | succ i ih =>
    intro n best hi hn hbe
    obtain ⟨n, rfl⟩ := ex_succ hn
    rw [zpre]
    have h := cl hB (c := i) (by omega)
    have e1 : ∀ be : Int, (-5 ≤ be ∧ be < σ 2) → fX8_clueFor_L14 n R (zI (b : Int)) (zI (k : Int)) 0 (zI be) (zI (i : Int) + (-1)) = some (zI (lf (cmn σ b k) i be)) := fun be h1 => by
      rw [zprm]; exact ih n be (by omega) (by omega) h1
    have q1 := e1 best hbe
    have q3 := e1 i (by omega)
    rw [fX8_clueFor_L14, if_neg (by rw [zc0, zlt] <;> omega)]
    simp (disch := omega) only [zc140, zc152, zc164, zadd, zinbT, ztn, tn140, tn152, tn164, rd hR, if_true]
    unfold lf
    by_cases c1 : σ (140 + i) = b
    · by_cases c2 : σ (152 + i) = k
      · rw [if_pos (by rw [c1]), if_pos (by rw [c2])]
        by_cases c3 : 0 < σ (164 + i)
        · rw [if_neg (by rw [zc0, zle] <;> omega), R_ch hR hB (by omega), bnd_some]
          by_cases c4 : ch σ i
          · have hh : ¬ cmn σ b k i = true := by
              have : cf σ (σ (104 + (σ (128 + i)).toNat)).toNat = 0 := c4
              simp [cmn, this]
            rw [i1_t c4, if_neg (by decide), if_neg hh]
            exact q1
          · have hh : cmn σ b k i = true := by
              have : ¬ cf σ (σ (104 + (σ (128 + i)).toNat)).toNat = 0 := c4
              simp [cmn, c1, c2, c3, this]
            rw [i1_f c4, if_pos rfl, if_pos hh]
            split <;> exact q3
        · have hh : ¬ cmn σ b k i = true := by simp [cmn]; omega
          rw [if_pos (by rw [zc0, zle] <;> omega), if_neg hh]
          exact q1
      · have hh : ¬ cmn σ b k i = true := by simp [cmn, c2]
        rw [if_pos (by rw [c1]), if_neg (by rw [zeq] <;> omega), if_neg hh]
        exact q1
    · have hh : ¬ cmn σ b k i = true := by simp [cmn, c1]
      rw [if_neg (by rw [zeq] <;> omega), if_neg hh]
      exact q1
end RM
