/-! the next step: below 100 the box to be asked next -/
def sfc (σ : Nat → Int) (b : Nat) : Int := if lu (zI (σ (68 + b))) 4 0 = 4 then 300 + b else sfe σ b (lu (zI (σ (68 + b))) 4 0) (bf σ b (lu (zI (σ (68 + b))) 4 0) (σ 2).toNat (-1)) (lf (cma σ b (lu (zI (σ (68 + b))) 4 0)) (σ 2).toNat (-1))
def sth (σ : Nat → Int) (p : Nat) : Int := if cf σ (σ (104 + p)).toNat = 0 then (if (heldN σ : Int) < σ 11 then 100 + p else 200 + (lhp σ : Nat)) else (cf σ (σ (104 + p)).toNat : Nat)
def sft (σ : Nat → Int) (b : Nat) : Int :=
  if σ (32 + b) = 0 ∨ (σ (32 + b) = 1 ∧ σ (104 + (σ (44 + b)).toNat) = -1) ∨ (σ (32 + b) = 3 ∧ σ (104 + (σ (44 + b)).toNat) = σ (20 + b)) then 300 + b
  else if σ (104 + (σ (44 + b)).toNat) = -1 then 200 + σ (44 + b) + 1000 * σ (20 + b)
  else sth σ (σ (44 + b)).toNat
def sf (σ : Nat → Int) (b : Nat) : Int := if σ (32 + b) = 2 then sfc σ b else sft σ b
def nx (σ : Nat → Int) (b : Nat) : Int := if cf σ (σ (20 + b)).toNat = 0 then sf σ b else (cf σ (σ (20 + b)).toNat : Nat)
def go (σ : Nat → Int) : Nat → Int32 → Nat → Int
  | 0, _, _ => -5
  | f + 1, s, b => if bt s b = true then -5 else if nx σ b < 100 then go σ f (s ||| ((1 : Int32) <<< (zI (b : Int) &&& 31))) (nx σ b).toNat else nx σ b
def stp (σ : Nat → Int) : Int := go σ 12 0 (σ 5).toNat
def told (a : Int) : Int := if a % 1000 / 100 = 5 then a % 1000 else a
def un (s : Int32) : Nat := cnt (fun i => decide (1 ≤ i) && !bt s i) 12
theorem cnt_lt {P Q : Nat → Bool} : ∀ n b, b < n → P b = true → Q b = false → (∀ i, i ≠ b → Q i = P i) → cnt Q n < cnt P n := by
  intro n
  induction n with
  | zero => intro b hb; omega
  | succ n ih =>
    intro b hb hp hq h
    by_cases c : b = n
    · subst c
      rw [cnt_t hp, cnt_f hq]
      have : ∀ m, m ≤ b → cnt Q m = cnt P m := by
        intro m
        induction m with
        | zero => intro _; rfl
        | succ m ihm =>
          intro hm
          unfold cnt
          rw [ihm (by omega), h m (by omega)]
      rw [this b (Nat.le_refl _)]
      omega
    · have := ih b (by omega) hp hq h
      unfold cnt
      rw [h n (by omega)]
      omega
theorem un_set {s : Int32} {b : Nat} (h1 : 1 ≤ b) (h2 : b < 12) (h3 : ¬ bt s b = true) : un (s ||| ((1 : Int32) <<< (zI (b : Int) &&& 31))) < un s := by
  unfold un
  have e : ∀ i, i < 12 → bt (s ||| ((1 : Int32) <<< (zI (b : Int) &&& 31))) i = (bt s i || decide (i = b)) := fun i hi => bt_set (by omega) (by omega)
  have e2 : ∀ n, n ≤ 12 → cnt (fun i => decide (1 ≤ i) && !bt (s ||| ((1 : Int32) <<< (zI (b : Int) &&& 31))) i) n = cnt (fun i => decide (1 ≤ i) && !(bt s i || decide (i = b))) n := by
    intro n
    induction n with
    | zero => intro _; rfl
    | succ n ih =>
      intro hn
      unfold cnt
      rw [ih (by omega), e n (by omega)]
  rw [e2 12 (Nat.le_refl _)]
  refine cnt_lt 12 b h2 ?_ ?_ ?_
  · simp only [Bool.and_eq_true, decide_eq_true_eq, Bool.not_eq_true']
    exact ⟨h1, by simpa using h3⟩
  · simp
  · intro i hi
    simp [hi]
section RM
variable {X R : Mem} {r : Nat} {σ : Nat → Int}
theorem cfl_r (hB : RB σ) {p : Nat} (hp : (p : Int) < σ 1) : ((cf σ (σ (104 + p)).toNat : Nat) : Int) < σ 0 := oc_lt hB 12 _ 0 (lies_r hB hp) (by have := hB.1; omega)
theorem heldN_le (hB : RB σ) : (heldN σ : Int) ≤ σ 1 := by
  have h0 := hB.1
  have := cnt_le (fun p => decide (σ (104 + p) = -1)) (σ 1).toNat
  unfold heldN
  omega
theorem lhp_le : ∀ d i : Nat, lh σ d i ≤ i + d := by
  intro d
  induction d with
  | zero => intro i; unfold lh; omega
  | succ d ih =>
    intro i
    unfold lh
    split
    · omega
    · have := ih (i + 1); omega
theorem lhp_b (hB : RB σ) : (lhp σ : Int) ≤ σ 1 := by
  have h0 := hB.1
  have := lhp_le (σ := σ) (σ 1).toNat 0
  unfold lhp
  omega
theorem X_stepToHold (hr : Ro X r σ) (hB : RB σ) {p : Nat} (hp : (p : Int) < σ 1) : fX5_stepToHold r X (zI (p : Int)) = some (zI (sth σ p)) := by
  have h0 := hB.1
  have h1 := cfl_r hB hp
  have h2 := heldN_le hB
  unfold fX5_stepToHold sth
  rw [X_cfl hr hB hp, bnd_some, X_heldProps hr hB, bnd_some, X_lowestHeld hr hB, bnd_some, hr.ha]
  have e : cnt (fun p => decide (σ (104 + p) = -1)) (σ 1).toNat = heldN σ := rfl
  rw [e]
  by_cases c : cf σ (σ (104 + p)).toNat = 0
  · rw [if_pos (by rw [c]; decide), if_pos c]
    by_cases c2 : (heldN σ : Int) < σ 11
    · rw [if_neg (by rw [zle] <;> omega), if_pos c2, zc100, zadd]
    · rw [if_pos (by rw [zle] <;> omega), if_neg c2, zc200, zadd]
  · rw [if_neg (by rw [zc0, zle] <;> omega), if_neg c]
theorem R_stepToHold (hR : R 1 = enc σ) (hB : RB σ) (h11 : 1 ≤ σ 11) {p : Nat} (hp : (p : Int) < σ 1) : fX8_stepToHold R (zI (p : Int)) = some (zI (if (heldN σ : Int) < σ 11 then 100 + p else 200 + (lhp σ : Nat))) := by
  have h0 := hB.1
  have h2 := heldN_le hB
  unfold fX8_stepToHold
  rw [R_held hR hB, bnd_some, rd hR]
  have e : cnt (fun p => decide (σ (104 + p) = -1)) (σ 1).toNat = heldN σ := rfl
  rw [e]
  by_cases c2 : (heldN σ : Int) < σ 11
  · rw [if_pos (by rw [zlt] <;> omega), if_pos c2, zc100, zadd]
  · rw [if_neg (by rw [zlt] <;> omega), if_neg c2, R_lowestHeld hR hB (by omega), bnd_some, zc200, zadd]
theorem X_stepForThing (hr : Ro X r σ) (hB : RB σ) {b : Nat} (h1 : 1 ≤ b) (hb : (b : Int) < σ 0) (hl : σ (32 + b) ≠ 2) : fX5_stepForThing r X (zI (b : Int)) = some (zI (sft σ b)) := by
  have h0 := hB.1
  have h := bp hB h1 hb
  unfold fX5_stepForThing sft
  rw [zc0, zc1, X_hasLock hr hB hb (by omega), X_hasLock hr hB hb (by omega), thn_eq, zneg]
  simp only [← zc0, i1_0]
  by_cases c0 : σ (32 + b) = 0
  · rw [if_neg (by omega), if_pos (Or.inl c0), zc300, zadd]
  · rw [if_pos (by omega)]
    have h3 := h.2.2.1 (by omega)
    have hp : (((σ (44 + b)).toNat : Nat) : Int) < σ 1 := by omega
    have h4 := pr hB hp
    have h5 := bo hB h1 hb
    have e4 : σ (44 + b) = ((σ (44 + b)).toNat : Int) := by omega
    unfold fX5_stepForThing_B41 fX5_stepForThing_B68
    rw [zc3, X_hasLock hr hB hb (by omega)]
    simp only [i1_0]
    rw [hr.item (by omega) (by omega), zn_of h3.1, hr.lies (by omega), hr.outer (by omega), X_stepToHold hr hB hp, bnd_some]
    rw [show (-1 : Int32) = zI (-1) from zneg 1]
    simp (disch := omega) only [zeq]
    by_cases c1 : σ (32 + b) = 1
    · rw [if_neg (by omega), if_pos (show ¬ (1 ≤ b ∧ σ (32 + b) = 3) by omega)]
      by_cases c2 : σ (104 + (σ (44 + b)).toNat) = -1
      · rw [if_pos c2, if_pos (show (σ (32 + b) = 0 ∨ (σ (32 + b) = 1 ∧ σ (104 + (σ (44 + b)).toNat) = -1) ∨ (σ (32 + b) = 3 ∧ σ (104 + (σ (44 + b)).toNat) = σ (20 + b))) by omega), zc300, zadd]
      · rw [if_neg (show ¬ (σ (32 + b) = 0 ∨ (σ (32 + b) = 1 ∧ σ (104 + (σ (44 + b)).toNat) = -1) ∨ (σ (32 + b) = 3 ∧ σ (104 + (σ (44 + b)).toNat) = σ (20 + b))) by omega)]
        simp only [if_neg c2]
    · rw [if_pos (by omega), if_neg (by omega)]
      by_cases c3 : σ (104 + (σ (44 + b)).toNat) = σ (20 + b)
      · rw [if_pos c3, if_pos (show (σ (32 + b) = 0 ∨ (σ (32 + b) = 1 ∧ σ (104 + (σ (44 + b)).toNat) = -1) ∨ (σ (32 + b) = 3 ∧ σ (104 + (σ (44 + b)).toNat) = σ (20 + b))) by omega), zc300, zadd]
      · rw [if_neg c3, if_neg (show ¬ (σ (32 + b) = 0 ∨ (σ (32 + b) = 1 ∧ σ (104 + (σ (44 + b)).toNat) = -1) ∨ (σ (32 + b) = 3 ∧ σ (104 + (σ (44 + b)).toNat) = σ (20 + b))) by omega)]
        by_cases c2 : σ (104 + (σ (44 + b)).toNat) = -1
        · simp only [if_pos c2]
          rw [zc200, zc1000, zadd, zmul, zadd, ← e4]
        · simp only [if_neg c2]
theorem X_stepForCode (hr : Ro X r σ) (hk : Kn X r σ) (hB : RB σ) {b : Nat} (hb : (b : Int) < σ 0) : fX5_stepForCode r X (zI (b : Int)) = some (zI (sfc σ b)) := by
  have h0 := hB.1
  have h4 := lu_le (zI (σ (68 + b))) 4 0
  unfold fX5_stepForCode sfc
  rw [X_lu hk (by omega), bnd_some]
  by_cases c : lu (zI (σ (68 + b))) 4 0 = 4
  · rw [c, if_pos (by decide), if_pos rfl, zc300, zadd]
  · rw [if_neg (by rw [zc4, zeq] <;> omega), if_neg c, hr.nc, show zI (σ 2) - 1 = zI (((σ 2).toNat : Int) - 1) by rw [zc1, zsub]; congr 1; omega, zm1]
    exact X_clues_L hr hB (by omega) (by omega) (σ 2).toNat 5000 (-1) (-1) (by omega) (by omega) (by omega) (by omega)
/-- what sf can be -/
theorem sfc_r (hB : RB σ) {b : Nat} (h1 : 1 ≤ b) (hb : (b : Int) < σ 0) : (1 ≤ sfc σ b ∧ sfc σ b < σ 0) ∨ (100 ≤ sfc σ b ∧ sfc σ b ≤ 20000) := by
  have h0 := hB.1
  have h4 := lu_le (zI (σ (68 + b))) 4 0
  unfold sfc
  split
  · omega
  · rename_i c
    unfold sfe
    have q1 := bf_r σ b (lu (zI (σ (68 + b))) 4 0) (σ 2).toNat (-1)
    have q2 := lf_r (cma σ b (lu (zI (σ (68 + b))) 4 0)) (σ 2).toNat (-1)
    split
    · rename_i c2
      split
      · omega
      · rename_i c3
        left
        rcases q2 with q2 | q2
        · have q3 := bf_none σ b _ _ _ c2 (lf (cma σ b (lu (zI (σ (68 + b))) 4 0)) (σ 2).toNat (-1)).toNat (by omega)
          have q4 := q2.2.2
          simp only [cmh, cma, decide_eq_true_eq, decide_eq_false_iff_not] at q3 q4
          have hc := cl hB (c := (lf (cma σ b (lu (zI (σ (68 + b))) 4 0)) (σ 2).toNat (-1)).toNat) (by omega)
          have h5 := cfl_r hB (p := (σ (128 + (lf (cma σ b (lu (zI (σ (68 + b))) 4 0)) (σ 2).toNat (-1)).toNat)).toNat) (by omega)
          have h6 : ¬ cf σ (σ (104 + (σ (128 + (lf (cma σ b (lu (zI (σ (68 + b))) 4 0)) (σ 2).toNat (-1)).toNat)).toNat)).toNat = 0 := fun t => q3 ⟨q4, t⟩
          omega
        · omega
    · omega
theorem sft_r (hB : RB σ) {b : Nat} (h1 : 1 ≤ b) (hb : (b : Int) < σ 0) (hl : σ (32 + b) ≠ 2) : (1 ≤ sft σ b ∧ sft σ b < σ 0) ∨ (100 ≤ sft σ b ∧ sft σ b ≤ 20000) := by
  have h0 := hB.1
  have h := bp hB h1 hb
  have h9 := lhp_b hB
  unfold sft
  split
  · omega
  · rename_i c
    have h3 := h.2.2.1 (by omega)
    have hp : (((σ (44 + b)).toNat : Nat) : Int) < σ 1 := by omega
    have h5 := bo hB h1 hb
    have h6 := cfl_r hB hp
    split
    · omega
    · unfold sth
      split
      · split <;> omega
      · omega
theorem sf_r (hB : RB σ) {b : Nat} (h1 : 1 ≤ b) (hb : (b : Int) < σ 0) : (1 ≤ sf σ b ∧ sf σ b < σ 0) ∨ (100 ≤ sf σ b ∧ sf σ b ≤ 20000) := by
  unfold sf
  split
  · exact sfc_r hB h1 hb
  · rename_i c
    exact sft_r hB h1 hb c
theorem X_step_L (hr : Ro X r σ) (hk : Kn X r σ) (hB : RB σ) : ∀ (f b n l : Nat) (s : Int32), 1 ≤ b → (b : Int) < σ 0 → f + l = 12 → f < n → fX5_stepFor_L7 r n X s (zI (b : Int)) (zI (l : Int)) = some (zI (go σ f s b)) := by
  have h0 := hB.1
  intro f
  induction f with
  | zero =>
    intro b n l s h1 hb hl hn
    obtain ⟨n, rfl⟩ := ex_succ hn
    rw [fX5_stepFor_L7, if_pos (by rw [zc12, zle] <;> omega)]; rfl
  | succ f ih =>
    intro b n l s h1 hb hl hn
    obtain ⟨n, rfl⟩ := ex_succ hn
    rw [fX5_stepFor_L7, if_neg (by rw [zc12, zle] <;> omega), if_neg (by rw [zc0, zle] <;> omega)]
    have e := bt_tst (x := s) (b := b) (by omega)
    unfold go
    by_cases c : bt s b = true
    · rw [if_pos (e.mpr c), if_pos c]; rfl
    · rw [if_neg (fun q => c (e.mp q)), if_neg c, thn_eq]
      have h5 := bo hB h1 hb
      have hob : (((σ (20 + b)).toNat : Nat) : Int) < σ 0 := by omega
      have h6 := oc_lt hB 12 (σ (20 + b)).toNat 0 hob (by omega)
      have e6 : cf σ (σ (20 + b)).toNat = oc σ 12 (σ (20 + b)).toNat 0 := rfl
      rw [hr.outer (by omega), zn_of h5.1, X_cf hr hB hob, bnd_some]
      have fin : ∀ a : Int, ((1 ≤ a ∧ a < σ 0) ∨ (100 ≤ a ∧ a ≤ 20000)) → (if zI a < (100 : Int32) then fX5_stepFor_L7 r n X (s ||| ((1 : Int32) <<< (zI (b : Int) &&& 31))) (zI a) (zI (l : Int) + 1) else some (zI a)) = some (zI (if a < 100 then go σ f (s ||| ((1 : Int32) <<< (zI (b : Int) &&& 31))) a.toNat else a)) := by
        intro a ha
        by_cases q : a < 100
        · rw [if_pos (by rw [zc100, zlt] <;> omega), if_pos q, zsuc]
          have := ih a.toNat n (l + 1) (s ||| ((1 : Int32) <<< (zI (b : Int) &&& 31))) (by omega) (by omega) (by omega) (by omega)
          rw [← zn_of (by omega)] at this
          exact this
        · rw [if_neg (by rw [zc100, zlt] <;> omega), if_neg q]
      by_cases c2 : cf σ (σ (20 + b)).toNat = 0
      · rw [if_pos (by rw [c2]; rfl), zc2, X_hasLock hr hB hb (by omega)]
        simp only [i1_0]
        by_cases c3 : σ (32 + b) = 2
        · rw [if_neg (by omega), X_stepForCode hr hk hB hb, bnd_some]
          have : nx σ b = sfc σ b := by unfold nx sf; rw [if_pos c2, if_pos c3]
          rw [this]
          exact fin _ (sfc_r hB h1 hb)
        · rw [if_pos (by omega), X_stepForThing hr hB h1 hb c3, bnd_some]
          have : nx σ b = sft σ b := by unfold nx sf; rw [if_pos c2, if_neg c3]
          rw [this]
          exact fin _ (sft_r hB h1 hb c3)
      · rw [if_neg (by rw [zc0, zeq] <;> omega)]
        have : nx σ b = (cf σ (σ (20 + b)).toNat : Nat) := by unfold nx; rw [if_neg c2]
        rw [this]
        exact fin _ (by omega)
theorem X_stepFor (hr : Ro X r σ) (hk : Kn X r σ) (hB : RB σ) (h5 : 1 ≤ σ 5) : fX5_stepFor r X (zI (σ 5)) = some (zI (stp σ)) := by
  have h0 := hB.1
  have := X_step_L hr hk hB 12 (σ 5).toNat 5000 0 0 (by omega) (by omega) (by omega) (by omega)
  rw [← zn_of (by omega)] at this
  exact this
end RM
