section RM
variable {X R : Mem} {r : Nat} {σ : Nat → Int}
theorem bp (hB : RB σ) {b : Nat} (h1 : 1 ≤ b) (hb : (b : Int) < σ 0) : (0 ≤ σ (32 + b) ∧ σ (32 + b) ≤ 3) ∧ (σ (32 + b) = 0 → σ (44 + b) = -5) ∧ (σ (32 + b) = 1 ∨ σ (32 + b) = 3 → 0 ≤ σ (44 + b) ∧ σ (44 + b) < σ 1) ∧ (σ (32 + b) = 2 → 0 ≤ σ (44 + b) ∧ σ (44 + b) ≤ 9999) := hB.2.2.1 b h1 hb
theorem bo (hB : RB σ) {b : Nat} (h1 : 1 ≤ b) (hb : (b : Int) < σ 0) : 0 ≤ σ (20 + b) ∧ σ (20 + b) < b := hB.2.1 b h1 hb
theorem bop (hB : RB σ) {b : Nat} (hb : b < 12) : σ (56 + b) = 0 ∨ σ (56 + b) = 1 := hB.2.2.2.1.2 b hb
theorem X_heldProps (hr : Ro X r σ) (hB : RB σ) : fX5_heldProps r X = some (zI (cnt (fun p => decide (σ (104 + p) = -1)) (σ 1).toNat : Nat)) := by
  unfold fX5_heldProps
  rw [show (-1 : Int32) = zI (-1) from rfl, X_propsIn hr hB (by omega), bnd_some]
theorem R_openOnes_L (hR : R 1 = enc σ) (hB : RB σ) : ∀ d i n : Nat, ((i : Nat) : Int) + d = σ 0 → d < n → 1 ≤ i → fX8_openOnes_L4 n R (zI (cnt (fun b => decide (1 ≤ b ∧ σ (56 + b) = 1)) i : Nat)) (zI (i : Int)) = some (zI (cnt (fun b => decide (1 ≤ b ∧ σ (56 + b) = 1)) (σ 0).toNat : Nat)) := by
  have h0 := hB.1
  intro d
  induction d with
  | zero =>
    intro i n hi hn hs
    obtain ⟨n, rfl⟩ := ex_succ hn
    rw [fX8_openOnes_L4, if_pos (by rw [rd hR, zle] <;> omega), show i = (σ 0).toNat by omega]
  | succ d ih =>
    intro i n hi hn hs
    obtain ⟨n, rfl⟩ := ex_succ hn
    rw [fX8_openOnes_L4, if_neg (by rw [rd hR, zle] <;> omega)]
    have h := bop hB (b := i) (by omega)
    simp (disch := omega) only [zc56, zadd, zinbT, ztn, tn56, rd hR, if_true, thn_eq, zsuc]
    have q := ih (i + 1) n (by omega) (by omega) (by omega)
    rcases h with h | h
    · rw [cnt_f (i := i) (by simp only [decide_eq_false_iff_not]; omega)] at q
      rw [h, Int.add_zero]
      exact q
    · rw [cnt_t (i := i) (by simp only [decide_eq_true_eq]; omega)] at q
      rw [h]
      exact q
theorem R_openOnes (hR : R 1 = enc σ) (hB : RB σ) : fX8_openOnes R = some (zI (cnt (fun b => decide (1 ≤ b ∧ σ (56 + b) = 1)) (σ 0).toNat : Nat)) := by
  have h0 := hB.1
  exact R_openOnes_L hR hB (σ 0 - 1).toNat 1 5000 (by omega) (by omega) (by omega)
/-- locks that have v as their key or on their plate -/
theorem X_locksWith_L (hr : Ro X r σ) (hB : RB σ) {v : Int} (hv : 0 ≤ v ∧ v < 24) : ∀ d i n : Nat, ((i : Nat) : Int) + d = σ 0 → d < n → 1 ≤ i → fX5_locksWith_L4 r n X (zI v) (zI (cnt (fun b => decide (1 ≤ b ∧ (σ (32 + b) = 1 ∨ σ (32 + b) = 3) ∧ σ (44 + b) = v)) i : Nat)) (zI (i : Int)) = some (zI (cnt (fun b => decide (1 ≤ b ∧ (σ (32 + b) = 1 ∨ σ (32 + b) = 3) ∧ σ (44 + b) = v)) (σ 0).toNat : Nat)) := by
  have h0 := hB.1
  intro d
  induction d with
  | zero =>
    intro i n hi hn hs
    obtain ⟨n, rfl⟩ := ex_succ hn
    rw [fX5_locksWith_L4, if_pos (by rw [hr.nb, zle] <;> omega), show i = (σ 0).toNat by omega]
  | succ d ih =>
    intro i n hi hn hs
    obtain ⟨n, rfl⟩ := ex_succ hn
    rw [fX5_locksWith_L4, if_neg (by rw [hr.nb, zle] <;> omega)]
    have h := bp hB (b := i) (by omega) (by omega)
    rw [zc1, zc3, X_hasLock hr hB (by omega) (by omega), X_hasLock hr hB (by omega) (by omega)]
    simp only [i1_0, ← zc1, zsuc]
    have q := ih (i + 1) n (by omega) (by omega) (by omega)
    by_cases c1 : σ (32 + i) = 1 ∨ σ (32 + i) = 3
    · have h3 := h.2.2.1 c1
      rw [hr.item (by omega) (by omega)]
      simp (disch := omega) only [zeq]
      by_cases c2 : σ (44 + i) = v
      · rw [cnt_t (i := i) (by simp only [decide_eq_true_eq]; omega)] at q
        simp only [c2, if_true]
        split
        · rw [if_neg (by omega)]; exact q
        · exact q
      · rw [cnt_f (i := i) (by simp only [decide_eq_false_iff_not]; omega)] at q
        simp only [c2, if_false]
        split
        · rw [if_neg (by omega)]; exact q
        · exact q
    · rw [cnt_f (i := i) (by simp only [decide_eq_false_iff_not]; omega)] at q
      rw [if_pos (by omega), if_pos (by omega)]
      exact q
theorem X_locksWith (hr : Ro X r σ) (hB : RB σ) {v : Int} (hv : 0 ≤ v ∧ v < 24) : fX5_locksWith r X (zI v) = some (zI (cnt (fun b => decide (1 ≤ b ∧ (σ (32 + b) = 1 ∨ σ (32 + b) = 3) ∧ σ (44 + b) = v)) (σ 0).toNat : Nat)) := by
  have h0 := hB.1
  exact X_locksWith_L hr hB hv (σ 0 - 1).toNat 1 5000 (by omega) (by omega) (by omega)
theorem R_locksWith_L (hR : R 1 = enc σ) (hB : RB σ) {v : Int} (hv : 0 ≤ v ∧ v < 24) : ∀ d i n : Nat, ((i : Nat) : Int) + d = σ 0 → d < n → 1 ≤ i → fX8_locksWith_L4 n R (zI v) (zI (cnt (fun b => decide (1 ≤ b ∧ (σ (32 + b) = 1 ∨ σ (32 + b) = 3) ∧ σ (44 + b) = v)) i : Nat)) (zI (i : Int)) = some (zI (cnt (fun b => decide (1 ≤ b ∧ (σ (32 + b) = 1 ∨ σ (32 + b) = 3) ∧ σ (44 + b) = v)) (σ 0).toNat : Nat)) := by
  have h0 := hB.1
  intro d
  induction d with
  | zero =>
    intro i n hi hn hs
    obtain ⟨n, rfl⟩ := ex_succ hn
    rw [fX8_locksWith_L4, if_pos (by rw [rd hR, zle] <;> omega), show i = (σ 0).toNat by omega]
  | succ d ih =>
    intro i n hi hn hs
    obtain ⟨n, rfl⟩ := ex_succ hn
    rw [fX8_locksWith_L4, if_neg (by rw [rd hR, zle] <;> omega)]
    have h := bp hB (b := i) (by omega) (by omega)
    simp only [zsuc, z_0]
    have q := ih (i + 1) n (by omega) (by omega) (by omega)
    simp (disch := omega) only [zc32, zc44, zc1, zc2, zadd, zinbT, ztn, tn32, tn44, rd hR, if_true, zeq, zle]
    by_cases c1 : σ (32 + i) = 1 ∨ σ (32 + i) = 3
    · have h3 := h.2.2.1 c1
      by_cases c2 : σ (44 + i) = v
      · rw [cnt_t (i := i) (by simp only [decide_eq_true_eq]; omega)] at q
        simp only [c2, if_true]
        split
        · exact q
        · rw [if_neg (by omega)]; exact q
      · rw [cnt_f (i := i) (by simp only [decide_eq_false_iff_not]; omega)] at q
        simp only [c2, if_false]
        split
        · exact q
        · rw [if_neg (by omega)]; exact q
    · rw [cnt_f (i := i) (by simp only [decide_eq_false_iff_not]; omega)] at q
      rw [if_neg (by omega), if_pos (by omega)]
      exact q
theorem R_locksWith (hR : R 1 = enc σ) (hB : RB σ) {v : Int} (hv : 0 ≤ v ∧ v < 24) : fX8_locksWith R (zI v) = some (zI (cnt (fun b => decide (1 ≤ b ∧ (σ (32 + b) = 1 ∨ σ (32 + b) = 3) ∧ σ (44 + b) = v)) (σ 0).toNat : Nat)) := by
  have h0 := hB.1
  exact R_locksWith_L hR hB hv (σ 0 - 1).toNat 1 5000 (by omega) (by omega) (by omega)
/-- whether a lock lets -/
theorem R_lets (hR : R 1 = enc σ) (hB : RB σ) {b : Nat} (h1 : 1 ≤ b) (hb : (b : Int) < σ 0) : fX8_lets R (zI (b : Int)) = some (i1 (lts σ b)) := by
  have h0 := hB.1
  have h := bp hB h1 hb
  unfold fX8_lets
  simp (disch := omega) only [zc32, zc44, zadd, zinbT, ztn, tn32, tn44, rd hR, if_true, thn_eq]
  unfold lts
  by_cases c0 : σ (32 + b) = 0
  · rw [if_pos (by rw [c0]; rfl), i1_t (Or.inl c0)]
  · rw [if_neg (by rw [zc0, zeq] <;> omega)]
    by_cases c2 : σ (32 + b) = 2
    · rw [if_pos (by rw [c2]; rfl), i1_t (Or.inr (Or.inl c2))]
    · rw [if_neg (by rw [zc2, zeq] <;> omega)]
      have h3 := h.2.2.1 (by omega)
      have hp : (((σ (44 + b)).toNat : Nat) : Int) < σ 1 := by omega
      have h4 := pr hB hp
      have h5 := bo hB h1 hb
      rw [zn_of h3.1]
      by_cases c1 : σ (32 + b) = 1
      · rw [if_pos (by rw [c1]; rfl), R_isHeld hR hB hp, bnd_some]
        simp only [i1_0]
        by_cases c : σ (104 + (σ (44 + b)).toNat) = -1
        · rw [if_neg (by omega), i1_t (by omega)]
        · rw [if_pos c, i1_f (by omega)]
      · rw [if_neg (by rw [zc1, zeq] <;> omega)]
        simp (disch := omega) only [zc104, zc20, zadd, zinbT, ztn, tn104, tn20, rd hR, if_true, zeq]
        rw [so_if]
        congr 1
        exact i1_c (by omega)
theorem X_canBeOpened (hr : Ro X r σ) (hB : RB σ) {b : Nat} (hb : (b : Int) < σ 0) : fX5_canBeOpened r X (zI (b : Int)) = some (i1 (σ (56 + b) ≠ 1 ∧ bh σ b ∧ lts σ b)) := by
  have h0 := hB.1
  unfold fX5_canBeOpened
  rw [X_isOpen hr hB (by omega)]
  simp only [i1_0]
  by_cases c : σ (56 + b) = 1
  · rw [if_neg (by omega), i1_f (by omega)]
  · have h1 : 1 ≤ b := by
      apply Nat.pos_of_ne_zero
      intro q
      subst q
      exact c hB.2.2.2.1.1
    have h := bp hB h1 hb
    rw [if_pos c, X_bh hr hB hb, bnd_some]
    by_cases c2 : bh σ b
    · rw [i1_t c2, if_neg (by decide), zc1, zc3, X_hasLock hr hB hb (by omega), X_hasLock hr hB hb (by omega)]
      simp only [i1_0]
      have e : (σ (56 + b) ≠ 1 ∧ bh σ b ∧ lts σ b) = lts σ b := by
        apply propext
        exact ⟨fun q => q.2.2, fun q => ⟨c, c2, q⟩⟩
      rw [e]
      unfold lts
      by_cases c3 : σ (32 + b) = 1 ∨ σ (32 + b) = 3
      · have h3 := h.2.2.1 c3
        have hp : (((σ (44 + b)).toNat : Nat) : Int) < σ 1 := by omega
        have h4 := pr hB hp
        have h5 := bo hB h1 hb
        rw [hr.item (by omega) (by omega), zn_of h3.1, X_isHeld hr hB hp, hr.lies (by omega), hr.outer (by omega)]
        simp (disch := omega) only [zeq]
        by_cases c4 : σ (32 + b) = 1
        · rw [if_neg (by omega)]
          by_cases c5 : σ (104 + (σ (44 + b)).toNat) = -1
          · rw [i1_t c5, i1_t (by omega)]
          · rw [i1_f c5, i1_f (by omega)]
        · rw [if_pos (by omega), if_neg (by omega)]
          by_cases c5 : σ (104 + (σ (44 + b)).toNat) = σ (20 + b)
          · rw [if_pos c5, i1_t (by omega)]; rfl
          · rw [if_neg c5, i1_f (by omega)]
      · rw [if_pos (by omega), if_pos (by omega), i1_t (by omega)]; rfl
    · rw [i1_f c2, if_pos rfl, i1_f (fun q => c2 q.2.1)]
end RM
