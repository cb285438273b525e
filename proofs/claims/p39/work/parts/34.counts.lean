section CN
variable {X R : Mem} {r : Nat} {σ : Nat → Int}
theorem pr (hB : RB σ) {p : Nat} (hp : (p : Int) < σ 1) : (0 ≤ σ (80 + p) ∧ σ (80 + p) < σ 0) ∧ (-1 ≤ σ (104 + p) ∧ σ (104 + p) < σ 0) := hB.2.2.2.2.2.1 p hp
theorem cl (hB : RB σ) {c : Nat} (hc : (c : Int) < σ 2) : (0 ≤ σ (128 + c) ∧ σ (128 + c) < σ 1) ∧ (1 ≤ σ (140 + c) ∧ σ (140 + c) < σ 0) ∧ σ (32 + (σ (140 + c)).toNat) = 2 ∧ (0 ≤ σ (152 + c) ∧ σ (152 + c) ≤ 3) ∧ (0 ≤ σ (164 + c) ∧ σ (164 + c) ≤ 9) := hB.2.2.2.2.2.2 c hc
theorem X_propsIn_L (hr : Ro X r σ) (hB : RB σ) {v : Int} (hv : -1 ≤ v ∧ v < 12) : ∀ d i n : Nat, ((i : Nat) : Int) + d = σ 1 → d < n → 0 ≤ i → fX5_propsIn_L4 r n X (zI v) (zI (cnt (fun p => decide (σ (104 + p) = v)) i : Nat)) (zI (i : Int)) = some (zI (cnt (fun p => decide (σ (104 + p) = v)) (σ 1).toNat : Nat)) := by
  have h0 := hB.1
  intro d
  induction d with
  | zero =>
    intro i n hi hn hs
    obtain ⟨n, rfl⟩ := ex_succ hn
    rw [fX5_propsIn_L4, if_pos (by rw [hr.np, zle] <;> omega), show i = (σ 1).toNat by omega]
  | succ d ih =>
    intro i n hi hn hs
    obtain ⟨n, rfl⟩ := ex_succ hn
    rw [fX5_propsIn_L4, if_neg (by rw [hr.np, zle] <;> omega), zsuc, zsuc]
    have q := ih (i + 1) n (by omega) (by omega) (by omega)
    have h := pr hB (p := i) (by omega)
    rw [hr.lies (by omega)]
    simp (disch := omega) only [zeq]
    by_cases c : σ (104 + i) = v
    · rw [if_pos c]
      rw [cnt_t (i := i) (by simp only [decide_eq_true_eq]; omega)] at q
      exact q
    · rw [if_neg c]
      rw [cnt_f (i := i) (by simp only [decide_eq_false_iff_not]; omega)] at q
      exact q
theorem X_propsIn (hr : Ro X r σ) (hB : RB σ) {v : Int} (hv : -1 ≤ v ∧ v < 12) : fX5_propsIn r X (zI v) = some (zI (cnt (fun p => decide (σ (104 + p) = v)) (σ 1).toNat : Nat)) := by
  have h0 := hB.1
  have q := X_propsIn_L hr hB hv (σ 1 - 0).toNat 0 5000 (by omega) (by omega) (by omega)
  exact q
theorem R_propsIn_L (hR : R 1 = enc σ) (hB : RB σ) {v : Int} (hv : -1 ≤ v ∧ v < 12) : ∀ d i n : Nat, ((i : Nat) : Int) + d = σ 1 → d < n → 0 ≤ i → fX8_propsIn_L4 n R (zI v) (zI (cnt (fun p => decide (σ (104 + p) = v)) i : Nat)) (zI (i : Int)) = some (zI (cnt (fun p => decide (σ (104 + p) = v)) (σ 1).toNat : Nat)) := by
  have h0 := hB.1
  intro d
  induction d with
  | zero =>
    intro i n hi hn hs
    obtain ⟨n, rfl⟩ := ex_succ hn
    rw [fX8_propsIn_L4, if_pos (by rw [rd hR, zle] <;> omega), show i = (σ 1).toNat by omega]
  | succ d ih =>
    intro i n hi hn hs
    obtain ⟨n, rfl⟩ := ex_succ hn
    rw [fX8_propsIn_L4, if_neg (by rw [rd hR, zle] <;> omega)]
    simp only [zsuc, z_0]
    have q := ih (i + 1) n (by omega) (by omega) (by omega)
    have h := pr hB (p := i) (by omega)
    simp (disch := omega) only [zc104, zadd, zinbT, ztn, tn104, rd hR, if_true, thn_eq, zeq]
    by_cases c : σ (104 + i) = v
    · rw [if_pos c]
      rw [cnt_t (i := i) (by simp only [decide_eq_true_eq]; omega)] at q
      exact q
    · rw [if_neg c]
      rw [cnt_f (i := i) (by simp only [decide_eq_false_iff_not]; omega)] at q
      exact q
theorem R_propsIn (hR : R 1 = enc σ) (hB : RB σ) {v : Int} (hv : -1 ≤ v ∧ v < 12) : fX8_propsIn R (zI v) = some (zI (cnt (fun p => decide (σ (104 + p) = v)) (σ 1).toNat : Nat)) := by
  have h0 := hB.1
  have q := R_propsIn_L hR hB hv (σ 1 - 0).toNat 0 5000 (by omega) (by omega) (by omega)
  exact q
theorem R_held_L (hR : R 1 = enc σ) (hB : RB σ) : ∀ d i n : Nat, ((i : Nat) : Int) + d = σ 1 → d < n → 0 ≤ i → fX8_held_L4 n R (zI (cnt (fun p => decide (σ (104 + p) = -1)) i : Nat)) (zI (i : Int)) = some (zI (cnt (fun p => decide (σ (104 + p) = -1)) (σ 1).toNat : Nat)) := by
  have h0 := hB.1
  intro d
  induction d with
  | zero =>
    intro i n hi hn hs
    obtain ⟨n, rfl⟩ := ex_succ hn
    rw [fX8_held_L4, if_pos (by rw [rd hR, zle] <;> omega), show i = (σ 1).toNat by omega]
  | succ d ih =>
    intro i n hi hn hs
    obtain ⟨n, rfl⟩ := ex_succ hn
    rw [fX8_held_L4, if_neg (by rw [rd hR, zle] <;> omega)]
    simp only [zsuc, z_0]
    have q := ih (i + 1) n (by omega) (by omega) (by omega)
    rw [R_isHeld hR hB (by omega), bnd_some]
    simp only [i1_0]
    by_cases c : ¬ σ (104 + i) = -1
    · rw [if_pos c]
      rw [cnt_f (i := i) (by simp only [decide_eq_false_iff_not]; omega)] at q
      exact q
    · rw [if_neg c]
      rw [cnt_t (i := i) (by simp only [decide_eq_true_eq]; omega)] at q
      exact q
theorem R_held (hR : R 1 = enc σ) (hB : RB σ) : fX8_held R = some (zI (cnt (fun p => decide (σ (104 + p) = -1)) (σ 1).toNat : Nat)) := by
  have h0 := hB.1
  have q := R_held_L hR hB (σ 1 - 0).toNat 0 5000 (by omega) (by omega) (by omega)
  exact q
theorem X_propsAway_L (hr : Ro X r σ) (hB : RB σ) : ∀ d i n : Nat, ((i : Nat) : Int) + d = σ 1 → d < n → 0 ≤ i → fX5_propsAway_L4 r n X (zI (cnt (fun p => decide (σ (104 + p) ≠ σ (80 + p))) i : Nat)) (zI (i : Int)) = some (zI (cnt (fun p => decide (σ (104 + p) ≠ σ (80 + p))) (σ 1).toNat : Nat)) := by
  have h0 := hB.1
  intro d
  induction d with
  | zero =>
    intro i n hi hn hs
    obtain ⟨n, rfl⟩ := ex_succ hn
    rw [fX5_propsAway_L4, if_pos (by rw [hr.np, zle] <;> omega), show i = (σ 1).toNat by omega]
  | succ d ih =>
    intro i n hi hn hs
    obtain ⟨n, rfl⟩ := ex_succ hn
    rw [fX5_propsAway_L4, if_neg (by rw [hr.np, zle] <;> omega), zsuc, zsuc]
    have q := ih (i + 1) n (by omega) (by omega) (by omega)
    have h := pr hB (p := i) (by omega)
    rw [hr.lies (by omega), hr.home (by omega)]
    simp (disch := omega) only [zeq]
    by_cases c : σ (104 + i) = σ (80 + i)
    · rw [if_pos c]
      rw [cnt_f (i := i) (by simp only [decide_eq_false_iff_not]; omega)] at q
      exact q
    · rw [if_neg c]
      rw [cnt_t (i := i) (by simp only [decide_eq_true_eq]; omega)] at q
      exact q
theorem X_propsAway (hr : Ro X r σ) (hB : RB σ) : fX5_propsAway r X = some (zI (cnt (fun p => decide (σ (104 + p) ≠ σ (80 + p))) (σ 1).toNat : Nat)) := by
  have h0 := hB.1
  have q := X_propsAway_L hr hB (σ 1 - 0).toNat 0 5000 (by omega) (by omega) (by omega)
  exact q
theorem R_notAtHome_L (hR : R 1 = enc σ) (hB : RB σ) : ∀ d i n : Nat, ((i : Nat) : Int) + d = σ 1 → d < n → 0 ≤ i → fX8_notAtHome_L4 n R (zI (cnt (fun p => decide (σ (104 + p) ≠ σ (80 + p))) i : Nat)) (zI (i : Int)) = some (zI (cnt (fun p => decide (σ (104 + p) ≠ σ (80 + p))) (σ 1).toNat : Nat)) := by
  have h0 := hB.1
  intro d
  induction d with
  | zero =>
    intro i n hi hn hs
    obtain ⟨n, rfl⟩ := ex_succ hn
    rw [fX8_notAtHome_L4, if_pos (by rw [rd hR, zle] <;> omega), show i = (σ 1).toNat by omega]
  | succ d ih =>
    intro i n hi hn hs
    obtain ⟨n, rfl⟩ := ex_succ hn
    rw [fX8_notAtHome_L4, if_neg (by rw [rd hR, zle] <;> omega)]
    simp only [zsuc, z_0]
    have q := ih (i + 1) n (by omega) (by omega) (by omega)
    have h := pr hB (p := i) (by omega)
    simp (disch := omega) only [zc104, zc80, zadd, zinbT, ztn, tn104, tn80, rd hR, if_true, thn_eq, zeq]
    by_cases c : σ (104 + i) = σ (80 + i)
    · rw [if_pos c]
      rw [cnt_f (i := i) (by simp only [decide_eq_false_iff_not]; omega)] at q
      exact q
    · rw [if_neg c]
      rw [cnt_t (i := i) (by simp only [decide_eq_true_eq]; omega)] at q
      exact q
theorem R_notAtHome (hR : R 1 = enc σ) (hB : RB σ) : fX8_notAtHome R = some (zI (cnt (fun p => decide (σ (104 + p) ≠ σ (80 + p))) (σ 1).toNat : Nat)) := by
  have h0 := hB.1
  have q := R_notAtHome_L hR hB (σ 1 - 0).toNat 0 5000 (by omega) (by omega) (by omega)
  exact q
theorem X_openBoxes_L (hr : Ro X r σ) (hB : RB σ) : ∀ d i n : Nat, ((i : Nat) : Int) + d = σ 0 → d < n → 1 ≤ i → fX5_openBoxes_L4 r n X (zI (cnt (fun b => decide (1 ≤ b ∧ σ (56 + b) = 1)) i : Nat)) (zI (i : Int)) = some (zI (cnt (fun b => decide (1 ≤ b ∧ σ (56 + b) = 1)) (σ 0).toNat : Nat)) := by
  have h0 := hB.1
  intro d
  induction d with
  | zero =>
    intro i n hi hn hs
    obtain ⟨n, rfl⟩ := ex_succ hn
    rw [fX5_openBoxes_L4, if_pos (by rw [hr.nb, zle] <;> omega), show i = (σ 0).toNat by omega]
  | succ d ih =>
    intro i n hi hn hs
    obtain ⟨n, rfl⟩ := ex_succ hn
    rw [fX5_openBoxes_L4, if_neg (by rw [hr.nb, zle] <;> omega), zsuc, zsuc]
    have q := ih (i + 1) n (by omega) (by omega) (by omega)
    rw [X_isOpen hr hB (by omega)]
    simp only [i1_0]
    by_cases c : ¬ σ (56 + i) = 1
    · rw [if_pos c]
      rw [cnt_f (i := i) (by simp only [decide_eq_false_iff_not]; omega)] at q
      exact q
    · rw [if_neg c]
      rw [cnt_t (i := i) (by simp only [decide_eq_true_eq]; omega)] at q
      exact q
theorem X_openBoxes (hr : Ro X r σ) (hB : RB σ) : fX5_openBoxes r X = some (zI (cnt (fun b => decide (1 ≤ b ∧ σ (56 + b) = 1)) (σ 0).toNat : Nat)) := by
  have h0 := hB.1
  have q := X_openBoxes_L hr hB (σ 0 - 1).toNat 1 5000 (by omega) (by omega) (by omega)
  exact q
theorem X_paleClues_L (hr : Ro X r σ) (hB : RB σ) : ∀ d i n : Nat, ((i : Nat) : Int) + d = σ 2 → d < n → 0 ≤ i → fX5_paleClues_L4 r n X (zI (cnt (fun c => decide (σ (164 + c) ≤ 3)) i : Nat)) (zI (i : Int)) = some (zI (cnt (fun c => decide (σ (164 + c) ≤ 3)) (σ 2).toNat : Nat)) := by
  have h0 := hB.1
  intro d
  induction d with
  | zero =>
    intro i n hi hn hs
    obtain ⟨n, rfl⟩ := ex_succ hn
    rw [fX5_paleClues_L4, if_pos (by rw [hr.nc, zle] <;> omega), show i = (σ 2).toNat by omega]
  | succ d ih =>
    intro i n hi hn hs
    obtain ⟨n, rfl⟩ := ex_succ hn
    rw [fX5_paleClues_L4, if_neg (by rw [hr.nc, zle] <;> omega), zsuc, zsuc]
    have q := ih (i + 1) n (by omega) (by omega) (by omega)
    have h := cl hB (c := i) (by omega)
    unfold fX5_isPale
    rw [hr.ink (by omega), i1_ifn]
    simp (disch := omega) only [i1_0, zc3, zlt]
    by_cases c : ¬ ¬ 3 < σ (164 + i)
    · rw [if_pos c]
      rw [cnt_f (i := i) (by simp only [decide_eq_false_iff_not]; omega)] at q
      exact q
    · rw [if_neg c]
      rw [cnt_t (i := i) (by simp only [decide_eq_true_eq]; omega)] at q
      exact q
theorem X_paleClues (hr : Ro X r σ) (hB : RB σ) : fX5_paleClues r X = some (zI (cnt (fun c => decide (σ (164 + c) ≤ 3)) (σ 2).toNat : Nat)) := by
  have h0 := hB.1
  have q := X_paleClues_L hr hB (σ 2 - 0).toNat 0 5000 (by omega) (by omega) (by omega)
  exact q
theorem R_faded_L (hR : R 1 = enc σ) (hB : RB σ) : ∀ d i n : Nat, ((i : Nat) : Int) + d = σ 2 → d < n → 0 ≤ i → fX8_faded_L4 n R (zI (cnt (fun c => decide (σ (164 + c) ≤ 3)) i : Nat)) (zI (i : Int)) = some (zI (cnt (fun c => decide (σ (164 + c) ≤ 3)) (σ 2).toNat : Nat)) := by
  have h0 := hB.1
  intro d
  induction d with
  | zero =>
    intro i n hi hn hs
    obtain ⟨n, rfl⟩ := ex_succ hn
    rw [fX8_faded_L4, if_pos (by rw [rd hR, zle] <;> omega), show i = (σ 2).toNat by omega]
  | succ d ih =>
    intro i n hi hn hs
    obtain ⟨n, rfl⟩ := ex_succ hn
    rw [fX8_faded_L4, if_neg (by rw [rd hR, zle] <;> omega)]
    simp only [zsuc, z_0]
    have q := ih (i + 1) n (by omega) (by omega) (by omega)
    have h := cl hB (c := i) (by omega)
    simp (disch := omega) only [zc164, zc4, zadd, zinbT, ztn, tn164, rd hR, if_true, thn_eq, zlt, zle]
    by_cases c : 4 ≤ σ (164 + i)
    · rw [if_pos c]
      rw [cnt_f (i := i) (by simp only [decide_eq_false_iff_not]; omega)] at q
      exact q
    · rw [if_neg c]
      rw [cnt_t (i := i) (by simp only [decide_eq_true_eq]; omega)] at q
      exact q
theorem R_faded (hR : R 1 = enc σ) (hB : RB σ) : fX8_faded R = some (zI (cnt (fun c => decide (σ (164 + c) ≤ 3)) (σ 2).toNat : Nat)) := by
  have h0 := hB.1
  have q := R_faded_L hR hB (σ 2 - 0).toNat 0 5000 (by omega) (by omega) (by omega)
  exact q
theorem X_cluesOn_L (hr : Ro X r σ) (hB : RB σ) {v : Int} (hv : 0 ≤ v ∧ v < 24) : ∀ d i n : Nat, ((i : Nat) : Int) + d = σ 2 → d < n → 0 ≤ i → fX5_cluesOn_L4 r n X (zI v) (zI (cnt (fun c => decide (σ (128 + c) = v)) i : Nat)) (zI (i : Int)) = some (zI (cnt (fun c => decide (σ (128 + c) = v)) (σ 2).toNat : Nat)) := by
  have h0 := hB.1
  intro d
  induction d with
  | zero =>
    intro i n hi hn hs
    obtain ⟨n, rfl⟩ := ex_succ hn
    rw [fX5_cluesOn_L4, if_pos (by rw [hr.nc, zle] <;> omega), show i = (σ 2).toNat by omega]
  | succ d ih =>
    intro i n hi hn hs
    obtain ⟨n, rfl⟩ := ex_succ hn
    rw [fX5_cluesOn_L4, if_neg (by rw [hr.nc, zle] <;> omega), zsuc, zsuc]
    have q := ih (i + 1) n (by omega) (by omega) (by omega)
    have h := cl hB (c := i) (by omega)
    rw [hr.cprop (by omega)]
    simp (disch := omega) only [zeq]
    by_cases c : σ (128 + i) = v
    · rw [if_pos c]
      rw [cnt_t (i := i) (by simp only [decide_eq_true_eq]; omega)] at q
      exact q
    · rw [if_neg c]
      rw [cnt_f (i := i) (by simp only [decide_eq_false_iff_not]; omega)] at q
      exact q
theorem X_cluesOn (hr : Ro X r σ) (hB : RB σ) {v : Int} (hv : 0 ≤ v ∧ v < 24) : fX5_cluesOn r X (zI v) = some (zI (cnt (fun c => decide (σ (128 + c) = v)) (σ 2).toNat : Nat)) := by
  have h0 := hB.1
  have q := X_cluesOn_L hr hB hv (σ 2 - 0).toNat 0 5000 (by omega) (by omega) (by omega)
  exact q
theorem R_cluesOn_L (hR : R 1 = enc σ) (hB : RB σ) {v : Int} (hv : 0 ≤ v ∧ v < 24) : ∀ d i n : Nat, ((i : Nat) : Int) + d = σ 2 → d < n → 0 ≤ i → fX8_cluesOn_L4 n R (zI v) (zI (cnt (fun c => decide (σ (128 + c) = v)) i : Nat)) (zI (i : Int)) = some (zI (cnt (fun c => decide (σ (128 + c) = v)) (σ 2).toNat : Nat)) := by
  have h0 := hB.1
  intro d
  induction d with
  | zero =>
    intro i n hi hn hs
    obtain ⟨n, rfl⟩ := ex_succ hn
    rw [fX8_cluesOn_L4, if_pos (by rw [rd hR, zle] <;> omega), show i = (σ 2).toNat by omega]
  | succ d ih =>
    intro i n hi hn hs
    obtain ⟨n, rfl⟩ := ex_succ hn
    rw [fX8_cluesOn_L4, if_neg (by rw [rd hR, zle] <;> omega)]
    simp only [zsuc, z_0]
    have q := ih (i + 1) n (by omega) (by omega) (by omega)
    have h := cl hB (c := i) (by omega)
    simp (disch := omega) only [zc128, zadd, zinbT, ztn, tn128, rd hR, if_true, thn_eq, zeq]
    by_cases c : σ (128 + i) = v
    · rw [if_pos c]
      rw [cnt_t (i := i) (by simp only [decide_eq_true_eq]; omega)] at q
      exact q
    · rw [if_neg c]
      rw [cnt_f (i := i) (by simp only [decide_eq_false_iff_not]; omega)] at q
      exact q
theorem R_cluesOn (hR : R 1 = enc σ) (hB : RB σ) {v : Int} (hv : 0 ≤ v ∧ v < 24) : fX8_cluesOn R (zI v) = some (zI (cnt (fun c => decide (σ (128 + c) = v)) (σ 2).toNat : Nat)) := by
  have h0 := hB.1
  have q := R_cluesOn_L hR hB hv (σ 2 - 0).toNat 0 5000 (by omega) (by omega) (by omega)
  exact q
theorem X_boxesIn_L (hr : Ro X r σ) (hB : RB σ) {v : Int} (hv : 0 ≤ v ∧ v < 12) : ∀ d i n : Nat, ((i : Nat) : Int) + d = σ 0 → d < n → 1 ≤ i → fX5_boxesIn_L4 r n X (zI v) (zI (cnt (fun b => decide (1 ≤ b ∧ σ (20 + b) = v)) i : Nat)) (zI (i : Int)) = some (zI (cnt (fun b => decide (1 ≤ b ∧ σ (20 + b) = v)) (σ 0).toNat : Nat)) := by
  have h0 := hB.1
  intro d
  induction d with
  | zero =>
    intro i n hi hn hs
    obtain ⟨n, rfl⟩ := ex_succ hn
    rw [fX5_boxesIn_L4, if_pos (by rw [hr.nb, zle] <;> omega), show i = (σ 0).toNat by omega]
  | succ d ih =>
    intro i n hi hn hs
    obtain ⟨n, rfl⟩ := ex_succ hn
    rw [fX5_boxesIn_L4, if_neg (by rw [hr.nb, zle] <;> omega), zsuc, zsuc]
    have q := ih (i + 1) n (by omega) (by omega) (by omega)
    have h := hB.2.1 i (by omega) (by omega)
    rw [hr.outer (by omega)]
    simp (disch := omega) only [zeq]
    by_cases c : σ (20 + i) = v
    · rw [if_pos c]
      rw [cnt_t (i := i) (by simp only [decide_eq_true_eq]; omega)] at q
      exact q
    · rw [if_neg c]
      rw [cnt_f (i := i) (by simp only [decide_eq_false_iff_not]; omega)] at q
      exact q
theorem X_boxesIn (hr : Ro X r σ) (hB : RB σ) {v : Int} (hv : 0 ≤ v ∧ v < 12) : fX5_boxesIn r X (zI v) = some (zI (cnt (fun b => decide (1 ≤ b ∧ σ (20 + b) = v)) (σ 0).toNat : Nat)) := by
  have h0 := hB.1
  have q := X_boxesIn_L hr hB hv (σ 0 - 1).toNat 1 5000 (by omega) (by omega) (by omega)
  exact q
theorem R_boxesIn_L (hR : R 1 = enc σ) (hB : RB σ) {v : Int} (hv : 0 ≤ v ∧ v < 12) : ∀ d i n : Nat, ((i : Nat) : Int) + d = σ 0 → d < n → 1 ≤ i → fX8_boxesIn_L4 n R (zI v) (zI (cnt (fun b => decide (1 ≤ b ∧ σ (20 + b) = v)) i : Nat)) (zI (i : Int)) = some (zI (cnt (fun b => decide (1 ≤ b ∧ σ (20 + b) = v)) (σ 0).toNat : Nat)) := by
  have h0 := hB.1
  intro d
  induction d with
  | zero =>
    intro i n hi hn hs
    obtain ⟨n, rfl⟩ := ex_succ hn
    rw [fX8_boxesIn_L4, if_pos (by rw [rd hR, zle] <;> omega), show i = (σ 0).toNat by omega]
  | succ d ih =>
    intro i n hi hn hs
    obtain ⟨n, rfl⟩ := ex_succ hn
    rw [fX8_boxesIn_L4, if_neg (by rw [rd hR, zle] <;> omega)]
    simp only [zsuc, z_0]
    have q := ih (i + 1) n (by omega) (by omega) (by omega)
    have h := hB.2.1 i (by omega) (by omega)
    simp (disch := omega) only [zc20, zadd, zinbT, ztn, tn20, rd hR, if_true, thn_eq, zeq]
    by_cases c : σ (20 + i) = v
    · rw [if_pos c]
      rw [cnt_t (i := i) (by simp only [decide_eq_true_eq]; omega)] at q
      exact q
    · rw [if_neg c]
      rw [cnt_f (i := i) (by simp only [decide_eq_false_iff_not]; omega)] at q
      exact q
theorem R_boxesIn (hR : R 1 = enc σ) (hB : RB σ) {v : Int} (hv : 0 ≤ v ∧ v < 12) : fX8_boxesIn R (zI v) = some (zI (cnt (fun b => decide (1 ≤ b ∧ σ (20 + b) = v)) (σ 0).toNat : Nat)) := by
  have h0 := hB.1
  have q := R_boxesIn_L hR hB hv (σ 0 - 1).toNat 1 5000 (by omega) (by omega) (by omega)
  exact q
end CN
