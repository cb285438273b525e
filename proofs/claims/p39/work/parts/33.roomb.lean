theorem zsuc (i : Nat) : zI (i : Int) + 1 = zI ((i + 1 : Nat) : Int) := by rw [zlit, zadd]; rfl
theorem z_0 (x : Int32) : x + (0 : Int32) = x := Int32.add_zero x
theorem ex_succ {d n : Nat} (h : d < n) : ∃ k, n = k + 1 := ⟨n - 1, by omega⟩
def cnt (P : Nat → Bool) : Nat → Nat
  | 0 => 0
  | n + 1 => cnt P n + if P n = true then 1 else 0
theorem cnt_t {P : Nat → Bool} {i : Nat} (h : P i = true) : cnt P (i + 1) = cnt P i + 1 := by simp [cnt, h]
theorem cnt_f {P : Nat → Bool} {i : Nat} (h : P i = false) : cnt P (i + 1) = cnt P i := by simp [cnt, h]
theorem cnt_le (P : Nat → Bool) (n : Nat) : cnt P n ≤ n := by
  induction n with
  | zero => exact Nat.le_refl _
  | succ n ih => unfold cnt; split <;> omega
def bh (σ : Nat → Int) (b : Nat) : Prop := b = 0 ∨ cf σ (σ (20 + b)).toNat = 0
def ph (σ : Nat → Int) (p : Nat) : Prop := cf σ (σ (104 + p)).toNat = 0
def ch (σ : Nat → Int) (c : Nat) : Prop := ph σ (σ (128 + c)).toNat
def lts (σ : Nat → Int) (b : Nat) : Prop := σ (32 + b) = 0 ∨ σ (32 + b) = 2 ∨ (σ (32 + b) = 1 ∧ σ (104 + (σ (44 + b)).toNat) = -1) ∨ (σ (32 + b) = 3 ∧ σ (104 + (σ (44 + b)).toNat) = σ (20 + b))
noncomputable def i1 (P : Prop) : Int32 := by classical exact if P then 1 else 0
theorem i1_t {P : Prop} (h : P) : i1 P = 1 := by simp [i1, h]
theorem i1_f {P : Prop} (h : ¬ P) : i1 P = 0 := by simp [i1, h]
theorem i1_0 {P : Prop} : (i1 P = 0) = ¬ P := by
  by_cases h : P
  · rw [i1_t h]; simp [h]
  · rw [i1_f h]; simp [h]
theorem i1_1 {P : Prop} : (i1 P = 1) = P := by
  by_cases h : P
  · rw [i1_t h]; simp [h]
  · rw [i1_f h]; simp [h]
theorem i1_if {P : Prop} [Decidable P] : (if P then (1 : Int32) else 0) = i1 P := by
  by_cases h : P
  · rw [i1_t h, if_pos h]
  · rw [i1_f h, if_neg h]
theorem i1_ifn {P : Prop} [Decidable P] : (if P then (0 : Int32) else 1) = i1 (¬ P) := by
  by_cases h : P
  · rw [i1_f (fun q => q h), if_pos h]
  · rw [i1_t h, if_neg h]
theorem so_if {P : Prop} [Decidable P] : (if P then some (1 : Int32) else some 0) = some (i1 P) := by rw [← i1_if]; split <;> rfl
theorem so_ifn {P : Prop} [Decidable P] : (if P then some (0 : Int32) else some 1) = some (i1 (¬ P)) := by rw [← i1_ifn]; split <;> rfl
section RM
variable {X R : Mem} {r : Nat} {σ : Nat → Int}
theorem X_hasBox (hr : Ro X r σ) (hB : RB σ) {a : Int} (h1 : -2147483648 ≤ a) (h2 : a ≤ 2147483647) : fX5_hasBox r X (zI a) = i1 (0 ≤ a ∧ a < σ 0) := by
  have h0 := hB.1
  unfold fX5_hasBox
  simp (disch := omega) only [hr.nb, zlit, zlt, zle]
  by_cases q : a < 0
  · rw [if_pos q, i1_f (by omega)]; rfl
  · rw [if_neg q]
    by_cases q2 : σ 0 ≤ a
    · rw [if_pos q2, i1_f (by omega)]; rfl
    · rw [if_neg q2, i1_t (by omega)]; rfl
theorem X_hasProp (hr : Ro X r σ) (hB : RB σ) {a : Int} (h1 : -2147483648 ≤ a) (h2 : a ≤ 2147483647) : fX5_hasProp r X (zI a) = i1 (0 ≤ a ∧ a < σ 1) := by
  have h0 := hB.1
  unfold fX5_hasProp
  simp (disch := omega) only [hr.np, zlit, zlt, zle]
  by_cases q : a < 0
  · rw [if_pos q, i1_f (by omega)]; rfl
  · rw [if_neg q]
    by_cases q2 : σ 1 ≤ a
    · rw [if_pos q2, i1_f (by omega)]; rfl
    · rw [if_neg q2, i1_t (by omega)]; rfl
theorem X_hasClue (hr : Ro X r σ) (hB : RB σ) {a : Int} (h1 : -2147483648 ≤ a) (h2 : a ≤ 2147483647) : fX5_hasClue r X (zI a) = i1 (0 ≤ a ∧ a < σ 2) := by
  have h0 := hB.1
  unfold fX5_hasClue
  simp (disch := omega) only [hr.nc, zlit, zlt, zle]
  by_cases q : a < 0
  · rw [if_pos q, i1_f (by omega)]; rfl
  · rw [if_neg q]
    by_cases q2 : σ 2 ≤ a
    · rw [if_pos q2, i1_f (by omega)]; rfl
    · rw [if_neg q2, i1_t (by omega)]; rfl
theorem R_in {a b c : Int} (h1 : -2147483648 ≤ a) (h2 : a ≤ 2147483647) (h3 : -2147483648 ≤ b) (h4 : b ≤ 2147483647) (h5 : -2147483648 ≤ c) (h6 : c ≤ 2147483647) : fX8_in R (zI a) (zI b) (zI c) = i1 (b ≤ a ∧ a ≤ c) := by
  unfold fX8_in
  simp (disch := omega) only [zlt]
  by_cases q : a < b
  · rw [if_pos q, i1_f (by omega)]
  · rw [if_neg q]
    by_cases q2 : c < a
    · rw [if_pos q2, i1_f (by omega)]
    · rw [if_neg q2, i1_t (by omega)]
theorem i1_c {P Q : Prop} (h : P ↔ Q) : i1 P = i1 Q := by rw [propext h]
theorem R_noBox (hR : R 1 = enc σ) (hB : RB σ) {a : Int} (h1 : -2147483648 ≤ a) (h2 : a ≤ 2147483647) : fX8_noBox R (zI a) = some (i1 (¬ (0 ≤ a ∧ a < σ 0))) := by
  have h0 := hB.1
  have e : fX8_in R (zI a) (0 : Int32) ((R 1 0) - (1 : Int32)) = i1 (0 ≤ a ∧ a ≤ σ 0 - 1) := by
    rw [rd hR, zlit, zlit, zsub, R_in h1 h2 (by omega) (by omega) (by omega) (by omega)]
  unfold fX8_noBox
  simp only [e, i1_0]
  rw [so_if]
  congr 1
  exact i1_c (by omega)
theorem R_noProp (hR : R 1 = enc σ) (hB : RB σ) {a : Int} (h1 : -2147483648 ≤ a) (h2 : a ≤ 2147483647) : fX8_noProp R (zI a) = some (i1 (¬ (0 ≤ a ∧ a < σ 1))) := by
  have h0 := hB.1
  have e : fX8_in R (zI a) (0 : Int32) ((R 1 1) - (1 : Int32)) = i1 (0 ≤ a ∧ a ≤ σ 1 - 1) := by
    rw [rd hR, zlit, zlit, zsub, R_in h1 h2 (by omega) (by omega) (by omega) (by omega)]
  unfold fX8_noProp
  simp only [e, i1_0]
  rw [so_if]
  congr 1
  exact i1_c (by omega)
theorem R_noClue (hR : R 1 = enc σ) (hB : RB σ) {a : Int} (h1 : -2147483648 ≤ a) (h2 : a ≤ 2147483647) : fX8_noClue R (zI a) = some (i1 (¬ (0 ≤ a ∧ a < σ 2))) := by
  have h0 := hB.1
  have e : fX8_in R (zI a) (0 : Int32) ((R 1 2) - (1 : Int32)) = i1 (0 ≤ a ∧ a ≤ σ 2 - 1) := by
    rw [rd hR, zlit, zlit, zsub, R_in h1 h2 (by omega) (by omega) (by omega) (by omega)]
  unfold fX8_noClue
  simp only [e, i1_0]
  rw [so_if]
  congr 1
  exact i1_c (by omega)
theorem X_isOpen (hr : Ro X r σ) (hB : RB σ) {b : Nat} (hb : b < 12) : fX5_isOpen r X (zI (b : Int)) = i1 (σ (56 + b) = 1) := by
  have h := hB.2.2.2.1.2 b hb
  unfold fX5_isOpen
  rw [hr.opened hb]
  simp (disch := omega) only [zc1, zeq]
  rw [← zc1, i1_if]
theorem R_isOpen' (hR : R 1 = enc σ) (hB : RB σ) {b : Nat} (hb : b < 12) : fX8_isOpen R (zI (b : Int)) = some (i1 (σ (56 + b) = 1)) := by rw [R_isOpen hR hB hb, i1_if]
theorem X_isHeld (hr : Ro X r σ) (hB : RB σ) {p : Nat} (hp : (p : Int) < σ 1) : fX5_isHeld r X (zI (p : Int)) = i1 (σ (104 + p) = -1) := by
  have h0 := hB.1
  have h := (hB.2.2.2.2.2.1 p hp).2
  unfold fX5_isHeld
  rw [hr.lies (by omega), show (-1 : Int32) = zI (-1) from rfl]
  simp (disch := omega) only [zeq]
  rw [i1_if]
theorem R_isHeld (hR : R 1 = enc σ) (hB : RB σ) {p : Nat} (hp : (p : Int) < σ 1) : fX8_isHeld R (zI (p : Int)) = some (i1 (σ (104 + p) = -1)) := by
  have h0 := hB.1
  have h := (hB.2.2.2.2.2.1 p hp).2
  unfold fX8_isHeld
  rw [show (-1 : Int32) = zI (-1) from rfl]
  simp (disch := omega) only [zc104, zadd, zinbT, ztn, tn104, rd hR, zeq, if_true]
  rw [so_if]
theorem X_hasLock (hr : Ro X r σ) (hB : RB σ) {b : Nat} {l : Int} (hb : (b : Int) < σ 0) (hl : 0 ≤ l ∧ l ≤ 3) : fX5_hasLock r X (zI (b : Int)) (zI l) = i1 (1 ≤ b ∧ σ (32 + b) = l) := by
  have h0 := hB.1
  unfold fX5_hasLock
  by_cases q : b = 0
  · subst q
    rw [if_pos (by decide), i1_f (by omega)]
  · rw [if_neg (by rw [zlit, zle] <;> omega), hr.lock (by omega)]
    have h := (hB.2.2.1 b (by omega) hb).1
    simp (disch := omega) only [zeq]
    rw [i1_if]
    exact i1_c (by omega)
theorem X_bh (hr : Ro X r σ) (hB : RB σ) {b : Nat} (hb : (b : Int) < σ 0) : fX5_boxAtHand r X (zI (b : Int)) = some (i1 (bh σ b)) := by
  have h0 := hB.1
  unfold fX5_boxAtHand
  by_cases q : b = 0
  · subst q
    rw [if_pos (by decide), i1_t (show bh σ 0 from Or.inl rfl)]
  · have h2 := hB.2.1 b (by omega) hb
    have h3 := oc_lt hB 12 (σ (20 + b)).toNat 0 (by omega) (by omega)
    rw [if_neg (by rw [zlit, zeq] <;> omega), hr.outer (by omega), zn_of h2.1, X_cf hr hB (by omega), bnd_some]
    have h4 : ((zI ((cf σ (σ (20 + b)).toNat : Nat) : Int)) = 0) = (cf σ (σ (20 + b)).toNat = 0) := by
      rw [zlit, zeq (by omega) (by unfold cf; omega) (by omega) (by omega)]
      apply propext; omega
    simp only [h4]
    rw [so_if]
    congr 1
    exact i1_c (by unfold bh; omega)
theorem cf_z (hB : RB σ) {b : Nat} (hb : (b : Int) < σ 0) : ((zI ((cf σ b : Nat) : Int)) = 0) = (cf σ b = 0) := by
  have h0 := hB.1
  have h3 := oc_lt hB 12 b 0 hb (by omega)
  have h5 : cf σ b = oc σ 12 b 0 := rfl
  rw [zlit, zeq (by omega) (by omega) (by omega) (by omega)]
  apply propext; omega
theorem cf_n (hB : RB σ) {b : Nat} (hb : (b : Int) < σ 0) : ((0 : Int32) ≤ zI (if cf σ b = 0 then -5 else ((cf σ b : Nat) : Int))) = ¬ (cf σ b = 0) := by
  have h0 := hB.1
  have h3 := oc_lt hB 12 b 0 hb (by omega)
  have h5 : cf σ b = oc σ 12 b 0 := rfl
  by_cases q : cf σ b = 0
  · rw [if_pos q]; simp [q]; decide
  · rw [if_neg q, zlit, zle (by omega) (by omega) (by omega) (by omega)]
    simp [q]
theorem R_bh (hR : R 1 = enc σ) (hB : RB σ) {b : Nat} (hb : (b : Int) < σ 0) : fX8_boxAtHand R (zI (b : Int)) = some (i1 (bh σ b)) := by
  have h0 := hB.1
  unfold fX8_boxAtHand fX8_closedAround
  by_cases q : b = 0
  · subst q
    rw [if_pos (by decide), i1_t (show bh σ 0 from Or.inl rfl), bnd_some, if_neg (by decide)]
  · have h2 := hB.2.1 b (by omega) hb
    rw [if_neg (by rw [zlit, zeq] <;> omega)]
    simp (disch := omega) only [zc20, zadd, zinbT, ztn, tn20, rd hR, if_true]
    rw [zn_of h2.1, R_cf hR hB (by omega), bnd_some, bnd_some]
    simp only [cf_n hB (show (((σ (20 + b)).toNat : Nat) : Int) < σ 0 by omega)]
    rw [so_ifn]
    congr 1
    exact i1_c (by unfold bh; omega)
theorem lies_r (hB : RB σ) {p : Nat} (hp : (p : Int) < σ 1) : (((σ (104 + p)).toNat : Nat) : Int) < σ 0 := by
  have h0 := hB.1
  have h := (hB.2.2.2.2.2.1 p hp).2
  omega
theorem X_cfl (hr : Ro X r σ) (hB : RB σ) {p : Nat} (hp : (p : Int) < σ 1) : fX5_outermostClosed r X (atX X (r + 7) 24 (zI (p : Int))) = some (zI (cf σ (σ (104 + p)).toNat : Nat)) := by
  have h0 := hB.1
  have h := (hB.2.2.2.2.2.1 p hp).2
  rw [hr.lies (by omega)]
  by_cases q : σ (104 + p) = -1
  · rw [q, X_cf_held]; rfl
  · rw [zn_of (by omega), X_cf hr hB (lies_r hB hp)]
theorem X_ph (hr : Ro X r σ) (hB : RB σ) {p : Nat} (hp : (p : Int) < σ 1) : fX5_propAtHand r X (zI (p : Int)) = some (i1 (ph σ p)) := by
  unfold fX5_propAtHand
  rw [X_cfl hr hB hp, bnd_some]
  simp only [cf_z hB (lies_r hB hp)]
  rw [so_if]; rfl
theorem X_ch (hr : Ro X r σ) (hB : RB σ) {c : Nat} (hc : (c : Int) < σ 2) : fX5_clueAtHand r X (zI (c : Int)) = some (i1 (ch σ c)) := by
  have h0 := hB.1
  have h := (hB.2.2.2.2.2.2 c hc).1
  unfold fX5_clueAtHand
  rw [hr.cprop (by omega), zn_of h.1, X_cfl hr hB (by omega), bnd_some]
  simp only [cf_z hB (lies_r hB (show (((σ (128 + c)).toNat : Nat) : Int) < σ 1 by omega))]
  rw [so_if]; rfl
theorem R_ph (hR : R 1 = enc σ) (hB : RB σ) {p : Nat} (hp : (p : Int) < σ 1) : fX8_propAtHand R (zI (p : Int)) = some (i1 (ph σ p)) := by
  have h0 := hB.1
  have h := (hB.2.2.2.2.2.1 p hp).2
  unfold fX8_propAtHand
  rw [R_isHeld hR hB hp, bnd_some]
  simp only [i1_0]
  by_cases q : σ (104 + p) = -1
  · rw [if_neg (by omega), i1_t]
    unfold ph; rw [q]; rfl
  · rw [if_pos q]
    simp (disch := omega) only [zc104, zadd, zinbT, ztn, tn104, rd hR, if_true]
    rw [zn_of (by omega), R_cf hR hB (lies_r hB hp), bnd_some]
    simp only [cf_n hB (lies_r hB hp)]
    rw [so_ifn]
    congr 1
    exact i1_c (by unfold ph; omega)
theorem R_ch (hR : R 1 = enc σ) (hB : RB σ) {c : Nat} (hc : (c : Int) < σ 2) : fX8_clueAtHand R (zI (c : Int)) = some (i1 (ch σ c)) := by
  have h0 := hB.1
  have h := (hB.2.2.2.2.2.2 c hc).1
  unfold fX8_clueAtHand
  simp (disch := omega) only [zc128, zadd, zinbT, ztn, tn128, rd hR, if_true]
  rw [zn_of h.1, R_ph hR hB (by omega), bnd_some]; rfl
end RM
