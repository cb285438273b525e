/-! the places of the reference's row in a room of the class (base r), and in a state (base t) -/
def ro (j : Nat) : Bool := j == 0 || j == 1 || j == 2 || j == 5 || j == 11 || (decide (20 ≤ j) && decide (j < 44)) || (decide (56 ≤ j) && decide (j < 68)) || (decide (80 ≤ j) && decide (j < 176))
def rk (j : Nat) : Nat := if j < 20 then 0 else if j < 32 then 1 else if j < 44 then 2 else if j < 68 then 4 else if j < 104 then 6 else if j < 128 then 7 else if j < 140 then 8 else if j < 152 then 9 else if j < 164 then 10 else 11
def ri (j : Nat) : Nat := if j = 0 then 0 else if j = 1 then 6 else if j = 2 then 9 else if j = 5 then 14 else if j < 20 then 15 else if j < 32 then j - 20 else if j < 44 then j - 32 else if j < 68 then j - 56 else if j < 104 then j - 80 else if j < 128 then j - 104 else if j < 140 then j - 128 else if j < 152 then j - 140 else if j < 164 then j - 152 else j - 164
def ru (k i : Nat) : Nat := match k with
  | 0 => if i = 0 then 0 else if i = 6 then 1 else if i = 9 then 2 else if i = 14 then 5 else 11
  | 1 => i + 20
  | 2 => i + 32
  | 4 => i + 56
  | 6 => i + 80
  | 7 => i + 104
  | 8 => i + 128
  | 9 => i + 140
  | 10 => i + 152
  | _ => i + 164
theorem ru_ok : ∀ j, j < 176 → ro j = true → ru (rk j) (ri j) = j := by decide +kernel
theorem ro_lt {j : Nat} (h : ro j = true) : j < 176 := by
  simp [ro] at h
  omega
theorem rk_ok : ∀ j, j < 176 → ro j = true → rk j < 12 ∧ rk j ≠ 3 ∧ rk j ≠ 5 := by decide +kernel
theorem ro_inj {i j : Nat} (hi : ro i = true) (hj : ro j = true) (h1 : rk i = rk j) (h2 : ri i = ri j) : i = j := by
  rw [← ru_ok i (ro_lt hi) hi, ← ru_ok j (ro_lt hj) hj, h1, h2]
def Ro (X : Mem) (r : Nat) (σ : Nat → Int) : Prop :=
  (∀ j, ro j = true → X (r + rk j) (ri j) = zI (σ j)) ∧ ∀ b, b < 12 → σ (32 + b) ≠ 0 → X (r + 3) b = zI (σ (44 + b))
def Kn (X : Mem) (r : Nat) (σ : Nat → Int) : Prop := ∀ b, b < 12 → X (r + 5) b = zI (σ (68 + b))
theorem Ro.wr {X : Mem} {r : Nat} {σ : Nat → Int} (h : Ro X r σ) {j : Nat} (hj : ro j = true) (hl : j < 32 ∨ 44 ≤ j) (v : Int) : Ro (wr X (r + rk j) (ri j) (zI v)) r (us σ j v) := by
  have h0 := rk_ok j (ro_lt hj) hj
  refine ⟨fun i hi => ?_, fun b hb hn => ?_⟩
  · by_cases hij : i = j
    · subst hij; rw [wr_at, us_at]
    · rw [us_ne σ v hij, ← h.1 i hi]
      by_cases hk : rk i = rk j
      · rw [hk, wr_i]
        intro q
        exact hij (ro_inj hi hj hk q)
      · rw [wr_k]
        omega
  · have hne : 32 + b ≠ j := by omega
    have hj2 : 44 + b ≠ j := by
      intro q
      subst q
      simp [ro] at hj
      omega
    rw [us_ne σ v hne] at hn
    rw [us_ne σ v hj2, wr_k _ _ _ (by omega)]
    exact h.2 b hb hn
/-- other cells of the class -/
theorem Ro.frame {X X' : Mem} {r : Nat} {σ σ' : Nat → Int} (h : Ro X r σ) (hX : ∀ k, k < 12 → k ≠ 5 → X' (r + k) = X (r + k)) (hs : ∀ j, j < 176 → (j < 3 ∨ j = 5 ∨ j = 11 ∨ (20 ≤ j ∧ j < 68) ∨ 80 ≤ j) → σ' j = σ j) : Ro X' r σ' := by
  refine ⟨fun i hi => ?_, fun b hb hn => ?_⟩
  · have h0 := rk_ok i (ro_lt hi) hi
    rw [hX _ h0.1 h0.2.2, h.1 i hi, hs i (ro_lt hi)]
    simp [ro] at hi
    omega
  · rw [hs (32 + b) (by omega) (by omega)] at hn
    rw [hX 3 (by omega) (by omega), h.2 b hb hn, hs (44 + b) (by omega) (by omega)]
section RR
variable {X : Mem} {r : Nat} {σ : Nat → Int}
theorem Ro.nb (h : Ro X r σ) : X r 0 = zI (σ 0) := h.1 0 rfl
theorem Ro.np (h : Ro X r σ) : X r 6 = zI (σ 1) := h.1 1 rfl
theorem Ro.nc (h : Ro X r σ) : X r 9 = zI (σ 2) := h.1 2 rfl
theorem Ro.ex (h : Ro X r σ) : X r 14 = zI (σ 5) := h.1 5 rfl
theorem Ro.ha (h : Ro X r σ) : X r 15 = zI (σ 11) := h.1 11 rfl
theorem row_at {k n c : Nat} {b : Nat} (hX : ∀ b, b < n → X k b = zI (σ (c + b))) (hb : b < n) (hn : n < 100000) : atX X k n (zI (b : Int)) = zI (σ (c + b)) := by
  have h := zinb (a := (b : Int)) (n := n) (by omega) (by omega)
  unfold atX
  rw [if_pos (by rw [h]; omega), ztn (by omega) (by omega), Int.toNat_natCast]
  exact hX b hb
theorem at_out {k n : Nat} {a : Int} (h1 : -2147483648 ≤ a) (h2 : a ≤ 2147483647) (ha : a < 0 ∨ n ≤ a) : atX X k n (zI a) = 0 := by
  unfold atX
  rw [if_neg]
  rw [zinb h1 h2]
  omega
theorem loc_20 : ∀ b, b < 12 → ro (20 + b) = true ∧ rk (20 + b) = 1 ∧ ri (20 + b) = b := by decide
theorem loc_32 : ∀ b, b < 12 → ro (32 + b) = true ∧ rk (32 + b) = 2 ∧ ri (32 + b) = b := by decide
theorem loc_56 : ∀ b, b < 12 → ro (56 + b) = true ∧ rk (56 + b) = 4 ∧ ri (56 + b) = b := by decide
theorem loc_80 : ∀ b, b < 24 → ro (80 + b) = true ∧ rk (80 + b) = 6 ∧ ri (80 + b) = b := by decide
theorem loc_104 : ∀ b, b < 24 → ro (104 + b) = true ∧ rk (104 + b) = 7 ∧ ri (104 + b) = b := by decide
theorem loc_128 : ∀ b, b < 12 → ro (128 + b) = true ∧ rk (128 + b) = 8 ∧ ri (128 + b) = b := by decide
theorem loc_140 : ∀ b, b < 12 → ro (140 + b) = true ∧ rk (140 + b) = 9 ∧ ri (140 + b) = b := by decide
theorem loc_152 : ∀ b, b < 12 → ro (152 + b) = true ∧ rk (152 + b) = 10 ∧ ri (152 + b) = b := by decide
theorem loc_164 : ∀ b, b < 12 → ro (164 + b) = true ∧ rk (164 + b) = 11 ∧ ri (164 + b) = b := by decide
theorem Ro.of {c k i : Nat} (h : Ro X r σ) (hl : ro (c + i) = true ∧ rk (c + i) = k ∧ ri (c + i) = i) : X (r + k) i = zI (σ (c + i)) := by
  have := h.1 (c + i) hl.1
  rw [hl.2.1, hl.2.2] at this
  exact this
theorem Ro.outer (h : Ro X r σ) {b : Nat} (hb : b < 12) : atX X (r + 1) 12 (zI (b : Int)) = zI (σ (20 + b)) := row_at (fun b hb => h.of (loc_20 b hb)) hb (by omega)
theorem Ro.lock (h : Ro X r σ) {b : Nat} (hb : b < 12) : atX X (r + 2) 12 (zI (b : Int)) = zI (σ (32 + b)) := row_at (fun b hb => h.of (loc_32 b hb)) hb (by omega)
theorem Ro.item (h : Ro X r σ) {b : Nat} (hb : b < 12) (hl : σ (32 + b) ≠ 0) : atX X (r + 3) 12 (zI (b : Int)) = zI (σ (44 + b)) := by
  have q := zinb (a := (b : Int)) (n := 12) (by omega) (by omega)
  unfold atX
  rw [if_pos (by rw [q]; omega), ztn (by omega) (by omega), Int.toNat_natCast]
  exact h.2 b hb hl
theorem Ro.opened (h : Ro X r σ) {b : Nat} (hb : b < 12) : atX X (r + 4) 12 (zI (b : Int)) = zI (σ (56 + b)) := row_at (fun b hb => h.of (loc_56 b hb)) hb (by omega)
theorem Ro.home (h : Ro X r σ) {b : Nat} (hb : b < 24) : atX X (r + 6) 24 (zI (b : Int)) = zI (σ (80 + b)) := row_at (fun b hb => h.of (loc_80 b hb)) hb (by omega)
theorem Ro.lies (h : Ro X r σ) {b : Nat} (hb : b < 24) : atX X (r + 7) 24 (zI (b : Int)) = zI (σ (104 + b)) := row_at (fun b hb => h.of (loc_104 b hb)) hb (by omega)
theorem Ro.cprop (h : Ro X r σ) {b : Nat} (hb : b < 12) : atX X (r + 8) 12 (zI (b : Int)) = zI (σ (128 + b)) := row_at (fun b hb => h.of (loc_128 b hb)) hb (by omega)
theorem Ro.cbox (h : Ro X r σ) {b : Nat} (hb : b < 12) : atX X (r + 9) 12 (zI (b : Int)) = zI (σ (140 + b)) := row_at (fun b hb => h.of (loc_140 b hb)) hb (by omega)
theorem Ro.cplace (h : Ro X r σ) {b : Nat} (hb : b < 12) : atX X (r + 10) 12 (zI (b : Int)) = zI (σ (152 + b)) := row_at (fun b hb => h.of (loc_152 b hb)) hb (by omega)
theorem Ro.ink (h : Ro X r σ) {b : Nat} (hb : b < 12) : atX X (r + 11) 12 (zI (b : Int)) = zI (σ (164 + b)) := row_at (fun b hb => h.of (loc_164 b hb)) hb (by omega)
theorem Kn.at (h : Kn X r σ) {b : Nat} (hb : b < 12) : atX X (r + 5) 12 (zI (b : Int)) = zI (σ (68 + b)) := row_at h hb (by omega)
theorem put_in {k n : Nat} {b : Nat} (hb : b < n) (hn : n < 100000) (v : Int32) : putX X k n (zI (b : Int)) v = wr X k b v := by
  have q := zinb (a := (b : Int)) (n := n) (by omega) (by omega)
  unfold putX
  rw [if_pos (by rw [q]; omega), ztn (by omega) (by omega), Int.toNat_natCast]
theorem Ro.put {c k n i : Nat} (h : Ro X r σ) (hl : ro (c + i) = true ∧ rk (c + i) = k ∧ ri (c + i) = i) (hn : i < n) (hn2 : n < 100000) (h4 : c + i < 32 ∨ 44 ≤ c + i) (v : Int) : Ro (putX X (r + k) n (zI (i : Int)) (zI v)) r (us σ (c + i) v) := by
  rw [put_in hn hn2]
  have := h.wr hl.1 h4 v
  rw [hl.2.1, hl.2.2] at this
  exact this
end RR
/-- the reference's row, read and written at a place that is computed -/
theorem rd {R : Mem} {σ : Nat → Int} (hR : R 1 = enc σ) (j : Nat) : R 1 j = zI (σ j) := by rw [hR]; rfl
theorem wrR {R : Mem} {σ : Nat → Int} (hR : R 1 = enc σ) (j : Nat) (v : Int) : wr R 1 j (zI v) 1 = enc (us σ j v) := by
  unfold wr
  rw [setR_at, hR, enc_us]
/-- what a room is, in numbers -/
def RB (σ : Nat → Int) : Prop :=
  ((1 ≤ σ 0 ∧ σ 0 ≤ 12) ∧ (0 ≤ σ 1 ∧ σ 1 ≤ 24) ∧ (0 ≤ σ 2 ∧ σ 2 ≤ 12) ∧ (0 ≤ σ 5 ∧ σ 5 < σ 0) ∧ (0 ≤ σ 11 ∧ σ 11 ≤ 6)) ∧
  (∀ b : Nat, 1 ≤ b → (b : Int) < σ 0 → 0 ≤ σ (20 + b) ∧ σ (20 + b) < b) ∧
  (∀ b : Nat, 1 ≤ b → (b : Int) < σ 0 → (0 ≤ σ (32 + b) ∧ σ (32 + b) ≤ 3) ∧ (σ (32 + b) = 0 → σ (44 + b) = -5) ∧ (σ (32 + b) = 1 ∨ σ (32 + b) = 3 → 0 ≤ σ (44 + b) ∧ σ (44 + b) < σ 1) ∧ (σ (32 + b) = 2 → 0 ≤ σ (44 + b) ∧ σ (44 + b) ≤ 9999)) ∧
  (σ 56 = 1 ∧ ∀ b : Nat, b < 12 → σ (56 + b) = 0 ∨ σ (56 + b) = 1) ∧
  True ∧
  (∀ p : Nat, (p : Int) < σ 1 → (0 ≤ σ (80 + p) ∧ σ (80 + p) < σ 0) ∧ (-1 ≤ σ (104 + p) ∧ σ (104 + p) < σ 0)) ∧
  (∀ c : Nat, (c : Int) < σ 2 → (0 ≤ σ (128 + c) ∧ σ (128 + c) < σ 1) ∧ (1 ≤ σ (140 + c) ∧ σ (140 + c) < σ 0) ∧ σ (32 + (σ (140 + c)).toNat) = 2 ∧ (0 ≤ σ (152 + c) ∧ σ (152 + c) ≤ 3) ∧ (0 ≤ σ (164 + c) ∧ σ (164 + c) ≤ 9))
