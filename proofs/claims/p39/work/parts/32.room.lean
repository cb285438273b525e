theorem tn20 (b : Nat) : ((20 : Int) + (b : Int)).toNat = 20 + b := by omega
theorem tn32 (b : Nat) : ((32 : Int) + (b : Int)).toNat = 32 + b := by omega
theorem tn44 (b : Nat) : ((44 : Int) + (b : Int)).toNat = 44 + b := by omega
theorem tn56 (b : Nat) : ((56 : Int) + (b : Int)).toNat = 56 + b := by omega
theorem tn68 (b : Nat) : ((68 : Int) + (b : Int)).toNat = 68 + b := by omega
theorem tn80 (b : Nat) : ((80 : Int) + (b : Int)).toNat = 80 + b := by omega
theorem tn104 (b : Nat) : ((104 : Int) + (b : Int)).toNat = 104 + b := by omega
theorem tn128 (b : Nat) : ((128 : Int) + (b : Int)).toNat = 128 + b := by omega
theorem tn140 (b : Nat) : ((140 : Int) + (b : Int)).toNat = 140 + b := by omega
theorem tn152 (b : Nat) : ((152 : Int) + (b : Int)).toNat = 152 + b := by omega
theorem tn164 (b : Nat) : ((164 : Int) + (b : Int)).toNat = 164 + b := by omega
theorem tn176 (b : Nat) : ((176 : Int) + (b : Int)).toNat = 176 + b := by omega
theorem tn184 (b : Nat) : ((184 : Int) + (b : Int)).toNat = 184 + b := by omega
theorem zn_of {a : Int} (h : 0 ≤ a) : zI a = zI (a.toNat : Int) := by rw [Int.toNat_of_nonneg h]
theorem i20 {b : Nat} (hb : b < 300) : inb ((20 : Int32) + zI (b : Int)) 902 = true := by rw [zc20, zadd, zinb (by omega) (by omega)]; omega
theorem j20 {b : Nat} (hb : b < 300) : ((20 : Int32) + zI (b : Int)).toNatClampNeg = 20 + b := by rw [zc20, zadd, ztn (by omega) (by omega)]; omega
theorem i32 {b : Nat} (hb : b < 300) : inb ((32 : Int32) + zI (b : Int)) 902 = true := by rw [zc32, zadd, zinb (by omega) (by omega)]; omega
theorem j32 {b : Nat} (hb : b < 300) : ((32 : Int32) + zI (b : Int)).toNatClampNeg = 32 + b := by rw [zc32, zadd, ztn (by omega) (by omega)]; omega
theorem i44 {b : Nat} (hb : b < 300) : inb ((44 : Int32) + zI (b : Int)) 902 = true := by rw [zc44, zadd, zinb (by omega) (by omega)]; omega
theorem j44 {b : Nat} (hb : b < 300) : ((44 : Int32) + zI (b : Int)).toNatClampNeg = 44 + b := by rw [zc44, zadd, ztn (by omega) (by omega)]; omega
theorem i56 {b : Nat} (hb : b < 300) : inb ((56 : Int32) + zI (b : Int)) 902 = true := by rw [zc56, zadd, zinb (by omega) (by omega)]; omega
theorem j56 {b : Nat} (hb : b < 300) : ((56 : Int32) + zI (b : Int)).toNatClampNeg = 56 + b := by rw [zc56, zadd, ztn (by omega) (by omega)]; omega
theorem i68 {b : Nat} (hb : b < 300) : inb ((68 : Int32) + zI (b : Int)) 902 = true := by rw [zc68, zadd, zinb (by omega) (by omega)]; omega
theorem j68 {b : Nat} (hb : b < 300) : ((68 : Int32) + zI (b : Int)).toNatClampNeg = 68 + b := by rw [zc68, zadd, ztn (by omega) (by omega)]; omega
theorem i80 {b : Nat} (hb : b < 300) : inb ((80 : Int32) + zI (b : Int)) 902 = true := by rw [zc80, zadd, zinb (by omega) (by omega)]; omega
theorem j80 {b : Nat} (hb : b < 300) : ((80 : Int32) + zI (b : Int)).toNatClampNeg = 80 + b := by rw [zc80, zadd, ztn (by omega) (by omega)]; omega
theorem i104 {b : Nat} (hb : b < 300) : inb ((104 : Int32) + zI (b : Int)) 902 = true := by rw [zc104, zadd, zinb (by omega) (by omega)]; omega
theorem j104 {b : Nat} (hb : b < 300) : ((104 : Int32) + zI (b : Int)).toNatClampNeg = 104 + b := by rw [zc104, zadd, ztn (by omega) (by omega)]; omega
theorem i128 {b : Nat} (hb : b < 300) : inb ((128 : Int32) + zI (b : Int)) 902 = true := by rw [zc128, zadd, zinb (by omega) (by omega)]; omega
theorem j128 {b : Nat} (hb : b < 300) : ((128 : Int32) + zI (b : Int)).toNatClampNeg = 128 + b := by rw [zc128, zadd, ztn (by omega) (by omega)]; omega
theorem i140 {b : Nat} (hb : b < 300) : inb ((140 : Int32) + zI (b : Int)) 902 = true := by rw [zc140, zadd, zinb (by omega) (by omega)]; omega
theorem j140 {b : Nat} (hb : b < 300) : ((140 : Int32) + zI (b : Int)).toNatClampNeg = 140 + b := by rw [zc140, zadd, ztn (by omega) (by omega)]; omega
theorem i152 {b : Nat} (hb : b < 300) : inb ((152 : Int32) + zI (b : Int)) 902 = true := by rw [zc152, zadd, zinb (by omega) (by omega)]; omega
theorem j152 {b : Nat} (hb : b < 300) : ((152 : Int32) + zI (b : Int)).toNatClampNeg = 152 + b := by rw [zc152, zadd, ztn (by omega) (by omega)]; omega
theorem i164 {b : Nat} (hb : b < 300) : inb ((164 : Int32) + zI (b : Int)) 902 = true := by rw [zc164, zadd, zinb (by omega) (by omega)]; omega
theorem j164 {b : Nat} (hb : b < 300) : ((164 : Int32) + zI (b : Int)).toNatClampNeg = 164 + b := by rw [zc164, zadd, ztn (by omega) (by omega)]; omega
theorem i176 {b : Nat} (hb : b < 300) : inb ((176 : Int32) + zI (b : Int)) 902 = true := by rw [zc176, zadd, zinb (by omega) (by omega)]; omega
theorem j176 {b : Nat} (hb : b < 300) : ((176 : Int32) + zI (b : Int)).toNatClampNeg = 176 + b := by rw [zc176, zadd, ztn (by omega) (by omega)]; omega
theorem i184 {b : Nat} (hb : b < 300) : inb ((184 : Int32) + zI (b : Int)) 902 = true := by rw [zc184, zadd, zinb (by omega) (by omega)]; omega
theorem j184 {b : Nat} (hb : b < 300) : ((184 : Int32) + zI (b : Int)).toNatClampNeg = 184 + b := by rw [zc184, zadd, ztn (by omega) (by omega)]; omega
theorem b01 {P : Prop} [Decidable P] : ((if P then (1 : Int32) else 0) = 0) = ¬ P := by
  by_cases h : P <;> simp [h]
theorem b01' {P : Prop} [Decidable P] : ((if P then (1 : Int32) else 0) = 1) = P := by
  by_cases h : P <;> simp [h]
/-- the outermost closed box from b on, 0 if none -/
def oc (σ : Nat → Int) : Nat → Nat → Nat → Nat
  | 0, _, c => c
  | f + 1, b, c => if b = 0 then c else oc σ f (σ (20 + b)).toNat (if σ (56 + b) = 1 then c else b)
def cf (σ : Nat → Int) (b : Nat) : Nat := oc σ 12 b 0
section RM
variable {X R : Mem} {r : Nat} {σ : Nat → Int}
theorem oc_lt (hB : RB σ) : ∀ f b c : Nat, (b : Int) < σ 0 → (c : Int) < σ 0 → ((oc σ f b c : Nat) : Int) < σ 0 := by
  obtain ⟨h0, hO, -⟩ := hB
  intro f
  induction f with
  | zero => intro b c _ hc; exact hc
  | succ f ih =>
    intro b c hb hc
    unfold oc
    split
    · exact hc
    · have := hO b (by omega) hb
      refine ih _ _ (by omega) ?_
      split <;> assumption
theorem oc_cl : ∀ f b c : Nat, (c = 0 ∨ σ (56 + c) ≠ 1) → (oc σ f b c = 0 ∨ σ (56 + oc σ f b c) ≠ 1) := by
  intro f
  induction f with
  | zero => intro b c hc; exact hc
  | succ f ih =>
    intro b c hc
    unfold oc
    split
    · exact hc
    · refine ih _ _ ?_
      split
      · exact hc
      · right; assumption
theorem X_oc (hr : Ro X r σ) (hB : RB σ) : ∀ f b c n l : Nat, (b : Int) < σ 0 → f + l = 12 → f < n → fX5_outermostClosed_L7 r n X (zI (c : Int)) (zI (b : Int)) (zI (l : Int)) = some (zI (oc σ f b c : Nat)) := by
  obtain ⟨⟨h0, -⟩, hO, -, ⟨-, hP⟩, -⟩ := hB
  intro f
  induction f with
  | zero =>
    intro b c n l hb hl hn
    obtain ⟨n, rfl⟩ : ∃ k, n = k + 1 := ⟨n - 1, by omega⟩
    rw [fX5_outermostClosed_L7, if_pos]
    · rfl
    · rw [zlit, zle] <;> omega
  | succ f ih =>
    intro b c n l hb hl hn
    obtain ⟨n, rfl⟩ : ∃ k, n = k + 1 := ⟨n - 1, by omega⟩
    rw [fX5_outermostClosed_L7, if_neg (by rw [zlit, zle] <;> omega)]
    unfold oc
    by_cases hb0 : b = 0
    · subst hb0
      rw [if_pos (by decide), if_pos rfl]
    · rw [if_neg (by rw [zlit, zle] <;> omega), if_neg hb0]
      have h2 := hO b (by omega) hb
      rw [hr.opened (by omega), hr.outer (by omega), zn_of h2.1]
      have h3 := hP b (by omega)
      have e1 : zI (l : Int) + 1 = zI ((l + 1 : Nat) : Int) := by rw [zlit, zadd]; rfl
      rw [e1]
      simp (disch := omega) only [zlit, zeq]
      by_cases h4 : σ (56 + b) = 1
      · rw [if_neg (by omega), if_pos h4]
        exact ih _ _ _ _ (by omega) (by omega) (by omega)
      · rw [if_pos (by omega), if_neg h4]
        exact ih _ _ _ _ (by omega) (by omega) (by omega)
theorem X_cf (hr : Ro X r σ) (hB : RB σ) {b : Nat} (hb : (b : Int) < σ 0) : fX5_outermostClosed r X (zI (b : Int)) = some (zI (cf σ b : Nat)) := X_oc hr hB 12 b 0 5000 0 hb rfl (by omega)
theorem X_cf_held : fX5_outermostClosed r X (zI (-1)) = some (zI 0) := by
  show fX5_outermostClosed_L7 r 5000 X 0 (zI (-1)) 0 = _
  rw [show (5000 : Nat) = 4999 + 1 from rfl, fX5_outermostClosed_L7, if_neg (by decide), if_pos (by decide)]
  rfl
theorem R_isOpen (hR : R 1 = enc σ) (hB : RB σ) {b : Nat} (hb : b < 12) : fX8_isOpen R (zI (b : Int)) = some (if σ (56 + b) = 1 then 1 else 0) := by
  obtain ⟨-, -, -, ⟨-, hP⟩, -⟩ := hB
  have h3 := hP b hb
  unfold fX8_isOpen
  simp (disch := omega) only [zlit, zadd, zinbT, ztn, tn56, rd hR, zeq, if_true]
  split <;> rfl
theorem R_oc (hR : R 1 = enc σ) (hB : RB σ) : ∀ f b c n : Nat, (b : Int) < σ 0 → b < f → f < n → fX8_closedFrom_L5 n R (zI (if c = 0 then -5 else (c : Int))) (zI (b : Int)) = some (zI (if oc σ f b c = 0 then -5 else (oc σ f b c : Nat))) := by
  have hB' := hB
  obtain ⟨⟨h0, -⟩, hO, -, ⟨-, hP⟩, -⟩ := hB'
  intro f
  induction f with
  | zero => intro b c n _ hb; omega
  | succ f ih =>
    intro b c n hb hl hn
    obtain ⟨n, rfl⟩ : ∃ k, n = k + 1 := ⟨n - 1, by omega⟩
    rw [fX8_closedFrom_L5]
    unfold oc
    by_cases hb0 : b = 0
    · subst hb0
      rw [if_pos (by decide), if_pos rfl]
    · have h2 := hO b (by omega) hb
      have h3 := hP b (by omega)
      rw [if_neg (by rw [zlit, zle] <;> omega), if_neg hb0, R_isOpen hR hB (by omega), bnd_some]
      simp (disch := omega) only [zlit, zadd, zinbT, ztn, tn20, rd hR, thn_eq]
      rw [zn_of h2.1]
      simp only [if_true]
      by_cases h4 : σ (56 + b) = 1
      · simp only [h4, if_true]
        rw [if_neg (by decide)]
        exact ih (σ (20 + b)).toNat c n (by omega) (by omega) (by omega)
      · simp only [h4, if_false, if_true]
        have := ih (σ (20 + b)).toNat b n (by omega) (by omega) (by omega)
        rw [if_neg hb0] at this
        exact this
theorem R_cf (hR : R 1 = enc σ) (hB : RB σ) {b : Nat} (hb : (b : Int) < σ 0) : fX8_closedFrom R (zI (b : Int)) = some (zI (if cf σ b = 0 then -5 else (cf σ b : Nat))) := by
  have h0 := hB.1.1
  exact R_oc hR hB 12 b 0 5000 hb (by omega) (by omega)
end RM
