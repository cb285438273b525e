def bc (x : Int32) : Int32 := fJ6_bitCount_0f7a4 (fun _ _ => 0) x
theorem bc_M (M : Mem) (x : Int32) : fJ6_bitCount_0f7a4 M x = bc x := rfl
theorem or_bit : ∀ i, i < 12 → ∀ k, k < 2 ^ i → nI k ||| ((1 : Int32) <<< (nI i &&& 31)) = nI (k + 2 ^ i) := by decide +kernel
theorem bc_bit : ∀ i, i < 12 → ∀ k, k < 2 ^ i → bc (nI (k + 2 ^ i)) = bc (nI k) + 1 := by decide +kernel
theorem bt_0 {x : Int32} {b : Nat} (hb : b < 31) : ((x >>> (zI (b : Int) &&& 31)) &&& 1) = if bt x b = true then 1 else 0 := by
  by_cases c : bt x b = true
  · rw [if_pos c, bt_tst hb]; exact c
  · rw [if_neg c, zI_nI]
    apply b_ext
    intro i hi
    rw [b_and, b_sshr b (by omega) x hi, bt_one i hi, b_0]
    by_cases q : i = 0
    · subst q
      rw [if_pos (by omega)]
      simpa using c
    · simp [q]
/-- the clues of a reset from i on, with so much paint left: which, how many, how much -/
def ck (σ : Nat → Int) : Nat → Nat → Int → Nat → Bool
  | 0, _, _ => fun _ => false
  | d + 1, i, l => if σ (164 + i) ≤ 3 ∧ 9 - σ (164 + i) ≤ l then fun j => decide (j = i) || ck σ d (i + 1) (l - (9 - σ (164 + i))) j else ck σ d (i + 1) l
def kn (σ : Nat → Int) : Nat → Nat → Int → Int
  | 0, _, _ => 0
  | d + 1, i, l => if σ (164 + i) ≤ 3 ∧ 9 - σ (164 + i) ≤ l then 1 + kn σ d (i + 1) (l - (9 - σ (164 + i))) else kn σ d (i + 1) l
def ks (σ : Nat → Int) : Nat → Nat → Int → Int
  | 0, _, _ => 0
  | d + 1, i, l => if σ (164 + i) ≤ 3 ∧ 9 - σ (164 + i) ≤ l then (9 - σ (164 + i)) + ks σ d (i + 1) (l - (9 - σ (164 + i))) else ks σ d (i + 1) l
def fl : Nat → Nat → (Nat → Int) → (Nat → Int)
  | 0, _, τ => τ
  | d + 1, i, τ => if τ (164 + i) ≤ 3 ∧ 9 - τ (164 + i) ≤ τ 8 then fl d (i + 1) (us (us τ 8 (τ 8 - (9 - τ (164 + i)))) (164 + i) 9) else fl d (i + 1) τ
theorem ck_r (σ : Nat → Int) : ∀ (d i : Nat) (l : Int) (j : Nat), ck σ d i l j = true → i ≤ j ∧ j < i + d := by
  intro d
  induction d with
  | zero => intro i l j h; cases h
  | succ d ih =>
    intro i l j h
    unfold ck at h
    split at h
    · rw [Bool.or_eq_true, decide_eq_true_eq] at h
      rcases h with h | h
      · omega
      · have := ih _ _ _ h; omega
    · have := ih _ _ _ h; omega
theorem ck_c {σ σ' : Nat → Int} : ∀ (d i : Nat) (l : Int), (∀ j, i ≤ j → j < i + d → σ' (164 + j) = σ (164 + j)) → ck σ' d i l = ck σ d i l := by
  intro d
  induction d with
  | zero => intro i l _; rfl
  | succ d ih =>
    intro i l h
    unfold ck
    rw [h i (by omega) (by omega), ih (i + 1) l (fun j h1 h2 => h j (by omega) (by omega)), ih (i + 1) (l - (9 - σ (164 + i))) (fun j h1 h2 => h j (by omega) (by omega))]
theorem kn_b (σ : Nat → Int) : ∀ (d i : Nat) (l : Int), 0 ≤ kn σ d i l ∧ kn σ d i l ≤ d := by
  intro d
  induction d with
  | zero => intro i l; unfold kn; omega
  | succ d ih =>
    intro i l
    unfold kn
    split
    · have := ih (i + 1) (l - (9 - σ (164 + i))); omega
    · have := ih (i + 1) l; omega
section RS
variable {X R : Mem} {σ : Nat → Int} {n : Nat}
theorem X_pale (h : SR X R σ) (hB : RB σ) {i : Nat} (hi : (i : Int) < σ 2) : fX5_isPale 4 X (zI (i : Int)) = i1 (σ (164 + i) ≤ 3) := by
  have h0 := hB.1
  have hc := cl hB hi
  unfold fX5_isPale
  rw [h.ro.ink (by omega), zc3]
  by_cases c : σ (164 + i) ≤ 3
  · rw [if_neg (by rw [zlt] <;> omega), i1_t c]
  · rw [if_pos (by rw [zlt] <;> omega), i1_f c]
theorem X_lack (h : SR X R σ) (hB : RB σ) {i : Nat} (hi : (i : Int) < σ 2) : fX5_inkLack 4 X (zI (i : Int)) = zI (9 - σ (164 + i)) := by
  have h0 := hB.1
  unfold fX5_inkLack
  rw [h.ro.ink (by omega), zc9, zsub]
theorem X_reset_L (h : SR X R σ) (hB : RB σ) : ∀ (d i m k : Nat) (l : Int), (i : Int) + d = σ 2 → d < m → k < 2 ^ i → 0 ≤ l ∧ l ≤ 1000000 → ∃ k', fX6_cluesOfReset_L9 3 m X (nI k) (zI l) (zI (i : Int)) = some (nI k') ∧ (∀ j, j < 32 → bt (nI k') j = (bt (nI k) j || ck σ d i l j)) ∧ bc (nI k') = bc (nI k) + zI (kn σ d i l) := by
  have h0 := hB.1
  intro d
  induction d with
  | zero =>
    intro i m k l hi hm hk hl
    obtain ⟨m, rfl⟩ := ex_succ hm
    refine ⟨k, ?_, fun j _ => by unfold ck; rw [Bool.or_false], ?_⟩
    · rw [fX6_cluesOfReset_L9, if_pos (show X (3 + 1) 9 ≤ zI (i : Int) by rw [h.ro.nc, zle] <;> omega)]
    · unfold kn; exact (Int32.add_zero _).symm
  | succ d ih =>
    intro i m k l hi hm hk hl
    obtain ⟨m, rfl⟩ := ex_succ hm
    have hc := cl hB (c := i) (by omega)
    have hk2 : (2 : Nat) ^ (i + 1) = 2 * 2 ^ i := by rw [Nat.pow_succ]; omega
    rw [fX6_cluesOfReset_L9, if_neg (show ¬ X (3 + 1) 9 ≤ zI (i : Int) by rw [h.ro.nc, zle] <;> omega), show fX5_isPale (3 + 1) X (zI (i : Int)) = i1 (σ (164 + i) ≤ 3) from X_pale h hB (by omega), show fX5_inkLack (3 + 1) X (zI (i : Int)) = zI (9 - σ (164 + i)) from X_lack h hB (by omega), zsuc]
    unfold ck kn
    by_cases c1 : σ (164 + i) ≤ 3
    · rw [i1_t c1, it1]
      by_cases c2 : 9 - σ (164 + i) ≤ l
      · rw [if_neg (show ¬ zI l < zI (9 - σ (164 + i)) by rw [zlt] <;> omega), if_pos ⟨c1, c2⟩, if_pos ⟨c1, c2⟩, thn_eq, thn_eq, zsub, zI_nI i, or_bit i (by omega) k hk]
        obtain ⟨k', q1, q2, q3⟩ := ih (i + 1) m (k + 2 ^ i) (l - (9 - σ (164 + i))) (by omega) (by omega) (by omega) (by omega)
        refine ⟨k', q1, fun j hj => ?_, ?_⟩
        · rw [q2 j hj, ← or_bit i (by omega) k hk, ← zI_nI i, bt_set (by omega) hj, Bool.or_assoc]
        · rw [q3, bc_bit i (by omega) k hk, Int32.add_assoc, zc1, zadd]
      · rw [if_pos (show zI l < zI (9 - σ (164 + i)) by rw [zlt] <;> omega), if_neg (by omega), if_neg (by omega)]
        exact ih (i + 1) m k l (by omega) (by omega) (by omega) hl
    · rw [i1_f c1, it0, if_neg (by omega), if_neg (by omega)]
      exact ih (i + 1) m k l (by omega) (by omega) (by omega) hl
/-- the mask of the clues of a reset -/
theorem X_mask (h : SR X R σ) (hB : RB σ) (h8 : 0 ≤ σ 8 ∧ σ 8 ≤ 1000000) : ∃ K, fX6_cluesOfReset 3 X = some K ∧ (∀ j, j < 32 → bt K j = ck σ (σ 2).toNat 0 (σ 8) j) ∧ bc K = zI (kn σ (σ 2).toNat 0 (σ 8)) := by
  have h0 := hB.1
  obtain ⟨k', q1, q2, q3⟩ := X_reset_L h hB (σ 2).toNat 0 5000 0 (σ 8) (by omega) (by omega) (by omega) h8
  refine ⟨nI k', ?_, fun j hj => ?_, ?_⟩
  · unfold fX6_cluesOfReset
    rw [h.paint]
    exact q1
  · rw [q2 j hj, show bt (nI 0) j = false from b_0 j, Bool.false_or]
  · rw [q3, show bc (nI 0) = 0 by decide +kernel]
    exact Int32.zero_add _
theorem X_sum_L (h : SR X R σ) (hB : RB σ) {K : Int32} : ∀ (d i m : Nat) (y l : Int), (i : Int) + d = σ 2 → d < m → (∀ j, i ≤ j → j < 12 → bt K j = ck σ d i l j) → fX6_resetPaint_L9 3 m X K (zI y) (zI (i : Int)) = some (zI (y + ks σ d i l)) := by
  have h0 := hB.1
  intro d
  induction d with
  | zero =>
    intro i m y l hi hm hk
    obtain ⟨m, rfl⟩ := ex_succ hm
    rw [fX6_resetPaint_L9, if_pos (show X (3 + 1) 9 ≤ zI (i : Int) by rw [h.ro.nc, zle] <;> omega)]
    unfold ks
    rw [show y + 0 = y by omega]
  | succ d ih =>
    intro i m y l hi hm hk
    obtain ⟨m, rfl⟩ := ex_succ hm
    have hki := hk i (by omega) (by omega)
    rw [fX6_resetPaint_L9, if_neg (show ¬ X (3 + 1) 9 ≤ zI (i : Int) by rw [h.ro.nc, zle] <;> omega), show fX5_inkLack (3 + 1) X (zI (i : Int)) = zI (9 - σ (164 + i)) from X_lack h hB (by omega), bt_0 (by omega), hki, zsuc, thn_eq]
    unfold ks
    unfold ck at hk ⊢
    by_cases c : σ (164 + i) ≤ 3 ∧ 9 - σ (164 + i) ≤ l
    · rw [if_pos c, if_pos c]
      rw [if_pos c] at hk
      have := ih (i + 1) m (y + (9 - σ (164 + i))) (l - (9 - σ (164 + i))) (by omega) (by omega) (fun j h1 h2 => by rw [hk j (by omega) h2, decide_eq_false (by omega), Bool.false_or])
      rw [if_pos (by simp), zc1, zmul, zadd, show 1 * (9 - σ (164 + i)) = 9 - σ (164 + i) by omega, this]
      congr 2
      omega
    · rw [if_neg c, if_neg c]
      rw [if_neg c] at hk
      have hf : ck σ d (i + 1) l i = false := by
        rcases hq : ck σ d (i + 1) l i with _ | _
        · rfl
        · have := ck_r σ _ _ _ _ hq; omega
      have := ih (i + 1) m y l (by omega) (by omega) (fun j h1 h2 => hk j (by omega) h2)
      rw [hf, if_neg (by simp), zc0, zmul, zadd, show 0 * (9 - σ (164 + i)) = 0 by omega, show y + 0 = y by omega, this]
theorem R_written_L (hR : R 1 = enc σ) (hB : RB σ) (h8 : 0 ≤ σ 8 ∧ σ 8 ≤ 1000000) (x1 : Int32) : ∀ (d i m : Nat) (x3 x4 : Int), (i : Int) + d = σ 2 → d < m → 0 ≤ x4 ∧ x4 ≤ σ 8 → fX8_written_L8 m R x1 0 (zI x3) (zI x4) (zI (i : Int)) = some (if x1 = 0 then zI (x3 + kn σ d i (σ 8 - x4)) else zI (x4 + ks σ d i (σ 8 - x4)), R) := by
  have h0 := hB.1
  intro d
  induction d with
  | zero =>
    intro i m x3 x4 hi hm hx
    obtain ⟨m, rfl⟩ := ex_succ hm
    rw [fX8_written_L8, if_pos (show R 1 2 ≤ zI (i : Int) by rw [rd hR, zle] <;> omega), if_pos rfl, Int32.sub_zero, wr_self, thn_eq]
    unfold fX8_written_B123 kn ks
    rw [show x3 + 0 = x3 by omega, show x4 + 0 = x4 by omega]
    split <;> rfl
  | succ d ih =>
    intro i m x3 x4 hi hm hx
    obtain ⟨m, rfl⟩ := ex_succ hm
    have hc := cl hB (c := i) (by omega)
    have ew : wr R 1 (164 + i) (zI (σ (164 + i))) = R := by rw [← rd hR (164 + i), wr_self]
    rw [fX8_written_L8, if_neg (show ¬ R 1 2 ≤ zI (i : Int) by rw [rd hR, zle] <;> omega), if_pos (i164 (by omega)), j164 (by omega), rd hR (164 + i), zc9, zsub, thn_eq, rd hR 8, zsub, zsuc, zc5]
    unfold kn ks
    by_cases c1 : σ (164 + i) ≤ 3
    · rw [if_neg (show ¬ zI (9 - σ (164 + i)) ≤ zI 5 by rw [zle] <;> omega)]
      by_cases c2 : 9 - σ (164 + i) ≤ σ 8 - x4
      · have := ih (i + 1) m (x3 + 1) (x4 + (9 - σ (164 + i))) (by omega) (by omega) (by omega)
        rw [if_neg (show ¬ zI (σ 8 - x4) < zI (9 - σ (164 + i)) by rw [zlt] <;> omega), if_pos rfl, if_pos (i164 (by omega)), if_pos (i164 (by omega)), ew, thn_eq, if_pos (show σ (164 + i) ≤ 3 ∧ 9 - σ (164 + i) ≤ σ 8 - x4 from ⟨c1, c2⟩), if_pos (show σ (164 + i) ≤ 3 ∧ 9 - σ (164 + i) ≤ σ 8 - x4 from ⟨c1, c2⟩), zc1, zadd, zadd, this, show σ 8 - (x4 + (9 - σ (164 + i))) = σ 8 - x4 - (9 - σ (164 + i)) by omega, Int.add_assoc, Int.add_assoc]
      · rw [if_pos (show zI (σ 8 - x4) < zI (9 - σ (164 + i)) by rw [zlt] <;> omega), if_neg (show ¬ (σ (164 + i) ≤ 3 ∧ 9 - σ (164 + i) ≤ σ 8 - x4) by omega), if_neg (show ¬ (σ (164 + i) ≤ 3 ∧ 9 - σ (164 + i) ≤ σ 8 - x4) by omega)]
        exact ih (i + 1) m x3 x4 (by omega) (by omega) hx
    · rw [if_pos (show zI (9 - σ (164 + i)) ≤ zI 5 by rw [zle] <;> omega), if_neg (show ¬ (σ (164 + i) ≤ 3 ∧ 9 - σ (164 + i) ≤ σ 8 - x4) by omega), if_neg (show ¬ (σ (164 + i) ≤ 3 ∧ 9 - σ (164 + i) ≤ σ 8 - x4) by omega)]
      exact ih (i + 1) m x3 x4 (by omega) (by omega) hx
theorem R_written (hR : R 1 = enc σ) (hB : RB σ) (h8 : 0 ≤ σ 8 ∧ σ 8 ≤ 1000000) (x1 : Int32) : fX8_written R x1 0 = some (if x1 = 0 then zI (kn σ (σ 2).toNat 0 (σ 8)) else zI (ks σ (σ 2).toNat 0 (σ 8)), R) := by
  have h0 := hB.1
  have := R_written_L hR hB h8 x1 (σ 2).toNat 0 5000 0 0 (by omega) (by omega) (by omega)
  rw [show σ 8 - 0 = σ 8 by omega, Int.zero_add, Int.zero_add] at this
  exact this
def rmm (σ : Nat → Int) : Int := ((cnt (fun p => decide (σ (104 + p) ≠ σ (80 + p))) (σ 1).toNat : Nat) : Int) + ((cnt (fun b => decide (1 ≤ b ∧ σ (56 + b) = 1)) (σ 0).toNat : Nat) : Int) + kn σ (σ 2).toNat 0 (σ 8)
theorem rmm_b (hB : RB σ) : 0 ≤ rmm σ ∧ rmm σ ≤ 48 := by
  have h0 := hB.1
  have h1 := cnt_le (fun p => decide (σ (104 + p) ≠ σ (80 + p))) (σ 1).toNat
  have h2 := cnt_le (fun b => decide (1 ≤ b ∧ σ (56 + b) = 1)) (σ 0).toNat
  have h3 := kn_b σ (σ 2).toNat 0 (σ 8)
  unfold rmm
  omega
theorem X_resetMinutes (h : SR X R σ) (hB : RB σ) (h8 : 0 ≤ σ 8 ∧ σ 8 ≤ 1000000) : fX6_resetMinutes 3 X = some (zI (rmm σ)) := by
  obtain ⟨K, k1, k2, k3⟩ := X_mask h hB h8
  unfold fX6_resetMinutes rmm
  rw [X_propsAway h.ro hB, bnd_some, X_openBoxes h.ro hB, bnd_some, k1, bnd_some, bc_M, k3, zadd, zadd]
theorem R_resetMinutes (hR : R 1 = enc σ) (hB : RB σ) (h8 : 0 ≤ σ 8 ∧ σ 8 ≤ 1000000) : fX8_resetMinutes R = some (zI (rmm σ), R) := by
  unfold fX8_resetMinutes rmm
  rw [R_notAtHome hR hB, bnd_some, R_openOnes hR hB, bnd_some, R_written hR hB h8, bnd_some, if_pos rfl]
  show some (zI _ + zI _ + zI _, R) = _
  rw [zadd, zadd]
theorem X_resetPaint (h : SR X R σ) (hB : RB σ) (h8 : 0 ≤ σ 8 ∧ σ 8 ≤ 1000000) : fX6_resetPaint 3 X = some (zI (ks σ (σ 2).toNat 0 (σ 8))) := by
  have h0 := hB.1
  obtain ⟨K, k1, k2, k3⟩ := X_mask h hB h8
  unfold fX6_resetPaint
  rw [k1, bnd_some]
  have := X_sum_L h hB (K := K) (σ 2).toNat 0 5000 0 (σ 8) (by omega) (by omega) (fun j _ h2 => k2 j (by omega))
  rw [Int.zero_add] at this
  exact this
theorem differences_ok (h : SR X R σ) (hI : Iv n σ) (hn : n ≤ 600) (x : Int32) : Tm (fX7_differences X x) (fX8_differences R x) X R σ := by
  have hB := hI.1
  have hN := hI.2.1
  unfold fX7_differences fX8_differences
  by_cases d0 : x = (0 : Int32)
  · rw [if_pos d0, if_pos d0, X_propsAway h.ro hB, bnd_some, R_notAtHome h.row hB, bnd_some]; exact Tm.same h rfl rfl
  rw [if_neg d0, if_neg d0]
  by_cases d1 : x = (1 : Int32)
  · rw [if_pos d1, if_pos d1, X_openBoxes h.ro hB, bnd_some, R_openOnes h.row hB, bnd_some]; exact Tm.same h rfl rfl
  rw [if_neg d1, if_neg d1]
  by_cases d2 : x = (2 : Int32)
  · rw [if_pos d2, if_pos d2, X_paleClues h.ro hB, bnd_some, R_faded h.row hB, bnd_some]; exact Tm.same h rfl rfl
  rw [if_neg d2, if_neg d2]
  by_cases d3 : x = (3 : Int32)
  · rw [if_pos d3, if_pos d3, X_resetMinutes h hB (by omega), bnd_some, R_resetMinutes h.row hB (by omega), bnd_some]; exact Tm.same h rfl rfl
  rw [if_neg d3, if_neg d3]
  by_cases d4 : x = (4 : Int32)
  · rw [if_pos d4, if_pos d4, X_resetPaint h hB (by omega), bnd_some, R_written h.row hB (by omega), bnd_some, it1]; exact Tm.same h rfl rfl
  rw [if_neg d4, if_neg d4]
  exact Tm.same h rfl rfl
end RS
