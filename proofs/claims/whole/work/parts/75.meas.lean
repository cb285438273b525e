def un4 (σ : Nat → Int) : Nat := cnt (fun i => !bt (zI (σ (68 + i / 4))) (i % 4)) 48
def clo (σ : Nat → Int) : Nat := cnt (fun b => decide (σ (56 + b) ≠ 1)) 12
section ME
variable {σ : Nat → Int}
theorem lu_f (x : Int32) : ∀ d i, lu x d i < i + d → bt x (lu x d i) = false := by
  intro d
  induction d with
  | zero => intro i h; unfold lu at h; omega
  | succ d ih =>
    intro i h
    unfold lu at h ⊢
    by_cases c : bt x i = true
    · rw [if_pos c] at h ⊢
      exact ih (i + 1) (by omega)
    · rw [if_neg c]
      simpa using c
theorem bf_in (σ : Nat → Int) (b k : Nat) : ∀ i e, (cmh σ b k (bf σ b k i e).toNat = true ∧ 0 ≤ bf σ b k i e ∧ bf σ b k i e < i) ∨ bf σ b k i e = e := by
  intro i
  induction i with
  | zero => intro e; exact Or.inr rfl
  | succ i ih =>
    intro e
    unfold bf
    by_cases c : cmh σ b k i = true ∧ (e < 0 ∨ σ (164 + e.toNat) ≤ σ (164 + i))
    · rw [if_pos c]
      rcases ih (i : Int) with t | t
      · exact Or.inl ⟨t.1, t.2.1, by omega⟩
      · left
        rw [t, Int.toNat_natCast]
        exact ⟨c.1, by omega, by omega⟩
    · rw [if_neg c]
      rcases ih e with t | t
      · exact Or.inl ⟨t.1, t.2.1, by omega⟩
      · exact Or.inr t
theorem sf_cf (hB : RB σ) {b : Nat} (h1 : 1 ≤ b) (hb : (b : Int) < σ 0) (h : sf σ b < 100) : ∃ x : Nat, sf σ b = (cf σ x : Nat) := by
  have h0 := hB.1
  have h9 := lhp_b hB
  unfold sf at h ⊢
  by_cases c : σ (32 + b) = 2
  · rw [if_pos c] at h ⊢
    unfold sfc sfe at h ⊢
    split at h
    · omega
    · rename_i c1
      rw [if_neg c1]
      split at h
      · rename_i c2
        rw [if_pos c2]
        split at h
        · omega
        · rename_i c3
          rw [if_neg c3]
          exact ⟨_, rfl⟩
      · omega
  · rw [if_neg c] at h ⊢
    have hbp := bp hB h1 hb
    unfold sft at h ⊢
    split at h
    · omega
    · rename_i k3
      have h3 := hbp.2.2.1 (by omega)
      have h7 := bo hB h1 hb
      split at h
      · omega
      · rename_i k4
        rw [if_neg k3, if_neg k4]
        unfold sth at h ⊢
        split at h
        · split at h <;> omega
        · rename_i k5
          rw [if_neg k5]
          exact ⟨_, rfl⟩
theorem nx_cl (hB : RB σ) {b : Nat} (h1 : 1 ≤ b) (hb : (b : Int) < σ 0) (h : nx σ b < 100) : σ (56 + (nx σ b).toNat) ≠ 1 := by
  have hr := nx_r hB h1 hb
  have key : ∃ x : Nat, nx σ b = (cf σ x : Nat) := by
    unfold nx at h ⊢
    by_cases q : cf σ (σ (20 + b)).toNat = 0
    · rw [if_pos q] at h ⊢
      exact sf_cf hB h1 hb h
    · rw [if_neg q]
      exact ⟨_, rfl⟩
  obtain ⟨x, hx⟩ := key
  rcases oc_cl (σ := σ) 12 x 0 (Or.inl rfl) with t | t
  · have : cf σ x = 0 := t
    omega
  · rw [hx, Int.toNat_natCast]
    exact t
theorem go_cl (hB : RB σ) : ∀ (f b : Nat) (s : Int32), 1 ≤ b → (b : Int) < σ 0 → σ (56 + b) ≠ 1 → 100 ≤ go σ f s b → σ (56 + gB σ f s b) ≠ 1 := by
  have h0 := hB.1
  intro f
  induction f with
  | zero => intro b s _ _ _ h; unfold go at h; omega
  | succ f ih =>
    intro b s h1 hb hc hg
    unfold go at hg
    unfold gB
    by_cases c : bt s b = true
    · rw [if_pos c] at hg; omega
    · rw [if_neg c] at hg ⊢
      by_cases c2 : nx σ b < 100
      · rw [if_pos c2] at hg ⊢
        have := nx_r hB h1 hb
        exact ih _ _ (by omega) (by omega) (nx_cl hB h1 hb c2) hg
      · rw [if_neg c2]; exact hc
/-- the last move at a box whose lock is satisfied, or has a code -/
theorem fin_code (hB : RB σ) {B : Nat} (h1 : 1 ≤ B) (hb : (B : Int) < σ 0) (hs : σ (32 + B) = 2 ∨ sat σ B) (h : 100 ≤ sf σ B) : sf σ B = 300 + B ∨ (∃ c k : Nat, (c : Int) < σ 2 ∧ sf σ B = 400 + c ∧ σ (140 + c) = B ∧ σ (152 + c) = k ∧ k < 4 ∧ 0 < σ (164 + c) ∧ bt (zI (σ (68 + B))) k = false) ∨ (∃ k : Nat, k < 4 ∧ sf σ B = 500 + k + 1000 * B ∧ bt (zI (σ (68 + B))) k = false) := by
  have h0 := hB.1
  unfold sf at h ⊢
  by_cases c : σ (32 + B) = 2
  · rw [if_pos c] at h ⊢
    unfold sfc at h ⊢
    have hl := lu_le (zI (σ (68 + B))) 4 0
    by_cases c1 : lu (zI (σ (68 + B))) 4 0 = 4
    · rw [if_pos c1]; exact Or.inl rfl
    · rw [if_neg c1] at h ⊢
      have hf := lu_f (zI (σ (68 + B))) 4 0 (by omega)
      generalize lu (zI (σ (68 + B))) 4 0 = k at *
      have hbi := bf_in σ B k (σ 2).toNat (-1)
      unfold sfe at h ⊢
      by_cases c2 : bf σ B k (σ 2).toNat (-1) < 0
      · rw [if_pos c2] at h ⊢
        by_cases c3 : lf (cma σ B k) (σ 2).toNat (-1) < 0
        · rw [if_pos c3]
          exact Or.inr (Or.inr ⟨k, by omega, rfl, hf⟩)
        · rw [if_neg c3] at h
          have hlr := lf_r (cma σ B k) (σ 2).toNat (-1)
          have hcl := cl hB (c := (lf (cma σ B k) (σ 2).toNat (-1)).toNat) (by omega)
          have := cfl_r hB (p := (σ (128 + (lf (cma σ B k) (σ 2).toNat (-1)).toNat)).toNat) (by omega)
          omega
      · rw [if_neg c2]
        rcases hbi with t | t
        · have t1 := t.1
          simp only [cmh, decide_eq_true_eq] at t1
          exact Or.inr (Or.inl ⟨(bf σ B k (σ 2).toNat (-1)).toNat, k, by omega, by omega, t1.1.1, t1.1.2.1, by omega, t1.1.2.2, hf⟩)
        · omega
  · rw [if_neg c]
    left
    unfold sft
    rw [if_pos (hs.resolve_left c)]
theorem clo_dn {B : Nat} (hb : B < 12) (h : σ (56 + B) ≠ 1) : clo (us σ (56 + B) 1) < clo σ := by
  unfold clo
  exact cnt_lt _ B hb (by simp [h]) (by simp [us_at]) (fun i hi => by rw [us_ne _ _ (show 56 + i ≠ 56 + B by omega)])
theorem un_dn {b k : Nat} (hb : b < 12) (hk : k < 4) (h : bt (zI (σ (68 + b))) k = false) : un4 (us σ (68 + b) (zI (σ (68 + b)) ||| ((1 : Int32) <<< (zI (k : Int) &&& 31))).toInt) < un4 σ := by
  have ev : zI ((zI (σ (68 + b)) ||| ((1 : Int32) <<< (zI (k : Int) &&& 31))).toInt) = (zI (σ (68 + b)) ||| ((1 : Int32) <<< (zI (k : Int) &&& 31))) := Int32.ofInt_toInt _
  have e1 : (4 * b + k) / 4 = b := by omega
  have e2 : (4 * b + k) % 4 = k := by omega
  unfold un4
  refine cnt_lt _ (4 * b + k) (by omega) ?_ ?_ (fun i hi => ?_)
  · rw [e1, e2, h]; rfl
  · rw [e1, e2, us_at, ev, bt_set (by omega) (by omega)]; simp
  · by_cases q : i / 4 = b
    · have : i % 4 ≠ k := by omega
      rw [q, us_at, ev, bt_set (by omega) (by omega), decide_eq_false this, Bool.or_false]
    · rw [us_ne _ _ (show 68 + i / 4 ≠ 68 + b by omega)]
end ME
