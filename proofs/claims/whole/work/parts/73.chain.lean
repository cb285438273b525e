/-- the box at which the chain of the next step ends -/
def gB (σ : Nat → Int) : Nat → Int32 → Nat → Nat
  | 0, _, _ => 0
  | f + 1, s, b => if bt s b = true then 0 else if nx σ b < 100 then gB σ f (s ||| ((1 : Int32) <<< (zI (b : Int) &&& 31))) (nx σ b).toNat else b
section CH
variable {σ : Nat → Int}
theorem nx_r (hB : RB σ) {b : Nat} (h1 : 1 ≤ b) (hb : (b : Int) < σ 0) : (1 ≤ nx σ b ∧ nx σ b < σ 0) ∨ (100 ≤ nx σ b ∧ nx σ b ≤ 20000 ∧ nx σ b = sf σ b ∧ cf σ (σ (20 + b)).toNat = 0) := by
  have h0 := hB.1
  have h7 := bo hB h1 hb
  have h6 := oc_lt hB 12 (σ (20 + b)).toNat 0 (by omega) (by omega)
  have e6 : cf σ (σ (20 + b)).toNat = oc σ 12 (σ (20 + b)).toNat 0 := rfl
  have h8 := sf_r hB h1 hb
  unfold nx
  by_cases q : cf σ (σ (20 + b)).toNat = 0
  · rw [if_pos q]; omega
  · rw [if_neg q]; omega
theorem go_B (hB : RB σ) : ∀ (f b : Nat) (s : Int32), 1 ≤ b → (b : Int) < σ 0 → 100 ≤ go σ f s b → 1 ≤ gB σ f s b ∧ ((gB σ f s b : Nat) : Int) < σ 0 ∧ go σ f s b = nx σ (gB σ f s b) ∧ 100 ≤ nx σ (gB σ f s b) := by
  have h0 := hB.1
  intro f
  induction f with
  | zero => intro b s _ _ h; unfold go at h; omega
  | succ f ih =>
    intro b s h1 hb hg
    unfold go at hg ⊢
    unfold gB
    by_cases c : bt s b = true
    · rw [if_pos c] at hg; omega
    · rw [if_neg c] at hg ⊢
      rw [if_neg c]
      by_cases c2 : nx σ b < 100
      · rw [if_pos c2] at hg ⊢
        rw [if_pos c2]
        have := nx_r hB h1 hb
        exact ih _ _ (by omega) (by omega) hg
      · rw [if_neg c2] at hg ⊢
        rw [if_neg c2]
        exact ⟨h1, hb, rfl, by omega⟩
/-- where the chain is the same, it ends at the same box -/
theorem go_same {σ' : Nat → Int} (hB : RB σ) (h : ∀ c : Nat, 1 ≤ c → (c : Int) < σ 0 → nx σ c < 100 → nx σ' c = nx σ c) : ∀ (f b : Nat) (s : Int32), 1 ≤ b → (b : Int) < σ 0 → 100 ≤ go σ f s b → 100 ≤ nx σ' (gB σ f s b) → go σ' f s b = nx σ' (gB σ f s b) ∧ gB σ' f s b = gB σ f s b := by
  have h0 := hB.1
  intro f
  induction f with
  | zero => intro b s _ _ hg; unfold go at hg; omega
  | succ f ih =>
    intro b s h1 hb hg hn
    unfold go at hg
    unfold gB at hn ⊢
    unfold go
    by_cases c : bt s b = true
    · rw [if_pos c] at hg; omega
    · rw [if_neg c] at hg hn
      rw [if_neg c, if_neg c, if_neg c]
      by_cases c2 : nx σ b < 100
      · rw [if_pos c2] at hg hn
        have e := h b h1 hb c2
        have := nx_r hB h1 hb
        rw [e, if_pos c2, if_pos c2, if_pos c2]
        exact ih _ _ (by omega) (by omega) hg hn
      · rw [if_neg c2] at hn
        rw [if_neg c2, if_neg (by omega), if_neg (by omega)]
        exact ⟨rfl, rfl⟩
theorem bf_c {σ' : Nat → Int} {b k : Nat} (h2 : ∀ i, σ' (164 + i) = σ (164 + i)) : ∀ i e, (∀ c, c < i → cmh σ' b k c = cmh σ b k c) → bf σ' b k i e = bf σ b k i e := by
  intro i
  induction i with
  | zero => intro e _; rfl
  | succ i ih =>
    intro e h1
    unfold bf
    rw [h1 i (by omega), h2 i, h2 e.toNat, ih _ (fun c hc => h1 c (by omega))]
theorem oc_us (hB : RB σ) (q : Nat) (v : Int) : ∀ f b c : Nat, (b : Int) < σ 0 → oc (us σ (104 + q) v) f b c = oc σ f b c := by
  have h0 := hB.1
  intro f
  induction f with
  | zero => intro b c _; rfl
  | succ f ih =>
    intro b c hb
    unfold oc
    by_cases h : b = 0
    · rw [if_pos h, if_pos h]
    · have := bo hB (b := b) (by omega) hb
      rw [if_neg h, if_neg h, us_ne _ _ (show 20 + b ≠ 104 + q by omega), us_ne _ _ (show 56 + b ≠ 104 + q by omega)]
      exact ih _ _ (by omega)
/-- a prop at hand goes to a place at hand -/
def Hv (σ : Nat → Int) (q : Nat) (v : Int) : Prop := (q : Int) < σ 1 ∧ (-1 ≤ v ∧ v < σ 0) ∧ cf σ (σ (104 + q)).toNat = 0 ∧ cf σ v.toNat = 0
theorem cf_us (hB : RB σ) {q : Nat} {v : Int} {b : Nat} (hb : (b : Int) < σ 0) : cf (us σ (104 + q) v) b = cf σ b := oc_us hB q v 12 b 0 hb
theorem cfl_us (hB : RB σ) {q : Nat} {v : Int} (hv : Hv σ q v) {p : Nat} (hp : (p : Int) < σ 1) : cf (us σ (104 + q) v) (us σ (104 + q) v (104 + p)).toNat = cf σ (σ (104 + p)).toNat := by
  have h0 := hB.1
  obtain ⟨h1, h2, h3, h4⟩ := hv
  by_cases c : p = q
  · subst c
    rw [us_at, cf_us hB (by omega), h3, h4]
  · rw [us_ne _ _ (show 104 + p ≠ 104 + q by omega), cf_us hB (lies_r hB hp)]
theorem sfc_us (hB : RB σ) {q : Nat} {v : Int} (hv : Hv σ q v) {b : Nat} (hb : (b : Int) < σ 0) : sfc (us σ (104 + q) v) b = sfc σ b := by
  have h0 := hB.1
  have hq := hv.1
  have e2 : us σ (104 + q) v 2 = σ 2 := us_ne _ _ (by omega)
  have e68 : us σ (104 + q) v (68 + b) = σ (68 + b) := us_ne _ _ (by omega)
  have hmh : ∀ k c, c < (σ 2).toNat → cmh (us σ (104 + q) v) b k c = cmh σ b k c := by
    intro k c hc
    have hcl := cl hB (c := c) (by omega)
    have := cfl_us hB hv (p := (σ (128 + c)).toNat) (by omega)
    unfold cmh
    rw [us_ne _ _ (show 140 + c ≠ 104 + q by omega), us_ne _ _ (show 152 + c ≠ 104 + q by omega), us_ne _ _ (show 164 + c ≠ 104 + q by omega), us_ne _ _ (show 128 + c ≠ 104 + q by omega), this]
  have hma : ∀ k c, c < (σ 2).toNat → cma (us σ (104 + q) v) b k c = cma σ b k c := by
    intro k c hc
    unfold cma
    rw [us_ne _ _ (show 140 + c ≠ 104 + q by omega), us_ne _ _ (show 152 + c ≠ 104 + q by omega), us_ne _ _ (show 164 + c ≠ 104 + q by omega)]
  unfold sfc sfe
  rw [e2, e68, bf_c (fun i => us_ne _ _ (by omega)) _ _ (hmh _), lf_c _ _ (hma _)]
  generalize hl : lf (cma σ b (lu (zI (σ (68 + b))) 4 0)) (σ 2).toNat (-1) = low
  by_cases c : low < 0
  · rw [if_pos c, if_pos c]
  · rw [if_neg c, if_neg c]
    have hlr := lf_r (cma σ b (lu (zI (σ (68 + b))) 4 0)) (σ 2).toNat (-1)
    rw [hl] at hlr
    have hcl := cl hB (c := low.toNat) (by omega)
    rw [us_ne _ _ (show 128 + low.toNat ≠ 104 + q by omega), cfl_us hB hv (p := (σ (128 + low.toNat)).toNat) (by omega)]
/-- satisfied: what the lock asks for is where it must be -/
abbrev sat (σ : Nat → Int) (b : Nat) : Prop := σ (32 + b) = 0 ∨ (σ (32 + b) = 1 ∧ σ (104 + (σ (44 + b)).toNat) = -1) ∨ (σ (32 + b) = 3 ∧ σ (104 + (σ (44 + b)).toNat) = σ (20 + b))
theorem nx_us (hB : RB σ) {q : Nat} {v : Int} (hv : Hv σ q v) {c : Nat} (h1 : 1 ≤ c) (hc : (c : Int) < σ 0) : (nx σ c < 100 → nx (us σ (104 + q) v) c = nx σ c) ∧ (100 ≤ nx σ c → nx (us σ (104 + q) v) c = sf (us σ (104 + q) v) c) := by
  have h0 := hB.1
  have hq := hv.1
  have h7 := bo hB h1 hc
  have e20 : us σ (104 + q) v (20 + c) = σ (20 + c) := us_ne _ _ (by omega)
  have e32 : us σ (104 + q) v (32 + c) = σ (32 + c) := us_ne _ _ (by omega)
  have e44 : us σ (104 + q) v (44 + c) = σ (44 + c) := us_ne _ _ (by omega)
  have ecf : cf (us σ (104 + q) v) (σ (20 + c)).toNat = cf σ (σ (20 + c)).toNat := cf_us hB (by omega)
  have h6 := oc_lt hB 12 (σ (20 + c)).toNat 0 (by omega) (by omega)
  have e6 : cf σ (σ (20 + c)).toNat = oc σ 12 (σ (20 + c)).toNat 0 := rfl
  unfold nx
  rw [e20, ecf]
  by_cases k : cf σ (σ (20 + c)).toNat = 0
  · rw [if_pos k, if_pos k]
    refine ⟨fun hlt => ?_, fun _ => rfl⟩
    unfold sf at hlt ⊢
    rw [e32]
    by_cases k2 : σ (32 + c) = 2
    · rw [if_pos k2, if_pos k2]
      exact sfc_us hB hv hc
    · rw [if_neg k2] at hlt
      rw [if_neg k2, if_neg k2]
      have hbp := bp hB h1 hc
      have h9 := lhp_b hB
      unfold sft at hlt ⊢
      rw [e32, e44, e20]
      split at hlt
      · omega
      · rename_i k3
        have h3 := hbp.2.2.1 (by omega)
        split at hlt
        · omega
        · rename_i k4
          unfold sth at hlt
          by_cases k5 : cf σ (σ (104 + (σ (44 + c)).toNat)).toNat = 0
          · rw [if_pos k5] at hlt
            split at hlt <;> omega
          · have hne : 104 + (σ (44 + c)).toNat ≠ 104 + q := by
              intro t
              rw [t] at k5
              exact k5 hv.2.2.1
            have el : us σ (104 + q) v (104 + (σ (44 + c)).toNat) = σ (104 + (σ (44 + c)).toNat) := us_ne _ _ hne
            unfold sth
            rw [el, if_neg k3, if_neg k3, if_neg k4, if_neg k4, cf_us hB (lies_r hB (by omega)), if_neg k5, if_neg k5]
  · rw [if_neg k, if_neg k]
    exact ⟨fun _ => rfl, fun t => by omega⟩
end CH
