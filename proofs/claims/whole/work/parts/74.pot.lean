def pot (σ : Nat → Int) (b : Nat) : Nat := if σ (32 + b) = 2 ∨ sat σ b then 0 else if σ (104 + (σ (44 + b)).toNat) = -1 then 1 else if (heldN σ : Int) < σ 11 then 2 else 3
theorem pot_le (σ : Nat → Int) (b : Nat) : pot σ b ≤ 3 := by
  unfold pot
  split
  · omega
  · split
    · omega
    · split <;> omega
theorem cnt_c {P Q : Nat → Bool} : ∀ n, (∀ i, i < n → Q i = P i) → cnt Q n = cnt P n := by
  intro n
  induction n with
  | zero => intro _; rfl
  | succ n ih =>
    intro h
    have e := ih (fun i hi => h i (by omega))
    rcases hp : P n with _ | _
    · rw [cnt_f (by rw [h n (by omega)]; exact hp), cnt_f hp, e]
    · rw [cnt_t (by rw [h n (by omega)]; exact hp), cnt_t hp, e]
theorem cnt_1 {P Q : Nat → Bool} {b : Nat} (h : ∀ i, i ≠ b → Q i = P i) : ∀ n, cnt Q n ≤ cnt P n + 1 := by
  intro n
  induction n with
  | zero => unfold cnt; omega
  | succ n ih =>
    by_cases c : n = b
    · subst c
      have e := cnt_c (P := P) (Q := Q) n (fun i hi => h i (by omega))
      rcases hp : P n with _ | _ <;> rcases hq : Q n with _ | _
      · rw [cnt_f hp, cnt_f hq]; omega
      · rw [cnt_f hp, cnt_t hq]; omega
      · rw [cnt_t hp, cnt_f hq]; omega
      · rw [cnt_t hp, cnt_t hq]; omega
    · rcases hp : P n with _ | _
      · rw [cnt_f hp, cnt_f (by rw [h n c]; exact hp)]; exact ih
      · rw [cnt_t hp, cnt_t (by rw [h n c]; exact hp)]; omega
section PO
variable {σ : Nat → Int}
theorem held_up {q : Nat} {v : Int} : heldN (us σ (104 + q) v) ≤ heldN σ + 1 := by
  unfold heldN
  rw [us_ne _ _ (show 1 ≠ 104 + q by omega)]
  exact cnt_1 (b := q) (fun i hi => by rw [us_ne _ _ (show 104 + i ≠ 104 + q by omega)]) _
theorem held_dn {q : Nat} {v : Int} (hq : (q : Int) < σ 1) (h : σ (104 + q) = -1) (hv : v ≠ -1) : heldN (us σ (104 + q) v) < heldN σ := by
  unfold heldN
  rw [us_ne _ _ (show 1 ≠ 104 + q by omega)]
  exact cnt_lt _ q (by omega) (by simp [h]) (by simp [us_at, hv]) (fun i hi => by rw [us_ne _ _ (show 104 + i ≠ 104 + q by omega)])
theorem cf_0 (hB : RB σ) : cf σ 0 = 0 := by unfold cf oc; rw [if_pos rfl]
theorem mv_prop (hB : RB σ) (h11 : 1 ≤ σ 11 ∧ σ 11 ≤ 6) (hh : (heldN σ : Int) ≤ σ 11) {B : Nat} (h1 : 1 ≤ B) (hb : (B : Int) < σ 0) (hc : cf σ (σ (20 + B)).toNat = 0) (hsf : 100 ≤ sf σ B) (hns : ¬ (σ (32 + B) = 2 ∨ sat σ B)) : ∃ q v, Hv σ q v ∧ (heldN (us σ (104 + q) v) : Int) ≤ σ 11 ∧ pot (us σ (104 + q) v) B < pot σ B ∧ 100 ≤ sf (us σ (104 + q) v) B ∧ ((v = -1 ∧ sf σ B = 100 + q) ∨ (0 ≤ v ∧ sf σ B = 200 + q + 1000 * v)) := by
  have h0 := hB.1
  have hbp := bp hB h1 hb
  have h7 := bo hB h1 hb
  have hl2 : ¬ σ (32 + B) = 2 := fun t => hns (Or.inl t)
  have hnsat : ¬ sat σ B := fun t => hns (Or.inr t)
  have hit := hbp.2.2.1 (by unfold sat at hnsat; omega)
  obtain ⟨p, hp⟩ : ∃ p : Nat, σ (44 + B) = p := ⟨(σ (44 + B)).toNat, by omega⟩
  have hpn : (σ (44 + B)).toNat = p := by omega
  have hlies := pr hB (p := p) (by omega)
  have f20 : ∀ q v, us σ (104 + q) v (20 + B) = σ (20 + B) := fun q v => us_ne _ _ (by omega)
  have f32 : ∀ q v, us σ (104 + q) v (32 + B) = σ (32 + B) := fun q v => us_ne _ _ (by omega)
  have f44 : ∀ q v, us σ (104 + q) v (44 + B) = σ (44 + B) := fun q v => us_ne _ _ (by omega)
  have f11 : ∀ q v, us σ (104 + q) v 11 = σ 11 := fun q v => us_ne _ _ (by omega)
  have psat : ∀ q v, sat (us σ (104 + q) v) B ↔ (σ (32 + B) = 0 ∨ (σ (32 + B) = 1 ∧ us σ (104 + q) v (104 + p) = -1) ∨ (σ (32 + B) = 3 ∧ us σ (104 + q) v (104 + p) = σ (20 + B))) := fun q v => by
    unfold sat
    rw [f20, f32, f44, hpn]
  have nl2 : ∀ q v, ¬ us σ (104 + q) v (32 + B) = 2 := fun q v => by rw [f32]; exact hl2
  have psf_t : ∀ q v, sat (us σ (104 + q) v) B → sf (us σ (104 + q) v) B = 300 + (B : Int) := fun q v hs => by
    unfold sf sft
    rw [if_neg (nl2 q v), if_pos hs]
  have psf_n : ∀ q v, ¬ sat (us σ (104 + q) v) B → sf (us σ (104 + q) v) B = if us σ (104 + q) v (104 + p) = -1 then 200 + σ (44 + B) + 1000 * σ (20 + B) else sth (us σ (104 + q) v) p := fun q v hs => by
    unfold sf sft
    rw [if_neg (nl2 q v), if_neg hs, f44, f20, hpn]
  have pot0 : pot σ B = if σ (104 + p) = -1 then 1 else if (heldN σ : Int) < σ 11 then 2 else 3 := by
    unfold pot
    rw [if_neg hns, hpn]
  have sf0 : sf σ B = if σ (104 + p) = -1 then 200 + σ (44 + B) + 1000 * σ (20 + B) else sth σ p := by
    unfold sf sft
    rw [if_neg hl2, hpn, if_neg (by unfold sat at hnsat; rw [hpn] at hnsat; exact hnsat)]
  unfold sat at hnsat
  rw [hpn] at hnsat
  by_cases k1 : σ (104 + p) = -1
  · -- a plate: the thing is held
    have l3 : σ (32 + B) = 3 := by omega
    rw [if_pos k1] at sf0 pot0
    have hd := held_dn (σ := σ) (q := p) (v := σ (20 + B)) (by omega) k1 (by omega)
    have hs : sat (us σ (104 + p) (σ (20 + B))) B := by rw [psat]; right; right; exact ⟨l3, us_at _ _ _⟩
    refine ⟨p, σ (20 + B), ⟨by omega, by omega, by rw [k1]; exact cf_0 hB, hc⟩, by omega, ?_, ?_, Or.inr ⟨by omega, by omega⟩⟩
    · rw [pot0]; unfold pot; rw [if_pos (Or.inr hs)]; omega
    · rw [psf_t _ _ hs]; omega
  · rw [if_neg k1] at sf0 pot0
    have hcl : cf σ (σ (104 + p)).toNat = 0 := by
      rcases Nat.eq_zero_or_pos (cf σ (σ (104 + p)).toNat) with t | t
      · exact t
      · have := cfl_r hB (p := p) (by omega)
        rw [sf0] at hsf
        unfold sth at hsf
        rw [if_neg (by omega)] at hsf
        omega
    by_cases k2 : (heldN σ : Int) < σ 11
    · -- it is taken
      rw [if_pos k2] at pot0
      have e : sf σ B = 100 + p := by rw [sf0]; unfold sth; rw [if_pos hcl, if_pos k2]
      have hu := held_up (σ := σ) (q := p) (v := -1)
      refine ⟨p, -1, ⟨by omega, by omega, hcl, by show cf σ 0 = 0; exact cf_0 hB⟩, by omega, ?_, ?_, Or.inl ⟨rfl, e⟩⟩
      · rw [pot0]
        unfold pot
        rw [if_pos (show us σ (104 + p) (-1) (104 + (us σ (104 + p) (-1) (44 + B)).toNat) = -1 by rw [f44, hpn, us_at])]
        split <;> omega
      · by_cases hs : sat (us σ (104 + p) (-1)) B
        · rw [psf_t _ _ hs]; omega
        · rw [psf_n _ _ hs, us_at, if_pos rfl]; omega
    · -- the lowest held is laid
      rw [if_neg k2] at pot0
      have hpos : 0 < heldN σ := by omega
      have hls := lhp_spec hpos
      have e : sf σ B = 200 + (lhp σ : Nat) := by rw [sf0]; unfold sth; rw [if_pos hcl, if_neg k2]
      have hne : p ≠ lhp σ := by
        intro t
        rw [t] at k1
        exact k1 hls.2
      have hd := held_dn (σ := σ) (q := lhp σ) (v := 0) (by omega) hls.2 (by omega)
      have el : us σ (104 + lhp σ) 0 (104 + p) = σ (104 + p) := us_ne _ _ (by omega)
      have hn' : ¬ sat (us σ (104 + lhp σ) 0) B := by rw [psat, el]; exact hnsat
      have hv : Hv σ (lhp σ) 0 := ⟨by omega, by omega, by rw [hls.2]; exact cf_0 hB, cf_0 hB⟩
      refine ⟨lhp σ, 0, hv, by omega, ?_, ?_, Or.inr ⟨by omega, by omega⟩⟩
      · rw [pot0]
        unfold pot
        rw [if_neg (fun t => t.elim (fun t => hl2 (by rw [f32] at t; exact t)) hn'), if_neg (show ¬ us σ (104 + lhp σ) 0 (104 + (us σ (104 + lhp σ) 0 (44 + B)).toNat) = -1 by rw [f44, hpn, el]; exact k1), if_pos (show (heldN (us σ (104 + lhp σ) 0) : Int) < us σ (104 + lhp σ) 0 11 by rw [f11]; omega)]
        omega
      · rw [psf_n _ _ hn', el, if_neg k1]
        unfold sth
        have := cfl_us hB hv (p := p) (by omega)
        rw [this, if_pos hcl, f11, if_pos (by omega)]
        omega
end PO
