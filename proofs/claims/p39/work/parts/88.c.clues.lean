/-! the law's look at clues -/
section CQ
variable {X R : Mem} {σ : Nat → Int} {n : Nat} {B : Int}
theorem unit_L {K : Int32 → Int32 → Int32 → Int32 → Int32 → Int32 → Int32 → Int32 → Option Int32} {x1 x2 x3 x4 x5 x6 x7 : Int32} {p : Int} (hp : 0 ≤ p ∧ p ≤ 3) : fL_clues_I63 K 5000 x1 x2 x3 x4 x5 x6 x7 1 (zI p) = K x1 x2 x3 x4 x5 x6 x7 (zI (if p = 0 then 1000 else if p = 1 then 100 else if p = 2 then 10 else 1)) := by
  have : p = 0 ∨ p = 1 ∨ p = 2 ∨ p = 3 := by omega
  rcases this with rfl | rfl | rfl | rfl
  · rw [fL_clues_I63, if_neg (by decide), fL_clues_I63, if_neg (by decide), fL_clues_I63, if_neg (by decide), fL_clues_I63, if_pos (by decide)]; rfl
  · rw [fL_clues_I63, if_neg (by decide), fL_clues_I63, if_neg (by decide), fL_clues_I63, if_pos (by decide)]; rfl
  · rw [fL_clues_I63, if_neg (by decide), fL_clues_I63, if_pos (by decide)]; rfl
  · rw [fL_clues_I63, if_pos (by decide)]; rfl
theorem dgt_u (hB : RB σ) {c : Nat} (hc : (c : Int) < σ 2) : irm (zI (σ (44 + (σ (140 + c)).toNat)) / zI (if σ (152 + c) = 0 then 1000 else if σ (152 + c) = 1 then 100 else if σ (152 + c) = 2 then 10 else 1)) 10 = zI (dgt σ c) := by
  have h0 := hB.1
  obtain ⟨-, hb, hl, hp, -⟩ := cl hB hc
  have hq := bp hB (b := (σ (140 + c)).toNat) (by omega) (by omega)
  have h44 := hq.2.2.2 hl
  unfold dgt
  dsimp only
  generalize σ (44 + (σ (140 + c)).toNat) = v at *
  rw [zc10]
  have : σ (152 + c) = 0 ∨ σ (152 + c) = 1 ∨ σ (152 + c) = 2 ∨ σ (152 + c) = 3 := by omega
  rcases this with e | e | e | e
  · rw [if_pos e, if_pos e, zdiv (by omega) (by omega) (by omega) (by omega), zirm (by omega) (by omega) (by omega) (by omega)]
  · rw [if_neg (by omega), if_pos e, if_neg (by omega), if_pos e, zdiv (by omega) (by omega) (by omega) (by omega), zirm (by omega) (by omega) (by omega) (by omega)]
  · rw [if_neg (by omega), if_neg (by omega), if_pos e, if_neg (by omega), if_neg (by omega), if_pos e, zdiv (by omega) (by omega) (by omega) (by omega), zirm (by omega) (by omega) (by omega) (by omega)]
  · rw [if_neg (by omega), if_neg (by omega), if_neg (by omega), if_neg (by omega), if_neg (by omega), if_neg (by omega), zdiv (by omega) (by omega) (by omega) (by omega), show v / 1 = v by omega, zirm (by omega) (by omega) (by omega) (by omega)]
theorem ks_b (σ : Nat → Int) (hB : RB σ) : ∀ (d i : Nat) (l : Int), (i : Int) + d = σ 2 → 0 ≤ l → 0 ≤ ks σ d i l ∧ ks σ d i l ≤ l := by
  intro d
  induction d with
  | zero => intro i l _ hl; unfold ks; omega
  | succ d ih =>
    intro i l hi hl
    have hc := cl hB (c := i) (by omega)
    unfold ks
    split
    · have := ih (i + 1) (l - (9 - σ (164 + i))) (by omega) (by omega)
      omega
    · exact ih (i + 1) l (by omega) hl
theorem ks_s (σ : Nat → Int) (d i : Nat) (l : Int) : ks σ (d + 1) i l = if σ (164 + i) ≤ 3 ∧ 9 - σ (164 + i) ≤ l then 9 - σ (164 + i) + ks σ d (i + 1) (l - (9 - σ (164 + i))) else ks σ d (i + 1) l := rfl
theorem kn_s (σ : Nat → Int) (d i : Nat) (l : Int) : kn σ (d + 1) i l = if σ (164 + i) ≤ 3 ∧ 9 - σ (164 + i) ≤ l then 1 + kn σ d (i + 1) (l - (9 - σ (164 + i))) else kn σ d (i + 1) l := rfl
theorem clue_L (h : SR X R σ) (hI : Iv n σ) (hn : n ≤ 600) : ∀ (d i f : Nat) (u w : Int), (i : Int) + d = σ 2 → d < f → (0 ≤ u ∧ u ≤ σ 8) → u + ks σ d i (σ 8 - u) = ks σ (σ 2).toNat 0 (σ 8) → w + kn σ d i (σ 8 - u) = kn σ (σ 2).toNat 0 (σ 8) → fL_clues_L17 f X (zI (cnt (fun c => decide (σ (164 + c) ≤ 3)) i : Nat)) (zI (σ 8)) (zI u) (zI w) (zI (i : Int)) = some 1 := by
  have hB := hI.1
  have h0 := hB.1
  have hN := hI.2.1
  intro d
  induction d with
  | zero =>
    intro i f u w hi hf hu hks hkn
    obtain ⟨f, rfl⟩ := ex_succ hf
    have e1 : u = ks σ (σ 2).toNat 0 (σ 8) := by rw [← hks]; show u = u + 0; omega
    have e2 : w = kn σ (σ 2).toNat 0 (σ 8) := by rw [← hkn]; show w = w + 0; omega
    have e3 : ple σ = cnt (fun c => decide (σ (164 + c) ≤ 3)) i := by unfold ple; rw [show (σ 2).toNat = i by omega]
    rw [fL_clues_L17, q_c2 h, bnd_some, if_pos (show zI (σ 2) ≤ zI (i : Int) by rw [zle] <;> omega), q_d2 h hI, bnd_some, e3, if_pos rfl, q_d4 h hI hn, bnd_some, e1, if_pos rfl, q_d3 h hI hn, bnd_some, q_d0 h hI, bnd_some, q_d1 h hI, bnd_some, rmm_eq, zadd, zadd, e2, if_pos rfl, q_d5, bnd_some, if_pos rfl]
  | succ d ih =>
    intro i f u w hi hf hu hks hkn
    obtain ⟨f, rfl⟩ := ex_succ hf
    have hi2 : (i : Int) < σ 2 := by omega
    obtain ⟨k1, k2, k3, k4, k5⟩ := cl hB hi2
    obtain ⟨b, hb⟩ : ∃ b : Nat, σ (140 + i) = b := ⟨(σ (140 + i)).toNat, by omega⟩
    obtain ⟨p, hp⟩ : ∃ p : Nat, σ (128 + i) = p := ⟨(σ (128 + i)).toNat, by omega⟩
    have hbt : (σ (140 + i)).toNat = b := by omega
    have hpt : (σ (128 + i)).toNat = p := by omega
    have hdg := dgt_u hB hi2
    rw [hbt] at hdg k3
    have hu0 : ¬ zI (if σ (152 + i) = 0 then 1000 else if σ (152 + i) = 1 then 100 else if σ (152 + i) = 2 then 10 else 1) = 0 := by
      split
      · decide
      · split
        · decide
        · split <;> decide
    have hch : ch σ i = ph σ p := by unfold ch; rw [hpt]
    rw [fL_clues_L17, q_c2 h, bnd_some, if_neg (show ¬ zI (σ 2) ≤ zI (i : Int) by rw [zle] <;> omega), q_clue3 h hI hi2, bnd_some, q_clue1 h hI hi2, bnd_some, hb, q_box6 h hI (by omega), bnd_some, if_neg (show ¬ b = 0 by omega), q_clue2 h hI hi2, bnd_some, unit_L (by omega), q_clue4 h hI hi2, bnd_some, if_pos hu0, hdg, if_pos rfl, q_clue5 h hI hi2, bnd_some, q_clue0 h hI hi2, bnd_some, hp, q_prop2 h hI (by omega), bnd_some, hch, if_pos rfl, if_neg (show ¬ zI (σ (164 + i)) < 0 by rw [zc0, zlt] <;> omega), if_neg (show ¬ (9 : Int32) < zI (σ (164 + i)) by rw [zc9, zlt] <;> omega), q_clue1 h hI hi2, bnd_some, hb, q_box1 h hI (by omega), bnd_some, if_neg (show ¬ b = 0 by omega), k3, if_pos (show zI 2 = 2 from rfl)]
    rw [ks_s] at hks
    rw [kn_s] at hkn
    by_cases c4 : σ (164 + i) ≤ 3
    · have e := cnt_t (P := fun c => decide (σ (164 + c) ≤ 3)) (i := i) (by simpa using c4)
      have n4 : ¬ (4 : Int32) ≤ zI (σ (164 + i)) := by rw [zc4, zle] <;> omega
      by_cases c5 : 9 - σ (164 + i) ≤ σ 8 - u
      · rw [if_pos ⟨c4, c5⟩] at hks hkn
        have q := ih (i + 1) f (u + (9 - σ (164 + i))) (w + 1) (by omega) (by omega) (by omega) (by rw [show σ 8 - (u + (9 - σ (164 + i))) = σ 8 - u - (9 - σ (164 + i)) by omega]; omega) (by rw [show σ 8 - (u + (9 - σ (164 + i))) = σ 8 - u - (9 - σ (164 + i)) by omega]; omega)
        rw [e] at q
        rw [if_neg n4, if_neg n4, zc9, zsub, zsub, if_neg (show ¬ zI (σ 8 - u) < zI (9 - σ (164 + i)) by rw [zlt] <;> omega), zadd, thn_eq, zsuc, zsuc, zc1, zadd]
        exact q
      · rw [if_neg (fun z => c5 z.2)] at hks hkn
        have q := ih (i + 1) f u w (by omega) (by omega) hu hks hkn
        rw [e] at q
        rw [if_neg n4, if_neg n4, zc9, zsub, zsub, if_pos (show zI (σ 8 - u) < zI (9 - σ (164 + i)) by rw [zlt] <;> omega), zsuc, zsuc]
        exact q
    · have e := cnt_f (P := fun c => decide (σ (164 + c) ≤ 3)) (i := i) (by simpa using c4)
      have y4 : (4 : Int32) ≤ zI (σ (164 + i)) := by rw [zc4, zle] <;> omega
      rw [if_neg (fun z => c4 z.1)] at hks hkn
      have q := ih (i + 1) f u w (by omega) (by omega) hu hks hkn
      rw [e] at q
      rw [if_pos y4, if_pos y4, z_0, zsuc]
      exact q
theorem clues_n (h : SR X R σ) (hI : Iv n σ) (hn : n ≤ 600) : fL_clues X = some 1 := by
  have hB := hI.1
  have h0 := hB.1
  have hN := hI.2.1
  unfold fL_clues
  rw [q_c6 h, bnd_some]
  exact clue_L h hI hn (σ 2).toNat 0 5000 0 0 (by omega) (by omega) (by omega) (by rw [show σ 8 - 0 = σ 8 by omega]; omega) (by rw [show σ 8 - 0 = σ 8 by omega]; omega)
end CQ
