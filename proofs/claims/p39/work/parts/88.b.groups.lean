/-! the law's look at groups and results -/
section GR
variable {X R : Mem} {σ : Nat → Int} {n : Nat} {B : Int}
theorem grp2_L (h : SR X R σ) (hI : Iv n σ) (hJ : J B σ) (hn : n ≤ 600) : ∀ (d r f : Nat), (r : Int) + d = σ 4 → d < f → fL_groups_L141 f X (zI ((bhd σ (σ 3).toNat : Nat) : Int)) (wns σ r) (zI (r : Int)) = some 1 := by
  have hN := hI.2.1
  have hJr := hJ.1.2.2.1
  intro d
  induction d with
  | zero =>
    intro r f hr hf
    obtain ⟨f, rfl⟩ := ex_succ hf
    rw [fL_groups_L141, q_c7 h, bnd_some, if_pos (show zI (σ 4) ≤ zI (r : Int) by rw [zle] <;> omega), q_c4 h hI hn, bnd_some, if_pos rfl, q_c8 h hI, bnd_some, show r = (σ 4).toNat by omega, if_pos rfl, q_c3 h, bnd_some, q_groupU h hI, bnd_some, if_pos rfl, bnd_some, q_resU h hI, if_pos rfl]
  | succ d ih =>
    intro r f hr hf
    obtain ⟨f, rfl⟩ := ex_succ hf
    have hr4 : (r : Int) < σ 4 := by omega
    obtain ⟨j1, j2, j3⟩ := hJr r hr4
    have e4 : fX7_result X (zI (r : Int)) 4 = zI (σ (196 + 7 * r)) := q_res h hI (w := 4) hr4 (by omega)
    have e2 : fX7_result X (zI (r : Int)) 2 = zI (σ (194 + 7 * r)) := q_res h hI (w := 2) hr4 (by omega)
    have e1 : fX7_result X (zI (r : Int)) 1 = zI (σ (193 + 7 * r)) := q_res h hI (w := 1) hr4 (by omega)
    have e3 : fX7_result X (zI (r : Int)) 3 = zI (σ (195 + 7 * r)) := q_res h hI (w := 3) hr4 (by omega)
    have e5 : fX7_result X (zI (r : Int)) 5 = zI (σ (197 + 7 * r)) := q_res h hI (w := 5) hr4 (by omega)
    have q := ih (r + 1) f (by omega) (by omega)
    rw [fL_groups_L141, q_c7 h, bnd_some, if_neg (show ¬ zI (σ 4) ≤ zI (r : Int) by rw [zle] <;> omega), e4, e2, e1, e3, e5, thn_eq, if_neg (show ¬ zI (σ (194 + 7 * r)) < zI (σ (193 + 7 * r)) by rw [zlt] <;> omega), if_neg (show ¬ (120 : Int32) < zI (σ (195 + 7 * r)) by rw [zc120, zlt] <;> omega), if_pos (show zI (σ (197 + 7 * r)) ≤ 9 by rw [zc9, zle] <;> omega), zsuc]
    exact q
theorem grp1_L (h : SR X R σ) (hI : Iv n σ) (hJ : J B σ) (hn : n ≤ 600) : ∀ (d g f : Nat), (g : Int) + d = σ 3 → d < f → fL_groups_L41 f X (zI ((bhd σ g : Nat) : Int)) 0 (zI (lst σ g (lst0 σ))) (zI (g : Int)) = some 1 := by
  have hN := hI.2.1
  have hJq := hJ.1.2.1
  intro d
  induction d with
  | zero =>
    intro g f hg hf
    obtain ⟨f, rfl⟩ := ex_succ hf
    rw [fL_groups_L41, q_c3 h, bnd_some, if_pos (show zI (σ 3) ≤ zI (g : Int) by rw [zle] <;> omega), show g = (σ 3).toNat by omega]
    exact grp2_L h hI hJ hn (σ 4).toNat 0 5000 (by omega) (by omega)
  | succ d ih =>
    intro g f hg hf
    obtain ⟨f, rfl⟩ := ex_succ hf
    have hg3 : (g : Int) < σ 3 := by omega
    have hw := (hI.2.2.2.2.1 g (by omega) hg3).2
    have hb := lst_b hI hn g (by omega)
    have q := ih (g + 1) f (by omega) (by omega)
    have mx : fL_max X (zI (lst σ g (lst0 σ))) (zI (σ (184 + g))) = zI (max (lst σ g (lst0 σ)) (σ (184 + g))) := max_n X (by omega) (by omega) (by omega) (by omega)
    have hprev : ¬ zI (g : Int) ≤ 0 → fX7_group X (zI (g : Int) - 1) 1 = some (zI (σ (184 + (g - 1)))) ∧ zI (σ (184 + (g - 1))) ≤ zI (σ (184 + g)) := by
      intro hg0
      have hg1 : 1 ≤ g := by
        rcases Nat.eq_zero_or_pos g with z | z
        · subst z; exact absurd (by decide) hg0
        · exact z
      have hw1 := (hI.2.2.2.2.1 (g - 1) (by omega) (by omega)).2
      have hs := hJq.1 (g - 1) (by omega)
      rw [show g - 1 + 1 = g by omega] at hs
      refine ⟨?_, by rw [zle] <;> omega⟩
      rw [zc1, zsub, show (g : Int) - 1 = ((g - 1 : Nat) : Int) by omega]
      exact q_group1 h hI (by omega)
    have nx : zI (max (lst σ g (lst0 σ)) (σ (184 + g))) + zI (σ 6) + 10 = zI (lst σ (g + 1) (lst0 σ)) := by
      rw [zc10, zadd, zadd]
      rfl
    rw [fL_groups_L41, q_c3 h, bnd_some, if_neg (show ¬ zI (σ 3) ≤ zI (g : Int) by rw [zle] <;> omega), q_group1 h hI hg3, bnd_some, q_c5 h, bnd_some]
    by_cases c : σ 9 ≤ σ (184 + g)
    · have eb : bhd σ (g + 1) = bhd σ g := cnt_f (by simp only [decide_eq_false_iff_not]; omega)
      rw [eb] at q
      rw [if_pos (show zI (σ 9) ≤ zI (σ (184 + g)) by rw [zle] <;> omega), q_group2 h hI hn hg3, bnd_some, mx, if_pos rfl]
      by_cases c0 : zI (g : Int) ≤ 0
      · rw [if_pos c0, q_c12 h, bnd_some, nx, thn_eq, z_0, zsuc]
        exact q
      · obtain ⟨p1, p2⟩ := hprev c0
        rw [if_neg c0, p1, bnd_some, if_pos p2, q_c12 h, bnd_some, nx, thn_eq, z_0, zsuc]
        exact q
    · have eb : bhd σ (g + 1) = bhd σ g + 1 := cnt_t (by simp only [decide_eq_true_eq]; omega)
      rw [eb] at q
      rw [if_neg (show ¬ zI (σ 9) ≤ zI (σ (184 + g)) by rw [zle] <;> omega), q_group2 h hI hn hg3, bnd_some, mx, if_pos rfl]
      by_cases c0 : zI (g : Int) ≤ 0
      · rw [if_pos c0, q_c12 h, bnd_some, nx, thn_eq, zsuc, zsuc]
        exact q
      · obtain ⟨p1, p2⟩ := hprev c0
        rw [if_neg c0, p1, bnd_some, if_pos p2, q_c12 h, bnd_some, nx, thn_eq, zsuc, zsuc]
        exact q
theorem groups_n (h : SR X R σ) (hI : Iv n σ) (hJ : J B σ) (hn : n ≤ 600) : fL_groups X = some 1 := by
  have hN := hI.2.1
  have q := grp1_L h hI hJ hn (σ 3).toNat 0 5000 (by omega) (by omega)
  have e0 : lst σ 0 (lst0 σ) = lst0 σ := rfl
  rw [e0] at q
  unfold lst0 at q
  unfold fL_groups
  rw [q_c14 h hI, bnd_some]
  by_cases c : σ 10 = 1
  · rw [if_pos c] at q
    rw [i1_t c, if_pos rfl, q_game1 h hI c, bnd_some, q_c12 h, bnd_some, zc10, zadd, zadd, thn_eq]
    exact q
  · rw [if_neg c] at q
    rw [i1_f c, if_neg (by decide), q_c5 h, bnd_some]
    exact q
end GR
