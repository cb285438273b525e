/-! the next step can be done as it is told -/
/-- after an act -/
def Out (B : Int) (n : Nat) (X' : Mem) : Prop := ∃ R' σ', SR X' R' σ' ∧ Iv (n + 1) σ' ∧ J B σ'
theorem DnP.out {B m : Int} {n : Nat} {σ σ' : Nat → Int} {X' : Mem} (h : DnP B n σ m X' σ') : Out B n X' := by
  obtain ⟨R', a, b, c, -⟩ := h
  exact ⟨R', σ', a, b, c⟩
theorem OvP.out {B : Int} {n : Nat} {σ σ' : Nat → Int} {X' : Mem} (h : OvP B n σ X' σ') : Out B n X' := by
  obtain ⟨R', a, b, c, -⟩ := h
  exact ⟨R', σ', a, b, c⟩
theorem oc_op (σ : Nat → Int) : ∀ f b c : Nat, oc σ f b c = c ∨ (σ (56 + oc σ f b c) ≠ 1 ∧ oc σ f b c ≠ 0) := by
  intro f
  induction f with
  | zero => intro b c; exact Or.inl rfl
  | succ f ih =>
    intro b c
    unfold oc
    split
    · exact Or.inl rfl
    · rename_i hb
      split
      · exact ih _ _
      · rename_i ho
        rcases ih (σ (20 + b)).toNat b with q | q
        · rw [q]; exact Or.inr ⟨ho, hb⟩
        · exact Or.inr q
theorem cf_cl (σ : Nat → Int) {b : Nat} (h : cf σ b ≠ 0) : σ (56 + cf σ b) ≠ 1 := by
  rcases oc_op σ 12 b 0 with q | q
  · exact absurd q h
  · exact q.1
theorem bf_t (σ : Nat → Int) (b k : Nat) : ∀ i e, (0 ≤ bf σ b k i e ∧ bf σ b k i e < i ∧ cmh σ b k (bf σ b k i e).toNat = true) ∨ bf σ b k i e = e := by
  intro i
  induction i with
  | zero => intro e; exact Or.inr rfl
  | succ i ih =>
    intro e
    unfold bf
    by_cases c : cmh σ b k i = true ∧ (e < 0 ∨ σ (164 + e.toNat) ≤ σ (164 + i))
    · rw [if_pos c]
      rcases ih (i : Int) with q | q
      · exact Or.inl ⟨q.1, by omega, q.2.2⟩
      · rw [q]
        exact Or.inl ⟨by omega, by omega, by simpa using c.1⟩
    · rw [if_neg c]
      rcases ih e with q | q
      · exact Or.inl ⟨q.1, by omega, q.2.2⟩
      · exact Or.inr q
theorem lu15 : ∀ a, a < 16 → lu (zI ((a : Nat) : Int)) 4 0 = 4 → a = 15 := by decide +kernel
/-- what a step is, of a box that is closed and before which all is open -/
def Kd (σ : Nat → Int) (a : Int) : Prop :=
  (∃ p : Nat, a = 100 + p ∧ (p : Int) < σ 1 ∧ ph σ p ∧ σ (104 + p) ≠ -1) ∨
  (∃ p b : Nat, a = 200 + p + 1000 * b ∧ (p : Int) < σ 1 ∧ (b : Int) < σ 0 ∧ σ (104 + p) = -1 ∧ cf σ b = 0) ∨
  (∃ b : Nat, a = 300 + b ∧ 1 ≤ b ∧ (b : Int) < σ 0 ∧ (σ (56 + b) ≠ 1 ∧ bh σ b ∧ lts σ b) ∧ (σ (32 + b) = 2 → σ (68 + b) = 15)) ∨
  (∃ c : Nat, a = 400 + c ∧ (c : Int) < σ 2 ∧ ch σ c ∧ σ (164 + c) ≠ 0) ∨
  (∃ k b : Nat, a = 500 + k + 1000 * b ∧ k < 4)
theorem sf_k {σ : Nat → Int} (hB : RB σ) (hx : ∀ b : Nat, b < 12 → 0 ≤ σ (68 + b) ∧ σ (68 + b) ≤ 15) (h11 : 1 ≤ σ 11) {b : Nat} (h1 : 1 ≤ b) (hb : (b : Int) < σ 0) (hc : σ (56 + b) ≠ 1) (ho : cf σ (σ (20 + b)).toNat = 0) : (sf σ b < 100 ∧ σ (56 + (sf σ b).toNat) ≠ 1 ∧ 1 ≤ sf σ b ∧ sf σ b < σ 0) ∨ Kd σ (sf σ b) := by
  have h0 := hB.1
  have hbh : bh σ b := Or.inr ho
  unfold sf
  by_cases c : σ (32 + b) = 2
  · rw [if_pos c]
    unfold sfc
    have h4 := lu_le (zI (σ (68 + b))) 4 0
    by_cases c2 : lu (zI (σ (68 + b))) 4 0 = 4
    · rw [if_pos c2]
      have hk := hx b (by omega)
      obtain ⟨a, ha⟩ : ∃ a : Nat, σ (68 + b) = a := ⟨(σ (68 + b)).toNat, by omega⟩
      rw [ha] at c2
      have := lu15 a (by omega) c2
      exact Or.inr (Or.inr (Or.inr (Or.inl ⟨b, rfl, h1, hb, ⟨hc, hbh, Or.inr (Or.inl c)⟩, fun _ => by omega⟩)))
    · rw [if_neg c2]
      generalize hk : lu (zI (σ (68 + b))) 4 0 = k at *
      unfold sfe
      by_cases c3 : bf σ b k (σ 2).toNat (-1) < 0
      · rw [if_pos c3]
        by_cases c4 : lf (cma σ b k) (σ 2).toNat (-1) < 0
        · rw [if_pos c4]
          exact Or.inr (Or.inr (Or.inr (Or.inr (Or.inr ⟨k, b, rfl, by omega⟩))))
        · rw [if_neg c4]
          have q2 := lf_r (cma σ b k) (σ 2).toNat (-1)
          rcases q2 with q2 | q2
          · have q3 := bf_none σ b k _ _ c3 (lf (cma σ b k) (σ 2).toNat (-1)).toNat (by omega)
            have q4 := q2.2.2
            simp only [cmh, cma, decide_eq_true_eq, decide_eq_false_iff_not] at q3 q4
            have hcl := cl hB (c := (lf (cma σ b k) (σ 2).toNat (-1)).toNat) (by omega)
            have h5 := cfl_r hB (p := (σ (128 + (lf (cma σ b k) (σ 2).toNat (-1)).toNat)).toNat) (by omega)
            have h6 : cf σ (σ (104 + (σ (128 + (lf (cma σ b k) (σ 2).toNat (-1)).toNat)).toNat)).toNat ≠ 0 := fun t => q3 ⟨q4, t⟩
            refine Or.inl ⟨by omega, ?_, by omega, by omega⟩
            rw [Int.toNat_natCast]
            exact cf_cl σ h6
          · omega
      · rw [if_neg c3]
        rcases bf_t σ b k (σ 2).toNat (-1) with q | q
        · have q3 := q.2.2
          simp only [cmh, decide_eq_true_eq] at q3
          refine Or.inr (Or.inr (Or.inr (Or.inr (Or.inl ⟨(bf σ b k (σ 2).toNat (-1)).toNat, by omega, by omega, q3.2, by omega⟩))))
        · omega
  · rw [if_neg c]
    have h := bp hB h1 hb
    have h7 := bo hB h1 hb
    unfold sft
    by_cases c3 : σ (32 + b) = 0 ∨ (σ (32 + b) = 1 ∧ σ (104 + (σ (44 + b)).toNat) = -1) ∨ (σ (32 + b) = 3 ∧ σ (104 + (σ (44 + b)).toNat) = σ (20 + b))
    · rw [if_pos c3]
      refine Or.inr (Or.inr (Or.inr (Or.inl ⟨b, rfl, h1, hb, ⟨hc, hbh, ?_⟩, fun q => absurd q c⟩)))
      rcases c3 with q | q | q
      · exact Or.inl q
      · exact Or.inr (Or.inr (Or.inl q))
      · exact Or.inr (Or.inr (Or.inr q))
    · rw [if_neg c3]
      have h3 := h.2.2.1 (by omega)
      obtain ⟨p, hp⟩ : ∃ p : Nat, σ (44 + b) = p := ⟨(σ (44 + b)).toNat, by omega⟩
      rw [hp, Int.toNat_natCast]
      have hp1 : (p : Int) < σ 1 := by omega
      have h6 := cfl_r hB hp1
      by_cases c4 : σ (104 + p) = -1
      · rw [if_pos c4]
        exact Or.inr (Or.inr (Or.inl ⟨p, (σ (20 + b)).toNat, by omega, hp1, by omega, c4, ho⟩))
      · rw [if_neg c4]
        unfold sth
        by_cases c5 : cf σ (σ (104 + p)).toNat = 0
        · rw [if_pos c5]
          by_cases c6 : (heldN σ : Int) < σ 11
          · rw [if_pos c6]
            exact Or.inr (Or.inl ⟨p, rfl, hp1, c5, c4⟩)
          · rw [if_neg c6]
            have hl := lhp_spec (σ := σ) (by omega)
            exact Or.inr (Or.inr (Or.inl ⟨lhp σ, 0, by omega, by omega, by omega, hl.2, by unfold cf oc; rw [if_pos rfl]⟩))
        · rw [if_neg c5]
          refine Or.inl ⟨by omega, ?_, by omega, by omega⟩
          rw [Int.toNat_natCast]
          exact cf_cl σ c5
theorem go_k {σ : Nat → Int} (hB : RB σ) (hx : ∀ b : Nat, b < 12 → 0 ≤ σ (68 + b) ∧ σ (68 + b) ≤ 15) (h11 : 1 ≤ σ 11) : ∀ (f b : Nat) (s : Int32), 1 ≤ b → (b : Int) < σ 0 → σ (56 + b) ≠ 1 → 100 ≤ go σ f s b → Kd σ (go σ f s b) := by
  have h0 := hB.1
  intro f
  induction f with
  | zero => intro b s _ _ _ h; unfold go at h; omega
  | succ f ih =>
    intro b s h1 hb hc hg
    have h7 := bo hB h1 hb
    have hob : (((σ (20 + b)).toNat : Nat) : Int) < σ 0 := by omega
    have h6 := oc_lt hB 12 (σ (20 + b)).toNat 0 hob (by omega)
    have e6 : cf σ (σ (20 + b)).toNat = oc σ 12 (σ (20 + b)).toNat 0 := rfl
    unfold go at hg ⊢
    by_cases c : bt s b = true
    · rw [if_pos c] at hg; omega
    · rw [if_neg c] at *
      unfold nx at *
      by_cases q : cf σ (σ (20 + b)).toNat = 0
      · rw [if_pos q] at *
        rcases sf_k hB hx h11 h1 hb hc q with ⟨k1, k2, k3, k4⟩ | k
        · rw [if_pos k1] at *
          exact ih _ _ (by omega) (by omega) k2 hg
        · by_cases c2 : sf σ b < 100
          · exfalso
            rcases k with ⟨p, e, _⟩ | ⟨p, b', e, _⟩ | ⟨b', e, _⟩ | ⟨p, e, _⟩ | ⟨p, b', e, _⟩ <;> omega
          · rw [if_neg c2] at *
            exact k
      · rw [if_neg q] at *
        rw [if_pos (show ((cf σ (σ (20 + b)).toNat : Nat) : Int) < 100 by omega)] at *
        rw [Int.toNat_natCast] at *
        exact ih _ _ (by omega) (by omega) (cf_cl σ q) hg
section DS
variable {X R : Mem} {σ : Nat → Int} {n : Nat} {B : Int}
theorem does_n (h : SR X R σ) (hI : Iv n σ) (hJ : J B σ) (hn : n ≤ 600) (c2 : σ 10 = 1) (h100 : stp σ ≠ -5) : ∃ X', fL_does X (zI (told (stp σ))) = some (1, X') ∧ Out B n X' := by
  have hB := hI.1
  have h0 := hB.1
  have hp := (hI.2.2.1 c2).1
  have hx := hJ.2 c2
  obtain ⟨R0, -, -, r3⟩ := R_step h.row hB hp.1 hp.2.1
  rcases r3 with r3 | ⟨r1, r2, -⟩
  · exact absurd r3 h100
  have hk : Kd σ (stp σ) := go_k hB hx.2 hp.1 12 (σ 5).toNat 0 (by omega) (by omega) hx.1 r1
  have hnd := nudge_n h hI hJ hn c2
  generalize hA : stp σ = a at *
  have same : Out B n X := ⟨R, σ, h, hI.mono (by omega), hJ⟩
  unfold fL_does
  rcases hk with ⟨p, rfl, p1, p2, c3⟩ | ⟨p, b, rfl, p1, b1, p2, b2⟩ | ⟨b, rfl, b1, b2, b3, b4⟩ | ⟨c, rfl, q1, q2, q3⟩ | ⟨k, b, rfl, k1⟩
  · -- a prop is taken
    have e : told (100 + (p : Int)) = 100 + p := by unfold told; rw [if_neg (by omega)]
    rw [e, show (1000 : Int32) = zI 1000 from rfl, zirm (by omega) (by omega) (by omega) (by omega), show (100 : Int32) = zI 100 from rfl, zdiv (by omega) (by omega) (by omega) (by omega), thn_eq, show (100 + (p : Int)) % 1000 / 100 = 1 by omega, if_pos (show zI 1 = 1 from rfl), zirm (by omega) (by omega) (by omega) (by omega), show (100 + (p : Int)) % 100 = p by omega, q_prop2 h hI p1, bnd_some, i1_t p2, if_pos rfl]
    rcases take_n h hI hJ hn c2 p1 with ⟨v, hv, tk⟩ | ⟨ok, ⟨-, X', σ', v, tk, v0, v1, -, -, d⟩ | ⟨-, X', σ', tk, d⟩⟩
    · rw [tk, bnd_some]
      dsimp only
      rcases hv with ⟨rfl, hv⟩ | ⟨rfl, hv⟩
      · exact absurd ⟨c3, p2⟩ hv
      · rw [if_neg (show ¬ zI (-3) = -4 by decide)]
        exact ⟨X, rfl, same⟩
    · rw [tk, bnd_some]
      dsimp only
      rw [if_neg (show ¬ zI v = -4 by rw [zm4, zeq] <;> omega)]
      exact ⟨X', rfl, d.out⟩
    · rw [tk, bnd_some]
      dsimp only
      rw [if_neg (show ¬ zI (-6) = -4 by decide)]
      exact ⟨X', rfl, d.out⟩
  · -- a prop is laid
    have e : told (200 + (p : Int) + 1000 * b) = 200 + p + 1000 * b := by unfold told; rw [if_neg (by omega)]
    rw [e, show (1000 : Int32) = zI 1000 from rfl, zirm (by omega) (by omega) (by omega) (by omega), show (100 : Int32) = zI 100 from rfl, zdiv (by omega) (by omega) (by omega) (by omega), thn_eq, show (200 + (p : Int) + 1000 * b) % 1000 / 100 = 2 by omega, if_neg (show ¬ zI 2 = 1 by decide), if_pos (show zI 2 = 2 from rfl), zirm (by omega) (by omega) (by omega) (by omega), show (200 + (p : Int) + 1000 * b) % 100 = p by omega, zdiv (by omega) (by omega) (by omega) (by omega), show (200 + (p : Int) + 1000 * b) / 1000 = b by omega, q_prop1 h hI p1, bnd_some, if_pos p2, if_pos (show zI (-5) = -5 from rfl)]
    obtain ⟨X', σ', v, ly, v0, v1, v2, d⟩ := lay_n h hI hJ hn c2 p1 b1 p2 b2
    rw [ly, bnd_some]
    dsimp only
    rw [if_neg (show ¬ zI v = -4 by rw [zm4, zeq] <;> omega)]
    refine ⟨X', rfl, ?_⟩
    rcases d with ⟨m, d⟩ | d
    · exact d.out
    · exact d.out
  · -- a box is opened
    have e : told (300 + (b : Int)) = 300 + b := by unfold told; rw [if_neg (by omega)]
    rw [e, show (1000 : Int32) = zI 1000 from rfl, zirm (by omega) (by omega) (by omega) (by omega), show (100 : Int32) = zI 100 from rfl, zdiv (by omega) (by omega) (by omega) (by omega), thn_eq, show (300 + (b : Int)) % 1000 / 100 = 3 by omega, if_neg (show ¬ zI 3 = 1 by decide), if_neg (show ¬ zI 3 = 2 by decide), if_pos (show zI 3 = 3 from rfl), zirm (by omega) (by omega) (by omega) (by omega), show (300 + (b : Int)) % 100 = b by omega, q_box1 h hI b2, bnd_some, if_neg (show ¬ b = 0 by omega)]
    have hbp := bp hB b1 b2
    have go : ∀ y : Int32, wrg σ b y = 0 → ∃ X', fL_does_B139 X (zI (b : Int)) y 1 = some (1, X') ∧ Out B n X' := by
      intro y hy
      unfold fL_does_B139
      rcases open_n h hI hJ hn c2 b1 b2 y with ⟨q, -⟩ | ⟨-, ⟨-, X', σ', v, op, v0, d⟩ | ⟨-, X', σ', op, d⟩⟩
      · exact absurd b3 q
      · rw [op, bnd_some, if_neg (by decide)]
        dsimp only
        rcases v0 with ⟨q, -⟩ | ⟨-, rfl⟩ | ⟨-, rfl, ex⟩
        · omega
        · rw [if_neg (show ¬ zI 1 = -6 by decide), if_pos (show zI 1 = 1 from rfl)]
          exact ⟨X', rfl, d.out⟩
        · obtain ⟨R', s', I', J', -⟩ := id d
          rw [if_neg (show ¬ zI 2 = -6 by decide), if_neg (show ¬ zI 2 = 1 by decide), if_pos (show zI 2 = 2 from rfl), q_c9 s' I', bnd_some, if_neg (show ¬ σ' 5 = 0 by omega), if_pos (show zI (σ' 5) = zI (b : Int) by rw [ex])]
          exact ⟨X', rfl, d.out⟩
      · rw [op, bnd_some, if_neg (by decide)]
        dsimp only
        rw [if_pos (show zI (-6) = -6 from rfl)]
        exact ⟨X', rfl, d.out⟩
    by_cases c6 : σ (32 + b) = 2
    · have w : wrg σ b (zI (σ (44 + b))) = 0 := by unfold wrg; rw [if_neg (fun q => q.2 rfl)]
      rw [if_pos (show zI (σ (32 + b)) = 2 by rw [c6]; rfl), q_box6 h hI b2, bnd_some, if_neg (show ¬ b = 0 by omega)]
      unfold fL_does_B110
      rw [q_box1 h hI b2, bnd_some, if_neg (show ¬ b = 0 by omega), if_pos (show zI (σ (32 + b)) = 2 by rw [c6]; rfl), q_box7 h hI c2 b2, bnd_some, b4 c6, if_pos (show zI 15 = 15 from rfl)]
      exact go _ w
    · have w : wrg σ b 0 = 0 := by unfold wrg; rw [if_neg (fun q => c6 q.1)]
      rw [if_neg (show ¬ zI (σ (32 + b)) = 2 by rw [zc2, zeq] <;> omega)]
      unfold fL_does_B110
      rw [q_box1 h hI b2, bnd_some, if_neg (show ¬ b = 0 by omega), if_neg (show ¬ zI (σ (32 + b)) = 2 by rw [zc2, zeq] <;> omega)]
      exact go _ w
  · -- a clue is read
    have e : told (400 + (c : Int)) = 400 + c := by unfold told; rw [if_neg (by omega)]
    rw [e, show (1000 : Int32) = zI 1000 from rfl, zirm (by omega) (by omega) (by omega) (by omega), show (100 : Int32) = zI 100 from rfl, zdiv (by omega) (by omega) (by omega) (by omega), thn_eq, show (400 + (c : Int)) % 1000 / 100 = 4 by omega, if_neg (show ¬ zI 4 = 1 by decide), if_neg (show ¬ zI 4 = 2 by decide), if_neg (show ¬ zI 4 = 3 by decide), if_pos (show zI 4 = 4 from rfl), zirm (by omega) (by omega) (by omega) (by omega), show (400 + (c : Int)) % 100 = c by omega, q_clue4 h hI q1, bnd_some]
    obtain ⟨X', σ', v, rd', v0, d⟩ := read_n h hI hJ hn c2 q1 q2 q3
    rw [rd', bnd_some]
    dsimp only
    have hd : Out B n X' := by
      rcases d with ⟨m, d⟩ | d
      · exact d.out
      · exact d.out
    by_cases c9 : zI v = -6
    · rw [if_pos c9]
      exact ⟨X', rfl, hd⟩
    · have hv : zI v = zI (dgt σ c) := by
        rcases v0 with q | q
        · rw [q] at c9; exact absurd rfl c9
        · rw [q]
      rw [if_neg c9, if_pos hv]
      exact ⟨X', rfl, hd⟩
  · -- the master tells a digit
    have e : told (500 + (k : Int) + 1000 * b) = 500 + k := by unfold told; rw [if_pos (by omega)]; omega
    rw [e] at hnd ⊢
    rw [show (1000 : Int32) = zI 1000 from rfl, zirm (by omega) (by omega) (by omega) (by omega), show (100 : Int32) = zI 100 from rfl, zdiv (by omega) (by omega) (by omega) (by omega), thn_eq, show (500 + (k : Int)) % 1000 / 100 = 5 by omega, if_neg (show ¬ zI 5 = 1 by decide), if_neg (show ¬ zI 5 = 2 by decide), if_neg (show ¬ zI 5 = 3 by decide), if_neg (show ¬ zI 5 = 4 by decide)]
    rcases hnd with ⟨-, nd⟩ | ⟨-, q, -⟩ | ⟨-, -, ⟨-, X', σ', nd, d⟩ | ⟨-, X', σ', nd, d⟩⟩
    · rw [nd, bnd_some]
      dsimp only
      rw [if_neg (show ¬ zI (-3) = -6 by decide), if_neg (show ¬ zI (-3) = zI (500 + (k : Int)) by rw [zeq] <;> omega), if_pos (show zI (-3) = -3 from rfl)]
      exact ⟨X, rfl, same⟩
    · omega
    · rw [nd, bnd_some]
      dsimp only
      rw [if_neg (show ¬ zI (500 + (k : Int)) = -6 by rw [zm6, zeq] <;> omega), if_pos rfl]
      exact ⟨X', rfl, d.out⟩
    · rw [nd, bnd_some]
      dsimp only
      rw [if_pos (show zI (-6) = -6 from rfl)]
      exact ⟨X', rfl, d.out⟩
end DS
