def rs (a : Int) : Int := if a < 100 then -10 - a else told a
/-- R' is R but for toldFor -/
def TF (R R' : Mem) : Prop := ∀ k i, ¬ (k = 0 ∧ i = 11) → R' k i = R k i
theorem TF.rf (R : Mem) : TF R R := fun _ _ _ => rfl
theorem TF.wr (R : Mem) (v : Int32) : TF R (wr R 0 11 v) := by
  intro k i h
  by_cases c : k = 0
  · subst c
    exact wr_i R 0 v (fun q => h ⟨rfl, q⟩)
  · rw [wr_k R 11 v c]
theorem TF.trans {R R' R'' : Mem} (h : TF R R') (h' : TF R' R'') : TF R R'' := fun k i q => (h' k i q).trans (h k i q)
theorem TF.row {R R' : Mem} (h : TF R R') {k : Nat} (hk : k ≠ 0) : R' k = R k := by
  funext i
  exact h k i (fun q => hk q.1)
section RM
variable {R : Mem} {σ : Nat → Int}
theorem R_clueH (hR : R 1 = enc σ) (hB : RB σ) {b k : Nat} (hb : b < 12) (hk : k < 4) : fX8_clueFor R (zI (b : Int)) (zI (k : Int)) 1 = some (zI (bf σ b k (σ 2).toNat (-5))) := by
  have h0 := hB.1
  unfold fX8_clueFor
  rw [rd hR, show zI (σ 2) - 1 = zI (((σ 2).toNat : Int) - 1) by rw [zc1, zsub]; congr 1; omega, zm5]
  exact R_clueH_L hR hB hb hk (σ 2).toNat 5000 (-5) (by omega) (by omega) (by omega)
theorem R_clueN (hR : R 1 = enc σ) (hB : RB σ) {b k : Nat} (hb : b < 12) (hk : k < 4) : fX8_clueFor R (zI (b : Int)) (zI (k : Int)) 0 = some (zI (lf (cmn σ b k) (σ 2).toNat (-5))) := by
  have h0 := hB.1
  unfold fX8_clueFor
  rw [rd hR, show zI (σ 2) - 1 = zI (((σ 2).toNat : Int) - 1) by rw [zc1, zsub]; congr 1; omega, zm5]
  exact R_clueN_L hR hB hb hk (σ 2).toNat 5000 (-5) (by omega) (by omega) (by omega)
theorem R_B169 (hR : R 1 = enc σ) (hB : RB σ) (h11 : 1 ≤ σ 11) {p : Nat} (hp : (p : Int) < σ 1) (hn : σ (104 + p) ≠ -1) : fX8_stepFor_B169 R (zI (p : Int)) = some (zI (rs (sth σ p)), R) := by
  have h0 := hB.1
  have h4 := pr hB hp
  have h6 := cfl_r hB hp
  have h9 := lhp_b hB
  have h2 := heldN_le hB
  unfold fX8_stepFor_B169 sth rs
  rw [R_ph hR hB hp, bnd_some]
  by_cases c : ph σ p
  · have c' : cf σ (σ (104 + p)).toNat = 0 := c
    rw [i1_t c, if_neg (by decide), R_stepToHold hR hB h11 hp, bnd_some, if_pos c']
    by_cases c2 : (heldN σ : Int) < σ 11
    · rw [if_pos c2, if_neg (by omega)]
      unfold told
      rw [if_neg (by omega)]
    · rw [if_neg c2, if_neg (by omega)]
      unfold told
      rw [if_neg (by omega)]
  · have c' : ¬ cf σ (σ (104 + p)).toNat = 0 := c
    rw [i1_f c, if_pos rfl, if_neg c', if_pos (show ((cf σ (σ (104 + p)).toNat : Nat) : Int) < 100 by omega)]
    simp (disch := omega) only [zc104, zadd, zinbT, ztn, tn104, rd hR, if_true]
    rw [zn_of (by omega), R_cf hR hB (lies_r hB hp), bnd_some, if_neg c', show (-10 : Int32) = zI (-10) from rfl, zsub]
theorem R_stepFor (hR : R 1 = enc σ) (hB : RB σ) (h11 : 1 ≤ σ 11) {b : Nat} (h1 : 1 ≤ b) (hb : (b : Int) < σ 0) : ∃ R', fX8_stepFor R (zI (b : Int)) = some (zI (rs (sf σ b)), R') ∧ TF R R' ∧ (100 ≤ sf σ b → sf σ b % 1000 / 100 = 5 → R' 0 11 = zI (b : Int) ∧ sf σ b / 1000 = b) := by
  have h0 := hB.1
  have h := bp hB h1 hb
  unfold fX8_stepFor
  rw [if_pos (i32 (by omega)), thn_eq, if_pos (i44 (by omega)), thn_eq, j32 (by omega), j44 (by omega), rd hR, rd hR]
  unfold sf
  by_cases c2 : σ (32 + b) = 2
  · have h4 := lu_le (zI (σ (68 + b))) 4 0
    rw [if_pos (by rw [c2]; rfl), R_lu hR (by omega), bnd_some, if_pos c2]
    unfold sfc
    by_cases c : lu (zI (σ (68 + b))) 4 0 = 4
    · rw [if_pos (by rw [c]; rfl), if_pos c]
      refine ⟨R, ?_, TF.rf R, by omega⟩
      unfold rs told
      rw [if_neg (by omega), if_neg (by omega), zc300, zadd]
    · generalize hk : lu (zI (σ (68 + b))) 4 0 = k at c h4
      rw [if_neg (by rw [zc4, zeq] <;> omega), if_neg c, R_clueH hR hB (by omega) (by omega), bnd_some]
      have e1 := bf_e σ b k (σ 2).toNat (-5) (-1) (by omega) (by omega)
      have q1 := bf_r σ b k (σ 2).toNat (-5)
      unfold sfe
      by_cases c3 : bf σ b k (σ 2).toNat (-1) < 0
      · have e5 : bf σ b k (σ 2).toNat (-5) = -5 := by omega
        have hnone := bf_none σ b k _ _ c3
        have e2 : lf (cma σ b k) (σ 2).toNat (-1) = lf (cmn σ b k) (σ 2).toNat (-1) := lf_c _ _ (fun c hc => by
          have := hnone c hc
          simp only [cmh, decide_eq_false_iff_not] at this
          simp only [cma, cmn]
          rw [decide_eq_decide]
          exact ⟨fun q => ⟨q, fun t => this ⟨q, t⟩⟩, fun q => q.1⟩)
        have e3 := lf_e (cmn σ b k) (σ 2).toNat (-5) (-1) (by omega) (by omega)
        have q2 := lf_r (cmn σ b k) (σ 2).toNat (-5)
        rw [e5, if_pos (by decide), if_pos c3, R_clueN hR hB (by omega) (by omega), bnd_some, e2, thn_eq]
        have hR' : wr R 0 11 (zI (b : Int)) 1 = enc σ := by rw [wr_k R 11 _ (by omega), hR]
        by_cases c4 : lf (cmn σ b k) (σ 2).toNat (-1) < 0
        · have e6 : lf (cmn σ b k) (σ 2).toNat (-5) = -5 := by omega
          rw [e6, if_neg (show ¬ (0 : Int32) ≤ zI (-5) by decide), if_pos c4]
          refine ⟨_, by unfold rs told; rw [if_neg (by omega), if_pos (by omega), zc500, zadd]; congr 3; omega, TF.wr R _, ?_⟩
          intro _ _
          exact ⟨wr_at R 0 11 _, by omega⟩
        · have e6 : lf (cmn σ b k) (σ 2).toNat (-5) = lf (cmn σ b k) (σ 2).toNat (-1) := by omega
          rw [if_neg c4, ← e6]
          generalize lf (cmn σ b k) (σ 2).toNat (-5) = lo at *
          obtain ⟨c, rfl⟩ : ∃ c : Nat, lo = c := ⟨lo.toNat, by omega⟩
          have hc := cl hB (c := c) (by omega)
          have h7 := cfl_r hB (p := (σ (128 + c)).toNat) (by omega)
          have h8 := pr hB (p := (σ (128 + c)).toNat) (by omega)
          have h9 : ¬ cf σ (σ (104 + (σ (128 + c)).toNat)).toNat = 0 := by
            have := q2.elim (fun t => t.2.2) (fun t => absurd t (by omega))
            simp only [cmn, decide_eq_true_eq, Int.toNat_natCast] at this
            exact this.2
          rw [if_pos (show (0 : Int32) ≤ zI (c : Int) by rw [zc0, zle] <;> omega)]
          have e7 : ∀ j, wr R 0 11 (zI (b : Int)) 1 j = zI (σ j) := fun j => by rw [hR']; rfl
          simp (disch := omega) only [zc128, zadd, zinbT, ztn, tn128, e7, if_true]
          rw [zn_of hc.1.1]
          simp (disch := omega) only [zc104, zadd, zinbT, ztn, tn104, e7, if_true]
          by_cases c5 : σ (104 + (σ (128 + c)).toNat) = -1
          · exfalso
            rw [c5] at h9
            exact h9 rfl
          · rw [zn_of (show 0 ≤ σ (104 + (σ (128 + c)).toNat) by omega), R_cf hR' hB (lies_r hB (p := (σ (128 + c)).toNat) (by omega)), bnd_some, if_neg h9, show (-10 : Int32) = zI (-10) from rfl, zsub]
            simp only [Int.toNat_natCast]
            refine ⟨wr R 0 11 (zI (b : Int)), ?_, TF.wr R (zI (b : Int)), fun _ _ => by omega⟩
            unfold rs
            rw [if_pos (by omega)]
      · have e5 : bf σ b k (σ 2).toNat (-5) = bf σ b k (σ 2).toNat (-1) := by omega
        rw [if_neg (by rw [zc0, zlt] <;> omega), if_neg c3, e5, zc400, zadd]
        refine ⟨R, ?_, TF.rf R, by omega⟩
        unfold rs told
        rw [if_neg (by omega), if_neg (by omega)]
  · rw [if_neg (by rw [zc2, zeq] <;> omega), R_lets hR hB h1 hb, bnd_some, if_neg c2]
    unfold sft
    by_cases c3 : lts σ b
    · have c4 := c3
      unfold lts at c4
      rw [i1_t c3, if_neg (by decide), if_pos (show (σ (32 + b) = 0 ∨ (σ (32 + b) = 1 ∧ σ (104 + (σ (44 + b)).toNat) = -1) ∨ (σ (32 + b) = 3 ∧ σ (104 + (σ (44 + b)).toNat) = σ (20 + b))) by omega)]
      refine ⟨R, ?_, TF.rf R, by omega⟩
      unfold rs told
      rw [if_neg (by omega), if_neg (by omega), zc300, zadd]
    · have c4 := c3
      unfold lts at c4
      have h3 := h.2.2.1 (by omega)
      have hp : (((σ (44 + b)).toNat : Nat) : Int) < σ 1 := by omega
      have h4 := pr hB hp
      have h5 := bo hB h1 hb
      have h9 := lhp_b hB
      have h2 := heldN_le hB
      have h6 := cfl_r hB hp
      have e4 : σ (44 + b) = ((σ (44 + b)).toNat : Int) := by omega
      have hs : sth σ (σ (44 + b)).toNat % 1000 / 100 ≠ 5 ∨ sth σ (σ (44 + b)).toNat < 100 := by
        unfold sth
        split
        · split <;> omega
        · omega
      rw [i1_f c3, if_pos rfl, if_neg (show ¬ (σ (32 + b) = 0 ∨ (σ (32 + b) = 1 ∧ σ (104 + (σ (44 + b)).toNat) = -1) ∨ (σ (32 + b) = 3 ∧ σ (104 + (σ (44 + b)).toNat) = σ (20 + b))) by omega), zn_of h3.1]
      by_cases c1 : σ (32 + b) = 1
      · rw [if_pos (by rw [c1]; rfl), R_B169 hR hB h11 hp (by omega), if_neg (show ¬ σ (104 + (σ (44 + b)).toNat) = -1 by omega)]
        exact ⟨R, rfl, TF.rf R, by omega⟩
      · rw [if_neg (by rw [zc1, zeq] <;> omega), R_isHeld hR hB hp, bnd_some]
        by_cases c5 : σ (104 + (σ (44 + b)).toNat) = -1
        · rw [i1_t c5, if_neg (by decide), if_pos c5]
          simp (disch := omega) only [zc20, zc200, zc1000, zadd, zmul, zinbT, ztn, tn20, rd hR, if_true]
          refine ⟨R, ?_, TF.rf R, by omega⟩
          unfold rs told
          rw [if_neg (by omega), if_neg (by omega), ← e4]
        · rw [i1_f c5, if_pos rfl, if_neg c5, R_B169 hR hB h11 hp c5]
          exact ⟨R, rfl, TF.rf R, by omega⟩
theorem told_r {a : Int} (h : 100 ≤ a) : 0 ≤ told a := by unfold told; split <;> omega
theorem R_step_L (hB : RB σ) (h11 : 1 ≤ σ 11) : ∀ (f b n : Nat) (s : Int32) (R : Mem), R 1 = enc σ → 1 ≤ b → (b : Int) < σ 0 → un s < f → f < n → ∃ R', fX8_step_L9 n R s (zI (b : Int)) = some (zI (told (go σ f s b)), R') ∧ TF R R' ∧ (go σ f s b = -5 ∨ (100 ≤ go σ f s b ∧ go σ f s b ≤ 20000 ∧ (go σ f s b % 1000 / 100 = 5 → R' 0 11 = zI (go σ f s b / 1000)))) := by
  have h0 := hB.1
  intro f
  induction f with
  | zero => intro b n s R _ _ _ hu; omega
  | succ f ih =>
    intro b n s R hR h1 hb hu hn
    obtain ⟨n, rfl⟩ := ex_succ hn
    rw [fX8_step_L9]
    have e := bt_tst (x := s) (b := b) (by omega)
    have e0 : (((s >>> (zI (b : Int) &&& 31)) &&& (1 : Int32)) = 0) = ¬ bt s b = true := by
      apply propext
      constructor
      · intro q t
        rw [e.mpr t] at q
        exact absurd q (by decide)
      · intro t
        have : bz (s >>> (zI (b : Int) &&& 31)) = 0 ∨ bz (s >>> (zI (b : Int) &&& 31)) = 1 := bz_or _
        rcases this with q | q
        · exact q
        · exact absurd (e.mp q) t
    unfold go
    by_cases c : bt s b = true
    · rw [if_neg (fun q => (e0.mp q) c), if_pos c]
      exact ⟨R, rfl, TF.rf R, Or.inl rfl⟩
    · rw [if_pos (e0.mpr c), if_neg c, thn_eq]
      have hu2 := un_set h1 (by omega) c
      have h5 := bo hB h1 hb
      have hob : (((σ (20 + b)).toNat : Nat) : Int) < σ 0 := by omega
      have h6 := oc_lt hB 12 (σ (20 + b)).toNat 0 hob (by omega)
      have e6 : cf σ (σ (20 + b)).toNat = oc σ 12 (σ (20 + b)).toNat 0 := rfl
      have eca : fX8_closedAround R (zI (b : Int)) = some (zI (if cf σ (σ (20 + b)).toNat = 0 then -5 else ((cf σ (σ (20 + b)).toNat : Nat) : Int))) := by
        unfold fX8_closedAround
        rw [if_neg (by rw [zc0, zeq] <;> omega)]
        simp (disch := omega) only [zc20, zadd, zinbT, ztn, tn20, rd hR, if_true]
        rw [zn_of h5.1, R_cf hR hB hob, bnd_some]
      rw [eca, bnd_some]
      by_cases c2 : cf σ (σ (20 + b)).toNat = 0
      · rw [if_pos c2, if_pos (by decide)]
        obtain ⟨R', q1, q2, q3⟩ := R_stepFor hR hB h11 h1 hb
        have hr := sf_r hB h1 hb
        rw [q1, bnd_some]
        by_cases c3 : sf σ b < 100
        · have hrs : rs (sf σ b) = -10 - sf σ b := by unfold rs; rw [if_pos c3]
          have hnx : nx σ b = sf σ b := by unfold nx; rw [if_pos c2]
          rw [hrs, if_pos (by rw [zc0, zlt] <;> omega), hnx, if_pos c3, show (-10 : Int32) - zI (-10 - sf σ b) = zI (((sf σ b).toNat : Nat) : Int) by rw [zm10, zsub]; congr 1; omega]
          obtain ⟨R'', p1, p2, p3⟩ := ih (sf σ b).toNat n (s ||| ((1 : Int32) <<< (zI (b : Int) &&& 31))) R' (by rw [q2.row (by omega)]; exact hR) (by omega) (by omega) (by omega) (by omega)
          exact ⟨R'', p1, q2.trans p2, p3⟩
        · have hrs : rs (sf σ b) = told (sf σ b) := by unfold rs; rw [if_neg c3]
          have ht := told_r (a := sf σ b) (by omega)
          have ht2 : told (sf σ b) ≤ 20000 := by unfold told; split <;> omega
          have hnx : nx σ b = sf σ b := by unfold nx; rw [if_pos c2]
          rw [hrs, if_neg (by rw [zc0, zlt] <;> omega), hnx, if_neg c3]
          refine ⟨R', rfl, q2, Or.inr ⟨by omega, by omega, fun t => ?_⟩⟩
          have := q3 (by omega) t
          rw [this.1, this.2]
      · have hnx : nx σ b = (cf σ (σ (20 + b)).toNat : Nat) := by unfold nx; rw [if_neg c2]
        rw [hnx, if_neg c2, if_neg (by rw [zc0, zlt] <;> omega), show (-10 : Int32) = zI (-10) from rfl, zsub, if_pos (by rw [zc0, zlt] <;> omega), thn_eq, zsub, if_pos (show ((cf σ (σ (20 + b)).toNat : Nat) : Int) < 100 by omega)]
        obtain ⟨R'', p1, p2, p3⟩ := ih (cf σ (σ (20 + b)).toNat) n (s ||| ((1 : Int32) <<< (zI (b : Int) &&& 31))) R hR (by omega) (by omega) (by omega) (by omega)
        refine ⟨R'', ?_, p2, p3⟩
        rw [show (-10 : Int) - (-10 - ((cf σ (σ (20 + b)).toNat : Nat) : Int)) = ((cf σ (σ (20 + b)).toNat : Nat) : Int) by omega]
        exact p1
theorem R_step (hR : R 1 = enc σ) (hB : RB σ) (h11 : 1 ≤ σ 11) (h5 : 1 ≤ σ 5) : ∃ R', fX8_step R = some (zI (told (stp σ)), R') ∧ TF R R' ∧ (stp σ = -5 ∨ (100 ≤ stp σ ∧ stp σ ≤ 20000 ∧ (stp σ % 1000 / 100 = 5 → R' 0 11 = zI (stp σ / 1000)))) := by
  have h0 := hB.1
  unfold fX8_step
  rw [rd hR, zn_of (show 0 ≤ σ 5 by omega)]
  exact R_step_L hB h11 12 (σ 5).toNat 5000 0 R hR (by omega) (by omega) (by decide) (by omega)
end RM
