theorem atX_wr (M : Mem) {k k' : Nat} (i : Nat) (v : Int32) (h : k ≠ k') (n : Nat) (x : Int32) : atX (wr M k' i v) k n x = atX M k n x := by
  unfold atX
  rw [wr_k M i v h]
theorem wr_kc (M : Mem) {k k' : Nat} (i i' : Nat) (v v' : Int32) (h : k ≠ k') : wr (wr M k i v) k' i' v' = wr (wr M k' i' v') k i v := by
  funext q
  by_cases h1 : q = k'
  · subst h1
    rw [wr_k _ _ _ (Ne.symm h)]
    funext x
    by_cases c : x = i'
    · subst c; rw [wr_at, wr_at]
    · rw [wr_i _ _ _ c, wr_i _ _ _ c, wr_k _ _ _ (Ne.symm h)]
  · rw [wr_k _ _ _ h1]
    funext x
    by_cases h2 : q = k
    · subst h2
      by_cases c : x = i
      · subst c; rw [wr_at, wr_at]
      · rw [wr_i _ _ _ c, wr_i _ _ _ c, wr_k _ _ _ h]
    · rw [wr_k _ _ _ h2, wr_k _ _ _ h2, wr_k _ _ _ h1]
theorem wr_wr (M : Mem) (k i : Nat) (v w : Int32) : wr (wr M k i v) k i w = wr M k i w := by
  funext q x
  by_cases h : q = k
  · subst h
    by_cases c : x = i
    · subst c; rw [wr_at, wr_at]
    · rw [wr_i _ _ _ c, wr_i _ _ _ c, wr_i _ _ _ c]
  · rw [wr_k _ _ _ h, wr_k _ _ _ h, wr_k _ _ _ h]
theorem putX_wr (M : Mem) {k k' : Nat} (i : Nat) (v : Int32) (h : k ≠ k') (n : Nat) (x w : Int32) : putX (wr M k' i v) k n x w = wr (putX M k n x w) k' i v := by
  unfold putX
  split
  · exact wr_kc M i _ v w (Ne.symm h)
  · rfl
theorem remove_wr {k' : Nat} (i : Nat) (v : Int32) (h : k' < 16) : ∀ (m : Nat) (Y Z : Mem) (x : Int32), fX3_remove_L4 16 m Y x = some Z → fX3_remove_L4 16 m (wr Y k' i v) x = some (wr Z k' i v) := by
  intro m
  induction m with
  | zero => intro Y Z x h; rw [fX3_remove_L4] at h; cases h
  | succ m ih =>
    intro Y Z x hz
    rw [fX3_remove_L4] at hz ⊢
    rw [wr_k Y i v (show 16 ≠ k' by omega)]
    by_cases c : Y 16 0 ≤ x
    · rw [if_pos c, thn_eq] at hz ⊢
      cases hz
      rw [wr_kc _ _ _ _ _ (show k' ≠ 16 by omega)]
    · rw [if_neg c, thn_eq, thn_eq] at hz ⊢
      rw [atX_wr _ _ _ (show 16 + 1 ≠ k' by omega), putX_wr _ _ _ (show 16 + 1 ≠ k' by omega), atX_wr _ _ _ (show 16 + 2 ≠ k' by omega), putX_wr _ _ _ (show 16 + 2 ≠ k' by omega)]
      exact ih _ _ _ hz
theorem fd_us (hr : Int) : ∀ d i (τ : Nat → Int) (q : Nat) (v : Int), q < 20 → i + d ≤ 12 → fd hr d i (us τ q v) = us (fd hr d i τ) q v := by
  intro d
  induction d with
  | zero => intro i τ q v _ _; rfl
  | succ d ih =>
    intro i τ q v hq hi
    have ea : ath (us τ q v) i = ath τ i := by
      have eoc : ∀ f b c, oc (us τ q v) f b c = oc τ f b c := by
        intro f
        induction f with
        | zero => intro b c; rfl
        | succ f ih2 =>
          intro b c
          unfold oc
          rw [us_ne τ v (show 20 + b ≠ q by omega), us_ne τ v (show 56 + b ≠ q by omega), ih2]
      unfold ath cf
      rw [us_ne τ v (show 128 + i ≠ q by omega), us_ne τ v (by omega), eoc]
    unfold fd
    rw [ea]
    by_cases c : ath τ i = true
    · rw [if_pos c, if_pos c, us_ne τ v (show 164 + i ≠ q by omega), ← ih (i + 1) _ q v hq (by omega)]
      congr 1
      funext x
      unfold us
      by_cases x1 : x = 164 + i
      · subst x1; rw [if_pos rfl, if_neg (by omega), if_pos rfl]
      · rw [if_neg x1, if_neg x1]
    · rw [if_neg c, if_neg c, ih (i + 1) τ q v hq (by omega)]
theorem wr_id (M : Mem) {k i : Nat} {v : Int32} (h : M k i = v) : wr M k i v = M := by rw [← h, wr_self]
theorem RB.eleven {σ : Nat → Int} (h : RB σ) {o : Int} (ho : 0 ≤ o ∧ o ≤ 6) : RB (us σ 11 o) := by
  obtain ⟨⟨a0, a1, a2, a5, a11⟩, hO, hL, hP, -, hPr, hC⟩ := h
  have e : ∀ j, j ≠ 11 → us σ 11 o j = σ j := fun j hj => us_ne σ _ hj
  refine ⟨⟨by rw [e 0 (by omega)]; exact a0, by rw [e 1 (by omega)]; exact a1, by rw [e 2 (by omega)]; exact a2, by rw [e 5 (by omega), e 0 (by omega)]; exact a5, by rw [us_at]; exact ho⟩, ?_, ?_, ⟨by rw [e 56 (by omega)]; exact hP.1, fun b hb => by rw [e _ (by omega)]; exact hP.2 b hb⟩, trivial, ?_, ?_⟩
  · intro b h1 hb
    rw [e 0 (by omega)] at hb
    rw [e _ (by omega)]
    exact hO b h1 hb
  · intro b h1 hb
    rw [e 0 (by omega)] at hb
    rw [e (32 + b) (by omega), e (44 + b) (by omega), e 1 (by omega)]
    exact hL b h1 hb
  · intro p hp
    rw [e 1 (by omega)] at hp
    rw [e (80 + p) (by omega), e (104 + p) (by omega), e 0 (by omega)]
    exact hPr p hp
  · intro c hc
    rw [e 2 (by omega)] at hc
    rw [e (128 + c) (by omega), e (140 + c) (by omega), e (152 + c) (by omega), e (164 + c) (by omega), e 0 (by omega), e 1 (by omega), e (32 + (σ (140 + c)).toNat) (by omega)]
    exact hC c hc
section SG
variable {X R Y : Mem} {σ : Nat → Int} {n : Nat}
/-- minutes pass while two cells of the class wait for their values -/
theorem pass_p (h : SR Y R σ) (hB : RB σ) (hc : 0 ≤ σ 9) {m : Int} (hm : 0 ≤ m) (hb : σ 9 + m ≤ 1000000) {o : Int} (ho : 0 ≤ o ∧ o ≤ 6) (v : Int32) : ∃ Y' R' σ', fX6_pass 3 (wr (wr Y 4 15 (zI o)) 19 3 v) (zI m) = some (wr (wr Y' 4 15 (zI o)) 19 3 v) ∧ fX8_pass R (zI m) = some R' ∧ SR Y' R' σ' ∧ RB σ' ∧ Fr Y R Y' R' ∧ (∀ j, j < 164 ∨ 176 ≤ j → j ≠ 9 → σ' j = σ j) ∧ σ' 9 = σ 9 + m := by
  have h0 := hB.1
  have hR := h.row
  generalize hh : (σ 9 + m) / 60 - σ 9 / 60 = hr
  have hp1 : SR (wr Y 3 5 (zI (σ 9 + m))) (wr R 1 9 (zI (σ 9 + m))) (us σ 9 (σ 9 + m)) ∧ Fr Y R (wr Y 3 5 (zI (σ 9 + m))) (wr R 1 9 (zI (σ 9 + m))) := h.stat (j := 9) rfl (σ 9 + m)
  have hXc : wr (wr Y 4 15 (zI o)) 19 3 v 3 5 = zI (σ 9) := by rw [wr_k _ _ _ (by omega), wr_k _ _ _ (by omega), h.clock]
  have eX : wr (wr (wr Y 4 15 (zI o)) 19 3 v) 3 5 (zI (σ 9 + m)) = wr (wr (wr Y 3 5 (zI (σ 9 + m))) 4 15 (zI o)) 19 3 v := by
    rw [wr_kc _ _ _ _ _ (show (19 : Nat) ≠ 3 by omega), wr_kc Y _ _ _ _ (show (4 : Nat) ≠ 3 by omega)]
  have hX : fX6_pass 3 (wr (wr Y 4 15 (zI o)) 19 3 v) (zI m) = if zI hr ≤ 0 then some (wr (wr (wr Y 3 5 (zI (σ 9 + m))) 4 15 (zI o)) 19 3 v) else bnd (fX5_fade (3 + 1) (wr (wr (wr Y 3 5 (zI (σ 9 + m))) 4 15 (zI o)) 19 3 v) (zI hr)) fun M4 => some M4 := by
    unfold fX6_pass
    rw [thn_eq, thn_eq, hXc, zadd, eX, zc60, zdiv (by omega) (by omega) (by omega) (by omega), zdiv (by omega) (by omega) (by omega) (by omega), zsub, hh]
  have hRp : fX8_pass R (zI m) = fX8_pass_L26 5000 R (zI m) (zI hr) 0 := by
    unfold fX8_pass
    rw [thn_eq, rd hR, zadd, zc60, zdiv (by omega) (by omega) (by omega) (by omega), zdiv (by omega) (by omega) (by omega) (by omega), zsub, hh]
  rw [hX, hRp]
  by_cases c : hr ≤ 0
  · rw [if_pos (by rw [zc0, zle] <;> omega)]
    refine ⟨_, _, _, rfl, ?_, hp1.1, ?_, hp1.2, fun j _ hj => us_ne σ _ hj, us_at σ _ _⟩
    · have e : fX8_pass_L26 5000 R (zI m) (zI hr) 0 = fX8_pass_B102 R (zI m) := by
        rw [show (5000 : Nat) = 4999 + 1 from rfl, fX8_pass_L26]
        by_cases c2 : R 1 2 ≤ 0
        · rw [if_pos c2]
        · rw [if_neg c2, if_pos (by rw [zc0, zle] <;> omega)]
      rw [e]
      unfold fX8_pass_B102
      rw [thn_eq, rd hR, zadd]
    · exact hB.c (fun j _ hj => us_ne σ _ (by omega))
  · rw [if_neg (by rw [zc0, zle] <;> omega)]
    have hB1 : RB (us σ 9 (σ 9 + m)) := hB.c (fun j _ hj => us_ne σ _ (by omega))
    have hro1 : Ro (wr (wr Y 3 5 (zI (σ 9 + m))) 4 15 (zI o)) 4 (us (us σ 9 (σ 9 + m)) 11 o) := hp1.1.ro.wr (j := 11) rfl (by omega) o
    have hro2 : Ro (wr (wr (wr Y 3 5 (zI (σ 9 + m))) 4 15 (zI o)) 19 3 v) 4 (us (us σ 9 (σ 9 + m)) 11 o) := hro1.frame (fun k hk _ => wr_k _ _ _ (by omega)) (fun _ _ _ => rfl)
    generalize hW : wr Y 3 5 (zI (σ 9 + m)) = W at *
    obtain ⟨X', p1, p2, p3⟩ := X_fade_L (r := 4) hr (by omega) (σ 2).toNat 0 5000 _ _ hro2 (hB1.eleven ho) (by rw [us_ne _ _ (by omega), us_ne σ _ (by omega)]; omega) (by omega)
    have p1' : fX5_fade (3 + 1) (wr (wr W 4 15 (zI o)) 19 3 v) (zI hr) = some X' := p1
    have q1 := R_fade_L hr (by omega) (zI m) (σ 2).toNat 0 5000 R σ hR hB (by omega) (by omega)
    rw [fd_us hr _ _ _ _ _ (by omega) (by omega), fd_us hr _ _ _ _ _ (by omega) (by omega)] at p2
    have x4 : X' 4 15 = zI o := by rw [p3 4 (by omega), wr_k _ _ _ (by omega), wr_at]
    have x19 : X' 19 3 = v := by rw [p3 19 (by omega), wr_at]
    have w13 : W 19 3 = zI (σ 13) := by
      have := hp1.1.start
      rw [us_ne _ _ (by omega)] at this
      exact this
    have hX' : X' = wr (wr (wr (wr X' 4 15 (zI (σ 11))) 19 3 (zI (σ 13))) 4 15 (zI o)) 19 3 v := by
      rw [wr_kc (wr X' 4 15 (zI (σ 11))) _ _ _ _ (show (19 : Nat) ≠ 4 by omega), wr_wr, wr_wr, wr_id _ x4, wr_id _ x19]
    rw [p1', bnd_some]
    refine ⟨wr (wr X' 4 15 (zI (σ 11))) 19 3 (zI (σ 13)), setR R 1 (enc (us (fd hr (σ 2).toNat 0 σ) 9 (σ 9 + m))), us (fd hr (σ 2).toNat 0 σ) 9 (σ 9 + m), by rw [← hX'], ?_, ⟨?_, setR_at R 1 _⟩, ?_, ?_, ?_, us_at _ _ _⟩
    · show fX8_pass_L26 5000 R (zI m) (zI hr) (zI ((0 : Nat) : Int)) = _
      rw [q1]
      unfold fX8_pass_B102
      rw [thn_eq]
      unfold wr
      rw [setR_at, setR_setR, ← enc_us]
      show some (setR R 1 (upd _ 9 (zI (fd hr (σ 2).toNat 0 σ 9) + zI m))) = _
      rw [zadd, fd_ne hr _ _ _ _ (by omega) (by omega)]
    · have r1 := p2.wr (j := 11) rfl (by omega) (σ 11)
      have e11 : us (us (us (fd hr (σ 2).toNat 0 σ) 9 (σ 9 + m)) 11 o) 11 (σ 11) = us (fd hr (σ 2).toNat 0 σ) 9 (σ 9 + m) := by
        funext j
        by_cases q : j = 11
        · subst q
          rw [us_at, us_ne _ _ (by omega), fd_ne hr _ _ _ _ (by omega) (by omega)]
        · rw [us_ne _ _ q, us_ne _ _ q]
      rw [e11] at r1
      refine hp1.1.1.ro_new (r1.frame (fun k hk _ => wr_k _ _ _ (by omega)) (fun _ _ _ => rfl)) (fun k h1 _ _ _ _ _ _ _ _ _ hk => ?_) (fun j hj => ?_) ?_
      · by_cases q : k = 16
        · subst q
          funext i
          by_cases qi : i = 3
          · subst qi
            rw [wr_at]; exact w13.symm
          · rw [wr_i _ _ _ qi, wr_k _ _ _ (by omega), p3 19 (by omega), wr_i _ _ _ qi, wr_k _ _ _ (by omega)]
        · rw [wr_k _ _ _ (by omega), wr_k _ _ _ (by omega), p3 (3 + k) (by omega), wr_k _ _ _ (by omega), wr_k _ _ _ (by omega)]
      · by_cases q : j = 9
        · subst q; rw [us_at, us_at]
        · rw [us_ne _ _ q, us_ne _ _ q]
          refine fd_ne hr _ _ _ _ ?_ (by omega)
          simp [ro] at hj
          omega
      · rw [us_ne _ _ (by omega), us_ne _ _ (by omega), fd_ne hr _ _ _ _ (by omega) (by omega)]
    · exact (fd_B hr (by omega) _ _ _ hB (by omega)).c (fun j _ hj => us_ne _ _ (by omega))
    · refine ⟨fun k hk => ?_, fun k h1 h2 => setR_ne R _ (by omega), by rw [setR_ne R _ (by omega)]⟩
      rw [wr_k _ _ _ (by omega), wr_k _ _ _ (by omega), p3 k (by omega), wr_k _ _ _ (by omega), wr_k _ _ _ (by omega)]
      exact hp1.2.1 k hk
    · intro j hj h9
      rw [us_ne _ _ h9, fd_ne hr _ _ _ _ hj (by omega)]
/-- a game begins: its number, its log and what is known -/
theorem St.begin (h : St Y 3 σ) (h10 : σ 10 = 0) {σ' : Nat → Int} (hs : ∀ j, j ≠ 10 → j ≠ 17 → (j < 68 ∨ 80 ≤ j) → σ' j = σ j) (q10 : σ' 10 = 1) (q17 : σ' 17 = 0) (qk : ∀ b, b < 12 → σ' (68 + b) = 0) : St (wr (wr Y 19 0 1) 22 0 0) 3 σ' := by
  obtain ⟨hr, hs2, h1, h0, hk1, hk0, hg⟩ := h
  refine ⟨?_, ?_, ?_, ?_, ?_, ?_, ?_⟩
  · exact hr.frame (fun k hk _ => by rw [wr_k _ _ _ (by omega), wr_k _ _ _ (by omega)]) (fun j hj hc => hs j (by omega) (by omega) (by omega))
  · refine hs2.frame (fun k hk => by rw [wr_k _ _ _ (by omega), wr_k _ _ _ (by omega)]) (fun i hi => by rw [wr_k _ _ _ (by omega), wr_i _ _ _ (by omega)]) (fun j hj => hs j ?_ ?_ ?_)
    · intro q; subst q; exact absurd hj (by decide)
    · intro q; subst q; exact absurd hj (by decide)
    · simp [so] at hj; omega
  · rw [wr_k _ _ _ (by omega), wr_i _ _ _ (by omega), hs 11 (by omega) (by omega) (by omega)]; exact h1
  · rw [wr_k _ _ _ (by omega), q10]; exact wr_at _ _ _ _
  · intro _ b hb
    rw [wr_k _ _ _ (by omega), wr_k _ _ _ (by omega), qk b hb]
    exact hk0 h10 b hb
  · intro q; omega
  · unfold Lg LogIs
    rw [q17]
    exact ⟨wr_at _ _ _ _, by show 0 ≤ 2048; omega, fun i hi => absurd hi (by show ¬ i < 0; omega)⟩
end SG
