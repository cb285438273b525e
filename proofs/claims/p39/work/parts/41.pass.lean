theorem wr_self (M : Mem) (k i : Nat) : wr M k i (M k i) = M := by
  funext j
  by_cases h : j = k
  · subst h
    funext x
    by_cases q : x = i
    · subst q; rw [wr_at]
    · rw [wr_i M j _ q]
  · rw [wr_k M i _ h]
theorem RB.c {σ σ' : Nat → Int} (h : RB σ) (hs : ∀ j, j < 176 → (j < 3 ∨ j = 5 ∨ j = 11 ∨ (20 ≤ j ∧ j < 68) ∨ 80 ≤ j) → σ' j = σ j) : RB σ' := by
  obtain ⟨⟨a0, a1, a2, a5, a11⟩, hO, hL, ⟨hP0, hP⟩, -, hPr, hC⟩ := h
  have e0 := hs 0 (by omega) (by omega)
  have e1 := hs 1 (by omega) (by omega)
  have e2 := hs 2 (by omega) (by omega)
  refine ⟨⟨by omega, by omega, by omega, by rw [hs 5 (by omega) (by omega), e0]; exact a5, by rw [hs 11 (by omega) (by omega)]; exact a11⟩, ?_, ?_, ⟨by rw [hs 56 (by omega) (by omega)]; exact hP0, ?_⟩, trivial, ?_, ?_⟩
  · intro b h1 hb
    rw [e0] at hb
    rw [hs (20 + b) (by omega) (by omega)]
    exact hO b h1 hb
  · intro b h1 hb
    rw [e0] at hb
    rw [hs (32 + b) (by omega) (by omega), hs (44 + b) (by omega) (by omega), e1]
    exact hL b h1 hb
  · intro b hb
    rw [hs (56 + b) (by omega) (by omega)]
    exact hP b hb
  · intro p hp
    rw [e1] at hp
    rw [hs (80 + p) (by omega) (by omega), hs (104 + p) (by omega) (by omega), e0]
    exact hPr p hp
  · intro c hc
    rw [e2] at hc
    have := hC c hc
    rw [hs (128 + c) (by omega) (by omega), hs (140 + c) (by omega) (by omega), hs (152 + c) (by omega) (by omega), hs (164 + c) (by omega) (by omega), hs (32 + (σ (140 + c)).toNat) (by omega) (by omega), e0, e1]
    exact this
theorem RB.ink {σ : Nat → Int} (h : RB σ) {i : Nat} (hi : i < 12) {v : Int} (hv : 0 ≤ v ∧ v ≤ 9) : RB (us σ (164 + i) v) := by
  obtain ⟨a0, hO, hL, hP, -, hPr, hC⟩ := h
  have e : ∀ j, j < 164 → us σ (164 + i) v j = σ j := fun j hj => us_ne σ v (by omega)
  refine ⟨by rw [e 0 (by omega), e 1 (by omega), e 2 (by omega), e 5 (by omega), e 11 (by omega)]; exact a0, ?_, ?_, ⟨by rw [e 56 (by omega)]; exact hP.1, ?_⟩, trivial, ?_, ?_⟩
  · intro b h1 hb
    rw [e 0 (by omega)] at hb
    rw [e (20 + b) (by omega)]
    exact hO b h1 hb
  · intro b h1 hb
    rw [e 0 (by omega)] at hb
    rw [e (32 + b) (by omega), e (44 + b) (by omega), e 1 (by omega)]
    exact hL b h1 hb
  · intro b hb
    rw [e (56 + b) (by omega)]
    exact hP.2 b hb
  · intro p hp
    rw [e 1 (by omega)] at hp
    rw [e (80 + p) (by omega), e (104 + p) (by omega), e 0 (by omega)]
    exact hPr p hp
  · intro c hc
    rw [e 2 (by omega)] at hc
    have := hC c hc
    rw [e (128 + c) (by omega), e (140 + c) (by omega), e (152 + c) (by omega), e 0 (by omega), e 1 (by omega), e (32 + (σ (140 + c)).toNat) (by omega)]
    refine ⟨this.1, this.2.1, this.2.2.1, this.2.2.2.1, ?_⟩
    by_cases q : c = i
    · subst q; rw [us_at]; exact hv
    · rw [us_ne σ v (by omega)]; exact this.2.2.2.2
def ath (σ : Nat → Int) (c : Nat) : Bool := decide (cf σ (σ (104 + (σ (128 + c)).toNat)).toNat = 0)
theorem ath_ch {σ : Nat → Int} {c : Nat} : (ath σ c = true) = ch σ c := by simp [ath, ch, ph]
def fd (h : Int) : Nat → Nat → (Nat → Int) → (Nat → Int)
  | 0, _, σ => σ
  | d + 1, i, σ => fd h d (i + 1) (if ath σ i = true then us σ (164 + i) (max 0 (σ (164 + i) - h)) else σ)
theorem fd_ne (h : Int) : ∀ (d i : Nat) (σ : Nat → Int) (j : Nat), j < 164 ∨ 176 ≤ j → i + d ≤ 12 → fd h d i σ j = σ j := by
  intro d
  induction d with
  | zero => intro i σ j _ _; rfl
  | succ d ih =>
    intro i σ j hj hi
    unfold fd
    rw [ih (i + 1) _ j hj (by omega)]
    split
    · exact us_ne σ _ (by omega)
    · rfl
theorem fd_B (h : Int) (hh : 0 ≤ h) : ∀ (d i : Nat) (σ : Nat → Int), RB σ → (i : Int) + d ≤ σ 2 → RB (fd h d i σ) := by
  intro d
  induction d with
  | zero => intro i σ hB _; exact hB
  | succ d ih =>
    intro i σ hB hi
    have h0 := hB.1
    have q := cl hB (c := i) (by omega)
    unfold fd
    split
    · refine ih (i + 1) _ (hB.ink (by omega) (by omega)) ?_
      rw [us_ne σ _ (by omega)]; omega
    · exact ih (i + 1) σ hB (by omega)
section PS
variable {r : Nat}
theorem X_fade_L (h : Int) (hh : 0 ≤ h ∧ h ≤ 1000000) : ∀ (d i n : Nat) (X : Mem) (σ : Nat → Int), Ro X r σ → RB σ → (i : Int) + d = σ 2 → d < n → ∃ X', fX5_fade_L2 r n X (zI h) (zI (i : Int)) = some X' ∧ Ro X' r (fd h d i σ) ∧ ∀ k, k ≠ r + 11 → X' k = X k := by
  intro d
  induction d with
  | zero =>
    intro i n X σ hr hB hi hn
    have h0 := hB.1
    obtain ⟨n, rfl⟩ := ex_succ hn
    exact ⟨X, by rw [fX5_fade_L2, if_pos (by rw [hr.nc, zle] <;> omega)], hr, fun _ _ => rfl⟩
  | succ d ih =>
    intro i n X σ hr hB hi hn
    have h0 := hB.1
    obtain ⟨n, rfl⟩ := ex_succ hn
    have q := cl hB (c := i) (by omega)
    rw [fX5_fade_L2, if_neg (by rw [hr.nc, zle] <;> omega), X_ch hr hB (by omega), bnd_some, zsuc]
    unfold fd
    by_cases c : ch σ i
    · have ha : ath σ i = true := by rw [ath_ch]; exact c
      rw [i1_t c, if_neg (by decide), if_pos ha, thn_eq, hr.ink (by omega), zsub, zc0, zmx (by omega) (by omega) (by omega) (by omega)]
      have hr2 := hr.put (loc_164 i (by omega)) (n := 12) (by omega) (by omega) (by omega) (max 0 (σ (164 + i) - h))
      have hB2 : RB (us σ (164 + i) (max 0 (σ (164 + i) - h))) := hB.ink (by omega) (by omega)
      obtain ⟨X', p1, p2, p3⟩ := ih (i + 1) n _ _ hr2 hB2 (by rw [us_ne σ _ (by omega)]; omega) (by omega)
      refine ⟨X', p1, p2, fun k hk => (p3 k hk).trans ?_⟩
      rw [put_in (by omega) (by omega), wr_k X _ _ hk]
    · have ha : ¬ ath σ i = true := by rw [ath_ch]; exact c
      rw [i1_f c, if_pos rfl, if_neg ha]
      exact ih (i + 1) n X σ hr hB (by omega) (by omega)
theorem R_fade_L (h : Int) (hh : 1 ≤ h ∧ h ≤ 1000000) (mi : Int32) : ∀ (d i n : Nat) (R : Mem) (σ : Nat → Int), R 1 = enc σ → RB σ → (i : Int) + d = σ 2 → d < n → fX8_pass_L26 n R mi (zI h) (zI (i : Int)) = fX8_pass_B102 (setR R 1 (enc (fd h d i σ))) mi := by
  intro d
  induction d with
  | zero =>
    intro i n R σ hR hB hi hn
    have h0 := hB.1
    obtain ⟨n, rfl⟩ := ex_succ hn
    rw [fX8_pass_L26, if_pos (by rw [rd hR, zle] <;> omega)]
    unfold fd
    rw [← hR, setR_self]
  | succ d ih =>
    intro i n R σ hR hB hi hn
    have h0 := hB.1
    obtain ⟨n, rfl⟩ := ex_succ hn
    have q := cl hB (c := i) (by omega)
    have hi2 : inb ((164 : Int32) + zI (i : Int)) 902 = true := i164 (by omega)
    rw [fX8_pass_L26, if_neg (by rw [rd hR, zle] <;> omega), if_neg (by rw [zc0, zle] <;> omega), if_pos hi2, thn_eq, R_ch hR hB (by omega), bnd_some, j164 (by omega), rd hR, zsub, zsuc]
    unfold fd
    by_cases c : ch σ i
    · have ha : ath σ i = true := by rw [ath_ch]; exact c
      rw [i1_t c, if_neg (by decide), if_pos ha]
      have hB2 : RB (us σ (164 + i) (max 0 (σ (164 + i) - h))) := hB.ink (by omega) (by omega)
      have e : ∀ v, v = max 0 (σ (164 + i) - h) → fX8_pass_L26 n (wr R 1 (164 + i) (zI v)) mi (zI h) (zI ((i + 1 : Nat) : Int)) = fX8_pass_B102 (setR R 1 (enc (fd h d (i + 1) (us σ (164 + i) (max 0 (σ (164 + i) - h)))))) mi := by
        intro v hv
        subst hv
        rw [ih (i + 1) n _ _ (wrR hR _ _) hB2 (by rw [us_ne σ _ (by omega)]; omega) (by omega)]
        unfold wr
        rw [setR_setR]
      by_cases c2 : σ (164 + i) - h ≤ 0
      · rw [if_pos (by rw [zc0, zle] <;> omega), if_pos hi2, thn_eq, zc0]
        exact e 0 (by omega)
      · rw [if_neg (by rw [zc0, zle] <;> omega), if_pos hi2, thn_eq]
        exact e _ (by omega)
    · have ha : ¬ ath σ i = true := by rw [ath_ch]; exact c
      rw [i1_f c, if_pos rfl, if_neg ha, if_pos hi2, if_pos hi2, thn_eq, ← rd hR, wr_self]
      exact ih (i + 1) n R σ hR hB (by omega) (by omega)
end PS
section PT
variable {X R : Mem} {σ : Nat → Int}
theorem St.ro_new {X' : Mem} {t : Nat} {σ' : Nat → Int} (h : St X t σ) (hr : Ro X' (t + 1) σ') (hX : ∀ k, k ≠ 1 → k ≠ 2 → k ≠ 3 → k ≠ 4 → k ≠ 5 → k ≠ 7 → k ≠ 8 → k ≠ 9 → k ≠ 10 → k ≠ 11 → k ≠ 12 → X' (t + k) = X (t + k)) (hs : ∀ j, ro j = false → σ' j = σ j) (h11 : σ' 11 = σ 11) : St X' t σ' := by
  obtain ⟨-, hs2, h1, h0, hk1, hk0, hg⟩ := h
  have e10 : σ' 10 = σ 10 := hs 10 rfl
  refine ⟨hr, ?_, ?_, ?_, ?_, ?_, ?_⟩
  · refine hs2.frame (fun k hk => hX k (by omega) (by omega) (by omega) (by omega) (by omega) (by omega) (by omega) (by omega) (by omega) (by omega) (by omega)) (fun i _ => by rw [hX 16 (by omega) (by omega) (by omega) (by omega) (by omega) (by omega) (by omega) (by omega) (by omega) (by omega) (by omega)]) (fun j hj => hs j (sk_ok j (so_lt hj) hj).2.1)
  · rw [hX 16 (by omega) (by omega) (by omega) (by omega) (by omega) (by omega) (by omega) (by omega) (by omega) (by omega) (by omega), h11]; exact h1
  · rw [hX 16 (by omega) (by omega) (by omega) (by omega) (by omega) (by omega) (by omega) (by omega) (by omega) (by omega) (by omega), e10]; exact h0
  · rw [e10]
    intro e
    exact (hk1 e).frame (by rw [show t + 1 + 5 = t + 6 by omega]; exact hX 6 (by omega) (by omega) (by omega) (by omega) (by omega) (by omega) (by omega) (by omega) (by omega) (by omega) (by omega)) (fun b hb => hs _ (by simp [ro]; omega))
  · rw [e10]
    intro e b hb
    rw [hX 6 (by omega) (by omega) (by omega) (by omega) (by omega) (by omega) (by omega) (by omega) (by omega) (by omega) (by omega)]
    exact hk0 e b hb
  · exact hg.frame (hX 19 (by omega) (by omega) (by omega) (by omega) (by omega) (by omega) (by omega) (by omega) (by omega) (by omega) (by omega)) (by rw [show t + 19 + 1 = t + 20 by omega]; exact hX 20 (by omega) (by omega) (by omega) (by omega) (by omega) (by omega) (by omega) (by omega) (by omega) (by omega) (by omega)) (fun j hj => hs j (by simp [ro]; omega))
/-- minutes pass -/
theorem pass_ok (h : SR X R σ) (hB : RB σ) (hc : 0 ≤ σ 9) {m : Int} (hm : 0 ≤ m) (hb : σ 9 + m ≤ 1000000) : ∃ X' R' σ', fX6_pass 3 X (zI m) = some X' ∧ fX8_pass R (zI m) = some R' ∧ SR X' R' σ' ∧ RB σ' ∧ Fr X R X' R' ∧ (∀ j, j < 164 ∨ 176 ≤ j → j ≠ 9 → σ' j = σ j) ∧ σ' 9 = σ 9 + m := by
  have h0 := hB.1
  have hR := h.row
  generalize hh : (σ 9 + m) / 60 - σ 9 / 60 = hr
  have hp1 := h.stat (j := 9) rfl (σ 9 + m)
  have eX : wr X 3 5 (X 3 5 + zI m) = wr X 3 5 (zI (σ 9 + m)) := by rw [h.clock, zadd]
  have hX : fX6_pass 3 X (zI m) = if zI hr ≤ 0 then some (wr X 3 5 (zI (σ 9 + m))) else bnd (fX5_fade (3 + 1) (wr X 3 5 (zI (σ 9 + m))) (zI hr)) fun M4 => some M4 := by
    unfold fX6_pass
    rw [thn_eq, thn_eq, eX, h.clock, zadd, zc60, zdiv (by omega) (by omega) (by omega) (by omega), zdiv (by omega) (by omega) (by omega) (by omega), zsub, hh]
  have hRp : fX8_pass R (zI m) = fX8_pass_L26 5000 R (zI m) (zI hr) 0 := by
    unfold fX8_pass
    rw [thn_eq, rd hR, zadd, zc60, zdiv (by omega) (by omega) (by omega) (by omega), zdiv (by omega) (by omega) (by omega) (by omega), zsub, hh]
  rw [hX, hRp]
  by_cases c : hr ≤ 0
  · rw [if_pos (by rw [zc0, zle] <;> omega)]
    refine ⟨_, _, _, rfl, ?_, hp1.1, ?_, hp1.2, fun j _ hj => us_ne σ _ hj, us_at σ _ _⟩
    · have e : fX8_pass_L26 5000 R (zI m) (zI hr) 0 = fX8_pass_B102 R (zI m) := by
        rw [show (5000 : Nat) = 4999 + 1 from rfl, fX8_pass_L26]
        by_cases c2 : R 1 2 ≤ 0
        · rw [if_pos c2]
        · rw [if_neg c2, if_pos (by rw [zc0, zle] <;> omega)]
      rw [e]
      unfold fX8_pass_B102
      rw [thn_eq, rd hR, zadd]
    · exact hB.c (fun j _ hj => us_ne σ _ (by omega))
  · rw [if_neg (by rw [zc0, zle] <;> omega)]
    have hB1 : RB (us σ 9 (σ 9 + m)) := hB.c (fun j _ hj => us_ne σ _ (by omega))
    obtain ⟨X', p1, p2, p3⟩ := X_fade_L (r := 4) hr (by omega) (σ 2).toNat 0 5000 _ _ hp1.1.ro hB1 (by rw [us_ne σ _ (by omega)]; omega) (by omega)
    have p1' : fX5_fade (3 + 1) (wr X 3 5 (zI (σ 9 + m))) (zI hr) = some X' := p1
    have q1 := R_fade_L hr (by omega) (zI m) (σ 2).toNat 0 5000 R σ hR hB (by omega) (by omega)
    have hcomm : ∀ d i (τ : Nat → Int) v, i + d ≤ 12 → fd hr d i (us τ 9 v) = us (fd hr d i τ) 9 v := by
      intro d
      induction d with
      | zero => intro i τ v _; rfl
      | succ d ih =>
        intro i τ v hi
        have ea : ath (us τ 9 v) i = ath τ i := by
          have eoc : ∀ f b c, oc (us τ 9 v) f b c = oc τ f b c := by
            intro f
            induction f with
            | zero => intro b c; rfl
            | succ f ih2 =>
              intro b c
              unfold oc
              rw [us_ne τ v (show 20 + b ≠ 9 by omega), us_ne τ v (show 56 + b ≠ 9 by omega), ih2]
          unfold ath cf
          rw [us_ne τ v (show 128 + i ≠ 9 by omega), us_ne τ v (by omega), eoc]
        unfold fd
        rw [ea]
        by_cases q : ath τ i = true
        · rw [if_pos q, if_pos q, us_ne τ v (show 164 + i ≠ 9 by omega), ← ih (i + 1) _ v (by omega)]
          congr 1
          funext x
          unfold us
          by_cases x1 : x = 164 + i
          · subst x1; rw [if_pos rfl, if_neg (by omega), if_pos rfl]
          · rw [if_neg x1, if_neg x1]
        · rw [if_neg q, if_neg q, ih (i + 1) τ v (by omega)]
    have e9 := hcomm (σ 2).toNat 0 σ (σ 9 + m) (by omega)
    rw [e9] at p2
    rw [p1', bnd_some]
    refine ⟨X', setR R 1 (enc (us (fd hr (σ 2).toNat 0 σ) 9 (σ 9 + m))), us (fd hr (σ 2).toNat 0 σ) 9 (σ 9 + m), rfl, ?_, ⟨?_, setR_at R 1 _⟩, ?_, ?_, ?_, us_at _ _ _⟩
    · show fX8_pass_L26 5000 R (zI m) (zI hr) (zI ((0 : Nat) : Int)) = _
      rw [q1]
      unfold fX8_pass_B102
      rw [thn_eq]
      unfold wr
      rw [setR_at, setR_setR, ← enc_us]
      show some (setR R 1 (upd _ 9 (zI (fd hr (σ 2).toNat 0 σ 9) + zI m))) = _
      rw [zadd, fd_ne hr _ _ _ _ (by omega) (by omega)]
    · refine hp1.1.1.ro_new p2 (fun k _ _ _ _ _ _ _ _ _ _ hk => p3 (3 + k) (by omega)) (fun j hj => ?_) ?_
      · by_cases q : j = 9
        · subst q; rw [us_at, us_at]
        · rw [us_ne _ _ q, us_ne _ _ q]
          refine fd_ne hr _ _ _ _ ?_ (by omega)
          simp [ro] at hj
          omega
      · rw [us_ne _ _ (by omega), us_ne _ _ (by omega), fd_ne hr _ _ _ _ (by omega) (by omega)]
    · exact (fd_B hr (by omega) _ _ _ hB (by omega)).c (fun j _ hj => us_ne _ _ (by omega))
    · refine ⟨fun k hk => ?_, fun k h1 h2 => setR_ne R _ (by omega), by rw [setR_ne R _ (by omega)]⟩
      exact (p3 k (by omega)).trans (hp1.2.1 k hk)
    · intro j hj h9
      rw [us_ne _ _ h9, fd_ne hr _ _ _ _ hj (by omega)]
end PT
