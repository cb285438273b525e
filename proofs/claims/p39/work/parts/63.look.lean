/-! what the class tells, in numbers -/
/-- the group's things as bits -/
def hbs (σ : Nat → Int) : Nat → Int32
  | 0 => 0
  | i + 1 => if σ (104 + i) = -1 then hbs σ i ||| ((1 : Int32) <<< (zI (i : Int) &&& 31)) else hbs σ i
/-- when a group starts at the latest -/
def lst (σ : Nat → Int) : Nat → Int → Int
  | 0, f => f
  | g + 1, f => max (lst σ g f) (σ (184 + g)) + σ 6 + 10
def lst0 (σ : Nat → Int) : Int := if σ 10 = 1 then σ 13 + σ 6 + 10 else σ 9
def wns (σ : Nat → Int) : Nat → Int32
  | 0 => 0
  | r + 1 => wns σ r + zI (σ (196 + 7 * r))
section LK
variable {X R : Mem} {σ : Nat → Int} {n : Nat}
theorem isB (h : SR X R σ) (hI : Iv n σ) {b : Nat} (hb : (b : Int) < σ 0) : fX5_hasBox 4 X (zI (b : Int)) = 1 := by
  have h0 := hI.1.1
  rw [X_hasBox h.ro hI.1 (by omega) (by omega), i1_t (by omega)]
theorem isP (h : SR X R σ) (hI : Iv n σ) {p : Nat} (hp : (p : Int) < σ 1) : fX5_hasProp 4 X (zI (p : Int)) = 1 := by
  have h0 := hI.1.1
  rw [X_hasProp h.ro hI.1 (by omega) (by omega), i1_t (by omega)]
theorem isC (h : SR X R σ) (hI : Iv n σ) {c : Nat} (hc : (c : Int) < σ 2) : fX5_hasClue 4 X (zI (c : Int)) = 1 := by
  have h0 := hI.1.1
  rw [X_hasClue h.ro hI.1 (by omega) (by omega), i1_t (by omega)]
theorem bz_z (hI : Iv n σ) {b : Nat} (hb : (b : Int) < σ 0) : (zI (b : Int) = 0) = (b = 0) := by
  have h0 := hI.1.1
  rw [zc0, zeq (by omega) (by omega) (by omega) (by omega)]
  apply propext
  omega
theorem q_box0 (h : SR X R σ) (hI : Iv n σ) {b : Nat} (hb : (b : Int) < σ 0) : fX7_box X (zI (b : Int)) 0 = some (zI (if b = 0 then -5 else σ (20 + b))) := by
  have h0 := hI.1.1
  unfold fX7_box
  rw [isB h hI hb, it1, if_pos rfl]
  simp only [bz_z hI hb]
  by_cases c : b = 0
  · rw [if_pos c, if_pos c]; rfl
  · rw [if_neg c, if_neg c]
    exact congrArg some (h.ro.outer (by omega))
theorem q_box1 (h : SR X R σ) (hI : Iv n σ) {b : Nat} (hb : (b : Int) < σ 0) : fX7_box X (zI (b : Int)) 1 = some (zI (if b = 0 then -5 else σ (32 + b))) := by
  have h0 := hI.1.1
  unfold fX7_box
  rw [isB h hI hb, it1, if_neg (by decide), if_pos rfl]
  simp only [bz_z hI hb]
  by_cases c : b = 0
  · rw [if_pos c, if_pos c]; rfl
  · rw [if_neg c, if_neg c]
    exact congrArg some (h.ro.lock (by omega))
theorem q_box2 (h : SR X R σ) (hI : Iv n σ) {b : Nat} (hb : (b : Int) < σ 0) : fX7_box X (zI (b : Int)) 2 = some (zI (σ (56 + b))) := by
  have h0 := hI.1.1
  unfold fX7_box
  rw [isB h hI hb, it1, if_neg (by decide), if_neg (by decide), if_pos rfl]
  exact congrArg some (h.ro.opened (by omega))
theorem q_box3 (h : SR X R σ) (hI : Iv n σ) {b : Nat} (hb : (b : Int) < σ 0) : fX7_box X (zI (b : Int)) 3 = some (i1 (bh σ b)) := by
  unfold fX7_box
  rw [isB h hI hb, it1, if_neg (by decide), if_neg (by decide), if_neg (by decide), if_pos rfl, X_bh h.ro hI.1 hb, bnd_some, asN]
theorem q_box4 (h : SR X R σ) (hI : Iv n σ) {b : Nat} (hb : (b : Int) < σ 0) : fX7_box X (zI (b : Int)) 4 = some (zI (cnt (fun p => decide (σ (104 + p) = (b : Int))) (σ 1).toNat : Nat)) := by
  have h0 := hI.1.1
  unfold fX7_box
  rw [isB h hI hb, it1, if_neg (by decide), if_neg (by decide), if_neg (by decide), if_neg (by decide), if_pos rfl, X_propsIn h.ro hI.1 (by omega), bnd_some]
theorem q_box5 (h : SR X R σ) (hI : Iv n σ) {b : Nat} (hb : (b : Int) < σ 0) : fX7_box X (zI (b : Int)) 5 = some (zI (cnt (fun c => decide (1 ≤ c ∧ σ (20 + c) = (b : Int))) (σ 0).toNat : Nat)) := by
  have h0 := hI.1.1
  unfold fX7_box
  rw [isB h hI hb, it1, if_neg (by decide), if_neg (by decide), if_neg (by decide), if_neg (by decide), if_neg (by decide), if_pos rfl, X_boxesIn h.ro hI.1 (by omega), bnd_some]
theorem q_box6 (h : SR X R σ) (hI : Iv n σ) {b : Nat} (hb : (b : Int) < σ 0) : fX7_box X (zI (b : Int)) 6 = some (zI (if b = 0 then -5 else σ (44 + b))) := by
  have h0 := hI.1.1
  unfold fX7_box
  rw [isB h hI hb, it1, if_neg (by decide), if_neg (by decide), if_neg (by decide), if_neg (by decide), if_neg (by decide), if_neg (by decide), if_pos rfl]
  simp only [bz_z hI hb]
  by_cases c : b = 0
  · rw [if_pos c, if_pos c]; rfl
  · have hbp := bp hI.1 (b := b) (by omega) hb
    rw [if_neg c, if_neg c, show fX5_hasLock 4 X (zI (b : Int)) (0 : Int32) = i1 (1 ≤ b ∧ σ (32 + b) = 0) from X_hasLock h.ro hI.1 (l := 0) hb (by omega)]
    by_cases c6 : σ (32 + b) = 0
    · rw [i1_t ⟨by omega, c6⟩, it1, hbp.2.1 c6]; rfl
    · rw [i1_f (fun q => c6 q.2), it0]
      exact congrArg some (h.ro.item (by omega) c6)
theorem q_box7 (h : SR X R σ) (hI : Iv n σ) (h10 : σ 10 = 1) {b : Nat} (hb : (b : Int) < σ 0) : fX7_box X (zI (b : Int)) 7 = some (zI (σ (68 + b))) := by
  have h0 := hI.1.1
  unfold fX7_box
  rw [isB h hI hb, it1, if_neg (by decide), if_neg (by decide), if_neg (by decide), if_neg (by decide), if_neg (by decide), if_neg (by decide), if_neg (by decide), if_pos rfl]
  exact congrArg some (Kn.at (h.1.2.2.2.2.1 h10) (by omega))
theorem q_box8 (h : SR X R σ) (hI : Iv n σ) {b : Nat} (hb : (b : Int) < σ 0) : fX7_box X (zI (b : Int)) 8 = some (-2) := by
  unfold fX7_box
  rw [isB h hI hb, it1, if_neg (by decide), if_neg (by decide), if_neg (by decide), if_neg (by decide), if_neg (by decide), if_neg (by decide), if_neg (by decide), if_neg (by decide)]
theorem q_prop0 (h : SR X R σ) (hI : Iv n σ) {p : Nat} (hp : (p : Int) < σ 1) : fX7_prop X (zI (p : Int)) 0 = some (zI (σ (80 + p))) := by
  have h0 := hI.1.1
  unfold fX7_prop
  rw [isP h hI hp, it1, if_pos rfl]
  exact congrArg some (h.ro.home (by omega))
theorem q_prop1 (h : SR X R σ) (hI : Iv n σ) {p : Nat} (hp : (p : Int) < σ 1) : fX7_prop X (zI (p : Int)) 1 = some (zI (if σ (104 + p) = -1 then -5 else σ (104 + p))) := by
  have h0 := hI.1.1
  unfold fX7_prop
  rw [isP h hI hp, it1, if_neg (by decide), if_pos rfl, X_isHeld h.ro hI.1 hp]
  by_cases c : σ (104 + p) = -1
  · rw [i1_t c, it1, if_pos c]; rfl
  · rw [i1_f c, it0, if_neg c]
    exact congrArg some (h.ro.lies (by omega))
theorem q_prop2 (h : SR X R σ) (hI : Iv n σ) {p : Nat} (hp : (p : Int) < σ 1) : fX7_prop X (zI (p : Int)) 2 = some (i1 (ph σ p)) := by
  unfold fX7_prop
  rw [isP h hI hp, it1, if_neg (by decide), if_neg (by decide), if_pos rfl, X_ph h.ro hI.1 hp, bnd_some, asN]
theorem q_clue0 (h : SR X R σ) (hI : Iv n σ) {c : Nat} (hc : (c : Int) < σ 2) : fX7_clue X (zI (c : Int)) 0 = some (zI (σ (128 + c))) := by
  have h0 := hI.1.1
  unfold fX7_clue
  rw [isC h hI hc, it1, if_pos rfl]
  exact congrArg some (h.ro.cprop (by omega))
theorem q_clue1 (h : SR X R σ) (hI : Iv n σ) {c : Nat} (hc : (c : Int) < σ 2) : fX7_clue X (zI (c : Int)) 1 = some (zI (σ (140 + c))) := by
  have h0 := hI.1.1
  unfold fX7_clue
  rw [isC h hI hc, it1, if_neg (by decide), if_pos rfl]
  exact congrArg some (h.ro.cbox (by omega))
theorem q_clue2 (h : SR X R σ) (hI : Iv n σ) {c : Nat} (hc : (c : Int) < σ 2) : fX7_clue X (zI (c : Int)) 2 = some (zI (σ (152 + c))) := by
  have h0 := hI.1.1
  unfold fX7_clue
  rw [isC h hI hc, it1, if_neg (by decide), if_neg (by decide), if_pos rfl]
  exact congrArg some (h.ro.cplace (by omega))
theorem q_clue3 (h : SR X R σ) (hI : Iv n σ) {c : Nat} (hc : (c : Int) < σ 2) : fX7_clue X (zI (c : Int)) 3 = some (zI (σ (164 + c))) := by
  have h0 := hI.1.1
  unfold fX7_clue
  rw [isC h hI hc, it1, if_neg (by decide), if_neg (by decide), if_neg (by decide), if_pos rfl]
  exact congrArg some (h.ro.ink (by omega))
theorem q_clue4 (h : SR X R σ) (hI : Iv n σ) {c : Nat} (hc : (c : Int) < σ 2) : fX7_clue X (zI (c : Int)) 4 = some (zI (dgt σ c)) := by
  unfold fX7_clue
  rw [isC h hI hc, it1, if_neg (by decide), if_neg (by decide), if_neg (by decide), if_neg (by decide), if_pos rfl, X_clueDigit h.ro hI.1 hc]
theorem q_clue5 (h : SR X R σ) (hI : Iv n σ) {c : Nat} (hc : (c : Int) < σ 2) : fX7_clue X (zI (c : Int)) 5 = some (i1 (ch σ c)) := by
  unfold fX7_clue
  rw [isC h hI hc, it1, if_neg (by decide), if_neg (by decide), if_neg (by decide), if_neg (by decide), if_neg (by decide), if_pos rfl, X_ch h.ro hI.1 hc, bnd_some, asN]
theorem q_game_off (h : SR X R σ) (hI : Iv n σ) (h10 : ¬ σ 10 = 1) : fX7_game X 0 = some (-4) := by
  unfold fX7_game
  rw [if_neg (by decide), if_pos (by decide), running h hI, i1_f h10, it0]
theorem q_game6 : fX7_game X 6 = some (-2) := by
  unfold fX7_game
  rw [if_neg (by decide), if_neg (by decide)]
theorem q_game0 (h : SR X R σ) (hI : Iv n σ) (h10 : σ 10 = 1) : fX7_game X 0 = some (zI (σ 11)) := by
  unfold fX7_game
  rw [if_neg (by decide), if_pos (by decide), running h hI, i1_t h10, it1, if_pos rfl, h.players]
theorem q_game1 (h : SR X R σ) (hI : Iv n σ) (h10 : σ 10 = 1) : fX7_game X 1 = some (zI (σ 13)) := by
  unfold fX7_game
  rw [if_neg (by decide), if_pos (by decide), running h hI, i1_t h10, it1, if_neg (by decide), if_pos rfl, h.start]
theorem q_game2 (h : SR X R σ) (hI : Iv n σ) (h10 : σ 10 = 1) : fX7_game X 2 = some (zI (σ 13 + σ 6 - σ 9)) := by
  unfold fX7_game
  rw [if_neg (by decide), if_pos (by decide), running h hI, i1_t h10, it1, if_neg (by decide), if_neg (by decide), if_pos rfl, left h]
theorem q_game3 (h : SR X R σ) (hI : Iv n σ) (h10 : σ 10 = 1) : fX7_game X 3 = some (zI (σ 14)) := by
  unfold fX7_game
  rw [if_neg (by decide), if_pos (by decide), running h hI, i1_t h10, it1, if_neg (by decide), if_neg (by decide), if_neg (by decide), if_pos rfl, h.toldN]
theorem hbs_L (h : SR X R σ) (hI : Iv n σ) : ∀ d i m : Nat, (i : Int) + d = σ 1 → d < m → fX5_heldBits_L4 4 m X (hbs σ i) (zI (i : Int)) = some (hbs σ (σ 1).toNat) := by
  have h0 := hI.1.1
  intro d
  induction d with
  | zero =>
    intro i m hi hm
    obtain ⟨m, rfl⟩ := ex_succ hm
    rw [fX5_heldBits_L4, if_pos (by rw [h.ro.np, zle] <;> omega), show i = (σ 1).toNat by omega]
  | succ d ih =>
    intro i m hi hm
    obtain ⟨m, rfl⟩ := ex_succ hm
    have q := ih (i + 1) m (by omega) (by omega)
    rw [fX5_heldBits_L4, if_neg (by rw [h.ro.np, zle] <;> omega), X_isHeld h.ro hI.1 (by omega)]
    by_cases c : σ (104 + i) = -1
    · rw [i1_t c, it1, zsuc]
      rw [hbs, if_pos c] at q
      exact q
    · rw [i1_f c, it0, zsuc]
      rw [hbs, if_neg c] at q
      exact q
theorem q_game4 (h : SR X R σ) (hI : Iv n σ) (h10 : σ 10 = 1) : fX7_game X 4 = some (hbs σ (σ 1).toNat) := by
  have h0 := hI.1.1
  unfold fX7_game
  rw [if_neg (by decide), if_pos (by decide), running h hI, i1_t h10, it1, if_neg (by decide), if_neg (by decide), if_neg (by decide), if_neg (by decide), if_pos rfl]
  have := hbs_L h hI (σ 1).toNat 0 5000 (by omega) (by omega)
  unfold fX5_heldBits
  show bnd (fX5_heldBits_L4 4 5000 X (hbs σ 0) (zI ((0 : Nat) : Int))) _ = _
  rw [this, bnd_some]
theorem isG (h : SR X R σ) (hI : Iv n σ) {g : Nat} (hg : (g : Int) < σ 3) : fX3_hasGroup 16 X (zI (g : Int)) = 1 := by
  have h3 := hI.2.1.1
  rw [hasGroup h h3 (by omega) (by omega), i1_t (by omega)]
theorem q_groupU (h : SR X R σ) (hI : Iv n σ) (y : Int32) : fX7_group X (zI (σ 3)) y = some (-1) := by
  have h3 := hI.2.1.1
  unfold fX7_group
  rw [hasGroup h h3 (by omega) (by omega), i1_f (by omega), it0]
theorem q_group0 (h : SR X R σ) (hI : Iv n σ) {g : Nat} (hg : (g : Int) < σ 3) : fX7_group X (zI (g : Int)) 0 = some (zI (σ (176 + g))) := by
  have h3 := hI.2.1.1
  unfold fX7_group
  rw [isG h hI hg, it1, if_pos rfl, (SRget h (i := g) (by omega)).1]
theorem q_group1 (h : SR X R σ) (hI : Iv n σ) {g : Nat} (hg : (g : Int) < σ 3) : fX7_group X (zI (g : Int)) 1 = some (zI (σ (184 + g))) := by
  have h3 := hI.2.1.1
  unfold fX7_group
  rw [isG h hI hg, it1, if_neg (by decide), if_pos rfl, (SRget h (i := g) (by omega)).2]
theorem lst_b (hI : Iv n σ) (hn : n ≤ 600) : ∀ g : Nat, (g : Int) ≤ σ 3 → 0 ≤ lst σ g (lst0 σ) ∧ lst σ g (lst0 σ) ≤ 900000 + 200 * g := by
  have hN := hI.2.1
  intro g
  induction g with
  | zero =>
    intro _
    unfold lst lst0
    split <;> omega
  | succ g ih =>
    intro hg
    have := ih (by omega)
    have hg2 := (hI.2.2.2.2.1 g (by omega) (by omega)).2
    unfold lst
    omega
theorem lst_L (h : SR X R σ) (hI : Iv n σ) (hn : n ≤ 600) {i : Nat} (hi : (i : Int) < σ 3) : ∀ d j m : Nat, j + d = i → d < m → fX6_latestStart_L35 3 m X (zI (i : Int)) (zI (lst σ j (lst0 σ))) (zI (j : Int)) = some (zI (max (lst σ i (lst0 σ)) (σ (184 + i)))) := by
  have hN := hI.2.1
  intro d
  induction d with
  | zero =>
    intro j m hj hm
    obtain ⟨m, rfl⟩ := ex_succ hm
    obtain rfl : j = i := by omega
    have hb := lst_b hI hn j (by omega)
    have hg2 := (hI.2.2.2.2.1 j (by omega) hi).2
    rw [fX6_latestStart_L35, if_pos (by rw [zle] <;> omega)]
    show some (mxi (zI (lst σ j (lst0 σ))) (atX X 18 8 (zI (j : Int)))) = _
    rw [(SRget h (i := j) (by omega)).2, zmx (by omega) (by omega) (by omega) (by omega)]
  | succ d ih =>
    intro j m hj hm
    obtain ⟨m, rfl⟩ := ex_succ hm
    have hb := lst_b hI hn j (by omega)
    have hg2 := (hI.2.2.2.2.1 j (by omega) (by omega)).2
    have q := ih (j + 1) m (by omega) (by omega)
    rw [fX6_latestStart_L35, if_neg (by rw [zle] <;> omega)]
    show (thn (mxi (zI (lst σ j (lst0 σ))) (atX X 18 8 (zI (j : Int))) + X 3 7 + 10) fun y => fX6_latestStart_L35 3 m X (zI (i : Int)) y (zI (j : Int) + 1)) = _
    rw [(SRget h (i := j) (by omega)).2, zmx (by omega) (by omega) (by omega) (by omega), h.limit, zc10, zadd, zadd, thn_eq, zsuc]
    exact q
theorem q_group2 (h : SR X R σ) (hI : Iv n σ) (hn : n ≤ 600) {g : Nat} (hg : (g : Int) < σ 3) : fX7_group X (zI (g : Int)) 2 = some (zI (max (lst σ g (lst0 σ)) (σ (184 + g)))) := by
  have h3 := hI.2.1.1
  unfold fX7_group
  rw [isG h hI hg, it1, if_neg (by decide), if_neg (by decide), if_pos rfl]
  have q := lst_L h hI hn hg g 0 5000 (by omega) (by omega)
  unfold fX6_latestStart
  show bnd (if bz (X 19 0) = 0 then _ else _) _ = _
  rw [running h hI]
  have e0 : lst σ 0 (lst0 σ) = lst0 σ := rfl
  rw [e0] at q
  unfold lst0 at q
  by_cases c : σ 10 = 1
  · rw [if_pos c] at q
    rw [i1_t c, it1]
    show bnd (thn (X 19 3 + X 3 7 + 10) _) _ = _
    rw [h.start, h.limit, zc10, zadd, zadd, thn_eq, zc0]
    show bnd (fX6_latestStart_L35 3 5000 X (zI (g : Int)) (zI (σ 13 + σ 6 + 10)) (zI ((0 : Nat) : Int))) _ = _
    unfold lst0
    rw [if_pos c, q, bnd_some]
  · rw [if_neg c] at q
    rw [i1_f c, it0]
    show bnd (fX6_latestStart_L35 3 5000 X (zI (g : Int)) (X 3 5) (zI ((0 : Nat) : Int))) _ = _
    rw [h.clock]
    unfold lst0
    rw [if_neg c, q, bnd_some]
end LK
