/-! the law's acts between games -/
def stB (M : Mem) (x4 x5 t : Int32) : Option (Int32 × Mem) :=
    bnd (fX7_count M (9 : Int32)) fun y77 => if y77 < 0 then (fL_between_B490 M x5 t) else (bnd (fX7_count M (9 : Int32)) fun y80 => bnd (fX7_box M y80 (2 : Int32)) fun y82 => if y82 = (1 : Int32) then (fL_between_B490 M x5 t) else (bnd (fX7_count M (7 : Int32)) fun y85 => if y85 = (30 : Int32) then (fL_between_B490 M x5 t) else (bnd (fX7_group M (0 : Int32) (1 : Int32)) fun y88 => bnd (fX7_differences M (0 : Int32)) fun y91 => bnd (fX7_differences M (1 : Int32)) fun y93 => bnd (fX7_startGame M) fun q95 => if q95.1 = ((fL_max M x4 y88) - y88) then (bnd (fX7_count q95.2 (14 : Int32)) fun y98 => if y98 = (1 : Int32) then (bnd (fX7_game q95.2 (1 : Int32)) fun y101 => if y101 = (fL_max M x4 y88) then (bnd (fX7_count q95.2 (5 : Int32)) fun y104 => if y104 = (fL_max M x4 y88) then (bnd (fX7_differences q95.2 (0 : Int32)) fun y107 => bnd (fX7_differences q95.2 (1 : Int32)) fun y109 => if (y107 + y109) = (y91 + y93) then (bnd (fX7_count q95.2 (10 : Int32)) fun y112 => if y112 = 0 then (bnd (fX7_game q95.2 (2 : Int32)) fun y115 => bnd (fX7_count q95.2 (12 : Int32)) fun y117 => if y115 = y117 then (some ((1 : Int32), q95.2)) else (some ((0 : Int32), q95.2))) else (some ((0 : Int32), q95.2))) else (some ((0 : Int32), q95.2))) else (some ((0 : Int32), q95.2))) else (some ((0 : Int32), q95.2))) else (some ((0 : Int32), q95.2))) else (some ((0 : Int32), q95.2)))))
def Ou (B : Int) (m : Nat) (X' : Mem) : Prop := ∃ R' σ', SR X' R' σ' ∧ Iv m σ' ∧ J B σ'
section BW
variable {X R : Mem} {σ : Nat → Int} {n : Nat} {B : Int}
theorem start_f (h : SR X R σ) (hI : Iv n σ) (c2 : σ 10 = 0) (hf : σ 5 = 0 ∨ σ (56 + (σ 5).toNat) = 1 ∨ σ 4 = 30) : ∃ v : Int, (v = -4 ∨ v = -3) ∧ fX7_startGame X = some (zI v, X) := by
  have hB := hI.1
  have h0 := hB.1
  have hN := hI.2.1
  unfold fX7_startGame
  rw [running h hI, i1_f (by omega), it0, h.waiting, show X 4 14 = zI (σ 5) from h.ro.ex, h.results]
  by_cases c3 : σ 3 = 0
  · rw [if_pos (show zI (σ 3) = 0 by rw [c3]; rfl)]
    exact ⟨-4, Or.inl rfl, rfl⟩
  rw [if_neg (show ¬ zI (σ 3) = 0 by rw [zc0, zeq] <;> omega)]
  by_cases c4 : σ 5 = 0
  · rw [if_pos (show zI (σ 5) = 0 by rw [c4]; rfl)]
    exact ⟨-4, Or.inl rfl, rfl⟩
  rw [if_neg (show ¬ zI (σ 5) = 0 by rw [zc0, zeq] <;> omega), zn_of h0.2.2.2.1.1, X_isOpen h.ro hB (by omega)]
  by_cases c5 : σ (56 + (σ 5).toNat) = 1
  · rw [i1_t c5, it1]
    exact ⟨-4, Or.inl rfl, rfl⟩
  rw [i1_f c5, it0, if_neg (show ¬ zI (σ 4) < 30 by rw [zc30, zlt] <;> omega)]
  exact ⟨-3, Or.inr rfl, rfl⟩
theorem b490_n (h : SR X R σ) (hI : Iv n σ) (c2 : σ 10 = 0) (hf : σ 5 = 0 ∨ σ (56 + (σ 5).toNat) = 1 ∨ σ 4 = 30) {x5 t : Int32} (ht : (x5 = 8 ∧ t = -3) ∨ (x5 ≠ 8 ∧ t = x5 + 1)) : fL_between_B490 X x5 t = some (1, X) := by
  obtain ⟨v, hv, sg⟩ := start_f h hI c2 hf
  unfold fL_between_B490
  rcases ht with ⟨h1, h2⟩ | ⟨h1, h2⟩
  · rw [if_pos h1, if_pos h2, sg, bnd_some]
    dsimp only
    rw [if_neg (show ¬ (0 : Int32) ≤ zI v by rw [zc0, zle] <;> omega)]
  · rw [if_neg h1, if_pos h2, sg, bnd_some]
    dsimp only
    rw [if_neg (show ¬ (0 : Int32) ≤ zI v by rw [zc0, zle] <;> omega)]
theorem stB_n (h : SR X R σ) (hI : Iv n σ) (hJ : J B σ) (hn : n ≤ 600) (c2 : σ 10 = 0) (c3 : 1 ≤ σ 3) {x5 t : Int32} (ht : (x5 = 8 ∧ t = -3) ∨ (x5 ≠ 8 ∧ t = x5 + 1)) : ∃ X', stB X (zI (σ 9)) x5 t = some (1, X') ∧ Ou B (n + 1) X' := by
  have hB := hI.1
  have h0 := hB.1
  have hN := hI.2.1
  have same : Ou B (n + 1) X := ⟨R, σ, h, hI.mono (by omega), hJ⟩
  unfold stB
  rw [q_c9 h hI, bnd_some]
  by_cases c4 : σ 5 = 0
  · rw [if_pos c4, if_pos (show zI (-5) < 0 by decide), b490_n h hI c2 (Or.inl c4) ht]
    exact ⟨X, rfl, same⟩
  obtain ⟨e, he⟩ : ∃ e : Nat, σ 5 = e := ⟨(σ 5).toNat, by omega⟩
  have het : (σ 5).toNat = e := by omega
  rw [if_neg c4, if_neg (show ¬ zI (σ 5) < 0 by rw [zc0, zlt] <;> omega), bnd_some, he, q_box2 h hI (by omega), bnd_some]
  have hop := bop hB (b := e) (by omega)
  by_cases c5 : σ (56 + e) = 1
  · rw [if_pos (show zI (σ (56 + e)) = 1 by rw [c5]; rfl), b490_n h hI c2 (Or.inr (Or.inl (by rw [het]; exact c5))) ht]
    exact ⟨X, rfl, same⟩
  rw [if_neg (show ¬ zI (σ (56 + e)) = 1 by rw [zc1, zeq] <;> omega), q_c7 h, bnd_some]
  by_cases c6 : σ 4 = 30
  · rw [if_pos (show zI (σ 4) = 30 by rw [c6]; rfl), b490_n h hI c2 (Or.inr (Or.inr c6)) ht]
    exact ⟨X, rfl, same⟩
  have hg := (hI.2.2.2.2.1 0 (by omega) (by omega)).2
  have hg' : 0 ≤ σ 184 ∧ σ 184 ≤ 100000 := hg
  have gq : fX7_group X 0 1 = some (zI (σ 184)) := q_group1 h hI (g := 0) (by omega)
  obtain ⟨X', R', σ', sg, s', I', J', t9, t10, t13, t17, ta, to, t6⟩ := start_n h hI hJ hn c2 (by omega) c4 (by rw [het]; exact c5) c6
  have mx : fL_max X (zI (σ 9)) (zI (σ 184)) = zI (max (σ 9) (σ 184)) := max_n X (by omega) (by omega) (by omega) (by omega)
  have hl : fX7_count X' 10 = some 0 := by
    rw [q_c10 s']
    unfold lgl
    rw [t17]
    rfl
  rw [if_neg (show ¬ zI (σ 4) = 30 by rw [zc30, zeq] <;> omega), gq, bnd_some, q_d0 h hI, bnd_some, q_d1 h hI, bnd_some, sg, bnd_some]
  dsimp only
  rw [mx, zsub, if_pos rfl, q_c14 s' I', bnd_some, i1_t t10, if_pos rfl, q_game1 s' I' t10, bnd_some, t13, if_pos rfl, q_c5 s', bnd_some, t9, if_pos rfl, q_d0 s' I', bnd_some, q_d1 s' I', bnd_some, ta, to, if_pos rfl, hl, bnd_some, if_pos rfl, q_game2 s' I' t10, bnd_some, q_c12 s', bnd_some, if_pos (show zI (σ' 13 + σ' 6 - σ' 9) = zI (σ' 6) by congr 1; omega)]
  exact ⟨X', rfl, R', σ', s', I', J'⟩
theorem b416_n (h : SR X R σ) (hI : Iv n σ) (hJ : J B σ) (hn : n ≤ 500) (c2 : σ 10 = 0) (f : Int32) {w : Int} (hw : 0 ≤ w ∧ w ≤ B + 60) (hBb : 0 ≤ B ∧ B ≤ 90000) (hs : ∀ g : Nat, (g : Int) + 1 = σ 3 → σ (184 + g) ≤ w) : ∃ X', fL_between_B416 X f (zI (σ 9)) (zI (σ 3)) (zI w) = some (1, X') ∧ Ou (B + 60) (n + 3) X' := by
  have hN := hI.2.1
  obtain ⟨a, a1, a2⟩ := low_n (f >>> ((3 : Int32) &&& 31)) (m := 6) (by omega)
  unfold fL_between_B416
  rw [show fL_low X (f >>> ((3 : Int32) &&& 31)) (6 : Int32) = some (zI a) from a2 X, bnd_some, zc1, zadd]
  rcases book_n h hI hJ (a := 1 + a) (b := w) (by omega) (by omega) hs (B' := B + 60) (by omega) (by omega) with ⟨c8, bk⟩ | ⟨c8, X1, R1, σ1, bk, s1, I1, J1, t3, e1⟩
  · rw [bk, bnd_some]
    dsimp only
    rw [if_pos (show zI (σ 3) = 8 by rw [c8]; rfl), if_pos (show zI (-3) = -3 from rfl)]
    obtain ⟨X', d1, R', σ', d2, d3, d4⟩ := stB_n h hI hJ (by omega) c2 (by omega) (x5 := zI (σ 3)) (t := zI (-3)) (Or.inl ⟨by rw [c8]; rfl, rfl⟩)
    refine ⟨X', ?_, R', σ', d2, d3.mono (by omega), d4.mono (by omega)⟩
    exact d1
  · have n8 : ¬ zI (σ 3) = 8 := by rw [zc8, zeq] <;> omega
    rw [bk, bnd_some]
    dsimp only
    rw [if_neg n8, zadd, if_pos rfl]
    have e9 : σ1 9 = σ 9 := e1 9 (by omega) (by omega)
    obtain ⟨X', d1, R', σ', d2, d3, d4⟩ := stB_n s1 I1 J1 (by omega) (by rw [e1 10 (by omega) (by omega)]; exact c2) (by omega) (x5 := zI (σ 3)) (t := zI (σ 3 + 1)) (Or.inr ⟨n8, by rw [zc1, zadd]⟩)
    rw [e9] at d1
    refine ⟨X', ?_, R', σ', d2, d3.mono (by omega), d4⟩
    exact d1
theorem b362_n (h : SR X R σ) (hI : Iv n σ) (hJ : J B σ) (hn : n ≤ 500) (c2 : σ 10 = 0) (hBb : 400 ≤ B ∧ B ≤ 90000) (f g x3 : Int32) : ∃ X', fL_between_B362 X f g x3 (zI (σ 9)) = some (1, X') ∧ Ou (B + 60) (n + 3) X' := by
  have hN := hI.2.1
  unfold fL_between_B362
  by_cases c : x3 = 5
  · obtain ⟨X', R', σ', d1, d2, d3, d4, -⟩ := build_n h hI hJ c2 (f >>> ((3 : Int32) &&& 31)) g
    rw [if_pos c, d1, bnd_some]
    exact ⟨X', rfl, R', σ', d2, d3, d4.mono (by omega)⟩
  · rw [if_neg c, q_c3 h, bnd_some]
    by_cases c3 : σ 3 = 0
    · obtain ⟨w, w1, w2⟩ := low_n g (m := 400) (by omega)
      rw [if_pos (show zI (σ 3) = 0 by rw [c3]; rfl), show (400 : Int32) = zI 400 from rfl, w2, bnd_some]
      exact b416_n h hI hJ hn c2 f (w := w) (by omega) (by omega) (fun q hq => by omega)
    · obtain ⟨q, hq⟩ : ∃ q : Nat, σ 3 = q + 1 := ⟨(σ 3 - 1).toNat, by omega⟩
      obtain ⟨w, w1, w2⟩ := low_n g (m := 60) (by omega)
      have hg := (hI.2.2.2.2.1 q (by omega) (by omega)).2
      have hjq := hJ.1.2.1.2 q (by omega)
      rw [if_neg (show ¬ zI (σ 3) = 0 by rw [zc0, zeq] <;> omega), zc1, zsub, show σ 3 - 1 = (q : Int) by omega, show (zI 1 : Int32) = 1 from rfl, q_group1 h hI (by omega), bnd_some, show (60 : Int32) = zI 60 from rfl, w2, bnd_some, zadd]
      exact b416_n h hI hJ hn c2 f (w := σ (184 + q) + w) (by omega) (by omega) (fun g' hg' => by
        have : g' = q := by omega
        subst this
        omega)
theorem b267_n (h : SR X R σ) (hI : Iv n σ) (hJ : J B σ) (hn : n ≤ 500) (c2 : σ 10 = 0) (hBb : 400 ≤ B ∧ B ≤ 90000) (f g x3 : Int32) : ∃ X', fL_between_B267 X f g x3 (zI (σ 9)) = some (1, X') ∧ Ou (B + 60) (n + 3) X' := by
  have hB := hI.1
  have h0 := hB.1
  have hN := hI.2.1
  have rest := b362_n h hI hJ hn c2 hBb f g x3
  unfold fL_between_B267
  by_cases c : x3 = 4
  · rw [if_pos c, q_c0 h, bnd_some]
    by_cases c0 : σ 0 ≤ 1
    · rw [if_pos (show zI (σ 0) ≤ 1 by rw [zc1, zle] <;> omega)]
      exact rest
    · rw [if_neg (show ¬ zI (σ 0) ≤ 1 by rw [zc1, zle] <;> omega), bnd_some, zc1, zsub]
      obtain ⟨w, w1, w2⟩ := low_n g (m := σ 0 - 1) (by omega)
      rw [w2, bnd_some, zadd]
      obtain ⟨b, hb⟩ : ∃ b : Nat, 1 + w = b := ⟨(1 + w).toNat, by omega⟩
      have b1 : 1 ≤ b := by omega
      have b2 : (b : Int) < σ 0 := by omega
      have hop := bop hB (b := b) (by omega)
      rw [hb, show (zI 1 : Int32) = 1 from rfl, q_box2 h hI b2, bnd_some]
      rcases close_n h hI hJ (by omega) c2 b1 b2 with ⟨c3, cl⟩ | ⟨c3, X', R', σ', cl, s', I', J', t9, t56, t0⟩
      · rw [cl, bnd_some]
        dsimp only
        rw [show σ (56 + b) = 0 by omega, if_pos (show zI 0 = 0 from rfl), if_pos (show zI (-5) = -5 from rfl), q_box2 h hI b2, bnd_some, show σ (56 + b) = 0 by omega, if_pos (show zI 0 = 0 from rfl), q_c5 h, bnd_some, zadd, if_pos (show zI (σ 9) = zI (σ 9 + 0) by congr 1; omega)]
        exact ⟨X, rfl, R, σ, h, hI.mono (by omega), hJ.mono (by omega)⟩
      · rw [cl, bnd_some]
        dsimp only
        rw [c3, if_neg (show ¬ zI 1 = 0 by decide), q_d1 s' I', bnd_some, if_pos rfl, q_box2 s' I' (by omega), bnd_some, t56, if_pos (show zI 0 = 0 from rfl), q_c5 s', bnd_some, zadd, if_pos (show zI (σ' 9) = zI (σ 9 + 1) by rw [t9])]
        exact ⟨X', rfl, R', σ', s', I'.mono (by omega), J'.mono (by omega)⟩
  · rw [if_neg c]
    exact rest
theorem between_n (h : SR X R σ) (hI : Iv n σ) (hJ : J B σ) (hn : n ≤ 500) (c2 : σ 10 = 0) (hBb : 400 ≤ B ∧ B ≤ 90000) (f g : Int32) : ∃ X', fL_between X f g = some (1, X') ∧ Ou (B + 60) (n + 3) X' := by
  have hB := hI.1
  have h0 := hB.1
  have hN := hI.2.1
  obtain ⟨r, r1, r2⟩ := low_n f (m := 8) (by omega)
  have rest := b267_n h hI hJ hn c2 hBb f g
  unfold fL_between
  rw [show fL_low X f (8 : Int32) = some (zI r) from r2 X, bnd_some, q_c5 h, bnd_some]
  by_cases k0 : r = 0
  · obtain ⟨w, w1, w2⟩ := low_n g (m := 100) (by omega)
    rw [if_pos (show zI r = 0 by rw [k0]; rfl), show fL_low X g (100 : Int32) = some (zI w) from w2 X, bnd_some, zc1, zadd]
    obtain ⟨X', R', σ', d1, d2, d3, d4⟩ := idle_n h hI hJ (by omega) c2 (a := 1 + w) (by omega)
    rw [d1, bnd_some]
    dsimp only
    rw [show fL_low X' g (100 : Int32) = some (zI w) from w2 X', bnd_some, zadd, zadd, if_pos (show zI (σ 9 + (1 + w)) = zI (σ 9 + 1 + w) by congr 1; omega)]
    exact ⟨X', rfl, R', σ', d2, d3.mono (by omega), d4.mono (by omega)⟩
  rw [if_neg (show ¬ zI r = 0 by rw [zc0, zeq] <;> omega)]
  by_cases k1 : r = 1
  · have hr := rmm_b hB
    rw [if_pos (show zI r = 1 by rw [k1]; rfl), q_d3 h hI (by omega), bnd_some, q_d4 h hI (by omega), bnd_some, q_c6 h, bnd_some]
    rcases reset_n h hI hJ (by omega) c2 with ⟨c3, rs⟩ | ⟨c3, X', R', σ', rs, s', I', J', t9, ta, to, t8⟩
    · have e := rmm_eq σ
      have kb := kn_b σ (σ 2).toNat 0 (σ 8)
      have ks0 : ks σ (σ 2).toNat 0 (σ 8) = 0 := kn_ks σ _ _ _ (by omega)
      have ea : awy σ = 0 := by omega
      have eo : opn σ = 0 := by omega
      rw [rs, bnd_some]
      dsimp only
      rw [c3, if_pos (show zI 0 = 0 from rfl), if_pos (show zI (-5) = -5 from rfl), q_c5 h, bnd_some, zadd, if_pos (show zI (σ 9) = zI (σ 9 + 0) by congr 1; omega), q_d0 h hI, bnd_some, ea, if_pos (show zI ((0 : Nat) : Int) = 0 from rfl), q_d1 h hI, bnd_some, eo, if_pos (show zI ((0 : Nat) : Int) = 0 from rfl), q_c6 h, bnd_some, ks0, zsub, if_pos (show zI (σ 8) = zI (σ 8 - 0) by congr 1; omega)]
      exact ⟨X, rfl, R, σ, h, hI.mono (by omega), hJ.mono (by omega)⟩
    · rw [rs, bnd_some]
      dsimp only
      rw [if_neg (show ¬ zI (rmm σ) = 0 by rw [zc0, zeq] <;> omega), if_pos rfl, q_c5 s', bnd_some, zadd, if_pos (show zI (σ' 9) = zI (σ 9 + rmm σ) by rw [t9]), q_d0 s' I', bnd_some, ta, if_pos (show zI ((0 : Nat) : Int) = 0 from rfl), q_d1 s' I', bnd_some, to, if_pos (show zI ((0 : Nat) : Int) = 0 from rfl), q_c6 s', bnd_some, zsub, if_pos (show zI (σ' 8) = zI (σ 8 - ks σ (σ 2).toNat 0 (σ 8)) by rw [t8])]
      exact ⟨X', rfl, R', σ', s', I'.mono (by omega), J'.mono (by omega)⟩
  rw [if_neg (show ¬ zI r = 1 by rw [zc1, zeq] <;> omega)]
  by_cases k2 : r = 2
  · obtain ⟨w, w1, w2⟩ := low_n g (m := 12) (by omega)
    rw [if_pos (show zI r = 2 by rw [k2]; rfl), show fL_low X g (12 : Int32) = some (zI w) from w2 X, bnd_some, zc1, zadd]
    obtain ⟨X', R', σ', d1, d2, d3, d4, t8⟩ := addPaint_n h hI hJ (by omega) c2 (a := 1 + w) (by omega)
    rw [d1, bnd_some]
    dsimp only
    rw [q_c6 d2, bnd_some, if_pos (show zI (σ 8 + (1 + w)) = zI (σ' 8) by rw [t8])]
    exact ⟨X', rfl, R', σ', d2, d3.mono (by omega), d4.mono (by omega)⟩
  rw [if_neg (show ¬ zI r = 2 by rw [zc2, zeq] <;> omega)]
  by_cases k3 : r = 3
  · rw [if_pos (show zI r = 3 by rw [k3]; rfl), q_c0 h, bnd_some]
    by_cases c0 : σ 0 ≤ 1
    · rw [if_pos (show zI (σ 0) ≤ 1 by rw [zc1, zle] <;> omega)]
      exact rest _
    · rw [if_neg (show ¬ zI (σ 0) ≤ 1 by rw [zc1, zle] <;> omega), bnd_some, zc1, zsub]
      obtain ⟨w, w1, w2⟩ := low_n g (m := σ 0 - 1) (by omega)
      rw [w2, bnd_some, zadd]
      obtain ⟨b, hb⟩ : ∃ b : Nat, 1 + w = b := ⟨(1 + w).toNat, by omega⟩
      have b1 : 1 ≤ b := by omega
      have b2 : (b : Int) < σ 0 := by omega
      rw [hb, q_c9 h hI, bnd_some]
      rcases setExit_n h hI hJ c2 b1 b2 with ⟨c3, se⟩ | ⟨c3, X', R', σ', se, s', I', J', t5⟩
      · rw [se, bnd_some]
        dsimp only
        rw [if_neg (show ¬ σ 5 = 0 by omega), if_pos (show zI (σ 5) = zI (b : Int) by rw [c3]), if_pos (show zI (-5) = -5 from rfl), q_c9 h hI, bnd_some, if_neg (show ¬ σ 5 = 0 by omega), if_pos (show zI (σ 5) = zI (b : Int) by rw [c3])]
        exact ⟨X, rfl, R, σ, h, hI.mono (by omega), hJ.mono (by omega)⟩
      · have e9 : fX7_count X' 9 = some (zI (b : Int)) := by rw [q_c9 s' I', if_neg (show ¬ σ' 5 = 0 by omega), t5]
        rw [se, bnd_some]
        dsimp only
        by_cases c4 : σ 5 = 0
        · rw [if_pos c4, if_neg (show ¬ zI (-5) = zI (b : Int) by rw [zeq] <;> omega), if_neg (show ¬ (0 : Int32) ≤ zI (-5) by decide), if_pos (show zI (σ 5) = 0 by rw [c4]; rfl), e9, bnd_some, if_pos rfl]
          exact ⟨X', rfl, R', σ', s', I'.mono (by omega), J'.mono (by omega)⟩
        · rw [if_neg c4, if_neg (show ¬ zI (σ 5) = zI (b : Int) by rw [zeq] <;> omega), if_pos (show (0 : Int32) ≤ zI (σ 5) by rw [zc0, zle] <;> omega), if_pos rfl, e9, bnd_some, if_pos rfl]
          exact ⟨X', rfl, R', σ', s', I'.mono (by omega), J'.mono (by omega)⟩
  rw [if_neg (show ¬ zI r = 3 by rw [zc3, zeq] <;> omega)]
  exact rest _
end BW
