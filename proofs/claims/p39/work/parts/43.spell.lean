def argL (v : Int) : List Int := if v = -1 then [] else 32 :: dl v
def SpIs (R : Mem) (L : List Int) : Prop := R 0 13 = zI (L.length : Int) ∧ L.length ≤ 24 ∧ ∀ i, i < L.length → R 6 i = zI (L.getD i 0)
/-- only the spelling changes -/
def SpF (R R' : Mem) : Prop := (∀ k, k ≠ 0 → k ≠ 6 → R' k = R k) ∧ ∀ i, i ≠ 13 → R' 0 i = R 0 i
theorem SpF.rf (R : Mem) : SpF R R := ⟨fun _ _ _ => rfl, fun _ _ => rfl⟩
theorem SpF.trans {R R' R'' : Mem} (h : SpF R R') (h' : SpF R' R'') : SpF R R'' := ⟨fun k a b => (h'.1 k a b).trans (h.1 k a b), fun i a => (h'.2 i a).trans (h.2 i a)⟩
theorem Fr.sp {X R R' : Mem} (h : SpF R R') : Fr X R X R' := ⟨fun _ _ => rfl, fun k h1 h2 => h.1 k (by omega) (by omega), h.2 4 (by omega)⟩
section LG
variable {l : Nat} {X R : Mem} {L : List Int}
theorem X_arg' (h : LogIs X l L) {v : Int} (hv : v = -1 ∨ (0 ≤ v ∧ v < 100000)) (hl : L.length + 7 < 2048) : ∃ X', fX2_appendArgument l X (zI v) = some X' ∧ LogIs X' l (L ++ argL v) ∧ LF l X X' := by
  by_cases c : v = -1
  · subst c
    exact ⟨X, X_noargument, by rw [show argL (-1) = [] from rfl, List.append_nil]; exact h, LF.rf l X⟩
  · obtain ⟨X', p1, p2, p3⟩ := X_argument h (v := v) (by omega) hl
    exact ⟨X', p1, by unfold argL; rw [if_neg c]; exact p2, p3⟩
theorem argL_len {v : Int} (hv : v = -1 ∨ (0 ≤ v ∧ v < 100000)) : (argL v).length ≤ 6 := by
  unfold argL
  split
  · simp
  · have := dl_len (v := v) (by omega)
    simp; omega
theorem X_append (h : LogIs X l L) {j : Nat} (hj : j < 13) {m a b : Int} (hm : 0 ≤ m ∧ m < 100000) (ha : a = -1 ∨ (0 ≤ a ∧ a < 100000)) (hb : b = -1 ∨ (0 ≤ b ∧ b < 100000)) (hl : L.length + 60 < 2048) : ∃ X', fX2_append l j X (zI m) (zI a) (zI b) = some X' ∧ LogIs X' l (L ++ (dl m ++ (58 :: wdl j) ++ (argL a ++ argL b) ++ [47])) ∧ LF l X X' := by
  have hlen : ∀ j, j < 13 → lenS.getD j 0 ≤ 6 ∧ 0 < lenS.getD j 0 := by decide
  have h6 := hlen j hj
  have hwl : (wdl j).length = lenS.getD j 0 := (strAt_z j hj 0 h6.2).2
  have d1 := dl_len hm.1
  have d2 := argL_len ha
  have d3 := argL_len hb
  obtain ⟨X1, p1, q1, r1⟩ := X_number h hm (by omega)
  obtain ⟨X2, p2, q2, r2⟩ := X_sign q1 (by simp; omega) 58
  obtain ⟨X3, q3, r3, p3⟩ := X_letters hj (zI a) (zI b) (lenS.getD j 0) 0 5000 X2 _ q2 (by omega) (by omega) (by rw [List.length_append, List.length_append]; simp only [List.length_cons, List.length_nil]; omega)
  obtain ⟨X4, p4, q4, r4⟩ := X_arg' q3 ha (by simp; omega)
  obtain ⟨X5, p5, q5, r5⟩ := X_arg' q4 hb (by simp; omega)
  obtain ⟨X6, p6, q6, r6⟩ := X_sign q5 (by simp; omega) 47
  have p3' : fX2_append_L14 l j 5000 X2 (zI a) (zI b) 0 = some X6 := by
    rw [show (0 : Int32) = zI ((0 : Nat) : Int) from rfl, p3, p4, bnd_some, p5, bnd_some, show (47 : Int32) = zI 47 from rfl, p6, bnd_some]
  refine ⟨X6, ?_, ?_, ((((r1.trans r2).trans r3).trans r4).trans r5).trans r6⟩
  · unfold fX2_append
    rw [p1, bnd_some, show (58 : Int32) = zI 58 from rfl, p2, bnd_some, p3']
  · simpa [List.append_assoc] using q6
theorem R_put (h : SpIs R L) (hl : L.length < 24) (c : Int) : ∃ R', fX8_put R (zI c) = some R' ∧ SpIs R' (L ++ [c]) ∧ SpF R R' := by
  obtain ⟨h1, h2, h3⟩ := h
  unfold fX8_put
  rw [h1, if_pos (by rw [zinb] <;> omega), thn_eq, thn_eq, ztn (by omega) (by omega), Int.toNat_natCast]
  refine ⟨_, rfl, ⟨?_, ?_, ?_⟩, ?_, ?_⟩
  · rw [wr_at, wr_k R _ _ (by omega), h1, zc1, zadd, List.length_append]; rfl
  · rw [List.length_append]; simp; omega
  · intro i hi
    rw [List.length_append] at hi
    simp only [List.length_cons, List.length_nil] at hi
    rw [wr_k _ _ _ (by omega)]
    by_cases q : i = L.length
    · subst q; rw [wr_at, getD_last]
    · rw [wr_i _ _ _ q, getD_app (by omega), h3 i (by omega)]
  · intro k a b
    rw [wr_k _ _ _ a, wr_k _ _ _ b]
  · intro i hi
    rw [wr_i _ _ _ hi, wr_k R _ _ (by omega)]
theorem R_num_end (n : Nat) (v : Int32) : fX8_putNumber_L18 (n + 1) R v (zI 0) = some R := by
  rw [fX8_putNumber_L18, if_pos (by decide)]
theorem R_num_put (h : SpIs R L) (hl : L.length < 24) (n : Nat) {v u : Int} (hv : 0 ≤ v ∧ v < 100000) (hu : 1 ≤ u ∧ u ≤ 100000) : ∃ R', SpIs R' (L ++ [48 + v / u % 10]) ∧ SpF R R' ∧ fX8_putNumber_L18 (n + 1) R (zI v) (zI u) = fX8_putNumber_L18 n R' (zI v) (zI (u / 10)) := by
  have e : (48 : Int32) + irm (zI v / zI u) 10 = zI (48 + v / u % 10) := by
    have h1 : 0 ≤ v / u := Int.ediv_nonneg hv.1 (by omega)
    have h2 : v / u ≤ v := Int.ediv_le_self u hv.1
    rw [zdiv (by omega) (by omega) (by omega) (by omega), zc10, zirm (by omega) (by omega) (by omega) (by omega), zc48, zadd]
  obtain ⟨R', p1, p2, p3⟩ := R_put h hl (48 + v / u % 10)
  refine ⟨R', p2, p3, ?_⟩
  have hne : ¬ zI u = 0 := by rw [zc0, zeq] <;> omega
  rw [fX8_putNumber_L18, if_neg (by rw [zc0, zle] <;> omega), if_pos hne, e, p1, bnd_some, zc10, zdiv (by omega) (by omega) (by omega) (by omega)]
theorem R_num_up (n : Nat) {v u : Int} (hv : 0 ≤ v ∧ v < 100000) (hu : 1 ≤ u ∧ u ≤ 100000) (h : 9 < v / u) : fX8_putNumber_L2 (n + 1) R (zI v) (zI u) = fX8_putNumber_L2 n R (zI v) (zI (u * 10)) := by
  have hne : ¬ zI u = 0 := by rw [zc0, zeq] <;> omega
  have h2 : v / u ≤ v := Int.ediv_le_self u hv.1
  rw [fX8_putNumber_L2, if_pos hne, zdiv (by omega) (by omega) (by omega) (by omega), if_neg (by rw [zc9, zle] <;> omega), zc10, zmul]
theorem R_num_go (n : Nat) {v u : Int} (hv : 0 ≤ v ∧ v < 100000) (hu : 1 ≤ u ∧ u ≤ 100000) (h : v / u ≤ 9) : fX8_putNumber_L2 (n + 1) R (zI v) (zI u) = fX8_putNumber_L18 5000 R (zI v) (zI u) := by
  have hne : ¬ zI u = 0 := by rw [zc0, zeq] <;> omega
  have h1 : 0 ≤ v / u := Int.ediv_nonneg hv.1 (by omega)
  rw [fX8_putNumber_L2, if_pos hne, zdiv (by omega) (by omega) (by omega) (by omega), if_pos (by rw [zc9, zle] <;> omega)]
theorem R_number (h : SpIs R L) {v : Int} (hv : 0 ≤ v ∧ v < 100000) (hl : L.length + (dl v).length ≤ 24) : ∃ R', fX8_putNumber R (zI v) = some R' ∧ SpIs R' (L ++ dl v) ∧ SpF R R' := by
  show ∃ R', fX8_putNumber_L2 5000 R (zI v) (zI 1) = some R' ∧ _
  unfold dl at hl ⊢
  by_cases c1 : v < 10
  · rw [if_pos c1] at hl ⊢
    obtain ⟨R1, a1, b1, e1⟩ := R_num_put h (by simp at hl; omega) 4999 hv (u := 1) (by omega)
    refine ⟨R1, ((R_num_go 4999 hv (by omega) (by omega)).trans e1).trans (R_num_end _ _), ?_, b1⟩
    rw [show 48 + v = 48 + v / 1 % 10 by omega]
    exact a1
  · rw [if_neg c1] at hl ⊢
    have u1 := R_num_up (R := R) 4999 hv (u := 1) (by omega) (by omega)
    by_cases c2 : v < 100
    · rw [if_pos c2] at hl ⊢
      simp at hl
      obtain ⟨R1, a1, b1, e1⟩ := R_num_put h (by omega) 4999 hv (u := 10) (by omega)
      obtain ⟨R2, a2, b2, e2⟩ := R_num_put a1 (by simp; omega) 4998 hv (u := 1) (by omega)
      refine ⟨R2, (((u1.trans (R_num_go 4998 hv (by omega) (by omega))).trans e1).trans e2).trans (R_num_end _ _), ?_, b1.trans b2⟩
      rw [show L ++ [48 + v / 10, 48 + v % 10] = L ++ [48 + v / 10 % 10] ++ [48 + v / 1 % 10] by simp; omega]
      exact a2
    · rw [if_neg c2] at hl ⊢
      have u2 := R_num_up (R := R) 4998 hv (u := 10) (by omega) (by omega)
      by_cases c3 : v < 1000
      · rw [if_pos c3] at hl ⊢
        simp at hl
        obtain ⟨R1, a1, b1, e1⟩ := R_num_put h (by omega) 4999 hv (u := 100) (by omega)
        obtain ⟨R2, a2, b2, e2⟩ := R_num_put a1 (by simp; omega) 4998 hv (u := 10) (by omega)
        obtain ⟨R3, a3, b3, e3⟩ := R_num_put a2 (by simp; omega) 4997 hv (u := 1) (by omega)
        refine ⟨R3, (((((u1.trans u2).trans (R_num_go 4997 hv (by omega) (by omega))).trans e1).trans e2).trans e3).trans (R_num_end _ _), ?_, (b1.trans b2).trans b3⟩
        rw [show L ++ [48 + v / 100, 48 + v / 10 % 10, 48 + v % 10] = L ++ [48 + v / 100 % 10] ++ [48 + v / 10 % 10] ++ [48 + v / 1 % 10] by simp; omega]
        exact a3
      · rw [if_neg c3] at hl ⊢
        have u3 := R_num_up (R := R) 4997 hv (u := 100) (by omega) (by omega)
        by_cases c4 : v < 10000
        · rw [if_pos c4] at hl ⊢
          simp at hl
          obtain ⟨R1, a1, b1, e1⟩ := R_num_put h (by omega) 4999 hv (u := 1000) (by omega)
          obtain ⟨R2, a2, b2, e2⟩ := R_num_put a1 (by simp; omega) 4998 hv (u := 100) (by omega)
          obtain ⟨R3, a3, b3, e3⟩ := R_num_put a2 (by simp; omega) 4997 hv (u := 10) (by omega)
          obtain ⟨R4, a4, b4, e4⟩ := R_num_put a3 (by simp; omega) 4996 hv (u := 1) (by omega)
          refine ⟨R4, (((((((u1.trans u2).trans u3).trans (R_num_go 4996 hv (by omega) (by omega))).trans e1).trans e2).trans e3).trans e4).trans (R_num_end _ _), ?_, ((b1.trans b2).trans b3).trans b4⟩
          rw [show L ++ [48 + v / 1000, 48 + v / 100 % 10, 48 + v / 10 % 10, 48 + v % 10] = L ++ [48 + v / 1000 % 10] ++ [48 + v / 100 % 10] ++ [48 + v / 10 % 10] ++ [48 + v / 1 % 10] by simp; omega]
          exact a4
        · rw [if_neg c4] at hl ⊢
          simp at hl
          have u4 := R_num_up (R := R) 4996 hv (u := 1000) (by omega) (by omega)
          obtain ⟨R1, a1, b1, e1⟩ := R_num_put h (by omega) 4999 hv (u := 10000) (by omega)
          obtain ⟨R2, a2, b2, e2⟩ := R_num_put a1 (by simp; omega) 4998 hv (u := 1000) (by omega)
          obtain ⟨R3, a3, b3, e3⟩ := R_num_put a2 (by simp; omega) 4997 hv (u := 100) (by omega)
          obtain ⟨R4, a4, b4, e4⟩ := R_num_put a3 (by simp; omega) 4996 hv (u := 10) (by omega)
          obtain ⟨R5, a5, b5, e5⟩ := R_num_put a4 (by simp; omega) 4995 hv (u := 1) (by omega)
          refine ⟨R5, (((((((((u1.trans u2).trans u3).trans u4).trans (R_num_go 4995 hv (by omega) (by omega))).trans e1).trans e2).trans e3).trans e4).trans e5).trans (R_num_end _ _), ?_, (((b1.trans b2).trans b3).trans b4).trans b5⟩
          rw [show L ++ [48 + v / 10000, 48 + v / 1000 % 10, 48 + v / 100 % 10, 48 + v / 10 % 10, 48 + v % 10] = L ++ [48 + v / 10000 % 10] ++ [48 + v / 1000 % 10] ++ [48 + v / 100 % 10] ++ [48 + v / 10 % 10] ++ [48 + v / 1 % 10] by simp; omega]
          exact a5
/-- the reference's letters -/
theorem wl_ok : ∀ w : Nat, w < 8 → (wl w).length ≤ 5 ∧ fX8_lettersOf (fun _ _ => 0) (zI (w : Int)) = zI ((wl w).length : Int) ∧ ∀ k, k < (wl w).length → fX8_wordLetter (fun _ _ => 0) (zI (w : Int)) (zI (k : Int)) = zI ((wl w).getD k 0) := by decide +kernel
theorem lettersOf_R (x : Int32) : fX8_lettersOf R x = fX8_lettersOf (fun _ _ => 0) x := rfl
theorem wordLetter_R (x y : Int32) : fX8_wordLetter R x y = fX8_wordLetter (fun _ _ => 0) x y := rfl
theorem R_letters {w : Nat} (hw : w < 8) (x2 : Int32) : ∀ (d k n : Nat) (R : Mem) (L : List Int), SpIs R L → k + d = (wl w).length → d < n → L.length + d ≤ 24 → ∃ R', SpIs R' (L ++ (wl w).drop k) ∧ SpF R R' ∧ fX8_spell_L41 n R x2 (zI (w : Int)) (zI (k : Int)) = fX8_spell_L69 5000 R' x2 (zI (w : Int)) (zI 0) := by
  have h6 := wl_ok w hw
  intro d
  induction d with
  | zero =>
    intro k n R L h hk hn hl
    obtain ⟨n, rfl⟩ := ex_succ hn
    refine ⟨R, ?_, SpF.rf R, ?_⟩
    · rw [List.drop_of_length_le (by omega), List.append_nil]; exact h
    · rw [fX8_spell_L41, lettersOf_R, h6.2.1, if_pos (by rw [zle] <;> omega)]; rfl
  | succ d ih =>
    intro k n R L h hk hn hl
    obtain ⟨n, rfl⟩ := ex_succ hn
    obtain ⟨R1, p1, p2, p3⟩ := R_put h (by omega) ((wl w).getD k 0)
    obtain ⟨R2, q1, q2, q3⟩ := ih (k + 1) n R1 _ p2 (by omega) (by omega) (by simp; omega)
    refine ⟨R2, ?_, p3.trans q2, ?_⟩
    · have : (wl w).drop k = (wl w).getD k 0 :: (wl w).drop (k + 1) := by
        rw [List.drop_eq_getElem_cons (by omega)]
        simp [List.getD_eq_getElem?_getD, List.getElem?_eq_getElem (show k < (wl w).length by omega)]
      rw [this]
      simpa using q1
    · rw [fX8_spell_L41, lettersOf_R, h6.2.1, if_neg (by rw [zle] <;> omega), wordLetter_R, h6.2.2 k (by omega), p1, bnd_some, zsuc]
      exact q3
end LG
/-- what an entry may be -/
def Ent (m w a b : Int) : Prop := (0 ≤ m ∧ m ≤ 120) ∧ (0 ≤ w ∧ w ≤ 7) ∧ (0 ≤ a ∧ a < 100000) ∧ (0 ≤ b ∧ b < 100) ∧ (w ≠ 4 → a < 100)
theorem sp_len {m w a b : Int} (h : Ent m w a b) : (sp m w a b).length ≤ 16 := by
  obtain ⟨hm, hw, ha, hb, hx⟩ := h
  have d1 := dl_len hm.1
  have d2 := dl_len ha.1
  have d3 := dl_len hb.1
  unfold sp wa wl
  have : w = 0 ∨ w = 1 ∨ w = 2 ∨ w = 3 ∨ w = 4 ∨ w = 5 ∨ w = 6 ∨ w = 7 := by omega
  rcases this with rfl | rfl | rfl | rfl | rfl | rfl | rfl | rfl <;> simp <;> omega
section LS
variable {X R : Mem} {σ : Nat → Int}
theorem R_spell (hR : R 1 = enc σ) {e : Nat} (he : e < 125) (hE : Ent (σ (402 + 4 * e)) (σ (403 + 4 * e)) (σ (404 + 4 * e)) (σ (405 + 4 * e))) : ∃ R', fX8_spell R (zI (e : Int)) = some R' ∧ SpIs R' (spE σ e) ∧ SpF R R' := by
  have hlen := sp_len hE
  obtain ⟨hm, hw, ha, hb, hx⟩ := hE
  have e1 : (402 : Int32) + (4 : Int32) * zI (e : Int) = zI ((402 + 4 * e : Nat) : Int) := by rw [zc402, zc4, zmul, zadd]; congr 1
  have t0 : (zI ((402 + 4 * e : Nat) : Int)).toNatClampNeg = 402 + 4 * e := by rw [ztn (by omega) (by omega)]; omega
  have t1 : zI ((402 + 4 * e : Nat) : Int) + 1 = zI ((403 + 4 * e : Nat) : Int) := by rw [zc1, zadd]; congr 1; omega
  have t1' : (zI ((403 + 4 * e : Nat) : Int)).toNatClampNeg = 403 + 4 * e := by rw [ztn (by omega) (by omega)]; omega
  obtain ⟨w, hw2⟩ : ∃ w : Nat, σ (403 + 4 * e) = w := ⟨(σ (403 + 4 * e)).toNat, by omega⟩
  unfold fX8_spell
  rw [e1, thn_eq, t1, if_pos (by rw [zinb] <;> omega), thn_eq, t1', rd hR, thn_eq, if_pos (by rw [zinb] <;> omega), t0, wr_k R _ _ (by omega), rd hR, hw2]
  have s0 : SpIs (wr R 0 13 (0 : Int32)) [] := ⟨by rw [wr_at]; rfl, by simp, fun i hi => absurd hi (by simp)⟩
  have f0 : SpF R (wr R 0 13 (0 : Int32)) := ⟨fun k a _ => wr_k R _ _ a, fun i a => wr_i R _ _ a⟩
  have d1 := dl_len hm.1
  have d2 := dl_len ha.1
  have d3 := dl_len hb.1
  have h6 := wl_ok w (by omega)
  obtain ⟨R1, p1, q1, r1⟩ := R_number s0 (v := σ (402 + 4 * e)) (by omega) (by simp; omega)
  obtain ⟨R2, p2, q2, r2⟩ := R_put q1 (by simp; omega) 58
  obtain ⟨R3, q3, r3, p3⟩ := R_letters (w := w) (by omega) (zI ((402 + 4 * e : Nat) : Int)) (wl w).length 0 5000 R2 _ q2 (by omega) (by omega) (by simp; omega)
  rw [p1, bnd_some, show (58 : Int32) = zI 58 from rfl, p2, bnd_some, show (0 : Int32) = zI ((0 : Nat) : Int) from rfl, p3]
  have f3 : SpF R R3 := ((f0.trans r1).trans r2).trans r3
  have hR3 : R3 1 = enc σ := by rw [f3.1 1 (by omega) (by omega)]; exact hR
  simp only [List.nil_append, List.drop_zero] at q3
  have t2 : zI ((402 + 4 * e : Nat) : Int) + 2 + zI 0 = zI ((404 + 4 * e : Nat) : Int) := by rw [zc2, zadd, zadd]; congr 1; omega
  have t2' : (zI ((404 + 4 * e : Nat) : Int)).toNatClampNeg = 404 + 4 * e := by rw [ztn (by omega) (by omega)]; omega
  have t3 : zI ((402 + 4 * e : Nat) : Int) + 2 + zI 1 = zI ((405 + 4 * e : Nat) : Int) := by rw [zc2, zadd, zadd]; congr 1; omega
  have t3' : (zI ((405 + 4 * e : Nat) : Int)).toNatClampNeg = 405 + 4 * e := by rw [ztn (by omega) (by omega)]; omega
  have spw : spE σ e = dl (σ (402 + 4 * e)) ++ (58 :: wl w) ++ wa w (σ (404 + 4 * e)) (σ (405 + 4 * e)) ++ [47] := by unfold spE sp; rw [hw2]
  rw [spw]
  have hl16 : (dl (σ (402 + 4 * e)) ++ (58 :: wl w) ++ wa w (σ (404 + 4 * e)) (σ (405 + 4 * e)) ++ [47]).length ≤ 16 := by rw [← spw]; exact hlen
  have q3' : SpIs R3 (dl (σ (402 + 4 * e)) ++ (58 :: wl w)) := by simpa using q3
  by_cases c1 : w = 1
  · subst c1
    have ea : fX8_argumentsOf R3 (zI ((1 : Nat) : Int)) = zI 2 := rfl
    have hwa : wa ((1 : Nat) : Int) (σ (404 + 4 * e)) (σ (405 + 4 * e)) = (32 :: dl (σ (404 + 4 * e))) ++ (32 :: dl (σ (405 + 4 * e))) := rfl
    rw [hwa] at hl16 ⊢
    simp at hl16
    obtain ⟨R4, p4, q4, r4⟩ := R_put q3' (by simp; omega) 32
    obtain ⟨R5, p5, q5, r5⟩ := R_number q4 (v := σ (404 + 4 * e)) (by omega) (by simp; omega)
    obtain ⟨R6, p6, q6, r6⟩ := R_put q5 (by simp; omega) 32
    obtain ⟨R7, p7, q7, r7⟩ := R_number q6 (v := σ (405 + 4 * e)) (by omega) (by simp; omega)
    obtain ⟨R8, p8, q8, r8⟩ := R_put q7 (by simp; omega) 47
    have hR4 : R4 1 = enc σ := by rw [r4.1 1 (by omega) (by omega)]; exact hR3
    have hR6 : R6 1 = enc σ := by rw [r6.1 1 (by omega) (by omega), r5.1 1 (by omega) (by omega)]; exact hR4
    refine ⟨R8, ?_, by simpa using q8, (((((f3.trans r4).trans r5).trans r6).trans r7).trans r8)⟩
    rw [show (5000 : Nat) = 4997 + 1 + 1 + 1 from rfl, fX8_spell_L69, ea, if_neg (by decide), show (32 : Int32) = zI 32 from rfl, p4, bnd_some, t2, if_pos (by rw [zinb] <;> omega), t2', rd hR4, p5, bnd_some, show zI 0 + 1 = zI 1 from rfl]
    rw [fX8_spell_L69, show fX8_argumentsOf R5 (zI ((1 : Nat) : Int)) = zI 2 from rfl, if_neg (by decide), show (32 : Int32) = zI 32 from rfl, p6, bnd_some, t3, if_pos (by rw [zinb] <;> omega), t3', rd hR6, p7, bnd_some, show zI 1 + 1 = zI 2 from rfl]
    rw [fX8_spell_L69, show fX8_argumentsOf R7 (zI ((1 : Nat) : Int)) = zI 2 from rfl, if_pos (by decide), show (47 : Int32) = zI 47 from rfl, p8, bnd_some]
  · by_cases c2 : w < 6
    · have hao : ∀ w : Nat, w < 6 → w ≠ 1 → fX8_argumentsOf (fun _ _ => 0) (zI (w : Int)) = zI 1 := by decide
      have ea : ∀ R : Mem, fX8_argumentsOf R (zI (w : Int)) = zI 1 := fun R => hao w c2 c1
      have hwa : wa w (σ (404 + 4 * e)) (σ (405 + 4 * e)) = 32 :: dl (σ (404 + 4 * e)) := by unfold wa; rw [if_neg (by omega), if_pos (by omega)]
      rw [hwa] at hl16 ⊢
      simp at hl16
      obtain ⟨R4, p4, q4, r4⟩ := R_put q3' (by simp; omega) 32
      obtain ⟨R5, p5, q5, r5⟩ := R_number q4 (v := σ (404 + 4 * e)) (by omega) (by simp; omega)
      obtain ⟨R6, p6, q6, r6⟩ := R_put q5 (by simp; omega) 47
      have hR4 : R4 1 = enc σ := by rw [r4.1 1 (by omega) (by omega)]; exact hR3
      refine ⟨R6, ?_, by simpa using q6, (((f3.trans r4).trans r5).trans r6)⟩
      rw [show (5000 : Nat) = 4998 + 1 + 1 from rfl, fX8_spell_L69, ea, if_neg (by decide), show (32 : Int32) = zI 32 from rfl, p4, bnd_some, t2, if_pos (by rw [zinb] <;> omega), t2', rd hR4, p5, bnd_some, show zI 0 + 1 = zI 1 from rfl]
      rw [fX8_spell_L69, ea, if_pos (by decide), show (47 : Int32) = zI 47 from rfl, p6, bnd_some]
    · have hao : ∀ w : Nat, w < 8 → ¬ w < 6 → fX8_argumentsOf (fun _ _ => 0) (zI (w : Int)) = zI 0 := by decide
      have ea : ∀ R : Mem, fX8_argumentsOf R (zI (w : Int)) = zI 0 := fun R => hao w (by omega) c2
      have hwa : wa w (σ (404 + 4 * e)) (σ (405 + 4 * e)) = [] := by unfold wa; rw [if_neg (by omega), if_neg (by omega)]
      rw [hwa] at hl16 ⊢
      simp at hl16
      obtain ⟨R4, p4, q4, r4⟩ := R_put q3' (by simp; omega) 47
      refine ⟨R4, ?_, by simpa using q4, f3.trans r4⟩
      rw [show (5000 : Nat) = 4999 + 1 from rfl, fX8_spell_L69, ea, if_pos (by decide), show (47 : Int32) = zI 47 from rfl, p4, bnd_some]
end LS
