/-! the text: signs T, n of them; a place p -/
abbrev dgp (T : Nat → Int) (n p : Nat) : Prop := p < n ∧ 48 ≤ T p ∧ T p ≤ 57
def nuP (T : Nat → Int) (n : Nat) : Nat → Nat → Nat
  | 0, p => p
  | d + 1, p => if dgp T n p then nuP T n d (p + 1) else p
def nuV (T : Nat → Int) (n : Nat) : Nat → Nat → Int → Int
  | 0, _, v => v
  | d + 1, p, v => if dgp T n p then nuV T n d (p + 1) (10 * v + (T p - 48)) else v
def wmP (T : Nat → Int) (n : Nat) : List Int → Nat → Nat
  | [], p => p
  | c :: L, p => if p < n ∧ T p = c then wmP T n L (p + 1) else p
def wmB (T : Nat → Int) (n : Nat) : List Int → Nat → Bool
  | [], _ => true
  | c :: L, p => if p < n ∧ T p = c then wmB T n L (p + 1) else false
theorem nuP_b (T : Nat → Int) (n : Nat) : ∀ d p, p ≤ n → p ≤ nuP T n d p ∧ nuP T n d p ≤ n ∧ nuP T n d p ≤ p + d := by
  intro d
  induction d with
  | zero => intro p h; unfold nuP; omega
  | succ d ih =>
    intro p h
    unfold nuP
    split
    · rename_i c; have := ih (p + 1) (by have := c.1; omega); omega
    · omega
theorem nuV_b (T : Nat → Int) (n : Nat) : ∀ d p v, 0 ≤ v → 0 ≤ nuV T n d p v ∧ nuV T n d p v < (v + 1) * 10 ^ d := by
  intro d
  induction d with
  | zero => intro p v h; unfold nuV; omega
  | succ d ih =>
    intro p v h
    have e : (10 : Int) ^ (d + 1) = 10 * 10 ^ d := by rw [Int.pow_succ]; omega
    have hp : (0 : Int) < 10 ^ d := Int.pow_pos (by omega)
    unfold nuV
    split
    · rename_i c
      have h2 := ih (p + 1) (10 * v + (T p - 48)) (by have := c.2.1; omega)
      refine ⟨h2.1, ?_⟩
      have h3 : (10 * v + (T p - 48) + 1) * 10 ^ d ≤ (10 * (v + 1)) * 10 ^ d := Int.mul_le_mul_of_nonneg_right (by have := c.2.2; omega) (by omega)
      have h4 : (10 * (v + 1)) * 10 ^ d = (v + 1) * (10 * 10 ^ d) := by rw [Int.mul_comm 10 (v + 1), Int.mul_assoc]
      rw [e]
      omega
    · refine ⟨h, ?_⟩
      have h3 : (v + 1) * 1 ≤ (v + 1) * 10 ^ (d + 1) := Int.mul_le_mul_of_nonneg_left (by rw [e]; omega) (by omega)
      omega
theorem wmP_b (T : Nat → Int) (n : Nat) : ∀ (L : List Int) (p : Nat), p ≤ n → p ≤ wmP T n L p ∧ wmP T n L p ≤ n := by
  intro L
  induction L with
  | nil => intro p h; unfold wmP; omega
  | cons c L ih =>
    intro p h
    unfold wmP
    split
    · rename_i q; have := ih (p + 1) (by omega); omega
    · omega
theorem wm_app (T : Nat → Int) (n : Nat) (M : List Int) : ∀ (L : List Int) (p : Nat), wmB T n (L ++ M) p = (wmB T n L p && wmB T n M (wmP T n L p)) ∧ wmP T n (L ++ M) p = if wmB T n L p = true then wmP T n M (wmP T n L p) else wmP T n L p := by
  intro L
  induction L with
  | nil => intro p; exact ⟨rfl, rfl⟩
  | cons c L ih =>
    intro p
    simp only [List.cons_append, wmB, wmP]
    split
    · exact ih (p + 1)
    · exact ⟨rfl, rfl⟩
def Tok (T : Nat → Int) : Prop := ∀ i, -2147483648 ≤ T i ∧ T i ≤ 2147483647
def XP (T : Nat → Int) (n : Nat) (X : Mem) (p : Nat) : Prop := X 1 1 = zI (n : Int) ∧ X 1 5 = zI (p : Int) ∧ ∀ i, i < n → X 2 i = zI (T i)
def RP (T : Nat → Int) (n : Nat) (R : Mem) (p : Nat) (w : Int) : Prop := R 0 4 = zI (n : Int) ∧ R 0 6 = zI (p : Int) ∧ R 0 7 = zI w ∧ ∀ i, i < n → R 5 i = zI (T i)
/-- only the text's own cells change -/
def XC (X X' : Mem) : Prop := (∀ k, k ≠ 1 → X' k = X k) ∧ ∀ i, i ≠ 5 → i ≠ 6 → X' 1 i = X 1 i
def RC (R R' : Mem) : Prop := (∀ k, k ≠ 0 → R' k = R k) ∧ ∀ i, i ≠ 6 → i ≠ 7 → R' 0 i = R 0 i
theorem XC.tr {X X' X'' : Mem} (h : XC X X') (h' : XC X' X'') : XC X X'' := ⟨fun k q => (h'.1 k q).trans (h.1 k q), fun i a b => (h'.2 i a b).trans (h.2 i a b)⟩
theorem RC.tr {X X' X'' : Mem} (h : RC X X') (h' : RC X' X'') : RC X X'' := ⟨fun k q => (h'.1 k q).trans (h.1 k q), fun i a b => (h'.2 i a b).trans (h.2 i a b)⟩
section PA
variable {T : Nat → Int} {n : Nat} {X R : Mem}
theorem XP.go {p : Nat} (h : XP T n X p) (q : Nat) : XP T n (wr X 1 5 (zI (q : Int))) q ∧ XC X (wr X 1 5 (zI (q : Int))) :=
  ⟨⟨by rw [wr_i _ _ _ (by omega)]; exact h.1, wr_at _ _ _ _, fun i hi => by rw [wr_k _ _ _ (by omega)]; exact h.2.2 i hi⟩, fun k hk => wr_k _ _ _ hk, fun i h1 _ => wr_i _ _ _ h1⟩
theorem XP.val {p : Nat} (h : XP T n X p) (v : Int32) : XP T n (wr X 1 6 v) p ∧ XC X (wr X 1 6 v) :=
  ⟨⟨by rw [wr_i _ _ _ (by omega)]; exact h.1, by rw [wr_i _ _ _ (by omega)]; exact h.2.1, fun i hi => by rw [wr_k _ _ _ (by omega)]; exact h.2.2 i hi⟩, fun k hk => wr_k _ _ _ hk, fun i _ h1 => wr_i _ _ _ h1⟩
theorem X_seen {p : Nat} (h : XP T n X p) (hn : n ≤ 20) (hp : p ≤ n) : fX0_signHere X = if p < n then zI (T p) else zI (-1) := by
  unfold fX0_signHere
  rw [h.1, h.2.1]
  by_cases c : p < n
  · rw [if_neg (show ¬ zI (n : Int) ≤ zI (p : Int) by rw [zle] <;> omega), if_pos c]
    have q := zinb (a := (p : Int)) (n := 20) (by omega) (by omega)
    unfold atX
    rw [if_pos (by rw [q]; omega), ztn (by omega) (by omega), Int.toNat_natCast]
    exact h.2.2 p c
  · rw [if_pos (show zI (n : Int) ≤ zI (p : Int) by rw [zle] <;> omega), if_neg c]; rfl
theorem X_digit {p : Nat} (h : XP T n X p) (hn : n ≤ 20) (hp : p ≤ n) (hT : Tok T) : fX0_digitHere X = i1 (dgp T n p) := by
  have ht := hT p
  unfold fX0_digitHere
  rw [X_seen h hn hp, zc48, zc57]
  by_cases c : p < n
  · rw [if_pos c]
    by_cases c1 : T p < 48
    · rw [if_pos (show zI (T p) < zI 48 by rw [zlt] <;> omega), i1_f (by omega)]
    · rw [if_neg (show ¬ zI (T p) < zI 48 by rw [zlt] <;> omega)]
      by_cases c2 : 57 < T p
      · rw [if_pos (show zI 57 < zI (T p) by rw [zlt] <;> omega), i1_f (by omega)]
      · rw [if_neg (show ¬ zI 57 < zI (T p) by rw [zlt] <;> omega), i1_t (by omega)]
  · rw [if_neg c, if_pos (show zI (-1) < zI 48 by decide), i1_f (by omega)]
theorem X_num_L (hn : n ≤ 20) (hT : Tok T) {lo hi : Int} (hh : 0 ≤ hi ∧ hi ≤ 10) : ∀ (d c p m : Nat) (X : Mem) (v : Int), XP T n X p → p ≤ n → X 1 6 = zI v → (c : Int) + d = hi → d < m → ∃ X', fX0_matchesDigits_L7 m X (zI lo) (zI hi) (zI (c : Int)) = fX0_matchesDigits_B54 X' (zI lo) (zI ((c + (nuP T n d p - p) : Nat) : Int)) ∧ XP T n X' (nuP T n d p) ∧ X' 1 6 = zI (nuV T n d p v) ∧ XC X X' := by
  intro d
  induction d with
  | zero =>
    intro c p m X v h hp hv hc hm
    obtain ⟨m, rfl⟩ := ex_succ hm
    refine ⟨X, ?_, h, hv, fun _ _ => rfl, fun _ _ _ => rfl⟩
    rw [fX0_matchesDigits_L7, if_pos (by rw [zle] <;> omega)]
    unfold nuP
    rw [show c + (p - p) = c by omega]
  | succ d ih =>
    intro c p m X v h hp hv hc hm
    obtain ⟨m, rfl⟩ := ex_succ hm
    rw [fX0_matchesDigits_L7, if_neg (by rw [zle] <;> omega), X_digit h hn hp hT]
    unfold nuP nuV
    by_cases q : dgp T n p
    · have b := nuP_b T n d (p + 1) (by have := q.1; omega)
      obtain ⟨s1, x1⟩ := h.val (zI (10 * v + (T p - 48)))
      obtain ⟨s2, x2⟩ := s1.go (p + 1)
      obtain ⟨X', a1, a2, a3, a4⟩ := ih (c + 1) (p + 1) m _ (10 * v + (T p - 48)) s2 (by have := q.1; omega) (by rw [wr_i _ _ _ (by omega), wr_at]) (by omega) (by omega)
      refine ⟨X', ?_, by rw [if_pos q]; exact a2, by rw [if_pos q]; exact a3, (x1.tr x2).tr a4⟩
      rw [i1_t q, it1, if_pos q, hv, X_seen h hn hp, if_pos q.1, zc10, zc48, zmul, zadd, zsub, show v * 10 + T p - 48 = 10 * v + (T p - 48) by omega, thn_eq, s1.2.1, thn_eq, zsuc, zsuc, a1]
      congr 3
      omega
    · refine ⟨X, ?_, by rw [if_neg q]; exact h, by rw [if_neg q]; exact hv, fun _ _ => rfl, fun _ _ _ => rfl⟩
      rw [i1_f q, it0, if_neg q, show c + (p - p) = c by omega]
theorem X_num (hn : n ≤ 20) (hT : Tok T) {lo hi : Nat} (hh : hi ≤ 10) (hlo : lo ≤ hi) {p : Nat} (h : XP T n X p) (hp : p ≤ n) : ∃ X', fX0_matchesDigits X (zI (lo : Int)) (zI (hi : Int)) = some (i1 (lo ≤ nuP T n hi p - p), X') ∧ XP T n X' (nuP T n hi p) ∧ X' 1 6 = zI (nuV T n hi p 0) ∧ XC X X' := by
  obtain ⟨s1, x1⟩ := h.val 0
  have b := nuP_b T n hi p hp
  obtain ⟨X', a1, a2, a3, a4⟩ := X_num_L hn hT (lo := (lo : Int)) (hi := (hi : Int)) (by omega) hi 0 p 5000 _ 0 s1 hp (wr_at _ _ _ _) (by omega) (by omega)
  refine ⟨X', ?_, a2, a3, x1.tr a4⟩
  unfold fX0_matchesDigits
  rw [thn_eq, show (0 : Int32) = zI ((0 : Nat) : Int) from rfl, show wr X 1 6 (zI ((0 : Nat) : Int)) = wr X 1 6 0 from rfl, a1]
  unfold fX0_matchesDigits_B54
  by_cases c : lo ≤ nuP T n hi p - p
  · rw [if_neg (by rw [zlt] <;> omega), i1_t c]
  · rw [if_pos (by rw [zlt] <;> omega), i1_f c]
theorem wd_b : ∀ j, j < 13 → ∀ k, k < lenS.getD j 0 → 0 < (wdl j).getD k 0 ∧ (wdl j).getD k 0 < 128 := by decide +kernel
theorem wd_len : ∀ j, j < 13 → (wdl j).length = lenS.getD j 0 ∧ lenS.getD j 0 ≤ 6 := by decide +kernel
theorem X_word_L (hn : n ≤ 20) (hT : Tok T) {j : Nat} (hj : j < 13) : ∀ (d k p m : Nat) (X : Mem), XP T n X p → p ≤ n → k + d = (wdl j).length → d < m → ∃ X', fX0_matchesWord_L2 j m X (zI (k : Int)) = some (i1 (wmB T n ((wdl j).drop k) p = true), X') ∧ XP T n X' (wmP T n ((wdl j).drop k) p) ∧ XC X X' := by
  have hl := wd_len j hj
  have hs : strLen j = zI ((wdl j).length : Int) := by
    unfold strLen
    rw [znat, hl.1]
  intro d
  induction d with
  | zero =>
    intro k p m X h hp hk hm
    obtain ⟨m, rfl⟩ := ex_succ hm
    refine ⟨X, ?_, ?_, fun _ _ => rfl, fun _ _ _ => rfl⟩
    · rw [fX0_matchesWord_L2, hs, if_pos (by rw [zle] <;> omega), List.drop_eq_nil_of_le (by omega)]
      rw [i1_t (show wmB T n [] p = true from rfl)]
    · rw [List.drop_eq_nil_of_le (by omega)]; exact h
  | succ d ih =>
    intro k p m X h hp hk hm
    obtain ⟨m, rfl⟩ := ex_succ hm
    have hkl : k < (wdl j).length := by omega
    have hb := wd_b j hj k (by omega)
    have ec : (wdl j).drop k = (wdl j).getD k 0 :: (wdl j).drop (k + 1) := by
      rw [List.drop_eq_getElem_cons hkl, List.getD_eq_getElem?_getD, List.getElem?_eq_getElem hkl]; rfl
    have ht := hT p
    rw [fX0_matchesWord_L2, hs, if_neg (by rw [zle] <;> omega), (strAt_z j hj k (by omega)).1, bnd_some, X_seen h hn hp, ec]
    generalize (wdl j).getD k 0 = c at *
    unfold wmB wmP
    by_cases q : p < n ∧ T p = c
    · obtain ⟨s2, x2⟩ := h.go (p + 1)
      obtain ⟨X', a1, a2, a3⟩ := ih (k + 1) (p + 1) m _ s2 (by omega) (by omega) (by omega)
      refine ⟨X', ?_, by rw [if_pos q]; exact a2, x2.tr a3⟩
      rw [if_pos q.1, if_pos (by rw [q.2]), h.2.1, thn_eq, zsuc, zsuc, if_pos q]
      exact a1
    · refine ⟨X, ?_, by rw [if_neg q]; exact h, fun _ _ => rfl, fun _ _ _ => rfl⟩
      rw [if_neg q, i1_f (by simp)]
      by_cases q1 : p < n
      · rw [if_pos q1, if_neg (by rw [zeq] <;> omega)]
      · rw [if_neg q1, if_neg (by rw [zeq] <;> omega)]
theorem X_word (hn : n ≤ 20) (hT : Tok T) {j : Nat} (hj : j < 13) {p : Nat} (h : XP T n X p) (hp : p ≤ n) : ∃ X', fX0_matchesWord j X = some (i1 (wmB T n (wdl j) p = true), X') ∧ XP T n X' (wmP T n (wdl j) p) ∧ XC X X' := by
  have hl := wd_len j hj
  exact X_word_L hn hT hj (wdl j).length 0 p 5000 X h hp (by omega) (by omega)
end PA
