def LF (l : Nat) (X X' : Mem) : Prop := ∀ k, k ≠ l → k ≠ l + 1 → X' k = X k
theorem LF.rf (l : Nat) (X : Mem) : LF l X X := fun _ _ _ => rfl
theorem LF.trans {l : Nat} {X X' X'' : Mem} (h : LF l X X') (h' : LF l X' X'') : LF l X X'' := fun k a b => (h' k a b).trans (h k a b)
theorem getD_app {L A : List Int} {i : Nat} (h : i < L.length) : (L ++ A).getD i 0 = L.getD i 0 := by
  simp [List.getD_eq_getElem?_getD, List.getElem?_append_left h]
theorem getD_last {L : List Int} {c : Int} : (L ++ [c]).getD L.length 0 = c := by
  simp [List.getD_eq_getElem?_getD]
section LG
variable {l : Nat} {X R : Mem} {L : List Int}
theorem X_sign (h : LogIs X l L) (hl : L.length < 2048) (c : Int) : ∃ X', fX2_appendSign l X (zI c) = some X' ∧ LogIs X' l (L ++ [c]) ∧ LF l X X' := by
  obtain ⟨h1, h2, h3⟩ := h
  unfold fX2_appendSign
  rw [h1, if_neg (by rw [show (2048 : Int32) = zI 2048 from rfl, zle] <;> omega), thn_eq, thn_eq, put_in hl (by omega)]
  refine ⟨_, rfl, ⟨?_, ?_, ?_⟩, ?_⟩
  · rw [wr_at, wr_k X _ _ (by omega), h1, zc1, zadd, List.length_append]; rfl
  · rw [List.length_append]; simp; omega
  · intro i hi
    rw [List.length_append] at hi
    simp only [List.length_cons, List.length_nil] at hi
    rw [wr_k _ _ _ (by omega)]
    by_cases q : i = L.length
    · subst q; rw [wr_at, getD_last]
    · rw [wr_i _ _ _ q, getD_app (by omega), h3 i (by omega)]
  · intro k a b
    rw [wr_k _ _ _ a, wr_k _ _ _ b]
theorem X_num_end (n : Nat) (v : Int32) : fX2_appendNumber_L3 l (n + 1) X v (zI 0) = some X := by
  rw [fX2_appendNumber_L3, if_pos (by decide)]
theorem X_num_skip (n : Nat) {v u : Int} (hv : 0 ≤ v ∧ v < 100000) (hu : 1 < u ∧ u ≤ 100000) (h : v < u) : fX2_appendNumber_L3 l (n + 1) X (zI v) (zI u) = fX2_appendNumber_L3 l n X (zI v) (zI (u / 10)) := by
  rw [fX2_appendNumber_L3, if_neg (by rw [zc0, zle] <;> omega), if_neg (by rw [zle] <;> omega), if_neg (by rw [zc1, zeq] <;> omega), zc10, zdiv (by omega) (by omega) (by omega) (by omega)]
theorem X_num_put (h : LogIs X l L) (hl : L.length < 2048) (n : Nat) {v u : Int} (hv : 0 ≤ v ∧ v < 100000) (hu : 1 ≤ u ∧ u ≤ 100000) (hvu : u ≤ v ∨ u = 1) : ∃ X', LogIs X' l (L ++ [48 + v / u % 10]) ∧ LF l X X' ∧ fX2_appendNumber_L3 l (n + 1) X (zI v) (zI u) = fX2_appendNumber_L3 l n X' (zI v) (zI (u / 10)) := by
  have e : (48 : Int32) + irm (zI v / zI u) 10 = zI (48 + v / u % 10) := by
    have h1 : 0 ≤ v / u := Int.ediv_nonneg hv.1 (by omega)
    have h2 : v / u ≤ v := Int.ediv_le_self u hv.1
    rw [zdiv (by omega) (by omega) (by omega) (by omega), zc10, zirm (by omega) (by omega) (by omega) (by omega), zc48, zadd]
  obtain ⟨X', p1, p2, p3⟩ := X_sign h hl (48 + v / u % 10)
  refine ⟨X', p2, p3, ?_⟩
  have hne : ¬ zI u = 0 := by rw [zc0, zeq] <;> omega
  rw [fX2_appendNumber_L3, if_neg (by rw [zc0, zle] <;> omega)]
  by_cases c : u ≤ v
  · rw [if_pos (by rw [zle] <;> omega), if_pos hne, e, p1, bnd_some, zc10, zdiv (by omega) (by omega) (by omega) (by omega)]
  · have hu1 : u = 1 := by omega
    rw [if_neg (by rw [zle] <;> omega), if_pos (by rw [hu1]; rfl), if_pos hne, e, p1, bnd_some, zc10, zdiv (by omega) (by omega) (by omega) (by omega)]
theorem X_number (h : LogIs X l L) {v : Int} (hv : 0 ≤ v ∧ v < 100000) (hl : L.length + 5 < 2048) : ∃ X', fX2_appendNumber l X (zI v) = some X' ∧ LogIs X' l (L ++ dl v) ∧ LF l X X' := by
  show ∃ X', fX2_appendNumber_L3 l 5000 X (zI v) (zI 100000) = some X' ∧ _
  rw [X_num_skip 4999 hv (by omega) (by omega)]
  show ∃ X', fX2_appendNumber_L3 l 4999 X (zI v) (zI 10000) = some X' ∧ _
  unfold dl
  by_cases c4 : v < 10000
  · rw [X_num_skip 4998 hv (by omega) c4]
    show ∃ X', fX2_appendNumber_L3 l 4998 X (zI v) (zI 1000) = some X' ∧ _
    by_cases c3 : v < 1000
    · rw [X_num_skip 4997 hv (by omega) c3]
      show ∃ X', fX2_appendNumber_L3 l 4997 X (zI v) (zI 100) = some X' ∧ _
      by_cases c2 : v < 100
      · rw [X_num_skip 4996 hv (by omega) c2]
        show ∃ X', fX2_appendNumber_L3 l 4996 X (zI v) (zI 10) = some X' ∧ _
        by_cases c1 : v < 10
        · rw [X_num_skip 4995 hv (by omega) c1]
          show ∃ X', fX2_appendNumber_L3 l 4995 X (zI v) (zI 1) = some X' ∧ _
          obtain ⟨X1, a1, b1, e1⟩ := X_num_put h (by omega) 4994 hv (u := 1) (by omega) (by omega)
          rw [e1, if_pos c1]
          refine ⟨X1, X_num_end _ _, ?_, b1⟩
          rw [show 48 + v = 48 + v / 1 % 10 by omega]
          exact a1
        · obtain ⟨X1, a1, b1, e1⟩ := X_num_put h (by omega) 4995 hv (u := 10) (by omega) (by omega)
          obtain ⟨X2, a2, b2, e2⟩ := X_num_put a1 (by simp; omega) 4994 hv (u := 1) (by omega) (by omega)
          rw [e1]
          refine ⟨X2, e2.trans (X_num_end _ _), ?_, b1.trans b2⟩
          rw [if_neg c1, if_pos c2, show L ++ [48 + v / 10, 48 + v % 10] = L ++ [48 + v / 10 % 10] ++ [48 + v / 1 % 10] by simp; omega]
          exact a2
      · obtain ⟨X1, a1, b1, e1⟩ := X_num_put h (by omega) 4996 hv (u := 100) (by omega) (by omega)
        obtain ⟨X2, a2, b2, e2⟩ := X_num_put a1 (by simp; omega) 4995 hv (u := 10) (by omega) (by omega)
        obtain ⟨X3, a3, b3, e3⟩ := X_num_put a2 (by simp; omega) 4994 hv (u := 1) (by omega) (by omega)
        rw [e1]
        refine ⟨X3, (e2.trans e3).trans (X_num_end _ _), ?_, (b1.trans b2).trans b3⟩
        rw [if_neg (by omega), if_neg c2, if_pos c3, show L ++ [48 + v / 100, 48 + v / 10 % 10, 48 + v % 10] = L ++ [48 + v / 100 % 10] ++ [48 + v / 10 % 10] ++ [48 + v / 1 % 10] by simp; omega]
        exact a3
    · obtain ⟨X1, a1, b1, e1⟩ := X_num_put h (by omega) 4997 hv (u := 1000) (by omega) (by omega)
      obtain ⟨X2, a2, b2, e2⟩ := X_num_put a1 (by simp; omega) 4996 hv (u := 100) (by omega) (by omega)
      obtain ⟨X3, a3, b3, e3⟩ := X_num_put a2 (by simp; omega) 4995 hv (u := 10) (by omega) (by omega)
      obtain ⟨X4, a4, b4, e4⟩ := X_num_put a3 (by simp; omega) 4994 hv (u := 1) (by omega) (by omega)
      rw [e1]
      refine ⟨X4, ((e2.trans e3).trans e4).trans (X_num_end _ _), ?_, ((b1.trans b2).trans b3).trans b4⟩
      rw [if_neg (by omega), if_neg (by omega), if_neg c3, if_pos c4, show L ++ [48 + v / 1000, 48 + v / 100 % 10, 48 + v / 10 % 10, 48 + v % 10] = L ++ [48 + v / 1000 % 10] ++ [48 + v / 100 % 10] ++ [48 + v / 10 % 10] ++ [48 + v / 1 % 10] by simp; omega]
      exact a4
  · obtain ⟨X1, a1, b1, e1⟩ := X_num_put h (by omega) 4998 hv (u := 10000) (by omega) (by omega)
    obtain ⟨X2, a2, b2, e2⟩ := X_num_put a1 (by simp; omega) 4997 hv (u := 1000) (by omega) (by omega)
    obtain ⟨X3, a3, b3, e3⟩ := X_num_put a2 (by simp; omega) 4996 hv (u := 100) (by omega) (by omega)
    obtain ⟨X4, a4, b4, e4⟩ := X_num_put a3 (by simp; omega) 4995 hv (u := 10) (by omega) (by omega)
    obtain ⟨X5, a5, b5, e5⟩ := X_num_put a4 (by simp; omega) 4994 hv (u := 1) (by omega) (by omega)
    rw [e1]
    refine ⟨X5, (((e2.trans e3).trans e4).trans e5).trans (X_num_end _ _), ?_, (((b1.trans b2).trans b3).trans b4).trans b5⟩
    rw [if_neg (by omega), if_neg (by omega), if_neg (by omega), if_neg c4, show L ++ [48 + v / 10000, 48 + v / 1000 % 10, 48 + v / 100 % 10, 48 + v / 10 % 10, 48 + v % 10] = L ++ [48 + v / 10000 % 10] ++ [48 + v / 1000 % 10] ++ [48 + v / 100 % 10] ++ [48 + v / 10 % 10] ++ [48 + v / 1 % 10] by simp; omega]
    exact a5
theorem dl_len {v : Int} (hv : 0 ≤ v) : 1 ≤ (dl v).length ∧ (dl v).length ≤ 5 ∧ (v < 1000 → (dl v).length ≤ 3) ∧ (v < 100 → (dl v).length ≤ 2) := by
  unfold dl
  split
  · simp
  · split
    · simp
    · split
      · simp; omega
      · split
        · simp; omega
        · simp; omega
theorem X_argument (h : LogIs X l L) {v : Int} (hv : 0 ≤ v ∧ v < 100000) (hl : L.length + 7 < 2048) : ∃ X', fX2_appendArgument l X (zI v) = some X' ∧ LogIs X' l (L ++ (32 :: dl v)) ∧ LF l X X' := by
  unfold fX2_appendArgument
  rw [if_neg (by rw [zm1, zeq] <;> omega), show (32 : Int32) = zI 32 from rfl]
  obtain ⟨X1, p1, p2, p3⟩ := X_sign h (by omega) 32
  obtain ⟨X2, q1, q2, q3⟩ := X_number p2 hv (by simp; omega)
  rw [p1, bnd_some, q1, bnd_some]
  refine ⟨X2, rfl, ?_, p3.trans q3⟩
  rw [List.append_assoc] at q2
  exact q2
theorem X_noargument : fX2_appendArgument l X (zI (-1)) = some X := by
  unfold fX2_appendArgument
  rw [if_pos (by decide)]
/-- the letters of a word -/
def wdl (j : Nat) : List Int := (bytS.getD j []).map Int32.toInt
theorem strAt_z : ∀ j, j < 13 → ∀ k, k < lenS.getD j 0 → strAt j (zI (k : Int)) = some (zI ((wdl j).getD k 0)) ∧ (wdl j).length = lenS.getD j 0 := by decide +kernel
theorem X_letters {j : Nat} (hj : j < 13) (x3 x4 : Int32) : ∀ (d k n : Nat) (X : Mem) (L : List Int), LogIs X l L → k + d = lenS.getD j 0 → d < n → L.length + d < 2040 → ∃ X', LogIs X' l (L ++ (wdl j).drop k) ∧ LF l X X' ∧ fX2_append_L14 l j n X x3 x4 (zI (k : Int)) = bnd (fX2_appendArgument l X' x3) fun M5 => bnd (fX2_appendArgument l M5 x4) fun M6 => bnd (fX2_appendSign l M6 (47 : Int32)) fun M7 => some M7 := by
  have hlen : ∀ j, j < 13 → lenS.getD j 0 ≤ 6 ∧ 0 < lenS.getD j 0 := by decide
  have h6 := hlen j hj
  have hwl : (wdl j).length = lenS.getD j 0 := (strAt_z j hj 0 h6.2).2
  intro d
  induction d with
  | zero =>
    intro k n X L h hk hn hl
    obtain ⟨n, rfl⟩ := ex_succ hn
    refine ⟨X, ?_, LF.rf l X, ?_⟩
    · rw [List.drop_of_length_le (by omega), List.append_nil]; exact h
    · rw [fX2_append_L14, if_pos]
      unfold strLen
      rw [znat, zle] <;> omega
  | succ d ih =>
    intro k n X L h hk hn hl
    obtain ⟨n, rfl⟩ := ex_succ hn
    obtain ⟨X1, p1, p2, p3⟩ := X_sign h (by omega) ((wdl j).getD k 0)
    obtain ⟨X2, q1, q2, q3⟩ := ih (k + 1) n X1 _ p2 (by omega) (by omega) (by simp; omega)
    refine ⟨X2, ?_, p3.trans q2, ?_⟩
    · have : (wdl j).drop k = (wdl j).getD k 0 :: (wdl j).drop (k + 1) := by
        rw [List.drop_eq_getElem_cons (by omega)]
        simp [List.getD_eq_getElem?_getD, List.getElem?_eq_getElem (show k < (wdl j).length by omega)]
      rw [this]
      simpa using q1
    · rw [fX2_append_L14, if_neg, (strAt_z j hj k (by omega)).1, bnd_some, p1, bnd_some, zsuc]
      · exact q3
      · unfold strLen
        rw [znat, zle] <;> omega
end LG
