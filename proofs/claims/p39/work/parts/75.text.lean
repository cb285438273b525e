/-! the text of a box: typed, and read -/
def Tx (X : Mem) (L : List Int) : Prop := X 1 1 = zI (L.length : Int) ∧ L.length ≤ 20 ∧ ∀ i, i < L.length → X 2 i = zI (L.getD i 0)
def Tf (X X' : Mem) : Prop := ∀ k, k ≠ 1 → k ≠ 2 → X' k = X k
theorem Tf.rf (X : Mem) : Tf X X := fun _ _ _ => rfl
theorem Tf.tr {X X' X'' : Mem} (h : Tf X X') (h' : Tf X' X'') : Tf X X'' := fun k a b => (h' k a b).trans (h k a b)
theorem St.tx {X X' : Mem} {σ : Nat → Int} (h : St X 3 σ) (t : Tf X X') : St X' 3 σ := by
  obtain ⟨hr, hs, h1, h0, hk1, hk0, hg⟩ := h
  exact ⟨hr.frame (fun k hk _ => t _ (by omega) (by omega)) (fun _ _ _ => rfl), hs.frame (fun k hk => t _ (by omega) (by omega)) (fun i _ => by rw [t _ (by omega) (by omega)]) (fun _ _ => rfl), by rw [t _ (by omega) (by omega)]; exact h1, by rw [t _ (by omega) (by omega)]; exact h0, fun q => (hk1 q).frame (t _ (by omega) (by omega)) (fun _ _ => rfl), fun q b hb => by rw [t _ (by omega) (by omega)]; exact hk0 q b hb, hg.frame (t _ (by omega) (by omega)) (t _ (by omega) (by omega)) (fun _ _ => rfl)⟩
theorem SR.tx {X X' R : Mem} {σ : Nat → Int} (h : SR X R σ) (t : Tf X X') : SR X' R σ := ⟨h.1.tx t, h.2⟩
theorem ty {X : Mem} {L : List Int} (h : Tx X L) (hl : L.length < 20) (c : Int) : ∃ q, fX7_type X (zI c) = some q ∧ Tx q.2 (L ++ [c]) ∧ Tf X q.2 := by
  obtain ⟨h1, h2, h3⟩ := h
  unfold fX7_type
  rw [h1, if_pos (by rw [zc20, zlt] <;> omega), put_in hl (by omega), thn_eq, thn_eq]
  refine ⟨_, rfl, ⟨?_, by simp; omega, fun i hi => ?_⟩, fun k k1 k2 => ?_⟩
  · show wr (wr X 2 L.length (zI c)) 1 1 (wr X 2 L.length (zI c) 1 1 + 1) 1 1 = _
    rw [wr_at, wr_k _ _ _ (by omega), h1, zc1, zadd]
    simp
  · show wr (wr X 2 L.length (zI c)) 1 1 (wr X 2 L.length (zI c) 1 1 + 1) 2 i = _
    rw [wr_k _ _ _ (by omega)]
    by_cases q : i = L.length
    · subst q
      rw [wr_at, getD_last]
    · have hi' : i < L.length := by simp at hi; omega
      rw [wr_i _ _ _ q, getD_app hi']
      exact h3 i hi'
  · show wr (wr X 2 L.length (zI c)) 1 1 (wr X 2 L.length (zI c) 1 1 + 1) k = X k
    rw [wr_k _ _ _ k1, wr_k _ _ _ k2]
theorem tclear (X : Mem) : ∃ q, fX7_clearText X = some q ∧ Tx q.2 [] ∧ Tf X q.2 := by
  unfold fX7_clearText
  rw [thn_eq]
  exact ⟨_, rfl, ⟨wr_at X 1 1 0, by simp, fun i hi => by simp at hi⟩, fun k k1 _ => wr_k X 1 0 k1⟩
theorem xc48 : ∀ d : Nat, d < 10 → x_c (zI (48 + (d : Int))) = zI (48 + (d : Int)) := by decide +kernel
theorem xcd {v : Int} (h : 0 ≤ v ∧ v < 10) : x_c (zI (48 + v)) = zI (48 + v) := by
  obtain ⟨d, rfl⟩ : ∃ d : Nat, v = d := ⟨v.toNat, by omega⟩
  exact xc48 d (by omega)
theorem td_1 {X : Mem} {L : List Int} (h : Tx X L) (hl : L.length + 1 < 20) {v : Int} (hv : 0 ≤ v ∧ v < 10000) (m : Nat) : ∃ X', fL_types_L244 (m + 2) X (zI v) (zI 1) = some X' ∧ Tx X' (L ++ [48 + v % 10]) ∧ Tf X X' := by
  obtain ⟨q, a1, a2, a3⟩ := ty h (by omega) (48 + v % 10)
  rw [fL_types_L244, if_neg (show ¬ zI 1 ≤ 0 by decide), if_pos (show ¬ zI 1 = 0 by decide), zdiv hv.1 (by omega) (by omega) (by omega), zc10, zirm (by omega) (by omega) (by omega) (by omega), zc48, zadd, xcd (by omega)]
  rw [show v / 1 % 10 = v % 10 by omega, a1, bnd_some, show zI 1 / zI 10 = zI 0 from rfl, fL_types_L244, if_pos (by decide)]
  exact ⟨_, rfl, a2, a3⟩
theorem td_10 {X : Mem} {L : List Int} (h : Tx X L) (hl : L.length + 2 < 20) {v : Int} (hv : 0 ≤ v ∧ v < 10000) (m : Nat) : ∃ X', fL_types_L244 (m + 3) X (zI v) (zI 10) = some X' ∧ Tx X' (L ++ [48 + v / 10 % 10, 48 + v % 10]) ∧ Tf X X' := by
  obtain ⟨q, a1, a2, a3⟩ := ty h (by omega) (48 + v / 10 % 10)
  rw [fL_types_L244, if_neg (show ¬ zI 10 ≤ 0 by decide), if_pos (show ¬ zI 10 = 0 by decide), zdiv hv.1 (by omega) (by omega) (by omega), zc10, zirm (by omega) (by omega) (by omega) (by omega), zc48, zadd, xcd (by omega)]
  obtain ⟨X', b1, b2, b3⟩ := td_1 a2 (by simp; omega) hv m
  rw [a1, bnd_some, show zI 10 / zI 10 = zI 1 from rfl, b1]
  refine ⟨X', rfl, ?_, a3.tr b3⟩
  rw [List.append_assoc] at b2
  exact b2
theorem td_100 {X : Mem} {L : List Int} (h : Tx X L) (hl : L.length + 3 < 20) {v : Int} (hv : 0 ≤ v ∧ v < 10000) (m : Nat) : ∃ X', fL_types_L244 (m + 4) X (zI v) (zI 100) = some X' ∧ Tx X' (L ++ [48 + v / 100 % 10, 48 + v / 10 % 10, 48 + v % 10]) ∧ Tf X X' := by
  obtain ⟨q, a1, a2, a3⟩ := ty h (by omega) (48 + v / 100 % 10)
  rw [fL_types_L244, if_neg (show ¬ zI 100 ≤ 0 by decide), if_pos (show ¬ zI 100 = 0 by decide), zdiv hv.1 (by omega) (by omega) (by omega), zc10, zirm (by omega) (by omega) (by omega) (by omega), zc48, zadd, xcd (by omega)]
  obtain ⟨X', b1, b2, b3⟩ := td_10 a2 (by simp; omega) hv m
  rw [a1, bnd_some, show zI 100 / zI 10 = zI 10 from rfl, b1]
  refine ⟨X', rfl, ?_, a3.tr b3⟩
  rw [List.append_assoc] at b2
  exact b2
theorem td_1000 {X : Mem} {L : List Int} (h : Tx X L) (hl : L.length + 4 < 20) {v : Int} (hv : 0 ≤ v ∧ v < 10000) (m : Nat) : ∃ X', fL_types_L244 (m + 5) X (zI v) (zI 1000) = some X' ∧ Tx X' (L ++ [48 + v / 1000 % 10, 48 + v / 100 % 10, 48 + v / 10 % 10, 48 + v % 10]) ∧ Tf X X' := by
  obtain ⟨q, a1, a2, a3⟩ := ty h (by omega) (48 + v / 1000 % 10)
  rw [fL_types_L244, if_neg (show ¬ zI 1000 ≤ 0 by decide), if_pos (show ¬ zI 1000 = 0 by decide), zdiv hv.1 (by omega) (by omega) (by omega), zc10, zirm (by omega) (by omega) (by omega) (by omega), zc48, zadd, xcd (by omega)]
  obtain ⟨X', b1, b2, b3⟩ := td_100 a2 (by simp; omega) hv m
  rw [a1, bnd_some, show zI 1000 / zI 10 = zI 100 from rfl, b1]
  refine ⟨X', rfl, ?_, a3.tr b3⟩
  rw [List.append_assoc] at b2
  exact b2
/-- what is typed behind the word of a lock -/
def odl (k v : Int) : List Int := if k = 0 then [] else if k = 2 then [48 + v / 1000 % 10, 48 + v / 100 % 10, 48 + v / 10 % 10, 48 + v % 10] else if v ≤ 9 then [48 + v % 10] else [48 + v / 10 % 10, 48 + v % 10]
def bxl (b : Int) : List Int := if b ≤ 9 then [48 + b % 10] else [48 + b / 10, 48 + b % 10]
def wrl (k : Int) : List Int := if k = 0 then [108, 97, 116, 99, 104] else if k = 1 then [107, 101, 121, 32] else if k = 2 then [99, 111, 100, 101, 32] else [112, 108, 97, 116, 101, 32]
def txl (b k v : Int) : List Int := bxl b ++ (32 :: (wrl k ++ odl k v))
theorem t24_0 {X : Mem} {L : List Int} (h : Tx X L) (hl : L.length ≤ 1) {b : Int} (hb : 0 ≤ b ∧ b ≤ 11) {v : Int} (hv : 0 ≤ v ∧ v < 100) : ∃ X', fL_types_B24 X (zI b) (0 : Int32) (zI v) = some X' ∧ Tx X' (L ++ ((48 + b % 10) :: 32 :: (wrl 0 ++ odl 0 v))) ∧ Tf X X' := by
  obtain ⟨q1, a1, b1, c1⟩ := ty h (by omega) (48 + b % 10)
  obtain ⟨q2, a2, b2, c2⟩ := ty b1 (by simp; omega) 32
  obtain ⟨q3, a3, b3, c3⟩ := ty b2 (by simp; omega) 108
  obtain ⟨q4, a4, b4, c4⟩ := ty b3 (by simp; omega) 97
  obtain ⟨q5, a5, b5, c5⟩ := ty b4 (by simp; omega) 116
  obtain ⟨q6, a6, b6, c6⟩ := ty b5 (by simp; omega) 99
  obtain ⟨q7, a7, b7, c7⟩ := ty b6 (by simp; omega) 104
  unfold fL_types_B24
  rw [zc10, zirm hb.1 (by omega) (by omega) (by omega), zc48, zadd, xcd (by omega), a1, bnd_some, show fX7_type q1.2 (32 : Int32) = some q2 from a2, bnd_some, if_pos (by decide), show fX7_type q2.2 (108 : Int32) = some q3 from a3, bnd_some]
  unfold fL_types_B80
  rw [if_pos (by decide), show fX7_type q3.2 (97 : Int32) = some q4 from a4, bnd_some]
  unfold fL_types_B116
  rw [if_pos (by decide), show fX7_type q4.2 (116 : Int32) = some q5 from a5, bnd_some]
  unfold fL_types_B152
  rw [if_neg (by decide), if_pos (by decide), show fX7_type q5.2 (99 : Int32) = some q6 from a6, bnd_some]
  unfold fL_types_B183
  rw [if_pos (by decide)]
  unfold fL_types_B192
  rw [if_pos (by decide), show fX7_type q6.2 (104 : Int32) = some q7 from a7, bnd_some]
  unfold fL_types_B208
  rw [if_pos (by decide)]
  refine ⟨_, rfl, ?_, ((((((c1).tr c2).tr c3).tr c4).tr c5).tr c6).tr c7⟩
  simp only [List.append_assoc, List.cons_append, List.nil_append] at b7
  simpa [wrl, odl] using b7
theorem t24_1 {X : Mem} {L : List Int} (h : Tx X L) (hl : L.length ≤ 1) {b : Int} (hb : 0 ≤ b ∧ b ≤ 11) {v : Int} (hv : 0 ≤ v ∧ v < 100) : ∃ X', fL_types_B24 X (zI b) (1 : Int32) (zI v) = some X' ∧ Tx X' (L ++ ((48 + b % 10) :: 32 :: (wrl 1 ++ odl 1 v))) ∧ Tf X X' := by
  obtain ⟨q1, a1, b1, c1⟩ := ty h (by omega) (48 + b % 10)
  obtain ⟨q2, a2, b2, c2⟩ := ty b1 (by simp; omega) 32
  obtain ⟨q3, a3, b3, c3⟩ := ty b2 (by simp; omega) 107
  obtain ⟨q4, a4, b4, c4⟩ := ty b3 (by simp; omega) 101
  obtain ⟨q5, a5, b5, c5⟩ := ty b4 (by simp; omega) 121
  obtain ⟨q6, a6, b6, c6⟩ := ty b5 (by simp; omega) 32
  unfold fL_types_B24
  rw [zc10, zirm hb.1 (by omega) (by omega) (by omega), zc48, zadd, xcd (by omega), a1, bnd_some, show fX7_type q1.2 (32 : Int32) = some q2 from a2, bnd_some, if_neg (by decide), if_pos (by decide), show fX7_type q2.2 (107 : Int32) = some q3 from a3, bnd_some]
  unfold fL_types_B80
  rw [if_neg (by decide), if_pos (by decide), show fX7_type q3.2 (101 : Int32) = some q4 from a4, bnd_some]
  unfold fL_types_B116
  rw [if_neg (by decide), if_pos (by decide), show fX7_type q4.2 (121 : Int32) = some q5 from a5, bnd_some]
  unfold fL_types_B152
  rw [if_pos (by decide)]
  unfold fL_types_B183
  rw [if_neg (by decide), if_neg (by decide)]
  unfold fL_types_B208
  rw [if_neg (by decide), show fX7_type q5.2 (32 : Int32) = some q6 from a6, bnd_some]
  rw [if_neg (by decide)]
  by_cases c9 : v ≤ 9
  · rw [if_pos (show zI v ≤ 9 by rw [zc9, zle] <;> omega)]
    obtain ⟨Y, y1, y2, y3⟩ := td_1 b6 (by simp; omega) (v := v) (by omega) 4998
    refine ⟨Y, y1, ?_, ((((((c1).tr c2).tr c3).tr c4).tr c5).tr c6).tr y3⟩
    simp only [List.append_assoc, List.cons_append, List.nil_append] at y2
    unfold wrl odl
    rw [if_neg (by decide), if_pos rfl, if_neg (by decide), if_neg (by decide), if_pos c9]
    simpa using y2
  · rw [if_neg (show ¬ zI v ≤ 9 by rw [zc9, zle] <;> omega)]
    obtain ⟨Y, y1, y2, y3⟩ := td_10 b6 (by simp; omega) (v := v) (by omega) 4997
    refine ⟨Y, y1, ?_, ((((((c1).tr c2).tr c3).tr c4).tr c5).tr c6).tr y3⟩
    simp only [List.append_assoc, List.cons_append, List.nil_append] at y2
    unfold wrl odl
    rw [if_neg (by decide), if_pos rfl, if_neg (by decide), if_neg (by decide), if_neg c9]
    simpa using y2
theorem t24_2 {X : Mem} {L : List Int} (h : Tx X L) (hl : L.length ≤ 1) {b : Int} (hb : 0 ≤ b ∧ b ≤ 11) {v : Int} (hv : 0 ≤ v ∧ v < 10000) : ∃ X', fL_types_B24 X (zI b) (2 : Int32) (zI v) = some X' ∧ Tx X' (L ++ ((48 + b % 10) :: 32 :: (wrl 2 ++ odl 2 v))) ∧ Tf X X' := by
  obtain ⟨q1, a1, b1, c1⟩ := ty h (by omega) (48 + b % 10)
  obtain ⟨q2, a2, b2, c2⟩ := ty b1 (by simp; omega) 32
  obtain ⟨q3, a3, b3, c3⟩ := ty b2 (by simp; omega) 99
  obtain ⟨q4, a4, b4, c4⟩ := ty b3 (by simp; omega) 111
  obtain ⟨q5, a5, b5, c5⟩ := ty b4 (by simp; omega) 100
  obtain ⟨q6, a6, b6, c6⟩ := ty b5 (by simp; omega) 101
  obtain ⟨q7, a7, b7, c7⟩ := ty b6 (by simp; omega) 32
  unfold fL_types_B24
  rw [zc10, zirm hb.1 (by omega) (by omega) (by omega), zc48, zadd, xcd (by omega), a1, bnd_some, show fX7_type q1.2 (32 : Int32) = some q2 from a2, bnd_some, if_neg (by decide), if_neg (by decide), if_pos (by decide), show fX7_type q2.2 (99 : Int32) = some q3 from a3, bnd_some]
  unfold fL_types_B80
  rw [if_neg (by decide), if_neg (by decide), if_pos (by decide), show fX7_type q3.2 (111 : Int32) = some q4 from a4, bnd_some]
  unfold fL_types_B116
  rw [if_neg (by decide), if_neg (by decide), if_pos (by decide), show fX7_type q4.2 (100 : Int32) = some q5 from a5, bnd_some]
  unfold fL_types_B152
  rw [if_neg (by decide), if_neg (by decide), if_pos (by decide), show fX7_type q5.2 (101 : Int32) = some q6 from a6, bnd_some]
  unfold fL_types_B183
  rw [if_neg (by decide), if_neg (by decide)]
  unfold fL_types_B208
  rw [if_neg (by decide), show fX7_type q6.2 (32 : Int32) = some q7 from a7, bnd_some]
  obtain ⟨Y, y1, y2, y3⟩ := td_1000 b7 (by simp; omega) hv 4995
  rw [if_pos (by decide)]
  refine ⟨Y, y1, ?_, (((((((c1).tr c2).tr c3).tr c4).tr c5).tr c6).tr c7).tr y3⟩
  simp only [List.append_assoc, List.cons_append, List.nil_append] at y2
  unfold wrl odl
  rw [if_neg (by decide), if_neg (by decide), if_pos rfl, if_neg (by decide), if_pos rfl]
  simpa using y2
theorem t24_3 {X : Mem} {L : List Int} (h : Tx X L) (hl : L.length ≤ 1) {b : Int} (hb : 0 ≤ b ∧ b ≤ 11) {v : Int} (hv : 0 ≤ v ∧ v < 100) : ∃ X', fL_types_B24 X (zI b) (3 : Int32) (zI v) = some X' ∧ Tx X' (L ++ ((48 + b % 10) :: 32 :: (wrl 3 ++ odl 3 v))) ∧ Tf X X' := by
  obtain ⟨q1, a1, b1, c1⟩ := ty h (by omega) (48 + b % 10)
  obtain ⟨q2, a2, b2, c2⟩ := ty b1 (by simp; omega) 32
  obtain ⟨q3, a3, b3, c3⟩ := ty b2 (by simp; omega) 112
  obtain ⟨q4, a4, b4, c4⟩ := ty b3 (by simp; omega) 108
  obtain ⟨q5, a5, b5, c5⟩ := ty b4 (by simp; omega) 97
  obtain ⟨q6, a6, b6, c6⟩ := ty b5 (by simp; omega) 116
  obtain ⟨q7, a7, b7, c7⟩ := ty b6 (by simp; omega) 101
  obtain ⟨q8, a8, b8, c8⟩ := ty b7 (by simp; omega) 32
  unfold fL_types_B24
  rw [zc10, zirm hb.1 (by omega) (by omega) (by omega), zc48, zadd, xcd (by omega), a1, bnd_some, show fX7_type q1.2 (32 : Int32) = some q2 from a2, bnd_some, if_neg (by decide), if_neg (by decide), if_neg (by decide), show fX7_type q2.2 (112 : Int32) = some q3 from a3, bnd_some]
  unfold fL_types_B80
  rw [if_neg (by decide), if_neg (by decide), if_neg (by decide), show fX7_type q3.2 (108 : Int32) = some q4 from a4, bnd_some]
  unfold fL_types_B116
  rw [if_neg (by decide), if_neg (by decide), if_neg (by decide), show fX7_type q4.2 (97 : Int32) = some q5 from a5, bnd_some]
  unfold fL_types_B152
  rw [if_neg (by decide), if_neg (by decide), if_neg (by decide), show fX7_type q5.2 (116 : Int32) = some q6 from a6, bnd_some]
  unfold fL_types_B183
  rw [if_neg (by decide), if_pos (by decide)]
  unfold fL_types_B192
  rw [if_neg (by decide), show fX7_type q6.2 (101 : Int32) = some q7 from a7, bnd_some]
  unfold fL_types_B208
  rw [if_neg (by decide), show fX7_type q7.2 (32 : Int32) = some q8 from a8, bnd_some]
  rw [if_neg (by decide)]
  by_cases c9 : v ≤ 9
  · rw [if_pos (show zI v ≤ 9 by rw [zc9, zle] <;> omega)]
    obtain ⟨Y, y1, y2, y3⟩ := td_1 b8 (by simp; omega) (v := v) (by omega) 4998
    refine ⟨Y, y1, ?_, ((((((((c1).tr c2).tr c3).tr c4).tr c5).tr c6).tr c7).tr c8).tr y3⟩
    simp only [List.append_assoc, List.cons_append, List.nil_append] at y2
    unfold wrl odl
    rw [if_neg (by decide), if_neg (by decide), if_neg (by decide), if_neg (by decide), if_neg (by decide), if_pos c9]
    simpa using y2
  · rw [if_neg (show ¬ zI v ≤ 9 by rw [zc9, zle] <;> omega)]
    obtain ⟨Y, y1, y2, y3⟩ := td_10 b8 (by simp; omega) (v := v) (by omega) 4997
    refine ⟨Y, y1, ?_, ((((((((c1).tr c2).tr c3).tr c4).tr c5).tr c6).tr c7).tr c8).tr y3⟩
    simp only [List.append_assoc, List.cons_append, List.nil_append] at y2
    unfold wrl odl
    rw [if_neg (by decide), if_neg (by decide), if_neg (by decide), if_neg (by decide), if_neg (by decide), if_neg c9]
    simpa using y2
theorem types_n (X : Mem) {b k : Int} (hb : 0 ≤ b ∧ b ≤ 11) (hk : 0 ≤ k ∧ k ≤ 3) {v : Int} (hv : 0 ≤ v ∧ (k = 2 → v < 10000) ∧ (k ≠ 2 → v < 100)) : ∃ X', fL_types X (zI b) (zI k) (zI v) = some X' ∧ Tx X' (txl b k v) ∧ Tf X X' := by
  have go : ∀ (X : Mem) (L : List Int), Tx X L → L.length ≤ 1 → ∃ X', fL_types_B24 X (zI b) (zI k) (zI v) = some X' ∧ Tx X' (L ++ ((48 + b % 10) :: 32 :: (wrl k ++ odl k v))) ∧ Tf X X' := by
    intro X L h hl
    have : k = 0 ∨ k = 1 ∨ k = 2 ∨ k = 3 := by omega
    rcases this with rfl | rfl | rfl | rfl
    · exact t24_0 h hl hb (by omega)
    · exact t24_1 h hl hb (by omega)
    · exact t24_2 h hl hb (by omega)
    · exact t24_3 h hl hb (by omega)
  obtain ⟨q0, a0, b0, c0⟩ := tclear X
  unfold fL_types
  rw [a0, bnd_some]
  unfold txl bxl
  by_cases c : b ≤ 9
  · rw [if_pos (show zI b ≤ 9 by rw [zc9, zle] <;> omega), if_pos c]
    obtain ⟨X', d1, d2, d3⟩ := go _ _ b0 (by simp)
    exact ⟨X', d1, d2, c0.tr d3⟩
  · rw [if_neg (show ¬ zI b ≤ 9 by rw [zc9, zle] <;> omega), if_neg c]
    obtain ⟨q1, a1, b1, c1⟩ := ty b0 (by simp) (48 + b / 10)
    obtain ⟨X', d1, d2, d3⟩ := go _ _ b1 (by simp)
    rw [zc10, zdiv hb.1 (by omega) (by omega) (by omega), zc48, zadd, xcd (by omega), a1, bnd_some]
    exact ⟨X', d1, d2, (c0.tr c1).tr d3⟩
