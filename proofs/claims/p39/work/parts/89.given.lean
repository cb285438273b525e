/-! what the statement gives of the start -/
abbrev GV : List Cond := flatC (Jvm.Cond.and given_1 narrow_1)
theorem nest_s {args : Array Value} {s : State} (hts : ∀ w ∈ lw_tbl, w.before args s = true) : ExN s := by
  intro w hw
  simp only [nestW, List.mem_cons, List.not_mem_nil, or_false] at hw
  rcases hw with rfl | rfl | rfl | rfl | rfl | rfl | rfl | rfl | rfl | rfl | rfl | rfl | rfl | rfl | rfl | rfl | rfl | rfl | rfl | rfl | rfl | rfl | rfl
  · exact va_Nw.of rfl (hts _ (List.mem_of_getElem? (i := 41) (by decide +kernel)))
  · exact va_Nw.of rfl (hts _ (List.mem_of_getElem? (i := 75) (by decide +kernel)))
  · exact va_Nw.of rfl (hts _ (List.mem_of_getElem? (i := 85) (by decide +kernel)))
  · exact va_Nw.of rfl (hts _ (List.mem_of_getElem? (i := 158) (by decide +kernel)))
  · exact va_Nw.of rfl (hts _ (List.mem_of_getElem? (i := 179) (by decide +kernel)))
  · exact va_Nw.of rfl (hts _ (List.mem_of_getElem? (i := 224) (by decide +kernel)))
  · exact va_Nw.of rfl (hts _ (List.mem_of_getElem? (i := 239) (by decide +kernel)))
  · exact va_Nw.of rfl (hts _ (List.mem_of_getElem? (i := 319) (by decide +kernel)))
  · exact va_Nw.of rfl (hts _ (List.mem_of_getElem? (i := 383) (by decide +kernel)))
  · exact va_Nw.of rfl (hts _ (List.mem_of_getElem? (i := 395) (by decide +kernel)))
  · exact va_Nw.of rfl (hts _ (List.mem_of_getElem? (i := 400) (by decide +kernel)))
  · exact va_Nw.of rfl (hts _ (List.mem_of_getElem? (i := 431) (by decide +kernel)))
  · exact va_Nw.of rfl (hts _ (List.mem_of_getElem? (i := 436) (by decide +kernel)))
  · exact va_Nw.of rfl (hts _ (List.mem_of_getElem? (i := 574) (by decide +kernel)))
  · exact va_Nw.of rfl (hts _ (List.mem_of_getElem? (i := 622) (by decide +kernel)))
  · exact va_Nw.of rfl (hts _ (List.mem_of_getElem? (i := 744) (by decide +kernel)))
  · exact va_Nw.of rfl (hts _ (List.mem_of_getElem? (i := 763) (by decide +kernel)))
  · exact va_Nw.of rfl (hts _ (List.mem_of_getElem? (i := 768) (by decide +kernel)))
  · exact va_Nw.of rfl (hts _ (List.mem_of_getElem? (i := 851) (by decide +kernel)))
  · exact va_Nw.of rfl (hts _ (List.mem_of_getElem? (i := 874) (by decide +kernel)))
  · exact va_Nw.of rfl (hts _ (List.mem_of_getElem? (i := 936) (by decide +kernel)))
  · exact va_Nw.of rfl (hts _ (List.mem_of_getElem? (i := 945) (by decide +kernel)))
  · exact va_Nw.of rfl (hts _ (List.mem_of_getElem? (i := 950) (by decide +kernel)))
set_option maxRecDepth 20000 in
set_option maxHeartbeats 4000000 in
theorem text_s {s : State} {args : Array Value} {A : Nat → Prop} (hts : ∀ w ∈ lw_tbl, w.before args s = true) (hg : ∀ c ∈ GV, c.before args s = true) (hA : ∀ a : Nat, a < s.heap.size → ¬ A a) : ∃ sK sV : Nat → Nat, vk_S 13 lenS bytS sK sV A s s.heap ∧ ∀ j, j < 13 → vk_R (ownS.getD j "") (idxS.getD j 0) (txtS.getD j "") (sK j) s := by
  have f1 : ∀ i : Nat, i < 13 → (Cond.exactly (.string (ownS.getD i "") (idxS.getD i 0)) "java/lang/String").before args s = true := by
    intro i hi
    match i, hi with
    | 0, _ => exact hg _ (List.mem_of_getElem? (i := 9) (by decide +kernel))
    | 1, _ => exact hg _ (List.mem_of_getElem? (i := 14) (by decide +kernel))
    | 2, _ => exact hg _ (List.mem_of_getElem? (i := 24) (by decide +kernel))
    | 3, _ => exact hg _ (List.mem_of_getElem? (i := 34) (by decide +kernel))
    | 4, _ => exact hg _ (List.mem_of_getElem? (i := 46) (by decide +kernel))
    | 5, _ => exact hg _ (List.mem_of_getElem? (i := 60) (by decide +kernel))
    | 6, _ => exact hg _ (List.mem_of_getElem? (i := 73) (by decide +kernel))
    | 7, _ => exact hg _ (List.mem_of_getElem? (i := 87) (by decide +kernel))
    | 8, _ => exact hg _ (List.mem_of_getElem? (i := 101) (by decide +kernel))
    | 9, _ => exact hg _ (List.mem_of_getElem? (i := 117) (by decide +kernel))
    | 10, _ => exact hg _ (List.mem_of_getElem? (i := 153) (by decide +kernel))
    | 11, _ => exact hg _ (List.mem_of_getElem? (i := 134) (by decide +kernel))
    | 12, _ => exact hg _ (List.mem_of_getElem? (i := 172) (by decide +kernel))
  have f2 : ∀ i : Nat, i < 13 → (Cond.eq (.field (.string (ownS.getD i "") (idxS.getD i 0)) "java/lang/String" "coder" "B") (.int 0)).before args s = true := by
    intro i hi
    match i, hi with
    | 0, _ => exact hg _ (List.mem_of_getElem? (i := 10) (by decide +kernel))
    | 1, _ => exact hg _ (List.mem_of_getElem? (i := 15) (by decide +kernel))
    | 2, _ => exact hg _ (List.mem_of_getElem? (i := 25) (by decide +kernel))
    | 3, _ => exact hg _ (List.mem_of_getElem? (i := 35) (by decide +kernel))
    | 4, _ => exact hg _ (List.mem_of_getElem? (i := 47) (by decide +kernel))
    | 5, _ => exact hg _ (List.mem_of_getElem? (i := 61) (by decide +kernel))
    | 6, _ => exact hg _ (List.mem_of_getElem? (i := 74) (by decide +kernel))
    | 7, _ => exact hg _ (List.mem_of_getElem? (i := 88) (by decide +kernel))
    | 8, _ => exact hg _ (List.mem_of_getElem? (i := 102) (by decide +kernel))
    | 9, _ => exact hg _ (List.mem_of_getElem? (i := 118) (by decide +kernel))
    | 10, _ => exact hg _ (List.mem_of_getElem? (i := 154) (by decide +kernel))
    | 11, _ => exact hg _ (List.mem_of_getElem? (i := 135) (by decide +kernel))
    | 12, _ => exact hg _ (List.mem_of_getElem? (i := 173) (by decide +kernel))
  have f3 : ∀ i : Nat, i < 13 → (Cond.arrayOf (.field (.string (ownS.getD i "") (idxS.getD i 0)) "java/lang/String" "value" "[B") .byte).before args s = true := by
    intro i hi
    match i, hi with
    | 0, _ => exact hg _ (List.mem_of_getElem? (i := 11) (by decide +kernel))
    | 1, _ => exact hg _ (List.mem_of_getElem? (i := 16) (by decide +kernel))
    | 2, _ => exact hg _ (List.mem_of_getElem? (i := 26) (by decide +kernel))
    | 3, _ => exact hg _ (List.mem_of_getElem? (i := 36) (by decide +kernel))
    | 4, _ => exact hg _ (List.mem_of_getElem? (i := 48) (by decide +kernel))
    | 5, _ => exact hg _ (List.mem_of_getElem? (i := 62) (by decide +kernel))
    | 6, _ => exact hg _ (List.mem_of_getElem? (i := 75) (by decide +kernel))
    | 7, _ => exact hg _ (List.mem_of_getElem? (i := 89) (by decide +kernel))
    | 8, _ => exact hg _ (List.mem_of_getElem? (i := 103) (by decide +kernel))
    | 9, _ => exact hg _ (List.mem_of_getElem? (i := 119) (by decide +kernel))
    | 10, _ => exact hg _ (List.mem_of_getElem? (i := 155) (by decide +kernel))
    | 11, _ => exact hg _ (List.mem_of_getElem? (i := 136) (by decide +kernel))
    | 12, _ => exact hg _ (List.mem_of_getElem? (i := 174) (by decide +kernel))
  have f4 : ∀ i : Nat, i < 13 → (Cond.eq (.length (.field (.string (ownS.getD i "") (idxS.getD i 0)) "java/lang/String" "value" "[B")) (.int (Int32.ofNat (lenS.getD i 0)))).before args s = true := by
    intro i hi
    match i, hi with
    | 0, _ => exact hg _ (List.mem_of_getElem? (i := 12) (by decide +kernel))
    | 1, _ => exact hg _ (List.mem_of_getElem? (i := 17) (by decide +kernel))
    | 2, _ => exact hg _ (List.mem_of_getElem? (i := 27) (by decide +kernel))
    | 3, _ => exact hg _ (List.mem_of_getElem? (i := 37) (by decide +kernel))
    | 4, _ => exact hg _ (List.mem_of_getElem? (i := 49) (by decide +kernel))
    | 5, _ => exact hg _ (List.mem_of_getElem? (i := 63) (by decide +kernel))
    | 6, _ => exact hg _ (List.mem_of_getElem? (i := 76) (by decide +kernel))
    | 7, _ => exact hg _ (List.mem_of_getElem? (i := 90) (by decide +kernel))
    | 8, _ => exact hg _ (List.mem_of_getElem? (i := 104) (by decide +kernel))
    | 9, _ => exact hg _ (List.mem_of_getElem? (i := 120) (by decide +kernel))
    | 10, _ => exact hg _ (List.mem_of_getElem? (i := 156) (by decide +kernel))
    | 11, _ => exact hg _ (List.mem_of_getElem? (i := 137) (by decide +kernel))
    | 12, _ => exact hg _ (List.mem_of_getElem? (i := 175) (by decide +kernel))
  have f5 : ∀ i : Nat, i < 13 → ∀ j : Nat, j < lenS.getD i 0 → (Cond.eq (.elem (.field (.string (ownS.getD i "") (idxS.getD i 0)) "java/lang/String" "value" "[B") (.int (Int32.ofNat j))) (.int ((bytS.getD i []).getD j 0))).before args s = true := by
    intro i hi j hj
    match i, hi with
    | 0, _ =>
      have hj : j < 1 := hj
      match j, hj with
      | 0, _ => exact hg _ (List.mem_of_getElem? (i := 13) (by decide +kernel))
    | 1, _ =>
      have hj : j < 5 := hj
      match j, hj with
      | 0, _ => exact hg _ (List.mem_of_getElem? (i := 18) (by decide +kernel))
      | 1, _ => exact hg _ (List.mem_of_getElem? (i := 19) (by decide +kernel))
      | 2, _ => exact hg _ (List.mem_of_getElem? (i := 20) (by decide +kernel))
      | 3, _ => exact hg _ (List.mem_of_getElem? (i := 21) (by decide +kernel))
      | 4, _ => exact hg _ (List.mem_of_getElem? (i := 22) (by decide +kernel))
    | 2, _ =>
      have hj : j < 4 := hj
      match j, hj with
      | 0, _ => exact hg _ (List.mem_of_getElem? (i := 28) (by decide +kernel))
      | 1, _ => exact hg _ (List.mem_of_getElem? (i := 29) (by decide +kernel))
      | 2, _ => exact hg _ (List.mem_of_getElem? (i := 30) (by decide +kernel))
      | 3, _ => exact hg _ (List.mem_of_getElem? (i := 31) (by decide +kernel))
    | 3, _ =>
      have hj : j < 5 := hj
      match j, hj with
      | 0, _ => exact hg _ (List.mem_of_getElem? (i := 38) (by decide +kernel))
      | 1, _ => exact hg _ (List.mem_of_getElem? (i := 39) (by decide +kernel))
      | 2, _ => exact hg _ (List.mem_of_getElem? (i := 40) (by decide +kernel))
      | 3, _ => exact hg _ (List.mem_of_getElem? (i := 41) (by decide +kernel))
      | 4, _ => exact hg _ (List.mem_of_getElem? (i := 42) (by decide +kernel))
    | 4, _ =>
      have hj : j < 6 := hj
      match j, hj with
      | 0, _ => exact hg _ (List.mem_of_getElem? (i := 50) (by decide +kernel))
      | 1, _ => exact hg _ (List.mem_of_getElem? (i := 51) (by decide +kernel))
      | 2, _ => exact hg _ (List.mem_of_getElem? (i := 52) (by decide +kernel))
      | 3, _ => exact hg _ (List.mem_of_getElem? (i := 53) (by decide +kernel))
      | 4, _ => exact hg _ (List.mem_of_getElem? (i := 54) (by decide +kernel))
      | 5, _ => exact hg _ (List.mem_of_getElem? (i := 55) (by decide +kernel))
    | 5, _ =>
      have hj : j < 4 := hj
      match j, hj with
      | 0, _ => exact hg _ (List.mem_of_getElem? (i := 64) (by decide +kernel))
      | 1, _ => exact hg _ (List.mem_of_getElem? (i := 65) (by decide +kernel))
      | 2, _ => exact hg _ (List.mem_of_getElem? (i := 66) (by decide +kernel))
      | 3, _ => exact hg _ (List.mem_of_getElem? (i := 67) (by decide +kernel))
    | 6, _ =>
      have hj : j < 4 := hj
      match j, hj with
      | 0, _ => exact hg _ (List.mem_of_getElem? (i := 77) (by decide +kernel))
      | 1, _ => exact hg _ (List.mem_of_getElem? (i := 78) (by decide +kernel))
      | 2, _ => exact hg _ (List.mem_of_getElem? (i := 79) (by decide +kernel))
      | 3, _ => exact hg _ (List.mem_of_getElem? (i := 80) (by decide +kernel))
    | 7, _ =>
      have hj : j < 3 := hj
      match j, hj with
      | 0, _ => exact hg _ (List.mem_of_getElem? (i := 91) (by decide +kernel))
      | 1, _ => exact hg _ (List.mem_of_getElem? (i := 92) (by decide +kernel))
      | 2, _ => exact hg _ (List.mem_of_getElem? (i := 93) (by decide +kernel))
    | 8, _ =>
      have hj : j < 4 := hj
      match j, hj with
      | 0, _ => exact hg _ (List.mem_of_getElem? (i := 105) (by decide +kernel))
      | 1, _ => exact hg _ (List.mem_of_getElem? (i := 106) (by decide +kernel))
      | 2, _ => exact hg _ (List.mem_of_getElem? (i := 107) (by decide +kernel))
      | 3, _ => exact hg _ (List.mem_of_getElem? (i := 108) (by decide +kernel))
    | 9, _ =>
      have hj : j < 4 := hj
      match j, hj with
      | 0, _ => exact hg _ (List.mem_of_getElem? (i := 121) (by decide +kernel))
      | 1, _ => exact hg _ (List.mem_of_getElem? (i := 122) (by decide +kernel))
      | 2, _ => exact hg _ (List.mem_of_getElem? (i := 123) (by decide +kernel))
      | 3, _ => exact hg _ (List.mem_of_getElem? (i := 124) (by decide +kernel))
    | 10, _ =>
      have hj : j < 4 := hj
      match j, hj with
      | 0, _ => exact hg _ (List.mem_of_getElem? (i := 157) (by decide +kernel))
      | 1, _ => exact hg _ (List.mem_of_getElem? (i := 158) (by decide +kernel))
      | 2, _ => exact hg _ (List.mem_of_getElem? (i := 159) (by decide +kernel))
      | 3, _ => exact hg _ (List.mem_of_getElem? (i := 160) (by decide +kernel))
    | 11, _ =>
      have hj : j < 5 := hj
      match j, hj with
      | 0, _ => exact hg _ (List.mem_of_getElem? (i := 138) (by decide +kernel))
      | 1, _ => exact hg _ (List.mem_of_getElem? (i := 139) (by decide +kernel))
      | 2, _ => exact hg _ (List.mem_of_getElem? (i := 140) (by decide +kernel))
      | 3, _ => exact hg _ (List.mem_of_getElem? (i := 141) (by decide +kernel))
      | 4, _ => exact hg _ (List.mem_of_getElem? (i := 142) (by decide +kernel))
    | 12, _ =>
      have hj : j < 2 := hj
      match j, hj with
      | 0, _ => exact hg _ (List.mem_of_getElem? (i := 176) (by decide +kernel))
      | 1, _ => exact hg _ (List.mem_of_getElem? (i := 177) (by decide +kernel))
  have f6 : ∀ i j : Nat, i < 13 → j < 13 → i ≠ j → (Cond.not (Cond.eq (.string (ownS.getD i "") (idxS.getD i 0)) (.string (ownS.getD j "") (idxS.getD j 0)))).before args s = true ∨ (Cond.not (Cond.eq (.string (ownS.getD j "") (idxS.getD j 0)) (.string (ownS.getD i "") (idxS.getD i 0)))).before args s = true := by
    have hlt : ∀ i j : Nat, i < j → j < 13 → (Cond.not (Cond.eq (.string (ownS.getD i "") (idxS.getD i 0)) (.string (ownS.getD j "") (idxS.getD j 0)))).before args s = true ∨ (Cond.not (Cond.eq (.string (ownS.getD j "") (idxS.getD j 0)) (.string (ownS.getD i "") (idxS.getD i 0)))).before args s = true := by
      intro i j hij hj
      match j, hj, i, hij with
      | 1, _, 0, _ => exact Or.inl (hg _ (List.mem_of_getElem? (i := 23) (by decide +kernel)))
      | 2, _, 0, _ => exact Or.inl (hg _ (List.mem_of_getElem? (i := 32) (by decide +kernel)))
      | 2, _, 1, _ => exact Or.inl (hg _ (List.mem_of_getElem? (i := 33) (by decide +kernel)))
      | 3, _, 0, _ => exact Or.inl (hg _ (List.mem_of_getElem? (i := 43) (by decide +kernel)))
      | 3, _, 1, _ => exact Or.inl (hg _ (List.mem_of_getElem? (i := 44) (by decide +kernel)))
      | 3, _, 2, _ => exact Or.inl (hg _ (List.mem_of_getElem? (i := 45) (by decide +kernel)))
      | 4, _, 0, _ => exact Or.inl (hg _ (List.mem_of_getElem? (i := 56) (by decide +kernel)))
      | 4, _, 1, _ => exact Or.inl (hg _ (List.mem_of_getElem? (i := 57) (by decide +kernel)))
      | 4, _, 2, _ => exact Or.inl (hg _ (List.mem_of_getElem? (i := 58) (by decide +kernel)))
      | 4, _, 3, _ => exact Or.inl (hg _ (List.mem_of_getElem? (i := 59) (by decide +kernel)))
      | 5, _, 0, _ => exact Or.inl (hg _ (List.mem_of_getElem? (i := 68) (by decide +kernel)))
      | 5, _, 1, _ => exact Or.inl (hg _ (List.mem_of_getElem? (i := 69) (by decide +kernel)))
      | 5, _, 2, _ => exact Or.inl (hg _ (List.mem_of_getElem? (i := 70) (by decide +kernel)))
      | 5, _, 3, _ => exact Or.inl (hg _ (List.mem_of_getElem? (i := 71) (by decide +kernel)))
      | 5, _, 4, _ => exact Or.inl (hg _ (List.mem_of_getElem? (i := 72) (by decide +kernel)))
      | 6, _, 0, _ => exact Or.inl (hg _ (List.mem_of_getElem? (i := 81) (by decide +kernel)))
      | 6, _, 1, _ => exact Or.inl (hg _ (List.mem_of_getElem? (i := 82) (by decide +kernel)))
      | 6, _, 2, _ => exact Or.inl (hg _ (List.mem_of_getElem? (i := 83) (by decide +kernel)))
      | 6, _, 3, _ => exact Or.inl (hg _ (List.mem_of_getElem? (i := 84) (by decide +kernel)))
      | 6, _, 4, _ => exact Or.inl (hg _ (List.mem_of_getElem? (i := 85) (by decide +kernel)))
      | 6, _, 5, _ => exact Or.inl (hg _ (List.mem_of_getElem? (i := 86) (by decide +kernel)))
      | 7, _, 0, _ => exact Or.inl (hg _ (List.mem_of_getElem? (i := 94) (by decide +kernel)))
      | 7, _, 1, _ => exact Or.inl (hg _ (List.mem_of_getElem? (i := 95) (by decide +kernel)))
      | 7, _, 2, _ => exact Or.inl (hg _ (List.mem_of_getElem? (i := 96) (by decide +kernel)))
      | 7, _, 3, _ => exact Or.inl (hg _ (List.mem_of_getElem? (i := 97) (by decide +kernel)))
      | 7, _, 4, _ => exact Or.inl (hg _ (List.mem_of_getElem? (i := 98) (by decide +kernel)))
      | 7, _, 5, _ => exact Or.inl (hg _ (List.mem_of_getElem? (i := 99) (by decide +kernel)))
      | 7, _, 6, _ => exact Or.inl (hg _ (List.mem_of_getElem? (i := 100) (by decide +kernel)))
      | 8, _, 0, _ => exact Or.inl (hg _ (List.mem_of_getElem? (i := 109) (by decide +kernel)))
      | 8, _, 1, _ => exact Or.inl (hg _ (List.mem_of_getElem? (i := 110) (by decide +kernel)))
      | 8, _, 2, _ => exact Or.inl (hg _ (List.mem_of_getElem? (i := 111) (by decide +kernel)))
      | 8, _, 3, _ => exact Or.inl (hg _ (List.mem_of_getElem? (i := 112) (by decide +kernel)))
      | 8, _, 4, _ => exact Or.inl (hg _ (List.mem_of_getElem? (i := 113) (by decide +kernel)))
      | 8, _, 5, _ => exact Or.inl (hg _ (List.mem_of_getElem? (i := 114) (by decide +kernel)))
      | 8, _, 6, _ => exact Or.inl (hg _ (List.mem_of_getElem? (i := 115) (by decide +kernel)))
      | 8, _, 7, _ => exact Or.inl (hg _ (List.mem_of_getElem? (i := 116) (by decide +kernel)))
      | 9, _, 0, _ => exact Or.inl (hg _ (List.mem_of_getElem? (i := 125) (by decide +kernel)))
      | 9, _, 1, _ => exact Or.inl (hg _ (List.mem_of_getElem? (i := 126) (by decide +kernel)))
      | 9, _, 2, _ => exact Or.inl (hg _ (List.mem_of_getElem? (i := 127) (by decide +kernel)))
      | 9, _, 3, _ => exact Or.inl (hg _ (List.mem_of_getElem? (i := 128) (by decide +kernel)))
      | 9, _, 4, _ => exact Or.inl (hg _ (List.mem_of_getElem? (i := 129) (by decide +kernel)))
      | 9, _, 5, _ => exact Or.inl (hg _ (List.mem_of_getElem? (i := 130) (by decide +kernel)))
      | 9, _, 6, _ => exact Or.inl (hg _ (List.mem_of_getElem? (i := 131) (by decide +kernel)))
      | 9, _, 7, _ => exact Or.inl (hg _ (List.mem_of_getElem? (i := 132) (by decide +kernel)))
      | 9, _, 8, _ => exact Or.inl (hg _ (List.mem_of_getElem? (i := 133) (by decide +kernel)))
      | 10, _, 0, _ => exact Or.inl (hg _ (List.mem_of_getElem? (i := 161) (by decide +kernel)))
      | 10, _, 1, _ => exact Or.inl (hg _ (List.mem_of_getElem? (i := 162) (by decide +kernel)))
      | 10, _, 2, _ => exact Or.inl (hg _ (List.mem_of_getElem? (i := 163) (by decide +kernel)))
      | 10, _, 3, _ => exact Or.inl (hg _ (List.mem_of_getElem? (i := 164) (by decide +kernel)))
      | 10, _, 4, _ => exact Or.inl (hg _ (List.mem_of_getElem? (i := 165) (by decide +kernel)))
      | 10, _, 5, _ => exact Or.inl (hg _ (List.mem_of_getElem? (i := 166) (by decide +kernel)))
      | 10, _, 6, _ => exact Or.inl (hg _ (List.mem_of_getElem? (i := 167) (by decide +kernel)))
      | 10, _, 7, _ => exact Or.inl (hg _ (List.mem_of_getElem? (i := 168) (by decide +kernel)))
      | 10, _, 8, _ => exact Or.inl (hg _ (List.mem_of_getElem? (i := 169) (by decide +kernel)))
      | 10, _, 9, _ => exact Or.inl (hg _ (List.mem_of_getElem? (i := 170) (by decide +kernel)))
      | 11, _, 0, _ => exact Or.inl (hg _ (List.mem_of_getElem? (i := 143) (by decide +kernel)))
      | 11, _, 1, _ => exact Or.inl (hg _ (List.mem_of_getElem? (i := 144) (by decide +kernel)))
      | 11, _, 2, _ => exact Or.inl (hg _ (List.mem_of_getElem? (i := 145) (by decide +kernel)))
      | 11, _, 3, _ => exact Or.inl (hg _ (List.mem_of_getElem? (i := 146) (by decide +kernel)))
      | 11, _, 4, _ => exact Or.inl (hg _ (List.mem_of_getElem? (i := 147) (by decide +kernel)))
      | 11, _, 5, _ => exact Or.inl (hg _ (List.mem_of_getElem? (i := 148) (by decide +kernel)))
      | 11, _, 6, _ => exact Or.inl (hg _ (List.mem_of_getElem? (i := 149) (by decide +kernel)))
      | 11, _, 7, _ => exact Or.inl (hg _ (List.mem_of_getElem? (i := 150) (by decide +kernel)))
      | 11, _, 8, _ => exact Or.inl (hg _ (List.mem_of_getElem? (i := 151) (by decide +kernel)))
      | 11, _, 9, _ => exact Or.inl (hg _ (List.mem_of_getElem? (i := 152) (by decide +kernel)))
      | 11, _, 10, _ => exact Or.inr (hg _ (List.mem_of_getElem? (i := 171) (by decide +kernel)))
      | 12, _, 0, _ => exact Or.inl (hg _ (List.mem_of_getElem? (i := 178) (by decide +kernel)))
      | 12, _, 1, _ => exact Or.inl (hg _ (List.mem_of_getElem? (i := 179) (by decide +kernel)))
      | 12, _, 2, _ => exact Or.inl (hg _ (List.mem_of_getElem? (i := 180) (by decide +kernel)))
      | 12, _, 3, _ => exact Or.inl (hg _ (List.mem_of_getElem? (i := 181) (by decide +kernel)))
      | 12, _, 4, _ => exact Or.inl (hg _ (List.mem_of_getElem? (i := 182) (by decide +kernel)))
      | 12, _, 5, _ => exact Or.inl (hg _ (List.mem_of_getElem? (i := 183) (by decide +kernel)))
      | 12, _, 6, _ => exact Or.inl (hg _ (List.mem_of_getElem? (i := 184) (by decide +kernel)))
      | 12, _, 7, _ => exact Or.inl (hg _ (List.mem_of_getElem? (i := 185) (by decide +kernel)))
      | 12, _, 8, _ => exact Or.inl (hg _ (List.mem_of_getElem? (i := 186) (by decide +kernel)))
      | 12, _, 9, _ => exact Or.inl (hg _ (List.mem_of_getElem? (i := 187) (by decide +kernel)))
      | 12, _, 10, _ => exact Or.inl (hg _ (List.mem_of_getElem? (i := 189) (by decide +kernel)))
      | 12, _, 11, _ => exact Or.inl (hg _ (List.mem_of_getElem? (i := 188) (by decide +kernel)))
    intro i j hi hj hne
    by_cases h : i < j
    · exact hlt i j h hj
    · exact (hlt j i (by omega) hi).symm
  obtain ⟨sK, sV, h1, h2⟩ := vk_Sof (args := args) (s := s) (N := 13) (tm := fun j => .string (ownS.getD j "") (idxS.getD j 0)) (len := lenS) (byt := bytS) (A := A) (by decide) f1 f2 f3 f4 f5 f6 hA
  refine ⟨sK, sV, h1, fun j hj => vk_R.of (A := args) ?_ ?_⟩
  · match j, hj with
    | 0, _ => exact hts _ (List.mem_of_getElem? (i := 623) (by decide +kernel))
    | 1, _ => exact hts _ (List.mem_of_getElem? (i := 680) (by decide +kernel))
    | 2, _ => exact hts _ (List.mem_of_getElem? (i := 681) (by decide +kernel))
    | 3, _ => exact hts _ (List.mem_of_getElem? (i := 682) (by decide +kernel))
    | 4, _ => exact hts _ (List.mem_of_getElem? (i := 683) (by decide +kernel))
    | 5, _ => exact hts _ (List.mem_of_getElem? (i := 730) (by decide +kernel))
    | 6, _ => exact hts _ (List.mem_of_getElem? (i := 777) (by decide +kernel))
    | 7, _ => exact hts _ (List.mem_of_getElem? (i := 788) (by decide +kernel))
    | 8, _ => exact hts _ (List.mem_of_getElem? (i := 798) (by decide +kernel))
    | 9, _ => exact hts _ (List.mem_of_getElem? (i := 805) (by decide +kernel))
    | 10, _ => exact hts _ (List.mem_of_getElem? (i := 817) (by decide +kernel))
    | 11, _ => exact hts _ (List.mem_of_getElem? (i := 811) (by decide +kernel))
    | 12, _ => exact hts _ (List.mem_of_getElem? (i := 823) (by decide +kernel))
  · have h3 := h2 j hj
    exact h3
theorem world_s {s : State} {args : Array Value} (hts : ∀ w ∈ lw_tbl, w.before args s = true) (hg : ∀ c ∈ GV, c.before args s = true) : ∃ sK sV : Nat → Nat, ∀ ax : Nat → Nat, (∀ i, i < 78 → s.heap.size ≤ ax i) → ExX ax sK sV s := by
  obtain ⟨sK, sV, h1, h2⟩ := text_s (A := fun q => s.heap.size ≤ q) hts hg (fun a h => Nat.not_le.mpr h)
  have h3 : va_Z "java/lang/String" "COMPACT_STRINGS" "Z" (.int 1) (fun q => s.heap.size ≤ q) s s.heap := va_Zof (args := args) (hts _ (List.mem_of_getElem? (i := 637) (by decide +kernel))) (hts _ (List.mem_of_getElem? (i := 26) (by decide +kernel))) (va_eqi (hg _ (List.mem_of_getElem? (i := 4) (by decide +kernel)))) (fun a h => Nat.not_le.mpr h)
  have h4 : va_Zq "jdk/internal/util/Preconditions" "SIOOBE_FORMATTER" "Ljava/util/function/BiFunction;" (fun q => s.heap.size ≤ q) s s.heap := va_Zqof (args := args) (hts _ (List.mem_of_getElem? (i := 653) (by decide +kernel))) (hts _ (List.mem_of_getElem? (i := 28) (by decide +kernel))) (hg _ (List.mem_of_getElem? (i := 5) (by decide +kernel))) (fun a h => Nat.not_le.mpr h)
  refine ⟨sK, sV, fun ax hax => ?_⟩
  have hsub : ∀ q, AW 78 ax q → s.heap.size ≤ q := fun q hq => by
    obtain ⟨i, hi, rfl⟩ := hq
    exact hax i hi
  refine ⟨nest_s hts, h2, h1.narrow hsub, h3.narrow hsub, ?_⟩
  rcases h4 with h4 | ⟨t, h4⟩
  · exact ⟨.null, Or.inl rfl, h4.narrow hsub⟩
  · exact ⟨.ref t, Or.inr ⟨t, rfl⟩, h4.narrow hsub⟩
theorem known_s {s : State} {args : Array Value} (hts : ∀ w ∈ TB, w.before args s = true) : ∃ (G : va_G) (cA cZ cC : ClassId), va_K G vwCl (TY cA cZ cC) s := by
  obtain ⟨c0, i0, h0⟩ := u_known (C := RX0) (T := TX0) (N := 7) (n := 7) hts inX0 (hts _ q40)
  obtain ⟨c1, i1, h1⟩ := u_known (C := RX1) (T := TX1) (N := 7) (n := 7) hts inX1 (hts _ q178)
  obtain ⟨c2, i2, h2⟩ := u_known (C := RX2) (T := TX2) (N := 2) (n := 2) hts inX2 (hts _ q238)
  obtain ⟨c3, i3, h3⟩ := u_known (C := RX3) (T := TX3) (N := 3) (n := 3) hts inX3 (hts _ q157)
  obtain ⟨c4, i4, h4⟩ := u_known (C := RX4) (T := TX4) (N := 2) (n := 2) hts inX4 (hts _ q223)
  obtain ⟨c5, i5, h5⟩ := u_known (C := RX5) (T := TX5) (N := 16) (n := 16) hts inX5 (hts _ q80)
  obtain ⟨c6, i6, h6⟩ := u_known (C := RX6) (T := TX6) (N := 9) (n := 9) hts inX6 (hts _ q74)
  obtain ⟨c7, i7, h7⟩ := u_known (C := RX7) (T := TX7) (N := 6) (n := 6) hts inX7 (hts _ q32)
  obtain ⟨cA, kA, pA, fA, gA, eA⟩ := Cond.arrayClass_spec (hts _ q72)
  refine ⟨(fun k => if k = 0 then c0 else if k = 1 then c1 else if k = 2 then c2 else if k = 3 then c3 else if k = 4 then c4 else if k = 5 then c5 else if k = 6 then c6 else c7, fun k => if k = 0 then i0 else if k = 1 then i1 else if k = 2 then i2 else if k = 3 then i3 else if k = 4 then i4 else if k = 5 then i5 else if k = 6 then i6 else i7), cA, cA, cA, ?_, ?_⟩
  · intro k q hq
    match k, hq with
    | 0, hq => cases hq; exact h0
    | 1, hq => cases hq; exact h1
    | 2, hq => cases hq; exact h2
    | 3, hq => cases hq; exact h3
    | 4, hq => cases hq; exact h4
    | 5, hq => cases hq; exact h5
    | 6, hq => cases hq; exact h6
    | 7, hq => cases hq; exact h7
    | k + 8, hq => simp [vwCl] at hq
  · intro k q hq
    match k, hq with
    | 0, hq => cases hq; exact ⟨fun n z => ⟨fun k h => (by cases h), kA, gA, pA, eA⟩, fA⟩
    | k + 1, hq => simp [TY] at hq
