section
variable {G : va_G} {ad sK sV : Nat → Nat} {cA cZ cC : ClassId}
set_option maxRecDepth 100000 in
set_option maxHeartbeats 4000000 in
theorem kX0_signHere (hap : Apart 78 ad)   (M : Mem)  (v : Int32) (h : fX0_signHere M = v) : XI G ad sK sV cA cZ cC yX0_signHere cX0_signHere 1 .int ({ frames := 1, cells := 0, slots := 0, locals := 21 } : Room) [.ref (ad 1)] M v M := by
  refine CI.mk (own := RX0) (ls0 := [(0, .ref (ad 1))]) (by decide +kernel) rfl hap (Nat.le_of_ble_eq_true rfl) rfl ?_
  intro p l e s m args below meth c ls E hP hl
  have hx := E.1
  have hb := E.2.1
  have hown := E.2.2.2.2.2.1
  have hts := E.2.2.2.2.2.2.1
  have hNe := E.2.2.2.2.2.2.2.2.1.1
  have hEx := ExX.ok ad sK sV
  have hS : va_S (AW 78 ad) s.heap s.heap [] := va_S.rf
  unfold fX0_signHere at h
  refine lv_aload_n (pc := 0) hx hb dX0_signHere_0 rfl (lv_at hl 0 rfl) ?_
  refine x_get (pc := 1) (v := .int (M 1 5)) E hP (by decide) sh0 rfl inX0 5 (by decide) q55 rfl dX0_signHere_1 ?_
  refine lv_aload_n (pc := 4) hx hb dX0_signHere_4 rfl (lv_at hl 0 rfl) ?_
  refine x_get (pc := 5) (v := .int (M 1 1)) E hP (by decide) sh0 rfl inX0 1 (by decide) q48 rfl dX0_signHere_5 ?_
  refine lv_icmp_ge (pc := 8) (tgt := 25) hx hb dX0_signHere_8 (by decide) (fun c1 => ?_) (fun c1 => ?_)
  · have h := (if_pos c1).symm.trans h
    refine lv_iconst (pc := 25) (v := (-1 : Int32)) hx hb dX0_signHere_25 (by decide) ?_
    obtain rfl : (-1 : Int32) = v := h
    exact x_iret E hP hS rfl dX0_signHere_26
  · have h := (if_neg c1).symm.trans h
    refine lv_aload_n (pc := 11) hx hb dX0_signHere_11 rfl (lv_at hl 0 rfl) ?_
    refine x_get (pc := 12) (v := .ref (ad 2)) E hP (by decide) sh0 rfl inX0 0 (by decide) q45 rfl dX0_signHere_12 ?_
    refine lv_aload_n (pc := 15) hx hb dX0_signHere_15 rfl (lv_at hl 0 rfl) ?_
    refine x_get (pc := 16) (v := .int (M 1 5)) E hP (by decide) sh0 rfl inX0 5 (by decide) q55 rfl dX0_signHere_16 ?_
    refine x_callNi (pc := 19) (st := .int (M 1 5) :: .ref (ad 2) :: []) (As := [.ref (ad 2), .int (M 1 5)]) E hEx hl.1 hP hS (c_at hap M (by decide) sh0a1 (by decide) _ _ rfl) gcX7_at (hNe _ nw14) q17 q320 hsX7_at rfl ⟨Nat.le_of_ble_eq_true rfl, Nat.le_of_ble_eq_true rfl⟩ ⟨rfl, rfl⟩ dX0_signHere_19 rfl (Nat.le_of_ble_eq_true rfl) (fun H locs hP hS n2 => ?_)
    refine lv_goto (pc := 22) (tgt := 26) hx hb dX0_signHere_22 (by decide) ?_
    obtain rfl : (atX M 2 20 (M 1 5)) = v := h
    exact x_iret E hP hS rfl dX0_signHere_26
set_option maxRecDepth 100000 in
set_option maxHeartbeats 4000000 in
theorem kX0_digitHere (hap : Apart 78 ad)   (M : Mem)  (v : Int32) (h : fX0_digitHere M = v) : XI G ad sK sV cA cZ cC yX0_digitHere cX0_digitHere 1 .boolean ({ frames := 2, cells := 0, slots := 0, locals := 41 } : Room) [.ref (ad 1)] M v M := by
  refine CI.mk (own := RX0) (ls0 := [(0, .ref (ad 1))]) (by decide +kernel) rfl hap (Nat.le_of_ble_eq_true rfl) rfl ?_
  intro p l e s m args below meth c ls E hP hl
  have hx := E.1
  have hb := E.2.1
  have hown := E.2.2.2.2.2.1
  have hts := E.2.2.2.2.2.2.1
  have hNe := E.2.2.2.2.2.2.2.2.1.1
  have hEx := ExX.ok ad sK sV
  have hS : va_S (AW 78 ad) s.heap s.heap [] := va_S.rf
  unfold fX0_digitHere at h
  refine lv_aload_n (pc := 0) hx hb dX0_digitHere_0 rfl (lv_at hl 0 rfl) ?_
  refine x_callVi (pc := 1) (st := .ref (ad 1) :: []) (As := []) E hEx hl.1 hP hS (kX0_signHere hap  M  _ rfl) gX0_45 hdX0_signHere rfl (by decide) sh0 rfl ⟨Nat.le_of_ble_eq_true rfl, Nat.le_of_ble_eq_true rfl⟩ ⟨rfl, rfl⟩ dX0_digitHere_1 rfl (Nat.le_of_ble_eq_true rfl) (fun H locs hP hS n1 => ?_)
  refine lv_bipush (pc := 4) (v := (48 : Int32)) hx hb dX0_digitHere_4 (by decide) ?_
  refine lv_icmp_lt (pc := 6) (tgt := 22) hx hb dX0_digitHere_6 (by decide) (fun c2 => ?_) (fun c2 => ?_)
  · have h := (if_pos c2).symm.trans h
    refine lv_iconst (pc := 22) (v := (0 : Int32)) hx hb dX0_digitHere_22 (by decide) ?_
    obtain rfl : (0 : Int32) = v := h
    exact x_iret E hP hS rfl dX0_digitHere_23
  · have h := (if_neg c2).symm.trans h
    refine lv_aload_n (pc := 9) hx hb dX0_digitHere_9 rfl (lv_at hl 0 rfl) ?_
    refine x_callVi (pc := 10) (st := .ref (ad 1) :: []) (As := []) E hEx hl.1 hP hS (kX0_signHere hap  M  _ rfl) gX0_45 hdX0_signHere rfl (by decide) sh0 rfl ⟨Nat.le_of_ble_eq_true rfl, Nat.le_of_ble_eq_true rfl⟩ ⟨rfl, rfl⟩ dX0_digitHere_10 rfl (Nat.le_of_ble_eq_true rfl) (fun H locs hP hS n3 => ?_)
    refine lv_bipush (pc := 13) (v := (57 : Int32)) hx hb dX0_digitHere_13 (by decide) ?_
    refine lv_icmp_gt (pc := 15) (tgt := 22) hx hb dX0_digitHere_15 (by decide) (fun c4 => ?_) (fun c4 => ?_)
    · have h := (if_pos c4).symm.trans h
      refine lv_iconst (pc := 22) (v := (0 : Int32)) hx hb dX0_digitHere_22 (by decide) ?_
      obtain rfl : (0 : Int32) = v := h
      exact x_iret E hP hS rfl dX0_digitHere_23
    · have h := (if_neg c4).symm.trans h
      refine lv_iconst (pc := 18) (v := (1 : Int32)) hx hb dX0_digitHere_18 (by decide) ?_
      refine lv_goto (pc := 19) (tgt := 23) hx hb dX0_digitHere_19 (by decide) ?_
      obtain rfl : (1 : Int32) = v := h
      exact x_iret E hP hS rfl dX0_digitHere_23
set_option maxRecDepth 100000 in
set_option maxHeartbeats 4000000 in
theorem kX0_matchesDigits (hap : Apart 78 ad)   (M : Mem) (x1 x2 : Int32) (v : Int32) (M' : Mem) (h : fX0_matchesDigits M x1 x2 = some (v, M')) : XI G ad sK sV cA cZ cC yX0_matchesDigits cX0_matchesDigits 4 .boolean ({ frames := 3, cells := 0, slots := 0, locals := 61 } : Room) [.ref (ad 1), .int x1, .int x2] M v M' := by
  refine CI.mk (own := RX0) (ls0 := [(0, .ref (ad 1)), (1, .int x1), (2, .int x2)]) (by decide +kernel) rfl hap (Nat.le_of_ble_eq_true rfl) rfl ?_
  intro p l e s m args below meth c ls E hP hl
  have hx := E.1
  have hb := E.2.1
  have hown := E.2.2.2.2.2.1
  have hts := E.2.2.2.2.2.2.1
  have hNe := E.2.2.2.2.2.2.2.2.1.1
  have hEx := ExX.ok ad sK sV
  have hS : va_S (AW 78 ad) s.heap s.heap [] := va_S.rf
  have hB54 : ∀ (M : Mem) (x1 x3 : Int32) (H : Heap) (locs : List Loc) (ls : Array Slot), fX0_matchesDigits_B54 M x1 x3 = some (v, M') → va_P G vwCl (WW 78 (shX cA ad) ad M) H → va_S (AW 78 ad) s.heap H locs → lv_has ls 4 [(1, .int x1), (3, .int x3)] → W p l e ({ frames := 3, cells := 0, slots := 0, locals := 61 } : Room) s m args below meth c H locs 0 0 (QI below G 78 (shX cA ad) ad .boolean args s v M') (F0 m 54 ls []) := by
    intro M x1 x3 H locs ls h hP hS hl
    unfold fX0_matchesDigits_B54 at h
    refine lv_iload_n (pc := 54) hx hb dX0_matchesDigits_54 rfl (lv_at hl 1 rfl) ?_
    refine lv_iload_n (pc := 55) hx hb dX0_matchesDigits_55 rfl (lv_at hl 0 rfl) ?_
    refine lv_icmp_lt (pc := 56) (tgt := 63) hx hb dX0_matchesDigits_56 (by decide) (fun c3 => ?_) (fun c3 => ?_)
    · have h := (if_pos c3).symm.trans h
      refine lv_iconst (pc := 63) (v := (0 : Int32)) hx hb dX0_matchesDigits_63 (by decide) ?_
      obtain ⟨rfl, rfl⟩ := som2 h
      exact x_iret E hP hS rfl dX0_matchesDigits_64
    · have h := (if_neg c3).symm.trans h
      refine lv_iconst (pc := 59) (v := (1 : Int32)) hx hb dX0_matchesDigits_59 (by decide) ?_
      refine lv_goto (pc := 60) (tgt := 64) hx hb dX0_matchesDigits_60 (by decide) ?_
      obtain ⟨rfl, rfl⟩ := som2 h
      exact x_iret E hP hS rfl dX0_matchesDigits_64
  have hL7 : ∀ (n : Nat) (M : Mem) (x1 x2 x3 : Int32) (H : Heap) (locs : List Loc) (ls : Array Slot), fX0_matchesDigits_L7 n M x1 x2 x3 = some (v, M') → va_P G vwCl (WW 78 (shX cA ad) ad M) H → va_S (AW 78 ad) s.heap H locs → lv_has ls 4 [(0, .ref (ad 1)), (1, .int x1), (2, .int x2), (3, .int x3)] → W p l e ({ frames := 3, cells := 0, slots := 0, locals := 61 } : Room) s m args below meth c H locs 0 0 (QI below G 78 (shX cA ad) ad .boolean args s v M') (F0 m 7 ls []) := by
    intro n
    induction n with
    | zero => intro M x1 x2 x3 H locs ls h; cases h
    | succ n ih =>
      intro M x1 x2 x3 H locs ls h hP hS hl
      rw [fX0_matchesDigits_L7] at h
      refine lv_iload_n (pc := 7) hx hb dX0_matchesDigits_7 rfl (lv_at hl 3 rfl) ?_
      refine lv_iload_n (pc := 8) hx hb dX0_matchesDigits_8 rfl (lv_at hl 2 rfl) ?_
      refine lv_icmp_ge (pc := 9) (tgt := 54) hx hb dX0_matchesDigits_9 (by decide) (fun c2 => ?_) (fun c2 => ?_)
      · have h := (if_pos c2).symm.trans h
        exact hB54 M x1 x3 _ _ _ h hP hS (lv_sub hl [1, 3] rfl)
      · have h := (if_neg c2).symm.trans h
        refine lv_aload_n (pc := 12) hx hb dX0_matchesDigits_12 rfl (lv_at hl 0 rfl) ?_
        refine x_callVi (pc := 13) (st := .ref (ad 1) :: []) (As := []) E hEx hl.1 hP hS (kX0_digitHere hap  M  _ rfl) gX0_60 hdX0_digitHere rfl (by decide) sh0 rfl ⟨Nat.le_of_ble_eq_true rfl, Nat.le_of_ble_eq_true rfl⟩ ⟨rfl, rfl⟩ dX0_matchesDigits_13 rfl (Nat.le_of_ble_eq_true rfl) (fun H locs hP hS n4 => ?_)
        refine lv_if_eq (pc := 16) (tgt := 54) hx hb dX0_matchesDigits_16 (by decide) (fun c5 => ?_) (fun c5 => ?_)
        · have h := (if_pos c5).symm.trans h
          exact hB54 M x1 x3 _ _ _ h hP hS (lv_sub hl [1, 3] rfl)
        · have h := (if_neg c5).symm.trans h
          refine lv_aload_n (pc := 19) hx hb dX0_matchesDigits_19 rfl (lv_at hl 0 rfl) ?_
          refine lv_aload_n (pc := 20) hx hb dX0_matchesDigits_20 rfl (lv_at hl 0 rfl) ?_
          refine x_get (pc := 21) (v := .int (M 1 6)) E hP (by decide) sh0 rfl inX0 6 (by decide) q56 rfl dX0_matchesDigits_21 ?_
          refine lv_bipush (pc := 24) (v := (10 : Int32)) hx hb dX0_matchesDigits_24 (by decide) ?_
          refine lv_imul (pc := 26) hx hb dX0_matchesDigits_26 ?_
          refine lv_aload_n (pc := 27) hx hb dX0_matchesDigits_27 rfl (lv_at hl 0 rfl) ?_
          refine x_callVi (pc := 28) (st := .ref (ad 1) :: .int ((M 1 6) * (10 : Int32)) :: .ref (ad 1) :: []) (As := []) E hEx hl.1 hP hS (kX0_signHere hap  M  _ rfl) gX0_45 hdX0_signHere rfl (by decide) sh0 rfl ⟨Nat.le_of_ble_eq_true rfl, Nat.le_of_ble_eq_true rfl⟩ ⟨rfl, rfl⟩ dX0_matchesDigits_28 rfl (Nat.le_of_ble_eq_true rfl) (fun H locs hP hS n6 => ?_)
          refine lv_iadd (pc := 31) hx hb dX0_matchesDigits_31 ?_
          refine lv_bipush (pc := 32) (v := (48 : Int32)) hx hb dX0_matchesDigits_32 (by decide) ?_
          refine lv_isub (pc := 34) hx hb dX0_matchesDigits_34 ?_
          obtain ⟨M7, hM7, h⟩ := thn_ex h
          refine x_put (pc := 35) (v := ((((M 1 6) * (10 : Int32)) + (fX0_signHere M)) - (48 : Int32))) E hP hS (by decide) sh0 tyX0 tyX0_ok nmX0 rfl inX0 6 (by decide) q56 rfl rfl rfl (Nat.le_of_ble_eq_true rfl) rfl dX0_matchesDigits_35 (fun H locs hP hS => ?_)
          rw [hM7] at hP
          refine lv_aload_n (pc := 38) hx hb dX0_matchesDigits_38 rfl (lv_at hl 0 rfl) ?_
          refine lv_dup (pc := 39) hx hb dX0_matchesDigits_39 rfl ?_
          refine x_get (pc := 40) (v := .int (M7 1 5)) E hP (by decide) sh0 rfl inX0 5 (by decide) q55 rfl dX0_matchesDigits_40 ?_
          refine lv_iconst (pc := 43) (v := (1 : Int32)) hx hb dX0_matchesDigits_43 (by decide) ?_
          refine lv_iadd (pc := 44) hx hb dX0_matchesDigits_44 ?_
          obtain ⟨M8, hM8, h⟩ := thn_ex h
          refine x_put (pc := 45) (v := ((M7 1 5) + (1 : Int32))) E hP hS (by decide) sh0 tyX0 tyX0_ok nmX0 rfl inX0 5 (by decide) q55 rfl rfl rfl (Nat.le_of_ble_eq_true rfl) rfl dX0_matchesDigits_45 (fun H locs hP hS => ?_)
          rw [hM8] at hP
          refine lv_iinc (pc := 48) (v := (x3 + 1)) (lv' := [(3, .int (x3 + 1)), (0, .ref (ad 1)), (1, .int x1), (2, .int x2)]) hx hb dX0_matchesDigits_48 hl (k := 3) rfl rfl (by decide) rfl (fun ls hl => ?_)
          refine lv_goto (pc := 51) (tgt := 7) hx hb dX0_matchesDigits_51 (by decide) ?_
          exact ih M8 x1 x2 (x3 + 1) _ _ _ h hP hS (lv_sub hl [1, 2, 3, 0] rfl)
  unfold fX0_matchesDigits at h
  refine lv_aload_n (pc := 0) hx hb dX0_matchesDigits_0 rfl (lv_at hl 0 rfl) ?_
  refine lv_iconst (pc := 1) (v := (0 : Int32)) hx hb dX0_matchesDigits_1 (by decide) ?_
  obtain ⟨M1, hM1, h⟩ := thn_ex h
  refine x_put (pc := 2) (v := (0 : Int32)) E hP hS (by decide) sh0 tyX0 tyX0_ok nmX0 rfl inX0 6 (by decide) q56 rfl rfl rfl (Nat.le_of_ble_eq_true rfl) rfl dX0_matchesDigits_2 (fun H locs hP hS => ?_)
  rw [hM1] at hP
  refine lv_iconst (pc := 5) (v := (0 : Int32)) hx hb dX0_matchesDigits_5 (by decide) ?_
  refine lv_istore_n (pc := 6) (lv' := [(3, .int (0 : Int32)), (0, .ref (ad 1)), (1, .int x1), (2, .int x2)]) hx hb dX0_matchesDigits_6 rfl hl (by decide) rfl (fun ls hl => ?_)
  exact hL7 5000 M1 x1 x2 (0 : Int32) _ _ _ h hP hS (lv_sub hl [1, 2, 3, 0] rfl)
set_option maxRecDepth 100000 in
set_option maxHeartbeats 4000000 in
theorem kX0_matchesWord (hap : Apart 78 ad) {j : Nat} (hj : j < 13) (M : Mem)  (v : Int32) (M' : Mem) (h : fX0_matchesWord j M = some (v, M')) : XI G ad sK sV cA cZ cC yX0_matchesWord cX0_matchesWord 3 .boolean ({ frames := 5, cells := 0, slots := 0, locals := 161 } : Room) [.ref (ad 1), .ref (sK j)] M v M' := by
  refine CI.mk (own := RX0) (ls0 := [(0, .ref (ad 1)), (1, .ref (sK j))]) (by decide +kernel) rfl hap (Nat.le_of_ble_eq_true rfl) rfl ?_
  intro p l e s m args below meth c ls E hP hl
  have hx := E.1
  have hb := E.2.1
  have hown := E.2.2.2.2.2.1
  have hts := E.2.2.2.2.2.2.1
  have hNe := E.2.2.2.2.2.2.2.2.1.1
  have hEx := ExX.ok ad sK sV
  have hS : va_S (AW 78 ad) s.heap s.heap [] := va_S.rf
  have hL2 : ∀ (n : Nat) (M : Mem) (x2 : Int32) (H : Heap) (locs : List Loc) (ls : Array Slot), fX0_matchesWord_L2 j n M x2 = some (v, M') → va_P G vwCl (WW 78 (shX cA ad) ad M) H → va_S (AW 78 ad) s.heap H locs → lv_has ls 3 [(0, .ref (ad 1)), (1, .ref (sK j)), (2, .int x2)] → W p l e ({ frames := 5, cells := 0, slots := 0, locals := 161 } : Room) s m args below meth c H locs 0 0 (QI below G 78 (shX cA ad) ad .boolean args s v M') (F0 m 2 ls []) := by
    intro n
    induction n with
    | zero => intro M x2 H locs ls h; cases h
    | succ n ih =>
      intro M x2 H locs ls h hP hS hl
      rw [fX0_matchesWord_L2] at h
      refine lv_iload_n (pc := 2) hx hb dX0_matchesWord_2 rfl (lv_at hl 2 rfl) ?_
      refine lv_aload_n (pc := 3) hx hb dX0_matchesWord_3 rfl (lv_at hl 1 rfl) ?_
      refine x_callTi (pc := 4) (st := .ref (sK j) :: .int x2 :: []) (As := []) (j := j) E hEx hl.1 hP hS (c_strLen hap M hj) gX0_63 hdJ0_length_8abf5 rfl hj ⟨Nat.le_of_ble_eq_true rfl, Nat.le_of_ble_eq_true rfl⟩ ⟨rfl, rfl⟩ dX0_matchesWord_4 rfl (Nat.le_of_ble_eq_true rfl) (fun H locs hP hS n1 => ?_)
      refine lv_icmp_ge (pc := 7) (tgt := 40) hx hb dX0_matchesWord_7 (by decide) (fun c2 => ?_) (fun c2 => ?_)
      · have h := (if_pos c2).symm.trans h
        refine lv_iconst (pc := 40) (v := (1 : Int32)) hx hb dX0_matchesWord_40 (by decide) ?_
        obtain ⟨rfl, rfl⟩ := som2 h
        exact x_iret E hP hS rfl dX0_matchesWord_41
      · have h := (if_neg c2).symm.trans h
        refine lv_aload_n (pc := 10) hx hb dX0_matchesWord_10 rfl (lv_at hl 0 rfl) ?_
        refine x_callVi (pc := 11) (st := .ref (ad 1) :: []) (As := []) E hEx hl.1 hP hS (kX0_signHere hap  M  _ rfl) gX0_45 hdX0_signHere rfl (by decide) sh0 rfl ⟨Nat.le_of_ble_eq_true rfl, Nat.le_of_ble_eq_true rfl⟩ ⟨rfl, rfl⟩ dX0_matchesWord_11 rfl (Nat.le_of_ble_eq_true rfl) (fun H locs hP hS n3 => ?_)
        refine lv_aload_n (pc := 14) hx hb dX0_matchesWord_14 rfl (lv_at hl 1 rfl) ?_
        refine lv_iload_n (pc := 15) hx hb dX0_matchesWord_15 rfl (lv_at hl 2 rfl) ?_
        obtain ⟨y4, hy4, h⟩ := bnd_ex h
        refine x_callTi (pc := 16) (st := .int x2 :: .ref (sK j) :: .int (fX0_signHere M) :: []) (As := [.int x2]) (j := j) E hEx hl.1 hP hS (c_strAt hap M hj _ _ hy4) gX0_67 hdJ0_charAt_5068e rfl hj ⟨Nat.le_of_ble_eq_true rfl, Nat.le_of_ble_eq_true rfl⟩ ⟨rfl, rfl⟩ dX0_matchesWord_16 rfl (Nat.le_of_ble_eq_true rfl) (fun H locs hP hS n5 => ?_)
        refine lv_icmp_eq (pc := 19) (tgt := 24) hx hb dX0_matchesWord_19 (by decide) (fun c6 => ?_) (fun c6 => ?_)
        · have h := (if_pos c6).symm.trans h
          refine lv_aload_n (pc := 24) hx hb dX0_matchesWord_24 rfl (lv_at hl 0 rfl) ?_
          refine lv_dup (pc := 25) hx hb dX0_matchesWord_25 rfl ?_
          refine x_get (pc := 26) (v := .int (M 1 5)) E hP (by decide) sh0 rfl inX0 5 (by decide) q55 rfl dX0_matchesWord_26 ?_
          refine lv_iconst (pc := 29) (v := (1 : Int32)) hx hb dX0_matchesWord_29 (by decide) ?_
          refine lv_iadd (pc := 30) hx hb dX0_matchesWord_30 ?_
          obtain ⟨M7, hM7, h⟩ := thn_ex h
          refine x_put (pc := 31) (v := ((M 1 5) + (1 : Int32))) E hP hS (by decide) sh0 tyX0 tyX0_ok nmX0 rfl inX0 5 (by decide) q55 rfl rfl rfl (Nat.le_of_ble_eq_true rfl) rfl dX0_matchesWord_31 (fun H locs hP hS => ?_)
          rw [hM7] at hP
          refine lv_iinc (pc := 34) (v := (x2 + 1)) (lv' := [(2, .int (x2 + 1)), (0, .ref (ad 1)), (1, .ref (sK j))]) hx hb dX0_matchesWord_34 hl (k := 2) rfl rfl (by decide) rfl (fun ls hl => ?_)
          refine lv_goto (pc := 37) (tgt := 2) hx hb dX0_matchesWord_37 (by decide) ?_
          exact ih M7 (x2 + 1) _ _ _ h hP hS (lv_sub hl [1, 2, 0] rfl)
        · have h := (if_neg c6).symm.trans h
          refine lv_iconst (pc := 22) (v := (0 : Int32)) hx hb dX0_matchesWord_22 (by decide) ?_
          obtain ⟨rfl, rfl⟩ := som2 h
          exact x_iret E hP hS rfl dX0_matchesWord_23
  unfold fX0_matchesWord at h
  refine lv_iconst (pc := 0) (v := (0 : Int32)) hx hb dX0_matchesWord_0 (by decide) ?_
  refine lv_istore_n (pc := 1) (lv' := [(2, .int (0 : Int32)), (0, .ref (ad 1)), (1, .ref (sK j))]) hx hb dX0_matchesWord_1 rfl hl (by decide) rfl (fun ls hl => ?_)
  exact hL2 5000 M (0 : Int32) _ _ _ h hP hS (lv_sub hl [1, 2, 0] rfl)
set_option maxRecDepth 100000 in
set_option maxHeartbeats 4000000 in
theorem kX0_matchesLock (hap : Apart 78 ad)   (M : Mem)  (v : Int32) (M' : Mem) (h : fX0_matchesLock M = some (v, M')) : XI G ad sK sV cA cZ cC yX0_matchesLock cX0_matchesLock 1 .boolean ({ frames := 6, cells := 0, slots := 0, locals := 183 } : Room) [.ref (ad 1)] M v M' := by
  refine CI.mk (own := RX0) (ls0 := [(0, .ref (ad 1))]) (by decide +kernel) rfl hap (Nat.le_of_ble_eq_true rfl) rfl ?_
  intro p l e s m args below meth c ls E hP hl
  have hx := E.1
  have hb := E.2.1
  have hown := E.2.2.2.2.2.1
  have hts := E.2.2.2.2.2.2.1
  have hNe := E.2.2.2.2.2.2.2.2.1.1
  have hEx := ExX.ok ad sK sV
  have hS : va_S (AW 78 ad) s.heap s.heap [] := va_S.rf
  unfold fX0_matchesLock at h
  refine lv_aload_n (pc := 0) hx hb dX0_matchesLock_0 rfl (lv_at hl 0 rfl) ?_
  refine x_callVi (pc := 1) (st := .ref (ad 1) :: []) (As := []) E hEx hl.1 hP hS (kX0_signHere hap  M  _ rfl) gX0_45 hdX0_signHere rfl (by decide) sh0 rfl ⟨Nat.le_of_ble_eq_true rfl, Nat.le_of_ble_eq_true rfl⟩ ⟨rfl, rfl⟩ dX0_matchesLock_1 rfl (Nat.le_of_ble_eq_true rfl) (fun H locs hP hS n1 => ?_)
  by_cases c2 : (fX0_signHere M) = (99 : Int32)
  · have h := (if_pos c2).symm.trans h
    refine lv_lookup (pc := 4) (off := 85) (tgt := 89) hx hb dX0_matchesLock_4 (by decide) (by rw [c2]; decide) (by decide) ?_
    refine lv_aload_n (pc := 89) hx hb dX0_matchesLock_89 rfl (lv_at hl 0 rfl) ?_
    refine lv_iconst (pc := 90) (v := (2 : Int32)) hx hb dX0_matchesLock_90 (by decide) ?_
    obtain ⟨M23, hM23, h⟩ := thn_ex h
    refine x_put (pc := 91) (v := (2 : Int32)) E hP hS (by decide) sh0 tyX0 tyX0_ok nmX0 rfl inX0 3 (by decide) q51 rfl rfl rfl (Nat.le_of_ble_eq_true rfl) rfl dX0_matchesLock_91 (fun H locs hP hS => ?_)
    rw [hM23] at hP
    refine lv_aload_n (pc := 94) hx hb dX0_matchesLock_94 rfl (lv_at hl 0 rfl) ?_
    refine x_ldcs (pc := 95) (j := 3) E (by decide) rfl rfl dX0_matchesLock_95 ?_
    obtain ⟨q24, hq24, h⟩ := bnd_ex h
    refine x_callVi (pc := 97) (st := .ref (sK 3) :: .ref (ad 1) :: []) (As := [.ref (sK 3)]) E hEx hl.1 hP hS (kX0_matchesWord hap (by decide) M23  _ _ hq24) gX0_31 hdX0_matchesWord rfl (by decide) sh0 rfl ⟨Nat.le_of_ble_eq_true rfl, Nat.le_of_ble_eq_true rfl⟩ ⟨rfl, rfl⟩ dX0_matchesLock_97 rfl (Nat.le_of_ble_eq_true rfl) (fun H locs hP hS n25 => ?_)
    refine lv_if_eq (pc := 100) (tgt := 116) hx hb dX0_matchesLock_100 (by decide) (fun c26 => ?_) (fun c26 => ?_)
    · have h := (if_pos c26).symm.trans h
      refine lv_iconst (pc := 116) (v := (0 : Int32)) hx hb dX0_matchesLock_116 (by decide) ?_
      obtain ⟨rfl, rfl⟩ := som2 h
      exact x_iret E hP hS rfl dX0_matchesLock_117
    · have h := (if_neg c26).symm.trans h
      refine lv_aload_n (pc := 103) hx hb dX0_matchesLock_103 rfl (lv_at hl 0 rfl) ?_
      refine lv_iconst (pc := 104) (v := (4 : Int32)) hx hb dX0_matchesLock_104 (by decide) ?_
      refine lv_iconst (pc := 105) (v := (4 : Int32)) hx hb dX0_matchesLock_105 (by decide) ?_
      obtain ⟨q27, hq27, h⟩ := bnd_ex h
      refine x_callVi (pc := 106) (st := .int (4 : Int32) :: .int (4 : Int32) :: .ref (ad 1) :: []) (As := [.int (4 : Int32), .int (4 : Int32)]) E hEx hl.1 hP hS (kX0_matchesDigits hap  q24.2 _ _ _ _ hq27) gX0_19 hdX0_matchesDigits rfl (by decide) sh0 rfl ⟨Nat.le_of_ble_eq_true rfl, Nat.le_of_ble_eq_true rfl⟩ ⟨rfl, rfl⟩ dX0_matchesLock_106 rfl (Nat.le_of_ble_eq_true rfl) (fun H locs hP hS n28 => ?_)
      refine lv_if_eq (pc := 109) (tgt := 116) hx hb dX0_matchesLock_109 (by decide) (fun c29 => ?_) (fun c29 => ?_)
      · have h := (if_pos c29).symm.trans h
        refine lv_iconst (pc := 116) (v := (0 : Int32)) hx hb dX0_matchesLock_116 (by decide) ?_
        obtain ⟨rfl, rfl⟩ := som2 h
        exact x_iret E hP hS rfl dX0_matchesLock_117
      · have h := (if_neg c29).symm.trans h
        refine lv_iconst (pc := 112) (v := (1 : Int32)) hx hb dX0_matchesLock_112 (by decide) ?_
        refine lv_goto (pc := 113) (tgt := 117) hx hb dX0_matchesLock_113 (by decide) ?_
        obtain ⟨rfl, rfl⟩ := som2 h
        exact x_iret E hP hS rfl dX0_matchesLock_117
  · have h := (if_neg c2).symm.trans h
    by_cases c3 : (fX0_signHere M) = (107 : Int32)
    · have h := (if_pos c3).symm.trans h
      refine lv_lookup (pc := 4) (off := 56) (tgt := 60) hx hb dX0_matchesLock_4 (by decide) (by rw [c3]; decide) (by decide) ?_
      refine lv_aload_n (pc := 60) hx hb dX0_matchesLock_60 rfl (lv_at hl 0 rfl) ?_
      refine lv_iconst (pc := 61) (v := (1 : Int32)) hx hb dX0_matchesLock_61 (by decide) ?_
      obtain ⟨M16, hM16, h⟩ := thn_ex h
      refine x_put (pc := 62) (v := (1 : Int32)) E hP hS (by decide) sh0 tyX0 tyX0_ok nmX0 rfl inX0 3 (by decide) q51 rfl rfl rfl (Nat.le_of_ble_eq_true rfl) rfl dX0_matchesLock_62 (fun H locs hP hS => ?_)
      rw [hM16] at hP
      refine lv_aload_n (pc := 65) hx hb dX0_matchesLock_65 rfl (lv_at hl 0 rfl) ?_
      refine x_ldcs (pc := 66) (j := 2) E (by decide) rfl rfl dX0_matchesLock_66 ?_
      obtain ⟨q17, hq17, h⟩ := bnd_ex h
      refine x_callVi (pc := 68) (st := .ref (sK 2) :: .ref (ad 1) :: []) (As := [.ref (sK 2)]) E hEx hl.1 hP hS (kX0_matchesWord hap (by decide) M16  _ _ hq17) gX0_31 hdX0_matchesWord rfl (by decide) sh0 rfl ⟨Nat.le_of_ble_eq_true rfl, Nat.le_of_ble_eq_true rfl⟩ ⟨rfl, rfl⟩ dX0_matchesLock_68 rfl (Nat.le_of_ble_eq_true rfl) (fun H locs hP hS n18 => ?_)
      refine lv_if_eq (pc := 71) (tgt := 87) hx hb dX0_matchesLock_71 (by decide) (fun c19 => ?_) (fun c19 => ?_)
      · have h := (if_pos c19).symm.trans h
        refine lv_iconst (pc := 87) (v := (0 : Int32)) hx hb dX0_matchesLock_87 (by decide) ?_
        obtain ⟨rfl, rfl⟩ := som2 h
        exact x_iret E hP hS rfl dX0_matchesLock_88
      · have h := (if_neg c19).symm.trans h
        refine lv_aload_n (pc := 74) hx hb dX0_matchesLock_74 rfl (lv_at hl 0 rfl) ?_
        refine lv_iconst (pc := 75) (v := (1 : Int32)) hx hb dX0_matchesLock_75 (by decide) ?_
        refine lv_iconst (pc := 76) (v := (2 : Int32)) hx hb dX0_matchesLock_76 (by decide) ?_
        obtain ⟨q20, hq20, h⟩ := bnd_ex h
        refine x_callVi (pc := 77) (st := .int (2 : Int32) :: .int (1 : Int32) :: .ref (ad 1) :: []) (As := [.int (1 : Int32), .int (2 : Int32)]) E hEx hl.1 hP hS (kX0_matchesDigits hap  q17.2 _ _ _ _ hq20) gX0_19 hdX0_matchesDigits rfl (by decide) sh0 rfl ⟨Nat.le_of_ble_eq_true rfl, Nat.le_of_ble_eq_true rfl⟩ ⟨rfl, rfl⟩ dX0_matchesLock_77 rfl (Nat.le_of_ble_eq_true rfl) (fun H locs hP hS n21 => ?_)
        refine lv_if_eq (pc := 80) (tgt := 87) hx hb dX0_matchesLock_80 (by decide) (fun c22 => ?_) (fun c22 => ?_)
        · have h := (if_pos c22).symm.trans h
          refine lv_iconst (pc := 87) (v := (0 : Int32)) hx hb dX0_matchesLock_87 (by decide) ?_
          obtain ⟨rfl, rfl⟩ := som2 h
          exact x_iret E hP hS rfl dX0_matchesLock_88
        · have h := (if_neg c22).symm.trans h
          refine lv_iconst (pc := 83) (v := (1 : Int32)) hx hb dX0_matchesLock_83 (by decide) ?_
          refine lv_goto (pc := 84) (tgt := 88) hx hb dX0_matchesLock_84 (by decide) ?_
          obtain ⟨rfl, rfl⟩ := som2 h
          exact x_iret E hP hS rfl dX0_matchesLock_88
    · have h := (if_neg c3).symm.trans h
      by_cases c4 : (fX0_signHere M) = (108 : Int32)
      · have h := (if_pos c4).symm.trans h
        refine lv_lookup (pc := 4) (off := 44) (tgt := 48) hx hb dX0_matchesLock_4 (by decide) (by rw [c4]; decide) (by decide) ?_
        refine lv_aload_n (pc := 48) hx hb dX0_matchesLock_48 rfl (lv_at hl 0 rfl) ?_
        refine lv_iconst (pc := 49) (v := (0 : Int32)) hx hb dX0_matchesLock_49 (by decide) ?_
        obtain ⟨M13, hM13, h⟩ := thn_ex h
        refine x_put (pc := 50) (v := (0 : Int32)) E hP hS (by decide) sh0 tyX0 tyX0_ok nmX0 rfl inX0 3 (by decide) q51 rfl rfl rfl (Nat.le_of_ble_eq_true rfl) rfl dX0_matchesLock_50 (fun H locs hP hS => ?_)
        rw [hM13] at hP
        refine lv_aload_n (pc := 53) hx hb dX0_matchesLock_53 rfl (lv_at hl 0 rfl) ?_
        refine x_ldcs (pc := 54) (j := 1) E (by decide) rfl rfl dX0_matchesLock_54 ?_
        obtain ⟨q14, hq14, h⟩ := bnd_ex h
        refine x_callVi (pc := 56) (st := .ref (sK 1) :: .ref (ad 1) :: []) (As := [.ref (sK 1)]) E hEx hl.1 hP hS (kX0_matchesWord hap (by decide) M13  _ _ hq14) gX0_31 hdX0_matchesWord rfl (by decide) sh0 rfl ⟨Nat.le_of_ble_eq_true rfl, Nat.le_of_ble_eq_true rfl⟩ ⟨rfl, rfl⟩ dX0_matchesLock_56 rfl (Nat.le_of_ble_eq_true rfl) (fun H locs hP hS n15 => ?_)
        obtain ⟨rfl, rfl⟩ := som2 h
        exact x_iret E hP hS n15 dX0_matchesLock_59
      · have h := (if_neg c4).symm.trans h
        by_cases c5 : (fX0_signHere M) = (112 : Int32)
        · have h := (if_pos c5).symm.trans h
          refine lv_lookup (pc := 4) (off := 114) (tgt := 118) hx hb dX0_matchesLock_4 (by decide) (by rw [c5]; decide) (by decide) ?_
          refine lv_aload_n (pc := 118) hx hb dX0_matchesLock_118 rfl (lv_at hl 0 rfl) ?_
          refine lv_iconst (pc := 119) (v := (3 : Int32)) hx hb dX0_matchesLock_119 (by decide) ?_
          obtain ⟨M6, hM6, h⟩ := thn_ex h
          refine x_put (pc := 120) (v := (3 : Int32)) E hP hS (by decide) sh0 tyX0 tyX0_ok nmX0 rfl inX0 3 (by decide) q51 rfl rfl rfl (Nat.le_of_ble_eq_true rfl) rfl dX0_matchesLock_120 (fun H locs hP hS => ?_)
          rw [hM6] at hP
          refine lv_aload_n (pc := 123) hx hb dX0_matchesLock_123 rfl (lv_at hl 0 rfl) ?_
          refine x_ldcs (pc := 124) (j := 4) E (by decide) rfl rfl dX0_matchesLock_124 ?_
          obtain ⟨q7, hq7, h⟩ := bnd_ex h
          refine x_callVi (pc := 126) (st := .ref (sK 4) :: .ref (ad 1) :: []) (As := [.ref (sK 4)]) E hEx hl.1 hP hS (kX0_matchesWord hap (by decide) M6  _ _ hq7) gX0_31 hdX0_matchesWord rfl (by decide) sh0 rfl ⟨Nat.le_of_ble_eq_true rfl, Nat.le_of_ble_eq_true rfl⟩ ⟨rfl, rfl⟩ dX0_matchesLock_126 rfl (Nat.le_of_ble_eq_true rfl) (fun H locs hP hS n8 => ?_)
          refine lv_if_eq (pc := 129) (tgt := 145) hx hb dX0_matchesLock_129 (by decide) (fun c9 => ?_) (fun c9 => ?_)
          · have h := (if_pos c9).symm.trans h
            refine lv_iconst (pc := 145) (v := (0 : Int32)) hx hb dX0_matchesLock_145 (by decide) ?_
            obtain ⟨rfl, rfl⟩ := som2 h
            exact x_iret E hP hS rfl dX0_matchesLock_146
          · have h := (if_neg c9).symm.trans h
            refine lv_aload_n (pc := 132) hx hb dX0_matchesLock_132 rfl (lv_at hl 0 rfl) ?_
            refine lv_iconst (pc := 133) (v := (1 : Int32)) hx hb dX0_matchesLock_133 (by decide) ?_
            refine lv_iconst (pc := 134) (v := (2 : Int32)) hx hb dX0_matchesLock_134 (by decide) ?_
            obtain ⟨q10, hq10, h⟩ := bnd_ex h
            refine x_callVi (pc := 135) (st := .int (2 : Int32) :: .int (1 : Int32) :: .ref (ad 1) :: []) (As := [.int (1 : Int32), .int (2 : Int32)]) E hEx hl.1 hP hS (kX0_matchesDigits hap  q7.2 _ _ _ _ hq10) gX0_19 hdX0_matchesDigits rfl (by decide) sh0 rfl ⟨Nat.le_of_ble_eq_true rfl, Nat.le_of_ble_eq_true rfl⟩ ⟨rfl, rfl⟩ dX0_matchesLock_135 rfl (Nat.le_of_ble_eq_true rfl) (fun H locs hP hS n11 => ?_)
            refine lv_if_eq (pc := 138) (tgt := 145) hx hb dX0_matchesLock_138 (by decide) (fun c12 => ?_) (fun c12 => ?_)
            · have h := (if_pos c12).symm.trans h
              refine lv_iconst (pc := 145) (v := (0 : Int32)) hx hb dX0_matchesLock_145 (by decide) ?_
              obtain ⟨rfl, rfl⟩ := som2 h
              exact x_iret E hP hS rfl dX0_matchesLock_146
            · have h := (if_neg c12).symm.trans h
              refine lv_iconst (pc := 141) (v := (1 : Int32)) hx hb dX0_matchesLock_141 (by decide) ?_
              refine lv_goto (pc := 142) (tgt := 146) hx hb dX0_matchesLock_142 (by decide) ?_
              obtain ⟨rfl, rfl⟩ := som2 h
              exact x_iret E hP hS rfl dX0_matchesLock_146
        · have h := (if_neg c5).symm.trans h
          refine lv_lookup (pc := 4) (off := 143) (tgt := 147) hx hb dX0_matchesLock_4 (by decide) (by have e0 := ne_lit (k := 99) (by decide) c2; have e1 := ne_lit (k := 107) (by decide) c3; have e2 := ne_lit (k := 108) (by decide) c4; have e3 := ne_lit (k := 112) (by decide) c5; simp [Op.lookupswitch.offset, Ne.symm e0, e0, Ne.symm e1, e1, Ne.symm e2, e2, Ne.symm e3, e3]) (by decide) ?_
          refine lv_iconst (pc := 147) (v := (0 : Int32)) hx hb dX0_matchesLock_147 (by decide) ?_
          obtain ⟨rfl, rfl⟩ := som2 h
          exact x_iret E hP hS rfl dX0_matchesLock_148
set_option maxRecDepth 100000 in
set_option maxHeartbeats 4000000 in
theorem kX0_findFault (hap : Apart 78 ad)   (M : Mem)  (v : Int32) (M' : Mem) (h : fX0_findFault M = some (v, M')) : XI G ad sK sV cA cZ cC yX0_findFault cX0_findFault 1 .int ({ frames := 7, cells := 0, slots := 0, locals := 203 } : Room) [.ref (ad 1)] M v M' := by
  refine CI.mk (own := RX0) (ls0 := [(0, .ref (ad 1))]) (by decide +kernel) rfl hap (Nat.le_of_ble_eq_true rfl) rfl ?_
  intro p l e s m args below meth c ls E hP hl
  have hx := E.1
  have hb := E.2.1
  have hown := E.2.2.2.2.2.1
  have hts := E.2.2.2.2.2.2.1
  have hNe := E.2.2.2.2.2.2.2.2.1.1
  have hEx := ExX.ok ad sK sV
  have hS : va_S (AW 78 ad) s.heap s.heap [] := va_S.rf
  unfold fX0_findFault at h
  refine lv_aload_n (pc := 0) hx hb dX0_findFault_0 rfl (lv_at hl 0 rfl) ?_
  refine lv_iconst (pc := 1) (v := (0 : Int32)) hx hb dX0_findFault_1 (by decide) ?_
  obtain ⟨M1, hM1, h⟩ := thn_ex h
  refine x_put (pc := 2) (v := (0 : Int32)) E hP hS (by decide) sh0 tyX0 tyX0_ok nmX0 rfl inX0 5 (by decide) q55 rfl rfl rfl (Nat.le_of_ble_eq_true rfl) rfl dX0_findFault_2 (fun H locs hP hS => ?_)
  rw [hM1] at hP
  refine lv_aload_n (pc := 5) hx hb dX0_findFault_5 rfl (lv_at hl 0 rfl) ?_
  refine lv_iconst (pc := 6) (v := (1 : Int32)) hx hb dX0_findFault_6 (by decide) ?_
  refine lv_iconst (pc := 7) (v := (2 : Int32)) hx hb dX0_findFault_7 (by decide) ?_
  obtain ⟨q2, hq2, h⟩ := bnd_ex h
  refine x_callVi (pc := 8) (st := .int (2 : Int32) :: .int (1 : Int32) :: .ref (ad 1) :: []) (As := [.int (1 : Int32), .int (2 : Int32)]) E hEx hl.1 hP hS (kX0_matchesDigits hap  M1 _ _ _ _ hq2) gX0_19 hdX0_matchesDigits rfl (by decide) sh0 rfl ⟨Nat.le_of_ble_eq_true rfl, Nat.le_of_ble_eq_true rfl⟩ ⟨rfl, rfl⟩ dX0_findFault_8 rfl (Nat.le_of_ble_eq_true rfl) (fun H locs hP hS n3 => ?_)
  refine lv_if_ne (pc := 11) (tgt := 19) hx hb dX0_findFault_11 (by decide) (fun c4 => ?_) (fun c4 => ?_)
  · have h := (if_neg c4).symm.trans h
    refine lv_aload_n (pc := 19) hx hb dX0_findFault_19 rfl (lv_at hl 0 rfl) ?_
    refine lv_aload_n (pc := 20) hx hb dX0_findFault_20 rfl (lv_at hl 0 rfl) ?_
    refine x_get (pc := 21) (v := .int (q2.2 1 6)) E hP (by decide) sh0 rfl inX0 6 (by decide) q56 rfl dX0_findFault_21 ?_
    obtain ⟨M5, hM5, h⟩ := thn_ex h
    refine x_put (pc := 24) (v := (q2.2 1 6)) E hP hS (by decide) sh0 tyX0 tyX0_ok nmX0 rfl inX0 2 (by decide) q49 rfl rfl rfl (Nat.le_of_ble_eq_true rfl) rfl dX0_findFault_24 (fun H locs hP hS => ?_)
    rw [hM5] at hP
    refine lv_aload_n (pc := 27) hx hb dX0_findFault_27 rfl (lv_at hl 0 rfl) ?_
    refine lv_iconst (pc := 28) (v := (0 : Int32)) hx hb dX0_findFault_28 (by decide) ?_
    obtain ⟨M6, hM6, h⟩ := thn_ex h
    refine x_put (pc := 29) (v := (0 : Int32)) E hP hS (by decide) sh0 tyX0 tyX0_ok nmX0 rfl inX0 6 (by decide) q56 rfl rfl rfl (Nat.le_of_ble_eq_true rfl) rfl dX0_findFault_29 (fun H locs hP hS => ?_)
    rw [hM6] at hP
    refine lv_aload_n (pc := 32) hx hb dX0_findFault_32 rfl (lv_at hl 0 rfl) ?_
    refine x_ldcs (pc := 33) (j := 0) E (by decide) rfl rfl dX0_findFault_33 ?_
    obtain ⟨q7, hq7, h⟩ := bnd_ex h
    refine x_callVi (pc := 35) (st := .ref (sK 0) :: .ref (ad 1) :: []) (As := [.ref (sK 0)]) E hEx hl.1 hP hS (kX0_matchesWord hap (by decide) M6  _ _ hq7) gX0_31 hdX0_matchesWord rfl (by decide) sh0 rfl ⟨Nat.le_of_ble_eq_true rfl, Nat.le_of_ble_eq_true rfl⟩ ⟨rfl, rfl⟩ dX0_findFault_35 rfl (Nat.le_of_ble_eq_true rfl) (fun H locs hP hS n8 => ?_)
    refine lv_if_eq (pc := 38) (tgt := 59) hx hb dX0_findFault_38 (by decide) (fun c9 => ?_) (fun c9 => ?_)
    · have h := (if_pos c9).symm.trans h
      refine lv_aload_n (pc := 59) hx hb dX0_findFault_59 rfl (lv_at hl 0 rfl) ?_
      refine x_get (pc := 60) (v := .int (q7.2 1 5)) E hP (by decide) sh0 rfl inX0 5 (by decide) q55 rfl dX0_findFault_60 ?_
      obtain ⟨rfl, rfl⟩ := som2 h
      exact x_iret E hP hS rfl dX0_findFault_63
    · have h := (if_neg c9).symm.trans h
      refine lv_aload_n (pc := 41) hx hb dX0_findFault_41 rfl (lv_at hl 0 rfl) ?_
      obtain ⟨q10, hq10, h⟩ := bnd_ex h
      refine x_callVi (pc := 42) (st := .ref (ad 1) :: []) (As := []) E hEx hl.1 hP hS (kX0_matchesLock hap  q7.2  _ _ hq10) gX0_35 hdX0_matchesLock rfl (by decide) sh0 rfl ⟨Nat.le_of_ble_eq_true rfl, Nat.le_of_ble_eq_true rfl⟩ ⟨rfl, rfl⟩ dX0_findFault_42 rfl (Nat.le_of_ble_eq_true rfl) (fun H locs hP hS n11 => ?_)
      refine lv_if_eq (pc := 45) (tgt := 59) hx hb dX0_findFault_45 (by decide) (fun c12 => ?_) (fun c12 => ?_)
      · have h := (if_pos c12).symm.trans h
        refine lv_aload_n (pc := 59) hx hb dX0_findFault_59 rfl (lv_at hl 0 rfl) ?_
        refine x_get (pc := 60) (v := .int (q10.2 1 5)) E hP (by decide) sh0 rfl inX0 5 (by decide) q55 rfl dX0_findFault_60 ?_
        obtain ⟨rfl, rfl⟩ := som2 h
        exact x_iret E hP hS rfl dX0_findFault_63
      · have h := (if_neg c12).symm.trans h
        refine lv_aload_n (pc := 48) hx hb dX0_findFault_48 rfl (lv_at hl 0 rfl) ?_
        refine x_get (pc := 49) (v := .int (q10.2 1 5)) E hP (by decide) sh0 rfl inX0 5 (by decide) q55 rfl dX0_findFault_49 ?_
        refine lv_aload_n (pc := 52) hx hb dX0_findFault_52 rfl (lv_at hl 0 rfl) ?_
        refine x_get (pc := 53) (v := .int (q10.2 1 1)) E hP (by decide) sh0 rfl inX0 1 (by decide) q48 rfl dX0_findFault_53 ?_
        refine lv_icmp_eq (pc := 56) (tgt := 64) hx hb dX0_findFault_56 (by decide) (fun c13 => ?_) (fun c13 => ?_)
        · have h := (if_pos c13).symm.trans h
          refine lv_aload_n (pc := 64) hx hb dX0_findFault_64 rfl (lv_at hl 0 rfl) ?_
          refine lv_aload_n (pc := 65) hx hb dX0_findFault_65 rfl (lv_at hl 0 rfl) ?_
          refine x_get (pc := 66) (v := .int (q10.2 1 6)) E hP (by decide) sh0 rfl inX0 6 (by decide) q56 rfl dX0_findFault_66 ?_
          obtain ⟨M14, hM14, h⟩ := thn_ex h
          refine x_put (pc := 69) (v := (q10.2 1 6)) E hP hS (by decide) sh0 tyX0 tyX0_ok nmX0 rfl inX0 4 (by decide) q53 rfl rfl rfl (Nat.le_of_ble_eq_true rfl) rfl dX0_findFault_69 (fun H locs hP hS => ?_)
          rw [hM14] at hP
          refine lv_iconst (pc := 72) (v := (-1 : Int32)) hx hb dX0_findFault_72 (by decide) ?_
          obtain ⟨rfl, rfl⟩ := som2 h
          exact x_iret E hP hS rfl dX0_findFault_73
        · have h := (if_neg c13).symm.trans h
          refine lv_aload_n (pc := 59) hx hb dX0_findFault_59 rfl (lv_at hl 0 rfl) ?_
          refine x_get (pc := 60) (v := .int (q10.2 1 5)) E hP (by decide) sh0 rfl inX0 5 (by decide) q55 rfl dX0_findFault_60 ?_
          obtain ⟨rfl, rfl⟩ := som2 h
          exact x_iret E hP hS rfl dX0_findFault_63
  · have h := (if_pos c4).symm.trans h
    refine lv_aload_n (pc := 14) hx hb dX0_findFault_14 rfl (lv_at hl 0 rfl) ?_
    refine x_get (pc := 15) (v := .int (q2.2 1 5)) E hP (by decide) sh0 rfl inX0 5 (by decide) q55 rfl dX0_findFault_15 ?_
    obtain ⟨rfl, rfl⟩ := som2 h
    exact x_iret E hP hS rfl dX0_findFault_18
set_option maxRecDepth 100000 in
set_option maxHeartbeats 4000000 in
theorem kX1_copyFrom (hap : Apart 78 ad) {k : Nat} {k2 : Nat} (hk : GaA k) (hk2 : GaA k2) (M : Mem)  (M' : Mem) (h : fX1_copyFrom k k2 M = some M') : XV G ad sK sV cA cZ cC yX1_copyFrom cX1_copyFrom 2 ({ frames := 0, cells := 0, slots := 0, locals := 0 } : Room) [.ref (ad k), .ref (ad k2)] M M' := by
  refine CV.mk (own := RX1) (ls0 := [(0, .ref (ad k)), (1, .ref (ad k2))]) (by decide +kernel) rfl hap (Nat.le_of_ble_eq_true rfl) rfl ?_
  intro p l e s m args below meth c ls E hP hl
  have hx := E.1
  have hb := E.2.1
  have hown := E.2.2.2.2.2.1
  have hts := E.2.2.2.2.2.2.1
  have hNe := E.2.2.2.2.2.2.2.2.1.1
  have hEx := ExX.ok ad sK sV
  have hS : va_S (AW 78 ad) s.heap s.heap [] := va_S.rf
  unfold fX1_copyFrom at h
  refine lv_aload_n (pc := 0) hx hb dX1_copyFrom_0 rfl (lv_at hl 0 rfl) ?_
  refine lv_aload_n (pc := 1) hx hb dX1_copyFrom_1 rfl (lv_at hl 1 rfl) ?_
  refine x_get (pc := 2) (v := .int (bz (M k2 0))) E hP (GaA.lt hk2) (sh1 hk2) rfl inX1 0 (by decide) q183 rfl dX1_copyFrom_2 ?_
  obtain ⟨M1, hM1, h⟩ := thn_ex h
  refine x_put (pc := 5) (v := (bz (M k2 0))) E hP hS (GaA.lt hk) (sh1 hk) tyX1 tyX1_ok nmX1 rfl inX1 0 (by decide) q183 rfl (bz_nar _) (bz_fit _) (Nat.le_of_ble_eq_true rfl) (by simp [upd, bz_bz]) dX1_copyFrom_5 (fun H locs hP hS => ?_)
  rw [hM1] at hP
  refine lv_aload_n (pc := 8) hx hb dX1_copyFrom_8 rfl (lv_at hl 0 rfl) ?_
  refine lv_aload_n (pc := 9) hx hb dX1_copyFrom_9 rfl (lv_at hl 1 rfl) ?_
  refine x_get (pc := 10) (v := .int (M1 k2 1)) E hP (GaA.lt hk2) (sh1 hk2) rfl inX1 1 (by decide) q186 rfl dX1_copyFrom_10 ?_
  obtain ⟨M2, hM2, h⟩ := thn_ex h
  refine x_put (pc := 13) (v := (M1 k2 1)) E hP hS (GaA.lt hk) (sh1 hk) tyX1 tyX1_ok nmX1 rfl inX1 1 (by decide) q186 rfl rfl rfl (Nat.le_of_ble_eq_true rfl) rfl dX1_copyFrom_13 (fun H locs hP hS => ?_)
  rw [hM2] at hP
  refine lv_aload_n (pc := 16) hx hb dX1_copyFrom_16 rfl (lv_at hl 0 rfl) ?_
  refine lv_aload_n (pc := 17) hx hb dX1_copyFrom_17 rfl (lv_at hl 1 rfl) ?_
  refine x_get (pc := 18) (v := .int (M2 k2 2)) E hP (GaA.lt hk2) (sh1 hk2) rfl inX1 2 (by decide) q190 rfl dX1_copyFrom_18 ?_
  obtain ⟨M3, hM3, h⟩ := thn_ex h
  refine x_put (pc := 21) (v := (M2 k2 2)) E hP hS (GaA.lt hk) (sh1 hk) tyX1 tyX1_ok nmX1 rfl inX1 2 (by decide) q190 rfl rfl rfl (Nat.le_of_ble_eq_true rfl) rfl dX1_copyFrom_21 (fun H locs hP hS => ?_)
  rw [hM3] at hP
  refine lv_aload_n (pc := 24) hx hb dX1_copyFrom_24 rfl (lv_at hl 0 rfl) ?_
  refine lv_aload_n (pc := 25) hx hb dX1_copyFrom_25 rfl (lv_at hl 1 rfl) ?_
  refine x_get (pc := 26) (v := .int (M3 k2 3)) E hP (GaA.lt hk2) (sh1 hk2) rfl inX1 3 (by decide) q193 rfl dX1_copyFrom_26 ?_
  obtain ⟨M4, hM4, h⟩ := thn_ex h
  refine x_put (pc := 29) (v := (M3 k2 3)) E hP hS (GaA.lt hk) (sh1 hk) tyX1 tyX1_ok nmX1 rfl inX1 3 (by decide) q193 rfl rfl rfl (Nat.le_of_ble_eq_true rfl) rfl dX1_copyFrom_29 (fun H locs hP hS => ?_)
  rw [hM4] at hP
  refine lv_aload_n (pc := 32) hx hb dX1_copyFrom_32 rfl (lv_at hl 0 rfl) ?_
  refine lv_aload_n (pc := 33) hx hb dX1_copyFrom_33 rfl (lv_at hl 1 rfl) ?_
  refine x_get (pc := 34) (v := .int (M4 k2 4)) E hP (GaA.lt hk2) (sh1 hk2) rfl inX1 4 (by decide) q197 rfl dX1_copyFrom_34 ?_
  obtain ⟨M5, hM5, h⟩ := thn_ex h
  refine x_put (pc := 37) (v := (M4 k2 4)) E hP hS (GaA.lt hk) (sh1 hk) tyX1 tyX1_ok nmX1 rfl inX1 4 (by decide) q197 rfl rfl rfl (Nat.le_of_ble_eq_true rfl) rfl dX1_copyFrom_37 (fun H locs hP hS => ?_)
  rw [hM5] at hP
  refine lv_aload_n (pc := 40) hx hb dX1_copyFrom_40 rfl (lv_at hl 0 rfl) ?_
  refine lv_aload_n (pc := 41) hx hb dX1_copyFrom_41 rfl (lv_at hl 1 rfl) ?_
  refine x_get (pc := 42) (v := .int (M5 k2 5)) E hP (GaA.lt hk2) (sh1 hk2) rfl inX1 5 (by decide) q201 rfl dX1_copyFrom_42 ?_
  obtain ⟨M6, hM6, h⟩ := thn_ex h
  refine x_put (pc := 45) (v := (M5 k2 5)) E hP hS (GaA.lt hk) (sh1 hk) tyX1 tyX1_ok nmX1 rfl inX1 5 (by decide) q201 rfl rfl rfl (Nat.le_of_ble_eq_true rfl) rfl dX1_copyFrom_45 (fun H locs hP hS => ?_)
  rw [hM6] at hP
  refine lv_aload_n (pc := 48) hx hb dX1_copyFrom_48 rfl (lv_at hl 0 rfl) ?_
  refine lv_aload_n (pc := 49) hx hb dX1_copyFrom_49 rfl (lv_at hl 1 rfl) ?_
  refine x_get (pc := 50) (v := .int (M6 k2 6)) E hP (GaA.lt hk2) (sh1 hk2) rfl inX1 6 (by decide) q204 rfl dX1_copyFrom_50 ?_
  obtain ⟨M7, hM7, h⟩ := thn_ex h
  refine x_put (pc := 53) (v := (M6 k2 6)) E hP hS (GaA.lt hk) (sh1 hk) tyX1 tyX1_ok nmX1 rfl inX1 6 (by decide) q204 rfl rfl rfl (Nat.le_of_ble_eq_true rfl) rfl dX1_copyFrom_53 (fun H locs hP hS => ?_)
  rw [hM7] at hP
  obtain rfl := som1 h
  exact x_vret E hP hS dX1_copyFrom_56
set_option maxRecDepth 100000 in
set_option maxHeartbeats 4000000 in
theorem kX2_copyFrom (hap : Apart 78 ad) {k : Nat} {k2 : Nat} (hk : LoA k) (hk2 : LoA k2) (M : Mem)  (M' : Mem) (h : fX2_copyFrom k k2 M = some M') : XV G ad sK sV cA cZ cC yX2_copyFrom cX2_copyFrom 3 ({ frames := 1, cells := 0, slots := 0, locals := 22 } : Room) [.ref (ad k), .ref (ad k2)] M M' := by
  refine CV.mk (own := RX2) (ls0 := [(0, .ref (ad k)), (1, .ref (ad k2))]) (by decide +kernel) rfl hap (Nat.le_of_ble_eq_true rfl) rfl ?_
  intro p l e s m args below meth c ls E hP hl
  have hx := E.1
  have hb := E.2.1
  have hown := E.2.2.2.2.2.1
  have hts := E.2.2.2.2.2.2.1
  have hNe := E.2.2.2.2.2.2.2.2.1.1
  have hEx := ExX.ok ad sK sV
  have hS : va_S (AW 78 ad) s.heap s.heap [] := va_S.rf
  have hL10 : ∀ (n : Nat) (M : Mem) (x2 : Int32) (H : Heap) (locs : List Loc) (ls : Array Slot), fX2_copyFrom_L10 k k2 n M x2 = some M' → va_P G vwCl (WW 78 (shX cA ad) ad M) H → va_S (AW 78 ad) s.heap H locs → lv_has ls 3 [(0, .ref (ad k)), (1, .ref (ad k2)), (2, .int x2)] → W p l e ({ frames := 1, cells := 0, slots := 0, locals := 22 } : Room) s m args below meth c H locs 0 0 (QV below G 78 (shX cA ad) ad args s M') (F0 m 10 ls []) := by
    intro n
    induction n with
    | zero => intro M x2 H locs ls h; cases h
    | succ n ih =>
      intro M x2 H locs ls h hP hS hl
      rw [fX2_copyFrom_L10] at h
      refine lv_iload_n (pc := 10) hx hb dX2_copyFrom_10 rfl (lv_at hl 2 rfl) ?_
      refine lv_aload_n (pc := 11) hx hb dX2_copyFrom_11 rfl (lv_at hl 0 rfl) ?_
      refine x_get (pc := 12) (v := .int (M k 0)) E hP (LoA.lt hk) (sh2 hk) rfl inX2 0 (by decide) q243 rfl dX2_copyFrom_12 ?_
      refine lv_icmp_ge (pc := 15) (tgt := 40) hx hb dX2_copyFrom_15 (by decide) (fun c2 => ?_) (fun c2 => ?_)
      · have h := (if_pos c2).symm.trans h
        obtain rfl := som1 h
        exact x_vret E hP hS dX2_copyFrom_40
      · have h := (if_neg c2).symm.trans h
        refine lv_aload_n (pc := 18) hx hb dX2_copyFrom_18 rfl (lv_at hl 0 rfl) ?_
        refine x_get (pc := 19) (v := .ref (ad (k + 1))) E hP (LoA.lt hk) (sh2 hk) rfl inX2 1 (by decide) q246 rfl dX2_copyFrom_19 ?_
        refine lv_iload_n (pc := 22) hx hb dX2_copyFrom_22 rfl (lv_at hl 2 rfl) ?_
        refine lv_aload_n (pc := 23) hx hb dX2_copyFrom_23 rfl (lv_at hl 1 rfl) ?_
        refine x_get (pc := 24) (v := .ref (ad (k2 + 1))) E hP (LoA.lt hk2) (sh2 hk2) rfl inX2 1 (by decide) q246 rfl dX2_copyFrom_24 ?_
        refine lv_iload_n (pc := 27) hx hb dX2_copyFrom_27 rfl (lv_at hl 2 rfl) ?_
        refine x_callNi (pc := 28) (st := .int x2 :: .ref (ad (k2 + 1)) :: .int x2 :: .ref (ad (k + 1)) :: []) (As := [.ref (ad (k2 + 1)), .int x2]) E hEx hl.1 hP hS (c_at hap M (lt2a1 hk2) (sh2a1 hk2) (by decide) _ _ rfl) gcX7_at (hNe _ nw22) q17 q320 hsX7_at rfl ⟨Nat.le_of_ble_eq_true rfl, Nat.le_of_ble_eq_true rfl⟩ ⟨rfl, rfl⟩ dX2_copyFrom_28 rfl (Nat.le_of_ble_eq_true rfl) (fun H locs hP hS n3 => ?_)
        obtain ⟨M4, hM4, h⟩ := thn_ex h
        refine x_callNv (pc := 31) (st := .int (atX M (k2 + 1) 2048 x2) :: .int x2 :: .ref (ad (k + 1)) :: []) (As := [.ref (ad (k + 1)), .int x2, .int (atX M (k2 + 1) 2048 x2)]) E hEx hl.1 hP hS (c_put hap M (lt2a1 hk) (sh2a1 hk) (by decide) _ _ _ hM4) gcX7_put (hNe _ nw15) q17 q86 hsX7_put rfl ⟨Nat.le_of_ble_eq_true rfl, Nat.le_of_ble_eq_true rfl⟩ ⟨rfl, rfl⟩ dX2_copyFrom_31 rfl (Nat.le_of_ble_eq_true rfl) (fun H locs hP hS => ?_)
        refine lv_iinc (pc := 34) (v := (x2 + 1)) (lv' := [(2, .int (x2 + 1)), (0, .ref (ad k)), (1, .ref (ad k2))]) hx hb dX2_copyFrom_34 hl (k := 2) rfl rfl (by decide) rfl (fun ls hl => ?_)
        refine lv_goto (pc := 37) (tgt := 10) hx hb dX2_copyFrom_37 (by decide) ?_
        exact ih M4 (x2 + 1) _ _ _ h hP hS (lv_sub hl [1, 2, 0] rfl)
  unfold fX2_copyFrom at h
  refine lv_aload_n (pc := 0) hx hb dX2_copyFrom_0 rfl (lv_at hl 0 rfl) ?_
  refine lv_aload_n (pc := 1) hx hb dX2_copyFrom_1 rfl (lv_at hl 1 rfl) ?_
  refine x_get (pc := 2) (v := .int (M k2 0)) E hP (LoA.lt hk2) (sh2 hk2) rfl inX2 0 (by decide) q243 rfl dX2_copyFrom_2 ?_
  obtain ⟨M1, hM1, h⟩ := thn_ex h
  refine x_put (pc := 5) (v := (M k2 0)) E hP hS (LoA.lt hk) (sh2 hk) tyX2 tyX2_ok nmX2 rfl inX2 0 (by decide) q243 rfl rfl rfl (Nat.le_of_ble_eq_true rfl) rfl dX2_copyFrom_5 (fun H locs hP hS => ?_)
  rw [hM1] at hP
  refine lv_iconst (pc := 8) (v := (0 : Int32)) hx hb dX2_copyFrom_8 (by decide) ?_
  refine lv_istore_n (pc := 9) (lv' := [(2, .int (0 : Int32)), (0, .ref (ad k)), (1, .ref (ad k2))]) hx hb dX2_copyFrom_9 rfl hl (by decide) rfl (fun ls hl => ?_)
  exact hL10 5000 M1 (0 : Int32) _ _ _ h hP hS (lv_sub hl [1, 2, 0] rfl)
set_option maxRecDepth 100000 in
set_option maxHeartbeats 4000000 in
theorem kX2_appendSign (hap : Apart 78 ad) {k : Nat} (hk : LoA k) (M : Mem) (x1 : Int32) (M' : Mem) (h : fX2_appendSign k M x1 = some M') : XV G ad sK sV cA cZ cC yX2_appendSign cX2_appendSign 2 ({ frames := 1, cells := 0, slots := 0, locals := 22 } : Room) [.ref (ad k), .int x1] M M' := by
  refine CV.mk (own := RX2) (ls0 := [(0, .ref (ad k)), (1, .int x1)]) (by decide +kernel) rfl hap (Nat.le_of_ble_eq_true rfl) rfl ?_
  intro p l e s m args below meth c ls E hP hl
  have hx := E.1
  have hb := E.2.1
  have hown := E.2.2.2.2.2.1
  have hts := E.2.2.2.2.2.2.1
  have hNe := E.2.2.2.2.2.2.2.2.1.1
  have hEx := ExX.ok ad sK sV
  have hS : va_S (AW 78 ad) s.heap s.heap [] := va_S.rf
  unfold fX2_appendSign at h
  refine lv_aload_n (pc := 0) hx hb dX2_appendSign_0 rfl (lv_at hl 0 rfl) ?_
  refine x_get (pc := 1) (v := .int (M k 0)) E hP (LoA.lt hk) (sh2 hk) rfl inX2 0 (by decide) q243 rfl dX2_appendSign_1 ?_
  refine lv_sipush (pc := 4) (v := (2048 : Int32)) hx hb dX2_appendSign_4 (by decide) ?_
  refine lv_icmp_ge (pc := 7) (tgt := 32) hx hb dX2_appendSign_7 (by decide) (fun c1 => ?_) (fun c1 => ?_)
  · have h := (if_pos c1).symm.trans h
    obtain rfl := som1 h
    exact x_vret E hP hS dX2_appendSign_32
  · have h := (if_neg c1).symm.trans h
    refine lv_aload_n (pc := 10) hx hb dX2_appendSign_10 rfl (lv_at hl 0 rfl) ?_
    refine x_get (pc := 11) (v := .ref (ad (k + 1))) E hP (LoA.lt hk) (sh2 hk) rfl inX2 1 (by decide) q246 rfl dX2_appendSign_11 ?_
    refine lv_aload_n (pc := 14) hx hb dX2_appendSign_14 rfl (lv_at hl 0 rfl) ?_
    refine x_get (pc := 15) (v := .int (M k 0)) E hP (LoA.lt hk) (sh2 hk) rfl inX2 0 (by decide) q243 rfl dX2_appendSign_15 ?_
    refine lv_iload_n (pc := 18) hx hb dX2_appendSign_18 rfl (lv_at hl 1 rfl) ?_
    obtain ⟨M2, hM2, h⟩ := thn_ex h
    refine x_callNv (pc := 19) (st := .int x1 :: .int (M k 0) :: .ref (ad (k + 1)) :: []) (As := [.ref (ad (k + 1)), .int (M k 0), .int x1]) E hEx hl.1 hP hS (c_put hap M (lt2a1 hk) (sh2a1 hk) (by decide) _ _ _ hM2) gcX7_put (hNe _ nw15) q17 q86 hsX7_put rfl ⟨Nat.le_of_ble_eq_true rfl, Nat.le_of_ble_eq_true rfl⟩ ⟨rfl, rfl⟩ dX2_appendSign_19 rfl (Nat.le_of_ble_eq_true rfl) (fun H locs hP hS => ?_)
    refine lv_aload_n (pc := 22) hx hb dX2_appendSign_22 rfl (lv_at hl 0 rfl) ?_
    refine lv_dup (pc := 23) hx hb dX2_appendSign_23 rfl ?_
    refine x_get (pc := 24) (v := .int (M2 k 0)) E hP (LoA.lt hk) (sh2 hk) rfl inX2 0 (by decide) q243 rfl dX2_appendSign_24 ?_
    refine lv_iconst (pc := 27) (v := (1 : Int32)) hx hb dX2_appendSign_27 (by decide) ?_
    refine lv_iadd (pc := 28) hx hb dX2_appendSign_28 ?_
    obtain ⟨M3, hM3, h⟩ := thn_ex h
    refine x_put (pc := 29) (v := ((M2 k 0) + (1 : Int32))) E hP hS (LoA.lt hk) (sh2 hk) tyX2 tyX2_ok nmX2 rfl inX2 0 (by decide) q243 rfl rfl rfl (Nat.le_of_ble_eq_true rfl) rfl dX2_appendSign_29 (fun H locs hP hS => ?_)
    rw [hM3] at hP
    obtain rfl := som1 h
    exact x_vret E hP hS dX2_appendSign_32
set_option maxRecDepth 100000 in
set_option maxHeartbeats 4000000 in
theorem kX2_appendNumber (hap : Apart 78 ad) {k : Nat} (hk : LoA k) (M : Mem) (x1 : Int32) (M' : Mem) (h : fX2_appendNumber k M x1 = some M') : XV G ad sK sV cA cZ cC yX2_appendNumber cX2_appendNumber 3 ({ frames := 2, cells := 0, slots := 0, locals := 43 } : Room) [.ref (ad k), .int x1] M M' := by
  refine CV.mk (own := RX2) (ls0 := [(0, .ref (ad k)), (1, .int x1)]) (by decide +kernel) rfl hap (Nat.le_of_ble_eq_true rfl) rfl ?_
  intro p l e s m args below meth c ls E hP hl
  have hx := E.1
  have hb := E.2.1
  have hown := E.2.2.2.2.2.1
  have hts := E.2.2.2.2.2.2.1
  have hNe := E.2.2.2.2.2.2.2.2.1.1
  have hEx := ExX.ok ad sK sV
  have hS : va_S (AW 78 ad) s.heap s.heap [] := va_S.rf
  have hL3 : ∀ (n : Nat) (M : Mem) (x1 x2 : Int32) (H : Heap) (locs : List Loc) (ls : Array Slot), fX2_appendNumber_L3 k n M x1 x2 = some M' → va_P G vwCl (WW 78 (shX cA ad) ad M) H → va_S (AW 78 ad) s.heap H locs → lv_has ls 3 [(0, .ref (ad k)), (1, .int x1), (2, .int x2)] → W p l e ({ frames := 2, cells := 0, slots := 0, locals := 43 } : Room) s m args below meth c H locs 0 0 (QV below G 78 (shX cA ad) ad args s M') (F0 m 3 ls []) := by
    intro n
    induction n with
    | zero => intro M x1 x2 H locs ls h; cases h
    | succ n ih =>
      intro M x1 x2 H locs ls h hP hS hl
      rw [fX2_appendNumber_L3] at h
      refine lv_iload_n (pc := 3) hx hb dX2_appendNumber_3 rfl (lv_at hl 2 rfl) ?_
      refine lv_if_le (pc := 4) (tgt := 38) hx hb dX2_appendNumber_4 (by decide) (fun c1 => ?_) (fun c1 => ?_)
      · have h := (if_pos c1).symm.trans h
        obtain rfl := som1 h
        exact x_vret E hP hS dX2_appendNumber_38
      · have h := (if_neg c1).symm.trans h
        refine lv_iload_n (pc := 7) hx hb dX2_appendNumber_7 rfl (lv_at hl 1 rfl) ?_
        refine lv_iload_n (pc := 8) hx hb dX2_appendNumber_8 rfl (lv_at hl 2 rfl) ?_
        refine lv_icmp_ge (pc := 9) (tgt := 17) hx hb dX2_appendNumber_9 (by decide) (fun c2 => ?_) (fun c2 => ?_)
        · have h := (if_pos c2).symm.trans h
          refine lv_aload_n (pc := 17) hx hb dX2_appendNumber_17 rfl (lv_at hl 0 rfl) ?_
          refine lv_bipush (pc := 18) (v := (48 : Int32)) hx hb dX2_appendNumber_18 (by decide) ?_
          refine lv_iload_n (pc := 20) hx hb dX2_appendNumber_20 rfl (lv_at hl 1 rfl) ?_
          refine lv_iload_n (pc := 21) hx hb dX2_appendNumber_21 rfl (lv_at hl 2 rfl) ?_
          obtain ⟨c3, h⟩ := ite_some h
          refine lv_idiv (pc := 22) hx hb dX2_appendNumber_22 c3 ?_
          refine lv_bipush (pc := 23) (v := (10 : Int32)) hx hb dX2_appendNumber_23 (by decide) ?_
          refine x_irem (pc := 25) hx hb dX2_appendNumber_25 (by decide) ?_
          refine lv_iadd (pc := 26) hx hb dX2_appendNumber_26 ?_
          obtain ⟨M4, hM4, h⟩ := bnd_ex h
          refine x_callVv (pc := 27) (st := .int ((48 : Int32) + (irm (x1 / x2) (10 : Int32))) :: .ref (ad k) :: []) (As := [.int ((48 : Int32) + (irm (x1 / x2) (10 : Int32)))]) E hEx hl.1 hP hS (kX2_appendSign hap hk M _ _ hM4) gX2_31 hdX2_appendSign rfl (LoA.lt hk) (sh2 hk) rfl ⟨Nat.le_of_ble_eq_true rfl, Nat.le_of_ble_eq_true rfl⟩ ⟨rfl, rfl⟩ dX2_appendNumber_27 rfl (Nat.le_of_ble_eq_true rfl) (fun H locs hP hS => ?_)
          refine lv_iload_n (pc := 30) hx hb dX2_appendNumber_30 rfl (lv_at hl 2 rfl) ?_
          refine lv_bipush (pc := 31) (v := (10 : Int32)) hx hb dX2_appendNumber_31 (by decide) ?_
          refine lv_idiv (pc := 33) hx hb dX2_appendNumber_33 (by decide) ?_
          refine lv_istore_n (pc := 34) (lv' := [(2, .int (x2 / (10 : Int32))), (0, .ref (ad k)), (1, .int x1)]) hx hb dX2_appendNumber_34 rfl hl (by decide) rfl (fun ls hl => ?_)
          refine lv_goto (pc := 35) (tgt := 3) hx hb dX2_appendNumber_35 (by decide) ?_
          exact ih M4 x1 (x2 / (10 : Int32)) _ _ _ h hP hS (lv_sub hl [1, 2, 0] rfl)
        · have h := (if_neg c2).symm.trans h
          refine lv_iload_n (pc := 12) hx hb dX2_appendNumber_12 rfl (lv_at hl 2 rfl) ?_
          refine lv_iconst (pc := 13) (v := (1 : Int32)) hx hb dX2_appendNumber_13 (by decide) ?_
          refine lv_icmp_ne (pc := 14) (tgt := 30) hx hb dX2_appendNumber_14 (by decide) (fun c5 => ?_) (fun c5 => ?_)
          · have h := (if_neg c5).symm.trans h
            refine lv_iload_n (pc := 30) hx hb dX2_appendNumber_30 rfl (lv_at hl 2 rfl) ?_
            refine lv_bipush (pc := 31) (v := (10 : Int32)) hx hb dX2_appendNumber_31 (by decide) ?_
            refine lv_idiv (pc := 33) hx hb dX2_appendNumber_33 (by decide) ?_
            refine lv_istore_n (pc := 34) (lv' := [(2, .int (x2 / (10 : Int32))), (0, .ref (ad k)), (1, .int x1)]) hx hb dX2_appendNumber_34 rfl hl (by decide) rfl (fun ls hl => ?_)
            refine lv_goto (pc := 35) (tgt := 3) hx hb dX2_appendNumber_35 (by decide) ?_
            exact ih M x1 (x2 / (10 : Int32)) _ _ _ h hP hS (lv_sub hl [1, 2, 0] rfl)
          · have h := (if_pos c5).symm.trans h
            refine lv_aload_n (pc := 17) hx hb dX2_appendNumber_17 rfl (lv_at hl 0 rfl) ?_
            refine lv_bipush (pc := 18) (v := (48 : Int32)) hx hb dX2_appendNumber_18 (by decide) ?_
            refine lv_iload_n (pc := 20) hx hb dX2_appendNumber_20 rfl (lv_at hl 1 rfl) ?_
            refine lv_iload_n (pc := 21) hx hb dX2_appendNumber_21 rfl (lv_at hl 2 rfl) ?_
            obtain ⟨c6, h⟩ := ite_some h
            refine lv_idiv (pc := 22) hx hb dX2_appendNumber_22 c6 ?_
            refine lv_bipush (pc := 23) (v := (10 : Int32)) hx hb dX2_appendNumber_23 (by decide) ?_
            refine x_irem (pc := 25) hx hb dX2_appendNumber_25 (by decide) ?_
            refine lv_iadd (pc := 26) hx hb dX2_appendNumber_26 ?_
            obtain ⟨M7, hM7, h⟩ := bnd_ex h
            refine x_callVv (pc := 27) (st := .int ((48 : Int32) + (irm (x1 / x2) (10 : Int32))) :: .ref (ad k) :: []) (As := [.int ((48 : Int32) + (irm (x1 / x2) (10 : Int32)))]) E hEx hl.1 hP hS (kX2_appendSign hap hk M _ _ hM7) gX2_31 hdX2_appendSign rfl (LoA.lt hk) (sh2 hk) rfl ⟨Nat.le_of_ble_eq_true rfl, Nat.le_of_ble_eq_true rfl⟩ ⟨rfl, rfl⟩ dX2_appendNumber_27 rfl (Nat.le_of_ble_eq_true rfl) (fun H locs hP hS => ?_)
            refine lv_iload_n (pc := 30) hx hb dX2_appendNumber_30 rfl (lv_at hl 2 rfl) ?_
            refine lv_bipush (pc := 31) (v := (10 : Int32)) hx hb dX2_appendNumber_31 (by decide) ?_
            refine lv_idiv (pc := 33) hx hb dX2_appendNumber_33 (by decide) ?_
            refine lv_istore_n (pc := 34) (lv' := [(2, .int (x2 / (10 : Int32))), (0, .ref (ad k)), (1, .int x1)]) hx hb dX2_appendNumber_34 rfl hl (by decide) rfl (fun ls hl => ?_)
            refine lv_goto (pc := 35) (tgt := 3) hx hb dX2_appendNumber_35 (by decide) ?_
            exact ih M7 x1 (x2 / (10 : Int32)) _ _ _ h hP hS (lv_sub hl [1, 2, 0] rfl)
  unfold fX2_appendNumber at h
  refine lv_ldc (pc := 0) (v := (100000 : Int32)) hx hb hown (hts _ q739) dX2_appendNumber_0 ?_
  refine lv_istore_n (pc := 2) (lv' := [(2, .int (100000 : Int32)), (0, .ref (ad k)), (1, .int x1)]) hx hb dX2_appendNumber_2 rfl hl (by decide) rfl (fun ls hl => ?_)
  exact hL3 5000 M x1 (100000 : Int32) _ _ _ h hP hS (lv_sub hl [1, 2, 0] rfl)
set_option maxRecDepth 100000 in
set_option maxHeartbeats 4000000 in
theorem kX2_appendArgument (hap : Apart 78 ad) {k : Nat} (hk : LoA k) (M : Mem) (x1 : Int32) (M' : Mem) (h : fX2_appendArgument k M x1 = some M') : XV G ad sK sV cA cZ cC yX2_appendArgument cX2_appendArgument 2 ({ frames := 3, cells := 0, slots := 0, locals := 65 } : Room) [.ref (ad k), .int x1] M M' := by
  refine CV.mk (own := RX2) (ls0 := [(0, .ref (ad k)), (1, .int x1)]) (by decide +kernel) rfl hap (Nat.le_of_ble_eq_true rfl) rfl ?_
  intro p l e s m args below meth c ls E hP hl
  have hx := E.1
  have hb := E.2.1
  have hown := E.2.2.2.2.2.1
  have hts := E.2.2.2.2.2.2.1
  have hNe := E.2.2.2.2.2.2.2.2.1.1
  have hEx := ExX.ok ad sK sV
  have hS : va_S (AW 78 ad) s.heap s.heap [] := va_S.rf
  unfold fX2_appendArgument at h
  refine lv_iload_n (pc := 0) hx hb dX2_appendArgument_0 rfl (lv_at hl 1 rfl) ?_
  refine lv_iconst (pc := 1) (v := (-1 : Int32)) hx hb dX2_appendArgument_1 (by decide) ?_
  refine lv_icmp_eq (pc := 2) (tgt := 16) hx hb dX2_appendArgument_2 (by decide) (fun c1 => ?_) (fun c1 => ?_)
  · have h := (if_pos c1).symm.trans h
    obtain rfl := som1 h
    exact x_vret E hP hS dX2_appendArgument_16
  · have h := (if_neg c1).symm.trans h
    refine lv_aload_n (pc := 5) hx hb dX2_appendArgument_5 rfl (lv_at hl 0 rfl) ?_
    refine lv_bipush (pc := 6) (v := (32 : Int32)) hx hb dX2_appendArgument_6 (by decide) ?_
    obtain ⟨M2, hM2, h⟩ := bnd_ex h
    refine x_callVv (pc := 8) (st := .int (32 : Int32) :: .ref (ad k) :: []) (As := [.int (32 : Int32)]) E hEx hl.1 hP hS (kX2_appendSign hap hk M _ _ hM2) gX2_31 hdX2_appendSign rfl (LoA.lt hk) (sh2 hk) rfl ⟨Nat.le_of_ble_eq_true rfl, Nat.le_of_ble_eq_true rfl⟩ ⟨rfl, rfl⟩ dX2_appendArgument_8 rfl (Nat.le_of_ble_eq_true rfl) (fun H locs hP hS => ?_)
    refine lv_aload_n (pc := 11) hx hb dX2_appendArgument_11 rfl (lv_at hl 0 rfl) ?_
    refine lv_iload_n (pc := 12) hx hb dX2_appendArgument_12 rfl (lv_at hl 1 rfl) ?_
    obtain ⟨M3, hM3, h⟩ := bnd_ex h
    refine x_callVv (pc := 13) (st := .int x1 :: .ref (ad k) :: []) (As := [.int x1]) E hEx hl.1 hP hS (kX2_appendNumber hap hk M2 _ _ hM3) gX2_27 hdX2_appendNumber rfl (LoA.lt hk) (sh2 hk) rfl ⟨Nat.le_of_ble_eq_true rfl, Nat.le_of_ble_eq_true rfl⟩ ⟨rfl, rfl⟩ dX2_appendArgument_13 rfl (Nat.le_of_ble_eq_true rfl) (fun H locs hP hS => ?_)
    obtain rfl := som1 h
    exact x_vret E hP hS dX2_appendArgument_16
set_option maxRecDepth 100000 in
set_option maxHeartbeats 4000000 in
theorem kX2_append (hap : Apart 78 ad) {k : Nat} {j : Nat} (hk : LoA k) (hj : j < 13) (M : Mem) (x1 x3 x4 : Int32) (M' : Mem) (h : fX2_append k j M x1 x3 x4 = some M') : XV G ad sK sV cA cZ cC yX2_append cX2_append 6 ({ frames := 5, cells := 0, slots := 0, locals := 161 } : Room) [.ref (ad k), .int x1, .ref (sK j), .int x3, .int x4] M M' := by
  refine CV.mk (own := RX2) (ls0 := [(0, .ref (ad k)), (1, .int x1), (2, .ref (sK j)), (3, .int x3), (4, .int x4)]) (by decide +kernel) rfl hap (Nat.le_of_ble_eq_true rfl) rfl ?_
  intro p l e s m args below meth c ls E hP hl
  have hx := E.1
  have hb := E.2.1
  have hown := E.2.2.2.2.2.1
  have hts := E.2.2.2.2.2.2.1
  have hNe := E.2.2.2.2.2.2.2.2.1.1
  have hEx := ExX.ok ad sK sV
  have hS : va_S (AW 78 ad) s.heap s.heap [] := va_S.rf
  have hL14 : ∀ (n : Nat) (M : Mem) (x3 x4 x5 : Int32) (H : Heap) (locs : List Loc) (ls : Array Slot), fX2_append_L14 k j n M x3 x4 x5 = some M' → va_P G vwCl (WW 78 (shX cA ad) ad M) H → va_S (AW 78 ad) s.heap H locs → lv_has ls 6 [(0, .ref (ad k)), (2, .ref (sK j)), (3, .int x3), (4, .int x4), (5, .int x5)] → W p l e ({ frames := 5, cells := 0, slots := 0, locals := 161 } : Room) s m args below meth c H locs 0 0 (QV below G 78 (shX cA ad) ad args s M') (F0 m 14 ls []) := by
    intro n
    induction n with
    | zero => intro M x3 x4 x5 H locs ls h; cases h
    | succ n ih =>
      intro M x3 x4 x5 H locs ls h hP hS hl
      rw [fX2_append_L14] at h
      refine lv_iload (pc := 14) hx hb dX2_append_14 (lv_at hl 4 rfl) ?_
      refine lv_aload_n (pc := 16) hx hb dX2_append_16 rfl (lv_at hl 1 rfl) ?_
      refine x_callTi (pc := 17) (st := .ref (sK j) :: .int x5 :: []) (As := []) (j := j) E hEx hl.1 hP hS (c_strLen hap M hj) gX2_34 hdJ0_length_8abf5 rfl hj ⟨Nat.le_of_ble_eq_true rfl, Nat.le_of_ble_eq_true rfl⟩ ⟨rfl, rfl⟩ dX2_append_17 rfl (Nat.le_of_ble_eq_true rfl) (fun H locs hP hS n3 => ?_)
      refine lv_icmp_ge (pc := 20) (tgt := 39) hx hb dX2_append_20 (by decide) (fun c4 => ?_) (fun c4 => ?_)
      · have h := (if_pos c4).symm.trans h
        refine lv_aload_n (pc := 39) hx hb dX2_append_39 rfl (lv_at hl 0 rfl) ?_
        refine lv_iload_n (pc := 40) hx hb dX2_append_40 rfl (lv_at hl 2 rfl) ?_
        obtain ⟨M5, hM5, h⟩ := bnd_ex h
        refine x_callVv (pc := 41) (st := .int x3 :: .ref (ad k) :: []) (As := [.int x3]) E hEx hl.1 hP hS (kX2_appendArgument hap hk M _ _ hM5) gX2_43 hdX2_appendArgument rfl (LoA.lt hk) (sh2 hk) rfl ⟨Nat.le_of_ble_eq_true rfl, Nat.le_of_ble_eq_true rfl⟩ ⟨rfl, rfl⟩ dX2_append_41 rfl (Nat.le_of_ble_eq_true rfl) (fun H locs hP hS => ?_)
        refine lv_aload_n (pc := 44) hx hb dX2_append_44 rfl (lv_at hl 0 rfl) ?_
        refine lv_iload (pc := 45) hx hb dX2_append_45 (lv_at hl 3 rfl) ?_
        obtain ⟨M6, hM6, h⟩ := bnd_ex h
        refine x_callVv (pc := 47) (st := .int x4 :: .ref (ad k) :: []) (As := [.int x4]) E hEx hl.1 hP hS (kX2_appendArgument hap hk M5 _ _ hM6) gX2_43 hdX2_appendArgument rfl (LoA.lt hk) (sh2 hk) rfl ⟨Nat.le_of_ble_eq_true rfl, Nat.le_of_ble_eq_true rfl⟩ ⟨rfl, rfl⟩ dX2_append_47 rfl (Nat.le_of_ble_eq_true rfl) (fun H locs hP hS => ?_)
        refine lv_aload_n (pc := 50) hx hb dX2_append_50 rfl (lv_at hl 0 rfl) ?_
        refine lv_bipush (pc := 51) (v := (47 : Int32)) hx hb dX2_append_51 (by decide) ?_
        obtain ⟨M7, hM7, h⟩ := bnd_ex h
        refine x_callVv (pc := 53) (st := .int (47 : Int32) :: .ref (ad k) :: []) (As := [.int (47 : Int32)]) E hEx hl.1 hP hS (kX2_appendSign hap hk M6 _ _ hM7) gX2_31 hdX2_appendSign rfl (LoA.lt hk) (sh2 hk) rfl ⟨Nat.le_of_ble_eq_true rfl, Nat.le_of_ble_eq_true rfl⟩ ⟨rfl, rfl⟩ dX2_append_53 rfl (Nat.le_of_ble_eq_true rfl) (fun H locs hP hS => ?_)
        obtain rfl := som1 h
        exact x_vret E hP hS dX2_append_56
      · have h := (if_neg c4).symm.trans h
        refine lv_aload_n (pc := 23) hx hb dX2_append_23 rfl (lv_at hl 0 rfl) ?_
        refine lv_aload_n (pc := 24) hx hb dX2_append_24 rfl (lv_at hl 1 rfl) ?_
        refine lv_iload (pc := 25) hx hb dX2_append_25 (lv_at hl 4 rfl) ?_
        obtain ⟨y8, hy8, h⟩ := bnd_ex h
        refine x_callTi (pc := 27) (st := .int x5 :: .ref (sK j) :: .ref (ad k) :: []) (As := [.int x5]) (j := j) E hEx hl.1 hP hS (c_strAt hap M hj _ _ hy8) gX2_39 hdJ0_charAt_5068e rfl hj ⟨Nat.le_of_ble_eq_true rfl, Nat.le_of_ble_eq_true rfl⟩ ⟨rfl, rfl⟩ dX2_append_27 rfl (Nat.le_of_ble_eq_true rfl) (fun H locs hP hS n9 => ?_)
        obtain ⟨M10, hM10, h⟩ := bnd_ex h
        refine x_callVv (pc := 30) (st := .int y8 :: .ref (ad k) :: []) (As := [.int y8]) E hEx hl.1 hP hS (kX2_appendSign hap hk M _ _ hM10) gX2_31 hdX2_appendSign rfl (LoA.lt hk) (sh2 hk) rfl ⟨Nat.le_of_ble_eq_true rfl, Nat.le_of_ble_eq_true rfl⟩ ⟨rfl, rfl⟩ dX2_append_30 rfl (Nat.le_of_ble_eq_true rfl) (fun H locs hP hS => ?_)
        refine lv_iinc (pc := 33) (v := (x5 + 1)) (lv' := [(5, .int (x5 + 1)), (0, .ref (ad k)), (2, .ref (sK j)), (3, .int x3), (4, .int x4)]) hx hb dX2_append_33 hl (k := 4) rfl rfl (by decide) rfl (fun ls hl => ?_)
        refine lv_goto (pc := 36) (tgt := 14) hx hb dX2_append_36 (by decide) ?_
        exact ih M10 x3 x4 (x5 + 1) _ _ _ h hP hS (lv_sub hl [1, 2, 3, 4, 0] rfl)
  unfold fX2_append at h
  refine lv_aload_n (pc := 0) hx hb dX2_append_0 rfl (lv_at hl 0 rfl) ?_
  refine lv_iload_n (pc := 1) hx hb dX2_append_1 rfl (lv_at hl 1 rfl) ?_
  obtain ⟨M1, hM1, h⟩ := bnd_ex h
  refine x_callVv (pc := 2) (st := .int x1 :: .ref (ad k) :: []) (As := [.int x1]) E hEx hl.1 hP hS (kX2_appendNumber hap hk M _ _ hM1) gX2_27 hdX2_appendNumber rfl (LoA.lt hk) (sh2 hk) rfl ⟨Nat.le_of_ble_eq_true rfl, Nat.le_of_ble_eq_true rfl⟩ ⟨rfl, rfl⟩ dX2_append_2 rfl (Nat.le_of_ble_eq_true rfl) (fun H locs hP hS => ?_)
  refine lv_aload_n (pc := 5) hx hb dX2_append_5 rfl (lv_at hl 0 rfl) ?_
  refine lv_bipush (pc := 6) (v := (58 : Int32)) hx hb dX2_append_6 (by decide) ?_
  obtain ⟨M2, hM2, h⟩ := bnd_ex h
  refine x_callVv (pc := 8) (st := .int (58 : Int32) :: .ref (ad k) :: []) (As := [.int (58 : Int32)]) E hEx hl.1 hP hS (kX2_appendSign hap hk M1 _ _ hM2) gX2_31 hdX2_appendSign rfl (LoA.lt hk) (sh2 hk) rfl ⟨Nat.le_of_ble_eq_true rfl, Nat.le_of_ble_eq_true rfl⟩ ⟨rfl, rfl⟩ dX2_append_8 rfl (Nat.le_of_ble_eq_true rfl) (fun H locs hP hS => ?_)
  refine lv_iconst (pc := 11) (v := (0 : Int32)) hx hb dX2_append_11 (by decide) ?_
  refine lv_istore (pc := 12) (lv' := [(5, .int (0 : Int32)), (0, .ref (ad k)), (1, .int x1), (2, .ref (sK j)), (3, .int x3), (4, .int x4)]) hx hb dX2_append_12 hl (by decide) rfl (fun ls hl => ?_)
  exact hL14 5000 M2 x3 x4 (0 : Int32) _ _ _ h hP hS (lv_sub hl [1, 3, 4, 5, 0] rfl)
set_option maxRecDepth 100000 in
set_option maxHeartbeats 4000000 in
theorem kX3_copyFrom (hap : Apart 78 ad) {k : Nat} {k2 : Nat} (hk : QuA k) (hk2 : QuA k2) (M : Mem)  (M' : Mem) (h : fX3_copyFrom k k2 M = some M') : XV G ad sK sV cA cZ cC yX3_copyFrom cX3_copyFrom 2 ({ frames := 1, cells := 0, slots := 0, locals := 22 } : Room) [.ref (ad k), .ref (ad k2)] M M' := by
  refine CV.mk (own := RX3) (ls0 := [(0, .ref (ad k)), (1, .ref (ad k2))]) (by decide +kernel) rfl hap (Nat.le_of_ble_eq_true rfl) rfl ?_
  intro p l e s m args below meth c ls E hP hl
  have hx := E.1
  have hb := E.2.1
  have hown := E.2.2.2.2.2.1
  have hts := E.2.2.2.2.2.2.1
  have hNe := E.2.2.2.2.2.2.2.2.1.1
  have hEx := ExX.ok ad sK sV
  have hS : va_S (AW 78 ad) s.heap s.heap [] := va_S.rf
  unfold fX3_copyFrom at h
  refine lv_aload_n (pc := 0) hx hb dX3_copyFrom_0 rfl (lv_at hl 0 rfl) ?_
  refine lv_aload_n (pc := 1) hx hb dX3_copyFrom_1 rfl (lv_at hl 1 rfl) ?_
  refine x_get (pc := 2) (v := .int (M k2 0)) E hP (QuA.lt hk2) (sh3 hk2) rfl inX3 0 (by decide) q162 rfl dX3_copyFrom_2 ?_
  obtain ⟨M1, hM1, h⟩ := thn_ex h
  refine x_put (pc := 5) (v := (M k2 0)) E hP hS (QuA.lt hk) (sh3 hk) tyX3 tyX3_ok nmX3 rfl inX3 0 (by decide) q162 rfl rfl rfl (Nat.le_of_ble_eq_true rfl) rfl dX3_copyFrom_5 (fun H locs hP hS => ?_)
  rw [hM1] at hP
  refine lv_aload_n (pc := 8) hx hb dX3_copyFrom_8 rfl (lv_at hl 1 rfl) ?_
  refine x_get (pc := 9) (v := .ref (ad (k2 + 1))) E hP (QuA.lt hk2) (sh3 hk2) rfl inX3 1 (by decide) q164 rfl dX3_copyFrom_9 ?_
  refine lv_aload_n (pc := 12) hx hb dX3_copyFrom_12 rfl (lv_at hl 0 rfl) ?_
  refine x_get (pc := 13) (v := .ref (ad (k + 1))) E hP (QuA.lt hk) (sh3 hk) rfl inX3 1 (by decide) q164 rfl dX3_copyFrom_13 ?_
  obtain ⟨M2, hM2, h⟩ := thn_ex h
  refine x_callNv (pc := 16) (st := .ref (ad (k + 1)) :: .ref (ad (k2 + 1)) :: []) (As := [.ref (ad (k2 + 1)), .ref (ad (k + 1))]) E hEx hl.1 hP hS (c_copyRow hap M1 (lt3a1 hk2) (sh3a1 hk2) (lt3a1 hk) (sh3a1 hk) (by decide) _ hM2) gcX7_copyRow (hNe _ nw20) q17 q384 hsX7_copyRow rfl ⟨Nat.le_of_ble_eq_true rfl, Nat.le_of_ble_eq_true rfl⟩ ⟨rfl, rfl⟩ dX3_copyFrom_16 rfl (Nat.le_of_ble_eq_true rfl) (fun H locs hP hS => ?_)
  refine lv_aload_n (pc := 19) hx hb dX3_copyFrom_19 rfl (lv_at hl 1 rfl) ?_
  refine x_get (pc := 20) (v := .ref (ad (k2 + 2))) E hP (QuA.lt hk2) (sh3 hk2) rfl inX3 2 (by decide) q167 rfl dX3_copyFrom_20 ?_
  refine lv_aload_n (pc := 23) hx hb dX3_copyFrom_23 rfl (lv_at hl 0 rfl) ?_
  refine x_get (pc := 24) (v := .ref (ad (k + 2))) E hP (QuA.lt hk) (sh3 hk) rfl inX3 2 (by decide) q167 rfl dX3_copyFrom_24 ?_
  obtain ⟨M3, hM3, h⟩ := thn_ex h
  refine x_callNv (pc := 27) (st := .ref (ad (k + 2)) :: .ref (ad (k2 + 2)) :: []) (As := [.ref (ad (k2 + 2)), .ref (ad (k + 2))]) E hEx hl.1 hP hS (c_copyRow hap M2 (lt3a2 hk2) (sh3a2 hk2) (lt3a2 hk) (sh3a2 hk) (by decide) _ hM3) gcX7_copyRow (hNe _ nw20) q17 q384 hsX7_copyRow rfl ⟨Nat.le_of_ble_eq_true rfl, Nat.le_of_ble_eq_true rfl⟩ ⟨rfl, rfl⟩ dX3_copyFrom_27 rfl (Nat.le_of_ble_eq_true rfl) (fun H locs hP hS => ?_)
  obtain rfl := som1 h
  exact x_vret E hP hS dX3_copyFrom_30
set_option maxRecDepth 100000 in
set_option maxHeartbeats 4000000 in
theorem kX3_hasGroup (hap : Apart 78 ad) {k : Nat} (hk : QuA k) (M : Mem) (x1 : Int32) (v : Int32) (h : fX3_hasGroup k M x1 = v) : XI G ad sK sV cA cZ cC yX3_hasGroup cX3_hasGroup 2 .boolean ({ frames := 0, cells := 0, slots := 0, locals := 0 } : Room) [.ref (ad k), .int x1] M v M := by
  refine CI.mk (own := RX3) (ls0 := [(0, .ref (ad k)), (1, .int x1)]) (by decide +kernel) rfl hap (Nat.le_of_ble_eq_true rfl) rfl ?_
  intro p l e s m args below meth c ls E hP hl
  have hx := E.1
  have hb := E.2.1
  have hown := E.2.2.2.2.2.1
  have hts := E.2.2.2.2.2.2.1
  have hNe := E.2.2.2.2.2.2.2.2.1.1
  have hEx := ExX.ok ad sK sV
  have hS : va_S (AW 78 ad) s.heap s.heap [] := va_S.rf
  unfold fX3_hasGroup at h
  refine lv_iload_n (pc := 0) hx hb dX3_hasGroup_0 rfl (lv_at hl 1 rfl) ?_
  refine lv_if_lt (pc := 1) (tgt := 16) hx hb dX3_hasGroup_1 (by decide) (fun c1 => ?_) (fun c1 => ?_)
  · have h := (if_pos c1).symm.trans h
    refine lv_iconst (pc := 16) (v := (0 : Int32)) hx hb dX3_hasGroup_16 (by decide) ?_
    obtain rfl : (0 : Int32) = v := h
    exact x_iret E hP hS rfl dX3_hasGroup_17
  · have h := (if_neg c1).symm.trans h
    refine lv_iload_n (pc := 4) hx hb dX3_hasGroup_4 rfl (lv_at hl 1 rfl) ?_
    refine lv_aload_n (pc := 5) hx hb dX3_hasGroup_5 rfl (lv_at hl 0 rfl) ?_
    refine x_get (pc := 6) (v := .int (M k 0)) E hP (QuA.lt hk) (sh3 hk) rfl inX3 0 (by decide) q162 rfl dX3_hasGroup_6 ?_
    refine lv_icmp_ge (pc := 9) (tgt := 16) hx hb dX3_hasGroup_9 (by decide) (fun c2 => ?_) (fun c2 => ?_)
    · have h := (if_pos c2).symm.trans h
      refine lv_iconst (pc := 16) (v := (0 : Int32)) hx hb dX3_hasGroup_16 (by decide) ?_
      obtain rfl : (0 : Int32) = v := h
      exact x_iret E hP hS rfl dX3_hasGroup_17
    · have h := (if_neg c2).symm.trans h
      refine lv_iconst (pc := 12) (v := (1 : Int32)) hx hb dX3_hasGroup_12 (by decide) ?_
      refine lv_goto (pc := 13) (tgt := 17) hx hb dX3_hasGroup_13 (by decide) ?_
      obtain rfl : (1 : Int32) = v := h
      exact x_iret E hP hS rfl dX3_hasGroup_17
set_option maxRecDepth 100000 in
set_option maxHeartbeats 4000000 in
theorem kX3_append (hap : Apart 78 ad) {k : Nat} (hk : QuA k) (M : Mem) (x1 x2 : Int32) (M' : Mem) (h : fX3_append k M x1 x2 = some M') : XV G ad sK sV cA cZ cC yX3_append cX3_append 3 ({ frames := 1, cells := 0, slots := 0, locals := 22 } : Room) [.ref (ad k), .int x1, .int x2] M M' := by
  refine CV.mk (own := RX3) (ls0 := [(0, .ref (ad k)), (1, .int x1), (2, .int x2)]) (by decide +kernel) rfl hap (Nat.le_of_ble_eq_true rfl) rfl ?_
  intro p l e s m args below meth c ls E hP hl
  have hx := E.1
  have hb := E.2.1
  have hown := E.2.2.2.2.2.1
  have hts := E.2.2.2.2.2.2.1
  have hNe := E.2.2.2.2.2.2.2.2.1.1
  have hEx := ExX.ok ad sK sV
  have hS : va_S (AW 78 ad) s.heap s.heap [] := va_S.rf
  unfold fX3_append at h
  refine lv_aload_n (pc := 0) hx hb dX3_append_0 rfl (lv_at hl 0 rfl) ?_
  refine x_get (pc := 1) (v := .ref (ad (k + 1))) E hP (QuA.lt hk) (sh3 hk) rfl inX3 1 (by decide) q164 rfl dX3_append_1 ?_
  refine lv_aload_n (pc := 4) hx hb dX3_append_4 rfl (lv_at hl 0 rfl) ?_
  refine x_get (pc := 5) (v := .int (M k 0)) E hP (QuA.lt hk) (sh3 hk) rfl inX3 0 (by decide) q162 rfl dX3_append_5 ?_
  refine lv_iload_n (pc := 8) hx hb dX3_append_8 rfl (lv_at hl 1 rfl) ?_
  obtain ⟨M1, hM1, h⟩ := thn_ex h
  refine x_callNv (pc := 9) (st := .int x1 :: .int (M k 0) :: .ref (ad (k + 1)) :: []) (As := [.ref (ad (k + 1)), .int (M k 0), .int x1]) E hEx hl.1 hP hS (c_put hap M (lt3a1 hk) (sh3a1 hk) (by decide) _ _ _ hM1) gcX7_put (hNe _ nw19) q17 q86 hsX7_put rfl ⟨Nat.le_of_ble_eq_true rfl, Nat.le_of_ble_eq_true rfl⟩ ⟨rfl, rfl⟩ dX3_append_9 rfl (Nat.le_of_ble_eq_true rfl) (fun H locs hP hS => ?_)
  refine lv_aload_n (pc := 12) hx hb dX3_append_12 rfl (lv_at hl 0 rfl) ?_
  refine x_get (pc := 13) (v := .ref (ad (k + 2))) E hP (QuA.lt hk) (sh3 hk) rfl inX3 2 (by decide) q167 rfl dX3_append_13 ?_
  refine lv_aload_n (pc := 16) hx hb dX3_append_16 rfl (lv_at hl 0 rfl) ?_
  refine x_get (pc := 17) (v := .int (M1 k 0)) E hP (QuA.lt hk) (sh3 hk) rfl inX3 0 (by decide) q162 rfl dX3_append_17 ?_
  refine lv_iload_n (pc := 20) hx hb dX3_append_20 rfl (lv_at hl 2 rfl) ?_
  obtain ⟨M2, hM2, h⟩ := thn_ex h
  refine x_callNv (pc := 21) (st := .int x2 :: .int (M1 k 0) :: .ref (ad (k + 2)) :: []) (As := [.ref (ad (k + 2)), .int (M1 k 0), .int x2]) E hEx hl.1 hP hS (c_put hap M1 (lt3a2 hk) (sh3a2 hk) (by decide) _ _ _ hM2) gcX7_put (hNe _ nw19) q17 q86 hsX7_put rfl ⟨Nat.le_of_ble_eq_true rfl, Nat.le_of_ble_eq_true rfl⟩ ⟨rfl, rfl⟩ dX3_append_21 rfl (Nat.le_of_ble_eq_true rfl) (fun H locs hP hS => ?_)
  refine lv_aload_n (pc := 24) hx hb dX3_append_24 rfl (lv_at hl 0 rfl) ?_
  refine lv_dup (pc := 25) hx hb dX3_append_25 rfl ?_
  refine x_get (pc := 26) (v := .int (M2 k 0)) E hP (QuA.lt hk) (sh3 hk) rfl inX3 0 (by decide) q162 rfl dX3_append_26 ?_
  refine lv_iconst (pc := 29) (v := (1 : Int32)) hx hb dX3_append_29 (by decide) ?_
  refine lv_iadd (pc := 30) hx hb dX3_append_30 ?_
  obtain ⟨M3, hM3, h⟩ := thn_ex h
  refine x_put (pc := 31) (v := ((M2 k 0) + (1 : Int32))) E hP hS (QuA.lt hk) (sh3 hk) tyX3 tyX3_ok nmX3 rfl inX3 0 (by decide) q162 rfl rfl rfl (Nat.le_of_ble_eq_true rfl) rfl dX3_append_31 (fun H locs hP hS => ?_)
  rw [hM3] at hP
  obtain rfl := som1 h
  exact x_vret E hP hS dX3_append_34
set_option maxRecDepth 100000 in
set_option maxHeartbeats 4000000 in
theorem kX3_remove (hap : Apart 78 ad) {k : Nat} (hk : QuA k) (M : Mem) (x1 : Int32) (M' : Mem) (h : fX3_remove k M x1 = some M') : XV G ad sK sV cA cZ cC yX3_remove cX3_remove 3 ({ frames := 1, cells := 0, slots := 0, locals := 22 } : Room) [.ref (ad k), .int x1] M M' := by
  refine CV.mk (own := RX3) (ls0 := [(0, .ref (ad k)), (1, .int x1)]) (by decide +kernel) rfl hap (Nat.le_of_ble_eq_true rfl) rfl ?_
  intro p l e s m args below meth c ls E hP hl
  have hx := E.1
  have hb := E.2.1
  have hown := E.2.2.2.2.2.1
  have hts := E.2.2.2.2.2.2.1
  have hNe := E.2.2.2.2.2.2.2.2.1.1
  have hEx := ExX.ok ad sK sV
  have hS : va_S (AW 78 ad) s.heap s.heap [] := va_S.rf
  have hL4 : ∀ (n : Nat) (M : Mem) (x2 : Int32) (H : Heap) (locs : List Loc) (ls : Array Slot), fX3_remove_L4 k n M x2 = some M' → va_P G vwCl (WW 78 (shX cA ad) ad M) H → va_S (AW 78 ad) s.heap H locs → lv_has ls 3 [(0, .ref (ad k)), (2, .int x2)] → W p l e ({ frames := 1, cells := 0, slots := 0, locals := 22 } : Room) s m args below meth c H locs 0 0 (QV below G 78 (shX cA ad) ad args s M') (F0 m 4 ls []) := by
    intro n
    induction n with
    | zero => intro M x2 H locs ls h; cases h
    | succ n ih =>
      intro M x2 H locs ls h hP hS hl
      rw [fX3_remove_L4] at h
      refine lv_iload_n (pc := 4) hx hb dX3_remove_4 rfl (lv_at hl 1 rfl) ?_
      refine lv_aload_n (pc := 5) hx hb dX3_remove_5 rfl (lv_at hl 0 rfl) ?_
      refine x_get (pc := 6) (v := .int (M k 0)) E hP (QuA.lt hk) (sh3 hk) rfl inX3 0 (by decide) q162 rfl dX3_remove_6 ?_
      refine lv_icmp_ge (pc := 9) (tgt := 54) hx hb dX3_remove_9 (by decide) (fun c1 => ?_) (fun c1 => ?_)
      · have h := (if_pos c1).symm.trans h
        refine lv_aload_n (pc := 54) hx hb dX3_remove_54 rfl (lv_at hl 0 rfl) ?_
        refine lv_dup (pc := 55) hx hb dX3_remove_55 rfl ?_
        refine x_get (pc := 56) (v := .int (M k 0)) E hP (QuA.lt hk) (sh3 hk) rfl inX3 0 (by decide) q162 rfl dX3_remove_56 ?_
        refine lv_iconst (pc := 59) (v := (1 : Int32)) hx hb dX3_remove_59 (by decide) ?_
        refine lv_isub (pc := 60) hx hb dX3_remove_60 ?_
        obtain ⟨M2, hM2, h⟩ := thn_ex h
        refine x_put (pc := 61) (v := ((M k 0) - (1 : Int32))) E hP hS (QuA.lt hk) (sh3 hk) tyX3 tyX3_ok nmX3 rfl inX3 0 (by decide) q162 rfl rfl rfl (Nat.le_of_ble_eq_true rfl) rfl dX3_remove_61 (fun H locs hP hS => ?_)
        rw [hM2] at hP
        obtain rfl := som1 h
        exact x_vret E hP hS dX3_remove_64
      · have h := (if_neg c1).symm.trans h
        refine lv_aload_n (pc := 12) hx hb dX3_remove_12 rfl (lv_at hl 0 rfl) ?_
        refine x_get (pc := 13) (v := .ref (ad (k + 1))) E hP (QuA.lt hk) (sh3 hk) rfl inX3 1 (by decide) q164 rfl dX3_remove_13 ?_
        refine lv_iload_n (pc := 16) hx hb dX3_remove_16 rfl (lv_at hl 1 rfl) ?_
        refine lv_iconst (pc := 17) (v := (1 : Int32)) hx hb dX3_remove_17 (by decide) ?_
        refine lv_isub (pc := 18) hx hb dX3_remove_18 ?_
        refine lv_aload_n (pc := 19) hx hb dX3_remove_19 rfl (lv_at hl 0 rfl) ?_
        refine x_get (pc := 20) (v := .ref (ad (k + 1))) E hP (QuA.lt hk) (sh3 hk) rfl inX3 1 (by decide) q164 rfl dX3_remove_20 ?_
        refine lv_iload_n (pc := 23) hx hb dX3_remove_23 rfl (lv_at hl 1 rfl) ?_
        refine x_callNi (pc := 24) (st := .int x2 :: .ref (ad (k + 1)) :: .int (x2 - (1 : Int32)) :: .ref (ad (k + 1)) :: []) (As := [.ref (ad (k + 1)), .int x2]) E hEx hl.1 hP hS (c_at hap M (lt3a1 hk) (sh3a1 hk) (by decide) _ _ rfl) gcX7_at (hNe _ nw11) q17 q320 hsX7_at rfl ⟨Nat.le_of_ble_eq_true rfl, Nat.le_of_ble_eq_true rfl⟩ ⟨rfl, rfl⟩ dX3_remove_24 rfl (Nat.le_of_ble_eq_true rfl) (fun H locs hP hS n3 => ?_)
        obtain ⟨M4, hM4, h⟩ := thn_ex h
        refine x_callNv (pc := 27) (st := .int (atX M (k + 1) 8 x2) :: .int (x2 - (1 : Int32)) :: .ref (ad (k + 1)) :: []) (As := [.ref (ad (k + 1)), .int (x2 - (1 : Int32)), .int (atX M (k + 1) 8 x2)]) E hEx hl.1 hP hS (c_put hap M (lt3a1 hk) (sh3a1 hk) (by decide) _ _ _ hM4) gcX7_put (hNe _ nw19) q17 q86 hsX7_put rfl ⟨Nat.le_of_ble_eq_true rfl, Nat.le_of_ble_eq_true rfl⟩ ⟨rfl, rfl⟩ dX3_remove_27 rfl (Nat.le_of_ble_eq_true rfl) (fun H locs hP hS => ?_)
        refine lv_aload_n (pc := 30) hx hb dX3_remove_30 rfl (lv_at hl 0 rfl) ?_
        refine x_get (pc := 31) (v := .ref (ad (k + 2))) E hP (QuA.lt hk) (sh3 hk) rfl inX3 2 (by decide) q167 rfl dX3_remove_31 ?_
        refine lv_iload_n (pc := 34) hx hb dX3_remove_34 rfl (lv_at hl 1 rfl) ?_
        refine lv_iconst (pc := 35) (v := (1 : Int32)) hx hb dX3_remove_35 (by decide) ?_
        refine lv_isub (pc := 36) hx hb dX3_remove_36 ?_
        refine lv_aload_n (pc := 37) hx hb dX3_remove_37 rfl (lv_at hl 0 rfl) ?_
        refine x_get (pc := 38) (v := .ref (ad (k + 2))) E hP (QuA.lt hk) (sh3 hk) rfl inX3 2 (by decide) q167 rfl dX3_remove_38 ?_
        refine lv_iload_n (pc := 41) hx hb dX3_remove_41 rfl (lv_at hl 1 rfl) ?_
        refine x_callNi (pc := 42) (st := .int x2 :: .ref (ad (k + 2)) :: .int (x2 - (1 : Int32)) :: .ref (ad (k + 2)) :: []) (As := [.ref (ad (k + 2)), .int x2]) E hEx hl.1 hP hS (c_at hap M4 (lt3a2 hk) (sh3a2 hk) (by decide) _ _ rfl) gcX7_at (hNe _ nw11) q17 q320 hsX7_at rfl ⟨Nat.le_of_ble_eq_true rfl, Nat.le_of_ble_eq_true rfl⟩ ⟨rfl, rfl⟩ dX3_remove_42 rfl (Nat.le_of_ble_eq_true rfl) (fun H locs hP hS n5 => ?_)
        obtain ⟨M6, hM6, h⟩ := thn_ex h
        refine x_callNv (pc := 45) (st := .int (atX M4 (k + 2) 8 x2) :: .int (x2 - (1 : Int32)) :: .ref (ad (k + 2)) :: []) (As := [.ref (ad (k + 2)), .int (x2 - (1 : Int32)), .int (atX M4 (k + 2) 8 x2)]) E hEx hl.1 hP hS (c_put hap M4 (lt3a2 hk) (sh3a2 hk) (by decide) _ _ _ hM6) gcX7_put (hNe _ nw19) q17 q86 hsX7_put rfl ⟨Nat.le_of_ble_eq_true rfl, Nat.le_of_ble_eq_true rfl⟩ ⟨rfl, rfl⟩ dX3_remove_45 rfl (Nat.le_of_ble_eq_true rfl) (fun H locs hP hS => ?_)
        refine lv_iinc (pc := 48) (v := (x2 + 1)) (lv' := [(2, .int (x2 + 1)), (0, .ref (ad k))]) hx hb dX3_remove_48 hl (k := 1) rfl rfl (by decide) rfl (fun ls hl => ?_)
        refine lv_goto (pc := 51) (tgt := 4) hx hb dX3_remove_51 (by decide) ?_
        exact ih M6 (x2 + 1) _ _ _ h hP hS (lv_sub hl [1, 0] rfl)
  unfold fX3_remove at h
  refine lv_iload_n (pc := 0) hx hb dX3_remove_0 rfl (lv_at hl 1 rfl) ?_
  refine lv_iconst (pc := 1) (v := (1 : Int32)) hx hb dX3_remove_1 (by decide) ?_
  refine lv_iadd (pc := 2) hx hb dX3_remove_2 ?_
  refine lv_istore_n (pc := 3) (lv' := [(2, .int (x1 + (1 : Int32))), (0, .ref (ad k)), (1, .int x1)]) hx hb dX3_remove_3 rfl hl (by decide) rfl (fun ls hl => ?_)
  exact hL4 5000 M (x1 + (1 : Int32)) _ _ _ h hP hS (lv_sub hl [1, 0] rfl)
set_option maxRecDepth 100000 in
set_option maxHeartbeats 4000000 in
theorem kX3_waitingBefore (hap : Apart 78 ad) {k : Nat} (hk : QuA k) (M : Mem) (x1 : Int32) (v : Int32) (h : fX3_waitingBefore k M x1 = some v) : XI G ad sK sV cA cZ cC yX3_waitingBefore cX3_waitingBefore 4 .int ({ frames := 1, cells := 0, slots := 0, locals := 21 } : Room) [.ref (ad k), .int x1] M v M := by
  refine CI.mk (own := RX3) (ls0 := [(0, .ref (ad k)), (1, .int x1)]) (by decide +kernel) rfl hap (Nat.le_of_ble_eq_true rfl) rfl ?_
  intro p l e s m args below meth c ls E hP hl
  have hx := E.1
  have hb := E.2.1
  have hown := E.2.2.2.2.2.1
  have hts := E.2.2.2.2.2.2.1
  have hNe := E.2.2.2.2.2.2.2.2.1.1
  have hEx := ExX.ok ad sK sV
  have hS : va_S (AW 78 ad) s.heap s.heap [] := va_S.rf
  have hL4 : ∀ (n : Nat) (M : Mem) (x1 x2 x3 : Int32) (H : Heap) (locs : List Loc) (ls : Array Slot), fX3_waitingBefore_L4 k n M x1 x2 x3 = some v → va_P G vwCl (WW 78 (shX cA ad) ad M) H → va_S (AW 78 ad) s.heap H locs → lv_has ls 4 [(0, .ref (ad k)), (1, .int x1), (2, .int x2), (3, .int x3)] → W p l e ({ frames := 1, cells := 0, slots := 0, locals := 21 } : Room) s m args below meth c H locs 0 0 (QI below G 78 (shX cA ad) ad .int args s v M) (F0 m 4 ls []) := by
    intro n
    induction n with
    | zero => intro M x1 x2 x3 H locs ls h; cases h
    | succ n ih =>
      intro M x1 x2 x3 H locs ls h hP hS hl
      rw [fX3_waitingBefore_L4] at h
      refine lv_iload_n (pc := 4) hx hb dX3_waitingBefore_4 rfl (lv_at hl 3 rfl) ?_
      refine lv_aload_n (pc := 5) hx hb dX3_waitingBefore_5 rfl (lv_at hl 0 rfl) ?_
      refine x_get (pc := 6) (v := .int (M k 0)) E hP (QuA.lt hk) (sh3 hk) rfl inX3 0 (by decide) q162 rfl dX3_waitingBefore_6 ?_
      refine lv_icmp_ge (pc := 9) (tgt := 33) hx hb dX3_waitingBefore_9 (by decide) (fun c1 => ?_) (fun c1 => ?_)
      · have h := (if_pos c1).symm.trans h
        refine lv_iload_n (pc := 33) hx hb dX3_waitingBefore_33 rfl (lv_at hl 2 rfl) ?_
        obtain rfl := som1 h
        exact x_iret E hP hS rfl dX3_waitingBefore_34
      · have h := (if_neg c1).symm.trans h
        refine lv_aload_n (pc := 12) hx hb dX3_waitingBefore_12 rfl (lv_at hl 0 rfl) ?_
        refine x_get (pc := 13) (v := .ref (ad (k + 2))) E hP (QuA.lt hk) (sh3 hk) rfl inX3 2 (by decide) q167 rfl dX3_waitingBefore_13 ?_
        refine lv_iload_n (pc := 16) hx hb dX3_waitingBefore_16 rfl (lv_at hl 3 rfl) ?_
        refine x_callNi (pc := 17) (st := .int x3 :: .ref (ad (k + 2)) :: []) (As := [.ref (ad (k + 2)), .int x3]) E hEx hl.1 hP hS (c_at hap M (lt3a2 hk) (sh3a2 hk) (by decide) _ _ rfl) gcX7_at (hNe _ nw11) q17 q320 hsX7_at rfl ⟨Nat.le_of_ble_eq_true rfl, Nat.le_of_ble_eq_true rfl⟩ ⟨rfl, rfl⟩ dX3_waitingBefore_17 rfl (Nat.le_of_ble_eq_true rfl) (fun H locs hP hS n2 => ?_)
        refine lv_iload_n (pc := 20) hx hb dX3_waitingBefore_20 rfl (lv_at hl 1 rfl) ?_
        refine lv_icmp_ge (pc := 21) (tgt := 27) hx hb dX3_waitingBefore_21 (by decide) (fun c3 => ?_) (fun c3 => ?_)
        · have h := (if_pos c3).symm.trans h
          refine lv_iinc (pc := 27) (v := (x3 + 1)) (lv' := [(3, .int (x3 + 1)), (0, .ref (ad k)), (1, .int x1), (2, .int x2)]) hx hb dX3_waitingBefore_27 hl (k := 3) rfl rfl (by decide) rfl (fun ls hl => ?_)
          refine lv_goto (pc := 30) (tgt := 4) hx hb dX3_waitingBefore_30 (by decide) ?_
          exact ih M x1 x2 (x3 + 1) _ _ _ h hP hS (lv_sub hl [1, 2, 3, 0] rfl)
        · have h := (if_neg c3).symm.trans h
          refine lv_iinc (pc := 24) (v := (x2 + 1)) (lv' := [(2, .int (x2 + 1)), (0, .ref (ad k)), (1, .int x1), (3, .int x3)]) hx hb dX3_waitingBefore_24 hl (k := 2) rfl rfl (by decide) rfl (fun ls hl => ?_)
          refine lv_iinc (pc := 27) (v := (x3 + 1)) (lv' := [(3, .int (x3 + 1)), (2, .int (x2 + 1)), (0, .ref (ad k)), (1, .int x1)]) hx hb dX3_waitingBefore_27 hl (k := 3) rfl rfl (by decide) rfl (fun ls hl => ?_)
          refine lv_goto (pc := 30) (tgt := 4) hx hb dX3_waitingBefore_30 (by decide) ?_
          exact ih M x1 (x2 + 1) (x3 + 1) _ _ _ h hP hS (lv_sub hl [2, 3, 1, 0] rfl)
  unfold fX3_waitingBefore at h
  refine lv_iconst (pc := 0) (v := (0 : Int32)) hx hb dX3_waitingBefore_0 (by decide) ?_
  refine lv_istore_n (pc := 1) (lv' := [(2, .int (0 : Int32)), (0, .ref (ad k)), (1, .int x1)]) hx hb dX3_waitingBefore_1 rfl hl (by decide) rfl (fun ls hl => ?_)
  refine lv_iconst (pc := 2) (v := (0 : Int32)) hx hb dX3_waitingBefore_2 (by decide) ?_
  refine lv_istore_n (pc := 3) (lv' := [(3, .int (0 : Int32)), (2, .int (0 : Int32)), (0, .ref (ad k)), (1, .int x1)]) hx hb dX3_waitingBefore_3 rfl hl (by decide) rfl (fun ls hl => ?_)
  exact hL4 5000 M x1 (0 : Int32) (0 : Int32) _ _ _ h hP hS (lv_sub hl [2, 3, 1, 0] rfl)
set_option maxRecDepth 100000 in
set_option maxHeartbeats 4000000 in
theorem kX4_copyFrom (hap : Apart 78 ad) {k : Nat} {k2 : Nat} (hk : ReA k) (hk2 : ReA k2) (M : Mem)  (M' : Mem) (h : fX4_copyFrom k k2 M = some M') : XV G ad sK sV cA cZ cC yX4_copyFrom cX4_copyFrom 2 ({ frames := 1, cells := 0, slots := 0, locals := 22 } : Room) [.ref (ad k), .ref (ad k2)] M M' := by
  refine CV.mk (own := RX4) (ls0 := [(0, .ref (ad k)), (1, .ref (ad k2))]) (by decide +kernel) rfl hap (Nat.le_of_ble_eq_true rfl) rfl ?_
  intro p l e s m args below meth c ls E hP hl
  have hx := E.1
  have hb := E.2.1
  have hown := E.2.2.2.2.2.1
  have hts := E.2.2.2.2.2.2.1
  have hNe := E.2.2.2.2.2.2.2.2.1.1
  have hEx := ExX.ok ad sK sV
  have hS : va_S (AW 78 ad) s.heap s.heap [] := va_S.rf
  unfold fX4_copyFrom at h
  refine lv_aload_n (pc := 0) hx hb dX4_copyFrom_0 rfl (lv_at hl 0 rfl) ?_
  refine lv_aload_n (pc := 1) hx hb dX4_copyFrom_1 rfl (lv_at hl 1 rfl) ?_
  refine x_get (pc := 2) (v := .int (M k2 0)) E hP (ReA.lt hk2) (sh4 hk2) rfl inX4 0 (by decide) q228 rfl dX4_copyFrom_2 ?_
  obtain ⟨M1, hM1, h⟩ := thn_ex h
  refine x_put (pc := 5) (v := (M k2 0)) E hP hS (ReA.lt hk) (sh4 hk) tyX4 tyX4_ok nmX4 rfl inX4 0 (by decide) q228 rfl rfl rfl (Nat.le_of_ble_eq_true rfl) rfl dX4_copyFrom_5 (fun H locs hP hS => ?_)
  rw [hM1] at hP
  refine lv_aload_n (pc := 8) hx hb dX4_copyFrom_8 rfl (lv_at hl 1 rfl) ?_
  refine x_get (pc := 9) (v := .ref (ad (k2 + 1))) E hP (ReA.lt hk2) (sh4 hk2) rfl inX4 1 (by decide) q230 rfl dX4_copyFrom_9 ?_
  refine lv_aload_n (pc := 12) hx hb dX4_copyFrom_12 rfl (lv_at hl 0 rfl) ?_
  refine x_get (pc := 13) (v := .ref (ad (k + 1))) E hP (ReA.lt hk) (sh4 hk) rfl inX4 1 (by decide) q230 rfl dX4_copyFrom_13 ?_
  obtain ⟨M2, hM2, h⟩ := thn_ex h
  refine x_callNv (pc := 16) (st := .ref (ad (k + 1)) :: .ref (ad (k2 + 1)) :: []) (As := [.ref (ad (k2 + 1)), .ref (ad (k + 1))]) E hEx hl.1 hP hS (c_copyRow hap M1 (lt4a1 hk2) (sh4a1 hk2) (lt4a1 hk) (sh4a1 hk) (by decide) _ hM2) gcX7_copyRow (hNe _ nw21) q17 q384 hsX7_copyRow rfl ⟨Nat.le_of_ble_eq_true rfl, Nat.le_of_ble_eq_true rfl⟩ ⟨rfl, rfl⟩ dX4_copyFrom_16 rfl (Nat.le_of_ble_eq_true rfl) (fun H locs hP hS => ?_)
  obtain rfl := som1 h
  exact x_vret E hP hS dX4_copyFrom_19
set_option maxRecDepth 100000 in
set_option maxHeartbeats 4000000 in
theorem kX4_append (hap : Apart 78 ad) {k : Nat} {k2 : Nat} (hk : ReA k) (hk2 : GaA k2) (M : Mem) (x2 x3 : Int32) (M' : Mem) (h : fX4_append k k2 M x2 x3 = some M') : XV G ad sK sV cA cZ cC yX4_append cX4_append 5 ({ frames := 1, cells := 0, slots := 0, locals := 22 } : Room) [.ref (ad k), .ref (ad k2), .int x2, .int x3] M M' := by
  refine CV.mk (own := RX4) (ls0 := [(0, .ref (ad k)), (1, .ref (ad k2)), (2, .int x2), (3, .int x3)]) (by decide +kernel) rfl hap (Nat.le_of_ble_eq_true rfl) rfl ?_
  intro p l e s m args below meth c ls E hP hl
  have hx := E.1
  have hb := E.2.1
  have hown := E.2.2.2.2.2.1
  have hts := E.2.2.2.2.2.2.1
  have hNe := E.2.2.2.2.2.2.2.2.1.1
  have hEx := ExX.ok ad sK sV
  have hS : va_S (AW 78 ad) s.heap s.heap [] := va_S.rf
  unfold fX4_append at h
  refine lv_aload_n (pc := 0) hx hb dX4_append_0 rfl (lv_at hl 0 rfl) ?_
  refine x_get (pc := 1) (v := .int (M k 0)) E hP (ReA.lt hk) (sh4 hk) rfl inX4 0 (by decide) q228 rfl dX4_append_1 ?_
  refine lv_bipush (pc := 4) (v := (7 : Int32)) hx hb dX4_append_4 (by decide) ?_
  refine lv_imul (pc := 6) hx hb dX4_append_6 ?_
  refine lv_istore (pc := 7) (lv' := [(4, .int ((M k 0) * (7 : Int32))), (0, .ref (ad k)), (1, .ref (ad k2)), (2, .int x2), (3, .int x3)]) hx hb dX4_append_7 hl (by decide) rfl (fun ls hl => ?_)
  refine lv_aload_n (pc := 9) hx hb dX4_append_9 rfl (lv_at hl 1 rfl) ?_
  refine x_get (pc := 10) (v := .ref (ad (k + 1))) E hP (ReA.lt hk) (sh4 hk) rfl inX4 1 (by decide) q230 rfl dX4_append_10 ?_
  refine lv_iload (pc := 13) hx hb dX4_append_13 (lv_at hl 0 rfl) ?_
  refine lv_aload_n (pc := 15) hx hb dX4_append_15 rfl (lv_at hl 2 rfl) ?_
  refine x_get (pc := 16) (v := .int (M k2 1)) E hP (GaA.lt hk2) (sh1 hk2) rfl inX1 1 (by decide) q187 rfl dX4_append_16 ?_
  obtain ⟨M1, hM1, h⟩ := thn_ex h
  refine x_callNv (pc := 19) (st := .int (M k2 1) :: .int ((M k 0) * (7 : Int32)) :: .ref (ad (k + 1)) :: []) (As := [.ref (ad (k + 1)), .int ((M k 0) * (7 : Int32)), .int (M k2 1)]) E hEx hl.1 hP hS (c_put hap M (lt4a1 hk) (sh4a1 hk) (by decide) _ _ _ hM1) gcX7_put (hNe _ nw17) q17 q86 hsX7_put rfl ⟨Nat.le_of_ble_eq_true rfl, Nat.le_of_ble_eq_true rfl⟩ ⟨rfl, rfl⟩ dX4_append_19 rfl (Nat.le_of_ble_eq_true rfl) (fun H locs hP hS => ?_)
  refine lv_aload_n (pc := 22) hx hb dX4_append_22 rfl (lv_at hl 1 rfl) ?_
  refine x_get (pc := 23) (v := .ref (ad (k + 1))) E hP (ReA.lt hk) (sh4 hk) rfl inX4 1 (by decide) q230 rfl dX4_append_23 ?_
  refine lv_iload (pc := 26) hx hb dX4_append_26 (lv_at hl 0 rfl) ?_
  refine lv_iconst (pc := 28) (v := (1 : Int32)) hx hb dX4_append_28 (by decide) ?_
  refine lv_iadd (pc := 29) hx hb dX4_append_29 ?_
  refine lv_aload_n (pc := 30) hx hb dX4_append_30 rfl (lv_at hl 2 rfl) ?_
  refine x_get (pc := 31) (v := .int (M1 k2 2)) E hP (GaA.lt hk2) (sh1 hk2) rfl inX1 2 (by decide) q191 rfl dX4_append_31 ?_
  obtain ⟨M2, hM2, h⟩ := thn_ex h
  refine x_callNv (pc := 34) (st := .int (M1 k2 2) :: .int (((M k 0) * (7 : Int32)) + (1 : Int32)) :: .ref (ad (k + 1)) :: []) (As := [.ref (ad (k + 1)), .int (((M k 0) * (7 : Int32)) + (1 : Int32)), .int (M1 k2 2)]) E hEx hl.1 hP hS (c_put hap M1 (lt4a1 hk) (sh4a1 hk) (by decide) _ _ _ hM2) gcX7_put (hNe _ nw17) q17 q86 hsX7_put rfl ⟨Nat.le_of_ble_eq_true rfl, Nat.le_of_ble_eq_true rfl⟩ ⟨rfl, rfl⟩ dX4_append_34 rfl (Nat.le_of_ble_eq_true rfl) (fun H locs hP hS => ?_)
  refine lv_aload_n (pc := 37) hx hb dX4_append_37 rfl (lv_at hl 1 rfl) ?_
  refine x_get (pc := 38) (v := .ref (ad (k + 1))) E hP (ReA.lt hk) (sh4 hk) rfl inX4 1 (by decide) q230 rfl dX4_append_38 ?_
  refine lv_iload (pc := 41) hx hb dX4_append_41 (lv_at hl 0 rfl) ?_
  refine lv_iconst (pc := 43) (v := (2 : Int32)) hx hb dX4_append_43 (by decide) ?_
  refine lv_iadd (pc := 44) hx hb dX4_append_44 ?_
  refine lv_aload_n (pc := 45) hx hb dX4_append_45 rfl (lv_at hl 2 rfl) ?_
  refine x_get (pc := 46) (v := .int (M2 k2 3)) E hP (GaA.lt hk2) (sh1 hk2) rfl inX1 3 (by decide) q194 rfl dX4_append_46 ?_
  obtain ⟨M3, hM3, h⟩ := thn_ex h
  refine x_callNv (pc := 49) (st := .int (M2 k2 3) :: .int (((M k 0) * (7 : Int32)) + (2 : Int32)) :: .ref (ad (k + 1)) :: []) (As := [.ref (ad (k + 1)), .int (((M k 0) * (7 : Int32)) + (2 : Int32)), .int (M2 k2 3)]) E hEx hl.1 hP hS (c_put hap M2 (lt4a1 hk) (sh4a1 hk) (by decide) _ _ _ hM3) gcX7_put (hNe _ nw17) q17 q86 hsX7_put rfl ⟨Nat.le_of_ble_eq_true rfl, Nat.le_of_ble_eq_true rfl⟩ ⟨rfl, rfl⟩ dX4_append_49 rfl (Nat.le_of_ble_eq_true rfl) (fun H locs hP hS => ?_)
  refine lv_aload_n (pc := 52) hx hb dX4_append_52 rfl (lv_at hl 1 rfl) ?_
  refine x_get (pc := 53) (v := .ref (ad (k + 1))) E hP (ReA.lt hk) (sh4 hk) rfl inX4 1 (by decide) q230 rfl dX4_append_53 ?_
  refine lv_iload (pc := 56) hx hb dX4_append_56 (lv_at hl 0 rfl) ?_
  refine lv_iconst (pc := 58) (v := (3 : Int32)) hx hb dX4_append_58 (by decide) ?_
  refine lv_iadd (pc := 59) hx hb dX4_append_59 ?_
  refine lv_iload_n (pc := 60) hx hb dX4_append_60 rfl (lv_at hl 3 rfl) ?_
  obtain ⟨M4, hM4, h⟩ := thn_ex h
  refine x_callNv (pc := 61) (st := .int x2 :: .int (((M k 0) * (7 : Int32)) + (3 : Int32)) :: .ref (ad (k + 1)) :: []) (As := [.ref (ad (k + 1)), .int (((M k 0) * (7 : Int32)) + (3 : Int32)), .int x2]) E hEx hl.1 hP hS (c_put hap M3 (lt4a1 hk) (sh4a1 hk) (by decide) _ _ _ hM4) gcX7_put (hNe _ nw17) q17 q86 hsX7_put rfl ⟨Nat.le_of_ble_eq_true rfl, Nat.le_of_ble_eq_true rfl⟩ ⟨rfl, rfl⟩ dX4_append_61 rfl (Nat.le_of_ble_eq_true rfl) (fun H locs hP hS => ?_)
  refine lv_aload_n (pc := 64) hx hb dX4_append_64 rfl (lv_at hl 1 rfl) ?_
  refine x_get (pc := 65) (v := .ref (ad (k + 1))) E hP (ReA.lt hk) (sh4 hk) rfl inX4 1 (by decide) q230 rfl dX4_append_65 ?_
  refine lv_iload (pc := 68) hx hb dX4_append_68 (lv_at hl 0 rfl) ?_
  refine lv_iconst (pc := 70) (v := (4 : Int32)) hx hb dX4_append_70 (by decide) ?_
  refine lv_iadd (pc := 71) hx hb dX4_append_71 ?_
  refine lv_iload_n (pc := 72) hx hb dX4_append_72 rfl (lv_at hl 4 rfl) ?_
  obtain ⟨M5, hM5, h⟩ := thn_ex h
  refine x_callNv (pc := 73) (st := .int x3 :: .int (((M k 0) * (7 : Int32)) + (4 : Int32)) :: .ref (ad (k + 1)) :: []) (As := [.ref (ad (k + 1)), .int (((M k 0) * (7 : Int32)) + (4 : Int32)), .int x3]) E hEx hl.1 hP hS (c_put hap M4 (lt4a1 hk) (sh4a1 hk) (by decide) _ _ _ hM5) gcX7_put (hNe _ nw17) q17 q86 hsX7_put rfl ⟨Nat.le_of_ble_eq_true rfl, Nat.le_of_ble_eq_true rfl⟩ ⟨rfl, rfl⟩ dX4_append_73 rfl (Nat.le_of_ble_eq_true rfl) (fun H locs hP hS => ?_)
  refine lv_aload_n (pc := 76) hx hb dX4_append_76 rfl (lv_at hl 1 rfl) ?_
  refine x_get (pc := 77) (v := .ref (ad (k + 1))) E hP (ReA.lt hk) (sh4 hk) rfl inX4 1 (by decide) q230 rfl dX4_append_77 ?_
  refine lv_iload (pc := 80) hx hb dX4_append_80 (lv_at hl 0 rfl) ?_
  refine lv_iconst (pc := 82) (v := (5 : Int32)) hx hb dX4_append_82 (by decide) ?_
  refine lv_iadd (pc := 83) hx hb dX4_append_83 ?_
  refine lv_aload_n (pc := 84) hx hb dX4_append_84 rfl (lv_at hl 2 rfl) ?_
  refine x_get (pc := 85) (v := .int (M5 k2 4)) E hP (GaA.lt hk2) (sh1 hk2) rfl inX1 4 (by decide) q198 rfl dX4_append_85 ?_
  obtain ⟨M6, hM6, h⟩ := thn_ex h
  refine x_callNv (pc := 88) (st := .int (M5 k2 4) :: .int (((M k 0) * (7 : Int32)) + (5 : Int32)) :: .ref (ad (k + 1)) :: []) (As := [.ref (ad (k + 1)), .int (((M k 0) * (7 : Int32)) + (5 : Int32)), .int (M5 k2 4)]) E hEx hl.1 hP hS (c_put hap M5 (lt4a1 hk) (sh4a1 hk) (by decide) _ _ _ hM6) gcX7_put (hNe _ nw17) q17 q86 hsX7_put rfl ⟨Nat.le_of_ble_eq_true rfl, Nat.le_of_ble_eq_true rfl⟩ ⟨rfl, rfl⟩ dX4_append_88 rfl (Nat.le_of_ble_eq_true rfl) (fun H locs hP hS => ?_)
  refine lv_aload_n (pc := 91) hx hb dX4_append_91 rfl (lv_at hl 1 rfl) ?_
  refine x_get (pc := 92) (v := .ref (ad (k + 1))) E hP (ReA.lt hk) (sh4 hk) rfl inX4 1 (by decide) q230 rfl dX4_append_92 ?_
  refine lv_iload (pc := 95) hx hb dX4_append_95 (lv_at hl 0 rfl) ?_
  refine lv_bipush (pc := 97) (v := (6 : Int32)) hx hb dX4_append_97 (by decide) ?_
  refine lv_iadd (pc := 99) hx hb dX4_append_99 ?_
  refine lv_aload_n (pc := 100) hx hb dX4_append_100 rfl (lv_at hl 2 rfl) ?_
  refine x_get (pc := 101) (v := .int (M6 k2 6)) E hP (GaA.lt hk2) (sh1 hk2) rfl inX1 6 (by decide) q205 rfl dX4_append_101 ?_
  obtain ⟨M7, hM7, h⟩ := thn_ex h
  refine x_callNv (pc := 104) (st := .int (M6 k2 6) :: .int (((M k 0) * (7 : Int32)) + (6 : Int32)) :: .ref (ad (k + 1)) :: []) (As := [.ref (ad (k + 1)), .int (((M k 0) * (7 : Int32)) + (6 : Int32)), .int (M6 k2 6)]) E hEx hl.1 hP hS (c_put hap M6 (lt4a1 hk) (sh4a1 hk) (by decide) _ _ _ hM7) gcX7_put (hNe _ nw17) q17 q86 hsX7_put rfl ⟨Nat.le_of_ble_eq_true rfl, Nat.le_of_ble_eq_true rfl⟩ ⟨rfl, rfl⟩ dX4_append_104 rfl (Nat.le_of_ble_eq_true rfl) (fun H locs hP hS => ?_)
  refine lv_aload_n (pc := 107) hx hb dX4_append_107 rfl (lv_at hl 1 rfl) ?_
  refine lv_dup (pc := 108) hx hb dX4_append_108 rfl ?_
  refine x_get (pc := 109) (v := .int (M7 k 0)) E hP (ReA.lt hk) (sh4 hk) rfl inX4 0 (by decide) q228 rfl dX4_append_109 ?_
  refine lv_iconst (pc := 112) (v := (1 : Int32)) hx hb dX4_append_112 (by decide) ?_
  refine lv_iadd (pc := 113) hx hb dX4_append_113 ?_
  obtain ⟨M8, hM8, h⟩ := thn_ex h
  refine x_put (pc := 114) (v := ((M7 k 0) + (1 : Int32))) E hP hS (ReA.lt hk) (sh4 hk) tyX4 tyX4_ok nmX4 rfl inX4 0 (by decide) q228 rfl rfl rfl (Nat.le_of_ble_eq_true rfl) rfl dX4_append_114 (fun H locs hP hS => ?_)
  rw [hM8] at hP
  obtain rfl := som1 h
  exact x_vret E hP hS dX4_append_117
set_option maxRecDepth 100000 in
set_option maxHeartbeats 4000000 in
theorem kX4_wins (hap : Apart 78 ad) {k : Nat} (hk : ReA k) (M : Mem)  (v : Int32) (h : fX4_wins k M = some v) : XI G ad sK sV cA cZ cC yX4_wins cX4_wins 3 .int ({ frames := 1, cells := 0, slots := 0, locals := 21 } : Room) [.ref (ad k)] M v M := by
  refine CI.mk (own := RX4) (ls0 := [(0, .ref (ad k))]) (by decide +kernel) rfl hap (Nat.le_of_ble_eq_true rfl) rfl ?_
  intro p l e s m args below meth c ls E hP hl
  have hx := E.1
  have hb := E.2.1
  have hown := E.2.2.2.2.2.1
  have hts := E.2.2.2.2.2.2.1
  have hNe := E.2.2.2.2.2.2.2.2.1.1
  have hEx := ExX.ok ad sK sV
  have hS : va_S (AW 78 ad) s.heap s.heap [] := va_S.rf
  have hL4 : ∀ (n : Nat) (M : Mem) (x1 x2 : Int32) (H : Heap) (locs : List Loc) (ls : Array Slot), fX4_wins_L4 k n M x1 x2 = some v → va_P G vwCl (WW 78 (shX cA ad) ad M) H → va_S (AW 78 ad) s.heap H locs → lv_has ls 3 [(0, .ref (ad k)), (1, .int x1), (2, .int x2)] → W p l e ({ frames := 1, cells := 0, slots := 0, locals := 21 } : Room) s m args below meth c H locs 0 0 (QI below G 78 (shX cA ad) ad .int args s v M) (F0 m 4 ls []) := by
    intro n
    induction n with
    | zero => intro M x1 x2 H locs ls h; cases h
    | succ n ih =>
      intro M x1 x2 H locs ls h hP hS hl
      rw [fX4_wins_L4] at h
      refine lv_iload_n (pc := 4) hx hb dX4_wins_4 rfl (lv_at hl 2 rfl) ?_
      refine lv_aload_n (pc := 5) hx hb dX4_wins_5 rfl (lv_at hl 0 rfl) ?_
      refine x_get (pc := 6) (v := .int (M k 0)) E hP (ReA.lt hk) (sh4 hk) rfl inX4 0 (by decide) q228 rfl dX4_wins_6 ?_
      refine lv_icmp_ge (pc := 9) (tgt := 34) hx hb dX4_wins_9 (by decide) (fun c1 => ?_) (fun c1 => ?_)
      · have h := (if_pos c1).symm.trans h
        refine lv_iload_n (pc := 34) hx hb dX4_wins_34 rfl (lv_at hl 1 rfl) ?_
        obtain rfl := som1 h
        exact x_iret E hP hS rfl dX4_wins_35
      · have h := (if_neg c1).symm.trans h
        refine lv_iload_n (pc := 12) hx hb dX4_wins_12 rfl (lv_at hl 1 rfl) ?_
        refine lv_aload_n (pc := 13) hx hb dX4_wins_13 rfl (lv_at hl 0 rfl) ?_
        refine x_get (pc := 14) (v := .ref (ad (k + 1))) E hP (ReA.lt hk) (sh4 hk) rfl inX4 1 (by decide) q230 rfl dX4_wins_14 ?_
        refine lv_iload_n (pc := 17) hx hb dX4_wins_17 rfl (lv_at hl 2 rfl) ?_
        refine lv_bipush (pc := 18) (v := (7 : Int32)) hx hb dX4_wins_18 (by decide) ?_
        refine lv_imul (pc := 20) hx hb dX4_wins_20 ?_
        refine lv_iconst (pc := 21) (v := (4 : Int32)) hx hb dX4_wins_21 (by decide) ?_
        refine lv_iadd (pc := 22) hx hb dX4_wins_22 ?_
        refine x_callNi (pc := 23) (st := .int ((x2 * (7 : Int32)) + (4 : Int32)) :: .ref (ad (k + 1)) :: .int x1 :: []) (As := [.ref (ad (k + 1)), .int ((x2 * (7 : Int32)) + (4 : Int32))]) E hEx hl.1 hP hS (c_at hap M (lt4a1 hk) (sh4a1 hk) (by decide) _ _ rfl) gcX7_at (hNe _ nw12) q17 q320 hsX7_at rfl ⟨Nat.le_of_ble_eq_true rfl, Nat.le_of_ble_eq_true rfl⟩ ⟨rfl, rfl⟩ dX4_wins_23 rfl (Nat.le_of_ble_eq_true rfl) (fun H locs hP hS n2 => ?_)
        refine lv_iadd (pc := 26) hx hb dX4_wins_26 ?_
        obtain ⟨y3, hy3, h⟩ := thn_ex h
        refine W.eq (g2 := F0 m 27 ls (.int y3 :: [])) (by rw [← hy3]) ?_
        refine lv_istore_n (pc := 27) (lv' := [(1, .int y3), (0, .ref (ad k)), (2, .int x2)]) hx hb dX4_wins_27 rfl hl (by decide) rfl (fun ls hl => ?_)
        refine lv_iinc (pc := 28) (v := (x2 + 1)) (lv' := [(2, .int (x2 + 1)), (1, .int y3), (0, .ref (ad k))]) hx hb dX4_wins_28 hl (k := 2) rfl rfl (by decide) rfl (fun ls hl => ?_)
        refine lv_goto (pc := 31) (tgt := 4) hx hb dX4_wins_31 (by decide) ?_
        exact ih M y3 (x2 + 1) _ _ _ h hP hS (lv_sub hl [2, 1, 0] rfl)
  unfold fX4_wins at h
  refine lv_iconst (pc := 0) (v := (0 : Int32)) hx hb dX4_wins_0 (by decide) ?_
  refine lv_istore_n (pc := 1) (lv' := [(1, .int (0 : Int32)), (0, .ref (ad k))]) hx hb dX4_wins_1 rfl hl (by decide) rfl (fun ls hl => ?_)
  refine lv_iconst (pc := 2) (v := (0 : Int32)) hx hb dX4_wins_2 (by decide) ?_
  refine lv_istore_n (pc := 3) (lv' := [(2, .int (0 : Int32)), (1, .int (0 : Int32)), (0, .ref (ad k))]) hx hb dX4_wins_3 rfl hl (by decide) rfl (fun ls hl => ?_)
  exact hL4 5000 M (0 : Int32) (0 : Int32) _ _ _ h hP hS (lv_sub hl [2, 1, 0] rfl)
set_option maxRecDepth 100000 in
set_option maxHeartbeats 4000000 in
theorem kJ6_bitCount_0f7a4 (hap : Apart 78 ad)   (M : Mem) (x0 : Int32) (v : Int32) (h : fJ6_bitCount_0f7a4 M x0 = v) : XI G ad sK sV cA cZ cC yJ6_bitCount_0f7a4 cJ6_bitCount_0f7a4 1 .int ({ frames := 0, cells := 0, slots := 0, locals := 0 } : Room) [.int x0] M v M := by
  refine CI.mk (own := RJ6) (ls0 := [(0, .int x0)]) (by decide +kernel) rfl hap (Nat.le_of_ble_eq_true rfl) rfl ?_
  intro p l e s m args below meth c ls E hP hl
  have hx := E.1
  have hb := E.2.1
  have hown := E.2.2.2.2.2.1
  have hts := E.2.2.2.2.2.2.1
  have hNe := E.2.2.2.2.2.2.2.2.1.1
  have hEx := ExX.ok ad sK sV
  have hS : va_S (AW 78 ad) s.heap s.heap [] := va_S.rf
  unfold fJ6_bitCount_0f7a4 at h
  refine lv_iload_n (pc := 0) hx hb dJ6_bitCount_0f7a4_0 rfl (lv_at hl 0 rfl) ?_
  refine lv_iload_n (pc := 1) hx hb dJ6_bitCount_0f7a4_1 rfl (lv_at hl 0 rfl) ?_
  refine lv_iconst (pc := 2) (v := (1 : Int32)) hx hb dJ6_bitCount_0f7a4_2 (by decide) ?_
  refine lv_iushr (pc := 3) (v := ((x0.toUInt32 >>> ((1 : Int32).toUInt32 &&& Int32.toUInt32 31)).toInt32)) hx hb dJ6_bitCount_0f7a4_3 rfl ?_
  refine lv_ldcw (pc := 4) (v := (1431655765 : Int32)) hx hb hown (hts _ q536) dJ6_bitCount_0f7a4_4 ?_
  refine lv_iand (pc := 7) hx hb dJ6_bitCount_0f7a4_7 ?_
  refine lv_isub (pc := 8) hx hb dJ6_bitCount_0f7a4_8 ?_
  obtain ⟨y1, hy1, h⟩ := thn_ex h
  refine W.eq (g2 := F0 m 9 ls (.int y1 :: [])) (by rw [← hy1]) ?_
  refine lv_istore_n (pc := 9) (lv' := [(0, .int y1)]) hx hb dJ6_bitCount_0f7a4_9 rfl hl (by decide) rfl (fun ls hl => ?_)
  refine lv_iload_n (pc := 10) hx hb dJ6_bitCount_0f7a4_10 rfl (lv_at hl 0 rfl) ?_
  refine lv_ldcw (pc := 11) (v := (858993459 : Int32)) hx hb hown (hts _ q537) dJ6_bitCount_0f7a4_11 ?_
  refine lv_iand (pc := 14) hx hb dJ6_bitCount_0f7a4_14 ?_
  refine lv_iload_n (pc := 15) hx hb dJ6_bitCount_0f7a4_15 rfl (lv_at hl 0 rfl) ?_
  refine lv_iconst (pc := 16) (v := (2 : Int32)) hx hb dJ6_bitCount_0f7a4_16 (by decide) ?_
  refine lv_iushr (pc := 17) (v := ((y1.toUInt32 >>> ((2 : Int32).toUInt32 &&& Int32.toUInt32 31)).toInt32)) hx hb dJ6_bitCount_0f7a4_17 rfl ?_
  refine lv_ldcw (pc := 18) (v := (858993459 : Int32)) hx hb hown (hts _ q537) dJ6_bitCount_0f7a4_18 ?_
  refine lv_iand (pc := 21) hx hb dJ6_bitCount_0f7a4_21 ?_
  refine lv_iadd (pc := 22) hx hb dJ6_bitCount_0f7a4_22 ?_
  obtain ⟨y2, hy2, h⟩ := thn_ex h
  refine W.eq (g2 := F0 m 23 ls (.int y2 :: [])) (by rw [← hy2]) ?_
  refine lv_istore_n (pc := 23) (lv' := [(0, .int y2)]) hx hb dJ6_bitCount_0f7a4_23 rfl hl (by decide) rfl (fun ls hl => ?_)
  refine lv_iload_n (pc := 24) hx hb dJ6_bitCount_0f7a4_24 rfl (lv_at hl 0 rfl) ?_
  refine lv_iload_n (pc := 25) hx hb dJ6_bitCount_0f7a4_25 rfl (lv_at hl 0 rfl) ?_
  refine lv_iconst (pc := 26) (v := (4 : Int32)) hx hb dJ6_bitCount_0f7a4_26 (by decide) ?_
  refine lv_iushr (pc := 27) (v := ((y2.toUInt32 >>> ((4 : Int32).toUInt32 &&& Int32.toUInt32 31)).toInt32)) hx hb dJ6_bitCount_0f7a4_27 rfl ?_
  refine lv_iadd (pc := 28) hx hb dJ6_bitCount_0f7a4_28 ?_
  refine lv_ldcw (pc := 29) (v := (252645135 : Int32)) hx hb hown (hts _ q538) dJ6_bitCount_0f7a4_29 ?_
  refine lv_iand (pc := 32) hx hb dJ6_bitCount_0f7a4_32 ?_
  obtain ⟨y3, hy3, h⟩ := thn_ex h
  refine W.eq (g2 := F0 m 33 ls (.int y3 :: [])) (by rw [← hy3]) ?_
  refine lv_istore_n (pc := 33) (lv' := [(0, .int y3)]) hx hb dJ6_bitCount_0f7a4_33 rfl hl (by decide) rfl (fun ls hl => ?_)
  refine lv_iload_n (pc := 34) hx hb dJ6_bitCount_0f7a4_34 rfl (lv_at hl 0 rfl) ?_
  refine lv_iload_n (pc := 35) hx hb dJ6_bitCount_0f7a4_35 rfl (lv_at hl 0 rfl) ?_
  refine lv_bipush (pc := 36) (v := (8 : Int32)) hx hb dJ6_bitCount_0f7a4_36 (by decide) ?_
  refine lv_iushr (pc := 38) (v := ((y3.toUInt32 >>> ((8 : Int32).toUInt32 &&& Int32.toUInt32 31)).toInt32)) hx hb dJ6_bitCount_0f7a4_38 rfl ?_
  refine lv_iadd (pc := 39) hx hb dJ6_bitCount_0f7a4_39 ?_
  obtain ⟨y4, hy4, h⟩ := thn_ex h
  refine W.eq (g2 := F0 m 40 ls (.int y4 :: [])) (by rw [← hy4]) ?_
  refine lv_istore_n (pc := 40) (lv' := [(0, .int y4)]) hx hb dJ6_bitCount_0f7a4_40 rfl hl (by decide) rfl (fun ls hl => ?_)
  refine lv_iload_n (pc := 41) hx hb dJ6_bitCount_0f7a4_41 rfl (lv_at hl 0 rfl) ?_
  refine lv_iload_n (pc := 42) hx hb dJ6_bitCount_0f7a4_42 rfl (lv_at hl 0 rfl) ?_
  refine lv_bipush (pc := 43) (v := (16 : Int32)) hx hb dJ6_bitCount_0f7a4_43 (by decide) ?_
  refine lv_iushr (pc := 45) (v := ((y4.toUInt32 >>> ((16 : Int32).toUInt32 &&& Int32.toUInt32 31)).toInt32)) hx hb dJ6_bitCount_0f7a4_45 rfl ?_
  refine lv_iadd (pc := 46) hx hb dJ6_bitCount_0f7a4_46 ?_
  obtain ⟨y5, hy5, h⟩ := thn_ex h
  refine W.eq (g2 := F0 m 47 ls (.int y5 :: [])) (by rw [← hy5]) ?_
  refine lv_istore_n (pc := 47) (lv' := [(0, .int y5)]) hx hb dJ6_bitCount_0f7a4_47 rfl hl (by decide) rfl (fun ls hl => ?_)
  refine lv_iload_n (pc := 48) hx hb dJ6_bitCount_0f7a4_48 rfl (lv_at hl 0 rfl) ?_
  refine lv_bipush (pc := 49) (v := (63 : Int32)) hx hb dJ6_bitCount_0f7a4_49 (by decide) ?_
  refine lv_iand (pc := 51) hx hb dJ6_bitCount_0f7a4_51 ?_
  obtain rfl : (y5 &&& (63 : Int32)) = v := h
  exact x_iret E hP hS rfl dJ6_bitCount_0f7a4_52
end
