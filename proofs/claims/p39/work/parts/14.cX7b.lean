section
variable {G : va_G} {ad sK sV : Nat → Nat} {cA cZ cC : ClassId}
set_option maxRecDepth 100000 in
set_option maxHeartbeats 4000000 in
theorem kX7_close (hap : Apart 78 ad)   (M : Mem) (x1 : Int32) (v : Int32) (M' : Mem) (h : fX7_close M x1 = some (v, M')) : XI G ad sK sV cA cZ cC yX7_close cX7_close 3 .int ({ frames := 5, cells := 0, slots := 0, locals := 110 } : Room) [.ref (ad 0), .int x1] M v M' := by
  refine CI.mk (own := RX7) (ls0 := [(0, .ref (ad 0)), (1, .int x1)]) (by decide +kernel) rfl hap (Nat.le_of_ble_eq_true rfl) rfl ?_
  intro p l e s m args below meth c ls E hP hl
  have hx := E.1
  have hb := E.2.1
  have hown := E.2.2.2.2.2.1
  have hts := E.2.2.2.2.2.2.1
  have hNe := E.2.2.2.2.2.2.2.2.1.1
  have hEx := ExX.ok ad sK sV
  have hS : va_S (AW 78 ad) s.heap s.heap [] := va_S.rf
  unfold fX7_close at h
  refine lv_aload_n (pc := 0) hx hb dX7_close_0 rfl (lv_at hl 0 rfl) ?_
  refine x_get (pc := 1) (v := .ref (ad 3)) E hP (by decide) sh7 rfl inX7 1 (by decide) q293 rfl dX7_close_1 ?_
  refine x_get (pc := 4) (v := .ref (ad 4)) E hP (StA.lt StA_3) (sh6 StA_3) rfl inX6 0 (by decide) q254 rfl dX7_close_4 ?_
  refine lv_astore_n (pc := 7) (lv' := [(2, .ref (ad 4)), (0, .ref (ad 0)), (1, .int x1)]) hx hb dX7_close_7 rfl hl (by decide) rfl (fun ls hl => ?_)
  refine lv_aload_n (pc := 8) hx hb dX7_close_8 rfl (lv_at hl 0 rfl) ?_
  refine lv_iload_n (pc := 9) hx hb dX7_close_9 rfl (lv_at hl 2 rfl) ?_
  refine x_callVi (pc := 10) (st := .int x1 :: .ref (ad 4) :: []) (As := [.int x1]) E hEx hl.1 hP hS (kX5_hasBox hap RoA_4 M _ _ rfl) gX7_64 hdX5_hasBox rfl (RoA.lt RoA_4) (sh5 RoA_4) rfl ⟨Nat.le_of_ble_eq_true rfl, Nat.le_of_ble_eq_true rfl⟩ ⟨rfl, rfl⟩ dX7_close_10 rfl (Nat.le_of_ble_eq_true rfl) (fun H locs hP hS n1 => ?_)
  refine lv_if_ne (pc := 13) (tgt := 18) hx hb dX7_close_13 (by decide) (fun c2 => ?_) (fun c2 => ?_)
  · have h := (if_neg c2).symm.trans h
    refine lv_iload_n (pc := 18) hx hb dX7_close_18 rfl (lv_at hl 2 rfl) ?_
    refine lv_if_ne (pc := 19) (tgt := 25) hx hb dX7_close_19 (by decide) (fun c3 => ?_) (fun c3 => ?_)
    · have h := (if_neg c3).symm.trans h
      refine lv_aload_n (pc := 25) hx hb dX7_close_25 rfl (lv_at hl 1 rfl) ?_
      refine x_get (pc := 26) (v := .ref (ad 3)) E hP (by decide) sh7 rfl inX7 1 (by decide) q293 rfl dX7_close_26 ?_
      refine x_get (pc := 29) (v := .ref (ad 19)) E hP (StA.lt StA_3) (sh6 StA_3) rfl inX6 2 (by decide) q258 rfl dX7_close_29 ?_
      refine x_get (pc := 32) (v := .int (bz (M 19 0))) E hP (GaA.lt GaA_19) (sh1 GaA_19) rfl inX1 0 (by decide) q184 rfl dX7_close_32 ?_
      refine lv_if_eq (pc := 35) (tgt := 41) hx hb dX7_close_35 (by decide) (fun c4 => ?_) (fun c4 => ?_)
      · have h := (if_pos c4).symm.trans h
        refine lv_aload_n (pc := 41) hx hb dX7_close_41 rfl (lv_at hl 0 rfl) ?_
        refine lv_iload_n (pc := 42) hx hb dX7_close_42 rfl (lv_at hl 2 rfl) ?_
        refine x_callVi (pc := 43) (st := .int x1 :: .ref (ad 4) :: []) (As := [.int x1]) E hEx hl.1 hP hS (kX5_isOpen hap RoA_4 M _ _ rfl) gX7_151 hdX5_isOpen rfl (RoA.lt RoA_4) (sh5 RoA_4) rfl ⟨Nat.le_of_ble_eq_true rfl, Nat.le_of_ble_eq_true rfl⟩ ⟨rfl, rfl⟩ dX7_close_43 rfl (Nat.le_of_ble_eq_true rfl) (fun H locs hP hS n5 => ?_)
        refine lv_if_ne (pc := 46) (tgt := 52) hx hb dX7_close_46 (by decide) (fun c6 => ?_) (fun c6 => ?_)
        · have h := (if_neg c6).symm.trans h
          refine lv_aload_n (pc := 52) hx hb dX7_close_52 rfl (lv_at hl 0 rfl) ?_
          refine x_get (pc := 53) (v := .ref (ad 8)) E hP (RoA.lt RoA_4) (sh5 RoA_4) rfl inX5 4 (by decide) q97 rfl dX7_close_53 ?_
          refine lv_iload_n (pc := 56) hx hb dX7_close_56 rfl (lv_at hl 2 rfl) ?_
          refine lv_iconst (pc := 57) (v := (0 : Int32)) hx hb dX7_close_57 (by decide) ?_
          obtain ⟨M7, hM7, h⟩ := thn_ex h
          refine x_callSv (pc := 58) (st := .int (0 : Int32) :: .int x1 :: .ref (ad 8) :: []) (As := [.ref (ad 8), .int x1, .int (0 : Int32)]) E hEx hl.1 hP hS (c_put hap M (lt5a4 RoA_4) (sh5a4 RoA_4) (by decide) _ _ _ hM7) gX7_47 hsX7_put rfl ⟨Nat.le_of_ble_eq_true rfl, Nat.le_of_ble_eq_true rfl⟩ ⟨rfl, rfl⟩ dX7_close_58 rfl (Nat.le_of_ble_eq_true rfl) (fun H locs hP hS => ?_)
          refine lv_aload_n (pc := 61) hx hb dX7_close_61 rfl (lv_at hl 1 rfl) ?_
          refine x_get (pc := 62) (v := .ref (ad 3)) E hP (by decide) sh7 rfl inX7 1 (by decide) q293 rfl dX7_close_62 ?_
          refine lv_iconst (pc := 65) (v := (1 : Int32)) hx hb dX7_close_65 (by decide) ?_
          obtain ⟨M8, hM8, h⟩ := bnd_ex h
          refine x_callVv (pc := 66) (st := .int (1 : Int32) :: .ref (ad 3) :: []) (As := [.int (1 : Int32)]) E hEx hl.1 hP hS (kX6_pass hap StA_3 M7 _ _ hM8) gX7_197 hdX6_pass rfl (StA.lt StA_3) (sh6 StA_3) rfl ⟨Nat.le_of_ble_eq_true rfl, Nat.le_of_ble_eq_true rfl⟩ ⟨rfl, rfl⟩ dX7_close_66 rfl (Nat.le_of_ble_eq_true rfl) (fun H locs hP hS => ?_)
          refine lv_aload_n (pc := 69) hx hb dX7_close_69 rfl (lv_at hl 0 rfl) ?_
          obtain ⟨y9, hy9, h⟩ := bnd_ex h
          refine x_callVi (pc := 70) (st := .ref (ad 4) :: []) (As := []) E hEx hl.1 hP hS (kX5_openBoxes hap RoA_4 M8  _ hy9) gX7_275 hdX5_openBoxes rfl (RoA.lt RoA_4) (sh5 RoA_4) rfl ⟨Nat.le_of_ble_eq_true rfl, Nat.le_of_ble_eq_true rfl⟩ ⟨rfl, rfl⟩ dX7_close_70 rfl (Nat.le_of_ble_eq_true rfl) (fun H locs hP hS n10 => ?_)
          obtain ⟨rfl, rfl⟩ := som2 h
          exact x_iret E hP hS rfl dX7_close_73
        · have h := (if_pos c6).symm.trans h
          refine lv_bipush (pc := 49) (v := (-5 : Int32)) hx hb dX7_close_49 (by decide) ?_
          obtain ⟨rfl, rfl⟩ := som2 h
          exact x_iret E hP hS rfl dX7_close_51
      · have h := (if_neg c4).symm.trans h
        refine lv_bipush (pc := 38) (v := (-4 : Int32)) hx hb dX7_close_38 (by decide) ?_
        obtain ⟨rfl, rfl⟩ := som2 h
        exact x_iret E hP hS rfl dX7_close_40
    · have h := (if_pos c3).symm.trans h
      refine lv_bipush (pc := 22) (v := (-2 : Int32)) hx hb dX7_close_22 (by decide) ?_
      obtain ⟨rfl, rfl⟩ := som2 h
      exact x_iret E hP hS rfl dX7_close_24
  · have h := (if_pos c2).symm.trans h
    refine lv_iconst (pc := 16) (v := (-1 : Int32)) hx hb dX7_close_16 (by decide) ?_
    obtain ⟨rfl, rfl⟩ := som2 h
    exact x_iret E hP hS rfl dX7_close_17
set_option maxRecDepth 100000 in
set_option maxHeartbeats 4000000 in
theorem kX7_writeOver (hap : Apart 78 ad)   (M : Mem) (x1 : Int32) (v : Int32) (M' : Mem) (h : fX7_writeOver M x1 = some (v, M')) : XI G ad sK sV cA cZ cC yX7_writeOver cX7_writeOver 4 .int ({ frames := 5, cells := 0, slots := 0, locals := 110 } : Room) [.ref (ad 0), .int x1] M v M' := by
  refine CI.mk (own := RX7) (ls0 := [(0, .ref (ad 0)), (1, .int x1)]) (by decide +kernel) rfl hap (Nat.le_of_ble_eq_true rfl) rfl ?_
  intro p l e s m args below meth c ls E hP hl
  have hx := E.1
  have hb := E.2.1
  have hown := E.2.2.2.2.2.1
  have hts := E.2.2.2.2.2.2.1
  have hNe := E.2.2.2.2.2.2.2.2.1.1
  have hEx := ExX.ok ad sK sV
  have hS : va_S (AW 78 ad) s.heap s.heap [] := va_S.rf
  unfold fX7_writeOver at h
  refine lv_aload_n (pc := 0) hx hb dX7_writeOver_0 rfl (lv_at hl 0 rfl) ?_
  refine x_get (pc := 1) (v := .ref (ad 3)) E hP (by decide) sh7 rfl inX7 1 (by decide) q293 rfl dX7_writeOver_1 ?_
  refine x_get (pc := 4) (v := .ref (ad 4)) E hP (StA.lt StA_3) (sh6 StA_3) rfl inX6 0 (by decide) q254 rfl dX7_writeOver_4 ?_
  refine lv_astore_n (pc := 7) (lv' := [(2, .ref (ad 4)), (0, .ref (ad 0)), (1, .int x1)]) hx hb dX7_writeOver_7 rfl hl (by decide) rfl (fun ls hl => ?_)
  refine lv_aload_n (pc := 8) hx hb dX7_writeOver_8 rfl (lv_at hl 0 rfl) ?_
  refine lv_iload_n (pc := 9) hx hb dX7_writeOver_9 rfl (lv_at hl 2 rfl) ?_
  refine x_callVi (pc := 10) (st := .int x1 :: .ref (ad 4) :: []) (As := [.int x1]) E hEx hl.1 hP hS (kX5_hasClue hap RoA_4 M _ _ rfl) gX7_222 hdX5_hasClue rfl (RoA.lt RoA_4) (sh5 RoA_4) rfl ⟨Nat.le_of_ble_eq_true rfl, Nat.le_of_ble_eq_true rfl⟩ ⟨rfl, rfl⟩ dX7_writeOver_10 rfl (Nat.le_of_ble_eq_true rfl) (fun H locs hP hS n1 => ?_)
  refine lv_if_ne (pc := 13) (tgt := 18) hx hb dX7_writeOver_13 (by decide) (fun c2 => ?_) (fun c2 => ?_)
  · have h := (if_neg c2).symm.trans h
    refine lv_aload_n (pc := 18) hx hb dX7_writeOver_18 rfl (lv_at hl 0 rfl) ?_
    refine lv_iload_n (pc := 19) hx hb dX7_writeOver_19 rfl (lv_at hl 2 rfl) ?_
    refine x_callVi (pc := 20) (st := .int x1 :: .ref (ad 4) :: []) (As := [.int x1]) E hEx hl.1 hP hS (kX5_inkLack hap RoA_4 M _ _ rfl) gX7_278 hdX5_inkLack rfl (RoA.lt RoA_4) (sh5 RoA_4) rfl ⟨Nat.le_of_ble_eq_true rfl, Nat.le_of_ble_eq_true rfl⟩ ⟨rfl, rfl⟩ dX7_writeOver_20 rfl (Nat.le_of_ble_eq_true rfl) (fun H locs hP hS n3 => ?_)
    refine lv_istore_n (pc := 23) (lv' := [(3, .int (fX5_inkLack 4 M x1)), (2, .ref (ad 4)), (0, .ref (ad 0)), (1, .int x1)]) hx hb dX7_writeOver_23 rfl hl (by decide) rfl (fun ls hl => ?_)
    refine lv_aload_n (pc := 24) hx hb dX7_writeOver_24 rfl (lv_at hl 2 rfl) ?_
    refine x_get (pc := 25) (v := .ref (ad 3)) E hP (by decide) sh7 rfl inX7 1 (by decide) q293 rfl dX7_writeOver_25 ?_
    refine x_get (pc := 28) (v := .ref (ad 19)) E hP (StA.lt StA_3) (sh6 StA_3) rfl inX6 2 (by decide) q258 rfl dX7_writeOver_28 ?_
    refine x_get (pc := 31) (v := .int (bz (M 19 0))) E hP (GaA.lt GaA_19) (sh1 GaA_19) rfl inX1 0 (by decide) q184 rfl dX7_writeOver_31 ?_
    refine lv_if_ne (pc := 34) (tgt := 48) hx hb dX7_writeOver_34 (by decide) (fun c4 => ?_) (fun c4 => ?_)
    · have h := (if_neg c4).symm.trans h
      refine lv_bipush (pc := 48) (v := (-4 : Int32)) hx hb dX7_writeOver_48 (by decide) ?_
      obtain ⟨rfl, rfl⟩ := som2 h
      exact x_iret E hP hS rfl dX7_writeOver_50
    · have h := (if_pos c4).symm.trans h
      refine lv_iload_n (pc := 37) hx hb dX7_writeOver_37 rfl (lv_at hl 0 rfl) ?_
      refine lv_aload_n (pc := 38) hx hb dX7_writeOver_38 rfl (lv_at hl 2 rfl) ?_
      refine x_get (pc := 39) (v := .ref (ad 3)) E hP (by decide) sh7 rfl inX7 1 (by decide) q293 rfl dX7_writeOver_39 ?_
      refine x_get (pc := 42) (v := .int (M 3 6)) E hP (StA.lt StA_3) (sh6 StA_3) rfl inX6 6 (by decide) q266 rfl dX7_writeOver_42 ?_
      refine lv_icmp_le (pc := 45) (tgt := 51) hx hb dX7_writeOver_45 (by decide) (fun c5 => ?_) (fun c5 => ?_)
      · have h := (if_pos c5).symm.trans h
        refine lv_iload_n (pc := 51) hx hb dX7_writeOver_51 rfl (lv_at hl 0 rfl) ?_
        refine lv_if_ne (pc := 52) (tgt := 58) hx hb dX7_writeOver_52 (by decide) (fun c6 => ?_) (fun c6 => ?_)
        · have h := (if_neg c6).symm.trans h
          refine lv_aload_n (pc := 58) hx hb dX7_writeOver_58 rfl (lv_at hl 2 rfl) ?_
          refine x_get (pc := 59) (v := .ref (ad 3)) E hP (by decide) sh7 rfl inX7 1 (by decide) q293 rfl dX7_writeOver_59 ?_
          refine lv_iload_n (pc := 62) hx hb dX7_writeOver_62 rfl (lv_at hl 3 rfl) ?_
          obtain ⟨M7, hM7, h⟩ := bnd_ex h
          refine x_callVv (pc := 63) (st := .int x1 :: .ref (ad 3) :: []) (As := [.int x1]) E hEx hl.1 hP hS (kX6_refill hap StA_3 M _ _ hM7) gX7_281 hdX6_refill rfl (StA.lt StA_3) (sh6 StA_3) rfl ⟨Nat.le_of_ble_eq_true rfl, Nat.le_of_ble_eq_true rfl⟩ ⟨rfl, rfl⟩ dX7_writeOver_63 rfl (Nat.le_of_ble_eq_true rfl) (fun H locs hP hS => ?_)
          refine lv_aload_n (pc := 66) hx hb dX7_writeOver_66 rfl (lv_at hl 2 rfl) ?_
          refine x_get (pc := 67) (v := .ref (ad 3)) E hP (by decide) sh7 rfl inX7 1 (by decide) q293 rfl dX7_writeOver_67 ?_
          refine lv_iconst (pc := 70) (v := (1 : Int32)) hx hb dX7_writeOver_70 (by decide) ?_
          obtain ⟨M8, hM8, h⟩ := bnd_ex h
          refine x_callVv (pc := 71) (st := .int (1 : Int32) :: .ref (ad 3) :: []) (As := [.int (1 : Int32)]) E hEx hl.1 hP hS (kX6_pass hap StA_3 M7 _ _ hM8) gX7_197 hdX6_pass rfl (StA.lt StA_3) (sh6 StA_3) rfl ⟨Nat.le_of_ble_eq_true rfl, Nat.le_of_ble_eq_true rfl⟩ ⟨rfl, rfl⟩ dX7_writeOver_71 rfl (Nat.le_of_ble_eq_true rfl) (fun H locs hP hS => ?_)
          refine lv_iload_n (pc := 74) hx hb dX7_writeOver_74 rfl (lv_at hl 0 rfl) ?_
          obtain ⟨rfl, rfl⟩ := som2 h
          exact x_iret E hP hS rfl dX7_writeOver_75
        · have h := (if_pos c6).symm.trans h
          refine lv_bipush (pc := 55) (v := (-5 : Int32)) hx hb dX7_writeOver_55 (by decide) ?_
          obtain ⟨rfl, rfl⟩ := som2 h
          exact x_iret E hP hS rfl dX7_writeOver_57
      · have h := (if_neg c5).symm.trans h
        refine lv_bipush (pc := 48) (v := (-4 : Int32)) hx hb dX7_writeOver_48 (by decide) ?_
        obtain ⟨rfl, rfl⟩ := som2 h
        exact x_iret E hP hS rfl dX7_writeOver_50
  · have h := (if_pos c2).symm.trans h
    refine lv_iconst (pc := 16) (v := (-1 : Int32)) hx hb dX7_writeOver_16 (by decide) ?_
    obtain ⟨rfl, rfl⟩ := som2 h
    exact x_iret E hP hS rfl dX7_writeOver_17
set_option maxRecDepth 100000 in
set_option maxHeartbeats 4000000 in
theorem kX7_reset (hap : Apart 78 ad)   (M : Mem)  (v : Int32) (M' : Mem) (h : fX7_reset M = some (v, M')) : XI G ad sK sV cA cZ cC yX7_reset cX7_reset 2 .int ({ frames := 5, cells := 0, slots := 0, locals := 110 } : Room) [.ref (ad 0)] M v M' := by
  refine CI.mk (own := RX7) (ls0 := [(0, .ref (ad 0))]) (by decide +kernel) rfl hap (Nat.le_of_ble_eq_true rfl) rfl ?_
  intro p l e s m args below meth c ls E hP hl
  have hx := E.1
  have hb := E.2.1
  have hown := E.2.2.2.2.2.1
  have hts := E.2.2.2.2.2.2.1
  have hNe := E.2.2.2.2.2.2.2.2.1.1
  have hEx := ExX.ok ad sK sV
  have hS : va_S (AW 78 ad) s.heap s.heap [] := va_S.rf
  unfold fX7_reset at h
  refine lv_aload_n (pc := 0) hx hb dX7_reset_0 rfl (lv_at hl 0 rfl) ?_
  refine x_get (pc := 1) (v := .ref (ad 3)) E hP (by decide) sh7 rfl inX7 1 (by decide) q293 rfl dX7_reset_1 ?_
  refine x_get (pc := 4) (v := .ref (ad 19)) E hP (StA.lt StA_3) (sh6 StA_3) rfl inX6 2 (by decide) q258 rfl dX7_reset_4 ?_
  refine x_get (pc := 7) (v := .int (bz (M 19 0))) E hP (GaA.lt GaA_19) (sh1 GaA_19) rfl inX1 0 (by decide) q184 rfl dX7_reset_7 ?_
  refine lv_if_eq (pc := 10) (tgt := 16) hx hb dX7_reset_10 (by decide) (fun c1 => ?_) (fun c1 => ?_)
  · have h := (if_pos c1).symm.trans h
    refine lv_aload_n (pc := 16) hx hb dX7_reset_16 rfl (lv_at hl 0 rfl) ?_
    refine x_get (pc := 17) (v := .ref (ad 3)) E hP (by decide) sh7 rfl inX7 1 (by decide) q293 rfl dX7_reset_17 ?_
    obtain ⟨y2, hy2, h⟩ := bnd_ex h
    refine x_callVi (pc := 20) (st := .ref (ad 3) :: []) (As := []) E hEx hl.1 hP hS (kX6_resetMinutes hap StA_3 M  _ hy2) gX7_284 hdX6_resetMinutes rfl (StA.lt StA_3) (sh6 StA_3) rfl ⟨Nat.le_of_ble_eq_true rfl, Nat.le_of_ble_eq_true rfl⟩ ⟨rfl, rfl⟩ dX7_reset_20 rfl (Nat.le_of_ble_eq_true rfl) (fun H locs hP hS n3 => ?_)
    refine lv_istore_n (pc := 23) (lv' := [(1, .int y2), (0, .ref (ad 0))]) hx hb dX7_reset_23 rfl hl (by decide) rfl (fun ls hl => ?_)
    refine lv_iload_n (pc := 24) hx hb dX7_reset_24 rfl (lv_at hl 0 rfl) ?_
    refine lv_if_ne (pc := 25) (tgt := 31) hx hb dX7_reset_25 (by decide) (fun c4 => ?_) (fun c4 => ?_)
    · have h := (if_neg c4).symm.trans h
      refine lv_aload_n (pc := 31) hx hb dX7_reset_31 rfl (lv_at hl 1 rfl) ?_
      refine x_get (pc := 32) (v := .ref (ad 3)) E hP (by decide) sh7 rfl inX7 1 (by decide) q293 rfl dX7_reset_32 ?_
      obtain ⟨M5, hM5, h⟩ := bnd_ex h
      refine x_callVv (pc := 35) (st := .ref (ad 3) :: []) (As := []) E hEx hl.1 hP hS (kX6_bringToOrder hap StA_3 M  _ hM5) gX7_287 hdX6_bringToOrder rfl (StA.lt StA_3) (sh6 StA_3) rfl ⟨Nat.le_of_ble_eq_true rfl, Nat.le_of_ble_eq_true rfl⟩ ⟨rfl, rfl⟩ dX7_reset_35 rfl (Nat.le_of_ble_eq_true rfl) (fun H locs hP hS => ?_)
      refine lv_aload_n (pc := 38) hx hb dX7_reset_38 rfl (lv_at hl 1 rfl) ?_
      refine x_get (pc := 39) (v := .ref (ad 3)) E hP (by decide) sh7 rfl inX7 1 (by decide) q293 rfl dX7_reset_39 ?_
      refine lv_iload_n (pc := 42) hx hb dX7_reset_42 rfl (lv_at hl 0 rfl) ?_
      obtain ⟨M6, hM6, h⟩ := bnd_ex h
      refine x_callVv (pc := 43) (st := .int y2 :: .ref (ad 3) :: []) (As := [.int y2]) E hEx hl.1 hP hS (kX6_pass hap StA_3 M5 _ _ hM6) gX7_197 hdX6_pass rfl (StA.lt StA_3) (sh6 StA_3) rfl ⟨Nat.le_of_ble_eq_true rfl, Nat.le_of_ble_eq_true rfl⟩ ⟨rfl, rfl⟩ dX7_reset_43 rfl (Nat.le_of_ble_eq_true rfl) (fun H locs hP hS => ?_)
      refine lv_iload_n (pc := 46) hx hb dX7_reset_46 rfl (lv_at hl 0 rfl) ?_
      obtain ⟨rfl, rfl⟩ := som2 h
      exact x_iret E hP hS rfl dX7_reset_47
    · have h := (if_pos c4).symm.trans h
      refine lv_bipush (pc := 28) (v := (-5 : Int32)) hx hb dX7_reset_28 (by decide) ?_
      obtain ⟨rfl, rfl⟩ := som2 h
      exact x_iret E hP hS rfl dX7_reset_30
  · have h := (if_neg c1).symm.trans h
    refine lv_bipush (pc := 13) (v := (-4 : Int32)) hx hb dX7_reset_13 (by decide) ?_
    obtain ⟨rfl, rfl⟩ := som2 h
    exact x_iret E hP hS rfl dX7_reset_15
set_option maxRecDepth 100000 in
set_option maxHeartbeats 4000000 in
theorem kX7_keep (hap : Apart 78 ad)   (M : Mem) (x1 : Int32) (v : Int32) (M' : Mem) (h : fX7_keep M x1 = some (v, M')) : XI G ad sK sV cA cZ cC yX7_keep cX7_keep 2 .int ({ frames := 3, cells := 0, slots := 0, locals := 65 } : Room) [.ref (ad 0), .int x1] M v M' := by
  refine CI.mk (own := RX7) (ls0 := [(0, .ref (ad 0)), (1, .int x1)]) (by decide +kernel) rfl hap (Nat.le_of_ble_eq_true rfl) rfl ?_
  intro p l e s m args below meth c ls E hP hl
  have hx := E.1
  have hb := E.2.1
  have hown := E.2.2.2.2.2.1
  have hts := E.2.2.2.2.2.2.1
  have hNe := E.2.2.2.2.2.2.2.2.1.1
  have hEx := ExX.ok ad sK sV
  have hS : va_S (AW 78 ad) s.heap s.heap [] := va_S.rf
  unfold fX7_keep at h
  refine lv_iload_n (pc := 0) hx hb dX7_keep_0 rfl (lv_at hl 1 rfl) ?_
  refine x_callSi (pc := 1) (st := .int x1 :: []) (As := [.int x1]) E hEx hl.1 hP hS (kX7_isSlot hap  M _ _ rfl) gX7_290 hsX7_isSlot rfl ⟨Nat.le_of_ble_eq_true rfl, Nat.le_of_ble_eq_true rfl⟩ ⟨rfl, rfl⟩ dX7_keep_1 rfl (Nat.le_of_ble_eq_true rfl) (fun H locs hP hS n1 => ?_)
  refine lv_if_ne (pc := 4) (tgt := 9) hx hb dX7_keep_4 (by decide) (fun c2 => ?_) (fun c2 => ?_)
  · have h := (if_neg c2).symm.trans h
    refine lv_aload_n (pc := 9) hx hb dX7_keep_9 rfl (lv_at hl 0 rfl) ?_
    refine lv_iload_n (pc := 10) hx hb dX7_keep_10 rfl (lv_at hl 1 rfl) ?_
    refine x_callVr (pc := 11) (st := .int x1 :: .ref (ad 0) :: []) (As := [.int x1]) E hEx hl.1 hP hS (c_slot hap M _) gX7_293 hdX7_slotState rfl (by decide) sh7 rfl ⟨Nat.le_of_ble_eq_true rfl, Nat.le_of_ble_eq_true rfl⟩ ⟨rfl, rfl⟩ dX7_keep_11 rfl (Nat.le_of_ble_eq_true rfl) (fun H locs hP hS => ?_)
    refine lv_aload_n (pc := 14) hx hb dX7_keep_14 rfl (lv_at hl 0 rfl) ?_
    refine x_get (pc := 15) (v := .ref (ad 3)) E hP (by decide) sh7 rfl inX7 1 (by decide) q293 rfl dX7_keep_15 ?_
    obtain ⟨M3, hM3, h⟩ := bnd_ex h
    refine x_callVv (pc := 18) (st := .ref (ad 3) :: .ref (ad (slotK x1)) :: []) (As := [.ref (ad 3)]) E hEx hl.1 hP hS (kX6_copyFrom hap (slotK_ok x1) StA_3 M  _ hM3) gX7_297 hdX6_copyFrom rfl (StA.lt (slotK_ok x1)) (sh6 (slotK_ok x1)) rfl ⟨Nat.le_of_ble_eq_true rfl, Nat.le_of_ble_eq_true rfl⟩ ⟨rfl, rfl⟩ dX7_keep_18 rfl (Nat.le_of_ble_eq_true rfl) (fun H locs hP hS => ?_)
    refine lv_aload_n (pc := 21) hx hb dX7_keep_21 rfl (lv_at hl 0 rfl) ?_
    refine lv_dup (pc := 22) hx hb dX7_keep_22 rfl ?_
    refine x_get (pc := 23) (v := .int (M3 0 5)) E hP (by decide) sh7 rfl inX7 5 (by decide) q297 rfl dX7_keep_23 ?_
    refine lv_iconst (pc := 26) (v := (1 : Int32)) hx hb dX7_keep_26 (by decide) ?_
    refine lv_iload_n (pc := 27) hx hb dX7_keep_27 rfl (lv_at hl 1 rfl) ?_
    refine lv_ishl (pc := 28) hx hb dX7_keep_28 ?_
    refine lv_ior (pc := 29) hx hb dX7_keep_29 ?_
    obtain ⟨M4, hM4, h⟩ := thn_ex h
    refine x_put (pc := 30) (v := ((M3 0 5) ||| ((1 : Int32) <<< (x1 &&& 31)))) E hP hS (by decide) sh7 tyX7 tyX7_ok nmX7 rfl inX7 5 (by decide) q297 rfl rfl rfl (Nat.le_of_ble_eq_true rfl) rfl dX7_keep_30 (fun H locs hP hS => ?_)
    rw [hM4] at hP
    refine lv_aload_n (pc := 33) hx hb dX7_keep_33 rfl (lv_at hl 0 rfl) ?_
    refine x_get (pc := 34) (v := .ref (ad 3)) E hP (by decide) sh7 rfl inX7 1 (by decide) q293 rfl dX7_keep_34 ?_
    refine x_get (pc := 37) (v := .int (M4 3 5)) E hP (StA.lt StA_3) (sh6 StA_3) rfl inX6 5 (by decide) q264 rfl dX7_keep_37 ?_
    obtain ⟨rfl, rfl⟩ := som2 h
    exact x_iret E hP hS rfl dX7_keep_40
  · have h := (if_pos c2).symm.trans h
    refine lv_iconst (pc := 7) (v := (-1 : Int32)) hx hb dX7_keep_7 (by decide) ?_
    obtain ⟨rfl, rfl⟩ := som2 h
    exact x_iret E hP hS rfl dX7_keep_8
set_option maxRecDepth 100000 in
set_option maxHeartbeats 4000000 in
theorem kX7_restore (hap : Apart 78 ad)   (M : Mem) (x1 : Int32) (v : Int32) (M' : Mem) (h : fX7_restore M x1 = some (v, M')) : XI G ad sK sV cA cZ cC yX7_restore cX7_restore 2 .int ({ frames := 3, cells := 0, slots := 0, locals := 65 } : Room) [.ref (ad 0), .int x1] M v M' := by
  refine CI.mk (own := RX7) (ls0 := [(0, .ref (ad 0)), (1, .int x1)]) (by decide +kernel) rfl hap (Nat.le_of_ble_eq_true rfl) rfl ?_
  intro p l e s m args below meth c ls E hP hl
  have hx := E.1
  have hb := E.2.1
  have hown := E.2.2.2.2.2.1
  have hts := E.2.2.2.2.2.2.1
  have hNe := E.2.2.2.2.2.2.2.2.1.1
  have hEx := ExX.ok ad sK sV
  have hS : va_S (AW 78 ad) s.heap s.heap [] := va_S.rf
  unfold fX7_restore at h
  refine lv_iload_n (pc := 0) hx hb dX7_restore_0 rfl (lv_at hl 1 rfl) ?_
  refine x_callSi (pc := 1) (st := .int x1 :: []) (As := [.int x1]) E hEx hl.1 hP hS (kX7_isSlot hap  M _ _ rfl) gX7_290 hsX7_isSlot rfl ⟨Nat.le_of_ble_eq_true rfl, Nat.le_of_ble_eq_true rfl⟩ ⟨rfl, rfl⟩ dX7_restore_1 rfl (Nat.le_of_ble_eq_true rfl) (fun H locs hP hS n1 => ?_)
  refine lv_if_ne (pc := 4) (tgt := 9) hx hb dX7_restore_4 (by decide) (fun c2 => ?_) (fun c2 => ?_)
  · have h := (if_neg c2).symm.trans h
    refine lv_aload_n (pc := 9) hx hb dX7_restore_9 rfl (lv_at hl 0 rfl) ?_
    refine x_get (pc := 10) (v := .int (M 0 5)) E hP (by decide) sh7 rfl inX7 5 (by decide) q297 rfl dX7_restore_10 ?_
    refine lv_iload_n (pc := 13) hx hb dX7_restore_13 rfl (lv_at hl 1 rfl) ?_
    refine lv_ishr (pc := 14) hx hb dX7_restore_14 ?_
    refine lv_iconst (pc := 15) (v := (1 : Int32)) hx hb dX7_restore_15 (by decide) ?_
    refine lv_iand (pc := 16) hx hb dX7_restore_16 ?_
    refine lv_if_ne (pc := 17) (tgt := 23) hx hb dX7_restore_17 (by decide) (fun c3 => ?_) (fun c3 => ?_)
    · have h := (if_neg c3).symm.trans h
      refine lv_aload_n (pc := 23) hx hb dX7_restore_23 rfl (lv_at hl 0 rfl) ?_
      refine x_get (pc := 24) (v := .ref (ad 3)) E hP (by decide) sh7 rfl inX7 1 (by decide) q293 rfl dX7_restore_24 ?_
      refine lv_aload_n (pc := 27) hx hb dX7_restore_27 rfl (lv_at hl 0 rfl) ?_
      refine lv_iload_n (pc := 28) hx hb dX7_restore_28 rfl (lv_at hl 1 rfl) ?_
      refine x_callVr (pc := 29) (st := .int x1 :: .ref (ad 0) :: .ref (ad 3) :: []) (As := [.int x1]) E hEx hl.1 hP hS (c_slot hap M _) gX7_293 hdX7_slotState rfl (by decide) sh7 rfl ⟨Nat.le_of_ble_eq_true rfl, Nat.le_of_ble_eq_true rfl⟩ ⟨rfl, rfl⟩ dX7_restore_29 rfl (Nat.le_of_ble_eq_true rfl) (fun H locs hP hS => ?_)
      obtain ⟨M4, hM4, h⟩ := bnd_ex h
      refine x_callVv (pc := 32) (st := .ref (ad (slotK x1)) :: .ref (ad 3) :: []) (As := [.ref (ad (slotK x1))]) E hEx hl.1 hP hS (kX6_copyFrom hap StA_3 (slotK_ok x1) M  _ hM4) gX7_297 hdX6_copyFrom rfl (StA.lt StA_3) (sh6 StA_3) rfl ⟨Nat.le_of_ble_eq_true rfl, Nat.le_of_ble_eq_true rfl⟩ ⟨rfl, rfl⟩ dX7_restore_32 rfl (Nat.le_of_ble_eq_true rfl) (fun H locs hP hS => ?_)
      refine lv_aload_n (pc := 35) hx hb dX7_restore_35 rfl (lv_at hl 0 rfl) ?_
      refine x_get (pc := 36) (v := .ref (ad 3)) E hP (by decide) sh7 rfl inX7 1 (by decide) q293 rfl dX7_restore_36 ?_
      refine x_get (pc := 39) (v := .int (M4 3 5)) E hP (StA.lt StA_3) (sh6 StA_3) rfl inX6 5 (by decide) q264 rfl dX7_restore_39 ?_
      obtain ⟨rfl, rfl⟩ := som2 h
      exact x_iret E hP hS rfl dX7_restore_42
    · have h := (if_pos c3).symm.trans h
      refine lv_bipush (pc := 20) (v := (-5 : Int32)) hx hb dX7_restore_20 (by decide) ?_
      obtain ⟨rfl, rfl⟩ := som2 h
      exact x_iret E hP hS rfl dX7_restore_22
  · have h := (if_pos c2).symm.trans h
    refine lv_iconst (pc := 7) (v := (-1 : Int32)) hx hb dX7_restore_7 (by decide) ?_
    obtain ⟨rfl, rfl⟩ := som2 h
    exact x_iret E hP hS rfl dX7_restore_8
set_option maxRecDepth 100000 in
set_option maxHeartbeats 4000000 in
theorem kX7_box (hap : Apart 78 ad)   (M : Mem) (x1 x2 : Int32) (v : Int32) (h : fX7_box M x1 x2 = some v) : XI G ad sK sV cA cZ cC yX7_box cX7_box 4 .int ({ frames := 3, cells := 0, slots := 0, locals := 66 } : Room) [.ref (ad 0), .int x1, .int x2] M v M := by
  refine CI.mk (own := RX7) (ls0 := [(0, .ref (ad 0)), (1, .int x1), (2, .int x2)]) (by decide +kernel) rfl hap (Nat.le_of_ble_eq_true rfl) rfl ?_
  intro p l e s m args below meth c ls E hP hl
  have hx := E.1
  have hb := E.2.1
  have hown := E.2.2.2.2.2.1
  have hts := E.2.2.2.2.2.2.1
  have hNe := E.2.2.2.2.2.2.2.2.1.1
  have hEx := ExX.ok ad sK sV
  have hS : va_S (AW 78 ad) s.heap s.heap [] := va_S.rf
  unfold fX7_box at h
  refine lv_aload_n (pc := 0) hx hb dX7_box_0 rfl (lv_at hl 0 rfl) ?_
  refine x_get (pc := 1) (v := .ref (ad 3)) E hP (by decide) sh7 rfl inX7 1 (by decide) q293 rfl dX7_box_1 ?_
  refine x_get (pc := 4) (v := .ref (ad 4)) E hP (StA.lt StA_3) (sh6 StA_3) rfl inX6 0 (by decide) q254 rfl dX7_box_4 ?_
  refine lv_astore_n (pc := 7) (lv' := [(3, .ref (ad 4)), (0, .ref (ad 0)), (1, .int x1), (2, .int x2)]) hx hb dX7_box_7 rfl hl (by decide) rfl (fun ls hl => ?_)
  refine lv_aload_n (pc := 8) hx hb dX7_box_8 rfl (lv_at hl 0 rfl) ?_
  refine lv_iload_n (pc := 9) hx hb dX7_box_9 rfl (lv_at hl 2 rfl) ?_
  refine x_callVi (pc := 10) (st := .int x1 :: .ref (ad 4) :: []) (As := [.int x1]) E hEx hl.1 hP hS (kX5_hasBox hap RoA_4 M _ _ rfl) gX7_64 hdX5_hasBox rfl (RoA.lt RoA_4) (sh5 RoA_4) rfl ⟨Nat.le_of_ble_eq_true rfl, Nat.le_of_ble_eq_true rfl⟩ ⟨rfl, rfl⟩ dX7_box_10 rfl (Nat.le_of_ble_eq_true rfl) (fun H locs hP hS n1 => ?_)
  refine lv_if_ne (pc := 13) (tgt := 18) hx hb dX7_box_13 (by decide) (fun c2 => ?_) (fun c2 => ?_)
  · have h := (if_neg c2).symm.trans h
    refine lv_iload_n (pc := 18) hx hb dX7_box_18 rfl (lv_at hl 3 rfl) ?_
    by_cases c3 : x2 = (0 : Int32)
    · have h := (if_pos c3).symm.trans h
      refine lv_tableIn (pc := 19) (off := 45) (tgt := 64) hx hb dX7_box_19 (by rw [c3]; decide) (by rw [c3]; decide) (by rw [c3]; decide) (by decide) ?_
      refine lv_iload_n (pc := 64) hx hb dX7_box_64 rfl (lv_at hl 2 rfl) ?_
      refine lv_if_ne (pc := 65) (tgt := 73) hx hb dX7_box_65 (by decide) (fun c26 => ?_) (fun c26 => ?_)
      · have h := (if_neg c26).symm.trans h
        refine lv_aload_n (pc := 73) hx hb dX7_box_73 rfl (lv_at hl 0 rfl) ?_
        refine x_get (pc := 74) (v := .ref (ad 5)) E hP (RoA.lt RoA_4) (sh5 RoA_4) rfl inX5 1 (by decide) q91 rfl dX7_box_74 ?_
        refine lv_iload_n (pc := 77) hx hb dX7_box_77 rfl (lv_at hl 2 rfl) ?_
        refine x_callSi (pc := 78) (st := .int x1 :: .ref (ad 5) :: []) (As := [.ref (ad 5), .int x1]) E hEx hl.1 hP hS (c_at hap M (lt5a1 RoA_4) (sh5a1 RoA_4) (by decide) _ _ rfl) gX7_136 hsX7_at rfl ⟨Nat.le_of_ble_eq_true rfl, Nat.le_of_ble_eq_true rfl⟩ ⟨rfl, rfl⟩ dX7_box_78 rfl (Nat.le_of_ble_eq_true rfl) (fun H locs hP hS n27 => ?_)
        obtain rfl := som1 h
        exact x_iret E hP hS rfl dX7_box_81
      · have h := (if_pos c26).symm.trans h
        refine lv_bipush (pc := 68) (v := (-5 : Int32)) hx hb dX7_box_68 (by decide) ?_
        refine lv_goto (pc := 70) (tgt := 81) hx hb dX7_box_70 (by decide) ?_
        obtain rfl := som1 h
        exact x_iret E hP hS rfl dX7_box_81
    · have h := (if_neg c3).symm.trans h
      by_cases c4 : x2 = (1 : Int32)
      · have h := (if_pos c4).symm.trans h
        refine lv_tableIn (pc := 19) (off := 63) (tgt := 82) hx hb dX7_box_19 (by rw [c4]; decide) (by rw [c4]; decide) (by rw [c4]; decide) (by decide) ?_
        refine lv_iload_n (pc := 82) hx hb dX7_box_82 rfl (lv_at hl 2 rfl) ?_
        refine lv_if_ne (pc := 83) (tgt := 91) hx hb dX7_box_83 (by decide) (fun c24 => ?_) (fun c24 => ?_)
        · have h := (if_neg c24).symm.trans h
          refine lv_aload_n (pc := 91) hx hb dX7_box_91 rfl (lv_at hl 0 rfl) ?_
          refine x_get (pc := 92) (v := .ref (ad 6)) E hP (RoA.lt RoA_4) (sh5 RoA_4) rfl inX5 2 (by decide) q93 rfl dX7_box_92 ?_
          refine lv_iload_n (pc := 95) hx hb dX7_box_95 rfl (lv_at hl 2 rfl) ?_
          refine x_callSi (pc := 96) (st := .int x1 :: .ref (ad 6) :: []) (As := [.ref (ad 6), .int x1]) E hEx hl.1 hP hS (c_at hap M (lt5a2 RoA_4) (sh5a2 RoA_4) (by decide) _ _ rfl) gX7_136 hsX7_at rfl ⟨Nat.le_of_ble_eq_true rfl, Nat.le_of_ble_eq_true rfl⟩ ⟨rfl, rfl⟩ dX7_box_96 rfl (Nat.le_of_ble_eq_true rfl) (fun H locs hP hS n25 => ?_)
          obtain rfl := som1 h
          exact x_iret E hP hS rfl dX7_box_99
        · have h := (if_pos c24).symm.trans h
          refine lv_bipush (pc := 86) (v := (-5 : Int32)) hx hb dX7_box_86 (by decide) ?_
          refine lv_goto (pc := 88) (tgt := 99) hx hb dX7_box_88 (by decide) ?_
          obtain rfl := som1 h
          exact x_iret E hP hS rfl dX7_box_99
      · have h := (if_neg c4).symm.trans h
        by_cases c5 : x2 = (2 : Int32)
        · have h := (if_pos c5).symm.trans h
          refine lv_tableIn (pc := 19) (off := 81) (tgt := 100) hx hb dX7_box_19 (by rw [c5]; decide) (by rw [c5]; decide) (by rw [c5]; decide) (by decide) ?_
          refine lv_aload_n (pc := 100) hx hb dX7_box_100 rfl (lv_at hl 0 rfl) ?_
          refine x_get (pc := 101) (v := .ref (ad 8)) E hP (RoA.lt RoA_4) (sh5 RoA_4) rfl inX5 4 (by decide) q97 rfl dX7_box_101 ?_
          refine lv_iload_n (pc := 104) hx hb dX7_box_104 rfl (lv_at hl 2 rfl) ?_
          refine x_callSi (pc := 105) (st := .int x1 :: .ref (ad 8) :: []) (As := [.ref (ad 8), .int x1]) E hEx hl.1 hP hS (c_at hap M (lt5a4 RoA_4) (sh5a4 RoA_4) (by decide) _ _ rfl) gX7_136 hsX7_at rfl ⟨Nat.le_of_ble_eq_true rfl, Nat.le_of_ble_eq_true rfl⟩ ⟨rfl, rfl⟩ dX7_box_105 rfl (Nat.le_of_ble_eq_true rfl) (fun H locs hP hS n23 => ?_)
          obtain rfl := som1 h
          exact x_iret E hP hS rfl dX7_box_108
        · have h := (if_neg c5).symm.trans h
          by_cases c6 : x2 = (3 : Int32)
          · have h := (if_pos c6).symm.trans h
            refine lv_tableIn (pc := 19) (off := 90) (tgt := 109) hx hb dX7_box_19 (by rw [c6]; decide) (by rw [c6]; decide) (by rw [c6]; decide) (by decide) ?_
            refine lv_aload_n (pc := 109) hx hb dX7_box_109 rfl (lv_at hl 0 rfl) ?_
            refine lv_iload_n (pc := 110) hx hb dX7_box_110 rfl (lv_at hl 2 rfl) ?_
            obtain ⟨y20, hy20, h⟩ := bnd_ex h
            refine x_callVi (pc := 111) (st := .int x1 :: .ref (ad 4) :: []) (As := [.int x1]) E hEx hl.1 hP hS (kX5_boxAtHand hap RoA_4 M _ _ hy20) gX7_305 hdX5_boxAtHand rfl (RoA.lt RoA_4) (sh5 RoA_4) rfl ⟨Nat.le_of_ble_eq_true rfl, Nat.le_of_ble_eq_true rfl⟩ ⟨rfl, rfl⟩ dX7_box_111 rfl (Nat.le_of_ble_eq_true rfl) (fun H locs hP hS n21 => ?_)
            refine x_callSi (pc := 114) (st := .int y20 :: []) (As := [.int y20]) E hEx hl.1 hP hS (kX7_asNumber hap  M _ _ rfl) gX7_308 hsX7_asNumber rfl ⟨Nat.le_of_ble_eq_true rfl, Nat.le_of_ble_eq_true rfl⟩ ⟨rfl, rfl⟩ dX7_box_114 rfl (Nat.le_of_ble_eq_true rfl) (fun H locs hP hS n22 => ?_)
            obtain rfl := som1 h
            exact x_iret E hP hS rfl dX7_box_117
          · have h := (if_neg c6).symm.trans h
            by_cases c7 : x2 = (4 : Int32)
            · have h := (if_pos c7).symm.trans h
              refine lv_tableIn (pc := 19) (off := 99) (tgt := 118) hx hb dX7_box_19 (by rw [c7]; decide) (by rw [c7]; decide) (by rw [c7]; decide) (by decide) ?_
              refine lv_aload_n (pc := 118) hx hb dX7_box_118 rfl (lv_at hl 0 rfl) ?_
              refine lv_iload_n (pc := 119) hx hb dX7_box_119 rfl (lv_at hl 2 rfl) ?_
              obtain ⟨y18, hy18, h⟩ := bnd_ex h
              refine x_callVi (pc := 120) (st := .int x1 :: .ref (ad 4) :: []) (As := [.int x1]) E hEx hl.1 hP hS (kX5_propsIn hap RoA_4 M _ _ hy18) gX7_312 hdX5_propsIn rfl (RoA.lt RoA_4) (sh5 RoA_4) rfl ⟨Nat.le_of_ble_eq_true rfl, Nat.le_of_ble_eq_true rfl⟩ ⟨rfl, rfl⟩ dX7_box_120 rfl (Nat.le_of_ble_eq_true rfl) (fun H locs hP hS n19 => ?_)
              obtain rfl := som1 h
              exact x_iret E hP hS rfl dX7_box_123
            · have h := (if_neg c7).symm.trans h
              by_cases c8 : x2 = (5 : Int32)
              · have h := (if_pos c8).symm.trans h
                refine lv_tableIn (pc := 19) (off := 105) (tgt := 124) hx hb dX7_box_19 (by rw [c8]; decide) (by rw [c8]; decide) (by rw [c8]; decide) (by decide) ?_
                refine lv_aload_n (pc := 124) hx hb dX7_box_124 rfl (lv_at hl 0 rfl) ?_
                refine lv_iload_n (pc := 125) hx hb dX7_box_125 rfl (lv_at hl 2 rfl) ?_
                obtain ⟨y16, hy16, h⟩ := bnd_ex h
                refine x_callVi (pc := 126) (st := .int x1 :: .ref (ad 4) :: []) (As := [.int x1]) E hEx hl.1 hP hS (kX5_boxesIn hap RoA_4 M _ _ hy16) gX7_315 hdX5_boxesIn rfl (RoA.lt RoA_4) (sh5 RoA_4) rfl ⟨Nat.le_of_ble_eq_true rfl, Nat.le_of_ble_eq_true rfl⟩ ⟨rfl, rfl⟩ dX7_box_126 rfl (Nat.le_of_ble_eq_true rfl) (fun H locs hP hS n17 => ?_)
                obtain rfl := som1 h
                exact x_iret E hP hS rfl dX7_box_129
              · have h := (if_neg c8).symm.trans h
                by_cases c9 : x2 = (6 : Int32)
                · have h := (if_pos c9).symm.trans h
                  refine lv_tableIn (pc := 19) (off := 111) (tgt := 130) hx hb dX7_box_19 (by rw [c9]; decide) (by rw [c9]; decide) (by rw [c9]; decide) (by decide) ?_
                  refine lv_iload_n (pc := 130) hx hb dX7_box_130 rfl (lv_at hl 2 rfl) ?_
                  refine lv_if_eq (pc := 131) (tgt := 143) hx hb dX7_box_131 (by decide) (fun c12 => ?_) (fun c12 => ?_)
                  · have h := (if_pos c12).symm.trans h
                    refine lv_bipush (pc := 143) (v := (-5 : Int32)) hx hb dX7_box_143 (by decide) ?_
                    refine lv_goto (pc := 145) (tgt := 156) hx hb dX7_box_145 (by decide) ?_
                    obtain rfl := som1 h
                    exact x_iret E hP hS rfl dX7_box_156
                  · have h := (if_neg c12).symm.trans h
                    refine lv_aload_n (pc := 134) hx hb dX7_box_134 rfl (lv_at hl 0 rfl) ?_
                    refine lv_iload_n (pc := 135) hx hb dX7_box_135 rfl (lv_at hl 2 rfl) ?_
                    refine lv_iconst (pc := 136) (v := (0 : Int32)) hx hb dX7_box_136 (by decide) ?_
                    refine x_callVi (pc := 137) (st := .int (0 : Int32) :: .int x1 :: .ref (ad 4) :: []) (As := [.int x1, .int (0 : Int32)]) E hEx hl.1 hP hS (kX5_hasLock hap RoA_4 M _ _ _ rfl) gX7_98 hdX5_hasLock rfl (RoA.lt RoA_4) (sh5 RoA_4) rfl ⟨Nat.le_of_ble_eq_true rfl, Nat.le_of_ble_eq_true rfl⟩ ⟨rfl, rfl⟩ dX7_box_137 rfl (Nat.le_of_ble_eq_true rfl) (fun H locs hP hS n13 => ?_)
                    refine lv_if_eq (pc := 140) (tgt := 148) hx hb dX7_box_140 (by decide) (fun c14 => ?_) (fun c14 => ?_)
                    · have h := (if_pos c14).symm.trans h
                      refine lv_aload_n (pc := 148) hx hb dX7_box_148 rfl (lv_at hl 0 rfl) ?_
                      refine x_get (pc := 149) (v := .ref (ad 7)) E hP (RoA.lt RoA_4) (sh5 RoA_4) rfl inX5 3 (by decide) q95 rfl dX7_box_149 ?_
                      refine lv_iload_n (pc := 152) hx hb dX7_box_152 rfl (lv_at hl 2 rfl) ?_
                      refine x_callSi (pc := 153) (st := .int x1 :: .ref (ad 7) :: []) (As := [.ref (ad 7), .int x1]) E hEx hl.1 hP hS (c_at hap M (lt5a3 RoA_4) (sh5a3 RoA_4) (by decide) _ _ rfl) gX7_136 hsX7_at rfl ⟨Nat.le_of_ble_eq_true rfl, Nat.le_of_ble_eq_true rfl⟩ ⟨rfl, rfl⟩ dX7_box_153 rfl (Nat.le_of_ble_eq_true rfl) (fun H locs hP hS n15 => ?_)
                      obtain rfl := som1 h
                      exact x_iret E hP hS rfl dX7_box_156
                    · have h := (if_neg c14).symm.trans h
                      refine lv_bipush (pc := 143) (v := (-5 : Int32)) hx hb dX7_box_143 (by decide) ?_
                      refine lv_goto (pc := 145) (tgt := 156) hx hb dX7_box_145 (by decide) ?_
                      obtain rfl := som1 h
                      exact x_iret E hP hS rfl dX7_box_156
                · have h := (if_neg c9).symm.trans h
                  by_cases c10 : x2 = (7 : Int32)
                  · have h := (if_pos c10).symm.trans h
                    refine lv_tableIn (pc := 19) (off := 138) (tgt := 157) hx hb dX7_box_19 (by rw [c10]; decide) (by rw [c10]; decide) (by rw [c10]; decide) (by decide) ?_
                    refine lv_aload_n (pc := 157) hx hb dX7_box_157 rfl (lv_at hl 0 rfl) ?_
                    refine x_get (pc := 158) (v := .ref (ad 9)) E hP (RoA.lt RoA_4) (sh5 RoA_4) rfl inX5 5 (by decide) q99 rfl dX7_box_158 ?_
                    refine lv_iload_n (pc := 161) hx hb dX7_box_161 rfl (lv_at hl 2 rfl) ?_
                    refine x_callSi (pc := 162) (st := .int x1 :: .ref (ad 9) :: []) (As := [.ref (ad 9), .int x1]) E hEx hl.1 hP hS (c_at hap M (lt5a5 RoA_4) (sh5a5 RoA_4) (by decide) _ _ rfl) gX7_136 hsX7_at rfl ⟨Nat.le_of_ble_eq_true rfl, Nat.le_of_ble_eq_true rfl⟩ ⟨rfl, rfl⟩ dX7_box_162 rfl (Nat.le_of_ble_eq_true rfl) (fun H locs hP hS n11 => ?_)
                    obtain rfl := som1 h
                    exact x_iret E hP hS rfl dX7_box_165
                  · have h := (if_neg c10).symm.trans h
                    refine lv_tableOut (pc := 19) (tgt := 166) hx hb dX7_box_19 (by have e0 := ne_lit (k := 0) (by decide) c3; have e1 := ne_lit (k := 1) (by decide) c4; have e2 := ne_lit (k := 2) (by decide) c5; have e3 := ne_lit (k := 3) (by decide) c6; have e4 := ne_lit (k := 4) (by decide) c7; have e5 := ne_lit (k := 5) (by decide) c8; have e6 := ne_lit (k := 6) (by decide) c9; have e7 := ne_lit (k := 7) (by decide) c10; omega) (by decide) ?_
                    refine lv_bipush (pc := 166) (v := (-2 : Int32)) hx hb dX7_box_166 (by decide) ?_
                    obtain rfl := som1 h
                    exact x_iret E hP hS rfl dX7_box_168
  · have h := (if_pos c2).symm.trans h
    refine lv_iconst (pc := 16) (v := (-1 : Int32)) hx hb dX7_box_16 (by decide) ?_
    obtain rfl := som1 h
    exact x_iret E hP hS rfl dX7_box_17
set_option maxRecDepth 100000 in
set_option maxHeartbeats 4000000 in
theorem kX7_prop (hap : Apart 78 ad)   (M : Mem) (x1 x2 : Int32) (v : Int32) (h : fX7_prop M x1 x2 = some v) : XI G ad sK sV cA cZ cC yX7_prop cX7_prop 4 .int ({ frames := 3, cells := 0, slots := 0, locals := 66 } : Room) [.ref (ad 0), .int x1, .int x2] M v M := by
  refine CI.mk (own := RX7) (ls0 := [(0, .ref (ad 0)), (1, .int x1), (2, .int x2)]) (by decide +kernel) rfl hap (Nat.le_of_ble_eq_true rfl) rfl ?_
  intro p l e s m args below meth c ls E hP hl
  have hx := E.1
  have hb := E.2.1
  have hown := E.2.2.2.2.2.1
  have hts := E.2.2.2.2.2.2.1
  have hNe := E.2.2.2.2.2.2.2.2.1.1
  have hEx := ExX.ok ad sK sV
  have hS : va_S (AW 78 ad) s.heap s.heap [] := va_S.rf
  unfold fX7_prop at h
  refine lv_aload_n (pc := 0) hx hb dX7_prop_0 rfl (lv_at hl 0 rfl) ?_
  refine x_get (pc := 1) (v := .ref (ad 3)) E hP (by decide) sh7 rfl inX7 1 (by decide) q293 rfl dX7_prop_1 ?_
  refine x_get (pc := 4) (v := .ref (ad 4)) E hP (StA.lt StA_3) (sh6 StA_3) rfl inX6 0 (by decide) q254 rfl dX7_prop_4 ?_
  refine lv_astore_n (pc := 7) (lv' := [(3, .ref (ad 4)), (0, .ref (ad 0)), (1, .int x1), (2, .int x2)]) hx hb dX7_prop_7 rfl hl (by decide) rfl (fun ls hl => ?_)
  refine lv_aload_n (pc := 8) hx hb dX7_prop_8 rfl (lv_at hl 0 rfl) ?_
  refine lv_iload_n (pc := 9) hx hb dX7_prop_9 rfl (lv_at hl 2 rfl) ?_
  refine x_callVi (pc := 10) (st := .int x1 :: .ref (ad 4) :: []) (As := [.int x1]) E hEx hl.1 hP hS (kX5_hasProp hap RoA_4 M _ _ rfl) gX7_71 hdX5_hasProp rfl (RoA.lt RoA_4) (sh5 RoA_4) rfl ⟨Nat.le_of_ble_eq_true rfl, Nat.le_of_ble_eq_true rfl⟩ ⟨rfl, rfl⟩ dX7_prop_10 rfl (Nat.le_of_ble_eq_true rfl) (fun H locs hP hS n1 => ?_)
  refine lv_if_ne (pc := 13) (tgt := 18) hx hb dX7_prop_13 (by decide) (fun c2 => ?_) (fun c2 => ?_)
  · have h := (if_neg c2).symm.trans h
    refine lv_iload_n (pc := 18) hx hb dX7_prop_18 rfl (lv_at hl 3 rfl) ?_
    by_cases c3 : x2 = (0 : Int32)
    · have h := (if_pos c3).symm.trans h
      refine lv_tableIn (pc := 19) (off := 33) (tgt := 52) hx hb dX7_prop_19 (by rw [c3]; decide) (by rw [c3]; decide) (by rw [c3]; decide) (by decide) ?_
      refine lv_aload_n (pc := 52) hx hb dX7_prop_52 rfl (lv_at hl 0 rfl) ?_
      refine x_get (pc := 53) (v := .ref (ad 10)) E hP (RoA.lt RoA_4) (sh5 RoA_4) rfl inX5 7 (by decide) q103 rfl dX7_prop_53 ?_
      refine lv_iload_n (pc := 56) hx hb dX7_prop_56 rfl (lv_at hl 2 rfl) ?_
      refine x_callSi (pc := 57) (st := .int x1 :: .ref (ad 10) :: []) (As := [.ref (ad 10), .int x1]) E hEx hl.1 hP hS (c_at hap M (lt5a6 RoA_4) (sh5a6 RoA_4) (by decide) _ _ rfl) gX7_136 hsX7_at rfl ⟨Nat.le_of_ble_eq_true rfl, Nat.le_of_ble_eq_true rfl⟩ ⟨rfl, rfl⟩ dX7_prop_57 rfl (Nat.le_of_ble_eq_true rfl) (fun H locs hP hS n18 => ?_)
      obtain rfl := som1 h
      exact x_iret E hP hS rfl dX7_prop_60
    · have h := (if_neg c3).symm.trans h
      by_cases c4 : x2 = (1 : Int32)
      · have h := (if_pos c4).symm.trans h
        refine lv_tableIn (pc := 19) (off := 42) (tgt := 61) hx hb dX7_prop_19 (by rw [c4]; decide) (by rw [c4]; decide) (by rw [c4]; decide) (by decide) ?_
        refine lv_aload_n (pc := 61) hx hb dX7_prop_61 rfl (lv_at hl 0 rfl) ?_
        refine lv_iload_n (pc := 62) hx hb dX7_prop_62 rfl (lv_at hl 2 rfl) ?_
        refine x_callVi (pc := 63) (st := .int x1 :: .ref (ad 4) :: []) (As := [.int x1]) E hEx hl.1 hP hS (kX5_isHeld hap RoA_4 M _ _ rfl) gX7_166 hdX5_isHeld rfl (RoA.lt RoA_4) (sh5 RoA_4) rfl ⟨Nat.le_of_ble_eq_true rfl, Nat.le_of_ble_eq_true rfl⟩ ⟨rfl, rfl⟩ dX7_prop_63 rfl (Nat.le_of_ble_eq_true rfl) (fun H locs hP hS n15 => ?_)
        refine lv_if_eq (pc := 66) (tgt := 74) hx hb dX7_prop_66 (by decide) (fun c16 => ?_) (fun c16 => ?_)
        · have h := (if_pos c16).symm.trans h
          refine lv_aload_n (pc := 74) hx hb dX7_prop_74 rfl (lv_at hl 0 rfl) ?_
          refine x_get (pc := 75) (v := .ref (ad 11)) E hP (RoA.lt RoA_4) (sh5 RoA_4) rfl inX5 8 (by decide) q105 rfl dX7_prop_75 ?_
          refine lv_iload_n (pc := 78) hx hb dX7_prop_78 rfl (lv_at hl 2 rfl) ?_
          refine x_callSi (pc := 79) (st := .int x1 :: .ref (ad 11) :: []) (As := [.ref (ad 11), .int x1]) E hEx hl.1 hP hS (c_at hap M (lt5a7 RoA_4) (sh5a7 RoA_4) (by decide) _ _ rfl) gX7_136 hsX7_at rfl ⟨Nat.le_of_ble_eq_true rfl, Nat.le_of_ble_eq_true rfl⟩ ⟨rfl, rfl⟩ dX7_prop_79 rfl (Nat.le_of_ble_eq_true rfl) (fun H locs hP hS n17 => ?_)
          obtain rfl := som1 h
          exact x_iret E hP hS rfl dX7_prop_82
        · have h := (if_neg c16).symm.trans h
          refine lv_bipush (pc := 69) (v := (-5 : Int32)) hx hb dX7_prop_69 (by decide) ?_
          refine lv_goto (pc := 71) (tgt := 82) hx hb dX7_prop_71 (by decide) ?_
          obtain rfl := som1 h
          exact x_iret E hP hS rfl dX7_prop_82
      · have h := (if_neg c4).symm.trans h
        by_cases c5 : x2 = (2 : Int32)
        · have h := (if_pos c5).symm.trans h
          refine lv_tableIn (pc := 19) (off := 64) (tgt := 83) hx hb dX7_prop_19 (by rw [c5]; decide) (by rw [c5]; decide) (by rw [c5]; decide) (by decide) ?_
          refine lv_aload_n (pc := 83) hx hb dX7_prop_83 rfl (lv_at hl 0 rfl) ?_
          refine lv_iload_n (pc := 84) hx hb dX7_prop_84 rfl (lv_at hl 2 rfl) ?_
          obtain ⟨y12, hy12, h⟩ := bnd_ex h
          refine x_callVi (pc := 85) (st := .int x1 :: .ref (ad 4) :: []) (As := [.int x1]) E hEx hl.1 hP hS (kX5_propAtHand hap RoA_4 M _ _ hy12) gX7_169 hdX5_propAtHand rfl (RoA.lt RoA_4) (sh5 RoA_4) rfl ⟨Nat.le_of_ble_eq_true rfl, Nat.le_of_ble_eq_true rfl⟩ ⟨rfl, rfl⟩ dX7_prop_85 rfl (Nat.le_of_ble_eq_true rfl) (fun H locs hP hS n13 => ?_)
          refine x_callSi (pc := 88) (st := .int y12 :: []) (As := [.int y12]) E hEx hl.1 hP hS (kX7_asNumber hap  M _ _ rfl) gX7_308 hsX7_asNumber rfl ⟨Nat.le_of_ble_eq_true rfl, Nat.le_of_ble_eq_true rfl⟩ ⟨rfl, rfl⟩ dX7_prop_88 rfl (Nat.le_of_ble_eq_true rfl) (fun H locs hP hS n14 => ?_)
          obtain rfl := som1 h
          exact x_iret E hP hS rfl dX7_prop_91
        · have h := (if_neg c5).symm.trans h
          by_cases c6 : x2 = (3 : Int32)
          · have h := (if_pos c6).symm.trans h
            refine lv_tableIn (pc := 19) (off := 73) (tgt := 92) hx hb dX7_prop_19 (by rw [c6]; decide) (by rw [c6]; decide) (by rw [c6]; decide) (by decide) ?_
            refine lv_aload_n (pc := 92) hx hb dX7_prop_92 rfl (lv_at hl 0 rfl) ?_
            refine lv_iload_n (pc := 93) hx hb dX7_prop_93 rfl (lv_at hl 2 rfl) ?_
            obtain ⟨y10, hy10, h⟩ := bnd_ex h
            refine x_callVi (pc := 94) (st := .int x1 :: .ref (ad 4) :: []) (As := [.int x1]) E hEx hl.1 hP hS (kX5_cluesOn hap RoA_4 M _ _ hy10) gX7_321 hdX5_cluesOn rfl (RoA.lt RoA_4) (sh5 RoA_4) rfl ⟨Nat.le_of_ble_eq_true rfl, Nat.le_of_ble_eq_true rfl⟩ ⟨rfl, rfl⟩ dX7_prop_94 rfl (Nat.le_of_ble_eq_true rfl) (fun H locs hP hS n11 => ?_)
            obtain rfl := som1 h
            exact x_iret E hP hS rfl dX7_prop_97
          · have h := (if_neg c6).symm.trans h
            by_cases c7 : x2 = (4 : Int32)
            · have h := (if_pos c7).symm.trans h
              refine lv_tableIn (pc := 19) (off := 79) (tgt := 98) hx hb dX7_prop_19 (by rw [c7]; decide) (by rw [c7]; decide) (by rw [c7]; decide) (by decide) ?_
              refine lv_aload_n (pc := 98) hx hb dX7_prop_98 rfl (lv_at hl 0 rfl) ?_
              refine lv_iload_n (pc := 99) hx hb dX7_prop_99 rfl (lv_at hl 2 rfl) ?_
              obtain ⟨y8, hy8, h⟩ := bnd_ex h
              refine x_callVi (pc := 100) (st := .int x1 :: .ref (ad 4) :: []) (As := [.int x1]) E hEx hl.1 hP hS (kX5_locksWith hap RoA_4 M _ _ hy8) gX7_324 hdX5_locksWith rfl (RoA.lt RoA_4) (sh5 RoA_4) rfl ⟨Nat.le_of_ble_eq_true rfl, Nat.le_of_ble_eq_true rfl⟩ ⟨rfl, rfl⟩ dX7_prop_100 rfl (Nat.le_of_ble_eq_true rfl) (fun H locs hP hS n9 => ?_)
              obtain rfl := som1 h
              exact x_iret E hP hS rfl dX7_prop_103
            · have h := (if_neg c7).symm.trans h
              refine lv_tableOut (pc := 19) (tgt := 104) hx hb dX7_prop_19 (by have e0 := ne_lit (k := 0) (by decide) c3; have e1 := ne_lit (k := 1) (by decide) c4; have e2 := ne_lit (k := 2) (by decide) c5; have e3 := ne_lit (k := 3) (by decide) c6; have e4 := ne_lit (k := 4) (by decide) c7; omega) (by decide) ?_
              refine lv_bipush (pc := 104) (v := (-2 : Int32)) hx hb dX7_prop_104 (by decide) ?_
              obtain rfl := som1 h
              exact x_iret E hP hS rfl dX7_prop_106
  · have h := (if_pos c2).symm.trans h
    refine lv_iconst (pc := 16) (v := (-1 : Int32)) hx hb dX7_prop_16 (by decide) ?_
    obtain rfl := som1 h
    exact x_iret E hP hS rfl dX7_prop_17
set_option maxRecDepth 100000 in
set_option maxHeartbeats 4000000 in
theorem kX7_clue (hap : Apart 78 ad)   (M : Mem) (x1 x2 : Int32) (v : Int32) (h : fX7_clue M x1 x2 = some v) : XI G ad sK sV cA cZ cC yX7_clue cX7_clue 4 .int ({ frames := 3, cells := 0, slots := 0, locals := 66 } : Room) [.ref (ad 0), .int x1, .int x2] M v M := by
  refine CI.mk (own := RX7) (ls0 := [(0, .ref (ad 0)), (1, .int x1), (2, .int x2)]) (by decide +kernel) rfl hap (Nat.le_of_ble_eq_true rfl) rfl ?_
  intro p l e s m args below meth c ls E hP hl
  have hx := E.1
  have hb := E.2.1
  have hown := E.2.2.2.2.2.1
  have hts := E.2.2.2.2.2.2.1
  have hNe := E.2.2.2.2.2.2.2.2.1.1
  have hEx := ExX.ok ad sK sV
  have hS : va_S (AW 78 ad) s.heap s.heap [] := va_S.rf
  unfold fX7_clue at h
  refine lv_aload_n (pc := 0) hx hb dX7_clue_0 rfl (lv_at hl 0 rfl) ?_
  refine x_get (pc := 1) (v := .ref (ad 3)) E hP (by decide) sh7 rfl inX7 1 (by decide) q293 rfl dX7_clue_1 ?_
  refine x_get (pc := 4) (v := .ref (ad 4)) E hP (StA.lt StA_3) (sh6 StA_3) rfl inX6 0 (by decide) q254 rfl dX7_clue_4 ?_
  refine lv_astore_n (pc := 7) (lv' := [(3, .ref (ad 4)), (0, .ref (ad 0)), (1, .int x1), (2, .int x2)]) hx hb dX7_clue_7 rfl hl (by decide) rfl (fun ls hl => ?_)
  refine lv_aload_n (pc := 8) hx hb dX7_clue_8 rfl (lv_at hl 0 rfl) ?_
  refine lv_iload_n (pc := 9) hx hb dX7_clue_9 rfl (lv_at hl 2 rfl) ?_
  refine x_callVi (pc := 10) (st := .int x1 :: .ref (ad 4) :: []) (As := [.int x1]) E hEx hl.1 hP hS (kX5_hasClue hap RoA_4 M _ _ rfl) gX7_222 hdX5_hasClue rfl (RoA.lt RoA_4) (sh5 RoA_4) rfl ⟨Nat.le_of_ble_eq_true rfl, Nat.le_of_ble_eq_true rfl⟩ ⟨rfl, rfl⟩ dX7_clue_10 rfl (Nat.le_of_ble_eq_true rfl) (fun H locs hP hS n1 => ?_)
  refine lv_if_ne (pc := 13) (tgt := 18) hx hb dX7_clue_13 (by decide) (fun c2 => ?_) (fun c2 => ?_)
  · have h := (if_neg c2).symm.trans h
    refine lv_iload_n (pc := 18) hx hb dX7_clue_18 rfl (lv_at hl 3 rfl) ?_
    by_cases c3 : x2 = (0 : Int32)
    · have h := (if_pos c3).symm.trans h
      refine lv_tableIn (pc := 19) (off := 37) (tgt := 56) hx hb dX7_clue_19 (by rw [c3]; decide) (by rw [c3]; decide) (by rw [c3]; decide) (by decide) ?_
      refine lv_aload_n (pc := 56) hx hb dX7_clue_56 rfl (lv_at hl 0 rfl) ?_
      refine x_get (pc := 57) (v := .ref (ad 12)) E hP (RoA.lt RoA_4) (sh5 RoA_4) rfl inX5 10 (by decide) q110 rfl dX7_clue_57 ?_
      refine lv_iload_n (pc := 60) hx hb dX7_clue_60 rfl (lv_at hl 2 rfl) ?_
      refine x_callSi (pc := 61) (st := .int x1 :: .ref (ad 12) :: []) (As := [.ref (ad 12), .int x1]) E hEx hl.1 hP hS (c_at hap M (lt5a8 RoA_4) (sh5a8 RoA_4) (by decide) _ _ rfl) gX7_136 hsX7_at rfl ⟨Nat.le_of_ble_eq_true rfl, Nat.le_of_ble_eq_true rfl⟩ ⟨rfl, rfl⟩ dX7_clue_61 rfl (Nat.le_of_ble_eq_true rfl) (fun H locs hP hS n16 => ?_)
      obtain rfl := som1 h
      exact x_iret E hP hS rfl dX7_clue_64
    · have h := (if_neg c3).symm.trans h
      by_cases c4 : x2 = (1 : Int32)
      · have h := (if_pos c4).symm.trans h
        refine lv_tableIn (pc := 19) (off := 46) (tgt := 65) hx hb dX7_clue_19 (by rw [c4]; decide) (by rw [c4]; decide) (by rw [c4]; decide) (by decide) ?_
        refine lv_aload_n (pc := 65) hx hb dX7_clue_65 rfl (lv_at hl 0 rfl) ?_
        refine x_get (pc := 66) (v := .ref (ad 13)) E hP (RoA.lt RoA_4) (sh5 RoA_4) rfl inX5 11 (by decide) q112 rfl dX7_clue_66 ?_
        refine lv_iload_n (pc := 69) hx hb dX7_clue_69 rfl (lv_at hl 2 rfl) ?_
        refine x_callSi (pc := 70) (st := .int x1 :: .ref (ad 13) :: []) (As := [.ref (ad 13), .int x1]) E hEx hl.1 hP hS (c_at hap M (lt5a9 RoA_4) (sh5a9 RoA_4) (by decide) _ _ rfl) gX7_136 hsX7_at rfl ⟨Nat.le_of_ble_eq_true rfl, Nat.le_of_ble_eq_true rfl⟩ ⟨rfl, rfl⟩ dX7_clue_70 rfl (Nat.le_of_ble_eq_true rfl) (fun H locs hP hS n15 => ?_)
        obtain rfl := som1 h
        exact x_iret E hP hS rfl dX7_clue_73
      · have h := (if_neg c4).symm.trans h
        by_cases c5 : x2 = (2 : Int32)
        · have h := (if_pos c5).symm.trans h
          refine lv_tableIn (pc := 19) (off := 55) (tgt := 74) hx hb dX7_clue_19 (by rw [c5]; decide) (by rw [c5]; decide) (by rw [c5]; decide) (by decide) ?_
          refine lv_aload_n (pc := 74) hx hb dX7_clue_74 rfl (lv_at hl 0 rfl) ?_
          refine x_get (pc := 75) (v := .ref (ad 14)) E hP (RoA.lt RoA_4) (sh5 RoA_4) rfl inX5 12 (by decide) q114 rfl dX7_clue_75 ?_
          refine lv_iload_n (pc := 78) hx hb dX7_clue_78 rfl (lv_at hl 2 rfl) ?_
          refine x_callSi (pc := 79) (st := .int x1 :: .ref (ad 14) :: []) (As := [.ref (ad 14), .int x1]) E hEx hl.1 hP hS (c_at hap M (lt5a10 RoA_4) (sh5a10 RoA_4) (by decide) _ _ rfl) gX7_136 hsX7_at rfl ⟨Nat.le_of_ble_eq_true rfl, Nat.le_of_ble_eq_true rfl⟩ ⟨rfl, rfl⟩ dX7_clue_79 rfl (Nat.le_of_ble_eq_true rfl) (fun H locs hP hS n14 => ?_)
          obtain rfl := som1 h
          exact x_iret E hP hS rfl dX7_clue_82
        · have h := (if_neg c5).symm.trans h
          by_cases c6 : x2 = (3 : Int32)
          · have h := (if_pos c6).symm.trans h
            refine lv_tableIn (pc := 19) (off := 64) (tgt := 83) hx hb dX7_clue_19 (by rw [c6]; decide) (by rw [c6]; decide) (by rw [c6]; decide) (by decide) ?_
            refine lv_aload_n (pc := 83) hx hb dX7_clue_83 rfl (lv_at hl 0 rfl) ?_
            refine x_get (pc := 84) (v := .ref (ad 15)) E hP (RoA.lt RoA_4) (sh5 RoA_4) rfl inX5 13 (by decide) q117 rfl dX7_clue_84 ?_
            refine lv_iload_n (pc := 87) hx hb dX7_clue_87 rfl (lv_at hl 2 rfl) ?_
            refine x_callSi (pc := 88) (st := .int x1 :: .ref (ad 15) :: []) (As := [.ref (ad 15), .int x1]) E hEx hl.1 hP hS (c_at hap M (lt5a11 RoA_4) (sh5a11 RoA_4) (by decide) _ _ rfl) gX7_136 hsX7_at rfl ⟨Nat.le_of_ble_eq_true rfl, Nat.le_of_ble_eq_true rfl⟩ ⟨rfl, rfl⟩ dX7_clue_88 rfl (Nat.le_of_ble_eq_true rfl) (fun H locs hP hS n13 => ?_)
            obtain rfl := som1 h
            exact x_iret E hP hS rfl dX7_clue_91
          · have h := (if_neg c6).symm.trans h
            by_cases c7 : x2 = (4 : Int32)
            · have h := (if_pos c7).symm.trans h
              refine lv_tableIn (pc := 19) (off := 73) (tgt := 92) hx hb dX7_clue_19 (by rw [c7]; decide) (by rw [c7]; decide) (by rw [c7]; decide) (by decide) ?_
              refine lv_aload_n (pc := 92) hx hb dX7_clue_92 rfl (lv_at hl 0 rfl) ?_
              refine lv_iload_n (pc := 93) hx hb dX7_clue_93 rfl (lv_at hl 2 rfl) ?_
              refine x_callVi (pc := 94) (st := .int x1 :: .ref (ad 4) :: []) (As := [.int x1]) E hEx hl.1 hP hS (kX5_clueDigit hap RoA_4 M _ _ rfl) gX7_239 hdX5_clueDigit rfl (RoA.lt RoA_4) (sh5 RoA_4) rfl ⟨Nat.le_of_ble_eq_true rfl, Nat.le_of_ble_eq_true rfl⟩ ⟨rfl, rfl⟩ dX7_clue_94 rfl (Nat.le_of_ble_eq_true rfl) (fun H locs hP hS n12 => ?_)
              obtain rfl := som1 h
              exact x_iret E hP hS rfl dX7_clue_97
            · have h := (if_neg c7).symm.trans h
              by_cases c8 : x2 = (5 : Int32)
              · have h := (if_pos c8).symm.trans h
                refine lv_tableIn (pc := 19) (off := 79) (tgt := 98) hx hb dX7_clue_19 (by rw [c8]; decide) (by rw [c8]; decide) (by rw [c8]; decide) (by decide) ?_
                refine lv_aload_n (pc := 98) hx hb dX7_clue_98 rfl (lv_at hl 0 rfl) ?_
                refine lv_iload_n (pc := 99) hx hb dX7_clue_99 rfl (lv_at hl 2 rfl) ?_
                obtain ⟨y9, hy9, h⟩ := bnd_ex h
                refine x_callVi (pc := 100) (st := .int x1 :: .ref (ad 4) :: []) (As := [.int x1]) E hEx hl.1 hP hS (kX5_clueAtHand hap RoA_4 M _ _ hy9) gX7_225 hdX5_clueAtHand rfl (RoA.lt RoA_4) (sh5 RoA_4) rfl ⟨Nat.le_of_ble_eq_true rfl, Nat.le_of_ble_eq_true rfl⟩ ⟨rfl, rfl⟩ dX7_clue_100 rfl (Nat.le_of_ble_eq_true rfl) (fun H locs hP hS n10 => ?_)
                refine x_callSi (pc := 103) (st := .int y9 :: []) (As := [.int y9]) E hEx hl.1 hP hS (kX7_asNumber hap  M _ _ rfl) gX7_308 hsX7_asNumber rfl ⟨Nat.le_of_ble_eq_true rfl, Nat.le_of_ble_eq_true rfl⟩ ⟨rfl, rfl⟩ dX7_clue_103 rfl (Nat.le_of_ble_eq_true rfl) (fun H locs hP hS n11 => ?_)
                obtain rfl := som1 h
                exact x_iret E hP hS rfl dX7_clue_106
              · have h := (if_neg c8).symm.trans h
                refine lv_tableOut (pc := 19) (tgt := 107) hx hb dX7_clue_19 (by have e0 := ne_lit (k := 0) (by decide) c3; have e1 := ne_lit (k := 1) (by decide) c4; have e2 := ne_lit (k := 2) (by decide) c5; have e3 := ne_lit (k := 3) (by decide) c6; have e4 := ne_lit (k := 4) (by decide) c7; have e5 := ne_lit (k := 5) (by decide) c8; omega) (by decide) ?_
                refine lv_bipush (pc := 107) (v := (-2 : Int32)) hx hb dX7_clue_107 (by decide) ?_
                obtain rfl := som1 h
                exact x_iret E hP hS rfl dX7_clue_109
  · have h := (if_pos c2).symm.trans h
    refine lv_iconst (pc := 16) (v := (-1 : Int32)) hx hb dX7_clue_16 (by decide) ?_
    obtain rfl := som1 h
    exact x_iret E hP hS rfl dX7_clue_17
set_option maxRecDepth 100000 in
set_option maxHeartbeats 4000000 in
theorem kX7_game (hap : Apart 78 ad)   (M : Mem) (x1 : Int32) (v : Int32) (h : fX7_game M x1 = some v) : XI G ad sK sV cA cZ cC yX7_game cX7_game 2 .int ({ frames := 3, cells := 0, slots := 0, locals := 64 } : Room) [.ref (ad 0), .int x1] M v M := by
  refine CI.mk (own := RX7) (ls0 := [(0, .ref (ad 0)), (1, .int x1)]) (by decide +kernel) rfl hap (Nat.le_of_ble_eq_true rfl) rfl ?_
  intro p l e s m args below meth c ls E hP hl
  have hx := E.1
  have hb := E.2.1
  have hown := E.2.2.2.2.2.1
  have hts := E.2.2.2.2.2.2.1
  have hNe := E.2.2.2.2.2.2.2.2.1.1
  have hEx := ExX.ok ad sK sV
  have hS : va_S (AW 78 ad) s.heap s.heap [] := va_S.rf
  unfold fX7_game at h
  refine lv_iload_n (pc := 0) hx hb dX7_game_0 rfl (lv_at hl 1 rfl) ?_
  refine lv_if_lt (pc := 1) (tgt := 9) hx hb dX7_game_1 (by decide) (fun c1 => ?_) (fun c1 => ?_)
  · have h := (if_pos c1).symm.trans h
    refine lv_bipush (pc := 9) (v := (-2 : Int32)) hx hb dX7_game_9 (by decide) ?_
    obtain rfl := som1 h
    exact x_iret E hP hS rfl dX7_game_11
  · have h := (if_neg c1).symm.trans h
    refine lv_iload_n (pc := 4) hx hb dX7_game_4 rfl (lv_at hl 1 rfl) ?_
    refine lv_iconst (pc := 5) (v := (5 : Int32)) hx hb dX7_game_5 (by decide) ?_
    refine lv_icmp_le (pc := 6) (tgt := 12) hx hb dX7_game_6 (by decide) (fun c2 => ?_) (fun c2 => ?_)
    · have h := (if_pos c2).symm.trans h
      refine lv_aload_n (pc := 12) hx hb dX7_game_12 rfl (lv_at hl 0 rfl) ?_
      refine x_get (pc := 13) (v := .ref (ad 3)) E hP (by decide) sh7 rfl inX7 1 (by decide) q293 rfl dX7_game_13 ?_
      refine x_get (pc := 16) (v := .ref (ad 19)) E hP (StA.lt StA_3) (sh6 StA_3) rfl inX6 2 (by decide) q258 rfl dX7_game_16 ?_
      refine x_get (pc := 19) (v := .int (bz (M 19 0))) E hP (GaA.lt GaA_19) (sh1 GaA_19) rfl inX1 0 (by decide) q184 rfl dX7_game_19 ?_
      refine lv_if_ne (pc := 22) (tgt := 28) hx hb dX7_game_22 (by decide) (fun c3 => ?_) (fun c3 => ?_)
      · have h := (if_neg c3).symm.trans h
        refine lv_iload_n (pc := 28) hx hb dX7_game_28 rfl (lv_at hl 1 rfl) ?_
        by_cases c4 : x1 = (0 : Int32)
        · have h := (if_pos c4).symm.trans h
          refine lv_tableIn (pc := 29) (off := 35) (tgt := 64) hx hb dX7_game_29 (by rw [c4]; decide) (by rw [c4]; decide) (by rw [c4]; decide) (by decide) ?_
          refine lv_aload_n (pc := 64) hx hb dX7_game_64 rfl (lv_at hl 0 rfl) ?_
          refine x_get (pc := 65) (v := .ref (ad 3)) E hP (by decide) sh7 rfl inX7 1 (by decide) q293 rfl dX7_game_65 ?_
          refine x_get (pc := 68) (v := .ref (ad 19)) E hP (StA.lt StA_3) (sh6 StA_3) rfl inX6 2 (by decide) q258 rfl dX7_game_68 ?_
          refine x_get (pc := 71) (v := .int (M 19 1)) E hP (GaA.lt GaA_19) (sh1 GaA_19) rfl inX1 1 (by decide) q189 rfl dX7_game_71 ?_
          obtain rfl := som1 h
          exact x_iret E hP hS rfl dX7_game_74
        · have h := (if_neg c4).symm.trans h
          by_cases c5 : x1 = (1 : Int32)
          · have h := (if_pos c5).symm.trans h
            refine lv_tableIn (pc := 29) (off := 46) (tgt := 75) hx hb dX7_game_29 (by rw [c5]; decide) (by rw [c5]; decide) (by rw [c5]; decide) (by decide) ?_
            refine lv_aload_n (pc := 75) hx hb dX7_game_75 rfl (lv_at hl 0 rfl) ?_
            refine x_get (pc := 76) (v := .ref (ad 3)) E hP (by decide) sh7 rfl inX7 1 (by decide) q293 rfl dX7_game_76 ?_
            refine x_get (pc := 79) (v := .ref (ad 19)) E hP (StA.lt StA_3) (sh6 StA_3) rfl inX6 2 (by decide) q258 rfl dX7_game_79 ?_
            refine x_get (pc := 82) (v := .int (M 19 3)) E hP (GaA.lt GaA_19) (sh1 GaA_19) rfl inX1 3 (by decide) q196 rfl dX7_game_82 ?_
            obtain rfl := som1 h
            exact x_iret E hP hS rfl dX7_game_85
          · have h := (if_neg c5).symm.trans h
            by_cases c6 : x1 = (2 : Int32)
            · have h := (if_pos c6).symm.trans h
              refine lv_tableIn (pc := 29) (off := 57) (tgt := 86) hx hb dX7_game_29 (by rw [c6]; decide) (by rw [c6]; decide) (by rw [c6]; decide) (by decide) ?_
              refine lv_aload_n (pc := 86) hx hb dX7_game_86 rfl (lv_at hl 0 rfl) ?_
              refine x_get (pc := 87) (v := .ref (ad 3)) E hP (by decide) sh7 rfl inX7 1 (by decide) q293 rfl dX7_game_87 ?_
              refine x_callVi (pc := 90) (st := .ref (ad 3) :: []) (As := []) E hEx hl.1 hP hS (kX6_minutesLeft hap StA_3 M  _ rfl) gX7_244 hdX6_minutesLeft rfl (StA.lt StA_3) (sh6 StA_3) rfl ⟨Nat.le_of_ble_eq_true rfl, Nat.le_of_ble_eq_true rfl⟩ ⟨rfl, rfl⟩ dX7_game_90 rfl (Nat.le_of_ble_eq_true rfl) (fun H locs hP hS n11 => ?_)
              obtain rfl := som1 h
              exact x_iret E hP hS rfl dX7_game_93
            · have h := (if_neg c6).symm.trans h
              by_cases c7 : x1 = (3 : Int32)
              · have h := (if_pos c7).symm.trans h
                refine lv_tableIn (pc := 29) (off := 65) (tgt := 94) hx hb dX7_game_29 (by rw [c7]; decide) (by rw [c7]; decide) (by rw [c7]; decide) (by decide) ?_
                refine lv_aload_n (pc := 94) hx hb dX7_game_94 rfl (lv_at hl 0 rfl) ?_
                refine x_get (pc := 95) (v := .ref (ad 3)) E hP (by decide) sh7 rfl inX7 1 (by decide) q293 rfl dX7_game_95 ?_
                refine x_get (pc := 98) (v := .ref (ad 19)) E hP (StA.lt StA_3) (sh6 StA_3) rfl inX6 2 (by decide) q258 rfl dX7_game_98 ?_
                refine x_get (pc := 101) (v := .int (M 19 4)) E hP (GaA.lt GaA_19) (sh1 GaA_19) rfl inX1 4 (by decide) q200 rfl dX7_game_101 ?_
                obtain rfl := som1 h
                exact x_iret E hP hS rfl dX7_game_104
              · have h := (if_neg c7).symm.trans h
                by_cases c8 : x1 = (4 : Int32)
                · have h := (if_pos c8).symm.trans h
                  refine lv_tableIn (pc := 29) (off := 76) (tgt := 105) hx hb dX7_game_29 (by rw [c8]; decide) (by rw [c8]; decide) (by rw [c8]; decide) (by decide) ?_
                  refine lv_aload_n (pc := 105) hx hb dX7_game_105 rfl (lv_at hl 0 rfl) ?_
                  refine x_get (pc := 106) (v := .ref (ad 3)) E hP (by decide) sh7 rfl inX7 1 (by decide) q293 rfl dX7_game_106 ?_
                  refine x_get (pc := 109) (v := .ref (ad 4)) E hP (StA.lt StA_3) (sh6 StA_3) rfl inX6 0 (by decide) q254 rfl dX7_game_109 ?_
                  obtain ⟨y9, hy9, h⟩ := bnd_ex h
                  refine x_callVi (pc := 112) (st := .ref (ad 4) :: []) (As := []) E hEx hl.1 hP hS (kX5_heldBits hap RoA_4 M  _ hy9) gX7_342 hdX5_heldBits rfl (RoA.lt RoA_4) (sh5 RoA_4) rfl ⟨Nat.le_of_ble_eq_true rfl, Nat.le_of_ble_eq_true rfl⟩ ⟨rfl, rfl⟩ dX7_game_112 rfl (Nat.le_of_ble_eq_true rfl) (fun H locs hP hS n10 => ?_)
                  obtain rfl := som1 h
                  exact x_iret E hP hS rfl dX7_game_115
                · have h := (if_neg c8).symm.trans h
                  refine lv_tableOut (pc := 29) (tgt := 116) hx hb dX7_game_29 (by have e0 := ne_lit (k := 0) (by decide) c4; have e1 := ne_lit (k := 1) (by decide) c5; have e2 := ne_lit (k := 2) (by decide) c6; have e3 := ne_lit (k := 3) (by decide) c7; have e4 := ne_lit (k := 4) (by decide) c8; omega) (by decide) ?_
                  refine lv_aload_n (pc := 116) hx hb dX7_game_116 rfl (lv_at hl 0 rfl) ?_
                  refine x_get (pc := 117) (v := .ref (ad 3)) E hP (by decide) sh7 rfl inX7 1 (by decide) q293 rfl dX7_game_117 ?_
                  refine x_get (pc := 120) (v := .ref (ad 19)) E hP (StA.lt StA_3) (sh6 StA_3) rfl inX6 2 (by decide) q258 rfl dX7_game_120 ?_
                  refine x_get (pc := 123) (v := .int (M 19 5)) E hP (GaA.lt GaA_19) (sh1 GaA_19) rfl inX1 5 (by decide) q203 rfl dX7_game_123 ?_
                  obtain rfl := som1 h
                  exact x_iret E hP hS rfl dX7_game_126
      · have h := (if_pos c3).symm.trans h
        refine lv_bipush (pc := 25) (v := (-4 : Int32)) hx hb dX7_game_25 (by decide) ?_
        obtain rfl := som1 h
        exact x_iret E hP hS rfl dX7_game_27
    · have h := (if_neg c2).symm.trans h
      refine lv_bipush (pc := 9) (v := (-2 : Int32)) hx hb dX7_game_9 (by decide) ?_
      obtain rfl := som1 h
      exact x_iret E hP hS rfl dX7_game_11
set_option maxRecDepth 100000 in
set_option maxHeartbeats 4000000 in
theorem kX7_group (hap : Apart 78 ad)   (M : Mem) (x1 x2 : Int32) (v : Int32) (h : fX7_group M x1 x2 = some v) : XI G ad sK sV cA cZ cC yX7_group cX7_group 3 .int ({ frames := 2, cells := 0, slots := 0, locals := 44 } : Room) [.ref (ad 0), .int x1, .int x2] M v M := by
  refine CI.mk (own := RX7) (ls0 := [(0, .ref (ad 0)), (1, .int x1), (2, .int x2)]) (by decide +kernel) rfl hap (Nat.le_of_ble_eq_true rfl) rfl ?_
  intro p l e s m args below meth c ls E hP hl
  have hx := E.1
  have hb := E.2.1
  have hown := E.2.2.2.2.2.1
  have hts := E.2.2.2.2.2.2.1
  have hNe := E.2.2.2.2.2.2.2.2.1.1
  have hEx := ExX.ok ad sK sV
  have hS : va_S (AW 78 ad) s.heap s.heap [] := va_S.rf
  unfold fX7_group at h
  refine lv_aload_n (pc := 0) hx hb dX7_group_0 rfl (lv_at hl 0 rfl) ?_
  refine x_get (pc := 1) (v := .ref (ad 3)) E hP (by decide) sh7 rfl inX7 1 (by decide) q293 rfl dX7_group_1 ?_
  refine x_get (pc := 4) (v := .ref (ad 16)) E hP (StA.lt StA_3) (sh6 StA_3) rfl inX6 1 (by decide) q256 rfl dX7_group_4 ?_
  refine lv_iload_n (pc := 7) hx hb dX7_group_7 rfl (lv_at hl 1 rfl) ?_
  refine x_callVi (pc := 8) (st := .int x1 :: .ref (ad 16) :: []) (As := [.int x1]) E hEx hl.1 hP hS (kX3_hasGroup hap QuA_16 M _ _ rfl) gX7_144 hdX3_hasGroup rfl (QuA.lt QuA_16) (sh3 QuA_16) rfl ⟨Nat.le_of_ble_eq_true rfl, Nat.le_of_ble_eq_true rfl⟩ ⟨rfl, rfl⟩ dX7_group_8 rfl (Nat.le_of_ble_eq_true rfl) (fun H locs hP hS n1 => ?_)
  refine lv_if_ne (pc := 11) (tgt := 16) hx hb dX7_group_11 (by decide) (fun c2 => ?_) (fun c2 => ?_)
  · have h := (if_neg c2).symm.trans h
    refine lv_iload_n (pc := 16) hx hb dX7_group_16 rfl (lv_at hl 2 rfl) ?_
    by_cases c3 : x2 = (0 : Int32)
    · have h := (if_pos c3).symm.trans h
      refine lv_tableIn (pc := 17) (off := 27) (tgt := 44) hx hb dX7_group_17 (by rw [c3]; decide) (by rw [c3]; decide) (by rw [c3]; decide) (by decide) ?_
      refine lv_aload_n (pc := 44) hx hb dX7_group_44 rfl (lv_at hl 0 rfl) ?_
      refine x_get (pc := 45) (v := .ref (ad 3)) E hP (by decide) sh7 rfl inX7 1 (by decide) q293 rfl dX7_group_45 ?_
      refine x_get (pc := 48) (v := .ref (ad 16)) E hP (StA.lt StA_3) (sh6 StA_3) rfl inX6 1 (by decide) q256 rfl dX7_group_48 ?_
      refine x_get (pc := 51) (v := .ref (ad 17)) E hP (QuA.lt QuA_16) (sh3 QuA_16) rfl inX3 1 (by decide) q166 rfl dX7_group_51 ?_
      refine lv_iload_n (pc := 54) hx hb dX7_group_54 rfl (lv_at hl 1 rfl) ?_
      refine x_callSi (pc := 55) (st := .int x1 :: .ref (ad 17) :: []) (As := [.ref (ad 17), .int x1]) E hEx hl.1 hP hS (c_at hap M (lt3a1 QuA_16) (sh3a1 QuA_16) (by decide) _ _ rfl) gX7_136 hsX7_at rfl ⟨Nat.le_of_ble_eq_true rfl, Nat.le_of_ble_eq_true rfl⟩ ⟨rfl, rfl⟩ dX7_group_55 rfl (Nat.le_of_ble_eq_true rfl) (fun H locs hP hS n9 => ?_)
      obtain rfl := som1 h
      exact x_iret E hP hS rfl dX7_group_58
    · have h := (if_neg c3).symm.trans h
      by_cases c4 : x2 = (1 : Int32)
      · have h := (if_pos c4).symm.trans h
        refine lv_tableIn (pc := 17) (off := 42) (tgt := 59) hx hb dX7_group_17 (by rw [c4]; decide) (by rw [c4]; decide) (by rw [c4]; decide) (by decide) ?_
        refine lv_aload_n (pc := 59) hx hb dX7_group_59 rfl (lv_at hl 0 rfl) ?_
        refine x_get (pc := 60) (v := .ref (ad 3)) E hP (by decide) sh7 rfl inX7 1 (by decide) q293 rfl dX7_group_60 ?_
        refine x_get (pc := 63) (v := .ref (ad 16)) E hP (StA.lt StA_3) (sh6 StA_3) rfl inX6 1 (by decide) q256 rfl dX7_group_63 ?_
        refine x_get (pc := 66) (v := .ref (ad 18)) E hP (QuA.lt QuA_16) (sh3 QuA_16) rfl inX3 2 (by decide) q169 rfl dX7_group_66 ?_
        refine lv_iload_n (pc := 69) hx hb dX7_group_69 rfl (lv_at hl 1 rfl) ?_
        refine x_callSi (pc := 70) (st := .int x1 :: .ref (ad 18) :: []) (As := [.ref (ad 18), .int x1]) E hEx hl.1 hP hS (c_at hap M (lt3a2 QuA_16) (sh3a2 QuA_16) (by decide) _ _ rfl) gX7_136 hsX7_at rfl ⟨Nat.le_of_ble_eq_true rfl, Nat.le_of_ble_eq_true rfl⟩ ⟨rfl, rfl⟩ dX7_group_70 rfl (Nat.le_of_ble_eq_true rfl) (fun H locs hP hS n8 => ?_)
        obtain rfl := som1 h
        exact x_iret E hP hS rfl dX7_group_73
      · have h := (if_neg c4).symm.trans h
        by_cases c5 : x2 = (2 : Int32)
        · have h := (if_pos c5).symm.trans h
          refine lv_tableIn (pc := 17) (off := 57) (tgt := 74) hx hb dX7_group_17 (by rw [c5]; decide) (by rw [c5]; decide) (by rw [c5]; decide) (by decide) ?_
          refine lv_aload_n (pc := 74) hx hb dX7_group_74 rfl (lv_at hl 0 rfl) ?_
          refine x_get (pc := 75) (v := .ref (ad 3)) E hP (by decide) sh7 rfl inX7 1 (by decide) q293 rfl dX7_group_75 ?_
          refine lv_iload_n (pc := 78) hx hb dX7_group_78 rfl (lv_at hl 1 rfl) ?_
          obtain ⟨y6, hy6, h⟩ := bnd_ex h
          refine x_callVi (pc := 79) (st := .int x1 :: .ref (ad 3) :: []) (As := [.int x1]) E hEx hl.1 hP hS (kX6_latestStart hap StA_3 M _ _ hy6) gX7_347 hdX6_latestStart rfl (StA.lt StA_3) (sh6 StA_3) rfl ⟨Nat.le_of_ble_eq_true rfl, Nat.le_of_ble_eq_true rfl⟩ ⟨rfl, rfl⟩ dX7_group_79 rfl (Nat.le_of_ble_eq_true rfl) (fun H locs hP hS n7 => ?_)
          obtain rfl := som1 h
          exact x_iret E hP hS rfl dX7_group_82
        · have h := (if_neg c5).symm.trans h
          refine lv_tableOut (pc := 17) (tgt := 83) hx hb dX7_group_17 (by have e0 := ne_lit (k := 0) (by decide) c3; have e1 := ne_lit (k := 1) (by decide) c4; have e2 := ne_lit (k := 2) (by decide) c5; omega) (by decide) ?_
          refine lv_bipush (pc := 83) (v := (-2 : Int32)) hx hb dX7_group_83 (by decide) ?_
          obtain rfl := som1 h
          exact x_iret E hP hS rfl dX7_group_85
  · have h := (if_pos c2).symm.trans h
    refine lv_iconst (pc := 14) (v := (-1 : Int32)) hx hb dX7_group_14 (by decide) ?_
    obtain rfl := som1 h
    exact x_iret E hP hS rfl dX7_group_15
set_option maxRecDepth 100000 in
set_option maxHeartbeats 4000000 in
theorem kX7_result (hap : Apart 78 ad)   (M : Mem) (x1 x2 : Int32) (v : Int32) (h : fX7_result M x1 x2 = v) : XI G ad sK sV cA cZ cC yX7_result cX7_result 3 .int ({ frames := 1, cells := 0, slots := 0, locals := 21 } : Room) [.ref (ad 0), .int x1, .int x2] M v M := by
  refine CI.mk (own := RX7) (ls0 := [(0, .ref (ad 0)), (1, .int x1), (2, .int x2)]) (by decide +kernel) rfl hap (Nat.le_of_ble_eq_true rfl) rfl ?_
  intro p l e s m args below meth c ls E hP hl
  have hx := E.1
  have hb := E.2.1
  have hown := E.2.2.2.2.2.1
  have hts := E.2.2.2.2.2.2.1
  have hNe := E.2.2.2.2.2.2.2.2.1.1
  have hEx := ExX.ok ad sK sV
  have hS : va_S (AW 78 ad) s.heap s.heap [] := va_S.rf
  unfold fX7_result at h
  refine lv_iload_n (pc := 0) hx hb dX7_result_0 rfl (lv_at hl 1 rfl) ?_
  refine lv_if_lt (pc := 1) (tgt := 18) hx hb dX7_result_1 (by decide) (fun c1 => ?_) (fun c1 => ?_)
  · have h := (if_pos c1).symm.trans h
    refine lv_iconst (pc := 18) (v := (-1 : Int32)) hx hb dX7_result_18 (by decide) ?_
    obtain rfl : (-1 : Int32) = v := h
    exact x_iret E hP hS rfl dX7_result_19
  · have h := (if_neg c1).symm.trans h
    refine lv_iload_n (pc := 4) hx hb dX7_result_4 rfl (lv_at hl 1 rfl) ?_
    refine lv_aload_n (pc := 5) hx hb dX7_result_5 rfl (lv_at hl 0 rfl) ?_
    refine x_get (pc := 6) (v := .ref (ad 3)) E hP (by decide) sh7 rfl inX7 1 (by decide) q293 rfl dX7_result_6 ?_
    refine x_get (pc := 9) (v := .ref (ad 20)) E hP (StA.lt StA_3) (sh6 StA_3) rfl inX6 3 (by decide) q260 rfl dX7_result_9 ?_
    refine x_get (pc := 12) (v := .int (M 20 0)) E hP (ReA.lt ReA_20) (sh4 ReA_20) rfl inX4 0 (by decide) q229 rfl dX7_result_12 ?_
    refine lv_icmp_lt (pc := 15) (tgt := 20) hx hb dX7_result_15 (by decide) (fun c2 => ?_) (fun c2 => ?_)
    · have h := (if_pos c2).symm.trans h
      refine lv_iload_n (pc := 20) hx hb dX7_result_20 rfl (lv_at hl 2 rfl) ?_
      refine lv_if_lt (pc := 21) (tgt := 30) hx hb dX7_result_21 (by decide) (fun c3 => ?_) (fun c3 => ?_)
      · have h := (if_pos c3).symm.trans h
        refine lv_bipush (pc := 30) (v := (-2 : Int32)) hx hb dX7_result_30 (by decide) ?_
        obtain rfl : (-2 : Int32) = v := h
        exact x_iret E hP hS rfl dX7_result_32
      · have h := (if_neg c3).symm.trans h
        refine lv_iload_n (pc := 24) hx hb dX7_result_24 rfl (lv_at hl 2 rfl) ?_
        refine lv_bipush (pc := 25) (v := (7 : Int32)) hx hb dX7_result_25 (by decide) ?_
        refine lv_icmp_lt (pc := 27) (tgt := 33) hx hb dX7_result_27 (by decide) (fun c4 => ?_) (fun c4 => ?_)
        · have h := (if_pos c4).symm.trans h
          refine lv_aload_n (pc := 33) hx hb dX7_result_33 rfl (lv_at hl 0 rfl) ?_
          refine x_get (pc := 34) (v := .ref (ad 3)) E hP (by decide) sh7 rfl inX7 1 (by decide) q293 rfl dX7_result_34 ?_
          refine x_get (pc := 37) (v := .ref (ad 20)) E hP (StA.lt StA_3) (sh6 StA_3) rfl inX6 3 (by decide) q260 rfl dX7_result_37 ?_
          refine x_get (pc := 40) (v := .ref (ad 21)) E hP (ReA.lt ReA_20) (sh4 ReA_20) rfl inX4 1 (by decide) q231 rfl dX7_result_40 ?_
          refine lv_iload_n (pc := 43) hx hb dX7_result_43 rfl (lv_at hl 1 rfl) ?_
          refine lv_bipush (pc := 44) (v := (7 : Int32)) hx hb dX7_result_44 (by decide) ?_
          refine lv_imul (pc := 46) hx hb dX7_result_46 ?_
          refine lv_iload_n (pc := 47) hx hb dX7_result_47 rfl (lv_at hl 2 rfl) ?_
          refine lv_iadd (pc := 48) hx hb dX7_result_48 ?_
          refine x_callSi (pc := 49) (st := .int ((x1 * (7 : Int32)) + x2) :: .ref (ad 21) :: []) (As := [.ref (ad 21), .int ((x1 * (7 : Int32)) + x2)]) E hEx hl.1 hP hS (c_at hap M (lt4a1 ReA_20) (sh4a1 ReA_20) (by decide) _ _ rfl) gX7_136 hsX7_at rfl ⟨Nat.le_of_ble_eq_true rfl, Nat.le_of_ble_eq_true rfl⟩ ⟨rfl, rfl⟩ dX7_result_49 rfl (Nat.le_of_ble_eq_true rfl) (fun H locs hP hS n5 => ?_)
          obtain rfl : (atX M 21 210 ((x1 * (7 : Int32)) + x2)) = v := h
          exact x_iret E hP hS rfl dX7_result_52
        · have h := (if_neg c4).symm.trans h
          refine lv_bipush (pc := 30) (v := (-2 : Int32)) hx hb dX7_result_30 (by decide) ?_
          obtain rfl : (-2 : Int32) = v := h
          exact x_iret E hP hS rfl dX7_result_32
    · have h := (if_neg c2).symm.trans h
      refine lv_iconst (pc := 18) (v := (-1 : Int32)) hx hb dX7_result_18 (by decide) ?_
      obtain rfl : (-1 : Int32) = v := h
      exact x_iret E hP hS rfl dX7_result_19
set_option maxRecDepth 100000 in
set_option maxHeartbeats 4000000 in
theorem kX7_nextStep (hap : Apart 78 ad)   (M : Mem)  (v : Int32) (h : fX7_nextStep M = some v) : XI G ad sK sV cA cZ cC yX7_nextStep cX7_nextStep 1 .int ({ frames := 6, cells := 0, slots := 0, locals := 134 } : Room) [.ref (ad 0)] M v M := by
  refine CI.mk (own := RX7) (ls0 := [(0, .ref (ad 0))]) (by decide +kernel) rfl hap (Nat.le_of_ble_eq_true rfl) rfl ?_
  intro p l e s m args below meth c ls E hP hl
  have hx := E.1
  have hb := E.2.1
  have hown := E.2.2.2.2.2.1
  have hts := E.2.2.2.2.2.2.1
  have hNe := E.2.2.2.2.2.2.2.2.1.1
  have hEx := ExX.ok ad sK sV
  have hS : va_S (AW 78 ad) s.heap s.heap [] := va_S.rf
  unfold fX7_nextStep at h
  refine lv_aload_n (pc := 0) hx hb dX7_nextStep_0 rfl (lv_at hl 0 rfl) ?_
  refine x_get (pc := 1) (v := .ref (ad 3)) E hP (by decide) sh7 rfl inX7 1 (by decide) q293 rfl dX7_nextStep_1 ?_
  refine x_get (pc := 4) (v := .ref (ad 19)) E hP (StA.lt StA_3) (sh6 StA_3) rfl inX6 2 (by decide) q258 rfl dX7_nextStep_4 ?_
  refine x_get (pc := 7) (v := .int (bz (M 19 0))) E hP (GaA.lt GaA_19) (sh1 GaA_19) rfl inX1 0 (by decide) q184 rfl dX7_nextStep_7 ?_
  refine lv_if_ne (pc := 10) (tgt := 16) hx hb dX7_nextStep_10 (by decide) (fun c1 => ?_) (fun c1 => ?_)
  · have h := (if_neg c1).symm.trans h
    refine lv_aload_n (pc := 16) hx hb dX7_nextStep_16 rfl (lv_at hl 0 rfl) ?_
    refine x_get (pc := 17) (v := .ref (ad 3)) E hP (by decide) sh7 rfl inX7 1 (by decide) q293 rfl dX7_nextStep_17 ?_
    refine x_get (pc := 20) (v := .ref (ad 4)) E hP (StA.lt StA_3) (sh6 StA_3) rfl inX6 0 (by decide) q254 rfl dX7_nextStep_20 ?_
    refine lv_aload_n (pc := 23) hx hb dX7_nextStep_23 rfl (lv_at hl 0 rfl) ?_
    refine x_get (pc := 24) (v := .ref (ad 3)) E hP (by decide) sh7 rfl inX7 1 (by decide) q293 rfl dX7_nextStep_24 ?_
    refine x_get (pc := 27) (v := .ref (ad 4)) E hP (StA.lt StA_3) (sh6 StA_3) rfl inX6 0 (by decide) q254 rfl dX7_nextStep_27 ?_
    refine x_get (pc := 30) (v := .int (M 4 14)) E hP (RoA.lt RoA_4) (sh5 RoA_4) rfl inX5 14 (by decide) q119 rfl dX7_nextStep_30 ?_
    obtain ⟨y2, hy2, h⟩ := bnd_ex h
    refine x_callVi (pc := 33) (st := .int (M 4 14) :: .ref (ad 4) :: []) (As := [.int (M 4 14)]) E hEx hl.1 hP hS (kX5_stepFor hap RoA_4 M _ _ hy2) gX7_250 hdX5_stepFor rfl (RoA.lt RoA_4) (sh5 RoA_4) rfl ⟨Nat.le_of_ble_eq_true rfl, Nat.le_of_ble_eq_true rfl⟩ ⟨rfl, rfl⟩ dX7_nextStep_33 rfl (Nat.le_of_ble_eq_true rfl) (fun H locs hP hS n3 => ?_)
    refine x_callSi (pc := 36) (st := .int y2 :: []) (As := [.int y2]) E hEx hl.1 hP hS (kX7_toldStep hap  M _ _ rfl) gX7_255 hsX7_toldStep rfl ⟨Nat.le_of_ble_eq_true rfl, Nat.le_of_ble_eq_true rfl⟩ ⟨rfl, rfl⟩ dX7_nextStep_36 rfl (Nat.le_of_ble_eq_true rfl) (fun H locs hP hS n4 => ?_)
    obtain rfl := som1 h
    exact x_iret E hP hS rfl dX7_nextStep_39
  · have h := (if_pos c1).symm.trans h
    refine lv_bipush (pc := 13) (v := (-4 : Int32)) hx hb dX7_nextStep_13 (by decide) ?_
    obtain rfl := som1 h
    exact x_iret E hP hS rfl dX7_nextStep_15
set_option maxRecDepth 100000 in
set_option maxHeartbeats 4000000 in
theorem kX7_plan (hap : Apart 78 ad)   (M : Mem) (x1 : Int32) (v : Int32) (M' : Mem) (h : fX7_plan M x1 = some (v, M')) : XI G ad sK sV cA cZ cC yX7_plan cX7_plan 2 .int ({ frames := 7, cells := 0, slots := 0, locals := 157 } : Room) [.ref (ad 0), .int x1] M v M' := by
  refine CI.mk (own := RX7) (ls0 := [(0, .ref (ad 0)), (1, .int x1)]) (by decide +kernel) rfl hap (Nat.le_of_ble_eq_true rfl) rfl ?_
  intro p l e s m args below meth c ls E hP hl
  have hx := E.1
  have hb := E.2.1
  have hown := E.2.2.2.2.2.1
  have hts := E.2.2.2.2.2.2.1
  have hNe := E.2.2.2.2.2.2.2.2.1.1
  have hEx := ExX.ok ad sK sV
  have hS : va_S (AW 78 ad) s.heap s.heap [] := va_S.rf
  unfold fX7_plan at h
  refine lv_iload_n (pc := 0) hx hb dX7_plan_0 rfl (lv_at hl 1 rfl) ?_
  refine x_callSi (pc := 1) (st := .int x1 :: []) (As := [.int x1]) E hEx hl.1 hP hS (kX7_isGroupSize hap  M _ _ rfl) gX7_124 hsX7_isGroupSize rfl ⟨Nat.le_of_ble_eq_true rfl, Nat.le_of_ble_eq_true rfl⟩ ⟨rfl, rfl⟩ dX7_plan_1 rfl (Nat.le_of_ble_eq_true rfl) (fun H locs hP hS n1 => ?_)
  refine lv_if_ne (pc := 4) (tgt := 10) hx hb dX7_plan_4 (by decide) (fun c2 => ?_) (fun c2 => ?_)
  · have h := (if_neg c2).symm.trans h
    refine lv_aload_n (pc := 10) hx hb dX7_plan_10 rfl (lv_at hl 0 rfl) ?_
    refine x_get (pc := 11) (v := .ref (ad 3)) E hP (by decide) sh7 rfl inX7 1 (by decide) q293 rfl dX7_plan_11 ?_
    refine x_get (pc := 14) (v := .ref (ad 19)) E hP (StA.lt StA_3) (sh6 StA_3) rfl inX6 2 (by decide) q258 rfl dX7_plan_14 ?_
    refine x_get (pc := 17) (v := .int (bz (M 19 0))) E hP (GaA.lt GaA_19) (sh1 GaA_19) rfl inX1 0 (by decide) q184 rfl dX7_plan_17 ?_
    refine lv_if_ne (pc := 20) (tgt := 36) hx hb dX7_plan_20 (by decide) (fun c3 => ?_) (fun c3 => ?_)
    · have h := (if_neg c3).symm.trans h
      refine lv_bipush (pc := 36) (v := (-4 : Int32)) hx hb dX7_plan_36 (by decide) ?_
      obtain ⟨rfl, rfl⟩ := som2 h
      exact x_iret E hP hS rfl dX7_plan_38
    · have h := (if_pos c3).symm.trans h
      refine lv_aload_n (pc := 23) hx hb dX7_plan_23 rfl (lv_at hl 0 rfl) ?_
      refine x_get (pc := 24) (v := .ref (ad 3)) E hP (by decide) sh7 rfl inX7 1 (by decide) q293 rfl dX7_plan_24 ?_
      refine x_get (pc := 27) (v := .ref (ad 4)) E hP (StA.lt StA_3) (sh6 StA_3) rfl inX6 0 (by decide) q254 rfl dX7_plan_27 ?_
      refine x_get (pc := 30) (v := .int (M 4 14)) E hP (RoA.lt RoA_4) (sh5 RoA_4) rfl inX5 14 (by decide) q119 rfl dX7_plan_30 ?_
      refine lv_if_ne (pc := 33) (tgt := 39) hx hb dX7_plan_33 (by decide) (fun c4 => ?_) (fun c4 => ?_)
      · have h := (if_neg c4).symm.trans h
        refine lv_aload_n (pc := 39) hx hb dX7_plan_39 rfl (lv_at hl 0 rfl) ?_
        refine x_get (pc := 40) (v := .ref (ad 66)) E hP (by decide) sh7 rfl inX7 4 (by decide) q296 rfl dX7_plan_40 ?_
        refine lv_aload_n (pc := 43) hx hb dX7_plan_43 rfl (lv_at hl 0 rfl) ?_
        refine x_get (pc := 44) (v := .ref (ad 3)) E hP (by decide) sh7 rfl inX7 1 (by decide) q293 rfl dX7_plan_44 ?_
        refine x_get (pc := 47) (v := .ref (ad 4)) E hP (StA.lt StA_3) (sh6 StA_3) rfl inX6 0 (by decide) q254 rfl dX7_plan_47 ?_
        obtain ⟨M5, hM5, h⟩ := bnd_ex h
        refine x_callVv (pc := 50) (st := .ref (ad 4) :: .ref (ad 66) :: []) (As := [.ref (ad 4)]) E hEx hl.1 hP hS (kX5_copyFrom hap RoA_66 RoA_4 M  _ hM5) gX7_353 hdX5_copyFrom rfl (RoA.lt RoA_66) (sh5 RoA_66) rfl ⟨Nat.le_of_ble_eq_true rfl, Nat.le_of_ble_eq_true rfl⟩ ⟨rfl, rfl⟩ dX7_plan_50 rfl (Nat.le_of_ble_eq_true rfl) (fun H locs hP hS => ?_)
        refine lv_aload_n (pc := 53) hx hb dX7_plan_53 rfl (lv_at hl 0 rfl) ?_
        refine x_get (pc := 54) (v := .ref (ad 66)) E hP (by decide) sh7 rfl inX7 4 (by decide) q296 rfl dX7_plan_54 ?_
        refine lv_iload_n (pc := 57) hx hb dX7_plan_57 rfl (lv_at hl 1 rfl) ?_
        obtain ⟨M6, hM6, h⟩ := thn_ex h
        refine x_put (pc := 58) (v := x1) E hP hS (RoA.lt RoA_66) (sh5 RoA_66) tyX5 tyX5_ok nmX5 rfl inX5 15 (by decide) q122 rfl rfl rfl (Nat.le_of_ble_eq_true rfl) rfl dX7_plan_58 (fun H locs hP hS => ?_)
        rw [hM6] at hP
        refine lv_aload_n (pc := 61) hx hb dX7_plan_61 rfl (lv_at hl 0 rfl) ?_
        refine x_get (pc := 62) (v := .ref (ad 66)) E hP (by decide) sh7 rfl inX7 4 (by decide) q296 rfl dX7_plan_62 ?_
        obtain ⟨q7, hq7, h⟩ := bnd_ex h
        refine x_callVi (pc := 65) (st := .ref (ad 66) :: []) (As := []) E hEx hl.1 hP hS (kX5_minutesToExit hap RoA_66 M6  _ _ hq7) gX7_356 hdX5_minutesToExit rfl (RoA.lt RoA_66) (sh5 RoA_66) rfl ⟨Nat.le_of_ble_eq_true rfl, Nat.le_of_ble_eq_true rfl⟩ ⟨rfl, rfl⟩ dX7_plan_65 rfl (Nat.le_of_ble_eq_true rfl) (fun H locs hP hS n8 => ?_)
        obtain ⟨rfl, rfl⟩ := som2 h
        exact x_iret E hP hS rfl dX7_plan_68
      · have h := (if_pos c4).symm.trans h
        refine lv_bipush (pc := 36) (v := (-4 : Int32)) hx hb dX7_plan_36 (by decide) ?_
        obtain ⟨rfl, rfl⟩ := som2 h
        exact x_iret E hP hS rfl dX7_plan_38
  · have h := (if_pos c2).symm.trans h
    refine lv_bipush (pc := 7) (v := (-2 : Int32)) hx hb dX7_plan_7 (by decide) ?_
    obtain ⟨rfl, rfl⟩ := som2 h
    exact x_iret E hP hS rfl dX7_plan_9
set_option maxRecDepth 100000 in
set_option maxHeartbeats 4000000 in
theorem kX7_differences (hap : Apart 78 ad)   (M : Mem) (x1 : Int32) (v : Int32) (h : fX7_differences M x1 = some v) : XI G ad sK sV cA cZ cC yX7_differences cX7_differences 2 .int ({ frames := 4, cells := 0, slots := 0, locals := 88 } : Room) [.ref (ad 0), .int x1] M v M := by
  refine CI.mk (own := RX7) (ls0 := [(0, .ref (ad 0)), (1, .int x1)]) (by decide +kernel) rfl hap (Nat.le_of_ble_eq_true rfl) rfl ?_
  intro p l e s m args below meth c ls E hP hl
  have hx := E.1
  have hb := E.2.1
  have hown := E.2.2.2.2.2.1
  have hts := E.2.2.2.2.2.2.1
  have hNe := E.2.2.2.2.2.2.2.2.1.1
  have hEx := ExX.ok ad sK sV
  have hS : va_S (AW 78 ad) s.heap s.heap [] := va_S.rf
  unfold fX7_differences at h
  refine lv_iload_n (pc := 0) hx hb dX7_differences_0 rfl (lv_at hl 1 rfl) ?_
  by_cases c1 : x1 = (0 : Int32)
  · have h := (if_pos c1).symm.trans h
    refine lv_tableIn (pc := 1) (off := 35) (tgt := 36) hx hb dX7_differences_1 (by rw [c1]; decide) (by rw [c1]; decide) (by rw [c1]; decide) (by decide) ?_
    refine lv_aload_n (pc := 36) hx hb dX7_differences_36 rfl (lv_at hl 0 rfl) ?_
    refine x_get (pc := 37) (v := .ref (ad 3)) E hP (by decide) sh7 rfl inX7 1 (by decide) q293 rfl dX7_differences_37 ?_
    refine x_get (pc := 40) (v := .ref (ad 4)) E hP (StA.lt StA_3) (sh6 StA_3) rfl inX6 0 (by decide) q254 rfl dX7_differences_40 ?_
    obtain ⟨y14, hy14, h⟩ := bnd_ex h
    refine x_callVi (pc := 43) (st := .ref (ad 4) :: []) (As := []) E hEx hl.1 hP hS (kX5_propsAway hap RoA_4 M  _ hy14) gX7_359 hdX5_propsAway rfl (RoA.lt RoA_4) (sh5 RoA_4) rfl ⟨Nat.le_of_ble_eq_true rfl, Nat.le_of_ble_eq_true rfl⟩ ⟨rfl, rfl⟩ dX7_differences_43 rfl (Nat.le_of_ble_eq_true rfl) (fun H locs hP hS n15 => ?_)
    obtain rfl := som1 h
    exact x_iret E hP hS rfl dX7_differences_46
  · have h := (if_neg c1).symm.trans h
    by_cases c2 : x1 = (1 : Int32)
    · have h := (if_pos c2).symm.trans h
      refine lv_tableIn (pc := 1) (off := 46) (tgt := 47) hx hb dX7_differences_1 (by rw [c2]; decide) (by rw [c2]; decide) (by rw [c2]; decide) (by decide) ?_
      refine lv_aload_n (pc := 47) hx hb dX7_differences_47 rfl (lv_at hl 0 rfl) ?_
      refine x_get (pc := 48) (v := .ref (ad 3)) E hP (by decide) sh7 rfl inX7 1 (by decide) q293 rfl dX7_differences_48 ?_
      refine x_get (pc := 51) (v := .ref (ad 4)) E hP (StA.lt StA_3) (sh6 StA_3) rfl inX6 0 (by decide) q254 rfl dX7_differences_51 ?_
      obtain ⟨y12, hy12, h⟩ := bnd_ex h
      refine x_callVi (pc := 54) (st := .ref (ad 4) :: []) (As := []) E hEx hl.1 hP hS (kX5_openBoxes hap RoA_4 M  _ hy12) gX7_275 hdX5_openBoxes rfl (RoA.lt RoA_4) (sh5 RoA_4) rfl ⟨Nat.le_of_ble_eq_true rfl, Nat.le_of_ble_eq_true rfl⟩ ⟨rfl, rfl⟩ dX7_differences_54 rfl (Nat.le_of_ble_eq_true rfl) (fun H locs hP hS n13 => ?_)
      obtain rfl := som1 h
      exact x_iret E hP hS rfl dX7_differences_57
    · have h := (if_neg c2).symm.trans h
      by_cases c3 : x1 = (2 : Int32)
      · have h := (if_pos c3).symm.trans h
        refine lv_tableIn (pc := 1) (off := 57) (tgt := 58) hx hb dX7_differences_1 (by rw [c3]; decide) (by rw [c3]; decide) (by rw [c3]; decide) (by decide) ?_
        refine lv_aload_n (pc := 58) hx hb dX7_differences_58 rfl (lv_at hl 0 rfl) ?_
        refine x_get (pc := 59) (v := .ref (ad 3)) E hP (by decide) sh7 rfl inX7 1 (by decide) q293 rfl dX7_differences_59 ?_
        refine x_get (pc := 62) (v := .ref (ad 4)) E hP (StA.lt StA_3) (sh6 StA_3) rfl inX6 0 (by decide) q254 rfl dX7_differences_62 ?_
        obtain ⟨y10, hy10, h⟩ := bnd_ex h
        refine x_callVi (pc := 65) (st := .ref (ad 4) :: []) (As := []) E hEx hl.1 hP hS (kX5_paleClues hap RoA_4 M  _ hy10) gX7_362 hdX5_paleClues rfl (RoA.lt RoA_4) (sh5 RoA_4) rfl ⟨Nat.le_of_ble_eq_true rfl, Nat.le_of_ble_eq_true rfl⟩ ⟨rfl, rfl⟩ dX7_differences_65 rfl (Nat.le_of_ble_eq_true rfl) (fun H locs hP hS n11 => ?_)
        obtain rfl := som1 h
        exact x_iret E hP hS rfl dX7_differences_68
      · have h := (if_neg c3).symm.trans h
        by_cases c4 : x1 = (3 : Int32)
        · have h := (if_pos c4).symm.trans h
          refine lv_tableIn (pc := 1) (off := 68) (tgt := 69) hx hb dX7_differences_1 (by rw [c4]; decide) (by rw [c4]; decide) (by rw [c4]; decide) (by decide) ?_
          refine lv_aload_n (pc := 69) hx hb dX7_differences_69 rfl (lv_at hl 0 rfl) ?_
          refine x_get (pc := 70) (v := .ref (ad 3)) E hP (by decide) sh7 rfl inX7 1 (by decide) q293 rfl dX7_differences_70 ?_
          obtain ⟨y8, hy8, h⟩ := bnd_ex h
          refine x_callVi (pc := 73) (st := .ref (ad 3) :: []) (As := []) E hEx hl.1 hP hS (kX6_resetMinutes hap StA_3 M  _ hy8) gX7_284 hdX6_resetMinutes rfl (StA.lt StA_3) (sh6 StA_3) rfl ⟨Nat.le_of_ble_eq_true rfl, Nat.le_of_ble_eq_true rfl⟩ ⟨rfl, rfl⟩ dX7_differences_73 rfl (Nat.le_of_ble_eq_true rfl) (fun H locs hP hS n9 => ?_)
          obtain rfl := som1 h
          exact x_iret E hP hS rfl dX7_differences_76
        · have h := (if_neg c4).symm.trans h
          by_cases c5 : x1 = (4 : Int32)
          · have h := (if_pos c5).symm.trans h
            refine lv_tableIn (pc := 1) (off := 76) (tgt := 77) hx hb dX7_differences_1 (by rw [c5]; decide) (by rw [c5]; decide) (by rw [c5]; decide) (by decide) ?_
            refine lv_aload_n (pc := 77) hx hb dX7_differences_77 rfl (lv_at hl 0 rfl) ?_
            refine x_get (pc := 78) (v := .ref (ad 3)) E hP (by decide) sh7 rfl inX7 1 (by decide) q293 rfl dX7_differences_78 ?_
            obtain ⟨y6, hy6, h⟩ := bnd_ex h
            refine x_callVi (pc := 81) (st := .ref (ad 3) :: []) (As := []) E hEx hl.1 hP hS (kX6_resetPaint hap StA_3 M  _ hy6) gX7_365 hdX6_resetPaint rfl (StA.lt StA_3) (sh6 StA_3) rfl ⟨Nat.le_of_ble_eq_true rfl, Nat.le_of_ble_eq_true rfl⟩ ⟨rfl, rfl⟩ dX7_differences_81 rfl (Nat.le_of_ble_eq_true rfl) (fun H locs hP hS n7 => ?_)
            obtain rfl := som1 h
            exact x_iret E hP hS rfl dX7_differences_84
          · have h := (if_neg c5).symm.trans h
            refine lv_tableOut (pc := 1) (tgt := 85) hx hb dX7_differences_1 (by have e0 := ne_lit (k := 0) (by decide) c1; have e1 := ne_lit (k := 1) (by decide) c2; have e2 := ne_lit (k := 2) (by decide) c3; have e3 := ne_lit (k := 3) (by decide) c4; have e4 := ne_lit (k := 4) (by decide) c5; omega) (by decide) ?_
            refine lv_bipush (pc := 85) (v := (-2 : Int32)) hx hb dX7_differences_85 (by decide) ?_
            obtain rfl := som1 h
            exact x_iret E hP hS rfl dX7_differences_87
set_option maxRecDepth 100000 in
set_option maxHeartbeats 4000000 in
theorem kX7_logAt (hap : Apart 78 ad)   (M : Mem) (x1 : Int32) (v : Int32) (h : fX7_logAt M x1 = v) : XI G ad sK sV cA cZ cC yX7_logAt cX7_logAt 2 .int ({ frames := 1, cells := 0, slots := 0, locals := 21 } : Room) [.ref (ad 0), .int x1] M v M := by
  refine CI.mk (own := RX7) (ls0 := [(0, .ref (ad 0)), (1, .int x1)]) (by decide +kernel) rfl hap (Nat.le_of_ble_eq_true rfl) rfl ?_
  intro p l e s m args below meth c ls E hP hl
  have hx := E.1
  have hb := E.2.1
  have hown := E.2.2.2.2.2.1
  have hts := E.2.2.2.2.2.2.1
  have hNe := E.2.2.2.2.2.2.2.2.1.1
  have hEx := ExX.ok ad sK sV
  have hS : va_S (AW 78 ad) s.heap s.heap [] := va_S.rf
  unfold fX7_logAt at h
  refine lv_iload_n (pc := 0) hx hb dX7_logAt_0 rfl (lv_at hl 1 rfl) ?_
  refine lv_if_ge (pc := 1) (tgt := 7) hx hb dX7_logAt_1 (by decide) (fun c1 => ?_) (fun c1 => ?_)
  · have h := (if_pos c1).symm.trans h
    refine lv_iload_n (pc := 7) hx hb dX7_logAt_7 rfl (lv_at hl 1 rfl) ?_
    refine lv_aload_n (pc := 8) hx hb dX7_logAt_8 rfl (lv_at hl 0 rfl) ?_
    refine x_get (pc := 9) (v := .ref (ad 3)) E hP (by decide) sh7 rfl inX7 1 (by decide) q293 rfl dX7_logAt_9 ?_
    refine x_get (pc := 12) (v := .ref (ad 22)) E hP (StA.lt StA_3) (sh6 StA_3) rfl inX6 4 (by decide) q262 rfl dX7_logAt_12 ?_
    refine x_get (pc := 15) (v := .int (M 22 0)) E hP (LoA.lt LoA_22) (sh2 LoA_22) rfl inX2 0 (by decide) q245 rfl dX7_logAt_15 ?_
    refine lv_icmp_lt (pc := 18) (tgt := 24) hx hb dX7_logAt_18 (by decide) (fun c2 => ?_) (fun c2 => ?_)
    · have h := (if_pos c2).symm.trans h
      refine lv_aload_n (pc := 24) hx hb dX7_logAt_24 rfl (lv_at hl 0 rfl) ?_
      refine x_get (pc := 25) (v := .ref (ad 3)) E hP (by decide) sh7 rfl inX7 1 (by decide) q293 rfl dX7_logAt_25 ?_
      refine x_get (pc := 28) (v := .ref (ad 22)) E hP (StA.lt StA_3) (sh6 StA_3) rfl inX6 4 (by decide) q262 rfl dX7_logAt_28 ?_
      refine x_get (pc := 31) (v := .ref (ad 23)) E hP (LoA.lt LoA_22) (sh2 LoA_22) rfl inX2 1 (by decide) q247 rfl dX7_logAt_31 ?_
      refine lv_iload_n (pc := 34) hx hb dX7_logAt_34 rfl (lv_at hl 1 rfl) ?_
      refine x_callSi (pc := 35) (st := .int x1 :: .ref (ad 23) :: []) (As := [.ref (ad 23), .int x1]) E hEx hl.1 hP hS (c_at hap M (lt2a1 LoA_22) (sh2a1 LoA_22) (by decide) _ _ rfl) gX7_136 hsX7_at rfl ⟨Nat.le_of_ble_eq_true rfl, Nat.le_of_ble_eq_true rfl⟩ ⟨rfl, rfl⟩ dX7_logAt_35 rfl (Nat.le_of_ble_eq_true rfl) (fun H locs hP hS n3 => ?_)
      obtain rfl : (atX M 23 2048 x1) = v := h
      exact x_iret E hP hS rfl dX7_logAt_38
    · have h := (if_neg c2).symm.trans h
      refine lv_bipush (pc := 21) (v := (-5 : Int32)) hx hb dX7_logAt_21 (by decide) ?_
      obtain rfl : (-5 : Int32) = v := h
      exact x_iret E hP hS rfl dX7_logAt_23
  · have h := (if_neg c1).symm.trans h
    refine lv_bipush (pc := 4) (v := (-2 : Int32)) hx hb dX7_logAt_4 (by decide) ?_
    obtain rfl : (-2 : Int32) = v := h
    exact x_iret E hP hS rfl dX7_logAt_6
set_option maxRecDepth 100000 in
set_option maxHeartbeats 4000000 in
theorem kX7_count (hap : Apart 78 ad)   (M : Mem) (x1 : Int32) (v : Int32) (h : fX7_count M x1 = some v) : XI G ad sK sV cA cZ cC yX7_count cX7_count 2 .int ({ frames := 2, cells := 0, slots := 0, locals := 44 } : Room) [.ref (ad 0), .int x1] M v M := by
  refine CI.mk (own := RX7) (ls0 := [(0, .ref (ad 0)), (1, .int x1)]) (by decide +kernel) rfl hap (Nat.le_of_ble_eq_true rfl) rfl ?_
  intro p l e s m args below meth c ls E hP hl
  have hx := E.1
  have hb := E.2.1
  have hown := E.2.2.2.2.2.1
  have hts := E.2.2.2.2.2.2.1
  have hNe := E.2.2.2.2.2.2.2.2.1.1
  have hEx := ExX.ok ad sK sV
  have hS : va_S (AW 78 ad) s.heap s.heap [] := va_S.rf
  unfold fX7_count at h
  refine lv_iload_n (pc := 0) hx hb dX7_count_0 rfl (lv_at hl 1 rfl) ?_
  by_cases c1 : x1 = (0 : Int32)
  · have h := (if_pos c1).symm.trans h
    refine lv_tableIn (pc := 1) (off := 75) (tgt := 76) hx hb dX7_count_1 (by rw [c1]; decide) (by rw [c1]; decide) (by rw [c1]; decide) (by decide) ?_
    refine lv_aload_n (pc := 76) hx hb dX7_count_76 rfl (lv_at hl 0 rfl) ?_
    refine x_get (pc := 77) (v := .ref (ad 3)) E hP (by decide) sh7 rfl inX7 1 (by decide) q293 rfl dX7_count_77 ?_
    refine x_get (pc := 80) (v := .ref (ad 4)) E hP (StA.lt StA_3) (sh6 StA_3) rfl inX6 0 (by decide) q254 rfl dX7_count_80 ?_
    refine x_get (pc := 83) (v := .int (M 4 0)) E hP (RoA.lt RoA_4) (sh5 RoA_4) rfl inX5 0 (by decide) q89 rfl dX7_count_83 ?_
    obtain rfl := som1 h
    exact x_iret E hP hS rfl dX7_count_86
  · have h := (if_neg c1).symm.trans h
    by_cases c2 : x1 = (1 : Int32)
    · have h := (if_pos c2).symm.trans h
      refine lv_tableIn (pc := 1) (off := 86) (tgt := 87) hx hb dX7_count_1 (by rw [c2]; decide) (by rw [c2]; decide) (by rw [c2]; decide) (by decide) ?_
      refine lv_aload_n (pc := 87) hx hb dX7_count_87 rfl (lv_at hl 0 rfl) ?_
      refine x_get (pc := 88) (v := .ref (ad 3)) E hP (by decide) sh7 rfl inX7 1 (by decide) q293 rfl dX7_count_88 ?_
      refine x_get (pc := 91) (v := .ref (ad 4)) E hP (StA.lt StA_3) (sh6 StA_3) rfl inX6 0 (by decide) q254 rfl dX7_count_91 ?_
      refine x_get (pc := 94) (v := .int (M 4 6)) E hP (RoA.lt RoA_4) (sh5 RoA_4) rfl inX5 6 (by decide) q101 rfl dX7_count_94 ?_
      obtain rfl := som1 h
      exact x_iret E hP hS rfl dX7_count_97
    · have h := (if_neg c2).symm.trans h
      by_cases c3 : x1 = (2 : Int32)
      · have h := (if_pos c3).symm.trans h
        refine lv_tableIn (pc := 1) (off := 97) (tgt := 98) hx hb dX7_count_1 (by rw [c3]; decide) (by rw [c3]; decide) (by rw [c3]; decide) (by decide) ?_
        refine lv_aload_n (pc := 98) hx hb dX7_count_98 rfl (lv_at hl 0 rfl) ?_
        refine x_get (pc := 99) (v := .ref (ad 3)) E hP (by decide) sh7 rfl inX7 1 (by decide) q293 rfl dX7_count_99 ?_
        refine x_get (pc := 102) (v := .ref (ad 4)) E hP (StA.lt StA_3) (sh6 StA_3) rfl inX6 0 (by decide) q254 rfl dX7_count_102 ?_
        refine x_get (pc := 105) (v := .int (M 4 9)) E hP (RoA.lt RoA_4) (sh5 RoA_4) rfl inX5 9 (by decide) q107 rfl dX7_count_105 ?_
        obtain rfl := som1 h
        exact x_iret E hP hS rfl dX7_count_108
      · have h := (if_neg c3).symm.trans h
        by_cases c4 : x1 = (3 : Int32)
        · have h := (if_pos c4).symm.trans h
          refine lv_tableIn (pc := 1) (off := 108) (tgt := 109) hx hb dX7_count_1 (by rw [c4]; decide) (by rw [c4]; decide) (by rw [c4]; decide) (by decide) ?_
          refine lv_aload_n (pc := 109) hx hb dX7_count_109 rfl (lv_at hl 0 rfl) ?_
          refine x_get (pc := 110) (v := .ref (ad 3)) E hP (by decide) sh7 rfl inX7 1 (by decide) q293 rfl dX7_count_110 ?_
          refine x_get (pc := 113) (v := .ref (ad 16)) E hP (StA.lt StA_3) (sh6 StA_3) rfl inX6 1 (by decide) q256 rfl dX7_count_113 ?_
          refine x_get (pc := 116) (v := .int (M 16 0)) E hP (QuA.lt QuA_16) (sh3 QuA_16) rfl inX3 0 (by decide) q163 rfl dX7_count_116 ?_
          obtain rfl := som1 h
          exact x_iret E hP hS rfl dX7_count_119
        · have h := (if_neg c4).symm.trans h
          by_cases c5 : x1 = (4 : Int32)
          · have h := (if_pos c5).symm.trans h
            refine lv_tableIn (pc := 1) (off := 119) (tgt := 120) hx hb dX7_count_1 (by rw [c5]; decide) (by rw [c5]; decide) (by rw [c5]; decide) (by decide) ?_
            refine lv_aload_n (pc := 120) hx hb dX7_count_120 rfl (lv_at hl 0 rfl) ?_
            refine x_get (pc := 121) (v := .ref (ad 3)) E hP (by decide) sh7 rfl inX7 1 (by decide) q293 rfl dX7_count_121 ?_
            refine x_get (pc := 124) (v := .ref (ad 16)) E hP (StA.lt StA_3) (sh6 StA_3) rfl inX6 1 (by decide) q256 rfl dX7_count_124 ?_
            refine lv_aload_n (pc := 127) hx hb dX7_count_127 rfl (lv_at hl 0 rfl) ?_
            refine x_get (pc := 128) (v := .ref (ad 3)) E hP (by decide) sh7 rfl inX7 1 (by decide) q293 rfl dX7_count_128 ?_
            refine x_get (pc := 131) (v := .int (M 3 5)) E hP (StA.lt StA_3) (sh6 StA_3) rfl inX6 5 (by decide) q264 rfl dX7_count_131 ?_
            obtain ⟨y20, hy20, h⟩ := bnd_ex h
            refine x_callVi (pc := 134) (st := .int (M 3 5) :: .ref (ad 16) :: []) (As := [.int (M 3 5)]) E hEx hl.1 hP hS (kX3_waitingBefore hap QuA_16 M _ _ hy20) gX7_376 hdX3_waitingBefore rfl (QuA.lt QuA_16) (sh3 QuA_16) rfl ⟨Nat.le_of_ble_eq_true rfl, Nat.le_of_ble_eq_true rfl⟩ ⟨rfl, rfl⟩ dX7_count_134 rfl (Nat.le_of_ble_eq_true rfl) (fun H locs hP hS n21 => ?_)
            obtain rfl := som1 h
            exact x_iret E hP hS rfl dX7_count_137
          · have h := (if_neg c5).symm.trans h
            by_cases c6 : x1 = (5 : Int32)
            · have h := (if_pos c6).symm.trans h
              refine lv_tableIn (pc := 1) (off := 137) (tgt := 138) hx hb dX7_count_1 (by rw [c6]; decide) (by rw [c6]; decide) (by rw [c6]; decide) (by decide) ?_
              refine lv_aload_n (pc := 138) hx hb dX7_count_138 rfl (lv_at hl 0 rfl) ?_
              refine x_get (pc := 139) (v := .ref (ad 3)) E hP (by decide) sh7 rfl inX7 1 (by decide) q293 rfl dX7_count_139 ?_
              refine x_get (pc := 142) (v := .int (M 3 5)) E hP (StA.lt StA_3) (sh6 StA_3) rfl inX6 5 (by decide) q264 rfl dX7_count_142 ?_
              obtain rfl := som1 h
              exact x_iret E hP hS rfl dX7_count_145
            · have h := (if_neg c6).symm.trans h
              by_cases c7 : x1 = (6 : Int32)
              · have h := (if_pos c7).symm.trans h
                refine lv_tableIn (pc := 1) (off := 145) (tgt := 146) hx hb dX7_count_1 (by rw [c7]; decide) (by rw [c7]; decide) (by rw [c7]; decide) (by decide) ?_
                refine lv_aload_n (pc := 146) hx hb dX7_count_146 rfl (lv_at hl 0 rfl) ?_
                refine x_get (pc := 147) (v := .ref (ad 3)) E hP (by decide) sh7 rfl inX7 1 (by decide) q293 rfl dX7_count_147 ?_
                refine x_get (pc := 150) (v := .int (M 3 6)) E hP (StA.lt StA_3) (sh6 StA_3) rfl inX6 6 (by decide) q266 rfl dX7_count_150 ?_
                obtain rfl := som1 h
                exact x_iret E hP hS rfl dX7_count_153
              · have h := (if_neg c7).symm.trans h
                by_cases c8 : x1 = (7 : Int32)
                · have h := (if_pos c8).symm.trans h
                  refine lv_tableIn (pc := 1) (off := 153) (tgt := 154) hx hb dX7_count_1 (by rw [c8]; decide) (by rw [c8]; decide) (by rw [c8]; decide) (by decide) ?_
                  refine lv_aload_n (pc := 154) hx hb dX7_count_154 rfl (lv_at hl 0 rfl) ?_
                  refine x_get (pc := 155) (v := .ref (ad 3)) E hP (by decide) sh7 rfl inX7 1 (by decide) q293 rfl dX7_count_155 ?_
                  refine x_get (pc := 158) (v := .ref (ad 20)) E hP (StA.lt StA_3) (sh6 StA_3) rfl inX6 3 (by decide) q260 rfl dX7_count_158 ?_
                  refine x_get (pc := 161) (v := .int (M 20 0)) E hP (ReA.lt ReA_20) (sh4 ReA_20) rfl inX4 0 (by decide) q229 rfl dX7_count_161 ?_
                  obtain rfl := som1 h
                  exact x_iret E hP hS rfl dX7_count_164
                · have h := (if_neg c8).symm.trans h
                  by_cases c9 : x1 = (8 : Int32)
                  · have h := (if_pos c9).symm.trans h
                    refine lv_tableIn (pc := 1) (off := 164) (tgt := 165) hx hb dX7_count_1 (by rw [c9]; decide) (by rw [c9]; decide) (by rw [c9]; decide) (by decide) ?_
                    refine lv_aload_n (pc := 165) hx hb dX7_count_165 rfl (lv_at hl 0 rfl) ?_
                    refine x_get (pc := 166) (v := .ref (ad 3)) E hP (by decide) sh7 rfl inX7 1 (by decide) q293 rfl dX7_count_166 ?_
                    refine x_get (pc := 169) (v := .ref (ad 20)) E hP (StA.lt StA_3) (sh6 StA_3) rfl inX6 3 (by decide) q260 rfl dX7_count_169 ?_
                    obtain ⟨y18, hy18, h⟩ := bnd_ex h
                    refine x_callVi (pc := 172) (st := .ref (ad 20) :: []) (As := []) E hEx hl.1 hP hS (kX4_wins hap ReA_20 M  _ hy18) gX7_379 hdX4_wins rfl (ReA.lt ReA_20) (sh4 ReA_20) rfl ⟨Nat.le_of_ble_eq_true rfl, Nat.le_of_ble_eq_true rfl⟩ ⟨rfl, rfl⟩ dX7_count_172 rfl (Nat.le_of_ble_eq_true rfl) (fun H locs hP hS n19 => ?_)
                    obtain rfl := som1 h
                    exact x_iret E hP hS rfl dX7_count_175
                  · have h := (if_neg c9).symm.trans h
                    by_cases c10 : x1 = (9 : Int32)
                    · have h := (if_pos c10).symm.trans h
                      refine lv_tableIn (pc := 1) (off := 175) (tgt := 176) hx hb dX7_count_1 (by rw [c10]; decide) (by rw [c10]; decide) (by rw [c10]; decide) (by decide) ?_
                      refine lv_aload_n (pc := 176) hx hb dX7_count_176 rfl (lv_at hl 0 rfl) ?_
                      refine x_get (pc := 177) (v := .ref (ad 3)) E hP (by decide) sh7 rfl inX7 1 (by decide) q293 rfl dX7_count_177 ?_
                      refine x_get (pc := 180) (v := .ref (ad 4)) E hP (StA.lt StA_3) (sh6 StA_3) rfl inX6 0 (by decide) q254 rfl dX7_count_180 ?_
                      refine x_get (pc := 183) (v := .int (M 4 14)) E hP (RoA.lt RoA_4) (sh5 RoA_4) rfl inX5 14 (by decide) q119 rfl dX7_count_183 ?_
                      refine lv_if_ne (pc := 186) (tgt := 194) hx hb dX7_count_186 (by decide) (fun c17 => ?_) (fun c17 => ?_)
                      · have h := (if_neg c17).symm.trans h
                        refine lv_aload_n (pc := 194) hx hb dX7_count_194 rfl (lv_at hl 0 rfl) ?_
                        refine x_get (pc := 195) (v := .ref (ad 3)) E hP (by decide) sh7 rfl inX7 1 (by decide) q293 rfl dX7_count_195 ?_
                        refine x_get (pc := 198) (v := .ref (ad 4)) E hP (StA.lt StA_3) (sh6 StA_3) rfl inX6 0 (by decide) q254 rfl dX7_count_198 ?_
                        refine x_get (pc := 201) (v := .int (M 4 14)) E hP (RoA.lt RoA_4) (sh5 RoA_4) rfl inX5 14 (by decide) q119 rfl dX7_count_201 ?_
                        obtain rfl := som1 h
                        exact x_iret E hP hS rfl dX7_count_204
                      · have h := (if_pos c17).symm.trans h
                        refine lv_bipush (pc := 189) (v := (-5 : Int32)) hx hb dX7_count_189 (by decide) ?_
                        refine lv_goto (pc := 191) (tgt := 204) hx hb dX7_count_191 (by decide) ?_
                        obtain rfl := som1 h
                        exact x_iret E hP hS rfl dX7_count_204
                    · have h := (if_neg c10).symm.trans h
                      by_cases c11 : x1 = (10 : Int32)
                      · have h := (if_pos c11).symm.trans h
                        refine lv_tableIn (pc := 1) (off := 204) (tgt := 205) hx hb dX7_count_1 (by rw [c11]; decide) (by rw [c11]; decide) (by rw [c11]; decide) (by decide) ?_
                        refine lv_aload_n (pc := 205) hx hb dX7_count_205 rfl (lv_at hl 0 rfl) ?_
                        refine x_get (pc := 206) (v := .ref (ad 3)) E hP (by decide) sh7 rfl inX7 1 (by decide) q293 rfl dX7_count_206 ?_
                        refine x_get (pc := 209) (v := .ref (ad 22)) E hP (StA.lt StA_3) (sh6 StA_3) rfl inX6 4 (by decide) q262 rfl dX7_count_209 ?_
                        refine x_get (pc := 212) (v := .int (M 22 0)) E hP (LoA.lt LoA_22) (sh2 LoA_22) rfl inX2 0 (by decide) q245 rfl dX7_count_212 ?_
                        obtain rfl := som1 h
                        exact x_iret E hP hS rfl dX7_count_215
                      · have h := (if_neg c11).symm.trans h
                        by_cases c12 : x1 = (11 : Int32)
                        · have h := (if_pos c12).symm.trans h
                          refine lv_tableIn (pc := 1) (off := 215) (tgt := 216) hx hb dX7_count_1 (by rw [c12]; decide) (by rw [c12]; decide) (by rw [c12]; decide) (by decide) ?_
                          refine lv_aload_n (pc := 216) hx hb dX7_count_216 rfl (lv_at hl 0 rfl) ?_
                          refine x_get (pc := 217) (v := .ref (ad 1)) E hP (by decide) sh7 rfl inX7 0 (by decide) q292 rfl dX7_count_217 ?_
                          refine x_get (pc := 220) (v := .int (M 1 1)) E hP (by decide) sh0 rfl inX0 1 (by decide) q47 rfl dX7_count_220 ?_
                          obtain rfl := som1 h
                          exact x_iret E hP hS rfl dX7_count_223
                        · have h := (if_neg c12).symm.trans h
                          by_cases c13 : x1 = (12 : Int32)
                          · have h := (if_pos c13).symm.trans h
                            refine lv_tableIn (pc := 1) (off := 223) (tgt := 224) hx hb dX7_count_1 (by rw [c13]; decide) (by rw [c13]; decide) (by rw [c13]; decide) (by decide) ?_
                            refine lv_aload_n (pc := 224) hx hb dX7_count_224 rfl (lv_at hl 0 rfl) ?_
                            refine x_get (pc := 225) (v := .ref (ad 3)) E hP (by decide) sh7 rfl inX7 1 (by decide) q293 rfl dX7_count_225 ?_
                            refine x_get (pc := 228) (v := .int (M 3 7)) E hP (StA.lt StA_3) (sh6 StA_3) rfl inX6 7 (by decide) q268 rfl dX7_count_228 ?_
                            obtain rfl := som1 h
                            exact x_iret E hP hS rfl dX7_count_231
                          · have h := (if_neg c13).symm.trans h
                            by_cases c14 : x1 = (13 : Int32)
                            · have h := (if_pos c14).symm.trans h
                              refine lv_tableIn (pc := 1) (off := 231) (tgt := 232) hx hb dX7_count_1 (by rw [c14]; decide) (by rw [c14]; decide) (by rw [c14]; decide) (by decide) ?_
                              refine lv_aload_n (pc := 232) hx hb dX7_count_232 rfl (lv_at hl 0 rfl) ?_
                              refine x_get (pc := 233) (v := .ref (ad 3)) E hP (by decide) sh7 rfl inX7 1 (by decide) q293 rfl dX7_count_233 ?_
                              refine x_get (pc := 236) (v := .int (M 3 8)) E hP (StA.lt StA_3) (sh6 StA_3) rfl inX6 8 (by decide) q270 rfl dX7_count_236 ?_
                              obtain rfl := som1 h
                              exact x_iret E hP hS rfl dX7_count_239
                            · have h := (if_neg c14).symm.trans h
                              by_cases c15 : x1 = (14 : Int32)
                              · have h := (if_pos c15).symm.trans h
                                refine lv_tableIn (pc := 1) (off := 239) (tgt := 240) hx hb dX7_count_1 (by rw [c15]; decide) (by rw [c15]; decide) (by rw [c15]; decide) (by decide) ?_
                                refine lv_aload_n (pc := 240) hx hb dX7_count_240 rfl (lv_at hl 0 rfl) ?_
                                refine x_get (pc := 241) (v := .ref (ad 3)) E hP (by decide) sh7 rfl inX7 1 (by decide) q293 rfl dX7_count_241 ?_
                                refine x_get (pc := 244) (v := .ref (ad 19)) E hP (StA.lt StA_3) (sh6 StA_3) rfl inX6 2 (by decide) q258 rfl dX7_count_244 ?_
                                refine x_get (pc := 247) (v := .int (bz (M 19 0))) E hP (GaA.lt GaA_19) (sh1 GaA_19) rfl inX1 0 (by decide) q184 rfl dX7_count_247 ?_
                                refine x_callSi (pc := 250) (st := .int (bz (M 19 0)) :: []) (As := [.int (bz (M 19 0))]) E hEx hl.1 hP hS (kX7_asNumber hap  M _ _ rfl) gX7_308 hsX7_asNumber rfl ⟨Nat.le_of_ble_eq_true rfl, Nat.le_of_ble_eq_true rfl⟩ ⟨rfl, rfl⟩ dX7_count_250 rfl (Nat.le_of_ble_eq_true rfl) (fun H locs hP hS n16 => ?_)
                                obtain rfl := som1 h
                                exact x_iret E hP hS rfl dX7_count_253
                              · have h := (if_neg c15).symm.trans h
                                refine lv_tableOut (pc := 1) (tgt := 254) hx hb dX7_count_1 (by have e0 := ne_lit (k := 0) (by decide) c1; have e1 := ne_lit (k := 1) (by decide) c2; have e2 := ne_lit (k := 2) (by decide) c3; have e3 := ne_lit (k := 3) (by decide) c4; have e4 := ne_lit (k := 4) (by decide) c5; have e5 := ne_lit (k := 5) (by decide) c6; have e6 := ne_lit (k := 6) (by decide) c7; have e7 := ne_lit (k := 7) (by decide) c8; have e8 := ne_lit (k := 8) (by decide) c9; have e9 := ne_lit (k := 9) (by decide) c10; have e10 := ne_lit (k := 10) (by decide) c11; have e11 := ne_lit (k := 11) (by decide) c12; have e12 := ne_lit (k := 12) (by decide) c13; have e13 := ne_lit (k := 13) (by decide) c14; have e14 := ne_lit (k := 14) (by decide) c15; omega) (by decide) ?_
                                refine lv_bipush (pc := 254) (v := (-2 : Int32)) hx hb dX7_count_254 (by decide) ?_
                                obtain rfl := som1 h
                                exact x_iret E hP hS rfl dX7_count_256
end
