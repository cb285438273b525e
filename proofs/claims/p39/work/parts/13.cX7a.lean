section
variable {G : va_G} {ad sK sV : Nat → Nat} {cA cZ cC : ClassId}
set_option maxRecDepth 100000 in
set_option maxHeartbeats 4000000 in
theorem kX7_type (hap : Apart 78 ad)   (M : Mem) (x1 : Int32) (v : Int32) (M' : Mem) (h : fX7_type M x1 = some (v, M')) : XI G ad sK sV cA cZ cC yX7_type cX7_type 2 .int ({ frames := 1, cells := 0, slots := 0, locals := 22 } : Room) [.ref (ad 0), .int x1] M v M' := by
  refine CI.mk (own := RX7) (ls0 := [(0, .ref (ad 0)), (1, .int x1)]) (by decide +kernel) rfl hap (Nat.le_of_ble_eq_true rfl) rfl ?_
  intro p l e s m args below meth c ls E hP hl
  have hx := E.1
  have hb := E.2.1
  have hown := E.2.2.2.2.2.1
  have hts := E.2.2.2.2.2.2.1
  have hNe := E.2.2.2.2.2.2.2.2.1.1
  have hEx := ExX.ok ad sK sV
  have hS : va_S (AW 78 ad) s.heap s.heap [] := va_S.rf
  unfold fX7_type at h
  refine lv_aload_n (pc := 0) hx hb dX7_type_0 rfl (lv_at hl 0 rfl) ?_
  refine x_get (pc := 1) (v := .ref (ad 1)) E hP (by decide) sh7 rfl inX7 0 (by decide) q292 rfl dX7_type_1 ?_
  refine x_get (pc := 4) (v := .int (M 1 1)) E hP (by decide) sh0 rfl inX0 1 (by decide) q47 rfl dX7_type_4 ?_
  refine lv_bipush (pc := 7) (v := (20 : Int32)) hx hb dX7_type_7 (by decide) ?_
  refine lv_icmp_lt (pc := 9) (tgt := 15) hx hb dX7_type_9 (by decide) (fun c1 => ?_) (fun c1 => ?_)
  · have h := (if_pos c1).symm.trans h
    refine lv_aload_n (pc := 15) hx hb dX7_type_15 rfl (lv_at hl 0 rfl) ?_
    refine x_get (pc := 16) (v := .ref (ad 1)) E hP (by decide) sh7 rfl inX7 0 (by decide) q292 rfl dX7_type_16 ?_
    refine x_get (pc := 19) (v := .ref (ad 2)) E hP (by decide) sh0 rfl inX0 0 (by decide) q46 rfl dX7_type_19 ?_
    refine lv_aload_n (pc := 22) hx hb dX7_type_22 rfl (lv_at hl 0 rfl) ?_
    refine x_get (pc := 23) (v := .ref (ad 1)) E hP (by decide) sh7 rfl inX7 0 (by decide) q292 rfl dX7_type_23 ?_
    refine x_get (pc := 26) (v := .int (M 1 1)) E hP (by decide) sh0 rfl inX0 1 (by decide) q47 rfl dX7_type_26 ?_
    refine lv_iload_n (pc := 29) hx hb dX7_type_29 rfl (lv_at hl 1 rfl) ?_
    obtain ⟨M2, hM2, h⟩ := thn_ex h
    refine x_callSv (pc := 30) (st := .int x1 :: .int (M 1 1) :: .ref (ad 2) :: []) (As := [.ref (ad 2), .int (M 1 1), .int x1]) E hEx hl.1 hP hS (c_put hap M (by decide) sh0a1 (by decide) _ _ _ hM2) gX7_47 hsX7_put rfl ⟨Nat.le_of_ble_eq_true rfl, Nat.le_of_ble_eq_true rfl⟩ ⟨rfl, rfl⟩ dX7_type_30 rfl (Nat.le_of_ble_eq_true rfl) (fun H locs hP hS => ?_)
    refine lv_aload_n (pc := 33) hx hb dX7_type_33 rfl (lv_at hl 0 rfl) ?_
    refine x_get (pc := 34) (v := .ref (ad 1)) E hP (by decide) sh7 rfl inX7 0 (by decide) q292 rfl dX7_type_34 ?_
    refine lv_dup (pc := 37) hx hb dX7_type_37 rfl ?_
    refine x_get (pc := 38) (v := .int (M2 1 1)) E hP (by decide) sh0 rfl inX0 1 (by decide) q47 rfl dX7_type_38 ?_
    refine lv_iconst (pc := 41) (v := (1 : Int32)) hx hb dX7_type_41 (by decide) ?_
    refine lv_iadd (pc := 42) hx hb dX7_type_42 ?_
    obtain ⟨M3, hM3, h⟩ := thn_ex h
    refine x_put (pc := 43) (v := ((M2 1 1) + (1 : Int32))) E hP hS (by decide) sh0 tyX0 tyX0_ok nmX0 rfl inX0 1 (by decide) q47 rfl rfl rfl (Nat.le_of_ble_eq_true rfl) rfl dX7_type_43 (fun H locs hP hS => ?_)
    rw [hM3] at hP
    refine lv_aload_n (pc := 46) hx hb dX7_type_46 rfl (lv_at hl 0 rfl) ?_
    refine x_get (pc := 47) (v := .ref (ad 1)) E hP (by decide) sh7 rfl inX7 0 (by decide) q292 rfl dX7_type_47 ?_
    refine x_get (pc := 50) (v := .int (M3 1 1)) E hP (by decide) sh0 rfl inX0 1 (by decide) q47 rfl dX7_type_50 ?_
    obtain ⟨rfl, rfl⟩ := som2 h
    exact x_iret E hP hS rfl dX7_type_53
  · have h := (if_neg c1).symm.trans h
    refine lv_bipush (pc := 12) (v := (-3 : Int32)) hx hb dX7_type_12 (by decide) ?_
    obtain ⟨rfl, rfl⟩ := som2 h
    exact x_iret E hP hS rfl dX7_type_14
set_option maxRecDepth 100000 in
set_option maxHeartbeats 4000000 in
theorem kX7_clearText (hap : Apart 78 ad)   (M : Mem)  (v : Int32) (M' : Mem) (h : fX7_clearText M = some (v, M')) : XI G ad sK sV cA cZ cC yX7_clearText cX7_clearText 2 .int ({ frames := 0, cells := 0, slots := 0, locals := 0 } : Room) [.ref (ad 0)] M v M' := by
  refine CI.mk (own := RX7) (ls0 := [(0, .ref (ad 0))]) (by decide +kernel) rfl hap (Nat.le_of_ble_eq_true rfl) rfl ?_
  intro p l e s m args below meth c ls E hP hl
  have hx := E.1
  have hb := E.2.1
  have hown := E.2.2.2.2.2.1
  have hts := E.2.2.2.2.2.2.1
  have hNe := E.2.2.2.2.2.2.2.2.1.1
  have hEx := ExX.ok ad sK sV
  have hS : va_S (AW 78 ad) s.heap s.heap [] := va_S.rf
  unfold fX7_clearText at h
  refine lv_aload_n (pc := 0) hx hb dX7_clearText_0 rfl (lv_at hl 0 rfl) ?_
  refine x_get (pc := 1) (v := .ref (ad 1)) E hP (by decide) sh7 rfl inX7 0 (by decide) q292 rfl dX7_clearText_1 ?_
  refine x_get (pc := 4) (v := .int (M 1 1)) E hP (by decide) sh0 rfl inX0 1 (by decide) q47 rfl dX7_clearText_4 ?_
  refine lv_istore_n (pc := 7) (lv' := [(1, .int (M 1 1)), (0, .ref (ad 0))]) hx hb dX7_clearText_7 rfl hl (by decide) rfl (fun ls hl => ?_)
  refine lv_aload_n (pc := 8) hx hb dX7_clearText_8 rfl (lv_at hl 1 rfl) ?_
  refine x_get (pc := 9) (v := .ref (ad 1)) E hP (by decide) sh7 rfl inX7 0 (by decide) q292 rfl dX7_clearText_9 ?_
  refine lv_iconst (pc := 12) (v := (0 : Int32)) hx hb dX7_clearText_12 (by decide) ?_
  obtain ⟨M1, hM1, h⟩ := thn_ex h
  refine x_put (pc := 13) (v := (0 : Int32)) E hP hS (by decide) sh0 tyX0 tyX0_ok nmX0 rfl inX0 1 (by decide) q47 rfl rfl rfl (Nat.le_of_ble_eq_true rfl) rfl dX7_clearText_13 (fun H locs hP hS => ?_)
  rw [hM1] at hP
  refine lv_iload_n (pc := 16) hx hb dX7_clearText_16 rfl (lv_at hl 0 rfl) ?_
  obtain ⟨rfl, rfl⟩ := som2 h
  exact x_iret E hP hS rfl dX7_clearText_17
set_option maxRecDepth 100000 in
set_option maxHeartbeats 4000000 in
theorem kX7_addBox (hap : Apart 78 ad)   (M : Mem)  (v : Int32) (M' : Mem) (h : fX7_addBox M = some (v, M')) : XI G ad sK sV cA cZ cC yX7_addBox cX7_addBox 4 .int ({ frames := 8, cells := 0, slots := 0, locals := 223 } : Room) [.ref (ad 0)] M v M' := by
  refine CI.mk (own := RX7) (ls0 := [(0, .ref (ad 0))]) (by decide +kernel) rfl hap (Nat.le_of_ble_eq_true rfl) rfl ?_
  intro p l e s m args below meth c ls E hP hl
  have hx := E.1
  have hb := E.2.1
  have hown := E.2.2.2.2.2.1
  have hts := E.2.2.2.2.2.2.1
  have hNe := E.2.2.2.2.2.2.2.2.1.1
  have hEx := ExX.ok ad sK sV
  have hS : va_S (AW 78 ad) s.heap s.heap [] := va_S.rf
  have hB88 : ∀ (M : Mem) (H : Heap) (locs : List Loc) (ls : Array Slot), fX7_addBox_B88 M = some (v, M') → va_P G vwCl (WW 78 (shX cA ad) ad M) H → va_S (AW 78 ad) s.heap H locs → lv_has ls 4 [(0, .ref (ad 0)), (1, .ref (ad 4))] → W p l e ({ frames := 8, cells := 0, slots := 0, locals := 223 } : Room) s m args below meth c H locs 0 0 (QI below G 78 (shX cA ad) ad .int args s v M') (F0 m 88 ls []) := by
    intro M  H locs ls h hP hS hl
    unfold fX7_addBox_B88 at h
    refine lv_aload_n (pc := 88) hx hb dX7_addBox_88 rfl (lv_at hl 0 rfl) ?_
    refine x_get (pc := 89) (v := .ref (ad 3)) E hP (by decide) sh7 rfl inX7 1 (by decide) q293 rfl dX7_addBox_89 ?_
    refine x_get (pc := 92) (v := .ref (ad 19)) E hP (StA.lt StA_3) (sh6 StA_3) rfl inX6 2 (by decide) q258 rfl dX7_addBox_92 ?_
    refine x_get (pc := 95) (v := .int (bz (M 19 0))) E hP (GaA.lt GaA_19) (sh1 GaA_19) rfl inX1 0 (by decide) q184 rfl dX7_addBox_95 ?_
    refine lv_if_eq (pc := 98) (tgt := 104) hx hb dX7_addBox_98 (by decide) (fun c8 => ?_) (fun c8 => ?_)
    · have h := (if_pos c8).symm.trans h
      refine lv_aload_n (pc := 104) hx hb dX7_addBox_104 rfl (lv_at hl 1 rfl) ?_
      refine x_get (pc := 105) (v := .int (M 4 0)) E hP (RoA.lt RoA_4) (sh5 RoA_4) rfl inX5 0 (by decide) q89 rfl dX7_addBox_105 ?_
      refine lv_bipush (pc := 108) (v := (12 : Int32)) hx hb dX7_addBox_108 (by decide) ?_
      refine lv_icmp_lt (pc := 110) (tgt := 116) hx hb dX7_addBox_110 (by decide) (fun c9 => ?_) (fun c9 => ?_)
      · have h := (if_pos c9).symm.trans h
        refine lv_aload_n (pc := 116) hx hb dX7_addBox_116 rfl (lv_at hl 1 rfl) ?_
        refine lv_aload_n (pc := 117) hx hb dX7_addBox_117 rfl (lv_at hl 0 rfl) ?_
        refine x_get (pc := 118) (v := .ref (ad 1)) E hP (by decide) sh7 rfl inX7 0 (by decide) q292 rfl dX7_addBox_118 ?_
        refine x_get (pc := 121) (v := .int (M 1 2)) E hP (by decide) sh0 rfl inX0 2 (by decide) q50 rfl dX7_addBox_121 ?_
        refine lv_aload_n (pc := 124) hx hb dX7_addBox_124 rfl (lv_at hl 0 rfl) ?_
        refine x_get (pc := 125) (v := .ref (ad 1)) E hP (by decide) sh7 rfl inX7 0 (by decide) q292 rfl dX7_addBox_125 ?_
        refine x_get (pc := 128) (v := .int (M 1 3)) E hP (by decide) sh0 rfl inX0 3 (by decide) q52 rfl dX7_addBox_128 ?_
        refine lv_aload_n (pc := 131) hx hb dX7_addBox_131 rfl (lv_at hl 0 rfl) ?_
        refine x_get (pc := 132) (v := .ref (ad 1)) E hP (by decide) sh7 rfl inX7 0 (by decide) q292 rfl dX7_addBox_132 ?_
        refine x_get (pc := 135) (v := .int (M 1 4)) E hP (by decide) sh0 rfl inX0 4 (by decide) q54 rfl dX7_addBox_135 ?_
        obtain ⟨q10, hq10, h⟩ := bnd_ex h
        refine x_callVi (pc := 138) (st := .int (M 1 4) :: .int (M 1 3) :: .int (M 1 2) :: .ref (ad 4) :: []) (As := [.int (M 1 2), .int (M 1 3), .int (M 1 4)]) E hEx hl.1 hP hS (kX5_appendBox hap RoA_4 M _ _ _ _ _ hq10) gX7_87 hdX5_appendBox rfl (RoA.lt RoA_4) (sh5 RoA_4) rfl ⟨Nat.le_of_ble_eq_true rfl, Nat.le_of_ble_eq_true rfl⟩ ⟨rfl, rfl⟩ dX7_addBox_138 rfl (Nat.le_of_ble_eq_true rfl) (fun H locs hP hS n11 => ?_)
        obtain ⟨rfl, rfl⟩ := som2 h
        exact x_iret E hP hS rfl dX7_addBox_141
      · have h := (if_neg c9).symm.trans h
        refine lv_bipush (pc := 113) (v := (-3 : Int32)) hx hb dX7_addBox_113 (by decide) ?_
        obtain ⟨rfl, rfl⟩ := som2 h
        exact x_iret E hP hS rfl dX7_addBox_115
    · have h := (if_neg c8).symm.trans h
      refine lv_bipush (pc := 101) (v := (-4 : Int32)) hx hb dX7_addBox_101 (by decide) ?_
      obtain ⟨rfl, rfl⟩ := som2 h
      exact x_iret E hP hS rfl dX7_addBox_103
  have hB54 : ∀ (M : Mem) (x3 : Int32) (H : Heap) (locs : List Loc) (ls : Array Slot), fX7_addBox_B54 M x3 = some (v, M') → va_P G vwCl (WW 78 (shX cA ad) ad M) H → va_S (AW 78 ad) s.heap H locs → lv_has ls 4 [(0, .ref (ad 0)), (1, .ref (ad 4)), (3, .int x3)] → W p l e ({ frames := 8, cells := 0, slots := 0, locals := 223 } : Room) s m args below meth c H locs 0 0 (QI below G 78 (shX cA ad) ad .int args s v M') (F0 m 54 ls []) := by
    intro M x3 H locs ls h hP hS hl
    unfold fX7_addBox_B54 at h
    refine lv_aload_n (pc := 54) hx hb dX7_addBox_54 rfl (lv_at hl 1 rfl) ?_
    refine lv_aload_n (pc := 55) hx hb dX7_addBox_55 rfl (lv_at hl 0 rfl) ?_
    refine x_get (pc := 56) (v := .ref (ad 1)) E hP (by decide) sh7 rfl inX7 0 (by decide) q292 rfl dX7_addBox_56 ?_
    refine x_get (pc := 59) (v := .int (M 1 2)) E hP (by decide) sh0 rfl inX0 2 (by decide) q50 rfl dX7_addBox_59 ?_
    refine x_callVi (pc := 62) (st := .int (M 1 2) :: .ref (ad 4) :: []) (As := [.int (M 1 2)]) E hEx hl.1 hP hS (kX5_hasBox hap RoA_4 M _ _ rfl) gX7_64 hdX5_hasBox rfl (RoA.lt RoA_4) (sh5 RoA_4) rfl ⟨Nat.le_of_ble_eq_true rfl, Nat.le_of_ble_eq_true rfl⟩ ⟨rfl, rfl⟩ dX7_addBox_62 rfl (Nat.le_of_ble_eq_true rfl) (fun H locs hP hS n5 => ?_)
    refine lv_if_eq (pc := 65) (tgt := 86) hx hb dX7_addBox_65 (by decide) (fun c6 => ?_) (fun c6 => ?_)
    · have h := (if_pos c6).symm.trans h
      refine lv_iconst (pc := 86) (v := (-1 : Int32)) hx hb dX7_addBox_86 (by decide) ?_
      obtain ⟨rfl, rfl⟩ := som2 h
      exact x_iret E hP hS rfl dX7_addBox_87
    · have h := (if_neg c6).symm.trans h
      refine lv_iload_n (pc := 68) hx hb dX7_addBox_68 rfl (lv_at hl 2 rfl) ?_
      refine lv_if_eq (pc := 69) (tgt := 88) hx hb dX7_addBox_69 (by decide) (fun c7 => ?_) (fun c7 => ?_)
      · have h := (if_pos c7).symm.trans h
        exact hB88 M _ _ _ h hP hS (lv_sub hl [0, 1] rfl)
      · have h := (if_neg c7).symm.trans h
        refine lv_aload_n (pc := 72) hx hb dX7_addBox_72 rfl (lv_at hl 1 rfl) ?_
        refine lv_aload_n (pc := 73) hx hb dX7_addBox_73 rfl (lv_at hl 0 rfl) ?_
        refine x_get (pc := 74) (v := .ref (ad 1)) E hP (by decide) sh7 rfl inX7 0 (by decide) q292 rfl dX7_addBox_74 ?_
        refine x_get (pc := 77) (v := .int (M 1 4)) E hP (by decide) sh0 rfl inX0 4 (by decide) q54 rfl dX7_addBox_77 ?_
        refine x_callVi (pc := 80) (st := .int (M 1 4) :: .ref (ad 4) :: []) (As := [.int (M 1 4)]) E hEx hl.1 hP hS (kX5_hasProp hap RoA_4 M _ _ rfl) gX7_71 hdX5_hasProp rfl (RoA.lt RoA_4) (sh5 RoA_4) rfl ⟨Nat.le_of_ble_eq_true rfl, Nat.le_of_ble_eq_true rfl⟩ ⟨rfl, rfl⟩ dX7_addBox_80 rfl (Nat.le_of_ble_eq_true rfl) (fun H locs hP hS n12 => ?_)
        refine lv_if_ne (pc := 83) (tgt := 88) hx hb dX7_addBox_83 (by decide) (fun c13 => ?_) (fun c13 => ?_)
        · have h := (if_neg c13).symm.trans h
          exact hB88 M _ _ _ h hP hS (lv_sub hl [0, 1] rfl)
        · have h := (if_pos c13).symm.trans h
          refine lv_iconst (pc := 86) (v := (-1 : Int32)) hx hb dX7_addBox_86 (by decide) ?_
          obtain ⟨rfl, rfl⟩ := som2 h
          exact x_iret E hP hS rfl dX7_addBox_87
  unfold fX7_addBox at h
  refine lv_aload_n (pc := 0) hx hb dX7_addBox_0 rfl (lv_at hl 0 rfl) ?_
  refine x_get (pc := 1) (v := .ref (ad 3)) E hP (by decide) sh7 rfl inX7 1 (by decide) q293 rfl dX7_addBox_1 ?_
  refine x_get (pc := 4) (v := .ref (ad 4)) E hP (StA.lt StA_3) (sh6 StA_3) rfl inX6 0 (by decide) q254 rfl dX7_addBox_4 ?_
  refine lv_astore_n (pc := 7) (lv' := [(1, .ref (ad 4)), (0, .ref (ad 0))]) hx hb dX7_addBox_7 rfl hl (by decide) rfl (fun ls hl => ?_)
  refine lv_aload_n (pc := 8) hx hb dX7_addBox_8 rfl (lv_at hl 1 rfl) ?_
  refine x_get (pc := 9) (v := .ref (ad 1)) E hP (by decide) sh7 rfl inX7 0 (by decide) q292 rfl dX7_addBox_9 ?_
  obtain ⟨q1, hq1, h⟩ := bnd_ex h
  refine x_callVi (pc := 12) (st := .ref (ad 1) :: []) (As := []) E hEx hl.1 hP hS (kX0_findFault hap  M  _ _ hq1) gX7_54 hdX0_findFault rfl (by decide) sh0 rfl ⟨Nat.le_of_ble_eq_true rfl, Nat.le_of_ble_eq_true rfl⟩ ⟨rfl, rfl⟩ dX7_addBox_12 rfl (Nat.le_of_ble_eq_true rfl) (fun H locs hP hS n2 => ?_)
  refine lv_istore_n (pc := 15) (lv' := [(2, .int q1.1), (1, .ref (ad 4)), (0, .ref (ad 0))]) hx hb dX7_addBox_15 rfl hl (by decide) rfl (fun ls hl => ?_)
  refine lv_iload_n (pc := 16) hx hb dX7_addBox_16 rfl (lv_at hl 0 rfl) ?_
  refine lv_iconst (pc := 17) (v := (-1 : Int32)) hx hb dX7_addBox_17 (by decide) ?_
  refine lv_icmp_eq (pc := 18) (tgt := 26) hx hb dX7_addBox_18 (by decide) (fun c3 => ?_) (fun c3 => ?_)
  · have h := (if_pos c3).symm.trans h
    refine lv_aload_n (pc := 26) hx hb dX7_addBox_26 rfl (lv_at hl 2 rfl) ?_
    refine x_get (pc := 27) (v := .ref (ad 1)) E hP (by decide) sh7 rfl inX7 0 (by decide) q292 rfl dX7_addBox_27 ?_
    refine x_get (pc := 30) (v := .int (q1.2 1 3)) E hP (by decide) sh0 rfl inX0 3 (by decide) q52 rfl dX7_addBox_30 ?_
    refine lv_iconst (pc := 33) (v := (1 : Int32)) hx hb dX7_addBox_33 (by decide) ?_
    refine lv_icmp_eq (pc := 34) (tgt := 48) hx hb dX7_addBox_34 (by decide) (fun c4 => ?_) (fun c4 => ?_)
    · have h := (if_pos c4).symm.trans h
      refine lv_iconst (pc := 48) (v := (1 : Int32)) hx hb dX7_addBox_48 (by decide) ?_
      refine lv_goto (pc := 49) (tgt := 53) hx hb dX7_addBox_49 (by decide) ?_
      refine lv_istore_n (pc := 53) (lv' := [(3, .int (1 : Int32)), (2, .int q1.1), (1, .ref (ad 4)), (0, .ref (ad 0))]) hx hb dX7_addBox_53 rfl hl (by decide) rfl (fun ls hl => ?_)
      exact hB54 q1.2 (1 : Int32) _ _ _ h hP hS (lv_sub hl [3, 2, 0] rfl)
    · have h := (if_neg c4).symm.trans h
      refine lv_aload_n (pc := 37) hx hb dX7_addBox_37 rfl (lv_at hl 2 rfl) ?_
      refine x_get (pc := 38) (v := .ref (ad 1)) E hP (by decide) sh7 rfl inX7 0 (by decide) q292 rfl dX7_addBox_38 ?_
      refine x_get (pc := 41) (v := .int (q1.2 1 3)) E hP (by decide) sh0 rfl inX0 3 (by decide) q52 rfl dX7_addBox_41 ?_
      refine lv_iconst (pc := 44) (v := (3 : Int32)) hx hb dX7_addBox_44 (by decide) ?_
      refine lv_icmp_ne (pc := 45) (tgt := 52) hx hb dX7_addBox_45 (by decide) (fun c14 => ?_) (fun c14 => ?_)
      · have h := (if_neg c14).symm.trans h
        refine lv_iconst (pc := 52) (v := (0 : Int32)) hx hb dX7_addBox_52 (by decide) ?_
        refine lv_istore_n (pc := 53) (lv' := [(3, .int (0 : Int32)), (2, .int q1.1), (1, .ref (ad 4)), (0, .ref (ad 0))]) hx hb dX7_addBox_53 rfl hl (by decide) rfl (fun ls hl => ?_)
        exact hB54 q1.2 (0 : Int32) _ _ _ h hP hS (lv_sub hl [3, 2, 0] rfl)
      · have h := (if_pos c14).symm.trans h
        refine lv_iconst (pc := 48) (v := (1 : Int32)) hx hb dX7_addBox_48 (by decide) ?_
        refine lv_goto (pc := 49) (tgt := 53) hx hb dX7_addBox_49 (by decide) ?_
        refine lv_istore_n (pc := 53) (lv' := [(3, .int (1 : Int32)), (2, .int q1.1), (1, .ref (ad 4)), (0, .ref (ad 0))]) hx hb dX7_addBox_53 rfl hl (by decide) rfl (fun ls hl => ?_)
        exact hB54 q1.2 (1 : Int32) _ _ _ h hP hS (lv_sub hl [3, 2, 0] rfl)
  · have h := (if_neg c3).symm.trans h
    refine lv_bipush (pc := 21) (v := (-100 : Int32)) hx hb dX7_addBox_21 (by decide) ?_
    refine lv_iload_n (pc := 23) hx hb dX7_addBox_23 rfl (lv_at hl 0 rfl) ?_
    refine lv_isub (pc := 24) hx hb dX7_addBox_24 ?_
    obtain ⟨rfl, rfl⟩ := som2 h
    exact x_iret E hP hS rfl dX7_addBox_25
set_option maxRecDepth 100000 in
set_option maxHeartbeats 4000000 in
theorem kX7_addProp (hap : Apart 78 ad)   (M : Mem) (x1 : Int32) (v : Int32) (M' : Mem) (h : fX7_addProp M x1 = some (v, M')) : XI G ad sK sV cA cZ cC yX7_addProp cX7_addProp 2 .int ({ frames := 2, cells := 0, slots := 0, locals := 44 } : Room) [.ref (ad 0), .int x1] M v M' := by
  refine CI.mk (own := RX7) (ls0 := [(0, .ref (ad 0)), (1, .int x1)]) (by decide +kernel) rfl hap (Nat.le_of_ble_eq_true rfl) rfl ?_
  intro p l e s m args below meth c ls E hP hl
  have hx := E.1
  have hb := E.2.1
  have hown := E.2.2.2.2.2.1
  have hts := E.2.2.2.2.2.2.1
  have hNe := E.2.2.2.2.2.2.2.2.1.1
  have hEx := ExX.ok ad sK sV
  have hS : va_S (AW 78 ad) s.heap s.heap [] := va_S.rf
  unfold fX7_addProp at h
  refine lv_aload_n (pc := 0) hx hb dX7_addProp_0 rfl (lv_at hl 0 rfl) ?_
  refine x_get (pc := 1) (v := .ref (ad 3)) E hP (by decide) sh7 rfl inX7 1 (by decide) q293 rfl dX7_addProp_1 ?_
  refine x_get (pc := 4) (v := .ref (ad 4)) E hP (StA.lt StA_3) (sh6 StA_3) rfl inX6 0 (by decide) q254 rfl dX7_addProp_4 ?_
  refine lv_iload_n (pc := 7) hx hb dX7_addProp_7 rfl (lv_at hl 1 rfl) ?_
  refine x_callVi (pc := 8) (st := .int x1 :: .ref (ad 4) :: []) (As := [.int x1]) E hEx hl.1 hP hS (kX5_hasBox hap RoA_4 M _ _ rfl) gX7_64 hdX5_hasBox rfl (RoA.lt RoA_4) (sh5 RoA_4) rfl ⟨Nat.le_of_ble_eq_true rfl, Nat.le_of_ble_eq_true rfl⟩ ⟨rfl, rfl⟩ dX7_addProp_8 rfl (Nat.le_of_ble_eq_true rfl) (fun H locs hP hS n1 => ?_)
  refine lv_if_ne (pc := 11) (tgt := 16) hx hb dX7_addProp_11 (by decide) (fun c2 => ?_) (fun c2 => ?_)
  · have h := (if_neg c2).symm.trans h
    refine lv_aload_n (pc := 16) hx hb dX7_addProp_16 rfl (lv_at hl 0 rfl) ?_
    refine x_get (pc := 17) (v := .ref (ad 3)) E hP (by decide) sh7 rfl inX7 1 (by decide) q293 rfl dX7_addProp_17 ?_
    refine x_get (pc := 20) (v := .ref (ad 19)) E hP (StA.lt StA_3) (sh6 StA_3) rfl inX6 2 (by decide) q258 rfl dX7_addProp_20 ?_
    refine x_get (pc := 23) (v := .int (bz (M 19 0))) E hP (GaA.lt GaA_19) (sh1 GaA_19) rfl inX1 0 (by decide) q184 rfl dX7_addProp_23 ?_
    refine lv_if_eq (pc := 26) (tgt := 32) hx hb dX7_addProp_26 (by decide) (fun c3 => ?_) (fun c3 => ?_)
    · have h := (if_pos c3).symm.trans h
      refine lv_aload_n (pc := 32) hx hb dX7_addProp_32 rfl (lv_at hl 0 rfl) ?_
      refine x_get (pc := 33) (v := .ref (ad 3)) E hP (by decide) sh7 rfl inX7 1 (by decide) q293 rfl dX7_addProp_33 ?_
      refine x_get (pc := 36) (v := .ref (ad 4)) E hP (StA.lt StA_3) (sh6 StA_3) rfl inX6 0 (by decide) q254 rfl dX7_addProp_36 ?_
      refine x_get (pc := 39) (v := .int (M 4 6)) E hP (RoA.lt RoA_4) (sh5 RoA_4) rfl inX5 6 (by decide) q101 rfl dX7_addProp_39 ?_
      refine lv_bipush (pc := 42) (v := (24 : Int32)) hx hb dX7_addProp_42 (by decide) ?_
      refine lv_icmp_lt (pc := 44) (tgt := 50) hx hb dX7_addProp_44 (by decide) (fun c4 => ?_) (fun c4 => ?_)
      · have h := (if_pos c4).symm.trans h
        refine lv_aload_n (pc := 50) hx hb dX7_addProp_50 rfl (lv_at hl 0 rfl) ?_
        refine x_get (pc := 51) (v := .ref (ad 3)) E hP (by decide) sh7 rfl inX7 1 (by decide) q293 rfl dX7_addProp_51 ?_
        refine x_get (pc := 54) (v := .ref (ad 4)) E hP (StA.lt StA_3) (sh6 StA_3) rfl inX6 0 (by decide) q254 rfl dX7_addProp_54 ?_
        refine lv_iload_n (pc := 57) hx hb dX7_addProp_57 rfl (lv_at hl 1 rfl) ?_
        obtain ⟨q5, hq5, h⟩ := bnd_ex h
        refine x_callVi (pc := 58) (st := .int x1 :: .ref (ad 4) :: []) (As := [.int x1]) E hEx hl.1 hP hS (kX5_appendProp hap RoA_4 M _ _ _ hq5) gX7_94 hdX5_appendProp rfl (RoA.lt RoA_4) (sh5 RoA_4) rfl ⟨Nat.le_of_ble_eq_true rfl, Nat.le_of_ble_eq_true rfl⟩ ⟨rfl, rfl⟩ dX7_addProp_58 rfl (Nat.le_of_ble_eq_true rfl) (fun H locs hP hS n6 => ?_)
        obtain ⟨rfl, rfl⟩ := som2 h
        exact x_iret E hP hS rfl dX7_addProp_61
      · have h := (if_neg c4).symm.trans h
        refine lv_bipush (pc := 47) (v := (-3 : Int32)) hx hb dX7_addProp_47 (by decide) ?_
        obtain ⟨rfl, rfl⟩ := som2 h
        exact x_iret E hP hS rfl dX7_addProp_49
    · have h := (if_neg c3).symm.trans h
      refine lv_bipush (pc := 29) (v := (-4 : Int32)) hx hb dX7_addProp_29 (by decide) ?_
      obtain ⟨rfl, rfl⟩ := som2 h
      exact x_iret E hP hS rfl dX7_addProp_31
  · have h := (if_pos c2).symm.trans h
    refine lv_iconst (pc := 14) (v := (-1 : Int32)) hx hb dX7_addProp_14 (by decide) ?_
    obtain ⟨rfl, rfl⟩ := som2 h
    exact x_iret E hP hS rfl dX7_addProp_15
set_option maxRecDepth 100000 in
set_option maxHeartbeats 4000000 in
theorem kX7_addClue (hap : Apart 78 ad)   (M : Mem) (x1 x2 x3 : Int32) (v : Int32) (M' : Mem) (h : fX7_addClue M x1 x2 x3 = some (v, M')) : XI G ad sK sV cA cZ cC yX7_addClue cX7_addClue 5 .int ({ frames := 2, cells := 0, slots := 0, locals := 46 } : Room) [.ref (ad 0), .int x1, .int x2, .int x3] M v M' := by
  refine CI.mk (own := RX7) (ls0 := [(0, .ref (ad 0)), (1, .int x1), (2, .int x2), (3, .int x3)]) (by decide +kernel) rfl hap (Nat.le_of_ble_eq_true rfl) rfl ?_
  intro p l e s m args below meth c ls E hP hl
  have hx := E.1
  have hb := E.2.1
  have hown := E.2.2.2.2.2.1
  have hts := E.2.2.2.2.2.2.1
  have hNe := E.2.2.2.2.2.2.2.2.1.1
  have hEx := ExX.ok ad sK sV
  have hS : va_S (AW 78 ad) s.heap s.heap [] := va_S.rf
  unfold fX7_addClue at h
  refine lv_aload_n (pc := 0) hx hb dX7_addClue_0 rfl (lv_at hl 0 rfl) ?_
  refine x_get (pc := 1) (v := .ref (ad 3)) E hP (by decide) sh7 rfl inX7 1 (by decide) q293 rfl dX7_addClue_1 ?_
  refine x_get (pc := 4) (v := .ref (ad 4)) E hP (StA.lt StA_3) (sh6 StA_3) rfl inX6 0 (by decide) q254 rfl dX7_addClue_4 ?_
  refine lv_astore (pc := 7) (lv' := [(4, .ref (ad 4)), (0, .ref (ad 0)), (1, .int x1), (2, .int x2), (3, .int x3)]) hx hb dX7_addClue_7 hl (by decide) rfl (fun ls hl => ?_)
  refine lv_aload (pc := 9) hx hb dX7_addClue_9 (lv_at hl 0 rfl) ?_
  refine lv_iload_n (pc := 11) hx hb dX7_addClue_11 rfl (lv_at hl 2 rfl) ?_
  refine x_callVi (pc := 12) (st := .int x1 :: .ref (ad 4) :: []) (As := [.int x1]) E hEx hl.1 hP hS (kX5_hasProp hap RoA_4 M _ _ rfl) gX7_71 hdX5_hasProp rfl (RoA.lt RoA_4) (sh5 RoA_4) rfl ⟨Nat.le_of_ble_eq_true rfl, Nat.le_of_ble_eq_true rfl⟩ ⟨rfl, rfl⟩ dX7_addClue_12 rfl (Nat.le_of_ble_eq_true rfl) (fun H locs hP hS n1 => ?_)
  refine lv_if_eq (pc := 15) (tgt := 27) hx hb dX7_addClue_15 (by decide) (fun c2 => ?_) (fun c2 => ?_)
  · have h := (if_pos c2).symm.trans h
    refine lv_iconst (pc := 27) (v := (-1 : Int32)) hx hb dX7_addClue_27 (by decide) ?_
    obtain ⟨rfl, rfl⟩ := som2 h
    exact x_iret E hP hS rfl dX7_addClue_28
  · have h := (if_neg c2).symm.trans h
    refine lv_aload (pc := 18) hx hb dX7_addClue_18 (lv_at hl 0 rfl) ?_
    refine lv_iload_n (pc := 20) hx hb dX7_addClue_20 rfl (lv_at hl 3 rfl) ?_
    refine x_callVi (pc := 21) (st := .int x2 :: .ref (ad 4) :: []) (As := [.int x2]) E hEx hl.1 hP hS (kX5_hasBox hap RoA_4 M _ _ rfl) gX7_64 hdX5_hasBox rfl (RoA.lt RoA_4) (sh5 RoA_4) rfl ⟨Nat.le_of_ble_eq_true rfl, Nat.le_of_ble_eq_true rfl⟩ ⟨rfl, rfl⟩ dX7_addClue_21 rfl (Nat.le_of_ble_eq_true rfl) (fun H locs hP hS n3 => ?_)
    refine lv_if_ne (pc := 24) (tgt := 29) hx hb dX7_addClue_24 (by decide) (fun c4 => ?_) (fun c4 => ?_)
    · have h := (if_neg c4).symm.trans h
      refine lv_iload_n (pc := 29) hx hb dX7_addClue_29 rfl (lv_at hl 4 rfl) ?_
      refine lv_if_lt (pc := 30) (tgt := 38) hx hb dX7_addClue_30 (by decide) (fun c5 => ?_) (fun c5 => ?_)
      · have h := (if_pos c5).symm.trans h
        refine lv_bipush (pc := 38) (v := (-2 : Int32)) hx hb dX7_addClue_38 (by decide) ?_
        obtain ⟨rfl, rfl⟩ := som2 h
        exact x_iret E hP hS rfl dX7_addClue_40
      · have h := (if_neg c5).symm.trans h
        refine lv_iload_n (pc := 33) hx hb dX7_addClue_33 rfl (lv_at hl 4 rfl) ?_
        refine lv_iconst (pc := 34) (v := (4 : Int32)) hx hb dX7_addClue_34 (by decide) ?_
        refine lv_icmp_lt (pc := 35) (tgt := 41) hx hb dX7_addClue_35 (by decide) (fun c6 => ?_) (fun c6 => ?_)
        · have h := (if_pos c6).symm.trans h
          refine lv_aload (pc := 41) hx hb dX7_addClue_41 (lv_at hl 0 rfl) ?_
          refine lv_iload_n (pc := 43) hx hb dX7_addClue_43 rfl (lv_at hl 3 rfl) ?_
          refine lv_iconst (pc := 44) (v := (2 : Int32)) hx hb dX7_addClue_44 (by decide) ?_
          refine x_callVi (pc := 45) (st := .int (2 : Int32) :: .int x2 :: .ref (ad 4) :: []) (As := [.int x2, .int (2 : Int32)]) E hEx hl.1 hP hS (kX5_hasLock hap RoA_4 M _ _ _ rfl) gX7_98 hdX5_hasLock rfl (RoA.lt RoA_4) (sh5 RoA_4) rfl ⟨Nat.le_of_ble_eq_true rfl, Nat.le_of_ble_eq_true rfl⟩ ⟨rfl, rfl⟩ dX7_addClue_45 rfl (Nat.le_of_ble_eq_true rfl) (fun H locs hP hS n7 => ?_)
          refine lv_if_eq (pc := 48) (tgt := 64) hx hb dX7_addClue_48 (by decide) (fun c8 => ?_) (fun c8 => ?_)
          · have h := (if_pos c8).symm.trans h
            refine lv_bipush (pc := 64) (v := (-4 : Int32)) hx hb dX7_addClue_64 (by decide) ?_
            obtain ⟨rfl, rfl⟩ := som2 h
            exact x_iret E hP hS rfl dX7_addClue_66
          · have h := (if_neg c8).symm.trans h
            refine lv_aload_n (pc := 51) hx hb dX7_addClue_51 rfl (lv_at hl 1 rfl) ?_
            refine x_get (pc := 52) (v := .ref (ad 3)) E hP (by decide) sh7 rfl inX7 1 (by decide) q293 rfl dX7_addClue_52 ?_
            refine x_get (pc := 55) (v := .ref (ad 19)) E hP (StA.lt StA_3) (sh6 StA_3) rfl inX6 2 (by decide) q258 rfl dX7_addClue_55 ?_
            refine x_get (pc := 58) (v := .int (bz (M 19 0))) E hP (GaA.lt GaA_19) (sh1 GaA_19) rfl inX1 0 (by decide) q184 rfl dX7_addClue_58 ?_
            refine lv_if_eq (pc := 61) (tgt := 67) hx hb dX7_addClue_61 (by decide) (fun c9 => ?_) (fun c9 => ?_)
            · have h := (if_pos c9).symm.trans h
              refine lv_aload (pc := 67) hx hb dX7_addClue_67 (lv_at hl 0 rfl) ?_
              refine x_get (pc := 69) (v := .int (M 4 9)) E hP (RoA.lt RoA_4) (sh5 RoA_4) rfl inX5 9 (by decide) q107 rfl dX7_addClue_69 ?_
              refine lv_bipush (pc := 72) (v := (12 : Int32)) hx hb dX7_addClue_72 (by decide) ?_
              refine lv_icmp_lt (pc := 74) (tgt := 80) hx hb dX7_addClue_74 (by decide) (fun c10 => ?_) (fun c10 => ?_)
              · have h := (if_pos c10).symm.trans h
                refine lv_aload (pc := 80) hx hb dX7_addClue_80 (lv_at hl 0 rfl) ?_
                refine lv_iload_n (pc := 82) hx hb dX7_addClue_82 rfl (lv_at hl 2 rfl) ?_
                refine lv_iload_n (pc := 83) hx hb dX7_addClue_83 rfl (lv_at hl 3 rfl) ?_
                refine lv_iload_n (pc := 84) hx hb dX7_addClue_84 rfl (lv_at hl 4 rfl) ?_
                obtain ⟨q11, hq11, h⟩ := bnd_ex h
                refine x_callVi (pc := 85) (st := .int x3 :: .int x2 :: .int x1 :: .ref (ad 4) :: []) (As := [.int x1, .int x2, .int x3]) E hEx hl.1 hP hS (kX5_appendClue hap RoA_4 M _ _ _ _ _ hq11) gX7_105 hdX5_appendClue rfl (RoA.lt RoA_4) (sh5 RoA_4) rfl ⟨Nat.le_of_ble_eq_true rfl, Nat.le_of_ble_eq_true rfl⟩ ⟨rfl, rfl⟩ dX7_addClue_85 rfl (Nat.le_of_ble_eq_true rfl) (fun H locs hP hS n12 => ?_)
                obtain ⟨rfl, rfl⟩ := som2 h
                exact x_iret E hP hS rfl dX7_addClue_88
              · have h := (if_neg c10).symm.trans h
                refine lv_bipush (pc := 77) (v := (-3 : Int32)) hx hb dX7_addClue_77 (by decide) ?_
                obtain ⟨rfl, rfl⟩ := som2 h
                exact x_iret E hP hS rfl dX7_addClue_79
            · have h := (if_neg c9).symm.trans h
              refine lv_bipush (pc := 64) (v := (-4 : Int32)) hx hb dX7_addClue_64 (by decide) ?_
              obtain ⟨rfl, rfl⟩ := som2 h
              exact x_iret E hP hS rfl dX7_addClue_66
        · have h := (if_neg c6).symm.trans h
          refine lv_bipush (pc := 38) (v := (-2 : Int32)) hx hb dX7_addClue_38 (by decide) ?_
          obtain ⟨rfl, rfl⟩ := som2 h
          exact x_iret E hP hS rfl dX7_addClue_40
    · have h := (if_pos c4).symm.trans h
      refine lv_iconst (pc := 27) (v := (-1 : Int32)) hx hb dX7_addClue_27 (by decide) ?_
      obtain ⟨rfl, rfl⟩ := som2 h
      exact x_iret E hP hS rfl dX7_addClue_28
set_option maxRecDepth 100000 in
set_option maxHeartbeats 4000000 in
theorem kX7_setExit (hap : Apart 78 ad)   (M : Mem) (x1 : Int32) (v : Int32) (M' : Mem) (h : fX7_setExit M x1 = some (v, M')) : XI G ad sK sV cA cZ cC yX7_setExit cX7_setExit 3 .int ({ frames := 1, cells := 0, slots := 0, locals := 21 } : Room) [.ref (ad 0), .int x1] M v M' := by
  refine CI.mk (own := RX7) (ls0 := [(0, .ref (ad 0)), (1, .int x1)]) (by decide +kernel) rfl hap (Nat.le_of_ble_eq_true rfl) rfl ?_
  intro p l e s m args below meth c ls E hP hl
  have hx := E.1
  have hb := E.2.1
  have hown := E.2.2.2.2.2.1
  have hts := E.2.2.2.2.2.2.1
  have hNe := E.2.2.2.2.2.2.2.2.1.1
  have hEx := ExX.ok ad sK sV
  have hS : va_S (AW 78 ad) s.heap s.heap [] := va_S.rf
  unfold fX7_setExit at h
  refine lv_aload_n (pc := 0) hx hb dX7_setExit_0 rfl (lv_at hl 0 rfl) ?_
  refine x_get (pc := 1) (v := .ref (ad 3)) E hP (by decide) sh7 rfl inX7 1 (by decide) q293 rfl dX7_setExit_1 ?_
  refine x_get (pc := 4) (v := .ref (ad 4)) E hP (StA.lt StA_3) (sh6 StA_3) rfl inX6 0 (by decide) q254 rfl dX7_setExit_4 ?_
  refine lv_iload_n (pc := 7) hx hb dX7_setExit_7 rfl (lv_at hl 1 rfl) ?_
  refine x_callVi (pc := 8) (st := .int x1 :: .ref (ad 4) :: []) (As := [.int x1]) E hEx hl.1 hP hS (kX5_hasBox hap RoA_4 M _ _ rfl) gX7_64 hdX5_hasBox rfl (RoA.lt RoA_4) (sh5 RoA_4) rfl ⟨Nat.le_of_ble_eq_true rfl, Nat.le_of_ble_eq_true rfl⟩ ⟨rfl, rfl⟩ dX7_setExit_8 rfl (Nat.le_of_ble_eq_true rfl) (fun H locs hP hS n1 => ?_)
  refine lv_if_ne (pc := 11) (tgt := 16) hx hb dX7_setExit_11 (by decide) (fun c2 => ?_) (fun c2 => ?_)
  · have h := (if_neg c2).symm.trans h
    refine lv_iload_n (pc := 16) hx hb dX7_setExit_16 rfl (lv_at hl 1 rfl) ?_
    refine lv_if_ne (pc := 17) (tgt := 23) hx hb dX7_setExit_17 (by decide) (fun c3 => ?_) (fun c3 => ?_)
    · have h := (if_neg c3).symm.trans h
      refine lv_aload_n (pc := 23) hx hb dX7_setExit_23 rfl (lv_at hl 0 rfl) ?_
      refine x_get (pc := 24) (v := .ref (ad 3)) E hP (by decide) sh7 rfl inX7 1 (by decide) q293 rfl dX7_setExit_24 ?_
      refine x_get (pc := 27) (v := .ref (ad 19)) E hP (StA.lt StA_3) (sh6 StA_3) rfl inX6 2 (by decide) q258 rfl dX7_setExit_27 ?_
      refine x_get (pc := 30) (v := .int (bz (M 19 0))) E hP (GaA.lt GaA_19) (sh1 GaA_19) rfl inX1 0 (by decide) q184 rfl dX7_setExit_30 ?_
      refine lv_if_eq (pc := 33) (tgt := 39) hx hb dX7_setExit_33 (by decide) (fun c4 => ?_) (fun c4 => ?_)
      · have h := (if_pos c4).symm.trans h
        refine lv_aload_n (pc := 39) hx hb dX7_setExit_39 rfl (lv_at hl 0 rfl) ?_
        refine x_get (pc := 40) (v := .ref (ad 3)) E hP (by decide) sh7 rfl inX7 1 (by decide) q293 rfl dX7_setExit_40 ?_
        refine x_get (pc := 43) (v := .ref (ad 4)) E hP (StA.lt StA_3) (sh6 StA_3) rfl inX6 0 (by decide) q254 rfl dX7_setExit_43 ?_
        refine x_get (pc := 46) (v := .int (M 4 14)) E hP (RoA.lt RoA_4) (sh5 RoA_4) rfl inX5 14 (by decide) q119 rfl dX7_setExit_46 ?_
        refine lv_istore_n (pc := 49) (lv' := [(2, .int (M 4 14)), (0, .ref (ad 0)), (1, .int x1)]) hx hb dX7_setExit_49 rfl hl (by decide) rfl (fun ls hl => ?_)
        refine lv_iload_n (pc := 50) hx hb dX7_setExit_50 rfl (lv_at hl 0 rfl) ?_
        refine lv_iload_n (pc := 51) hx hb dX7_setExit_51 rfl (lv_at hl 2 rfl) ?_
        refine lv_icmp_ne (pc := 52) (tgt := 58) hx hb dX7_setExit_52 (by decide) (fun c5 => ?_) (fun c5 => ?_)
        · have h := (if_neg c5).symm.trans h
          refine lv_aload_n (pc := 58) hx hb dX7_setExit_58 rfl (lv_at hl 1 rfl) ?_
          refine x_get (pc := 59) (v := .ref (ad 3)) E hP (by decide) sh7 rfl inX7 1 (by decide) q293 rfl dX7_setExit_59 ?_
          refine x_get (pc := 62) (v := .ref (ad 4)) E hP (StA.lt StA_3) (sh6 StA_3) rfl inX6 0 (by decide) q254 rfl dX7_setExit_62 ?_
          refine lv_iload_n (pc := 65) hx hb dX7_setExit_65 rfl (lv_at hl 2 rfl) ?_
          obtain ⟨M6, hM6, h⟩ := thn_ex h
          refine x_put (pc := 66) (v := x1) E hP hS (RoA.lt RoA_4) (sh5 RoA_4) tyX5 tyX5_ok nmX5 rfl inX5 14 (by decide) q119 rfl rfl rfl (Nat.le_of_ble_eq_true rfl) rfl dX7_setExit_66 (fun H locs hP hS => ?_)
          rw [hM6] at hP
          refine lv_iload_n (pc := 69) hx hb dX7_setExit_69 rfl (lv_at hl 0 rfl) ?_
          obtain ⟨rfl, rfl⟩ := som2 h
          exact x_iret E hP hS rfl dX7_setExit_70
        · have h := (if_pos c5).symm.trans h
          refine lv_bipush (pc := 55) (v := (-5 : Int32)) hx hb dX7_setExit_55 (by decide) ?_
          obtain ⟨rfl, rfl⟩ := som2 h
          exact x_iret E hP hS rfl dX7_setExit_57
      · have h := (if_neg c4).symm.trans h
        refine lv_bipush (pc := 36) (v := (-4 : Int32)) hx hb dX7_setExit_36 (by decide) ?_
        obtain ⟨rfl, rfl⟩ := som2 h
        exact x_iret E hP hS rfl dX7_setExit_38
    · have h := (if_pos c3).symm.trans h
      refine lv_bipush (pc := 20) (v := (-2 : Int32)) hx hb dX7_setExit_20 (by decide) ?_
      obtain ⟨rfl, rfl⟩ := som2 h
      exact x_iret E hP hS rfl dX7_setExit_22
  · have h := (if_pos c2).symm.trans h
    refine lv_iconst (pc := 14) (v := (-1 : Int32)) hx hb dX7_setExit_14 (by decide) ?_
    obtain ⟨rfl, rfl⟩ := som2 h
    exact x_iret E hP hS rfl dX7_setExit_15
set_option maxRecDepth 100000 in
set_option maxHeartbeats 4000000 in
theorem kX7_setLimits (hap : Apart 78 ad)   (M : Mem) (x1 x2 : Int32) (v : Int32) (M' : Mem) (h : fX7_setLimits M x1 x2 = some (v, M')) : XI G ad sK sV cA cZ cC yX7_setLimits cX7_setLimits 4 .int ({ frames := 0, cells := 0, slots := 0, locals := 0 } : Room) [.ref (ad 0), .int x1, .int x2] M v M' := by
  refine CI.mk (own := RX7) (ls0 := [(0, .ref (ad 0)), (1, .int x1), (2, .int x2)]) (by decide +kernel) rfl hap (Nat.le_of_ble_eq_true rfl) rfl ?_
  intro p l e s m args below meth c ls E hP hl
  have hx := E.1
  have hb := E.2.1
  have hown := E.2.2.2.2.2.1
  have hts := E.2.2.2.2.2.2.1
  have hNe := E.2.2.2.2.2.2.2.2.1.1
  have hEx := ExX.ok ad sK sV
  have hS : va_S (AW 78 ad) s.heap s.heap [] := va_S.rf
  have hB68 : ∀ (M : Mem) (x1 x2 x3 : Int32) (H : Heap) (locs : List Loc) (ls : Array Slot), fX7_setLimits_B68 M x1 x2 x3 = some (v, M') → va_P G vwCl (WW 78 (shX cA ad) ad M) H → va_S (AW 78 ad) s.heap H locs → lv_has ls 4 [(0, .ref (ad 0)), (1, .int x1), (2, .int x2), (3, .int x3)] → W p l e ({ frames := 0, cells := 0, slots := 0, locals := 0 } : Room) s m args below meth c H locs 0 0 (QI below G 78 (shX cA ad) ad .int args s v M') (F0 m 68 ls []) := by
    intro M x1 x2 x3 H locs ls h hP hS hl
    unfold fX7_setLimits_B68 at h
    refine lv_aload_n (pc := 68) hx hb dX7_setLimits_68 rfl (lv_at hl 0 rfl) ?_
    refine x_get (pc := 69) (v := .ref (ad 3)) E hP (by decide) sh7 rfl inX7 1 (by decide) q293 rfl dX7_setLimits_69 ?_
    refine lv_iload_n (pc := 72) hx hb dX7_setLimits_72 rfl (lv_at hl 1 rfl) ?_
    obtain ⟨M7, hM7, h⟩ := thn_ex h
    refine x_put (pc := 73) (v := x1) E hP hS (StA.lt StA_3) (sh6 StA_3) tyX6 tyX6_ok nmX6 rfl inX6 7 (by decide) q268 rfl rfl rfl (Nat.le_of_ble_eq_true rfl) rfl dX7_setLimits_73 (fun H locs hP hS => ?_)
    rw [hM7] at hP
    refine lv_aload_n (pc := 76) hx hb dX7_setLimits_76 rfl (lv_at hl 0 rfl) ?_
    refine x_get (pc := 77) (v := .ref (ad 3)) E hP (by decide) sh7 rfl inX7 1 (by decide) q293 rfl dX7_setLimits_77 ?_
    refine lv_iload_n (pc := 80) hx hb dX7_setLimits_80 rfl (lv_at hl 2 rfl) ?_
    obtain ⟨M8, hM8, h⟩ := thn_ex h
    refine x_put (pc := 81) (v := x2) E hP hS (StA.lt StA_3) (sh6 StA_3) tyX6 tyX6_ok nmX6 rfl inX6 8 (by decide) q270 rfl rfl rfl (Nat.le_of_ble_eq_true rfl) rfl dX7_setLimits_81 (fun H locs hP hS => ?_)
    rw [hM8] at hP
    refine lv_iload_n (pc := 84) hx hb dX7_setLimits_84 rfl (lv_at hl 3 rfl) ?_
    obtain ⟨rfl, rfl⟩ := som2 h
    exact x_iret E hP hS rfl dX7_setLimits_85
  unfold fX7_setLimits at h
  refine lv_iload_n (pc := 0) hx hb dX7_setLimits_0 rfl (lv_at hl 1 rfl) ?_
  refine lv_bipush (pc := 1) (v := (10 : Int32)) hx hb dX7_setLimits_1 (by decide) ?_
  refine lv_icmp_lt (pc := 3) (tgt := 22) hx hb dX7_setLimits_3 (by decide) (fun c1 => ?_) (fun c1 => ?_)
  · have h := (if_pos c1).symm.trans h
    refine lv_bipush (pc := 22) (v := (-2 : Int32)) hx hb dX7_setLimits_22 (by decide) ?_
    obtain ⟨rfl, rfl⟩ := som2 h
    exact x_iret E hP hS rfl dX7_setLimits_24
  · have h := (if_neg c1).symm.trans h
    refine lv_iload_n (pc := 6) hx hb dX7_setLimits_6 rfl (lv_at hl 1 rfl) ?_
    refine lv_bipush (pc := 7) (v := (120 : Int32)) hx hb dX7_setLimits_7 (by decide) ?_
    refine lv_icmp_gt (pc := 9) (tgt := 22) hx hb dX7_setLimits_9 (by decide) (fun c2 => ?_) (fun c2 => ?_)
    · have h := (if_pos c2).symm.trans h
      refine lv_bipush (pc := 22) (v := (-2 : Int32)) hx hb dX7_setLimits_22 (by decide) ?_
      obtain ⟨rfl, rfl⟩ := som2 h
      exact x_iret E hP hS rfl dX7_setLimits_24
    · have h := (if_neg c2).symm.trans h
      refine lv_iload_n (pc := 12) hx hb dX7_setLimits_12 rfl (lv_at hl 2 rfl) ?_
      refine lv_if_lt (pc := 13) (tgt := 22) hx hb dX7_setLimits_13 (by decide) (fun c3 => ?_) (fun c3 => ?_)
      · have h := (if_pos c3).symm.trans h
        refine lv_bipush (pc := 22) (v := (-2 : Int32)) hx hb dX7_setLimits_22 (by decide) ?_
        obtain ⟨rfl, rfl⟩ := som2 h
        exact x_iret E hP hS rfl dX7_setLimits_24
      · have h := (if_neg c3).symm.trans h
        refine lv_iload_n (pc := 16) hx hb dX7_setLimits_16 rfl (lv_at hl 2 rfl) ?_
        refine lv_bipush (pc := 17) (v := (9 : Int32)) hx hb dX7_setLimits_17 (by decide) ?_
        refine lv_icmp_le (pc := 19) (tgt := 25) hx hb dX7_setLimits_19 (by decide) (fun c4 => ?_) (fun c4 => ?_)
        · have h := (if_pos c4).symm.trans h
          refine lv_aload_n (pc := 25) hx hb dX7_setLimits_25 rfl (lv_at hl 0 rfl) ?_
          refine x_get (pc := 26) (v := .ref (ad 3)) E hP (by decide) sh7 rfl inX7 1 (by decide) q293 rfl dX7_setLimits_26 ?_
          refine x_get (pc := 29) (v := .ref (ad 19)) E hP (StA.lt StA_3) (sh6 StA_3) rfl inX6 2 (by decide) q258 rfl dX7_setLimits_29 ?_
          refine x_get (pc := 32) (v := .int (bz (M 19 0))) E hP (GaA.lt GaA_19) (sh1 GaA_19) rfl inX1 0 (by decide) q184 rfl dX7_setLimits_32 ?_
          refine lv_if_eq (pc := 35) (tgt := 41) hx hb dX7_setLimits_35 (by decide) (fun c5 => ?_) (fun c5 => ?_)
          · have h := (if_pos c5).symm.trans h
            refine lv_aload_n (pc := 41) hx hb dX7_setLimits_41 rfl (lv_at hl 0 rfl) ?_
            refine x_get (pc := 42) (v := .ref (ad 3)) E hP (by decide) sh7 rfl inX7 1 (by decide) q293 rfl dX7_setLimits_42 ?_
            refine x_get (pc := 45) (v := .int (M 3 7)) E hP (StA.lt StA_3) (sh6 StA_3) rfl inX6 7 (by decide) q268 rfl dX7_setLimits_45 ?_
            refine lv_istore_n (pc := 48) (lv' := [(3, .int (M 3 7)), (0, .ref (ad 0)), (1, .int x1), (2, .int x2)]) hx hb dX7_setLimits_48 rfl hl (by decide) rfl (fun ls hl => ?_)
            refine lv_iload_n (pc := 49) hx hb dX7_setLimits_49 rfl (lv_at hl 0 rfl) ?_
            refine lv_iload_n (pc := 50) hx hb dX7_setLimits_50 rfl (lv_at hl 2 rfl) ?_
            refine lv_icmp_ne (pc := 51) (tgt := 68) hx hb dX7_setLimits_51 (by decide) (fun c6 => ?_) (fun c6 => ?_)
            · have h := (if_neg c6).symm.trans h
              exact hB68 M x1 x2 (M 3 7) _ _ _ h hP hS (lv_sub hl [1, 2, 3, 0] rfl)
            · have h := (if_pos c6).symm.trans h
              refine lv_aload_n (pc := 54) hx hb dX7_setLimits_54 rfl (lv_at hl 1 rfl) ?_
              refine x_get (pc := 55) (v := .ref (ad 3)) E hP (by decide) sh7 rfl inX7 1 (by decide) q293 rfl dX7_setLimits_55 ?_
              refine x_get (pc := 58) (v := .int (M 3 8)) E hP (StA.lt StA_3) (sh6 StA_3) rfl inX6 8 (by decide) q270 rfl dX7_setLimits_58 ?_
              refine lv_iload_n (pc := 61) hx hb dX7_setLimits_61 rfl (lv_at hl 3 rfl) ?_
              refine lv_icmp_ne (pc := 62) (tgt := 68) hx hb dX7_setLimits_62 (by decide) (fun c9 => ?_) (fun c9 => ?_)
              · have h := (if_neg c9).symm.trans h
                exact hB68 M x1 x2 (M 3 7) _ _ _ h hP hS (lv_sub hl [1, 2, 3, 0] rfl)
              · have h := (if_pos c9).symm.trans h
                refine lv_bipush (pc := 65) (v := (-5 : Int32)) hx hb dX7_setLimits_65 (by decide) ?_
                obtain ⟨rfl, rfl⟩ := som2 h
                exact x_iret E hP hS rfl dX7_setLimits_67
          · have h := (if_neg c5).symm.trans h
            refine lv_bipush (pc := 38) (v := (-4 : Int32)) hx hb dX7_setLimits_38 (by decide) ?_
            obtain ⟨rfl, rfl⟩ := som2 h
            exact x_iret E hP hS rfl dX7_setLimits_40
        · have h := (if_neg c4).symm.trans h
          refine lv_bipush (pc := 22) (v := (-2 : Int32)) hx hb dX7_setLimits_22 (by decide) ?_
          obtain ⟨rfl, rfl⟩ := som2 h
          exact x_iret E hP hS rfl dX7_setLimits_24
set_option maxRecDepth 100000 in
set_option maxHeartbeats 4000000 in
theorem kX7_addPaint (hap : Apart 78 ad)   (M : Mem) (x1 : Int32) (v : Int32) (M' : Mem) (h : fX7_addPaint M x1 = some (v, M')) : XI G ad sK sV cA cZ cC yX7_addPaint cX7_addPaint 2 .int ({ frames := 0, cells := 0, slots := 0, locals := 0 } : Room) [.ref (ad 0), .int x1] M v M' := by
  refine CI.mk (own := RX7) (ls0 := [(0, .ref (ad 0)), (1, .int x1)]) (by decide +kernel) rfl hap (Nat.le_of_ble_eq_true rfl) rfl ?_
  intro p l e s m args below meth c ls E hP hl
  have hx := E.1
  have hb := E.2.1
  have hown := E.2.2.2.2.2.1
  have hts := E.2.2.2.2.2.2.1
  have hNe := E.2.2.2.2.2.2.2.2.1.1
  have hEx := ExX.ok ad sK sV
  have hS : va_S (AW 78 ad) s.heap s.heap [] := va_S.rf
  unfold fX7_addPaint at h
  refine lv_iload_n (pc := 0) hx hb dX7_addPaint_0 rfl (lv_at hl 1 rfl) ?_
  refine lv_iconst (pc := 1) (v := (1 : Int32)) hx hb dX7_addPaint_1 (by decide) ?_
  refine lv_icmp_lt (pc := 2) (tgt := 12) hx hb dX7_addPaint_2 (by decide) (fun c1 => ?_) (fun c1 => ?_)
  · have h := (if_pos c1).symm.trans h
    refine lv_bipush (pc := 12) (v := (-2 : Int32)) hx hb dX7_addPaint_12 (by decide) ?_
    obtain ⟨rfl, rfl⟩ := som2 h
    exact x_iret E hP hS rfl dX7_addPaint_14
  · have h := (if_neg c1).symm.trans h
    refine lv_iload_n (pc := 5) hx hb dX7_addPaint_5 rfl (lv_at hl 1 rfl) ?_
    refine lv_sipush (pc := 6) (v := (1000 : Int32)) hx hb dX7_addPaint_6 (by decide) ?_
    refine lv_icmp_le (pc := 9) (tgt := 15) hx hb dX7_addPaint_9 (by decide) (fun c2 => ?_) (fun c2 => ?_)
    · have h := (if_pos c2).symm.trans h
      refine lv_aload_n (pc := 15) hx hb dX7_addPaint_15 rfl (lv_at hl 0 rfl) ?_
      refine x_get (pc := 16) (v := .ref (ad 3)) E hP (by decide) sh7 rfl inX7 1 (by decide) q293 rfl dX7_addPaint_16 ?_
      refine lv_dup (pc := 19) hx hb dX7_addPaint_19 rfl ?_
      refine x_get (pc := 20) (v := .int (M 3 6)) E hP (StA.lt StA_3) (sh6 StA_3) rfl inX6 6 (by decide) q266 rfl dX7_addPaint_20 ?_
      refine lv_iload_n (pc := 23) hx hb dX7_addPaint_23 rfl (lv_at hl 1 rfl) ?_
      refine lv_iadd (pc := 24) hx hb dX7_addPaint_24 ?_
      obtain ⟨M3, hM3, h⟩ := thn_ex h
      refine x_put (pc := 25) (v := ((M 3 6) + x1)) E hP hS (StA.lt StA_3) (sh6 StA_3) tyX6 tyX6_ok nmX6 rfl inX6 6 (by decide) q266 rfl rfl rfl (Nat.le_of_ble_eq_true rfl) rfl dX7_addPaint_25 (fun H locs hP hS => ?_)
      rw [hM3] at hP
      refine lv_aload_n (pc := 28) hx hb dX7_addPaint_28 rfl (lv_at hl 0 rfl) ?_
      refine x_get (pc := 29) (v := .ref (ad 3)) E hP (by decide) sh7 rfl inX7 1 (by decide) q293 rfl dX7_addPaint_29 ?_
      refine x_get (pc := 32) (v := .int (M3 3 6)) E hP (StA.lt StA_3) (sh6 StA_3) rfl inX6 6 (by decide) q266 rfl dX7_addPaint_32 ?_
      obtain ⟨rfl, rfl⟩ := som2 h
      exact x_iret E hP hS rfl dX7_addPaint_35
    · have h := (if_neg c2).symm.trans h
      refine lv_bipush (pc := 12) (v := (-2 : Int32)) hx hb dX7_addPaint_12 (by decide) ?_
      obtain ⟨rfl, rfl⟩ := som2 h
      exact x_iret E hP hS rfl dX7_addPaint_14
set_option maxRecDepth 100000 in
set_option maxHeartbeats 4000000 in
theorem kX7_book (hap : Apart 78 ad)   (M : Mem) (x1 x2 : Int32) (v : Int32) (M' : Mem) (h : fX7_book M x1 x2 = some (v, M')) : XI G ad sK sV cA cZ cC yX7_book cX7_book 4 .int ({ frames := 2, cells := 0, slots := 0, locals := 44 } : Room) [.ref (ad 0), .int x1, .int x2] M v M' := by
  refine CI.mk (own := RX7) (ls0 := [(0, .ref (ad 0)), (1, .int x1), (2, .int x2)]) (by decide +kernel) rfl hap (Nat.le_of_ble_eq_true rfl) rfl ?_
  intro p l e s m args below meth c ls E hP hl
  have hx := E.1
  have hb := E.2.1
  have hown := E.2.2.2.2.2.1
  have hts := E.2.2.2.2.2.2.1
  have hNe := E.2.2.2.2.2.2.2.2.1.1
  have hEx := ExX.ok ad sK sV
  have hS : va_S (AW 78 ad) s.heap s.heap [] := va_S.rf
  have hB55 : ∀ (M : Mem) (x1 x2 : Int32) (H : Heap) (locs : List Loc) (ls : Array Slot), fX7_book_B55 M x1 x2 = some (v, M') → va_P G vwCl (WW 78 (shX cA ad) ad M) H → va_S (AW 78 ad) s.heap H locs → lv_has ls 4 [(1, .int x1), (2, .int x2), (3, .ref (ad 16))] → W p l e ({ frames := 2, cells := 0, slots := 0, locals := 44 } : Room) s m args below meth c H locs 0 0 (QI below G 78 (shX cA ad) ad .int args s v M') (F0 m 55 ls []) := by
    intro M x1 x2 H locs ls h hP hS hl
    unfold fX7_book_B55 at h
    refine lv_aload_n (pc := 55) hx hb dX7_book_55 rfl (lv_at hl 2 rfl) ?_
    refine x_get (pc := 56) (v := .int (M 16 0)) E hP (QuA.lt QuA_16) (sh3 QuA_16) rfl inX3 0 (by decide) q163 rfl dX7_book_56 ?_
    refine lv_bipush (pc := 59) (v := (8 : Int32)) hx hb dX7_book_59 (by decide) ?_
    refine lv_icmp_lt (pc := 61) (tgt := 67) hx hb dX7_book_61 (by decide) (fun c6 => ?_) (fun c6 => ?_)
    · have h := (if_pos c6).symm.trans h
      refine lv_aload_n (pc := 67) hx hb dX7_book_67 rfl (lv_at hl 2 rfl) ?_
      refine lv_iload_n (pc := 68) hx hb dX7_book_68 rfl (lv_at hl 0 rfl) ?_
      refine lv_iload_n (pc := 69) hx hb dX7_book_69 rfl (lv_at hl 1 rfl) ?_
      obtain ⟨M7, hM7, h⟩ := bnd_ex h
      refine x_callVv (pc := 70) (st := .int x2 :: .int x1 :: .ref (ad 16) :: []) (As := [.int x1, .int x2]) E hEx hl.1 hP hS (kX3_append hap QuA_16 M _ _ _ hM7) gX7_140 hdX3_append rfl (QuA.lt QuA_16) (sh3 QuA_16) rfl ⟨Nat.le_of_ble_eq_true rfl, Nat.le_of_ble_eq_true rfl⟩ ⟨rfl, rfl⟩ dX7_book_70 rfl (Nat.le_of_ble_eq_true rfl) (fun H locs hP hS => ?_)
      refine lv_aload_n (pc := 73) hx hb dX7_book_73 rfl (lv_at hl 2 rfl) ?_
      refine x_get (pc := 74) (v := .int (M7 16 0)) E hP (QuA.lt QuA_16) (sh3 QuA_16) rfl inX3 0 (by decide) q163 rfl dX7_book_74 ?_
      obtain ⟨rfl, rfl⟩ := som2 h
      exact x_iret E hP hS rfl dX7_book_77
    · have h := (if_neg c6).symm.trans h
      refine lv_bipush (pc := 64) (v := (-3 : Int32)) hx hb dX7_book_64 (by decide) ?_
      obtain ⟨rfl, rfl⟩ := som2 h
      exact x_iret E hP hS rfl dX7_book_66
  unfold fX7_book at h
  refine lv_aload_n (pc := 0) hx hb dX7_book_0 rfl (lv_at hl 0 rfl) ?_
  refine x_get (pc := 1) (v := .ref (ad 3)) E hP (by decide) sh7 rfl inX7 1 (by decide) q293 rfl dX7_book_1 ?_
  refine x_get (pc := 4) (v := .ref (ad 16)) E hP (StA.lt StA_3) (sh6 StA_3) rfl inX6 1 (by decide) q256 rfl dX7_book_4 ?_
  refine lv_astore_n (pc := 7) (lv' := [(3, .ref (ad 16)), (0, .ref (ad 0)), (1, .int x1), (2, .int x2)]) hx hb dX7_book_7 rfl hl (by decide) rfl (fun ls hl => ?_)
  refine lv_iload_n (pc := 8) hx hb dX7_book_8 rfl (lv_at hl 2 rfl) ?_
  refine x_callSi (pc := 9) (st := .int x1 :: []) (As := [.int x1]) E hEx hl.1 hP hS (kX7_isGroupSize hap  M _ _ rfl) gX7_124 hsX7_isGroupSize rfl ⟨Nat.le_of_ble_eq_true rfl, Nat.le_of_ble_eq_true rfl⟩ ⟨rfl, rfl⟩ dX7_book_9 rfl (Nat.le_of_ble_eq_true rfl) (fun H locs hP hS n1 => ?_)
  refine lv_if_eq (pc := 12) (tgt := 25) hx hb dX7_book_12 (by decide) (fun c2 => ?_) (fun c2 => ?_)
  · have h := (if_pos c2).symm.trans h
    refine lv_bipush (pc := 25) (v := (-2 : Int32)) hx hb dX7_book_25 (by decide) ?_
    obtain ⟨rfl, rfl⟩ := som2 h
    exact x_iret E hP hS rfl dX7_book_27
  · have h := (if_neg c2).symm.trans h
    refine lv_iload_n (pc := 15) hx hb dX7_book_15 rfl (lv_at hl 3 rfl) ?_
    refine lv_if_lt (pc := 16) (tgt := 25) hx hb dX7_book_16 (by decide) (fun c3 => ?_) (fun c3 => ?_)
    · have h := (if_pos c3).symm.trans h
      refine lv_bipush (pc := 25) (v := (-2 : Int32)) hx hb dX7_book_25 (by decide) ?_
      obtain ⟨rfl, rfl⟩ := som2 h
      exact x_iret E hP hS rfl dX7_book_27
    · have h := (if_neg c3).symm.trans h
      refine lv_iload_n (pc := 19) hx hb dX7_book_19 rfl (lv_at hl 3 rfl) ?_
      refine lv_ldc (pc := 20) (v := (100000 : Int32)) hx hb hown (hts _ q869) dX7_book_20 ?_
      refine lv_icmp_le (pc := 22) (tgt := 28) hx hb dX7_book_22 (by decide) (fun c4 => ?_) (fun c4 => ?_)
      · have h := (if_pos c4).symm.trans h
        refine lv_aload_n (pc := 28) hx hb dX7_book_28 rfl (lv_at hl 0 rfl) ?_
        refine x_get (pc := 29) (v := .int (M 16 0)) E hP (QuA.lt QuA_16) (sh3 QuA_16) rfl inX3 0 (by decide) q163 rfl dX7_book_29 ?_
        refine lv_if_le (pc := 32) (tgt := 55) hx hb dX7_book_32 (by decide) (fun c5 => ?_) (fun c5 => ?_)
        · have h := (if_pos c5).symm.trans h
          exact hB55 M x1 x2 _ _ _ h hP hS (lv_sub hl [2, 3, 0] rfl)
        · have h := (if_neg c5).symm.trans h
          refine lv_aload_n (pc := 35) hx hb dX7_book_35 rfl (lv_at hl 0 rfl) ?_
          refine x_get (pc := 36) (v := .ref (ad 18)) E hP (QuA.lt QuA_16) (sh3 QuA_16) rfl inX3 2 (by decide) q169 rfl dX7_book_36 ?_
          refine lv_aload_n (pc := 39) hx hb dX7_book_39 rfl (lv_at hl 0 rfl) ?_
          refine x_get (pc := 40) (v := .int (M 16 0)) E hP (QuA.lt QuA_16) (sh3 QuA_16) rfl inX3 0 (by decide) q163 rfl dX7_book_40 ?_
          refine lv_iconst (pc := 43) (v := (1 : Int32)) hx hb dX7_book_43 (by decide) ?_
          refine lv_isub (pc := 44) hx hb dX7_book_44 ?_
          refine x_callSi (pc := 45) (st := .int ((M 16 0) - (1 : Int32)) :: .ref (ad 18) :: []) (As := [.ref (ad 18), .int ((M 16 0) - (1 : Int32))]) E hEx hl.1 hP hS (c_at hap M (lt3a2 QuA_16) (sh3a2 QuA_16) (by decide) _ _ rfl) gX7_136 hsX7_at rfl ⟨Nat.le_of_ble_eq_true rfl, Nat.le_of_ble_eq_true rfl⟩ ⟨rfl, rfl⟩ dX7_book_45 rfl (Nat.le_of_ble_eq_true rfl) (fun H locs hP hS n8 => ?_)
          refine lv_iload_n (pc := 48) hx hb dX7_book_48 rfl (lv_at hl 3 rfl) ?_
          refine lv_icmp_le (pc := 49) (tgt := 55) hx hb dX7_book_49 (by decide) (fun c9 => ?_) (fun c9 => ?_)
          · have h := (if_pos c9).symm.trans h
            exact hB55 M x1 x2 _ _ _ h hP hS (lv_sub hl [2, 3, 0] rfl)
          · have h := (if_neg c9).symm.trans h
            refine lv_bipush (pc := 52) (v := (-4 : Int32)) hx hb dX7_book_52 (by decide) ?_
            obtain ⟨rfl, rfl⟩ := som2 h
            exact x_iret E hP hS rfl dX7_book_54
      · have h := (if_neg c4).symm.trans h
        refine lv_bipush (pc := 25) (v := (-2 : Int32)) hx hb dX7_book_25 (by decide) ?_
        obtain ⟨rfl, rfl⟩ := som2 h
        exact x_iret E hP hS rfl dX7_book_27
set_option maxRecDepth 100000 in
set_option maxHeartbeats 4000000 in
theorem kX7_cancel (hap : Apart 78 ad)   (M : Mem) (x1 : Int32) (v : Int32) (M' : Mem) (h : fX7_cancel M x1 = some (v, M')) : XI G ad sK sV cA cZ cC yX7_cancel cX7_cancel 2 .int ({ frames := 2, cells := 0, slots := 0, locals := 44 } : Room) [.ref (ad 0), .int x1] M v M' := by
  refine CI.mk (own := RX7) (ls0 := [(0, .ref (ad 0)), (1, .int x1)]) (by decide +kernel) rfl hap (Nat.le_of_ble_eq_true rfl) rfl ?_
  intro p l e s m args below meth c ls E hP hl
  have hx := E.1
  have hb := E.2.1
  have hown := E.2.2.2.2.2.1
  have hts := E.2.2.2.2.2.2.1
  have hNe := E.2.2.2.2.2.2.2.2.1.1
  have hEx := ExX.ok ad sK sV
  have hS : va_S (AW 78 ad) s.heap s.heap [] := va_S.rf
  unfold fX7_cancel at h
  refine lv_aload_n (pc := 0) hx hb dX7_cancel_0 rfl (lv_at hl 0 rfl) ?_
  refine x_get (pc := 1) (v := .ref (ad 3)) E hP (by decide) sh7 rfl inX7 1 (by decide) q293 rfl dX7_cancel_1 ?_
  refine x_get (pc := 4) (v := .ref (ad 16)) E hP (StA.lt StA_3) (sh6 StA_3) rfl inX6 1 (by decide) q256 rfl dX7_cancel_4 ?_
  refine lv_iload_n (pc := 7) hx hb dX7_cancel_7 rfl (lv_at hl 1 rfl) ?_
  refine x_callVi (pc := 8) (st := .int x1 :: .ref (ad 16) :: []) (As := [.int x1]) E hEx hl.1 hP hS (kX3_hasGroup hap QuA_16 M _ _ rfl) gX7_144 hdX3_hasGroup rfl (QuA.lt QuA_16) (sh3 QuA_16) rfl ⟨Nat.le_of_ble_eq_true rfl, Nat.le_of_ble_eq_true rfl⟩ ⟨rfl, rfl⟩ dX7_cancel_8 rfl (Nat.le_of_ble_eq_true rfl) (fun H locs hP hS n1 => ?_)
  refine lv_if_ne (pc := 11) (tgt := 16) hx hb dX7_cancel_11 (by decide) (fun c2 => ?_) (fun c2 => ?_)
  · have h := (if_neg c2).symm.trans h
    refine lv_aload_n (pc := 16) hx hb dX7_cancel_16 rfl (lv_at hl 0 rfl) ?_
    refine x_get (pc := 17) (v := .ref (ad 3)) E hP (by decide) sh7 rfl inX7 1 (by decide) q293 rfl dX7_cancel_17 ?_
    refine x_get (pc := 20) (v := .ref (ad 16)) E hP (StA.lt StA_3) (sh6 StA_3) rfl inX6 1 (by decide) q256 rfl dX7_cancel_20 ?_
    refine lv_iload_n (pc := 23) hx hb dX7_cancel_23 rfl (lv_at hl 1 rfl) ?_
    obtain ⟨M3, hM3, h⟩ := bnd_ex h
    refine x_callVv (pc := 24) (st := .int x1 :: .ref (ad 16) :: []) (As := [.int x1]) E hEx hl.1 hP hS (kX3_remove hap QuA_16 M _ _ hM3) gX7_147 hdX3_remove rfl (QuA.lt QuA_16) (sh3 QuA_16) rfl ⟨Nat.le_of_ble_eq_true rfl, Nat.le_of_ble_eq_true rfl⟩ ⟨rfl, rfl⟩ dX7_cancel_24 rfl (Nat.le_of_ble_eq_true rfl) (fun H locs hP hS => ?_)
    refine lv_aload_n (pc := 27) hx hb dX7_cancel_27 rfl (lv_at hl 0 rfl) ?_
    refine x_get (pc := 28) (v := .ref (ad 3)) E hP (by decide) sh7 rfl inX7 1 (by decide) q293 rfl dX7_cancel_28 ?_
    refine x_get (pc := 31) (v := .ref (ad 16)) E hP (StA.lt StA_3) (sh6 StA_3) rfl inX6 1 (by decide) q256 rfl dX7_cancel_31 ?_
    refine x_get (pc := 34) (v := .int (M3 16 0)) E hP (QuA.lt QuA_16) (sh3 QuA_16) rfl inX3 0 (by decide) q163 rfl dX7_cancel_34 ?_
    obtain ⟨rfl, rfl⟩ := som2 h
    exact x_iret E hP hS rfl dX7_cancel_37
  · have h := (if_pos c2).symm.trans h
    refine lv_iconst (pc := 14) (v := (-1 : Int32)) hx hb dX7_cancel_14 (by decide) ?_
    obtain ⟨rfl, rfl⟩ := som2 h
    exact x_iret E hP hS rfl dX7_cancel_15
set_option maxRecDepth 100000 in
set_option maxHeartbeats 4000000 in
theorem kX7_startGame (hap : Apart 78 ad)   (M : Mem)  (v : Int32) (M' : Mem) (h : fX7_startGame M = some (v, M')) : XI G ad sK sV cA cZ cC yX7_startGame cX7_startGame 2 .int ({ frames := 6, cells := 0, slots := 0, locals := 130 } : Room) [.ref (ad 0)] M v M' := by
  refine CI.mk (own := RX7) (ls0 := [(0, .ref (ad 0))]) (by decide +kernel) rfl hap (Nat.le_of_ble_eq_true rfl) rfl ?_
  intro p l e s m args below meth c ls E hP hl
  have hx := E.1
  have hb := E.2.1
  have hown := E.2.2.2.2.2.1
  have hts := E.2.2.2.2.2.2.1
  have hNe := E.2.2.2.2.2.2.2.2.1.1
  have hEx := ExX.ok ad sK sV
  have hS : va_S (AW 78 ad) s.heap s.heap [] := va_S.rf
  unfold fX7_startGame at h
  refine lv_aload_n (pc := 0) hx hb dX7_startGame_0 rfl (lv_at hl 0 rfl) ?_
  refine x_get (pc := 1) (v := .ref (ad 3)) E hP (by decide) sh7 rfl inX7 1 (by decide) q293 rfl dX7_startGame_1 ?_
  refine x_get (pc := 4) (v := .ref (ad 4)) E hP (StA.lt StA_3) (sh6 StA_3) rfl inX6 0 (by decide) q254 rfl dX7_startGame_4 ?_
  refine lv_astore_n (pc := 7) (lv' := [(1, .ref (ad 4)), (0, .ref (ad 0))]) hx hb dX7_startGame_7 rfl hl (by decide) rfl (fun ls hl => ?_)
  refine lv_aload_n (pc := 8) hx hb dX7_startGame_8 rfl (lv_at hl 1 rfl) ?_
  refine x_get (pc := 9) (v := .ref (ad 3)) E hP (by decide) sh7 rfl inX7 1 (by decide) q293 rfl dX7_startGame_9 ?_
  refine x_get (pc := 12) (v := .ref (ad 19)) E hP (StA.lt StA_3) (sh6 StA_3) rfl inX6 2 (by decide) q258 rfl dX7_startGame_12 ?_
  refine x_get (pc := 15) (v := .int (bz (M 19 0))) E hP (GaA.lt GaA_19) (sh1 GaA_19) rfl inX1 0 (by decide) q184 rfl dX7_startGame_15 ?_
  refine lv_if_ne (pc := 18) (tgt := 52) hx hb dX7_startGame_18 (by decide) (fun c1 => ?_) (fun c1 => ?_)
  · have h := (if_neg c1).symm.trans h
    refine lv_bipush (pc := 52) (v := (-4 : Int32)) hx hb dX7_startGame_52 (by decide) ?_
    obtain ⟨rfl, rfl⟩ := som2 h
    exact x_iret E hP hS rfl dX7_startGame_54
  · have h := (if_pos c1).symm.trans h
    refine lv_aload_n (pc := 21) hx hb dX7_startGame_21 rfl (lv_at hl 1 rfl) ?_
    refine x_get (pc := 22) (v := .ref (ad 3)) E hP (by decide) sh7 rfl inX7 1 (by decide) q293 rfl dX7_startGame_22 ?_
    refine x_get (pc := 25) (v := .ref (ad 16)) E hP (StA.lt StA_3) (sh6 StA_3) rfl inX6 1 (by decide) q256 rfl dX7_startGame_25 ?_
    refine x_get (pc := 28) (v := .int (M 16 0)) E hP (QuA.lt QuA_16) (sh3 QuA_16) rfl inX3 0 (by decide) q163 rfl dX7_startGame_28 ?_
    refine lv_if_eq (pc := 31) (tgt := 52) hx hb dX7_startGame_31 (by decide) (fun c2 => ?_) (fun c2 => ?_)
    · have h := (if_pos c2).symm.trans h
      refine lv_bipush (pc := 52) (v := (-4 : Int32)) hx hb dX7_startGame_52 (by decide) ?_
      obtain ⟨rfl, rfl⟩ := som2 h
      exact x_iret E hP hS rfl dX7_startGame_54
    · have h := (if_neg c2).symm.trans h
      refine lv_aload_n (pc := 34) hx hb dX7_startGame_34 rfl (lv_at hl 0 rfl) ?_
      refine x_get (pc := 35) (v := .int (M 4 14)) E hP (RoA.lt RoA_4) (sh5 RoA_4) rfl inX5 14 (by decide) q119 rfl dX7_startGame_35 ?_
      refine lv_if_eq (pc := 38) (tgt := 52) hx hb dX7_startGame_38 (by decide) (fun c3 => ?_) (fun c3 => ?_)
      · have h := (if_pos c3).symm.trans h
        refine lv_bipush (pc := 52) (v := (-4 : Int32)) hx hb dX7_startGame_52 (by decide) ?_
        obtain ⟨rfl, rfl⟩ := som2 h
        exact x_iret E hP hS rfl dX7_startGame_54
      · have h := (if_neg c3).symm.trans h
        refine lv_aload_n (pc := 41) hx hb dX7_startGame_41 rfl (lv_at hl 0 rfl) ?_
        refine lv_aload_n (pc := 42) hx hb dX7_startGame_42 rfl (lv_at hl 0 rfl) ?_
        refine x_get (pc := 43) (v := .int (M 4 14)) E hP (RoA.lt RoA_4) (sh5 RoA_4) rfl inX5 14 (by decide) q119 rfl dX7_startGame_43 ?_
        refine x_callVi (pc := 46) (st := .int (M 4 14) :: .ref (ad 4) :: []) (As := [.int (M 4 14)]) E hEx hl.1 hP hS (kX5_isOpen hap RoA_4 M _ _ rfl) gX7_151 hdX5_isOpen rfl (RoA.lt RoA_4) (sh5 RoA_4) rfl ⟨Nat.le_of_ble_eq_true rfl, Nat.le_of_ble_eq_true rfl⟩ ⟨rfl, rfl⟩ dX7_startGame_46 rfl (Nat.le_of_ble_eq_true rfl) (fun H locs hP hS n4 => ?_)
        refine lv_if_eq (pc := 49) (tgt := 55) hx hb dX7_startGame_49 (by decide) (fun c5 => ?_) (fun c5 => ?_)
        · have h := (if_pos c5).symm.trans h
          refine lv_aload_n (pc := 55) hx hb dX7_startGame_55 rfl (lv_at hl 1 rfl) ?_
          refine x_get (pc := 56) (v := .ref (ad 3)) E hP (by decide) sh7 rfl inX7 1 (by decide) q293 rfl dX7_startGame_56 ?_
          refine x_get (pc := 59) (v := .ref (ad 20)) E hP (StA.lt StA_3) (sh6 StA_3) rfl inX6 3 (by decide) q260 rfl dX7_startGame_59 ?_
          refine x_get (pc := 62) (v := .int (M 20 0)) E hP (ReA.lt ReA_20) (sh4 ReA_20) rfl inX4 0 (by decide) q229 rfl dX7_startGame_62 ?_
          refine lv_bipush (pc := 65) (v := (30 : Int32)) hx hb dX7_startGame_65 (by decide) ?_
          refine lv_icmp_lt (pc := 67) (tgt := 73) hx hb dX7_startGame_67 (by decide) (fun c6 => ?_) (fun c6 => ?_)
          · have h := (if_pos c6).symm.trans h
            refine lv_aload_n (pc := 73) hx hb dX7_startGame_73 rfl (lv_at hl 1 rfl) ?_
            refine x_get (pc := 74) (v := .ref (ad 3)) E hP (by decide) sh7 rfl inX7 1 (by decide) q293 rfl dX7_startGame_74 ?_
            obtain ⟨q7, hq7, h⟩ := bnd_ex h
            refine x_callVi (pc := 77) (st := .ref (ad 3) :: []) (As := []) E hEx hl.1 hP hS (kX6_beginGame hap StA_3 M  _ _ hq7) gX7_163 hdX6_beginGame rfl (StA.lt StA_3) (sh6 StA_3) rfl ⟨Nat.le_of_ble_eq_true rfl, Nat.le_of_ble_eq_true rfl⟩ ⟨rfl, rfl⟩ dX7_startGame_77 rfl (Nat.le_of_ble_eq_true rfl) (fun H locs hP hS n8 => ?_)
            obtain ⟨rfl, rfl⟩ := som2 h
            exact x_iret E hP hS rfl dX7_startGame_80
          · have h := (if_neg c6).symm.trans h
            refine lv_bipush (pc := 70) (v := (-3 : Int32)) hx hb dX7_startGame_70 (by decide) ?_
            obtain ⟨rfl, rfl⟩ := som2 h
            exact x_iret E hP hS rfl dX7_startGame_72
        · have h := (if_neg c5).symm.trans h
          refine lv_bipush (pc := 52) (v := (-4 : Int32)) hx hb dX7_startGame_52 (by decide) ?_
          obtain ⟨rfl, rfl⟩ := som2 h
          exact x_iret E hP hS rfl dX7_startGame_54
set_option maxRecDepth 100000 in
set_option maxHeartbeats 4000000 in
theorem kX7_take (hap : Apart 78 ad)   (M : Mem) (x1 : Int32) (v : Int32) (M' : Mem) (h : fX7_take M x1 = some (v, M')) : XI G ad sK sV cA cZ cC yX7_take cX7_take 4 .int ({ frames := 7, cells := 0, slots := 0, locals := 209 } : Room) [.ref (ad 0), .int x1] M v M' := by
  refine CI.mk (own := RX7) (ls0 := [(0, .ref (ad 0)), (1, .int x1)]) (by decide +kernel) rfl hap (Nat.le_of_ble_eq_true rfl) rfl ?_
  intro p l e s m args below meth c ls E hP hl
  have hx := E.1
  have hb := E.2.1
  have hown := E.2.2.2.2.2.1
  have hts := E.2.2.2.2.2.2.1
  have hNe := E.2.2.2.2.2.2.2.2.1.1
  have hEx := ExX.ok ad sK sV
  have hS : va_S (AW 78 ad) s.heap s.heap [] := va_S.rf
  unfold fX7_take at h
  refine lv_aload_n (pc := 0) hx hb dX7_take_0 rfl (lv_at hl 0 rfl) ?_
  refine x_get (pc := 1) (v := .ref (ad 3)) E hP (by decide) sh7 rfl inX7 1 (by decide) q293 rfl dX7_take_1 ?_
  refine x_get (pc := 4) (v := .ref (ad 4)) E hP (StA.lt StA_3) (sh6 StA_3) rfl inX6 0 (by decide) q254 rfl dX7_take_4 ?_
  refine lv_astore_n (pc := 7) (lv' := [(2, .ref (ad 4)), (0, .ref (ad 0)), (1, .int x1)]) hx hb dX7_take_7 rfl hl (by decide) rfl (fun ls hl => ?_)
  refine lv_aload_n (pc := 8) hx hb dX7_take_8 rfl (lv_at hl 0 rfl) ?_
  refine lv_iload_n (pc := 9) hx hb dX7_take_9 rfl (lv_at hl 2 rfl) ?_
  refine x_callVi (pc := 10) (st := .int x1 :: .ref (ad 4) :: []) (As := [.int x1]) E hEx hl.1 hP hS (kX5_hasProp hap RoA_4 M _ _ rfl) gX7_71 hdX5_hasProp rfl (RoA.lt RoA_4) (sh5 RoA_4) rfl ⟨Nat.le_of_ble_eq_true rfl, Nat.le_of_ble_eq_true rfl⟩ ⟨rfl, rfl⟩ dX7_take_10 rfl (Nat.le_of_ble_eq_true rfl) (fun H locs hP hS n1 => ?_)
  refine lv_if_ne (pc := 13) (tgt := 18) hx hb dX7_take_13 (by decide) (fun c2 => ?_) (fun c2 => ?_)
  · have h := (if_neg c2).symm.trans h
    refine lv_aload_n (pc := 18) hx hb dX7_take_18 rfl (lv_at hl 1 rfl) ?_
    refine x_get (pc := 19) (v := .ref (ad 3)) E hP (by decide) sh7 rfl inX7 1 (by decide) q293 rfl dX7_take_19 ?_
    refine x_get (pc := 22) (v := .ref (ad 19)) E hP (StA.lt StA_3) (sh6 StA_3) rfl inX6 2 (by decide) q258 rfl dX7_take_22 ?_
    refine x_get (pc := 25) (v := .int (bz (M 19 0))) E hP (GaA.lt GaA_19) (sh1 GaA_19) rfl inX1 0 (by decide) q184 rfl dX7_take_25 ?_
    refine lv_if_eq (pc := 28) (tgt := 47) hx hb dX7_take_28 (by decide) (fun c3 => ?_) (fun c3 => ?_)
    · have h := (if_pos c3).symm.trans h
      refine lv_bipush (pc := 47) (v := (-4 : Int32)) hx hb dX7_take_47 (by decide) ?_
      obtain ⟨rfl, rfl⟩ := som2 h
      exact x_iret E hP hS rfl dX7_take_49
    · have h := (if_neg c3).symm.trans h
      refine lv_aload_n (pc := 31) hx hb dX7_take_31 rfl (lv_at hl 0 rfl) ?_
      refine lv_iload_n (pc := 32) hx hb dX7_take_32 rfl (lv_at hl 2 rfl) ?_
      refine x_callVi (pc := 33) (st := .int x1 :: .ref (ad 4) :: []) (As := [.int x1]) E hEx hl.1 hP hS (kX5_isHeld hap RoA_4 M _ _ rfl) gX7_166 hdX5_isHeld rfl (RoA.lt RoA_4) (sh5 RoA_4) rfl ⟨Nat.le_of_ble_eq_true rfl, Nat.le_of_ble_eq_true rfl⟩ ⟨rfl, rfl⟩ dX7_take_33 rfl (Nat.le_of_ble_eq_true rfl) (fun H locs hP hS n4 => ?_)
      refine lv_if_ne (pc := 36) (tgt := 47) hx hb dX7_take_36 (by decide) (fun c5 => ?_) (fun c5 => ?_)
      · have h := (if_neg c5).symm.trans h
        refine lv_bipush (pc := 47) (v := (-4 : Int32)) hx hb dX7_take_47 (by decide) ?_
        obtain ⟨rfl, rfl⟩ := som2 h
        exact x_iret E hP hS rfl dX7_take_49
      · have h := (if_pos c5).symm.trans h
        refine lv_aload_n (pc := 39) hx hb dX7_take_39 rfl (lv_at hl 0 rfl) ?_
        refine lv_iload_n (pc := 40) hx hb dX7_take_40 rfl (lv_at hl 2 rfl) ?_
        obtain ⟨y6, hy6, h⟩ := bnd_ex h
        refine x_callVi (pc := 41) (st := .int x1 :: .ref (ad 4) :: []) (As := [.int x1]) E hEx hl.1 hP hS (kX5_propAtHand hap RoA_4 M _ _ hy6) gX7_169 hdX5_propAtHand rfl (RoA.lt RoA_4) (sh5 RoA_4) rfl ⟨Nat.le_of_ble_eq_true rfl, Nat.le_of_ble_eq_true rfl⟩ ⟨rfl, rfl⟩ dX7_take_41 rfl (Nat.le_of_ble_eq_true rfl) (fun H locs hP hS n7 => ?_)
        refine lv_if_ne (pc := 44) (tgt := 50) hx hb dX7_take_44 (by decide) (fun c8 => ?_) (fun c8 => ?_)
        · have h := (if_neg c8).symm.trans h
          refine lv_aload_n (pc := 50) hx hb dX7_take_50 rfl (lv_at hl 0 rfl) ?_
          obtain ⟨y9, hy9, h⟩ := bnd_ex h
          refine x_callVi (pc := 51) (st := .ref (ad 4) :: []) (As := []) E hEx hl.1 hP hS (kX5_heldProps hap RoA_4 M  _ hy9) gX7_172 hdX5_heldProps rfl (RoA.lt RoA_4) (sh5 RoA_4) rfl ⟨Nat.le_of_ble_eq_true rfl, Nat.le_of_ble_eq_true rfl⟩ ⟨rfl, rfl⟩ dX7_take_51 rfl (Nat.le_of_ble_eq_true rfl) (fun H locs hP hS n10 => ?_)
          refine lv_aload_n (pc := 54) hx hb dX7_take_54 rfl (lv_at hl 0 rfl) ?_
          refine x_get (pc := 55) (v := .int (M 4 15)) E hP (RoA.lt RoA_4) (sh5 RoA_4) rfl inX5 15 (by decide) q122 rfl dX7_take_55 ?_
          refine lv_icmp_lt (pc := 58) (tgt := 64) hx hb dX7_take_58 (by decide) (fun c11 => ?_) (fun c11 => ?_)
          · have h := (if_pos c11).symm.trans h
            refine lv_iconst (pc := 64) (v := (3 : Int32)) hx hb dX7_take_64 (by decide) ?_
            refine lv_aload_n (pc := 65) hx hb dX7_take_65 rfl (lv_at hl 0 rfl) ?_
            refine x_get (pc := 66) (v := .int (M 4 15)) E hP (RoA.lt RoA_4) (sh5 RoA_4) rfl inX5 15 (by decide) q122 rfl dX7_take_66 ?_
            refine x_callSi (pc := 69) (st := .int (M 4 15) :: .int (3 : Int32) :: []) (As := [.int (3 : Int32), .int (M 4 15)]) E hEx hl.1 hP hS (kX7_actMinutes hap  M _ _ _ rfl) gX7_178 hsX7_actMinutes rfl ⟨Nat.le_of_ble_eq_true rfl, Nat.le_of_ble_eq_true rfl⟩ ⟨rfl, rfl⟩ dX7_take_69 rfl (Nat.le_of_ble_eq_true rfl) (fun H locs hP hS n12 => ?_)
            obtain ⟨y13, hy13, h⟩ := thn_ex h
            refine W.eq (g2 := F0 m 72 ls (.int y13 :: [])) (by rw [← hy13]) ?_
            refine lv_istore_n (pc := 72) (lv' := [(3, .int y13), (2, .ref (ad 4)), (0, .ref (ad 0)), (1, .int x1)]) hx hb dX7_take_72 rfl hl (by decide) rfl (fun ls hl => ?_)
            refine lv_aload_n (pc := 73) hx hb dX7_take_73 rfl (lv_at hl 2 rfl) ?_
            refine x_get (pc := 74) (v := .ref (ad 3)) E hP (by decide) sh7 rfl inX7 1 (by decide) q293 rfl dX7_take_74 ?_
            refine lv_iload_n (pc := 77) hx hb dX7_take_77 rfl (lv_at hl 0 rfl) ?_
            refine x_callVi (pc := 78) (st := .int y13 :: .ref (ad 3) :: []) (As := [.int y13]) E hEx hl.1 hP hS (kX6_hasTimeFor hap StA_3 M _ _ rfl) gX7_182 hdX6_hasTimeFor rfl (StA.lt StA_3) (sh6 StA_3) rfl ⟨Nat.le_of_ble_eq_true rfl, Nat.le_of_ble_eq_true rfl⟩ ⟨rfl, rfl⟩ dX7_take_78 rfl (Nat.le_of_ble_eq_true rfl) (fun H locs hP hS n14 => ?_)
            refine lv_if_ne (pc := 81) (tgt := 92) hx hb dX7_take_81 (by decide) (fun c15 => ?_) (fun c15 => ?_)
            · have h := (if_neg c15).symm.trans h
              refine lv_aload_n (pc := 92) hx hb dX7_take_92 rfl (lv_at hl 2 rfl) ?_
              refine x_get (pc := 93) (v := .ref (ad 3)) E hP (by decide) sh7 rfl inX7 1 (by decide) q293 rfl dX7_take_93 ?_
              refine x_ldcs (pc := 96) (j := 6) E (by decide) rfl rfl dX7_take_96 ?_
              refine lv_iload_n (pc := 98) hx hb dX7_take_98 rfl (lv_at hl 3 rfl) ?_
              refine lv_iconst (pc := 99) (v := (-1 : Int32)) hx hb dX7_take_99 (by decide) ?_
              obtain ⟨M16, hM16, h⟩ := bnd_ex h
              refine x_callVv (pc := 100) (st := .int (-1 : Int32) :: .int x1 :: .ref (sK 6) :: .ref (ad 3) :: []) (As := [.ref (sK 6), .int x1, .int (-1 : Int32)]) E hEx hl.1 hP hS (kX6_note hap StA_3 (by decide) M _ _ _ hM16) gX7_190 hdX6_note rfl (StA.lt StA_3) (sh6 StA_3) rfl ⟨Nat.le_of_ble_eq_true rfl, Nat.le_of_ble_eq_true rfl⟩ ⟨rfl, rfl⟩ dX7_take_100 rfl (Nat.le_of_ble_eq_true rfl) (fun H locs hP hS => ?_)
              refine lv_aload_n (pc := 103) hx hb dX7_take_103 rfl (lv_at hl 1 rfl) ?_
              refine x_get (pc := 104) (v := .ref (ad 11)) E hP (RoA.lt RoA_4) (sh5 RoA_4) rfl inX5 8 (by decide) q105 rfl dX7_take_104 ?_
              refine lv_iload_n (pc := 107) hx hb dX7_take_107 rfl (lv_at hl 3 rfl) ?_
              refine lv_iconst (pc := 108) (v := (-1 : Int32)) hx hb dX7_take_108 (by decide) ?_
              obtain ⟨M17, hM17, h⟩ := thn_ex h
              refine x_callSv (pc := 109) (st := .int (-1 : Int32) :: .int x1 :: .ref (ad 11) :: []) (As := [.ref (ad 11), .int x1, .int (-1 : Int32)]) E hEx hl.1 hP hS (c_put hap M16 (lt5a7 RoA_4) (sh5a7 RoA_4) (by decide) _ _ _ hM17) gX7_47 hsX7_put rfl ⟨Nat.le_of_ble_eq_true rfl, Nat.le_of_ble_eq_true rfl⟩ ⟨rfl, rfl⟩ dX7_take_109 rfl (Nat.le_of_ble_eq_true rfl) (fun H locs hP hS => ?_)
              refine lv_aload_n (pc := 112) hx hb dX7_take_112 rfl (lv_at hl 2 rfl) ?_
              refine x_get (pc := 113) (v := .ref (ad 3)) E hP (by decide) sh7 rfl inX7 1 (by decide) q293 rfl dX7_take_113 ?_
              refine lv_iload_n (pc := 116) hx hb dX7_take_116 rfl (lv_at hl 0 rfl) ?_
              obtain ⟨M18, hM18, h⟩ := bnd_ex h
              refine x_callVv (pc := 117) (st := .int y13 :: .ref (ad 3) :: []) (As := [.int y13]) E hEx hl.1 hP hS (kX6_pass hap StA_3 M17 _ _ hM18) gX7_197 hdX6_pass rfl (StA.lt StA_3) (sh6 StA_3) rfl ⟨Nat.le_of_ble_eq_true rfl, Nat.le_of_ble_eq_true rfl⟩ ⟨rfl, rfl⟩ dX7_take_117 rfl (Nat.le_of_ble_eq_true rfl) (fun H locs hP hS => ?_)
              refine lv_aload_n (pc := 120) hx hb dX7_take_120 rfl (lv_at hl 1 rfl) ?_
              obtain ⟨y19, hy19, h⟩ := bnd_ex h
              refine x_callVi (pc := 121) (st := .ref (ad 4) :: []) (As := []) E hEx hl.1 hP hS (kX5_heldProps hap RoA_4 M18  _ hy19) gX7_172 hdX5_heldProps rfl (RoA.lt RoA_4) (sh5 RoA_4) rfl ⟨Nat.le_of_ble_eq_true rfl, Nat.le_of_ble_eq_true rfl⟩ ⟨rfl, rfl⟩ dX7_take_121 rfl (Nat.le_of_ble_eq_true rfl) (fun H locs hP hS n20 => ?_)
              obtain ⟨rfl, rfl⟩ := som2 h
              exact x_iret E hP hS rfl dX7_take_124
            · have h := (if_pos c15).symm.trans h
              refine lv_aload_n (pc := 84) hx hb dX7_take_84 rfl (lv_at hl 2 rfl) ?_
              refine x_get (pc := 85) (v := .ref (ad 3)) E hP (by decide) sh7 rfl inX7 1 (by decide) q293 rfl dX7_take_85 ?_
              obtain ⟨q21, hq21, h⟩ := bnd_ex h
              refine x_callVi (pc := 88) (st := .ref (ad 3) :: []) (As := []) E hEx hl.1 hP hS (kX6_runOutOfTime hap StA_3 M  _ _ hq21) gX7_185 hdX6_runOutOfTime rfl (StA.lt StA_3) (sh6 StA_3) rfl ⟨Nat.le_of_ble_eq_true rfl, Nat.le_of_ble_eq_true rfl⟩ ⟨rfl, rfl⟩ dX7_take_88 rfl (Nat.le_of_ble_eq_true rfl) (fun H locs hP hS n22 => ?_)
              obtain ⟨rfl, rfl⟩ := som2 h
              exact x_iret E hP hS rfl dX7_take_91
          · have h := (if_neg c11).symm.trans h
            refine lv_bipush (pc := 61) (v := (-3 : Int32)) hx hb dX7_take_61 (by decide) ?_
            obtain ⟨rfl, rfl⟩ := som2 h
            exact x_iret E hP hS rfl dX7_take_63
        · have h := (if_pos c8).symm.trans h
          refine lv_bipush (pc := 47) (v := (-4 : Int32)) hx hb dX7_take_47 (by decide) ?_
          obtain ⟨rfl, rfl⟩ := som2 h
          exact x_iret E hP hS rfl dX7_take_49
  · have h := (if_pos c2).symm.trans h
    refine lv_iconst (pc := 16) (v := (-1 : Int32)) hx hb dX7_take_16 (by decide) ?_
    obtain ⟨rfl, rfl⟩ := som2 h
    exact x_iret E hP hS rfl dX7_take_17
set_option maxRecDepth 100000 in
set_option maxHeartbeats 4000000 in
theorem kX7_lay (hap : Apart 78 ad)   (M : Mem) (x1 x2 : Int32) (v : Int32) (M' : Mem) (h : fX7_lay M x1 x2 = some (v, M')) : XI G ad sK sV cA cZ cC yX7_lay cX7_lay 5 .int ({ frames := 7, cells := 0, slots := 0, locals := 209 } : Room) [.ref (ad 0), .int x1, .int x2] M v M' := by
  refine CI.mk (own := RX7) (ls0 := [(0, .ref (ad 0)), (1, .int x1), (2, .int x2)]) (by decide +kernel) rfl hap (Nat.le_of_ble_eq_true rfl) rfl ?_
  intro p l e s m args below meth c ls E hP hl
  have hx := E.1
  have hb := E.2.1
  have hown := E.2.2.2.2.2.1
  have hts := E.2.2.2.2.2.2.1
  have hNe := E.2.2.2.2.2.2.2.2.1.1
  have hEx := ExX.ok ad sK sV
  have hS : va_S (AW 78 ad) s.heap s.heap [] := va_S.rf
  unfold fX7_lay at h
  refine lv_aload_n (pc := 0) hx hb dX7_lay_0 rfl (lv_at hl 0 rfl) ?_
  refine x_get (pc := 1) (v := .ref (ad 3)) E hP (by decide) sh7 rfl inX7 1 (by decide) q293 rfl dX7_lay_1 ?_
  refine x_get (pc := 4) (v := .ref (ad 4)) E hP (StA.lt StA_3) (sh6 StA_3) rfl inX6 0 (by decide) q254 rfl dX7_lay_4 ?_
  refine lv_astore_n (pc := 7) (lv' := [(3, .ref (ad 4)), (0, .ref (ad 0)), (1, .int x1), (2, .int x2)]) hx hb dX7_lay_7 rfl hl (by decide) rfl (fun ls hl => ?_)
  refine lv_aload_n (pc := 8) hx hb dX7_lay_8 rfl (lv_at hl 0 rfl) ?_
  refine lv_iload_n (pc := 9) hx hb dX7_lay_9 rfl (lv_at hl 2 rfl) ?_
  refine x_callVi (pc := 10) (st := .int x1 :: .ref (ad 4) :: []) (As := [.int x1]) E hEx hl.1 hP hS (kX5_hasProp hap RoA_4 M _ _ rfl) gX7_71 hdX5_hasProp rfl (RoA.lt RoA_4) (sh5 RoA_4) rfl ⟨Nat.le_of_ble_eq_true rfl, Nat.le_of_ble_eq_true rfl⟩ ⟨rfl, rfl⟩ dX7_lay_10 rfl (Nat.le_of_ble_eq_true rfl) (fun H locs hP hS n1 => ?_)
  refine lv_if_eq (pc := 13) (tgt := 24) hx hb dX7_lay_13 (by decide) (fun c2 => ?_) (fun c2 => ?_)
  · have h := (if_pos c2).symm.trans h
    refine lv_iconst (pc := 24) (v := (-1 : Int32)) hx hb dX7_lay_24 (by decide) ?_
    obtain ⟨rfl, rfl⟩ := som2 h
    exact x_iret E hP hS rfl dX7_lay_25
  · have h := (if_neg c2).symm.trans h
    refine lv_aload_n (pc := 16) hx hb dX7_lay_16 rfl (lv_at hl 0 rfl) ?_
    refine lv_iload_n (pc := 17) hx hb dX7_lay_17 rfl (lv_at hl 3 rfl) ?_
    refine x_callVi (pc := 18) (st := .int x2 :: .ref (ad 4) :: []) (As := [.int x2]) E hEx hl.1 hP hS (kX5_hasBox hap RoA_4 M _ _ rfl) gX7_64 hdX5_hasBox rfl (RoA.lt RoA_4) (sh5 RoA_4) rfl ⟨Nat.le_of_ble_eq_true rfl, Nat.le_of_ble_eq_true rfl⟩ ⟨rfl, rfl⟩ dX7_lay_18 rfl (Nat.le_of_ble_eq_true rfl) (fun H locs hP hS n3 => ?_)
    refine lv_if_ne (pc := 21) (tgt := 26) hx hb dX7_lay_21 (by decide) (fun c4 => ?_) (fun c4 => ?_)
    · have h := (if_neg c4).symm.trans h
      refine lv_aload_n (pc := 26) hx hb dX7_lay_26 rfl (lv_at hl 1 rfl) ?_
      refine x_get (pc := 27) (v := .ref (ad 3)) E hP (by decide) sh7 rfl inX7 1 (by decide) q293 rfl dX7_lay_27 ?_
      refine x_get (pc := 30) (v := .ref (ad 19)) E hP (StA.lt StA_3) (sh6 StA_3) rfl inX6 2 (by decide) q258 rfl dX7_lay_30 ?_
      refine x_get (pc := 33) (v := .int (bz (M 19 0))) E hP (GaA.lt GaA_19) (sh1 GaA_19) rfl inX1 0 (by decide) q184 rfl dX7_lay_33 ?_
      refine lv_if_eq (pc := 36) (tgt := 55) hx hb dX7_lay_36 (by decide) (fun c5 => ?_) (fun c5 => ?_)
      · have h := (if_pos c5).symm.trans h
        refine lv_bipush (pc := 55) (v := (-4 : Int32)) hx hb dX7_lay_55 (by decide) ?_
        obtain ⟨rfl, rfl⟩ := som2 h
        exact x_iret E hP hS rfl dX7_lay_57
      · have h := (if_neg c5).symm.trans h
        refine lv_aload_n (pc := 39) hx hb dX7_lay_39 rfl (lv_at hl 0 rfl) ?_
        refine lv_iload_n (pc := 40) hx hb dX7_lay_40 rfl (lv_at hl 2 rfl) ?_
        refine x_callVi (pc := 41) (st := .int x1 :: .ref (ad 4) :: []) (As := [.int x1]) E hEx hl.1 hP hS (kX5_isHeld hap RoA_4 M _ _ rfl) gX7_166 hdX5_isHeld rfl (RoA.lt RoA_4) (sh5 RoA_4) rfl ⟨Nat.le_of_ble_eq_true rfl, Nat.le_of_ble_eq_true rfl⟩ ⟨rfl, rfl⟩ dX7_lay_41 rfl (Nat.le_of_ble_eq_true rfl) (fun H locs hP hS n6 => ?_)
        refine lv_if_eq (pc := 44) (tgt := 55) hx hb dX7_lay_44 (by decide) (fun c7 => ?_) (fun c7 => ?_)
        · have h := (if_pos c7).symm.trans h
          refine lv_bipush (pc := 55) (v := (-4 : Int32)) hx hb dX7_lay_55 (by decide) ?_
          obtain ⟨rfl, rfl⟩ := som2 h
          exact x_iret E hP hS rfl dX7_lay_57
        · have h := (if_neg c7).symm.trans h
          refine lv_aload_n (pc := 47) hx hb dX7_lay_47 rfl (lv_at hl 0 rfl) ?_
          refine lv_iload_n (pc := 48) hx hb dX7_lay_48 rfl (lv_at hl 3 rfl) ?_
          obtain ⟨y8, hy8, h⟩ := bnd_ex h
          refine x_callVi (pc := 49) (st := .int x2 :: .ref (ad 4) :: []) (As := [.int x2]) E hEx hl.1 hP hS (kX5_outermostClosed hap RoA_4 M _ _ hy8) gX7_200 hdX5_outermostClosed rfl (RoA.lt RoA_4) (sh5 RoA_4) rfl ⟨Nat.le_of_ble_eq_true rfl, Nat.le_of_ble_eq_true rfl⟩ ⟨rfl, rfl⟩ dX7_lay_49 rfl (Nat.le_of_ble_eq_true rfl) (fun H locs hP hS n9 => ?_)
          refine lv_if_eq (pc := 52) (tgt := 58) hx hb dX7_lay_52 (by decide) (fun c10 => ?_) (fun c10 => ?_)
          · have h := (if_pos c10).symm.trans h
            refine lv_iconst (pc := 58) (v := (2 : Int32)) hx hb dX7_lay_58 (by decide) ?_
            refine lv_aload_n (pc := 59) hx hb dX7_lay_59 rfl (lv_at hl 0 rfl) ?_
            refine x_get (pc := 60) (v := .int (M 4 15)) E hP (RoA.lt RoA_4) (sh5 RoA_4) rfl inX5 15 (by decide) q122 rfl dX7_lay_60 ?_
            refine x_callSi (pc := 63) (st := .int (M 4 15) :: .int (2 : Int32) :: []) (As := [.int (2 : Int32), .int (M 4 15)]) E hEx hl.1 hP hS (kX7_actMinutes hap  M _ _ _ rfl) gX7_178 hsX7_actMinutes rfl ⟨Nat.le_of_ble_eq_true rfl, Nat.le_of_ble_eq_true rfl⟩ ⟨rfl, rfl⟩ dX7_lay_63 rfl (Nat.le_of_ble_eq_true rfl) (fun H locs hP hS n11 => ?_)
            obtain ⟨y12, hy12, h⟩ := thn_ex h
            refine W.eq (g2 := F0 m 66 ls (.int y12 :: [])) (by rw [← hy12]) ?_
            refine lv_istore (pc := 66) (lv' := [(4, .int y12), (3, .ref (ad 4)), (0, .ref (ad 0)), (1, .int x1), (2, .int x2)]) hx hb dX7_lay_66 hl (by decide) rfl (fun ls hl => ?_)
            refine lv_aload_n (pc := 68) hx hb dX7_lay_68 rfl (lv_at hl 2 rfl) ?_
            refine x_get (pc := 69) (v := .ref (ad 3)) E hP (by decide) sh7 rfl inX7 1 (by decide) q293 rfl dX7_lay_69 ?_
            refine lv_iload (pc := 72) hx hb dX7_lay_72 (lv_at hl 0 rfl) ?_
            refine x_callVi (pc := 74) (st := .int y12 :: .ref (ad 3) :: []) (As := [.int y12]) E hEx hl.1 hP hS (kX6_hasTimeFor hap StA_3 M _ _ rfl) gX7_182 hdX6_hasTimeFor rfl (StA.lt StA_3) (sh6 StA_3) rfl ⟨Nat.le_of_ble_eq_true rfl, Nat.le_of_ble_eq_true rfl⟩ ⟨rfl, rfl⟩ dX7_lay_74 rfl (Nat.le_of_ble_eq_true rfl) (fun H locs hP hS n13 => ?_)
            refine lv_if_ne (pc := 77) (tgt := 88) hx hb dX7_lay_77 (by decide) (fun c14 => ?_) (fun c14 => ?_)
            · have h := (if_neg c14).symm.trans h
              refine lv_aload_n (pc := 88) hx hb dX7_lay_88 rfl (lv_at hl 2 rfl) ?_
              refine x_get (pc := 89) (v := .ref (ad 3)) E hP (by decide) sh7 rfl inX7 1 (by decide) q293 rfl dX7_lay_89 ?_
              refine x_ldcs (pc := 92) (j := 7) E (by decide) rfl rfl dX7_lay_92 ?_
              refine lv_iload_n (pc := 94) hx hb dX7_lay_94 rfl (lv_at hl 3 rfl) ?_
              refine lv_iload_n (pc := 95) hx hb dX7_lay_95 rfl (lv_at hl 4 rfl) ?_
              obtain ⟨M15, hM15, h⟩ := bnd_ex h
              refine x_callVv (pc := 96) (st := .int x2 :: .int x1 :: .ref (sK 7) :: .ref (ad 3) :: []) (As := [.ref (sK 7), .int x1, .int x2]) E hEx hl.1 hP hS (kX6_note hap StA_3 (by decide) M _ _ _ hM15) gX7_190 hdX6_note rfl (StA.lt StA_3) (sh6 StA_3) rfl ⟨Nat.le_of_ble_eq_true rfl, Nat.le_of_ble_eq_true rfl⟩ ⟨rfl, rfl⟩ dX7_lay_96 rfl (Nat.le_of_ble_eq_true rfl) (fun H locs hP hS => ?_)
              refine lv_aload_n (pc := 99) hx hb dX7_lay_99 rfl (lv_at hl 1 rfl) ?_
              refine x_get (pc := 100) (v := .ref (ad 11)) E hP (RoA.lt RoA_4) (sh5 RoA_4) rfl inX5 8 (by decide) q105 rfl dX7_lay_100 ?_
              refine lv_iload_n (pc := 103) hx hb dX7_lay_103 rfl (lv_at hl 3 rfl) ?_
              refine lv_iload_n (pc := 104) hx hb dX7_lay_104 rfl (lv_at hl 4 rfl) ?_
              obtain ⟨M16, hM16, h⟩ := thn_ex h
              refine x_callSv (pc := 105) (st := .int x2 :: .int x1 :: .ref (ad 11) :: []) (As := [.ref (ad 11), .int x1, .int x2]) E hEx hl.1 hP hS (c_put hap M15 (lt5a7 RoA_4) (sh5a7 RoA_4) (by decide) _ _ _ hM16) gX7_47 hsX7_put rfl ⟨Nat.le_of_ble_eq_true rfl, Nat.le_of_ble_eq_true rfl⟩ ⟨rfl, rfl⟩ dX7_lay_105 rfl (Nat.le_of_ble_eq_true rfl) (fun H locs hP hS => ?_)
              refine lv_aload_n (pc := 108) hx hb dX7_lay_108 rfl (lv_at hl 2 rfl) ?_
              refine x_get (pc := 109) (v := .ref (ad 3)) E hP (by decide) sh7 rfl inX7 1 (by decide) q293 rfl dX7_lay_109 ?_
              refine lv_iload (pc := 112) hx hb dX7_lay_112 (lv_at hl 0 rfl) ?_
              obtain ⟨M17, hM17, h⟩ := bnd_ex h
              refine x_callVv (pc := 114) (st := .int y12 :: .ref (ad 3) :: []) (As := [.int y12]) E hEx hl.1 hP hS (kX6_pass hap StA_3 M16 _ _ hM17) gX7_197 hdX6_pass rfl (StA.lt StA_3) (sh6 StA_3) rfl ⟨Nat.le_of_ble_eq_true rfl, Nat.le_of_ble_eq_true rfl⟩ ⟨rfl, rfl⟩ dX7_lay_114 rfl (Nat.le_of_ble_eq_true rfl) (fun H locs hP hS => ?_)
              refine lv_aload_n (pc := 117) hx hb dX7_lay_117 rfl (lv_at hl 1 rfl) ?_
              obtain ⟨y18, hy18, h⟩ := bnd_ex h
              refine x_callVi (pc := 118) (st := .ref (ad 4) :: []) (As := []) E hEx hl.1 hP hS (kX5_heldProps hap RoA_4 M17  _ hy18) gX7_172 hdX5_heldProps rfl (RoA.lt RoA_4) (sh5 RoA_4) rfl ⟨Nat.le_of_ble_eq_true rfl, Nat.le_of_ble_eq_true rfl⟩ ⟨rfl, rfl⟩ dX7_lay_118 rfl (Nat.le_of_ble_eq_true rfl) (fun H locs hP hS n19 => ?_)
              obtain ⟨rfl, rfl⟩ := som2 h
              exact x_iret E hP hS rfl dX7_lay_121
            · have h := (if_pos c14).symm.trans h
              refine lv_aload_n (pc := 80) hx hb dX7_lay_80 rfl (lv_at hl 2 rfl) ?_
              refine x_get (pc := 81) (v := .ref (ad 3)) E hP (by decide) sh7 rfl inX7 1 (by decide) q293 rfl dX7_lay_81 ?_
              obtain ⟨q20, hq20, h⟩ := bnd_ex h
              refine x_callVi (pc := 84) (st := .ref (ad 3) :: []) (As := []) E hEx hl.1 hP hS (kX6_runOutOfTime hap StA_3 M  _ _ hq20) gX7_185 hdX6_runOutOfTime rfl (StA.lt StA_3) (sh6 StA_3) rfl ⟨Nat.le_of_ble_eq_true rfl, Nat.le_of_ble_eq_true rfl⟩ ⟨rfl, rfl⟩ dX7_lay_84 rfl (Nat.le_of_ble_eq_true rfl) (fun H locs hP hS n21 => ?_)
              obtain ⟨rfl, rfl⟩ := som2 h
              exact x_iret E hP hS rfl dX7_lay_87
          · have h := (if_neg c10).symm.trans h
            refine lv_bipush (pc := 55) (v := (-4 : Int32)) hx hb dX7_lay_55 (by decide) ?_
            obtain ⟨rfl, rfl⟩ := som2 h
            exact x_iret E hP hS rfl dX7_lay_57
    · have h := (if_pos c4).symm.trans h
      refine lv_iconst (pc := 24) (v := (-1 : Int32)) hx hb dX7_lay_24 (by decide) ?_
      obtain ⟨rfl, rfl⟩ := som2 h
      exact x_iret E hP hS rfl dX7_lay_25
set_option maxRecDepth 100000 in
set_option maxHeartbeats 4000000 in
theorem kX7_open (hap : Apart 78 ad)   (M : Mem) (x1 x2 : Int32) (v : Int32) (M' : Mem) (h : fX7_open M x1 x2 = some (v, M')) : XI G ad sK sV cA cZ cC yX7_open cX7_open 6 .int ({ frames := 7, cells := 0, slots := 0, locals := 209 } : Room) [.ref (ad 0), .int x1, .int x2] M v M' := by
  refine CI.mk (own := RX7) (ls0 := [(0, .ref (ad 0)), (1, .int x1), (2, .int x2)]) (by decide +kernel) rfl hap (Nat.le_of_ble_eq_true rfl) rfl ?_
  intro p l e s m args below meth c ls E hP hl
  have hx := E.1
  have hb := E.2.1
  have hown := E.2.2.2.2.2.1
  have hts := E.2.2.2.2.2.2.1
  have hNe := E.2.2.2.2.2.2.2.2.1.1
  have hEx := ExX.ok ad sK sV
  have hS : va_S (AW 78 ad) s.heap s.heap [] := va_S.rf
  have hB91 : ∀ (M : Mem) (x1 x4 x5 : Int32) (H : Heap) (locs : List Loc) (ls : Array Slot), fX7_open_B91 M x1 x4 x5 = some (v, M') → va_P G vwCl (WW 78 (shX cA ad) ad M) H → va_S (AW 78 ad) s.heap H locs → lv_has ls 6 [(0, .ref (ad 0)), (1, .int x1), (3, .ref (ad 4)), (4, .int x4), (5, .int x5)] → W p l e ({ frames := 7, cells := 0, slots := 0, locals := 209 } : Room) s m args below meth c H locs 0 0 (QI below G 78 (shX cA ad) ad .int args s v M') (F0 m 91 ls []) := by
    intro M x1 x4 x5 H locs ls h hP hS hl
    unfold fX7_open_B91 at h
    refine lv_aload_n (pc := 91) hx hb dX7_open_91 rfl (lv_at hl 0 rfl) ?_
    refine x_get (pc := 92) (v := .ref (ad 3)) E hP (by decide) sh7 rfl inX7 1 (by decide) q293 rfl dX7_open_92 ?_
    refine lv_iload (pc := 95) hx hb dX7_open_95 (lv_at hl 4 rfl) ?_
    refine x_callVi (pc := 97) (st := .int x5 :: .ref (ad 3) :: []) (As := [.int x5]) E hEx hl.1 hP hS (kX6_hasTimeFor hap StA_3 M _ _ rfl) gX7_182 hdX6_hasTimeFor rfl (StA.lt StA_3) (sh6 StA_3) rfl ⟨Nat.le_of_ble_eq_true rfl, Nat.le_of_ble_eq_true rfl⟩ ⟨rfl, rfl⟩ dX7_open_97 rfl (Nat.le_of_ble_eq_true rfl) (fun H locs hP hS n12 => ?_)
    refine lv_if_ne (pc := 100) (tgt := 111) hx hb dX7_open_100 (by decide) (fun c13 => ?_) (fun c13 => ?_)
    · have h := (if_neg c13).symm.trans h
      refine lv_aload_n (pc := 111) hx hb dX7_open_111 rfl (lv_at hl 0 rfl) ?_
      refine x_get (pc := 112) (v := .ref (ad 3)) E hP (by decide) sh7 rfl inX7 1 (by decide) q293 rfl dX7_open_112 ?_
      refine x_ldcs (pc := 115) (j := 8) E (by decide) rfl rfl dX7_open_115 ?_
      refine lv_iload_n (pc := 117) hx hb dX7_open_117 rfl (lv_at hl 1 rfl) ?_
      refine lv_iconst (pc := 118) (v := (-1 : Int32)) hx hb dX7_open_118 (by decide) ?_
      obtain ⟨M14, hM14, h⟩ := bnd_ex h
      refine x_callVv (pc := 119) (st := .int (-1 : Int32) :: .int x1 :: .ref (sK 8) :: .ref (ad 3) :: []) (As := [.ref (sK 8), .int x1, .int (-1 : Int32)]) E hEx hl.1 hP hS (kX6_note hap StA_3 (by decide) M _ _ _ hM14) gX7_190 hdX6_note rfl (StA.lt StA_3) (sh6 StA_3) rfl ⟨Nat.le_of_ble_eq_true rfl, Nat.le_of_ble_eq_true rfl⟩ ⟨rfl, rfl⟩ dX7_open_119 rfl (Nat.le_of_ble_eq_true rfl) (fun H locs hP hS => ?_)
      refine lv_iload (pc := 122) hx hb dX7_open_122 (lv_at hl 3 rfl) ?_
      refine lv_if_eq (pc := 124) (tgt := 154) hx hb dX7_open_124 (by decide) (fun c15 => ?_) (fun c15 => ?_)
      · have h := (if_pos c15).symm.trans h
        refine lv_aload_n (pc := 154) hx hb dX7_open_154 rfl (lv_at hl 2 rfl) ?_
        refine x_get (pc := 155) (v := .ref (ad 8)) E hP (RoA.lt RoA_4) (sh5 RoA_4) rfl inX5 4 (by decide) q97 rfl dX7_open_155 ?_
        refine lv_iload_n (pc := 158) hx hb dX7_open_158 rfl (lv_at hl 1 rfl) ?_
        refine lv_iconst (pc := 159) (v := (1 : Int32)) hx hb dX7_open_159 (by decide) ?_
        obtain ⟨M16, hM16, h⟩ := thn_ex h
        refine x_callSv (pc := 160) (st := .int (1 : Int32) :: .int x1 :: .ref (ad 8) :: []) (As := [.ref (ad 8), .int x1, .int (1 : Int32)]) E hEx hl.1 hP hS (c_put hap M14 (lt5a4 RoA_4) (sh5a4 RoA_4) (by decide) _ _ _ hM16) gX7_47 hsX7_put rfl ⟨Nat.le_of_ble_eq_true rfl, Nat.le_of_ble_eq_true rfl⟩ ⟨rfl, rfl⟩ dX7_open_160 rfl (Nat.le_of_ble_eq_true rfl) (fun H locs hP hS => ?_)
        refine lv_aload_n (pc := 163) hx hb dX7_open_163 rfl (lv_at hl 0 rfl) ?_
        refine x_get (pc := 164) (v := .ref (ad 3)) E hP (by decide) sh7 rfl inX7 1 (by decide) q293 rfl dX7_open_164 ?_
        refine lv_iload (pc := 167) hx hb dX7_open_167 (lv_at hl 4 rfl) ?_
        obtain ⟨M17, hM17, h⟩ := bnd_ex h
        refine x_callVv (pc := 169) (st := .int x5 :: .ref (ad 3) :: []) (As := [.int x5]) E hEx hl.1 hP hS (kX6_pass hap StA_3 M16 _ _ hM17) gX7_197 hdX6_pass rfl (StA.lt StA_3) (sh6 StA_3) rfl ⟨Nat.le_of_ble_eq_true rfl, Nat.le_of_ble_eq_true rfl⟩ ⟨rfl, rfl⟩ dX7_open_169 rfl (Nat.le_of_ble_eq_true rfl) (fun H locs hP hS => ?_)
        refine lv_iload_n (pc := 172) hx hb dX7_open_172 rfl (lv_at hl 1 rfl) ?_
        refine lv_aload_n (pc := 173) hx hb dX7_open_173 rfl (lv_at hl 2 rfl) ?_
        refine x_get (pc := 174) (v := .int (M17 4 14)) E hP (RoA.lt RoA_4) (sh5 RoA_4) rfl inX5 14 (by decide) q119 rfl dX7_open_174 ?_
        refine lv_icmp_eq (pc := 177) (tgt := 182) hx hb dX7_open_177 (by decide) (fun c18 => ?_) (fun c18 => ?_)
        · have h := (if_pos c18).symm.trans h
          refine lv_aload_n (pc := 182) hx hb dX7_open_182 rfl (lv_at hl 0 rfl) ?_
          refine x_get (pc := 183) (v := .ref (ad 3)) E hP (by decide) sh7 rfl inX7 1 (by decide) q293 rfl dX7_open_183 ?_
          refine lv_iconst (pc := 186) (v := (1 : Int32)) hx hb dX7_open_186 (by decide) ?_
          obtain ⟨M19, hM19, h⟩ := bnd_ex h
          refine x_callVv (pc := 187) (st := .int (1 : Int32) :: .ref (ad 3) :: []) (As := [.int (1 : Int32)]) E hEx hl.1 hP hS (kX6_endGame hap StA_3 M17 _ _ hM19) gX7_218 hdX6_endGame rfl (StA.lt StA_3) (sh6 StA_3) rfl ⟨Nat.le_of_ble_eq_true rfl, Nat.le_of_ble_eq_true rfl⟩ ⟨rfl, rfl⟩ dX7_open_187 rfl (Nat.le_of_ble_eq_true rfl) (fun H locs hP hS => ?_)
          refine lv_iconst (pc := 190) (v := (2 : Int32)) hx hb dX7_open_190 (by decide) ?_
          obtain ⟨rfl, rfl⟩ := som2 h
          exact x_iret E hP hS rfl dX7_open_191
        · have h := (if_neg c18).symm.trans h
          refine lv_iconst (pc := 180) (v := (1 : Int32)) hx hb dX7_open_180 (by decide) ?_
          obtain ⟨rfl, rfl⟩ := som2 h
          exact x_iret E hP hS rfl dX7_open_181
      · have h := (if_neg c15).symm.trans h
        refine lv_aload_n (pc := 127) hx hb dX7_open_127 rfl (lv_at hl 0 rfl) ?_
        refine x_get (pc := 128) (v := .ref (ad 3)) E hP (by decide) sh7 rfl inX7 1 (by decide) q293 rfl dX7_open_128 ?_
        refine x_get (pc := 131) (v := .ref (ad 19)) E hP (StA.lt StA_3) (sh6 StA_3) rfl inX6 2 (by decide) q258 rfl dX7_open_131 ?_
        refine lv_dup (pc := 134) hx hb dX7_open_134 rfl ?_
        refine x_get (pc := 135) (v := .int (M14 19 5)) E hP (GaA.lt GaA_19) (sh1 GaA_19) rfl inX1 5 (by decide) q203 rfl dX7_open_135 ?_
        refine lv_iconst (pc := 138) (v := (1 : Int32)) hx hb dX7_open_138 (by decide) ?_
        refine lv_iadd (pc := 139) hx hb dX7_open_139 ?_
        obtain ⟨M20, hM20, h⟩ := thn_ex h
        refine x_put (pc := 140) (v := ((M14 19 5) + (1 : Int32))) E hP hS (GaA.lt GaA_19) (sh1 GaA_19) tyX1 tyX1_ok nmX1 rfl inX1 5 (by decide) q203 rfl rfl rfl (Nat.le_of_ble_eq_true rfl) rfl dX7_open_140 (fun H locs hP hS => ?_)
        rw [hM20] at hP
        refine lv_aload_n (pc := 143) hx hb dX7_open_143 rfl (lv_at hl 0 rfl) ?_
        refine x_get (pc := 144) (v := .ref (ad 3)) E hP (by decide) sh7 rfl inX7 1 (by decide) q293 rfl dX7_open_144 ?_
        refine lv_iload (pc := 147) hx hb dX7_open_147 (lv_at hl 4 rfl) ?_
        obtain ⟨M21, hM21, h⟩ := bnd_ex h
        refine x_callVv (pc := 149) (st := .int x5 :: .ref (ad 3) :: []) (As := [.int x5]) E hEx hl.1 hP hS (kX6_pass hap StA_3 M20 _ _ hM21) gX7_197 hdX6_pass rfl (StA.lt StA_3) (sh6 StA_3) rfl ⟨Nat.le_of_ble_eq_true rfl, Nat.le_of_ble_eq_true rfl⟩ ⟨rfl, rfl⟩ dX7_open_149 rfl (Nat.le_of_ble_eq_true rfl) (fun H locs hP hS => ?_)
        refine lv_iconst (pc := 152) (v := (0 : Int32)) hx hb dX7_open_152 (by decide) ?_
        obtain ⟨rfl, rfl⟩ := som2 h
        exact x_iret E hP hS rfl dX7_open_153
    · have h := (if_pos c13).symm.trans h
      refine lv_aload_n (pc := 103) hx hb dX7_open_103 rfl (lv_at hl 0 rfl) ?_
      refine x_get (pc := 104) (v := .ref (ad 3)) E hP (by decide) sh7 rfl inX7 1 (by decide) q293 rfl dX7_open_104 ?_
      obtain ⟨q22, hq22, h⟩ := bnd_ex h
      refine x_callVi (pc := 107) (st := .ref (ad 3) :: []) (As := []) E hEx hl.1 hP hS (kX6_runOutOfTime hap StA_3 M  _ _ hq22) gX7_185 hdX6_runOutOfTime rfl (StA.lt StA_3) (sh6 StA_3) rfl ⟨Nat.le_of_ble_eq_true rfl, Nat.le_of_ble_eq_true rfl⟩ ⟨rfl, rfl⟩ dX7_open_107 rfl (Nat.le_of_ble_eq_true rfl) (fun H locs hP hS n23 => ?_)
      obtain ⟨rfl, rfl⟩ := som2 h
      exact x_iret E hP hS rfl dX7_open_110
  have hB70 : ∀ (M : Mem) (x1 x4 : Int32) (H : Heap) (locs : List Loc) (ls : Array Slot), fX7_open_B70 M x1 x4 = some (v, M') → va_P G vwCl (WW 78 (shX cA ad) ad M) H → va_S (AW 78 ad) s.heap H locs → lv_has ls 6 [(0, .ref (ad 0)), (1, .int x1), (3, .ref (ad 4)), (4, .int x4)] → W p l e ({ frames := 7, cells := 0, slots := 0, locals := 209 } : Room) s m args below meth c H locs 0 0 (QI below G 78 (shX cA ad) ad .int args s v M') (F0 m 70 ls []) := by
    intro M x1 x4 H locs ls h hP hS hl
    unfold fX7_open_B70 at h
    refine lv_iconst (pc := 70) (v := (4 : Int32)) hx hb dX7_open_70 (by decide) ?_
    refine lv_aload_n (pc := 71) hx hb dX7_open_71 rfl (lv_at hl 2 rfl) ?_
    refine x_get (pc := 72) (v := .int (M 4 15)) E hP (RoA.lt RoA_4) (sh5 RoA_4) rfl inX5 15 (by decide) q122 rfl dX7_open_72 ?_
    refine x_callSi (pc := 75) (st := .int (M 4 15) :: .int (4 : Int32) :: []) (As := [.int (4 : Int32), .int (M 4 15)]) E hEx hl.1 hP hS (kX7_actMinutes hap  M _ _ _ rfl) gX7_178 hsX7_actMinutes rfl ⟨Nat.le_of_ble_eq_true rfl, Nat.le_of_ble_eq_true rfl⟩ ⟨rfl, rfl⟩ dX7_open_75 rfl (Nat.le_of_ble_eq_true rfl) (fun H locs hP hS n9 => ?_)
    refine lv_iload (pc := 78) hx hb dX7_open_78 (lv_at hl 3 rfl) ?_
    refine lv_if_eq (pc := 80) (tgt := 87) hx hb dX7_open_80 (by decide) (fun c10 => ?_) (fun c10 => ?_)
    · have h := (if_pos c10).symm.trans h
      refine lv_iconst (pc := 87) (v := (1 : Int32)) hx hb dX7_open_87 (by decide) ?_
      refine lv_imul (pc := 88) hx hb dX7_open_88 ?_
      obtain ⟨y11, hy11, h⟩ := thn_ex h
      refine W.eq (g2 := F0 m 89 ls (.int y11 :: [])) (by rw [← hy11]) ?_
      refine lv_istore (pc := 89) (lv' := [(5, .int y11), (0, .ref (ad 0)), (1, .int x1), (3, .ref (ad 4)), (4, .int x4)]) hx hb dX7_open_89 hl (by decide) rfl (fun ls hl => ?_)
      exact hB91 M x1 x4 y11 _ _ _ h hP hS (lv_sub hl [1, 2, 3, 4, 0] rfl)
    · have h := (if_neg c10).symm.trans h
      refine lv_iconst (pc := 83) (v := (2 : Int32)) hx hb dX7_open_83 (by decide) ?_
      refine lv_goto (pc := 84) (tgt := 88) hx hb dX7_open_84 (by decide) ?_
      refine lv_imul (pc := 88) hx hb dX7_open_88 ?_
      obtain ⟨y24, hy24, h⟩ := thn_ex h
      refine W.eq (g2 := F0 m 89 ls (.int y24 :: [])) (by rw [← hy24]) ?_
      refine lv_istore (pc := 89) (lv' := [(5, .int y24), (0, .ref (ad 0)), (1, .int x1), (3, .ref (ad 4)), (4, .int x4)]) hx hb dX7_open_89 hl (by decide) rfl (fun ls hl => ?_)
      exact hB91 M x1 x4 y24 _ _ _ h hP hS (lv_sub hl [1, 2, 3, 4, 0] rfl)
  unfold fX7_open at h
  refine lv_aload_n (pc := 0) hx hb dX7_open_0 rfl (lv_at hl 0 rfl) ?_
  refine x_get (pc := 1) (v := .ref (ad 3)) E hP (by decide) sh7 rfl inX7 1 (by decide) q293 rfl dX7_open_1 ?_
  refine x_get (pc := 4) (v := .ref (ad 4)) E hP (StA.lt StA_3) (sh6 StA_3) rfl inX6 0 (by decide) q254 rfl dX7_open_4 ?_
  refine lv_astore_n (pc := 7) (lv' := [(3, .ref (ad 4)), (0, .ref (ad 0)), (1, .int x1), (2, .int x2)]) hx hb dX7_open_7 rfl hl (by decide) rfl (fun ls hl => ?_)
  refine lv_aload_n (pc := 8) hx hb dX7_open_8 rfl (lv_at hl 0 rfl) ?_
  refine lv_iload_n (pc := 9) hx hb dX7_open_9 rfl (lv_at hl 2 rfl) ?_
  refine x_callVi (pc := 10) (st := .int x1 :: .ref (ad 4) :: []) (As := [.int x1]) E hEx hl.1 hP hS (kX5_hasBox hap RoA_4 M _ _ rfl) gX7_64 hdX5_hasBox rfl (RoA.lt RoA_4) (sh5 RoA_4) rfl ⟨Nat.le_of_ble_eq_true rfl, Nat.le_of_ble_eq_true rfl⟩ ⟨rfl, rfl⟩ dX7_open_10 rfl (Nat.le_of_ble_eq_true rfl) (fun H locs hP hS n1 => ?_)
  refine lv_if_ne (pc := 13) (tgt := 18) hx hb dX7_open_13 (by decide) (fun c2 => ?_) (fun c2 => ?_)
  · have h := (if_neg c2).symm.trans h
    refine lv_aload_n (pc := 18) hx hb dX7_open_18 rfl (lv_at hl 1 rfl) ?_
    refine x_get (pc := 19) (v := .ref (ad 3)) E hP (by decide) sh7 rfl inX7 1 (by decide) q293 rfl dX7_open_19 ?_
    refine x_get (pc := 22) (v := .ref (ad 19)) E hP (StA.lt StA_3) (sh6 StA_3) rfl inX6 2 (by decide) q258 rfl dX7_open_22 ?_
    refine x_get (pc := 25) (v := .int (bz (M 19 0))) E hP (GaA.lt GaA_19) (sh1 GaA_19) rfl inX1 0 (by decide) q184 rfl dX7_open_25 ?_
    refine lv_if_eq (pc := 28) (tgt := 39) hx hb dX7_open_28 (by decide) (fun c3 => ?_) (fun c3 => ?_)
    · have h := (if_pos c3).symm.trans h
      refine lv_bipush (pc := 39) (v := (-4 : Int32)) hx hb dX7_open_39 (by decide) ?_
      obtain ⟨rfl, rfl⟩ := som2 h
      exact x_iret E hP hS rfl dX7_open_41
    · have h := (if_neg c3).symm.trans h
      refine lv_aload_n (pc := 31) hx hb dX7_open_31 rfl (lv_at hl 0 rfl) ?_
      refine lv_iload_n (pc := 32) hx hb dX7_open_32 rfl (lv_at hl 2 rfl) ?_
      obtain ⟨y4, hy4, h⟩ := bnd_ex h
      refine x_callVi (pc := 33) (st := .int x1 :: .ref (ad 4) :: []) (As := [.int x1]) E hEx hl.1 hP hS (kX5_canBeOpened hap RoA_4 M _ _ hy4) gX7_205 hdX5_canBeOpened rfl (RoA.lt RoA_4) (sh5 RoA_4) rfl ⟨Nat.le_of_ble_eq_true rfl, Nat.le_of_ble_eq_true rfl⟩ ⟨rfl, rfl⟩ dX7_open_33 rfl (Nat.le_of_ble_eq_true rfl) (fun H locs hP hS n5 => ?_)
      refine lv_if_ne (pc := 36) (tgt := 42) hx hb dX7_open_36 (by decide) (fun c6 => ?_) (fun c6 => ?_)
      · have h := (if_neg c6).symm.trans h
        refine lv_aload_n (pc := 42) hx hb dX7_open_42 rfl (lv_at hl 0 rfl) ?_
        refine lv_iload_n (pc := 43) hx hb dX7_open_43 rfl (lv_at hl 2 rfl) ?_
        refine lv_iconst (pc := 44) (v := (2 : Int32)) hx hb dX7_open_44 (by decide) ?_
        refine x_callVi (pc := 45) (st := .int (2 : Int32) :: .int x1 :: .ref (ad 4) :: []) (As := [.int x1, .int (2 : Int32)]) E hEx hl.1 hP hS (kX5_hasLock hap RoA_4 M _ _ _ rfl) gX7_98 hdX5_hasLock rfl (RoA.lt RoA_4) (sh5 RoA_4) rfl ⟨Nat.le_of_ble_eq_true rfl, Nat.le_of_ble_eq_true rfl⟩ ⟨rfl, rfl⟩ dX7_open_45 rfl (Nat.le_of_ble_eq_true rfl) (fun H locs hP hS n7 => ?_)
        refine lv_if_eq (pc := 48) (tgt := 67) hx hb dX7_open_48 (by decide) (fun c8 => ?_) (fun c8 => ?_)
        · have h := (if_pos c8).symm.trans h
          refine lv_iconst (pc := 67) (v := (0 : Int32)) hx hb dX7_open_67 (by decide) ?_
          refine lv_istore (pc := 68) (lv' := [(4, .int (0 : Int32)), (3, .ref (ad 4)), (0, .ref (ad 0)), (1, .int x1), (2, .int x2)]) hx hb dX7_open_68 hl (by decide) rfl (fun ls hl => ?_)
          exact hB70 M x1 (0 : Int32) _ _ _ h hP hS (lv_sub hl [2, 3, 1, 0] rfl)
        · have h := (if_neg c8).symm.trans h
          refine lv_aload_n (pc := 51) hx hb dX7_open_51 rfl (lv_at hl 0 rfl) ?_
          refine x_get (pc := 52) (v := .ref (ad 7)) E hP (RoA.lt RoA_4) (sh5 RoA_4) rfl inX5 3 (by decide) q95 rfl dX7_open_52 ?_
          refine lv_iload_n (pc := 55) hx hb dX7_open_55 rfl (lv_at hl 2 rfl) ?_
          refine x_callSi (pc := 56) (st := .int x1 :: .ref (ad 7) :: []) (As := [.ref (ad 7), .int x1]) E hEx hl.1 hP hS (c_at hap M (lt5a3 RoA_4) (sh5a3 RoA_4) (by decide) _ _ rfl) gX7_136 hsX7_at rfl ⟨Nat.le_of_ble_eq_true rfl, Nat.le_of_ble_eq_true rfl⟩ ⟨rfl, rfl⟩ dX7_open_56 rfl (Nat.le_of_ble_eq_true rfl) (fun H locs hP hS n25 => ?_)
          refine lv_iload_n (pc := 59) hx hb dX7_open_59 rfl (lv_at hl 3 rfl) ?_
          refine lv_icmp_eq (pc := 60) (tgt := 67) hx hb dX7_open_60 (by decide) (fun c26 => ?_) (fun c26 => ?_)
          · have h := (if_pos c26).symm.trans h
            refine lv_iconst (pc := 67) (v := (0 : Int32)) hx hb dX7_open_67 (by decide) ?_
            refine lv_istore (pc := 68) (lv' := [(4, .int (0 : Int32)), (3, .ref (ad 4)), (0, .ref (ad 0)), (1, .int x1), (2, .int x2)]) hx hb dX7_open_68 hl (by decide) rfl (fun ls hl => ?_)
            exact hB70 M x1 (0 : Int32) _ _ _ h hP hS (lv_sub hl [2, 3, 1, 0] rfl)
          · have h := (if_neg c26).symm.trans h
            refine lv_iconst (pc := 63) (v := (1 : Int32)) hx hb dX7_open_63 (by decide) ?_
            refine lv_goto (pc := 64) (tgt := 68) hx hb dX7_open_64 (by decide) ?_
            refine lv_istore (pc := 68) (lv' := [(4, .int (1 : Int32)), (3, .ref (ad 4)), (0, .ref (ad 0)), (1, .int x1), (2, .int x2)]) hx hb dX7_open_68 hl (by decide) rfl (fun ls hl => ?_)
            exact hB70 M x1 (1 : Int32) _ _ _ h hP hS (lv_sub hl [2, 3, 1, 0] rfl)
      · have h := (if_pos c6).symm.trans h
        refine lv_bipush (pc := 39) (v := (-4 : Int32)) hx hb dX7_open_39 (by decide) ?_
        obtain ⟨rfl, rfl⟩ := som2 h
        exact x_iret E hP hS rfl dX7_open_41
  · have h := (if_pos c2).symm.trans h
    refine lv_iconst (pc := 16) (v := (-1 : Int32)) hx hb dX7_open_16 (by decide) ?_
    obtain ⟨rfl, rfl⟩ := som2 h
    exact x_iret E hP hS rfl dX7_open_17
set_option maxRecDepth 100000 in
set_option maxHeartbeats 4000000 in
theorem kX7_read (hap : Apart 78 ad)   (M : Mem) (x1 : Int32) (v : Int32) (M' : Mem) (h : fX7_read M x1 = some (v, M')) : XI G ad sK sV cA cZ cC yX7_read cX7_read 4 .int ({ frames := 7, cells := 0, slots := 0, locals := 209 } : Room) [.ref (ad 0), .int x1] M v M' := by
  refine CI.mk (own := RX7) (ls0 := [(0, .ref (ad 0)), (1, .int x1)]) (by decide +kernel) rfl hap (Nat.le_of_ble_eq_true rfl) rfl ?_
  intro p l e s m args below meth c ls E hP hl
  have hx := E.1
  have hb := E.2.1
  have hown := E.2.2.2.2.2.1
  have hts := E.2.2.2.2.2.2.1
  have hNe := E.2.2.2.2.2.2.2.2.1.1
  have hEx := ExX.ok ad sK sV
  have hS : va_S (AW 78 ad) s.heap s.heap [] := va_S.rf
  unfold fX7_read at h
  refine lv_aload_n (pc := 0) hx hb dX7_read_0 rfl (lv_at hl 0 rfl) ?_
  refine x_get (pc := 1) (v := .ref (ad 3)) E hP (by decide) sh7 rfl inX7 1 (by decide) q293 rfl dX7_read_1 ?_
  refine x_get (pc := 4) (v := .ref (ad 4)) E hP (StA.lt StA_3) (sh6 StA_3) rfl inX6 0 (by decide) q254 rfl dX7_read_4 ?_
  refine lv_astore_n (pc := 7) (lv' := [(2, .ref (ad 4)), (0, .ref (ad 0)), (1, .int x1)]) hx hb dX7_read_7 rfl hl (by decide) rfl (fun ls hl => ?_)
  refine lv_aload_n (pc := 8) hx hb dX7_read_8 rfl (lv_at hl 0 rfl) ?_
  refine lv_iload_n (pc := 9) hx hb dX7_read_9 rfl (lv_at hl 2 rfl) ?_
  refine x_callVi (pc := 10) (st := .int x1 :: .ref (ad 4) :: []) (As := [.int x1]) E hEx hl.1 hP hS (kX5_hasClue hap RoA_4 M _ _ rfl) gX7_222 hdX5_hasClue rfl (RoA.lt RoA_4) (sh5 RoA_4) rfl ⟨Nat.le_of_ble_eq_true rfl, Nat.le_of_ble_eq_true rfl⟩ ⟨rfl, rfl⟩ dX7_read_10 rfl (Nat.le_of_ble_eq_true rfl) (fun H locs hP hS n1 => ?_)
  refine lv_if_ne (pc := 13) (tgt := 18) hx hb dX7_read_13 (by decide) (fun c2 => ?_) (fun c2 => ?_)
  · have h := (if_neg c2).symm.trans h
    refine lv_aload_n (pc := 18) hx hb dX7_read_18 rfl (lv_at hl 1 rfl) ?_
    refine x_get (pc := 19) (v := .ref (ad 3)) E hP (by decide) sh7 rfl inX7 1 (by decide) q293 rfl dX7_read_19 ?_
    refine x_get (pc := 22) (v := .ref (ad 19)) E hP (StA.lt StA_3) (sh6 StA_3) rfl inX6 2 (by decide) q258 rfl dX7_read_22 ?_
    refine x_get (pc := 25) (v := .int (bz (M 19 0))) E hP (GaA.lt GaA_19) (sh1 GaA_19) rfl inX1 0 (by decide) q184 rfl dX7_read_25 ?_
    refine lv_if_eq (pc := 28) (tgt := 39) hx hb dX7_read_28 (by decide) (fun c3 => ?_) (fun c3 => ?_)
    · have h := (if_pos c3).symm.trans h
      refine lv_bipush (pc := 39) (v := (-4 : Int32)) hx hb dX7_read_39 (by decide) ?_
      obtain ⟨rfl, rfl⟩ := som2 h
      exact x_iret E hP hS rfl dX7_read_41
    · have h := (if_neg c3).symm.trans h
      refine lv_aload_n (pc := 31) hx hb dX7_read_31 rfl (lv_at hl 0 rfl) ?_
      refine lv_iload_n (pc := 32) hx hb dX7_read_32 rfl (lv_at hl 2 rfl) ?_
      obtain ⟨y4, hy4, h⟩ := bnd_ex h
      refine x_callVi (pc := 33) (st := .int x1 :: .ref (ad 4) :: []) (As := [.int x1]) E hEx hl.1 hP hS (kX5_clueAtHand hap RoA_4 M _ _ hy4) gX7_225 hdX5_clueAtHand rfl (RoA.lt RoA_4) (sh5 RoA_4) rfl ⟨Nat.le_of_ble_eq_true rfl, Nat.le_of_ble_eq_true rfl⟩ ⟨rfl, rfl⟩ dX7_read_33 rfl (Nat.le_of_ble_eq_true rfl) (fun H locs hP hS n5 => ?_)
      refine lv_if_ne (pc := 36) (tgt := 42) hx hb dX7_read_36 (by decide) (fun c6 => ?_) (fun c6 => ?_)
      · have h := (if_neg c6).symm.trans h
        refine lv_aload_n (pc := 42) hx hb dX7_read_42 rfl (lv_at hl 0 rfl) ?_
        refine x_get (pc := 43) (v := .ref (ad 15)) E hP (RoA.lt RoA_4) (sh5 RoA_4) rfl inX5 13 (by decide) q117 rfl dX7_read_43 ?_
        refine lv_iload_n (pc := 46) hx hb dX7_read_46 rfl (lv_at hl 2 rfl) ?_
        refine x_callSi (pc := 47) (st := .int x1 :: .ref (ad 15) :: []) (As := [.ref (ad 15), .int x1]) E hEx hl.1 hP hS (c_at hap M (lt5a11 RoA_4) (sh5a11 RoA_4) (by decide) _ _ rfl) gX7_136 hsX7_at rfl ⟨Nat.le_of_ble_eq_true rfl, Nat.le_of_ble_eq_true rfl⟩ ⟨rfl, rfl⟩ dX7_read_47 rfl (Nat.le_of_ble_eq_true rfl) (fun H locs hP hS n7 => ?_)
        refine lv_if_ne (pc := 50) (tgt := 56) hx hb dX7_read_50 (by decide) (fun c8 => ?_) (fun c8 => ?_)
        · have h := (if_neg c8).symm.trans h
          refine lv_aload_n (pc := 56) hx hb dX7_read_56 rfl (lv_at hl 0 rfl) ?_
          refine lv_iload_n (pc := 57) hx hb dX7_read_57 rfl (lv_at hl 2 rfl) ?_
          refine x_callVi (pc := 58) (st := .int x1 :: .ref (ad 4) :: []) (As := [.int x1]) E hEx hl.1 hP hS (kX5_readingMinutes hap RoA_4 M _ _ rfl) gX7_231 hdX5_readingMinutes rfl (RoA.lt RoA_4) (sh5 RoA_4) rfl ⟨Nat.le_of_ble_eq_true rfl, Nat.le_of_ble_eq_true rfl⟩ ⟨rfl, rfl⟩ dX7_read_58 rfl (Nat.le_of_ble_eq_true rfl) (fun H locs hP hS n9 => ?_)
          obtain ⟨y10, hy10, h⟩ := thn_ex h
          refine W.eq (g2 := F0 m 61 ls (.int y10 :: [])) (by rw [← hy10]) ?_
          refine lv_istore_n (pc := 61) (lv' := [(3, .int y10), (2, .ref (ad 4)), (0, .ref (ad 0)), (1, .int x1)]) hx hb dX7_read_61 rfl hl (by decide) rfl (fun ls hl => ?_)
          refine lv_aload_n (pc := 62) hx hb dX7_read_62 rfl (lv_at hl 2 rfl) ?_
          refine x_get (pc := 63) (v := .ref (ad 3)) E hP (by decide) sh7 rfl inX7 1 (by decide) q293 rfl dX7_read_63 ?_
          refine lv_iload_n (pc := 66) hx hb dX7_read_66 rfl (lv_at hl 0 rfl) ?_
          refine x_callVi (pc := 67) (st := .int y10 :: .ref (ad 3) :: []) (As := [.int y10]) E hEx hl.1 hP hS (kX6_hasTimeFor hap StA_3 M _ _ rfl) gX7_182 hdX6_hasTimeFor rfl (StA.lt StA_3) (sh6 StA_3) rfl ⟨Nat.le_of_ble_eq_true rfl, Nat.le_of_ble_eq_true rfl⟩ ⟨rfl, rfl⟩ dX7_read_67 rfl (Nat.le_of_ble_eq_true rfl) (fun H locs hP hS n11 => ?_)
          refine lv_if_ne (pc := 70) (tgt := 81) hx hb dX7_read_70 (by decide) (fun c12 => ?_) (fun c12 => ?_)
          · have h := (if_neg c12).symm.trans h
            refine lv_aload_n (pc := 81) hx hb dX7_read_81 rfl (lv_at hl 2 rfl) ?_
            refine x_get (pc := 82) (v := .ref (ad 3)) E hP (by decide) sh7 rfl inX7 1 (by decide) q293 rfl dX7_read_82 ?_
            refine x_ldcs (pc := 85) (j := 9) E (by decide) rfl rfl dX7_read_85 ?_
            refine lv_iload_n (pc := 87) hx hb dX7_read_87 rfl (lv_at hl 3 rfl) ?_
            refine lv_iconst (pc := 88) (v := (-1 : Int32)) hx hb dX7_read_88 (by decide) ?_
            obtain ⟨M13, hM13, h⟩ := bnd_ex h
            refine x_callVv (pc := 89) (st := .int (-1 : Int32) :: .int x1 :: .ref (sK 9) :: .ref (ad 3) :: []) (As := [.ref (sK 9), .int x1, .int (-1 : Int32)]) E hEx hl.1 hP hS (kX6_note hap StA_3 (by decide) M _ _ _ hM13) gX7_190 hdX6_note rfl (StA.lt StA_3) (sh6 StA_3) rfl ⟨Nat.le_of_ble_eq_true rfl, Nat.le_of_ble_eq_true rfl⟩ ⟨rfl, rfl⟩ dX7_read_89 rfl (Nat.le_of_ble_eq_true rfl) (fun H locs hP hS => ?_)
            refine lv_aload_n (pc := 92) hx hb dX7_read_92 rfl (lv_at hl 1 rfl) ?_
            refine lv_iload_n (pc := 93) hx hb dX7_read_93 rfl (lv_at hl 3 rfl) ?_
            obtain ⟨M14, hM14, h⟩ := bnd_ex h
            refine x_callVv (pc := 94) (st := .int x1 :: .ref (ad 4) :: []) (As := [.int x1]) E hEx hl.1 hP hS (kX5_learnFromClue hap RoA_4 M13 _ _ hM14) gX7_236 hdX5_learnFromClue rfl (RoA.lt RoA_4) (sh5 RoA_4) rfl ⟨Nat.le_of_ble_eq_true rfl, Nat.le_of_ble_eq_true rfl⟩ ⟨rfl, rfl⟩ dX7_read_94 rfl (Nat.le_of_ble_eq_true rfl) (fun H locs hP hS => ?_)
            refine lv_aload_n (pc := 97) hx hb dX7_read_97 rfl (lv_at hl 2 rfl) ?_
            refine x_get (pc := 98) (v := .ref (ad 3)) E hP (by decide) sh7 rfl inX7 1 (by decide) q293 rfl dX7_read_98 ?_
            refine lv_iload_n (pc := 101) hx hb dX7_read_101 rfl (lv_at hl 0 rfl) ?_
            obtain ⟨M15, hM15, h⟩ := bnd_ex h
            refine x_callVv (pc := 102) (st := .int y10 :: .ref (ad 3) :: []) (As := [.int y10]) E hEx hl.1 hP hS (kX6_pass hap StA_3 M14 _ _ hM15) gX7_197 hdX6_pass rfl (StA.lt StA_3) (sh6 StA_3) rfl ⟨Nat.le_of_ble_eq_true rfl, Nat.le_of_ble_eq_true rfl⟩ ⟨rfl, rfl⟩ dX7_read_102 rfl (Nat.le_of_ble_eq_true rfl) (fun H locs hP hS => ?_)
            refine lv_aload_n (pc := 105) hx hb dX7_read_105 rfl (lv_at hl 1 rfl) ?_
            refine lv_iload_n (pc := 106) hx hb dX7_read_106 rfl (lv_at hl 3 rfl) ?_
            refine x_callVi (pc := 107) (st := .int x1 :: .ref (ad 4) :: []) (As := [.int x1]) E hEx hl.1 hP hS (kX5_clueDigit hap RoA_4 M15 _ _ rfl) gX7_239 hdX5_clueDigit rfl (RoA.lt RoA_4) (sh5 RoA_4) rfl ⟨Nat.le_of_ble_eq_true rfl, Nat.le_of_ble_eq_true rfl⟩ ⟨rfl, rfl⟩ dX7_read_107 rfl (Nat.le_of_ble_eq_true rfl) (fun H locs hP hS n16 => ?_)
            obtain ⟨rfl, rfl⟩ := som2 h
            exact x_iret E hP hS rfl dX7_read_110
          · have h := (if_pos c12).symm.trans h
            refine lv_aload_n (pc := 73) hx hb dX7_read_73 rfl (lv_at hl 2 rfl) ?_
            refine x_get (pc := 74) (v := .ref (ad 3)) E hP (by decide) sh7 rfl inX7 1 (by decide) q293 rfl dX7_read_74 ?_
            obtain ⟨q17, hq17, h⟩ := bnd_ex h
            refine x_callVi (pc := 77) (st := .ref (ad 3) :: []) (As := []) E hEx hl.1 hP hS (kX6_runOutOfTime hap StA_3 M  _ _ hq17) gX7_185 hdX6_runOutOfTime rfl (StA.lt StA_3) (sh6 StA_3) rfl ⟨Nat.le_of_ble_eq_true rfl, Nat.le_of_ble_eq_true rfl⟩ ⟨rfl, rfl⟩ dX7_read_77 rfl (Nat.le_of_ble_eq_true rfl) (fun H locs hP hS n18 => ?_)
            obtain ⟨rfl, rfl⟩ := som2 h
            exact x_iret E hP hS rfl dX7_read_80
        · have h := (if_pos c8).symm.trans h
          refine lv_bipush (pc := 53) (v := (-5 : Int32)) hx hb dX7_read_53 (by decide) ?_
          obtain ⟨rfl, rfl⟩ := som2 h
          exact x_iret E hP hS rfl dX7_read_55
      · have h := (if_pos c6).symm.trans h
        refine lv_bipush (pc := 39) (v := (-4 : Int32)) hx hb dX7_read_39 (by decide) ?_
        obtain ⟨rfl, rfl⟩ := som2 h
        exact x_iret E hP hS rfl dX7_read_41
  · have h := (if_pos c2).symm.trans h
    refine lv_iconst (pc := 16) (v := (-1 : Int32)) hx hb dX7_read_16 (by decide) ?_
    obtain ⟨rfl, rfl⟩ := som2 h
    exact x_iret E hP hS rfl dX7_read_17
set_option maxRecDepth 100000 in
set_option maxHeartbeats 4000000 in
theorem kX7_rest (hap : Apart 78 ad)   (M : Mem) (x1 : Int32) (v : Int32) (M' : Mem) (h : fX7_rest M x1 = some (v, M')) : XI G ad sK sV cA cZ cC yX7_rest cX7_rest 2 .int ({ frames := 7, cells := 0, slots := 0, locals := 209 } : Room) [.ref (ad 0), .int x1] M v M' := by
  refine CI.mk (own := RX7) (ls0 := [(0, .ref (ad 0)), (1, .int x1)]) (by decide +kernel) rfl hap (Nat.le_of_ble_eq_true rfl) rfl ?_
  intro p l e s m args below meth c ls E hP hl
  have hx := E.1
  have hb := E.2.1
  have hown := E.2.2.2.2.2.1
  have hts := E.2.2.2.2.2.2.1
  have hNe := E.2.2.2.2.2.2.2.2.1.1
  have hEx := ExX.ok ad sK sV
  have hS : va_S (AW 78 ad) s.heap s.heap [] := va_S.rf
  unfold fX7_rest at h
  refine lv_iload_n (pc := 0) hx hb dX7_rest_0 rfl (lv_at hl 1 rfl) ?_
  refine lv_iconst (pc := 1) (v := (1 : Int32)) hx hb dX7_rest_1 (by decide) ?_
  refine lv_icmp_lt (pc := 2) (tgt := 11) hx hb dX7_rest_2 (by decide) (fun c1 => ?_) (fun c1 => ?_)
  · have h := (if_pos c1).symm.trans h
    refine lv_bipush (pc := 11) (v := (-2 : Int32)) hx hb dX7_rest_11 (by decide) ?_
    obtain ⟨rfl, rfl⟩ := som2 h
    exact x_iret E hP hS rfl dX7_rest_13
  · have h := (if_neg c1).symm.trans h
    refine lv_iload_n (pc := 5) hx hb dX7_rest_5 rfl (lv_at hl 1 rfl) ?_
    refine lv_bipush (pc := 6) (v := (60 : Int32)) hx hb dX7_rest_6 (by decide) ?_
    refine lv_icmp_le (pc := 8) (tgt := 14) hx hb dX7_rest_8 (by decide) (fun c2 => ?_) (fun c2 => ?_)
    · have h := (if_pos c2).symm.trans h
      refine lv_aload_n (pc := 14) hx hb dX7_rest_14 rfl (lv_at hl 0 rfl) ?_
      refine x_get (pc := 15) (v := .ref (ad 3)) E hP (by decide) sh7 rfl inX7 1 (by decide) q293 rfl dX7_rest_15 ?_
      refine x_get (pc := 18) (v := .ref (ad 19)) E hP (StA.lt StA_3) (sh6 StA_3) rfl inX6 2 (by decide) q258 rfl dX7_rest_18 ?_
      refine x_get (pc := 21) (v := .int (bz (M 19 0))) E hP (GaA.lt GaA_19) (sh1 GaA_19) rfl inX1 0 (by decide) q184 rfl dX7_rest_21 ?_
      refine lv_if_ne (pc := 24) (tgt := 30) hx hb dX7_rest_24 (by decide) (fun c3 => ?_) (fun c3 => ?_)
      · have h := (if_neg c3).symm.trans h
        refine lv_aload_n (pc := 30) hx hb dX7_rest_30 rfl (lv_at hl 0 rfl) ?_
        refine x_get (pc := 31) (v := .ref (ad 3)) E hP (by decide) sh7 rfl inX7 1 (by decide) q293 rfl dX7_rest_31 ?_
        refine lv_iload_n (pc := 34) hx hb dX7_rest_34 rfl (lv_at hl 1 rfl) ?_
        refine x_callVi (pc := 35) (st := .int x1 :: .ref (ad 3) :: []) (As := [.int x1]) E hEx hl.1 hP hS (kX6_hasTimeFor hap StA_3 M _ _ rfl) gX7_182 hdX6_hasTimeFor rfl (StA.lt StA_3) (sh6 StA_3) rfl ⟨Nat.le_of_ble_eq_true rfl, Nat.le_of_ble_eq_true rfl⟩ ⟨rfl, rfl⟩ dX7_rest_35 rfl (Nat.le_of_ble_eq_true rfl) (fun H locs hP hS n4 => ?_)
        refine lv_if_ne (pc := 38) (tgt := 49) hx hb dX7_rest_38 (by decide) (fun c5 => ?_) (fun c5 => ?_)
        · have h := (if_neg c5).symm.trans h
          refine lv_aload_n (pc := 49) hx hb dX7_rest_49 rfl (lv_at hl 0 rfl) ?_
          refine x_get (pc := 50) (v := .ref (ad 3)) E hP (by decide) sh7 rfl inX7 1 (by decide) q293 rfl dX7_rest_50 ?_
          refine x_ldcs (pc := 53) (j := 10) E (by decide) rfl rfl dX7_rest_53 ?_
          refine lv_iload_n (pc := 55) hx hb dX7_rest_55 rfl (lv_at hl 1 rfl) ?_
          refine lv_iconst (pc := 56) (v := (-1 : Int32)) hx hb dX7_rest_56 (by decide) ?_
          obtain ⟨M6, hM6, h⟩ := bnd_ex h
          refine x_callVv (pc := 57) (st := .int (-1 : Int32) :: .int x1 :: .ref (sK 10) :: .ref (ad 3) :: []) (As := [.ref (sK 10), .int x1, .int (-1 : Int32)]) E hEx hl.1 hP hS (kX6_note hap StA_3 (by decide) M _ _ _ hM6) gX7_190 hdX6_note rfl (StA.lt StA_3) (sh6 StA_3) rfl ⟨Nat.le_of_ble_eq_true rfl, Nat.le_of_ble_eq_true rfl⟩ ⟨rfl, rfl⟩ dX7_rest_57 rfl (Nat.le_of_ble_eq_true rfl) (fun H locs hP hS => ?_)
          refine lv_aload_n (pc := 60) hx hb dX7_rest_60 rfl (lv_at hl 0 rfl) ?_
          refine x_get (pc := 61) (v := .ref (ad 3)) E hP (by decide) sh7 rfl inX7 1 (by decide) q293 rfl dX7_rest_61 ?_
          refine lv_iload_n (pc := 64) hx hb dX7_rest_64 rfl (lv_at hl 1 rfl) ?_
          obtain ⟨M7, hM7, h⟩ := bnd_ex h
          refine x_callVv (pc := 65) (st := .int x1 :: .ref (ad 3) :: []) (As := [.int x1]) E hEx hl.1 hP hS (kX6_pass hap StA_3 M6 _ _ hM7) gX7_197 hdX6_pass rfl (StA.lt StA_3) (sh6 StA_3) rfl ⟨Nat.le_of_ble_eq_true rfl, Nat.le_of_ble_eq_true rfl⟩ ⟨rfl, rfl⟩ dX7_rest_65 rfl (Nat.le_of_ble_eq_true rfl) (fun H locs hP hS => ?_)
          refine lv_aload_n (pc := 68) hx hb dX7_rest_68 rfl (lv_at hl 0 rfl) ?_
          refine x_get (pc := 69) (v := .ref (ad 3)) E hP (by decide) sh7 rfl inX7 1 (by decide) q293 rfl dX7_rest_69 ?_
          refine x_callVi (pc := 72) (st := .ref (ad 3) :: []) (As := []) E hEx hl.1 hP hS (kX6_minutesLeft hap StA_3 M7  _ rfl) gX7_244 hdX6_minutesLeft rfl (StA.lt StA_3) (sh6 StA_3) rfl ⟨Nat.le_of_ble_eq_true rfl, Nat.le_of_ble_eq_true rfl⟩ ⟨rfl, rfl⟩ dX7_rest_72 rfl (Nat.le_of_ble_eq_true rfl) (fun H locs hP hS n8 => ?_)
          obtain ⟨rfl, rfl⟩ := som2 h
          exact x_iret E hP hS rfl dX7_rest_75
        · have h := (if_pos c5).symm.trans h
          refine lv_aload_n (pc := 41) hx hb dX7_rest_41 rfl (lv_at hl 0 rfl) ?_
          refine x_get (pc := 42) (v := .ref (ad 3)) E hP (by decide) sh7 rfl inX7 1 (by decide) q293 rfl dX7_rest_42 ?_
          obtain ⟨q9, hq9, h⟩ := bnd_ex h
          refine x_callVi (pc := 45) (st := .ref (ad 3) :: []) (As := []) E hEx hl.1 hP hS (kX6_runOutOfTime hap StA_3 M  _ _ hq9) gX7_185 hdX6_runOutOfTime rfl (StA.lt StA_3) (sh6 StA_3) rfl ⟨Nat.le_of_ble_eq_true rfl, Nat.le_of_ble_eq_true rfl⟩ ⟨rfl, rfl⟩ dX7_rest_45 rfl (Nat.le_of_ble_eq_true rfl) (fun H locs hP hS n10 => ?_)
          obtain ⟨rfl, rfl⟩ := som2 h
          exact x_iret E hP hS rfl dX7_rest_48
      · have h := (if_pos c3).symm.trans h
        refine lv_bipush (pc := 27) (v := (-4 : Int32)) hx hb dX7_rest_27 (by decide) ?_
        obtain ⟨rfl, rfl⟩ := som2 h
        exact x_iret E hP hS rfl dX7_rest_29
    · have h := (if_neg c2).symm.trans h
      refine lv_bipush (pc := 11) (v := (-2 : Int32)) hx hb dX7_rest_11 (by decide) ?_
      obtain ⟨rfl, rfl⟩ := som2 h
      exact x_iret E hP hS rfl dX7_rest_13
set_option maxRecDepth 100000 in
set_option maxHeartbeats 4000000 in
theorem kX7_nudge (hap : Apart 78 ad)   (M : Mem)  (v : Int32) (M' : Mem) (h : fX7_nudge M = some (v, M')) : XI G ad sK sV cA cZ cC yX7_nudge cX7_nudge 2 .int ({ frames := 7, cells := 0, slots := 0, locals := 209 } : Room) [.ref (ad 0)] M v M' := by
  refine CI.mk (own := RX7) (ls0 := [(0, .ref (ad 0))]) (by decide +kernel) rfl hap (Nat.le_of_ble_eq_true rfl) rfl ?_
  intro p l e s m args below meth c ls E hP hl
  have hx := E.1
  have hb := E.2.1
  have hown := E.2.2.2.2.2.1
  have hts := E.2.2.2.2.2.2.1
  have hNe := E.2.2.2.2.2.2.2.2.1.1
  have hEx := ExX.ok ad sK sV
  have hS : va_S (AW 78 ad) s.heap s.heap [] := va_S.rf
  have hB147 : ∀ (M : Mem) (x1 : Int32) (H : Heap) (locs : List Loc) (ls : Array Slot), fX7_nudge_B147 M x1 = some (v, M') → va_P G vwCl (WW 78 (shX cA ad) ad M) H → va_S (AW 78 ad) s.heap H locs → lv_has ls 2 [(0, .ref (ad 0)), (1, .int x1)] → W p l e ({ frames := 7, cells := 0, slots := 0, locals := 209 } : Room) s m args below meth c H locs 0 0 (QI below G 78 (shX cA ad) ad .int args s v M') (F0 m 147 ls []) := by
    intro M x1 H locs ls h hP hS hl
    unfold fX7_nudge_B147 at h
    refine lv_aload_n (pc := 147) hx hb dX7_nudge_147 rfl (lv_at hl 0 rfl) ?_
    refine x_get (pc := 148) (v := .ref (ad 3)) E hP (by decide) sh7 rfl inX7 1 (by decide) q293 rfl dX7_nudge_148 ?_
    refine lv_iconst (pc := 151) (v := (2 : Int32)) hx hb dX7_nudge_151 (by decide) ?_
    obtain ⟨M13, hM13, h⟩ := bnd_ex h
    refine x_callVv (pc := 152) (st := .int (2 : Int32) :: .ref (ad 3) :: []) (As := [.int (2 : Int32)]) E hEx hl.1 hP hS (kX6_pass hap StA_3 M _ _ hM13) gX7_197 hdX6_pass rfl (StA.lt StA_3) (sh6 StA_3) rfl ⟨Nat.le_of_ble_eq_true rfl, Nat.le_of_ble_eq_true rfl⟩ ⟨rfl, rfl⟩ dX7_nudge_152 rfl (Nat.le_of_ble_eq_true rfl) (fun H locs hP hS => ?_)
    refine lv_iload_n (pc := 155) hx hb dX7_nudge_155 rfl (lv_at hl 1 rfl) ?_
    refine x_callSi (pc := 156) (st := .int x1 :: []) (As := [.int x1]) E hEx hl.1 hP hS (kX7_toldStep hap  M13 _ _ rfl) gX7_255 hsX7_toldStep rfl ⟨Nat.le_of_ble_eq_true rfl, Nat.le_of_ble_eq_true rfl⟩ ⟨rfl, rfl⟩ dX7_nudge_156 rfl (Nat.le_of_ble_eq_true rfl) (fun H locs hP hS n14 => ?_)
    obtain ⟨rfl, rfl⟩ := som2 h
    exact x_iret E hP hS rfl dX7_nudge_159
  unfold fX7_nudge at h
  refine lv_aload_n (pc := 0) hx hb dX7_nudge_0 rfl (lv_at hl 0 rfl) ?_
  refine x_get (pc := 1) (v := .ref (ad 3)) E hP (by decide) sh7 rfl inX7 1 (by decide) q293 rfl dX7_nudge_1 ?_
  refine x_get (pc := 4) (v := .ref (ad 19)) E hP (StA.lt StA_3) (sh6 StA_3) rfl inX6 2 (by decide) q258 rfl dX7_nudge_4 ?_
  refine x_get (pc := 7) (v := .int (bz (M 19 0))) E hP (GaA.lt GaA_19) (sh1 GaA_19) rfl inX1 0 (by decide) q184 rfl dX7_nudge_7 ?_
  refine lv_if_ne (pc := 10) (tgt := 16) hx hb dX7_nudge_10 (by decide) (fun c1 => ?_) (fun c1 => ?_)
  · have h := (if_neg c1).symm.trans h
    refine lv_aload_n (pc := 16) hx hb dX7_nudge_16 rfl (lv_at hl 0 rfl) ?_
    refine x_get (pc := 17) (v := .ref (ad 3)) E hP (by decide) sh7 rfl inX7 1 (by decide) q293 rfl dX7_nudge_17 ?_
    refine x_get (pc := 20) (v := .ref (ad 19)) E hP (StA.lt StA_3) (sh6 StA_3) rfl inX6 2 (by decide) q258 rfl dX7_nudge_20 ?_
    refine x_get (pc := 23) (v := .int (M 19 4)) E hP (GaA.lt GaA_19) (sh1 GaA_19) rfl inX1 4 (by decide) q200 rfl dX7_nudge_23 ?_
    refine lv_aload_n (pc := 26) hx hb dX7_nudge_26 rfl (lv_at hl 0 rfl) ?_
    refine x_get (pc := 27) (v := .ref (ad 3)) E hP (by decide) sh7 rfl inX7 1 (by decide) q293 rfl dX7_nudge_27 ?_
    refine x_get (pc := 30) (v := .int (M 3 8)) E hP (StA.lt StA_3) (sh6 StA_3) rfl inX6 8 (by decide) q270 rfl dX7_nudge_30 ?_
    refine lv_icmp_lt (pc := 33) (tgt := 39) hx hb dX7_nudge_33 (by decide) (fun c2 => ?_) (fun c2 => ?_)
    · have h := (if_pos c2).symm.trans h
      refine lv_aload_n (pc := 39) hx hb dX7_nudge_39 rfl (lv_at hl 0 rfl) ?_
      refine x_get (pc := 40) (v := .ref (ad 3)) E hP (by decide) sh7 rfl inX7 1 (by decide) q293 rfl dX7_nudge_40 ?_
      refine x_get (pc := 43) (v := .ref (ad 4)) E hP (StA.lt StA_3) (sh6 StA_3) rfl inX6 0 (by decide) q254 rfl dX7_nudge_43 ?_
      refine lv_aload_n (pc := 46) hx hb dX7_nudge_46 rfl (lv_at hl 0 rfl) ?_
      refine x_get (pc := 47) (v := .ref (ad 3)) E hP (by decide) sh7 rfl inX7 1 (by decide) q293 rfl dX7_nudge_47 ?_
      refine x_get (pc := 50) (v := .ref (ad 4)) E hP (StA.lt StA_3) (sh6 StA_3) rfl inX6 0 (by decide) q254 rfl dX7_nudge_50 ?_
      refine x_get (pc := 53) (v := .int (M 4 14)) E hP (RoA.lt RoA_4) (sh5 RoA_4) rfl inX5 14 (by decide) q119 rfl dX7_nudge_53 ?_
      obtain ⟨y3, hy3, h⟩ := bnd_ex h
      refine x_callVi (pc := 56) (st := .int (M 4 14) :: .ref (ad 4) :: []) (As := [.int (M 4 14)]) E hEx hl.1 hP hS (kX5_stepFor hap RoA_4 M _ _ hy3) gX7_250 hdX5_stepFor rfl (RoA.lt RoA_4) (sh5 RoA_4) rfl ⟨Nat.le_of_ble_eq_true rfl, Nat.le_of_ble_eq_true rfl⟩ ⟨rfl, rfl⟩ dX7_nudge_56 rfl (Nat.le_of_ble_eq_true rfl) (fun H locs hP hS n4 => ?_)
      refine lv_istore_n (pc := 59) (lv' := [(1, .int y3), (0, .ref (ad 0))]) hx hb dX7_nudge_59 rfl hl (by decide) rfl (fun ls hl => ?_)
      refine lv_iload_n (pc := 60) hx hb dX7_nudge_60 rfl (lv_at hl 0 rfl) ?_
      refine lv_bipush (pc := 61) (v := (-5 : Int32)) hx hb dX7_nudge_61 (by decide) ?_
      refine lv_icmp_ne (pc := 63) (tgt := 69) hx hb dX7_nudge_63 (by decide) (fun c5 => ?_) (fun c5 => ?_)
      · have h := (if_neg c5).symm.trans h
        refine lv_aload_n (pc := 69) hx hb dX7_nudge_69 rfl (lv_at hl 1 rfl) ?_
        refine x_get (pc := 70) (v := .ref (ad 3)) E hP (by decide) sh7 rfl inX7 1 (by decide) q293 rfl dX7_nudge_70 ?_
        refine lv_iconst (pc := 73) (v := (2 : Int32)) hx hb dX7_nudge_73 (by decide) ?_
        refine x_callVi (pc := 74) (st := .int (2 : Int32) :: .ref (ad 3) :: []) (As := [.int (2 : Int32)]) E hEx hl.1 hP hS (kX6_hasTimeFor hap StA_3 M _ _ rfl) gX7_182 hdX6_hasTimeFor rfl (StA.lt StA_3) (sh6 StA_3) rfl ⟨Nat.le_of_ble_eq_true rfl, Nat.le_of_ble_eq_true rfl⟩ ⟨rfl, rfl⟩ dX7_nudge_74 rfl (Nat.le_of_ble_eq_true rfl) (fun H locs hP hS n6 => ?_)
        refine lv_if_ne (pc := 77) (tgt := 88) hx hb dX7_nudge_77 (by decide) (fun c7 => ?_) (fun c7 => ?_)
        · have h := (if_neg c7).symm.trans h
          refine lv_aload_n (pc := 88) hx hb dX7_nudge_88 rfl (lv_at hl 1 rfl) ?_
          refine x_get (pc := 89) (v := .ref (ad 3)) E hP (by decide) sh7 rfl inX7 1 (by decide) q293 rfl dX7_nudge_89 ?_
          refine x_ldcs (pc := 92) (j := 11) E (by decide) rfl rfl dX7_nudge_92 ?_
          refine lv_iload_n (pc := 94) hx hb dX7_nudge_94 rfl (lv_at hl 0 rfl) ?_
          refine x_callSi (pc := 95) (st := .int y3 :: .ref (sK 11) :: .ref (ad 3) :: []) (As := [.int y3]) E hEx hl.1 hP hS (kX7_toldStep hap  M _ _ rfl) gX7_255 hsX7_toldStep rfl ⟨Nat.le_of_ble_eq_true rfl, Nat.le_of_ble_eq_true rfl⟩ ⟨rfl, rfl⟩ dX7_nudge_95 rfl (Nat.le_of_ble_eq_true rfl) (fun H locs hP hS n8 => ?_)
          refine lv_iconst (pc := 98) (v := (-1 : Int32)) hx hb dX7_nudge_98 (by decide) ?_
          obtain ⟨M9, hM9, h⟩ := bnd_ex h
          refine x_callVv (pc := 99) (st := .int (-1 : Int32) :: .int (fX7_toldStep M y3) :: .ref (sK 11) :: .ref (ad 3) :: []) (As := [.ref (sK 11), .int (fX7_toldStep M y3), .int (-1 : Int32)]) E hEx hl.1 hP hS (kX6_note hap StA_3 (by decide) M _ _ _ hM9) gX7_190 hdX6_note rfl (StA.lt StA_3) (sh6 StA_3) rfl ⟨Nat.le_of_ble_eq_true rfl, Nat.le_of_ble_eq_true rfl⟩ ⟨rfl, rfl⟩ dX7_nudge_99 rfl (Nat.le_of_ble_eq_true rfl) (fun H locs hP hS => ?_)
          refine lv_aload_n (pc := 102) hx hb dX7_nudge_102 rfl (lv_at hl 1 rfl) ?_
          refine x_get (pc := 103) (v := .ref (ad 3)) E hP (by decide) sh7 rfl inX7 1 (by decide) q293 rfl dX7_nudge_103 ?_
          refine x_get (pc := 106) (v := .ref (ad 19)) E hP (StA.lt StA_3) (sh6 StA_3) rfl inX6 2 (by decide) q258 rfl dX7_nudge_106 ?_
          refine lv_dup (pc := 109) hx hb dX7_nudge_109 rfl ?_
          refine x_get (pc := 110) (v := .int (M9 19 4)) E hP (GaA.lt GaA_19) (sh1 GaA_19) rfl inX1 4 (by decide) q200 rfl dX7_nudge_110 ?_
          refine lv_iconst (pc := 113) (v := (1 : Int32)) hx hb dX7_nudge_113 (by decide) ?_
          refine lv_iadd (pc := 114) hx hb dX7_nudge_114 ?_
          obtain ⟨M10, hM10, h⟩ := thn_ex h
          refine x_put (pc := 115) (v := ((M9 19 4) + (1 : Int32))) E hP hS (GaA.lt GaA_19) (sh1 GaA_19) tyX1 tyX1_ok nmX1 rfl inX1 4 (by decide) q200 rfl rfl rfl (Nat.le_of_ble_eq_true rfl) rfl dX7_nudge_115 (fun H locs hP hS => ?_)
          rw [hM10] at hP
          refine lv_iload_n (pc := 118) hx hb dX7_nudge_118 rfl (lv_at hl 0 rfl) ?_
          refine x_callSi (pc := 119) (st := .int y3 :: []) (As := [.int y3]) E hEx hl.1 hP hS (kX7_stepKind hap  M10 _ _ rfl) gX7_258 hsX7_stepKind rfl ⟨Nat.le_of_ble_eq_true rfl, Nat.le_of_ble_eq_true rfl⟩ ⟨rfl, rfl⟩ dX7_nudge_119 rfl (Nat.le_of_ble_eq_true rfl) (fun H locs hP hS n11 => ?_)
          refine lv_sipush (pc := 122) (v := (500 : Int32)) hx hb dX7_nudge_122 (by decide) ?_
          refine lv_icmp_ne (pc := 125) (tgt := 147) hx hb dX7_nudge_125 (by decide) (fun c12 => ?_) (fun c12 => ?_)
          · have h := (if_neg c12).symm.trans h
            exact hB147 M10 y3 _ _ _ h hP hS (lv_sub hl [1, 0] rfl)
          · have h := (if_pos c12).symm.trans h
            refine lv_aload_n (pc := 128) hx hb dX7_nudge_128 rfl (lv_at hl 1 rfl) ?_
            refine x_get (pc := 129) (v := .ref (ad 3)) E hP (by decide) sh7 rfl inX7 1 (by decide) q293 rfl dX7_nudge_129 ?_
            refine x_get (pc := 132) (v := .ref (ad 4)) E hP (StA.lt StA_3) (sh6 StA_3) rfl inX6 0 (by decide) q254 rfl dX7_nudge_132 ?_
            refine lv_iload_n (pc := 135) hx hb dX7_nudge_135 rfl (lv_at hl 0 rfl) ?_
            refine lv_sipush (pc := 136) (v := (1000 : Int32)) hx hb dX7_nudge_136 (by decide) ?_
            refine lv_idiv (pc := 139) hx hb dX7_nudge_139 (by decide) ?_
            refine lv_iload_n (pc := 140) hx hb dX7_nudge_140 rfl (lv_at hl 0 rfl) ?_
            refine lv_bipush (pc := 141) (v := (100 : Int32)) hx hb dX7_nudge_141 (by decide) ?_
            refine x_irem (pc := 143) hx hb dX7_nudge_143 (by decide) ?_
            obtain ⟨M15, hM15, h⟩ := bnd_ex h
            refine x_callVv (pc := 144) (st := .int (irm y3 (100 : Int32)) :: .int (y3 / (1000 : Int32)) :: .ref (ad 4) :: []) (As := [.int (y3 / (1000 : Int32)), .int (irm y3 (100 : Int32))]) E hEx hl.1 hP hS (kX5_learnDigit hap RoA_4 M10 _ _ _ hM15) gX7_261 hdX5_learnDigit rfl (RoA.lt RoA_4) (sh5 RoA_4) rfl ⟨Nat.le_of_ble_eq_true rfl, Nat.le_of_ble_eq_true rfl⟩ ⟨rfl, rfl⟩ dX7_nudge_144 rfl (Nat.le_of_ble_eq_true rfl) (fun H locs hP hS => ?_)
            exact hB147 M15 y3 _ _ _ h hP hS (lv_sub hl [1, 0] rfl)
        · have h := (if_pos c7).symm.trans h
          refine lv_aload_n (pc := 80) hx hb dX7_nudge_80 rfl (lv_at hl 1 rfl) ?_
          refine x_get (pc := 81) (v := .ref (ad 3)) E hP (by decide) sh7 rfl inX7 1 (by decide) q293 rfl dX7_nudge_81 ?_
          obtain ⟨q16, hq16, h⟩ := bnd_ex h
          refine x_callVi (pc := 84) (st := .ref (ad 3) :: []) (As := []) E hEx hl.1 hP hS (kX6_runOutOfTime hap StA_3 M  _ _ hq16) gX7_185 hdX6_runOutOfTime rfl (StA.lt StA_3) (sh6 StA_3) rfl ⟨Nat.le_of_ble_eq_true rfl, Nat.le_of_ble_eq_true rfl⟩ ⟨rfl, rfl⟩ dX7_nudge_84 rfl (Nat.le_of_ble_eq_true rfl) (fun H locs hP hS n17 => ?_)
          obtain ⟨rfl, rfl⟩ := som2 h
          exact x_iret E hP hS rfl dX7_nudge_87
      · have h := (if_pos c5).symm.trans h
        refine lv_bipush (pc := 66) (v := (-5 : Int32)) hx hb dX7_nudge_66 (by decide) ?_
        obtain ⟨rfl, rfl⟩ := som2 h
        exact x_iret E hP hS rfl dX7_nudge_68
    · have h := (if_neg c2).symm.trans h
      refine lv_bipush (pc := 36) (v := (-3 : Int32)) hx hb dX7_nudge_36 (by decide) ?_
      obtain ⟨rfl, rfl⟩ := som2 h
      exact x_iret E hP hS rfl dX7_nudge_38
  · have h := (if_pos c1).symm.trans h
    refine lv_bipush (pc := 13) (v := (-4 : Int32)) hx hb dX7_nudge_13 (by decide) ?_
    obtain ⟨rfl, rfl⟩ := som2 h
    exact x_iret E hP hS rfl dX7_nudge_15
set_option maxRecDepth 100000 in
set_option maxHeartbeats 4000000 in
theorem kX7_giveUp (hap : Apart 78 ad)   (M : Mem)  (v : Int32) (M' : Mem) (h : fX7_giveUp M = some (v, M')) : XI G ad sK sV cA cZ cC yX7_giveUp cX7_giveUp 2 .int ({ frames := 7, cells := 0, slots := 0, locals := 209 } : Room) [.ref (ad 0)] M v M' := by
  refine CI.mk (own := RX7) (ls0 := [(0, .ref (ad 0))]) (by decide +kernel) rfl hap (Nat.le_of_ble_eq_true rfl) rfl ?_
  intro p l e s m args below meth c ls E hP hl
  have hx := E.1
  have hb := E.2.1
  have hown := E.2.2.2.2.2.1
  have hts := E.2.2.2.2.2.2.1
  have hNe := E.2.2.2.2.2.2.2.2.1.1
  have hEx := ExX.ok ad sK sV
  have hS : va_S (AW 78 ad) s.heap s.heap [] := va_S.rf
  unfold fX7_giveUp at h
  refine lv_aload_n (pc := 0) hx hb dX7_giveUp_0 rfl (lv_at hl 0 rfl) ?_
  refine x_get (pc := 1) (v := .ref (ad 3)) E hP (by decide) sh7 rfl inX7 1 (by decide) q293 rfl dX7_giveUp_1 ?_
  refine x_get (pc := 4) (v := .ref (ad 19)) E hP (StA.lt StA_3) (sh6 StA_3) rfl inX6 2 (by decide) q258 rfl dX7_giveUp_4 ?_
  refine x_get (pc := 7) (v := .int (bz (M 19 0))) E hP (GaA.lt GaA_19) (sh1 GaA_19) rfl inX1 0 (by decide) q184 rfl dX7_giveUp_7 ?_
  refine lv_if_ne (pc := 10) (tgt := 16) hx hb dX7_giveUp_10 (by decide) (fun c1 => ?_) (fun c1 => ?_)
  · have h := (if_neg c1).symm.trans h
    refine lv_aload_n (pc := 16) hx hb dX7_giveUp_16 rfl (lv_at hl 0 rfl) ?_
    refine x_get (pc := 17) (v := .ref (ad 3)) E hP (by decide) sh7 rfl inX7 1 (by decide) q293 rfl dX7_giveUp_17 ?_
    refine x_callVi (pc := 20) (st := .ref (ad 3) :: []) (As := []) E hEx hl.1 hP hS (kX6_gameMinute hap StA_3 M  _ rfl) gX7_264 hdX6_gameMinute rfl (StA.lt StA_3) (sh6 StA_3) rfl ⟨Nat.le_of_ble_eq_true rfl, Nat.le_of_ble_eq_true rfl⟩ ⟨rfl, rfl⟩ dX7_giveUp_20 rfl (Nat.le_of_ble_eq_true rfl) (fun H locs hP hS n2 => ?_)
    refine lv_istore_n (pc := 23) (lv' := [(1, .int (fX6_gameMinute 3 M)), (0, .ref (ad 0))]) hx hb dX7_giveUp_23 rfl hl (by decide) rfl (fun ls hl => ?_)
    refine lv_aload_n (pc := 24) hx hb dX7_giveUp_24 rfl (lv_at hl 1 rfl) ?_
    refine x_get (pc := 25) (v := .ref (ad 3)) E hP (by decide) sh7 rfl inX7 1 (by decide) q293 rfl dX7_giveUp_25 ?_
    refine x_ldcws (pc := 28) (j := 12) E (by decide) rfl rfl dX7_giveUp_28 ?_
    refine lv_iconst (pc := 31) (v := (-1 : Int32)) hx hb dX7_giveUp_31 (by decide) ?_
    refine lv_iconst (pc := 32) (v := (-1 : Int32)) hx hb dX7_giveUp_32 (by decide) ?_
    obtain ⟨M3, hM3, h⟩ := bnd_ex h
    refine x_callVv (pc := 33) (st := .int (-1 : Int32) :: .int (-1 : Int32) :: .ref (sK 12) :: .ref (ad 3) :: []) (As := [.ref (sK 12), .int (-1 : Int32), .int (-1 : Int32)]) E hEx hl.1 hP hS (kX6_note hap StA_3 (by decide) M _ _ _ hM3) gX7_190 hdX6_note rfl (StA.lt StA_3) (sh6 StA_3) rfl ⟨Nat.le_of_ble_eq_true rfl, Nat.le_of_ble_eq_true rfl⟩ ⟨rfl, rfl⟩ dX7_giveUp_33 rfl (Nat.le_of_ble_eq_true rfl) (fun H locs hP hS => ?_)
    refine lv_aload_n (pc := 36) hx hb dX7_giveUp_36 rfl (lv_at hl 1 rfl) ?_
    refine x_get (pc := 37) (v := .ref (ad 3)) E hP (by decide) sh7 rfl inX7 1 (by decide) q293 rfl dX7_giveUp_37 ?_
    refine lv_iconst (pc := 40) (v := (0 : Int32)) hx hb dX7_giveUp_40 (by decide) ?_
    obtain ⟨M4, hM4, h⟩ := bnd_ex h
    refine x_callVv (pc := 41) (st := .int (0 : Int32) :: .ref (ad 3) :: []) (As := [.int (0 : Int32)]) E hEx hl.1 hP hS (kX6_endGame hap StA_3 M3 _ _ hM4) gX7_218 hdX6_endGame rfl (StA.lt StA_3) (sh6 StA_3) rfl ⟨Nat.le_of_ble_eq_true rfl, Nat.le_of_ble_eq_true rfl⟩ ⟨rfl, rfl⟩ dX7_giveUp_41 rfl (Nat.le_of_ble_eq_true rfl) (fun H locs hP hS => ?_)
    refine lv_iload_n (pc := 44) hx hb dX7_giveUp_44 rfl (lv_at hl 0 rfl) ?_
    obtain ⟨rfl, rfl⟩ := som2 h
    exact x_iret E hP hS rfl dX7_giveUp_45
  · have h := (if_pos c1).symm.trans h
    refine lv_bipush (pc := 13) (v := (-4 : Int32)) hx hb dX7_giveUp_13 (by decide) ?_
    obtain ⟨rfl, rfl⟩ := som2 h
    exact x_iret E hP hS rfl dX7_giveUp_15
set_option maxRecDepth 100000 in
set_option maxHeartbeats 4000000 in
theorem kX7_idle (hap : Apart 78 ad)   (M : Mem) (x1 : Int32) (v : Int32) (M' : Mem) (h : fX7_idle M x1 = some (v, M')) : XI G ad sK sV cA cZ cC yX7_idle cX7_idle 2 .int ({ frames := 5, cells := 0, slots := 0, locals := 110 } : Room) [.ref (ad 0), .int x1] M v M' := by
  refine CI.mk (own := RX7) (ls0 := [(0, .ref (ad 0)), (1, .int x1)]) (by decide +kernel) rfl hap (Nat.le_of_ble_eq_true rfl) rfl ?_
  intro p l e s m args below meth c ls E hP hl
  have hx := E.1
  have hb := E.2.1
  have hown := E.2.2.2.2.2.1
  have hts := E.2.2.2.2.2.2.1
  have hNe := E.2.2.2.2.2.2.2.2.1.1
  have hEx := ExX.ok ad sK sV
  have hS : va_S (AW 78 ad) s.heap s.heap [] := va_S.rf
  unfold fX7_idle at h
  refine lv_iload_n (pc := 0) hx hb dX7_idle_0 rfl (lv_at hl 1 rfl) ?_
  refine lv_iconst (pc := 1) (v := (1 : Int32)) hx hb dX7_idle_1 (by decide) ?_
  refine lv_icmp_lt (pc := 2) (tgt := 12) hx hb dX7_idle_2 (by decide) (fun c1 => ?_) (fun c1 => ?_)
  · have h := (if_pos c1).symm.trans h
    refine lv_bipush (pc := 12) (v := (-2 : Int32)) hx hb dX7_idle_12 (by decide) ?_
    obtain ⟨rfl, rfl⟩ := som2 h
    exact x_iret E hP hS rfl dX7_idle_14
  · have h := (if_neg c1).symm.trans h
    refine lv_iload_n (pc := 5) hx hb dX7_idle_5 rfl (lv_at hl 1 rfl) ?_
    refine lv_sipush (pc := 6) (v := (1000 : Int32)) hx hb dX7_idle_6 (by decide) ?_
    refine lv_icmp_le (pc := 9) (tgt := 15) hx hb dX7_idle_9 (by decide) (fun c2 => ?_) (fun c2 => ?_)
    · have h := (if_pos c2).symm.trans h
      refine lv_aload_n (pc := 15) hx hb dX7_idle_15 rfl (lv_at hl 0 rfl) ?_
      refine x_get (pc := 16) (v := .ref (ad 3)) E hP (by decide) sh7 rfl inX7 1 (by decide) q293 rfl dX7_idle_16 ?_
      refine x_get (pc := 19) (v := .ref (ad 19)) E hP (StA.lt StA_3) (sh6 StA_3) rfl inX6 2 (by decide) q258 rfl dX7_idle_19 ?_
      refine x_get (pc := 22) (v := .int (bz (M 19 0))) E hP (GaA.lt GaA_19) (sh1 GaA_19) rfl inX1 0 (by decide) q184 rfl dX7_idle_22 ?_
      refine lv_if_eq (pc := 25) (tgt := 31) hx hb dX7_idle_25 (by decide) (fun c3 => ?_) (fun c3 => ?_)
      · have h := (if_pos c3).symm.trans h
        refine lv_aload_n (pc := 31) hx hb dX7_idle_31 rfl (lv_at hl 0 rfl) ?_
        refine x_get (pc := 32) (v := .ref (ad 3)) E hP (by decide) sh7 rfl inX7 1 (by decide) q293 rfl dX7_idle_32 ?_
        refine lv_iload_n (pc := 35) hx hb dX7_idle_35 rfl (lv_at hl 1 rfl) ?_
        obtain ⟨M4, hM4, h⟩ := bnd_ex h
        refine x_callVv (pc := 36) (st := .int x1 :: .ref (ad 3) :: []) (As := [.int x1]) E hEx hl.1 hP hS (kX6_pass hap StA_3 M _ _ hM4) gX7_197 hdX6_pass rfl (StA.lt StA_3) (sh6 StA_3) rfl ⟨Nat.le_of_ble_eq_true rfl, Nat.le_of_ble_eq_true rfl⟩ ⟨rfl, rfl⟩ dX7_idle_36 rfl (Nat.le_of_ble_eq_true rfl) (fun H locs hP hS => ?_)
        refine lv_aload_n (pc := 39) hx hb dX7_idle_39 rfl (lv_at hl 0 rfl) ?_
        refine x_get (pc := 40) (v := .ref (ad 3)) E hP (by decide) sh7 rfl inX7 1 (by decide) q293 rfl dX7_idle_40 ?_
        refine x_get (pc := 43) (v := .int (M4 3 5)) E hP (StA.lt StA_3) (sh6 StA_3) rfl inX6 5 (by decide) q264 rfl dX7_idle_43 ?_
        obtain ⟨rfl, rfl⟩ := som2 h
        exact x_iret E hP hS rfl dX7_idle_46
      · have h := (if_neg c3).symm.trans h
        refine lv_bipush (pc := 28) (v := (-4 : Int32)) hx hb dX7_idle_28 (by decide) ?_
        obtain ⟨rfl, rfl⟩ := som2 h
        exact x_iret E hP hS rfl dX7_idle_30
    · have h := (if_neg c2).symm.trans h
      refine lv_bipush (pc := 12) (v := (-2 : Int32)) hx hb dX7_idle_12 (by decide) ?_
      obtain ⟨rfl, rfl⟩ := som2 h
      exact x_iret E hP hS rfl dX7_idle_14
set_option maxRecDepth 100000 in
set_option maxHeartbeats 4000000 in
theorem kX7_putHome (hap : Apart 78 ad)   (M : Mem) (x1 : Int32) (v : Int32) (M' : Mem) (h : fX7_putHome M x1 = some (v, M')) : XI G ad sK sV cA cZ cC yX7_putHome cX7_putHome 4 .int ({ frames := 5, cells := 0, slots := 0, locals := 110 } : Room) [.ref (ad 0), .int x1] M v M' := by
  refine CI.mk (own := RX7) (ls0 := [(0, .ref (ad 0)), (1, .int x1)]) (by decide +kernel) rfl hap (Nat.le_of_ble_eq_true rfl) rfl ?_
  intro p l e s m args below meth c ls E hP hl
  have hx := E.1
  have hb := E.2.1
  have hown := E.2.2.2.2.2.1
  have hts := E.2.2.2.2.2.2.1
  have hNe := E.2.2.2.2.2.2.2.2.1.1
  have hEx := ExX.ok ad sK sV
  have hS : va_S (AW 78 ad) s.heap s.heap [] := va_S.rf
  unfold fX7_putHome at h
  refine lv_aload_n (pc := 0) hx hb dX7_putHome_0 rfl (lv_at hl 0 rfl) ?_
  refine x_get (pc := 1) (v := .ref (ad 3)) E hP (by decide) sh7 rfl inX7 1 (by decide) q293 rfl dX7_putHome_1 ?_
  refine x_get (pc := 4) (v := .ref (ad 4)) E hP (StA.lt StA_3) (sh6 StA_3) rfl inX6 0 (by decide) q254 rfl dX7_putHome_4 ?_
  refine lv_astore_n (pc := 7) (lv' := [(2, .ref (ad 4)), (0, .ref (ad 0)), (1, .int x1)]) hx hb dX7_putHome_7 rfl hl (by decide) rfl (fun ls hl => ?_)
  refine lv_aload_n (pc := 8) hx hb dX7_putHome_8 rfl (lv_at hl 0 rfl) ?_
  refine lv_iload_n (pc := 9) hx hb dX7_putHome_9 rfl (lv_at hl 2 rfl) ?_
  refine x_callVi (pc := 10) (st := .int x1 :: .ref (ad 4) :: []) (As := [.int x1]) E hEx hl.1 hP hS (kX5_hasProp hap RoA_4 M _ _ rfl) gX7_71 hdX5_hasProp rfl (RoA.lt RoA_4) (sh5 RoA_4) rfl ⟨Nat.le_of_ble_eq_true rfl, Nat.le_of_ble_eq_true rfl⟩ ⟨rfl, rfl⟩ dX7_putHome_10 rfl (Nat.le_of_ble_eq_true rfl) (fun H locs hP hS n1 => ?_)
  refine lv_if_ne (pc := 13) (tgt := 18) hx hb dX7_putHome_13 (by decide) (fun c2 => ?_) (fun c2 => ?_)
  · have h := (if_neg c2).symm.trans h
    refine lv_aload_n (pc := 18) hx hb dX7_putHome_18 rfl (lv_at hl 1 rfl) ?_
    refine x_get (pc := 19) (v := .ref (ad 3)) E hP (by decide) sh7 rfl inX7 1 (by decide) q293 rfl dX7_putHome_19 ?_
    refine x_get (pc := 22) (v := .ref (ad 19)) E hP (StA.lt StA_3) (sh6 StA_3) rfl inX6 2 (by decide) q258 rfl dX7_putHome_22 ?_
    refine x_get (pc := 25) (v := .int (bz (M 19 0))) E hP (GaA.lt GaA_19) (sh1 GaA_19) rfl inX1 0 (by decide) q184 rfl dX7_putHome_25 ?_
    refine lv_if_eq (pc := 28) (tgt := 34) hx hb dX7_putHome_28 (by decide) (fun c3 => ?_) (fun c3 => ?_)
    · have h := (if_pos c3).symm.trans h
      refine lv_aload_n (pc := 34) hx hb dX7_putHome_34 rfl (lv_at hl 0 rfl) ?_
      refine x_get (pc := 35) (v := .ref (ad 11)) E hP (RoA.lt RoA_4) (sh5 RoA_4) rfl inX5 8 (by decide) q105 rfl dX7_putHome_35 ?_
      refine lv_iload_n (pc := 38) hx hb dX7_putHome_38 rfl (lv_at hl 2 rfl) ?_
      refine x_callSi (pc := 39) (st := .int x1 :: .ref (ad 11) :: []) (As := [.ref (ad 11), .int x1]) E hEx hl.1 hP hS (c_at hap M (lt5a7 RoA_4) (sh5a7 RoA_4) (by decide) _ _ rfl) gX7_136 hsX7_at rfl ⟨Nat.le_of_ble_eq_true rfl, Nat.le_of_ble_eq_true rfl⟩ ⟨rfl, rfl⟩ dX7_putHome_39 rfl (Nat.le_of_ble_eq_true rfl) (fun H locs hP hS n4 => ?_)
      refine lv_istore_n (pc := 42) (lv' := [(3, .int (atX M 11 24 x1)), (2, .ref (ad 4)), (0, .ref (ad 0)), (1, .int x1)]) hx hb dX7_putHome_42 rfl hl (by decide) rfl (fun ls hl => ?_)
      refine lv_iload_n (pc := 43) hx hb dX7_putHome_43 rfl (lv_at hl 0 rfl) ?_
      refine lv_aload_n (pc := 44) hx hb dX7_putHome_44 rfl (lv_at hl 1 rfl) ?_
      refine x_get (pc := 45) (v := .ref (ad 10)) E hP (RoA.lt RoA_4) (sh5 RoA_4) rfl inX5 7 (by decide) q103 rfl dX7_putHome_45 ?_
      refine lv_iload_n (pc := 48) hx hb dX7_putHome_48 rfl (lv_at hl 3 rfl) ?_
      refine x_callSi (pc := 49) (st := .int x1 :: .ref (ad 10) :: .int (atX M 11 24 x1) :: []) (As := [.ref (ad 10), .int x1]) E hEx hl.1 hP hS (c_at hap M (lt5a6 RoA_4) (sh5a6 RoA_4) (by decide) _ _ rfl) gX7_136 hsX7_at rfl ⟨Nat.le_of_ble_eq_true rfl, Nat.le_of_ble_eq_true rfl⟩ ⟨rfl, rfl⟩ dX7_putHome_49 rfl (Nat.le_of_ble_eq_true rfl) (fun H locs hP hS n5 => ?_)
      refine lv_icmp_ne (pc := 52) (tgt := 58) hx hb dX7_putHome_52 (by decide) (fun c6 => ?_) (fun c6 => ?_)
      · have h := (if_neg c6).symm.trans h
        refine lv_aload_n (pc := 58) hx hb dX7_putHome_58 rfl (lv_at hl 1 rfl) ?_
        refine x_get (pc := 59) (v := .ref (ad 11)) E hP (RoA.lt RoA_4) (sh5 RoA_4) rfl inX5 8 (by decide) q105 rfl dX7_putHome_59 ?_
        refine lv_iload_n (pc := 62) hx hb dX7_putHome_62 rfl (lv_at hl 3 rfl) ?_
        refine lv_aload_n (pc := 63) hx hb dX7_putHome_63 rfl (lv_at hl 1 rfl) ?_
        refine x_get (pc := 64) (v := .ref (ad 10)) E hP (RoA.lt RoA_4) (sh5 RoA_4) rfl inX5 7 (by decide) q103 rfl dX7_putHome_64 ?_
        refine lv_iload_n (pc := 67) hx hb dX7_putHome_67 rfl (lv_at hl 3 rfl) ?_
        refine x_callSi (pc := 68) (st := .int x1 :: .ref (ad 10) :: .int x1 :: .ref (ad 11) :: []) (As := [.ref (ad 10), .int x1]) E hEx hl.1 hP hS (c_at hap M (lt5a6 RoA_4) (sh5a6 RoA_4) (by decide) _ _ rfl) gX7_136 hsX7_at rfl ⟨Nat.le_of_ble_eq_true rfl, Nat.le_of_ble_eq_true rfl⟩ ⟨rfl, rfl⟩ dX7_putHome_68 rfl (Nat.le_of_ble_eq_true rfl) (fun H locs hP hS n7 => ?_)
        obtain ⟨M8, hM8, h⟩ := thn_ex h
        refine x_callSv (pc := 71) (st := .int (atX M 10 24 x1) :: .int x1 :: .ref (ad 11) :: []) (As := [.ref (ad 11), .int x1, .int (atX M 10 24 x1)]) E hEx hl.1 hP hS (c_put hap M (lt5a7 RoA_4) (sh5a7 RoA_4) (by decide) _ _ _ hM8) gX7_47 hsX7_put rfl ⟨Nat.le_of_ble_eq_true rfl, Nat.le_of_ble_eq_true rfl⟩ ⟨rfl, rfl⟩ dX7_putHome_71 rfl (Nat.le_of_ble_eq_true rfl) (fun H locs hP hS => ?_)
        refine lv_aload_n (pc := 74) hx hb dX7_putHome_74 rfl (lv_at hl 2 rfl) ?_
        refine x_get (pc := 75) (v := .ref (ad 3)) E hP (by decide) sh7 rfl inX7 1 (by decide) q293 rfl dX7_putHome_75 ?_
        refine lv_iconst (pc := 78) (v := (1 : Int32)) hx hb dX7_putHome_78 (by decide) ?_
        obtain ⟨M9, hM9, h⟩ := bnd_ex h
        refine x_callVv (pc := 79) (st := .int (1 : Int32) :: .ref (ad 3) :: []) (As := [.int (1 : Int32)]) E hEx hl.1 hP hS (kX6_pass hap StA_3 M8 _ _ hM9) gX7_197 hdX6_pass rfl (StA.lt StA_3) (sh6 StA_3) rfl ⟨Nat.le_of_ble_eq_true rfl, Nat.le_of_ble_eq_true rfl⟩ ⟨rfl, rfl⟩ dX7_putHome_79 rfl (Nat.le_of_ble_eq_true rfl) (fun H locs hP hS => ?_)
        refine lv_iload_n (pc := 82) hx hb dX7_putHome_82 rfl (lv_at hl 0 rfl) ?_
        obtain ⟨rfl, rfl⟩ := som2 h
        exact x_iret E hP hS rfl dX7_putHome_83
      · have h := (if_pos c6).symm.trans h
        refine lv_bipush (pc := 55) (v := (-5 : Int32)) hx hb dX7_putHome_55 (by decide) ?_
        obtain ⟨rfl, rfl⟩ := som2 h
        exact x_iret E hP hS rfl dX7_putHome_57
    · have h := (if_neg c3).symm.trans h
      refine lv_bipush (pc := 31) (v := (-4 : Int32)) hx hb dX7_putHome_31 (by decide) ?_
      obtain ⟨rfl, rfl⟩ := som2 h
      exact x_iret E hP hS rfl dX7_putHome_33
  · have h := (if_pos c2).symm.trans h
    refine lv_iconst (pc := 16) (v := (-1 : Int32)) hx hb dX7_putHome_16 (by decide) ?_
    obtain ⟨rfl, rfl⟩ := som2 h
    exact x_iret E hP hS rfl dX7_putHome_17
end
