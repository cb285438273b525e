section
variable {G : va_G} {ad sK sV : Nat → Nat} {cA cZ cC : ClassId}
set_option maxRecDepth 100000 in
set_option maxHeartbeats 4000000 in
theorem kX8_addPaint (hap : Apart 7 ad)   (M : Mem) (x1 : Int32) (v : Int32) (M' : Mem) (h : fX8_addPaint M x1 = some (v, M')) : RI G ad cA cZ cC yX8_addPaint cX8_addPaint 2 .int ({ frames := 1, cells := 0, slots := 0, locals := 22 } : Room) [.ref (ad 0), .int x1] M v M' := by
  refine CI.mk (own := RX8) (ls0 := [(0, .ref (ad 0)), (1, .int x1)]) (by decide +kernel) rfl hap (Nat.le_of_ble_eq_true rfl) rfl ?_
  intro p l e s m args below meth c ls E hP hl
  have hx := E.1
  have hb := E.2.1
  have hown := E.2.2.2.2.2.1
  have hts := E.2.2.2.2.2.2.1
  have hEx := ExR.ok 7 ad
  have hS : va_S (AW 7 ad) s.heap s.heap [] := va_S.rf
  unfold fX8_addPaint at h
  refine lv_iload_n (pc := 0) hx hb dX8_addPaint_0 rfl (lv_at hl 1 rfl) ?_
  refine lv_iconst (pc := 1) (v := (1 : Int32)) hx hb dX8_addPaint_1 (by decide) ?_
  refine lv_sipush (pc := 2) (v := (1000 : Int32)) hx hb dX8_addPaint_2 (by decide) ?_
  refine x_callSi (pc := 5) (st := .int (1000 : Int32) :: .int (1 : Int32) :: .int x1 :: []) (As := [.int x1, .int (1 : Int32), .int (1000 : Int32)]) E hEx hl.1 hP hS (kX8_in hap  M _ _ _ _ rfl) gX8_30 hsX8_in rfl ⟨Nat.le_of_ble_eq_true rfl, Nat.le_of_ble_eq_true rfl⟩ ⟨rfl, rfl⟩ dX8_addPaint_5 rfl (Nat.le_of_ble_eq_true rfl) (fun H locs hP hS n1 => ?_)
  refine lv_if_ne (pc := 8) (tgt := 14) hx hb dX8_addPaint_8 (by decide) (fun c2 => ?_) (fun c2 => ?_)
  · have h := (if_neg c2).symm.trans h
    refine lv_aload_n (pc := 14) hx hb dX8_addPaint_14 rfl (lv_at hl 0 rfl) ?_
    refine x_get (pc := 15) (v := .ref (ad 1)) E hP (by decide) sh8 rfl inX8 0 (by decide) q972 rfl dX8_addPaint_15 ?_
    refine lv_bipush (pc := 18) (v := (8 : Int32)) hx hb dX8_addPaint_18 (by decide) ?_
    refine lv_dup2_11 (pc := 20) hx hb dX8_addPaint_20 rfl rfl ?_
    refine x_iald (pc := 21) (j := 8) E hP (by decide) sh8a1 0 rfl (vp_inl (by decide)) rfl dX8_addPaint_21 ?_
    refine lv_iload_n (pc := 22) hx hb dX8_addPaint_22 rfl (lv_at hl 1 rfl) ?_
    refine lv_iadd (pc := 23) hx hb dX8_addPaint_23 ?_
    obtain ⟨M3, hM3, h⟩ := thn_ex h
    refine x_iast (pc := 24) (j := 8) E hP hS (by decide) sh8a1 0 rfl (vp_inl (by decide)) rfl dX8_addPaint_24 (fun H locs hP hS => ?_)
    rw [hM3] at hP
    refine lv_aload_n (pc := 25) hx hb dX8_addPaint_25 rfl (lv_at hl 0 rfl) ?_
    refine x_get (pc := 26) (v := .ref (ad 1)) E hP (by decide) sh8 rfl inX8 0 (by decide) q972 rfl dX8_addPaint_26 ?_
    refine lv_bipush (pc := 29) (v := (8 : Int32)) hx hb dX8_addPaint_29 (by decide) ?_
    refine x_iald (pc := 31) (j := 8) E hP (by decide) sh8a1 0 rfl (vp_inl (by decide)) rfl dX8_addPaint_31 ?_
    obtain ⟨rfl, rfl⟩ := som2 h
    exact x_iret E hP hS rfl dX8_addPaint_32
  · have h := (if_pos c2).symm.trans h
    refine lv_bipush (pc := 11) (v := (-2 : Int32)) hx hb dX8_addPaint_11 (by decide) ?_
    obtain ⟨rfl, rfl⟩ := som2 h
    exact x_iret E hP hS rfl dX8_addPaint_13
set_option maxRecDepth 100000 in
set_option maxHeartbeats 4000000 in
theorem kX8_book (hap : Apart 7 ad)   (M : Mem) (x1 x2 : Int32) (v : Int32) (M' : Mem) (h : fX8_book M x1 x2 = some (v, M')) : RI G ad cA cZ cC yX8_book cX8_book 4 .int ({ frames := 1, cells := 0, slots := 0, locals := 22 } : Room) [.ref (ad 0), .int x1, .int x2] M v M' := by
  refine CI.mk (own := RX8) (ls0 := [(0, .ref (ad 0)), (1, .int x1), (2, .int x2)]) (by decide +kernel) rfl hap (Nat.le_of_ble_eq_true rfl) rfl ?_
  intro p l e s m args below meth c ls E hP hl
  have hx := E.1
  have hb := E.2.1
  have hown := E.2.2.2.2.2.1
  have hts := E.2.2.2.2.2.2.1
  have hEx := ExR.ok 7 ad
  have hS : va_S (AW 7 ad) s.heap s.heap [] := va_S.rf
  have hB53 : ∀ (M : Mem) (x1 x2 x3 : Int32) (H : Heap) (locs : List Loc) (ls : Array Slot), fX8_book_B53 M x1 x2 x3 = some (v, M') → va_P G vwCl (WW 7 (shR cA cZ cC ad) ad M) H → va_S (AW 7 ad) s.heap H locs → lv_has ls 4 [(0, .ref (ad 0)), (1, .int x1), (2, .int x2), (3, .int x3)] → W p l e ({ frames := 1, cells := 0, slots := 0, locals := 22 } : Room) s m args below meth c H locs 0 0 (QI below G 7 (shR cA cZ cC ad) ad .int args s v M') (F0 m 53 ls []) := by
    intro M x1 x2 x3 H locs ls h hP hS hl
    unfold fX8_book_B53 at h
    refine lv_iload_n (pc := 53) hx hb dX8_book_53 rfl (lv_at hl 3 rfl) ?_
    refine lv_bipush (pc := 54) (v := (8 : Int32)) hx hb dX8_book_54 (by decide) ?_
    refine lv_icmp_ne (pc := 56) (tgt := 62) hx hb dX8_book_56 (by decide) (fun c6 => ?_) (fun c6 => ?_)
    · have h := (if_neg c6).symm.trans h
      refine lv_aload_n (pc := 62) hx hb dX8_book_62 rfl (lv_at hl 0 rfl) ?_
      refine x_get (pc := 63) (v := .ref (ad 1)) E hP (by decide) sh8 rfl inX8 0 (by decide) q972 rfl dX8_book_63 ?_
      refine lv_sipush (pc := 66) (v := (176 : Int32)) hx hb dX8_book_66 (by decide) ?_
      refine lv_iload_n (pc := 69) hx hb dX8_book_69 rfl (lv_at hl 3 rfl) ?_
      refine lv_iadd (pc := 70) hx hb dX8_book_70 ?_
      refine lv_iload_n (pc := 71) hx hb dX8_book_71 rfl (lv_at hl 1 rfl) ?_
      obtain ⟨c7, h⟩ := ite_some h
      obtain ⟨M8, hM8, h⟩ := thn_ex h
      refine x_iast (pc := 72) (j := ((176 : Int32) + x3).toNatClampNeg) E hP hS (by decide) sh8a1 0 rfl (inb_in c7) rfl dX8_book_72 (fun H locs hP hS => ?_)
      rw [hM8] at hP
      refine lv_aload_n (pc := 73) hx hb dX8_book_73 rfl (lv_at hl 0 rfl) ?_
      refine x_get (pc := 74) (v := .ref (ad 1)) E hP (by decide) sh8 rfl inX8 0 (by decide) q972 rfl dX8_book_74 ?_
      refine lv_sipush (pc := 77) (v := (184 : Int32)) hx hb dX8_book_77 (by decide) ?_
      refine lv_iload_n (pc := 80) hx hb dX8_book_80 rfl (lv_at hl 3 rfl) ?_
      refine lv_iadd (pc := 81) hx hb dX8_book_81 ?_
      refine lv_iload_n (pc := 82) hx hb dX8_book_82 rfl (lv_at hl 2 rfl) ?_
      obtain ⟨c9, h⟩ := ite_some h
      obtain ⟨M10, hM10, h⟩ := thn_ex h
      refine x_iast (pc := 83) (j := ((184 : Int32) + x3).toNatClampNeg) E hP hS (by decide) sh8a1 0 rfl (inb_in c9) rfl dX8_book_83 (fun H locs hP hS => ?_)
      rw [hM10] at hP
      refine lv_aload_n (pc := 84) hx hb dX8_book_84 rfl (lv_at hl 0 rfl) ?_
      refine x_get (pc := 85) (v := .ref (ad 1)) E hP (by decide) sh8 rfl inX8 0 (by decide) q972 rfl dX8_book_85 ?_
      refine lv_iconst (pc := 88) (v := (3 : Int32)) hx hb dX8_book_88 (by decide) ?_
      refine lv_dup2_11 (pc := 89) hx hb dX8_book_89 rfl rfl ?_
      refine x_iald (pc := 90) (j := 3) E hP (by decide) sh8a1 0 rfl (vp_inl (by decide)) rfl dX8_book_90 ?_
      refine lv_iconst (pc := 91) (v := (1 : Int32)) hx hb dX8_book_91 (by decide) ?_
      refine lv_iadd (pc := 92) hx hb dX8_book_92 ?_
      obtain ⟨M11, hM11, h⟩ := thn_ex h
      refine x_iast (pc := 93) (j := 3) E hP hS (by decide) sh8a1 0 rfl (vp_inl (by decide)) rfl dX8_book_93 (fun H locs hP hS => ?_)
      rw [hM11] at hP
      refine lv_iload_n (pc := 94) hx hb dX8_book_94 rfl (lv_at hl 3 rfl) ?_
      refine lv_iconst (pc := 95) (v := (1 : Int32)) hx hb dX8_book_95 (by decide) ?_
      refine lv_iadd (pc := 96) hx hb dX8_book_96 ?_
      obtain ⟨rfl, rfl⟩ := som2 h
      exact x_iret E hP hS rfl dX8_book_97
    · have h := (if_pos c6).symm.trans h
      refine lv_bipush (pc := 59) (v := (-3 : Int32)) hx hb dX8_book_59 (by decide) ?_
      obtain ⟨rfl, rfl⟩ := som2 h
      exact x_iret E hP hS rfl dX8_book_61
  unfold fX8_book at h
  refine lv_iload_n (pc := 0) hx hb dX8_book_0 rfl (lv_at hl 1 rfl) ?_
  refine lv_iconst (pc := 1) (v := (1 : Int32)) hx hb dX8_book_1 (by decide) ?_
  refine lv_bipush (pc := 2) (v := (6 : Int32)) hx hb dX8_book_2 (by decide) ?_
  refine x_callSi (pc := 4) (st := .int (6 : Int32) :: .int (1 : Int32) :: .int x1 :: []) (As := [.int x1, .int (1 : Int32), .int (6 : Int32)]) E hEx hl.1 hP hS (kX8_in hap  M _ _ _ _ rfl) gX8_30 hsX8_in rfl ⟨Nat.le_of_ble_eq_true rfl, Nat.le_of_ble_eq_true rfl⟩ ⟨rfl, rfl⟩ dX8_book_4 rfl (Nat.le_of_ble_eq_true rfl) (fun H locs hP hS n1 => ?_)
  refine lv_if_eq (pc := 7) (tgt := 20) hx hb dX8_book_7 (by decide) (fun c2 => ?_) (fun c2 => ?_)
  · have h := (if_pos c2).symm.trans h
    refine lv_bipush (pc := 20) (v := (-2 : Int32)) hx hb dX8_book_20 (by decide) ?_
    obtain ⟨rfl, rfl⟩ := som2 h
    exact x_iret E hP hS rfl dX8_book_22
  · have h := (if_neg c2).symm.trans h
    refine lv_iload_n (pc := 10) hx hb dX8_book_10 rfl (lv_at hl 2 rfl) ?_
    refine lv_iconst (pc := 11) (v := (0 : Int32)) hx hb dX8_book_11 (by decide) ?_
    refine lv_ldc (pc := 12) (v := (100000 : Int32)) hx hb hown (hts _ q1103) dX8_book_12 ?_
    refine x_callSi (pc := 14) (st := .int (100000 : Int32) :: .int (0 : Int32) :: .int x2 :: []) (As := [.int x2, .int (0 : Int32), .int (100000 : Int32)]) E hEx hl.1 hP hS (kX8_in hap  M _ _ _ _ rfl) gX8_30 hsX8_in rfl ⟨Nat.le_of_ble_eq_true rfl, Nat.le_of_ble_eq_true rfl⟩ ⟨rfl, rfl⟩ dX8_book_14 rfl (Nat.le_of_ble_eq_true rfl) (fun H locs hP hS n3 => ?_)
    refine lv_if_ne (pc := 17) (tgt := 23) hx hb dX8_book_17 (by decide) (fun c4 => ?_) (fun c4 => ?_)
    · have h := (if_neg c4).symm.trans h
      refine lv_aload_n (pc := 23) hx hb dX8_book_23 rfl (lv_at hl 0 rfl) ?_
      refine x_get (pc := 24) (v := .ref (ad 1)) E hP (by decide) sh8 rfl inX8 0 (by decide) q972 rfl dX8_book_24 ?_
      refine lv_iconst (pc := 27) (v := (3 : Int32)) hx hb dX8_book_27 (by decide) ?_
      refine x_iald (pc := 28) (j := 3) E hP (by decide) sh8a1 0 rfl (vp_inl (by decide)) rfl dX8_book_28 ?_
      refine lv_istore_n (pc := 29) (lv' := [(3, .int (M 1 3)), (0, .ref (ad 0)), (1, .int x1), (2, .int x2)]) hx hb dX8_book_29 rfl hl (by decide) rfl (fun ls hl => ?_)
      refine lv_iload_n (pc := 30) hx hb dX8_book_30 rfl (lv_at hl 0 rfl) ?_
      refine lv_if_le (pc := 31) (tgt := 53) hx hb dX8_book_31 (by decide) (fun c5 => ?_) (fun c5 => ?_)
      · have h := (if_pos c5).symm.trans h
        exact hB53 M x1 x2 (M 1 3) _ _ _ h hP hS (lv_sub hl [1, 2, 3, 0] rfl)
      · have h := (if_neg c5).symm.trans h
        refine lv_aload_n (pc := 34) hx hb dX8_book_34 rfl (lv_at hl 1 rfl) ?_
        refine x_get (pc := 35) (v := .ref (ad 1)) E hP (by decide) sh8 rfl inX8 0 (by decide) q972 rfl dX8_book_35 ?_
        refine lv_sipush (pc := 38) (v := (184 : Int32)) hx hb dX8_book_38 (by decide) ?_
        refine lv_iload_n (pc := 41) hx hb dX8_book_41 rfl (lv_at hl 0 rfl) ?_
        refine lv_iadd (pc := 42) hx hb dX8_book_42 ?_
        refine lv_iconst (pc := 43) (v := (1 : Int32)) hx hb dX8_book_43 (by decide) ?_
        refine lv_isub (pc := 44) hx hb dX8_book_44 ?_
        obtain ⟨c12, h⟩ := ite_some h
        refine x_iald (pc := 45) (j := (((184 : Int32) + (M 1 3)) - (1 : Int32)).toNatClampNeg) E hP (by decide) sh8a1 0 rfl (inb_in c12) rfl dX8_book_45 ?_
        refine lv_iload_n (pc := 46) hx hb dX8_book_46 rfl (lv_at hl 3 rfl) ?_
        refine lv_icmp_le (pc := 47) (tgt := 53) hx hb dX8_book_47 (by decide) (fun c13 => ?_) (fun c13 => ?_)
        · have h := (if_pos c13).symm.trans h
          exact hB53 M x1 x2 (M 1 3) _ _ _ h hP hS (lv_sub hl [1, 2, 3, 0] rfl)
        · have h := (if_neg c13).symm.trans h
          refine lv_bipush (pc := 50) (v := (-4 : Int32)) hx hb dX8_book_50 (by decide) ?_
          obtain ⟨rfl, rfl⟩ := som2 h
          exact x_iret E hP hS rfl dX8_book_52
    · have h := (if_pos c4).symm.trans h
      refine lv_bipush (pc := 20) (v := (-2 : Int32)) hx hb dX8_book_20 (by decide) ?_
      obtain ⟨rfl, rfl⟩ := som2 h
      exact x_iret E hP hS rfl dX8_book_22
set_option maxRecDepth 100000 in
set_option maxHeartbeats 4000000 in
theorem kX8_noGroup (hap : Apart 7 ad)   (M : Mem) (x1 : Int32) (v : Int32) (h : fX8_noGroup M x1 = some v) : RI G ad cA cZ cC yX8_noGroup cX8_noGroup 2 .boolean ({ frames := 1, cells := 0, slots := 0, locals := 22 } : Room) [.ref (ad 0), .int x1] M v M := by
  refine CI.mk (own := RX8) (ls0 := [(0, .ref (ad 0)), (1, .int x1)]) (by decide +kernel) rfl hap (Nat.le_of_ble_eq_true rfl) rfl ?_
  intro p l e s m args below meth c ls E hP hl
  have hx := E.1
  have hb := E.2.1
  have hown := E.2.2.2.2.2.1
  have hts := E.2.2.2.2.2.2.1
  have hEx := ExR.ok 7 ad
  have hS : va_S (AW 7 ad) s.heap s.heap [] := va_S.rf
  unfold fX8_noGroup at h
  refine lv_iload_n (pc := 0) hx hb dX8_noGroup_0 rfl (lv_at hl 1 rfl) ?_
  refine lv_iconst (pc := 1) (v := (0 : Int32)) hx hb dX8_noGroup_1 (by decide) ?_
  refine lv_aload_n (pc := 2) hx hb dX8_noGroup_2 rfl (lv_at hl 0 rfl) ?_
  refine x_get (pc := 3) (v := .ref (ad 1)) E hP (by decide) sh8 rfl inX8 0 (by decide) q972 rfl dX8_noGroup_3 ?_
  refine lv_iconst (pc := 6) (v := (3 : Int32)) hx hb dX8_noGroup_6 (by decide) ?_
  refine x_iald (pc := 7) (j := 3) E hP (by decide) sh8a1 0 rfl (vp_inl (by decide)) rfl dX8_noGroup_7 ?_
  refine lv_iconst (pc := 8) (v := (1 : Int32)) hx hb dX8_noGroup_8 (by decide) ?_
  refine lv_isub (pc := 9) hx hb dX8_noGroup_9 ?_
  refine x_callSi (pc := 10) (st := .int ((M 1 3) - (1 : Int32)) :: .int (0 : Int32) :: .int x1 :: []) (As := [.int x1, .int (0 : Int32), .int ((M 1 3) - (1 : Int32))]) E hEx hl.1 hP hS (kX8_in hap  M _ _ _ _ rfl) gX8_30 hsX8_in rfl ⟨Nat.le_of_ble_eq_true rfl, Nat.le_of_ble_eq_true rfl⟩ ⟨rfl, rfl⟩ dX8_noGroup_10 rfl (Nat.le_of_ble_eq_true rfl) (fun H locs hP hS n1 => ?_)
  refine lv_if_ne (pc := 13) (tgt := 20) hx hb dX8_noGroup_13 (by decide) (fun c2 => ?_) (fun c2 => ?_)
  · have h := (if_neg c2).symm.trans h
    refine lv_iconst (pc := 20) (v := (0 : Int32)) hx hb dX8_noGroup_20 (by decide) ?_
    obtain rfl := som1 h
    exact x_iret E hP hS rfl dX8_noGroup_21
  · have h := (if_pos c2).symm.trans h
    refine lv_iconst (pc := 16) (v := (1 : Int32)) hx hb dX8_noGroup_16 (by decide) ?_
    refine lv_goto (pc := 17) (tgt := 21) hx hb dX8_noGroup_17 (by decide) ?_
    obtain rfl := som1 h
    exact x_iret E hP hS rfl dX8_noGroup_21
set_option maxRecDepth 100000 in
set_option maxHeartbeats 4000000 in
theorem kX8_removeGroup (hap : Apart 7 ad)   (M : Mem) (x1 : Int32) (M' : Mem) (h : fX8_removeGroup M x1 = some M') : RV G ad cA cZ cC yX8_removeGroup cX8_removeGroup 3 ({ frames := 0, cells := 0, slots := 0, locals := 0 } : Room) [.ref (ad 0), .int x1] M M' := by
  refine CV.mk (own := RX8) (ls0 := [(0, .ref (ad 0)), (1, .int x1)]) (by decide +kernel) rfl hap (Nat.le_of_ble_eq_true rfl) rfl ?_
  intro p l e s m args below meth c ls E hP hl
  have hx := E.1
  have hb := E.2.1
  have hown := E.2.2.2.2.2.1
  have hts := E.2.2.2.2.2.2.1
  have hEx := ExR.ok 7 ad
  have hS : va_S (AW 7 ad) s.heap s.heap [] := va_S.rf
  have hL12 : ∀ (n : Nat) (M : Mem) (x2 : Int32) (H : Heap) (locs : List Loc) (ls : Array Slot), fX8_removeGroup_L12 n M x2 = some M' → va_P G vwCl (WW 7 (shR cA cZ cC ad) ad M) H → va_S (AW 7 ad) s.heap H locs → lv_has ls 3 [(0, .ref (ad 0)), (2, .int x2)] → W p l e ({ frames := 0, cells := 0, slots := 0, locals := 0 } : Room) s m args below meth c H locs 0 0 (QV below G 7 (shR cA cZ cC ad) ad args s M') (F0 m 12 ls []) := by
    intro n
    induction n with
    | zero => intro M x2 H locs ls h; cases h
    | succ n ih =>
      intro M x2 H locs ls h hP hS hl
      rw [fX8_removeGroup_L12] at h
      refine lv_iload_n (pc := 12) hx hb dX8_removeGroup_12 rfl (lv_at hl 1 rfl) ?_
      refine lv_aload_n (pc := 13) hx hb dX8_removeGroup_13 rfl (lv_at hl 0 rfl) ?_
      refine x_get (pc := 14) (v := .ref (ad 1)) E hP (by decide) sh8 rfl inX8 0 (by decide) q972 rfl dX8_removeGroup_14 ?_
      refine lv_iconst (pc := 17) (v := (3 : Int32)) hx hb dX8_removeGroup_17 (by decide) ?_
      refine x_iald (pc := 18) (j := 3) E hP (by decide) sh8a1 0 rfl (vp_inl (by decide)) rfl dX8_removeGroup_18 ?_
      refine lv_icmp_ge (pc := 19) (tgt := 72) hx hb dX8_removeGroup_19 (by decide) (fun c2 => ?_) (fun c2 => ?_)
      · have h := (if_pos c2).symm.trans h
        obtain rfl := som1 h
        exact x_vret E hP hS dX8_removeGroup_72
      · have h := (if_neg c2).symm.trans h
        refine lv_aload_n (pc := 22) hx hb dX8_removeGroup_22 rfl (lv_at hl 0 rfl) ?_
        refine x_get (pc := 23) (v := .ref (ad 1)) E hP (by decide) sh8 rfl inX8 0 (by decide) q972 rfl dX8_removeGroup_23 ?_
        refine lv_sipush (pc := 26) (v := (176 : Int32)) hx hb dX8_removeGroup_26 (by decide) ?_
        refine lv_iload_n (pc := 29) hx hb dX8_removeGroup_29 rfl (lv_at hl 1 rfl) ?_
        refine lv_iadd (pc := 30) hx hb dX8_removeGroup_30 ?_
        refine lv_aload_n (pc := 31) hx hb dX8_removeGroup_31 rfl (lv_at hl 0 rfl) ?_
        refine x_get (pc := 32) (v := .ref (ad 1)) E hP (by decide) sh8 rfl inX8 0 (by decide) q972 rfl dX8_removeGroup_32 ?_
        refine lv_sipush (pc := 35) (v := (176 : Int32)) hx hb dX8_removeGroup_35 (by decide) ?_
        refine lv_iload_n (pc := 38) hx hb dX8_removeGroup_38 rfl (lv_at hl 1 rfl) ?_
        refine lv_iadd (pc := 39) hx hb dX8_removeGroup_39 ?_
        refine lv_iconst (pc := 40) (v := (1 : Int32)) hx hb dX8_removeGroup_40 (by decide) ?_
        refine lv_iadd (pc := 41) hx hb dX8_removeGroup_41 ?_
        obtain ⟨c3, h⟩ := ite_some h
        refine x_iald (pc := 42) (j := (((176 : Int32) + x2) + (1 : Int32)).toNatClampNeg) E hP (by decide) sh8a1 0 rfl (inb_in c3) rfl dX8_removeGroup_42 ?_
        obtain ⟨c4, h⟩ := ite_some h
        obtain ⟨M5, hM5, h⟩ := thn_ex h
        refine x_iast (pc := 43) (j := ((176 : Int32) + x2).toNatClampNeg) E hP hS (by decide) sh8a1 0 rfl (inb_in c4) rfl dX8_removeGroup_43 (fun H locs hP hS => ?_)
        rw [hM5] at hP
        refine lv_aload_n (pc := 44) hx hb dX8_removeGroup_44 rfl (lv_at hl 0 rfl) ?_
        refine x_get (pc := 45) (v := .ref (ad 1)) E hP (by decide) sh8 rfl inX8 0 (by decide) q972 rfl dX8_removeGroup_45 ?_
        refine lv_sipush (pc := 48) (v := (184 : Int32)) hx hb dX8_removeGroup_48 (by decide) ?_
        refine lv_iload_n (pc := 51) hx hb dX8_removeGroup_51 rfl (lv_at hl 1 rfl) ?_
        refine lv_iadd (pc := 52) hx hb dX8_removeGroup_52 ?_
        refine lv_aload_n (pc := 53) hx hb dX8_removeGroup_53 rfl (lv_at hl 0 rfl) ?_
        refine x_get (pc := 54) (v := .ref (ad 1)) E hP (by decide) sh8 rfl inX8 0 (by decide) q972 rfl dX8_removeGroup_54 ?_
        refine lv_sipush (pc := 57) (v := (184 : Int32)) hx hb dX8_removeGroup_57 (by decide) ?_
        refine lv_iload_n (pc := 60) hx hb dX8_removeGroup_60 rfl (lv_at hl 1 rfl) ?_
        refine lv_iadd (pc := 61) hx hb dX8_removeGroup_61 ?_
        refine lv_iconst (pc := 62) (v := (1 : Int32)) hx hb dX8_removeGroup_62 (by decide) ?_
        refine lv_iadd (pc := 63) hx hb dX8_removeGroup_63 ?_
        obtain ⟨c6, h⟩ := ite_some h
        refine x_iald (pc := 64) (j := (((184 : Int32) + x2) + (1 : Int32)).toNatClampNeg) E hP (by decide) sh8a1 0 rfl (inb_in c6) rfl dX8_removeGroup_64 ?_
        obtain ⟨c7, h⟩ := ite_some h
        obtain ⟨M8, hM8, h⟩ := thn_ex h
        refine x_iast (pc := 65) (j := ((184 : Int32) + x2).toNatClampNeg) E hP hS (by decide) sh8a1 0 rfl (inb_in c7) rfl dX8_removeGroup_65 (fun H locs hP hS => ?_)
        rw [hM8] at hP
        refine lv_iinc (pc := 66) (v := (x2 + 1)) (lv' := [(2, .int (x2 + 1)), (0, .ref (ad 0))]) hx hb dX8_removeGroup_66 hl (k := 1) rfl rfl (by decide) rfl (fun ls hl => ?_)
        refine lv_goto (pc := 69) (tgt := 12) hx hb dX8_removeGroup_69 (by decide) ?_
        exact ih M8 (x2 + 1) _ _ _ h hP hS (lv_sub hl [1, 0] rfl)
  unfold fX8_removeGroup at h
  refine lv_aload_n (pc := 0) hx hb dX8_removeGroup_0 rfl (lv_at hl 0 rfl) ?_
  refine x_get (pc := 1) (v := .ref (ad 1)) E hP (by decide) sh8 rfl inX8 0 (by decide) q972 rfl dX8_removeGroup_1 ?_
  refine lv_iconst (pc := 4) (v := (3 : Int32)) hx hb dX8_removeGroup_4 (by decide) ?_
  refine lv_dup2_11 (pc := 5) hx hb dX8_removeGroup_5 rfl rfl ?_
  refine x_iald (pc := 6) (j := 3) E hP (by decide) sh8a1 0 rfl (vp_inl (by decide)) rfl dX8_removeGroup_6 ?_
  refine lv_iconst (pc := 7) (v := (1 : Int32)) hx hb dX8_removeGroup_7 (by decide) ?_
  refine lv_isub (pc := 8) hx hb dX8_removeGroup_8 ?_
  obtain ⟨M1, hM1, h⟩ := thn_ex h
  refine x_iast (pc := 9) (j := 3) E hP hS (by decide) sh8a1 0 rfl (vp_inl (by decide)) rfl dX8_removeGroup_9 (fun H locs hP hS => ?_)
  rw [hM1] at hP
  refine lv_iload_n (pc := 10) hx hb dX8_removeGroup_10 rfl (lv_at hl 1 rfl) ?_
  refine lv_istore_n (pc := 11) (lv' := [(2, .int x1), (0, .ref (ad 0)), (1, .int x1)]) hx hb dX8_removeGroup_11 rfl hl (by decide) rfl (fun ls hl => ?_)
  exact hL12 5000 M1 x1 _ _ _ h hP hS (lv_sub hl [1, 0] rfl)
set_option maxRecDepth 100000 in
set_option maxHeartbeats 4000000 in
theorem kX8_cancel (hap : Apart 7 ad)   (M : Mem) (x1 : Int32) (v : Int32) (M' : Mem) (h : fX8_cancel M x1 = some (v, M')) : RI G ad cA cZ cC yX8_cancel cX8_cancel 2 .int ({ frames := 2, cells := 0, slots := 0, locals := 43 } : Room) [.ref (ad 0), .int x1] M v M' := by
  refine CI.mk (own := RX8) (ls0 := [(0, .ref (ad 0)), (1, .int x1)]) (by decide +kernel) rfl hap (Nat.le_of_ble_eq_true rfl) rfl ?_
  intro p l e s m args below meth c ls E hP hl
  have hx := E.1
  have hb := E.2.1
  have hown := E.2.2.2.2.2.1
  have hts := E.2.2.2.2.2.2.1
  have hEx := ExR.ok 7 ad
  have hS : va_S (AW 7 ad) s.heap s.heap [] := va_S.rf
  unfold fX8_cancel at h
  refine lv_aload_n (pc := 0) hx hb dX8_cancel_0 rfl (lv_at hl 0 rfl) ?_
  refine lv_iload_n (pc := 1) hx hb dX8_cancel_1 rfl (lv_at hl 1 rfl) ?_
  obtain ⟨y1, hy1, h⟩ := bnd_ex h
  refine x_callVi (pc := 2) (st := .int x1 :: .ref (ad 0) :: []) (As := [.int x1]) E hEx hl.1 hP hS (kX8_noGroup hap  M _ _ hy1) gX8_109 hdX8_noGroup rfl (by decide) sh8 rfl ⟨Nat.le_of_ble_eq_true rfl, Nat.le_of_ble_eq_true rfl⟩ ⟨rfl, rfl⟩ dX8_cancel_2 rfl (Nat.le_of_ble_eq_true rfl) (fun H locs hP hS n2 => ?_)
  refine lv_if_eq (pc := 5) (tgt := 10) hx hb dX8_cancel_5 (by decide) (fun c3 => ?_) (fun c3 => ?_)
  · have h := (if_pos c3).symm.trans h
    refine lv_aload_n (pc := 10) hx hb dX8_cancel_10 rfl (lv_at hl 0 rfl) ?_
    refine lv_iload_n (pc := 11) hx hb dX8_cancel_11 rfl (lv_at hl 1 rfl) ?_
    obtain ⟨M4, hM4, h⟩ := bnd_ex h
    refine x_callVv (pc := 12) (st := .int x1 :: .ref (ad 0) :: []) (As := [.int x1]) E hEx hl.1 hP hS (kX8_removeGroup hap  M _ _ hM4) gX8_112 hdX8_removeGroup rfl (by decide) sh8 rfl ⟨Nat.le_of_ble_eq_true rfl, Nat.le_of_ble_eq_true rfl⟩ ⟨rfl, rfl⟩ dX8_cancel_12 rfl (Nat.le_of_ble_eq_true rfl) (fun H locs hP hS => ?_)
    refine lv_aload_n (pc := 15) hx hb dX8_cancel_15 rfl (lv_at hl 0 rfl) ?_
    refine x_get (pc := 16) (v := .ref (ad 1)) E hP (by decide) sh8 rfl inX8 0 (by decide) q972 rfl dX8_cancel_16 ?_
    refine lv_iconst (pc := 19) (v := (3 : Int32)) hx hb dX8_cancel_19 (by decide) ?_
    refine x_iald (pc := 20) (j := 3) E hP (by decide) sh8a1 0 rfl (vp_inl (by decide)) rfl dX8_cancel_20 ?_
    obtain ⟨rfl, rfl⟩ := som2 h
    exact x_iret E hP hS rfl dX8_cancel_21
  · have h := (if_neg c3).symm.trans h
    refine lv_iconst (pc := 8) (v := (-1 : Int32)) hx hb dX8_cancel_8 (by decide) ?_
    obtain ⟨rfl, rfl⟩ := som2 h
    exact x_iret E hP hS rfl dX8_cancel_9
set_option maxRecDepth 100000 in
set_option maxHeartbeats 4000000 in
theorem kX8_notAtHome (hap : Apart 7 ad)   (M : Mem)  (v : Int32) (h : fX8_notAtHome M = some v) : RI G ad cA cZ cC yX8_notAtHome cX8_notAtHome 3 .int ({ frames := 0, cells := 0, slots := 0, locals := 0 } : Room) [.ref (ad 0)] M v M := by
  refine CI.mk (own := RX8) (ls0 := [(0, .ref (ad 0))]) (by decide +kernel) rfl hap (Nat.le_of_ble_eq_true rfl) rfl ?_
  intro p l e s m args below meth c ls E hP hl
  have hx := E.1
  have hb := E.2.1
  have hown := E.2.2.2.2.2.1
  have hts := E.2.2.2.2.2.2.1
  have hEx := ExR.ok 7 ad
  have hS : va_S (AW 7 ad) s.heap s.heap [] := va_S.rf
  have hL4 : ∀ (n : Nat) (M : Mem) (x1 x2 : Int32) (H : Heap) (locs : List Loc) (ls : Array Slot), fX8_notAtHome_L4 n M x1 x2 = some v → va_P G vwCl (WW 7 (shR cA cZ cC ad) ad M) H → va_S (AW 7 ad) s.heap H locs → lv_has ls 3 [(0, .ref (ad 0)), (1, .int x1), (2, .int x2)] → W p l e ({ frames := 0, cells := 0, slots := 0, locals := 0 } : Room) s m args below meth c H locs 0 0 (QI below G 7 (shR cA cZ cC ad) ad .int args s v M) (F0 m 4 ls []) := by
    intro n
    induction n with
    | zero => intro M x1 x2 H locs ls h; cases h
    | succ n ih =>
      intro M x1 x2 H locs ls h hP hS hl
      rw [fX8_notAtHome_L4] at h
      refine lv_iload_n (pc := 4) hx hb dX8_notAtHome_4 rfl (lv_at hl 2 rfl) ?_
      refine lv_aload_n (pc := 5) hx hb dX8_notAtHome_5 rfl (lv_at hl 0 rfl) ?_
      refine x_get (pc := 6) (v := .ref (ad 1)) E hP (by decide) sh8 rfl inX8 0 (by decide) q972 rfl dX8_notAtHome_6 ?_
      refine lv_iconst (pc := 9) (v := (1 : Int32)) hx hb dX8_notAtHome_9 (by decide) ?_
      refine x_iald (pc := 10) (j := 1) E hP (by decide) sh8a1 0 rfl (vp_inl (by decide)) rfl dX8_notAtHome_10 ?_
      refine lv_icmp_ge (pc := 11) (tgt := 49) hx hb dX8_notAtHome_11 (by decide) (fun c1 => ?_) (fun c1 => ?_)
      · have h := (if_pos c1).symm.trans h
        refine lv_iload_n (pc := 49) hx hb dX8_notAtHome_49 rfl (lv_at hl 1 rfl) ?_
        obtain rfl := som1 h
        exact x_iret E hP hS rfl dX8_notAtHome_50
      · have h := (if_neg c1).symm.trans h
        refine lv_iload_n (pc := 14) hx hb dX8_notAtHome_14 rfl (lv_at hl 1 rfl) ?_
        refine lv_aload_n (pc := 15) hx hb dX8_notAtHome_15 rfl (lv_at hl 0 rfl) ?_
        refine x_get (pc := 16) (v := .ref (ad 1)) E hP (by decide) sh8 rfl inX8 0 (by decide) q972 rfl dX8_notAtHome_16 ?_
        refine lv_bipush (pc := 19) (v := (104 : Int32)) hx hb dX8_notAtHome_19 (by decide) ?_
        refine lv_iload_n (pc := 21) hx hb dX8_notAtHome_21 rfl (lv_at hl 2 rfl) ?_
        refine lv_iadd (pc := 22) hx hb dX8_notAtHome_22 ?_
        obtain ⟨c2, h⟩ := ite_some h
        refine x_iald (pc := 23) (j := ((104 : Int32) + x2).toNatClampNeg) E hP (by decide) sh8a1 0 rfl (inb_in c2) rfl dX8_notAtHome_23 ?_
        refine lv_aload_n (pc := 24) hx hb dX8_notAtHome_24 rfl (lv_at hl 0 rfl) ?_
        refine x_get (pc := 25) (v := .ref (ad 1)) E hP (by decide) sh8 rfl inX8 0 (by decide) q972 rfl dX8_notAtHome_25 ?_
        refine lv_bipush (pc := 28) (v := (80 : Int32)) hx hb dX8_notAtHome_28 (by decide) ?_
        refine lv_iload_n (pc := 30) hx hb dX8_notAtHome_30 rfl (lv_at hl 2 rfl) ?_
        refine lv_iadd (pc := 31) hx hb dX8_notAtHome_31 ?_
        obtain ⟨c3, h⟩ := ite_some h
        refine x_iald (pc := 32) (j := ((80 : Int32) + x2).toNatClampNeg) E hP (by decide) sh8a1 0 rfl (inb_in c3) rfl dX8_notAtHome_32 ?_
        refine lv_icmp_ne (pc := 33) (tgt := 40) hx hb dX8_notAtHome_33 (by decide) (fun c4 => ?_) (fun c4 => ?_)
        · have h := (if_neg c4).symm.trans h
          refine lv_iconst (pc := 40) (v := (1 : Int32)) hx hb dX8_notAtHome_40 (by decide) ?_
          refine lv_iadd (pc := 41) hx hb dX8_notAtHome_41 ?_
          refine lv_istore_n (pc := 42) (lv' := [(1, .int (x1 + (1 : Int32))), (0, .ref (ad 0)), (2, .int x2)]) hx hb dX8_notAtHome_42 rfl hl (by decide) rfl (fun ls hl => ?_)
          refine lv_iinc (pc := 43) (v := (x2 + 1)) (lv' := [(2, .int (x2 + 1)), (1, .int (x1 + (1 : Int32))), (0, .ref (ad 0))]) hx hb dX8_notAtHome_43 hl (k := 2) rfl rfl (by decide) rfl (fun ls hl => ?_)
          refine lv_goto (pc := 46) (tgt := 4) hx hb dX8_notAtHome_46 (by decide) ?_
          exact ih M (x1 + (1 : Int32)) (x2 + 1) _ _ _ h hP hS (lv_sub hl [2, 1, 0] rfl)
        · have h := (if_pos c4).symm.trans h
          refine lv_iconst (pc := 36) (v := (0 : Int32)) hx hb dX8_notAtHome_36 (by decide) ?_
          refine lv_goto (pc := 37) (tgt := 41) hx hb dX8_notAtHome_37 (by decide) ?_
          refine lv_iadd (pc := 41) hx hb dX8_notAtHome_41 ?_
          refine lv_istore_n (pc := 42) (lv' := [(1, .int (x1 + (0 : Int32))), (0, .ref (ad 0)), (2, .int x2)]) hx hb dX8_notAtHome_42 rfl hl (by decide) rfl (fun ls hl => ?_)
          refine lv_iinc (pc := 43) (v := (x2 + 1)) (lv' := [(2, .int (x2 + 1)), (1, .int (x1 + (0 : Int32))), (0, .ref (ad 0))]) hx hb dX8_notAtHome_43 hl (k := 2) rfl rfl (by decide) rfl (fun ls hl => ?_)
          refine lv_goto (pc := 46) (tgt := 4) hx hb dX8_notAtHome_46 (by decide) ?_
          exact ih M (x1 + (0 : Int32)) (x2 + 1) _ _ _ h hP hS (lv_sub hl [2, 1, 0] rfl)
  unfold fX8_notAtHome at h
  refine lv_iconst (pc := 0) (v := (0 : Int32)) hx hb dX8_notAtHome_0 (by decide) ?_
  refine lv_istore_n (pc := 1) (lv' := [(1, .int (0 : Int32)), (0, .ref (ad 0))]) hx hb dX8_notAtHome_1 rfl hl (by decide) rfl (fun ls hl => ?_)
  refine lv_iconst (pc := 2) (v := (0 : Int32)) hx hb dX8_notAtHome_2 (by decide) ?_
  refine lv_istore_n (pc := 3) (lv' := [(2, .int (0 : Int32)), (1, .int (0 : Int32)), (0, .ref (ad 0))]) hx hb dX8_notAtHome_3 rfl hl (by decide) rfl (fun ls hl => ?_)
  exact hL4 5000 M (0 : Int32) (0 : Int32) _ _ _ h hP hS (lv_sub hl [2, 1, 0] rfl)
set_option maxRecDepth 100000 in
set_option maxHeartbeats 4000000 in
theorem kX8_openOnes (hap : Apart 7 ad)   (M : Mem)  (v : Int32) (h : fX8_openOnes M = some v) : RI G ad cA cZ cC yX8_openOnes cX8_openOnes 3 .int ({ frames := 0, cells := 0, slots := 0, locals := 0 } : Room) [.ref (ad 0)] M v M := by
  refine CI.mk (own := RX8) (ls0 := [(0, .ref (ad 0))]) (by decide +kernel) rfl hap (Nat.le_of_ble_eq_true rfl) rfl ?_
  intro p l e s m args below meth c ls E hP hl
  have hx := E.1
  have hb := E.2.1
  have hown := E.2.2.2.2.2.1
  have hts := E.2.2.2.2.2.2.1
  have hEx := ExR.ok 7 ad
  have hS : va_S (AW 7 ad) s.heap s.heap [] := va_S.rf
  have hL4 : ∀ (n : Nat) (M : Mem) (x1 x2 : Int32) (H : Heap) (locs : List Loc) (ls : Array Slot), fX8_openOnes_L4 n M x1 x2 = some v → va_P G vwCl (WW 7 (shR cA cZ cC ad) ad M) H → va_S (AW 7 ad) s.heap H locs → lv_has ls 3 [(0, .ref (ad 0)), (1, .int x1), (2, .int x2)] → W p l e ({ frames := 0, cells := 0, slots := 0, locals := 0 } : Room) s m args below meth c H locs 0 0 (QI below G 7 (shR cA cZ cC ad) ad .int args s v M) (F0 m 4 ls []) := by
    intro n
    induction n with
    | zero => intro M x1 x2 H locs ls h; cases h
    | succ n ih =>
      intro M x1 x2 H locs ls h hP hS hl
      rw [fX8_openOnes_L4] at h
      refine lv_iload_n (pc := 4) hx hb dX8_openOnes_4 rfl (lv_at hl 2 rfl) ?_
      refine lv_aload_n (pc := 5) hx hb dX8_openOnes_5 rfl (lv_at hl 0 rfl) ?_
      refine x_get (pc := 6) (v := .ref (ad 1)) E hP (by decide) sh8 rfl inX8 0 (by decide) q972 rfl dX8_openOnes_6 ?_
      refine lv_iconst (pc := 9) (v := (0 : Int32)) hx hb dX8_openOnes_9 (by decide) ?_
      refine x_iald (pc := 10) (j := 0) E hP (by decide) sh8a1 0 rfl (vp_inl (by decide)) rfl dX8_openOnes_10 ?_
      refine lv_icmp_ge (pc := 11) (tgt := 32) hx hb dX8_openOnes_11 (by decide) (fun c1 => ?_) (fun c1 => ?_)
      · have h := (if_pos c1).symm.trans h
        refine lv_iload_n (pc := 32) hx hb dX8_openOnes_32 rfl (lv_at hl 1 rfl) ?_
        obtain rfl := som1 h
        exact x_iret E hP hS rfl dX8_openOnes_33
      · have h := (if_neg c1).symm.trans h
        refine lv_iload_n (pc := 14) hx hb dX8_openOnes_14 rfl (lv_at hl 1 rfl) ?_
        refine lv_aload_n (pc := 15) hx hb dX8_openOnes_15 rfl (lv_at hl 0 rfl) ?_
        refine x_get (pc := 16) (v := .ref (ad 1)) E hP (by decide) sh8 rfl inX8 0 (by decide) q972 rfl dX8_openOnes_16 ?_
        refine lv_bipush (pc := 19) (v := (56 : Int32)) hx hb dX8_openOnes_19 (by decide) ?_
        refine lv_iload_n (pc := 21) hx hb dX8_openOnes_21 rfl (lv_at hl 2 rfl) ?_
        refine lv_iadd (pc := 22) hx hb dX8_openOnes_22 ?_
        obtain ⟨c2, h⟩ := ite_some h
        refine x_iald (pc := 23) (j := ((56 : Int32) + x2).toNatClampNeg) E hP (by decide) sh8a1 0 rfl (inb_in c2) rfl dX8_openOnes_23 ?_
        refine lv_iadd (pc := 24) hx hb dX8_openOnes_24 ?_
        obtain ⟨y3, hy3, h⟩ := thn_ex h
        refine W.eq (g2 := F0 m 25 ls (.int y3 :: [])) (by rw [← hy3]) ?_
        refine lv_istore_n (pc := 25) (lv' := [(1, .int y3), (0, .ref (ad 0)), (2, .int x2)]) hx hb dX8_openOnes_25 rfl hl (by decide) rfl (fun ls hl => ?_)
        refine lv_iinc (pc := 26) (v := (x2 + 1)) (lv' := [(2, .int (x2 + 1)), (1, .int y3), (0, .ref (ad 0))]) hx hb dX8_openOnes_26 hl (k := 2) rfl rfl (by decide) rfl (fun ls hl => ?_)
        refine lv_goto (pc := 29) (tgt := 4) hx hb dX8_openOnes_29 (by decide) ?_
        exact ih M y3 (x2 + 1) _ _ _ h hP hS (lv_sub hl [2, 1, 0] rfl)
  unfold fX8_openOnes at h
  refine lv_iconst (pc := 0) (v := (0 : Int32)) hx hb dX8_openOnes_0 (by decide) ?_
  refine lv_istore_n (pc := 1) (lv' := [(1, .int (0 : Int32)), (0, .ref (ad 0))]) hx hb dX8_openOnes_1 rfl hl (by decide) rfl (fun ls hl => ?_)
  refine lv_iconst (pc := 2) (v := (1 : Int32)) hx hb dX8_openOnes_2 (by decide) ?_
  refine lv_istore_n (pc := 3) (lv' := [(2, .int (1 : Int32)), (1, .int (0 : Int32)), (0, .ref (ad 0))]) hx hb dX8_openOnes_3 rfl hl (by decide) rfl (fun ls hl => ?_)
  exact hL4 5000 M (0 : Int32) (1 : Int32) _ _ _ h hP hS (lv_sub hl [2, 1, 0] rfl)
set_option maxRecDepth 100000 in
set_option maxHeartbeats 4000000 in
theorem kX8_startGame (hap : Apart 7 ad)   (M : Mem)  (v : Int32) (M' : Mem) (h : fX8_startGame M = some (v, M')) : RI G ad cA cZ cC yX8_startGame cX8_startGame 2 .int ({ frames := 5, cells := 0, slots := 0, locals := 110 } : Room) [.ref (ad 0)] M v M' := by
  refine CI.mk (own := RX8) (ls0 := [(0, .ref (ad 0))]) (by decide +kernel) rfl hap (Nat.le_of_ble_eq_true rfl) rfl ?_
  intro p l e s m args below meth c ls E hP hl
  have hx := E.1
  have hb := E.2.1
  have hown := E.2.2.2.2.2.1
  have hts := E.2.2.2.2.2.2.1
  have hEx := ExR.ok 7 ad
  have hS : va_S (AW 7 ad) s.heap s.heap [] := va_S.rf
  have hL190 : ∀ (n : Nat) (M : Mem) (x1 : Int32) (H : Heap) (locs : List Loc) (ls : Array Slot), fX8_startGame_L190 n M x1 = some (v, M') → va_P G vwCl (WW 7 (shR cA cZ cC ad) ad M) H → va_S (AW 7 ad) s.heap H locs → lv_has ls 2 [(0, .ref (ad 0)), (1, .int x1)] → W p l e ({ frames := 5, cells := 0, slots := 0, locals := 110 } : Room) s m args below meth c H locs 0 0 (QI below G 7 (shR cA cZ cC ad) ad .int args s v M') (F0 m 190 ls []) := by
    intro n
    induction n with
    | zero => intro M x1 H locs ls h; cases h
    | succ n ih =>
      intro M x1 H locs ls h hP hS hl
      rw [fX8_startGame_L190] at h
      refine lv_iload_n (pc := 190) hx hb dX8_startGame_190 rfl (lv_at hl 1 rfl) ?_
      refine lv_bipush (pc := 191) (v := (12 : Int32)) hx hb dX8_startGame_191 (by decide) ?_
      refine lv_icmp_ge (pc := 193) (tgt := 212) hx hb dX8_startGame_193 (by decide) (fun c24 => ?_) (fun c24 => ?_)
      · have h := (if_pos c24).symm.trans h
        refine lv_aload_n (pc := 212) hx hb dX8_startGame_212 rfl (lv_at hl 0 rfl) ?_
        refine x_get (pc := 213) (v := .ref (ad 1)) E hP (by decide) sh8 rfl inX8 0 (by decide) q972 rfl dX8_startGame_213 ?_
        refine lv_bipush (pc := 216) (v := (13 : Int32)) hx hb dX8_startGame_216 (by decide) ?_
        refine x_iald (pc := 218) (j := 13) E hP (by decide) sh8a1 0 rfl (vp_inl (by decide)) rfl dX8_startGame_218 ?_
        refine lv_aload_n (pc := 219) hx hb dX8_startGame_219 rfl (lv_at hl 0 rfl) ?_
        refine x_get (pc := 220) (v := .ref (ad 1)) E hP (by decide) sh8 rfl inX8 0 (by decide) q972 rfl dX8_startGame_220 ?_
        refine lv_bipush (pc := 223) (v := (12 : Int32)) hx hb dX8_startGame_223 (by decide) ?_
        refine x_iald (pc := 225) (j := 12) E hP (by decide) sh8a1 0 rfl (vp_inl (by decide)) rfl dX8_startGame_225 ?_
        refine lv_isub (pc := 226) hx hb dX8_startGame_226 ?_
        obtain ⟨rfl, rfl⟩ := som2 h
        exact x_iret E hP hS rfl dX8_startGame_227
      · have h := (if_neg c24).symm.trans h
        refine lv_aload_n (pc := 196) hx hb dX8_startGame_196 rfl (lv_at hl 0 rfl) ?_
        refine x_get (pc := 197) (v := .ref (ad 1)) E hP (by decide) sh8 rfl inX8 0 (by decide) q972 rfl dX8_startGame_197 ?_
        refine lv_bipush (pc := 200) (v := (68 : Int32)) hx hb dX8_startGame_200 (by decide) ?_
        refine lv_iload_n (pc := 202) hx hb dX8_startGame_202 rfl (lv_at hl 1 rfl) ?_
        refine lv_iadd (pc := 203) hx hb dX8_startGame_203 ?_
        refine lv_iconst (pc := 204) (v := (0 : Int32)) hx hb dX8_startGame_204 (by decide) ?_
        obtain ⟨c25, h⟩ := ite_some h
        obtain ⟨M26, hM26, h⟩ := thn_ex h
        refine x_iast (pc := 205) (j := ((68 : Int32) + x1).toNatClampNeg) E hP hS (by decide) sh8a1 0 rfl (inb_in c25) rfl dX8_startGame_205 (fun H locs hP hS => ?_)
        rw [hM26] at hP
        refine lv_iinc (pc := 206) (v := (x1 + 1)) (lv' := [(1, .int (x1 + 1)), (0, .ref (ad 0))]) hx hb dX8_startGame_206 hl (k := 1) rfl rfl (by decide) rfl (fun ls hl => ?_)
        refine lv_goto (pc := 209) (tgt := 190) hx hb dX8_startGame_209 (by decide) ?_
        exact ih M26 (x1 + 1) _ _ _ h hP hS (lv_sub hl [1, 0] rfl)
  have hB126 : ∀ (M : Mem) (H : Heap) (locs : List Loc) (ls : Array Slot), fX8_startGame_B126 M = some (v, M') → va_P G vwCl (WW 7 (shR cA cZ cC ad) ad M) H → va_S (AW 7 ad) s.heap H locs → lv_has ls 2 [(0, .ref (ad 0))] → W p l e ({ frames := 5, cells := 0, slots := 0, locals := 110 } : Room) s m args below meth c H locs 0 0 (QI below G 7 (shR cA cZ cC ad) ad .int args s v M') (F0 m 126 ls []) := by
    intro M  H locs ls h hP hS hl
    unfold fX8_startGame_B126 at h
    refine lv_aload_n (pc := 126) hx hb dX8_startGame_126 rfl (lv_at hl 0 rfl) ?_
    refine x_get (pc := 127) (v := .ref (ad 1)) E hP (by decide) sh8 rfl inX8 0 (by decide) q972 rfl dX8_startGame_127 ?_
    refine lv_bipush (pc := 130) (v := (10 : Int32)) hx hb dX8_startGame_130 (by decide) ?_
    refine lv_iconst (pc := 132) (v := (1 : Int32)) hx hb dX8_startGame_132 (by decide) ?_
    obtain ⟨M14, hM14, h⟩ := thn_ex h
    refine x_iast (pc := 133) (j := 10) E hP hS (by decide) sh8a1 0 rfl (vp_inl (by decide)) rfl dX8_startGame_133 (fun H locs hP hS => ?_)
    rw [hM14] at hP
    refine lv_aload_n (pc := 134) hx hb dX8_startGame_134 rfl (lv_at hl 0 rfl) ?_
    refine x_get (pc := 135) (v := .ref (ad 1)) E hP (by decide) sh8 rfl inX8 0 (by decide) q972 rfl dX8_startGame_135 ?_
    refine lv_bipush (pc := 138) (v := (13 : Int32)) hx hb dX8_startGame_138 (by decide) ?_
    refine lv_aload_n (pc := 140) hx hb dX8_startGame_140 rfl (lv_at hl 0 rfl) ?_
    refine x_get (pc := 141) (v := .ref (ad 1)) E hP (by decide) sh8 rfl inX8 0 (by decide) q972 rfl dX8_startGame_141 ?_
    refine lv_bipush (pc := 144) (v := (9 : Int32)) hx hb dX8_startGame_144 (by decide) ?_
    refine x_iald (pc := 146) (j := 9) E hP (by decide) sh8a1 0 rfl (vp_inl (by decide)) rfl dX8_startGame_146 ?_
    obtain ⟨M15, hM15, h⟩ := thn_ex h
    refine x_iast (pc := 147) (j := 13) E hP hS (by decide) sh8a1 0 rfl (vp_inl (by decide)) rfl dX8_startGame_147 (fun H locs hP hS => ?_)
    rw [hM15] at hP
    refine lv_aload_n (pc := 148) hx hb dX8_startGame_148 rfl (lv_at hl 0 rfl) ?_
    refine x_get (pc := 149) (v := .ref (ad 1)) E hP (by decide) sh8 rfl inX8 0 (by decide) q972 rfl dX8_startGame_149 ?_
    refine lv_bipush (pc := 152) (v := (14 : Int32)) hx hb dX8_startGame_152 (by decide) ?_
    refine lv_iconst (pc := 154) (v := (0 : Int32)) hx hb dX8_startGame_154 (by decide) ?_
    obtain ⟨M16, hM16, h⟩ := thn_ex h
    refine x_iast (pc := 155) (j := 14) E hP hS (by decide) sh8a1 0 rfl (vp_inl (by decide)) rfl dX8_startGame_155 (fun H locs hP hS => ?_)
    rw [hM16] at hP
    refine lv_aload_n (pc := 156) hx hb dX8_startGame_156 rfl (lv_at hl 0 rfl) ?_
    refine x_get (pc := 157) (v := .ref (ad 1)) E hP (by decide) sh8 rfl inX8 0 (by decide) q972 rfl dX8_startGame_157 ?_
    refine lv_bipush (pc := 160) (v := (15 : Int32)) hx hb dX8_startGame_160 (by decide) ?_
    refine lv_iconst (pc := 162) (v := (0 : Int32)) hx hb dX8_startGame_162 (by decide) ?_
    obtain ⟨M17, hM17, h⟩ := thn_ex h
    refine x_iast (pc := 163) (j := 15) E hP hS (by decide) sh8a1 0 rfl (vp_inl (by decide)) rfl dX8_startGame_163 (fun H locs hP hS => ?_)
    rw [hM17] at hP
    refine lv_aload_n (pc := 164) hx hb dX8_startGame_164 rfl (lv_at hl 0 rfl) ?_
    refine x_get (pc := 165) (v := .ref (ad 1)) E hP (by decide) sh8 rfl inX8 0 (by decide) q972 rfl dX8_startGame_165 ?_
    refine lv_bipush (pc := 168) (v := (16 : Int32)) hx hb dX8_startGame_168 (by decide) ?_
    refine lv_aload_n (pc := 170) hx hb dX8_startGame_170 rfl (lv_at hl 0 rfl) ?_
    obtain ⟨y18, hy18, h⟩ := bnd_ex h
    refine x_callVi (pc := 171) (st := .ref (ad 0) :: .int (16 : Int32) :: .ref (ad 1) :: []) (As := []) E hEx hl.1 hP hS (kX8_notAtHome hap  M17  _ hy18) gX8_118 hdX8_notAtHome rfl (by decide) sh8 rfl ⟨Nat.le_of_ble_eq_true rfl, Nat.le_of_ble_eq_true rfl⟩ ⟨rfl, rfl⟩ dX8_startGame_171 rfl (Nat.le_of_ble_eq_true rfl) (fun H locs hP hS n19 => ?_)
    refine lv_aload_n (pc := 174) hx hb dX8_startGame_174 rfl (lv_at hl 0 rfl) ?_
    obtain ⟨y20, hy20, h⟩ := bnd_ex h
    refine x_callVi (pc := 175) (st := .ref (ad 0) :: .int y18 :: .int (16 : Int32) :: .ref (ad 1) :: []) (As := []) E hEx hl.1 hP hS (kX8_openOnes hap  M17  _ hy20) gX8_121 hdX8_openOnes rfl (by decide) sh8 rfl ⟨Nat.le_of_ble_eq_true rfl, Nat.le_of_ble_eq_true rfl⟩ ⟨rfl, rfl⟩ dX8_startGame_175 rfl (Nat.le_of_ble_eq_true rfl) (fun H locs hP hS n21 => ?_)
    refine lv_iadd (pc := 178) hx hb dX8_startGame_178 ?_
    obtain ⟨M22, hM22, h⟩ := thn_ex h
    refine x_iast (pc := 179) (j := 16) E hP hS (by decide) sh8a1 0 rfl (vp_inl (by decide)) rfl dX8_startGame_179 (fun H locs hP hS => ?_)
    rw [hM22] at hP
    refine lv_aload_n (pc := 180) hx hb dX8_startGame_180 rfl (lv_at hl 0 rfl) ?_
    refine x_get (pc := 181) (v := .ref (ad 1)) E hP (by decide) sh8 rfl inX8 0 (by decide) q972 rfl dX8_startGame_181 ?_
    refine lv_bipush (pc := 184) (v := (17 : Int32)) hx hb dX8_startGame_184 (by decide) ?_
    refine lv_iconst (pc := 186) (v := (0 : Int32)) hx hb dX8_startGame_186 (by decide) ?_
    obtain ⟨M23, hM23, h⟩ := thn_ex h
    refine x_iast (pc := 187) (j := 17) E hP hS (by decide) sh8a1 0 rfl (vp_inl (by decide)) rfl dX8_startGame_187 (fun H locs hP hS => ?_)
    rw [hM23] at hP
    refine lv_iconst (pc := 188) (v := (0 : Int32)) hx hb dX8_startGame_188 (by decide) ?_
    refine lv_istore_n (pc := 189) (lv' := [(1, .int (0 : Int32)), (0, .ref (ad 0))]) hx hb dX8_startGame_189 rfl hl (by decide) rfl (fun ls hl => ?_)
    exact hL190 5000 M23 (0 : Int32) _ _ _ h hP hS (lv_sub hl [1, 0] rfl)
  unfold fX8_startGame at h
  refine lv_aload_n (pc := 0) hx hb dX8_startGame_0 rfl (lv_at hl 0 rfl) ?_
  obtain ⟨y1, hy1, h⟩ := bnd_ex h
  refine x_callVi (pc := 1) (st := .ref (ad 0) :: []) (As := []) E hEx hl.1 hP hS (kX8_plays hap  M  _ hy1) gX8_105 hdX8_plays rfl (by decide) sh8 rfl ⟨Nat.le_of_ble_eq_true rfl, Nat.le_of_ble_eq_true rfl⟩ ⟨rfl, rfl⟩ dX8_startGame_1 rfl (Nat.le_of_ble_eq_true rfl) (fun H locs hP hS n2 => ?_)
  refine lv_if_ne (pc := 4) (tgt := 38) hx hb dX8_startGame_4 (by decide) (fun c3 => ?_) (fun c3 => ?_)
  · have h := (if_neg c3).symm.trans h
    refine lv_bipush (pc := 38) (v := (-4 : Int32)) hx hb dX8_startGame_38 (by decide) ?_
    obtain ⟨rfl, rfl⟩ := som2 h
    exact x_iret E hP hS rfl dX8_startGame_40
  · have h := (if_pos c3).symm.trans h
    refine lv_aload_n (pc := 7) hx hb dX8_startGame_7 rfl (lv_at hl 0 rfl) ?_
    refine x_get (pc := 8) (v := .ref (ad 1)) E hP (by decide) sh8 rfl inX8 0 (by decide) q972 rfl dX8_startGame_8 ?_
    refine lv_iconst (pc := 11) (v := (3 : Int32)) hx hb dX8_startGame_11 (by decide) ?_
    refine x_iald (pc := 12) (j := 3) E hP (by decide) sh8a1 0 rfl (vp_inl (by decide)) rfl dX8_startGame_12 ?_
    refine lv_if_eq (pc := 13) (tgt := 38) hx hb dX8_startGame_13 (by decide) (fun c4 => ?_) (fun c4 => ?_)
    · have h := (if_pos c4).symm.trans h
      refine lv_bipush (pc := 38) (v := (-4 : Int32)) hx hb dX8_startGame_38 (by decide) ?_
      obtain ⟨rfl, rfl⟩ := som2 h
      exact x_iret E hP hS rfl dX8_startGame_40
    · have h := (if_neg c4).symm.trans h
      refine lv_aload_n (pc := 16) hx hb dX8_startGame_16 rfl (lv_at hl 0 rfl) ?_
      refine x_get (pc := 17) (v := .ref (ad 1)) E hP (by decide) sh8 rfl inX8 0 (by decide) q972 rfl dX8_startGame_17 ?_
      refine lv_iconst (pc := 20) (v := (5 : Int32)) hx hb dX8_startGame_20 (by decide) ?_
      refine x_iald (pc := 21) (j := 5) E hP (by decide) sh8a1 0 rfl (vp_inl (by decide)) rfl dX8_startGame_21 ?_
      refine lv_if_eq (pc := 22) (tgt := 38) hx hb dX8_startGame_22 (by decide) (fun c5 => ?_) (fun c5 => ?_)
      · have h := (if_pos c5).symm.trans h
        refine lv_bipush (pc := 38) (v := (-4 : Int32)) hx hb dX8_startGame_38 (by decide) ?_
        obtain ⟨rfl, rfl⟩ := som2 h
        exact x_iret E hP hS rfl dX8_startGame_40
      · have h := (if_neg c5).symm.trans h
        refine lv_aload_n (pc := 25) hx hb dX8_startGame_25 rfl (lv_at hl 0 rfl) ?_
        refine lv_aload_n (pc := 26) hx hb dX8_startGame_26 rfl (lv_at hl 0 rfl) ?_
        refine x_get (pc := 27) (v := .ref (ad 1)) E hP (by decide) sh8 rfl inX8 0 (by decide) q972 rfl dX8_startGame_27 ?_
        refine lv_iconst (pc := 30) (v := (5 : Int32)) hx hb dX8_startGame_30 (by decide) ?_
        refine x_iald (pc := 31) (j := 5) E hP (by decide) sh8a1 0 rfl (vp_inl (by decide)) rfl dX8_startGame_31 ?_
        obtain ⟨y6, hy6, h⟩ := bnd_ex h
        refine x_callVi (pc := 32) (st := .int (M 1 5) :: .ref (ad 0) :: []) (As := [.int (M 1 5)]) E hEx hl.1 hP hS (kX8_isOpen hap  M _ _ hy6) gX8_34 hdX8_isOpen rfl (by decide) sh8 rfl ⟨Nat.le_of_ble_eq_true rfl, Nat.le_of_ble_eq_true rfl⟩ ⟨rfl, rfl⟩ dX8_startGame_32 rfl (Nat.le_of_ble_eq_true rfl) (fun H locs hP hS n7 => ?_)
        refine lv_if_eq (pc := 35) (tgt := 41) hx hb dX8_startGame_35 (by decide) (fun c8 => ?_) (fun c8 => ?_)
        · have h := (if_pos c8).symm.trans h
          refine lv_aload_n (pc := 41) hx hb dX8_startGame_41 rfl (lv_at hl 0 rfl) ?_
          refine x_get (pc := 42) (v := .ref (ad 1)) E hP (by decide) sh8 rfl inX8 0 (by decide) q972 rfl dX8_startGame_42 ?_
          refine lv_iconst (pc := 45) (v := (4 : Int32)) hx hb dX8_startGame_45 (by decide) ?_
          refine x_iald (pc := 46) (j := 4) E hP (by decide) sh8a1 0 rfl (vp_inl (by decide)) rfl dX8_startGame_46 ?_
          refine lv_bipush (pc := 47) (v := (30 : Int32)) hx hb dX8_startGame_47 (by decide) ?_
          refine lv_icmp_ne (pc := 49) (tgt := 55) hx hb dX8_startGame_49 (by decide) (fun c9 => ?_) (fun c9 => ?_)
          · have h := (if_neg c9).symm.trans h
            refine lv_aload_n (pc := 55) hx hb dX8_startGame_55 rfl (lv_at hl 0 rfl) ?_
            refine x_get (pc := 56) (v := .ref (ad 1)) E hP (by decide) sh8 rfl inX8 0 (by decide) q972 rfl dX8_startGame_56 ?_
            refine lv_bipush (pc := 59) (v := (11 : Int32)) hx hb dX8_startGame_59 (by decide) ?_
            refine lv_aload_n (pc := 61) hx hb dX8_startGame_61 rfl (lv_at hl 0 rfl) ?_
            refine x_get (pc := 62) (v := .ref (ad 1)) E hP (by decide) sh8 rfl inX8 0 (by decide) q972 rfl dX8_startGame_62 ?_
            refine lv_sipush (pc := 65) (v := (176 : Int32)) hx hb dX8_startGame_65 (by decide) ?_
            refine x_iald (pc := 68) (j := 176) E hP (by decide) sh8a1 0 rfl (vp_inl (by decide)) rfl dX8_startGame_68 ?_
            obtain ⟨M10, hM10, h⟩ := thn_ex h
            refine x_iast (pc := 69) (j := 11) E hP hS (by decide) sh8a1 0 rfl (vp_inl (by decide)) rfl dX8_startGame_69 (fun H locs hP hS => ?_)
            rw [hM10] at hP
            refine lv_aload_n (pc := 70) hx hb dX8_startGame_70 rfl (lv_at hl 0 rfl) ?_
            refine x_get (pc := 71) (v := .ref (ad 1)) E hP (by decide) sh8 rfl inX8 0 (by decide) q972 rfl dX8_startGame_71 ?_
            refine lv_bipush (pc := 74) (v := (12 : Int32)) hx hb dX8_startGame_74 (by decide) ?_
            refine lv_aload_n (pc := 76) hx hb dX8_startGame_76 rfl (lv_at hl 0 rfl) ?_
            refine x_get (pc := 77) (v := .ref (ad 1)) E hP (by decide) sh8 rfl inX8 0 (by decide) q972 rfl dX8_startGame_77 ?_
            refine lv_sipush (pc := 80) (v := (184 : Int32)) hx hb dX8_startGame_80 (by decide) ?_
            refine x_iald (pc := 83) (j := 184) E hP (by decide) sh8a1 0 rfl (vp_inl (by decide)) rfl dX8_startGame_83 ?_
            obtain ⟨M11, hM11, h⟩ := thn_ex h
            refine x_iast (pc := 84) (j := 12) E hP hS (by decide) sh8a1 0 rfl (vp_inl (by decide)) rfl dX8_startGame_84 (fun H locs hP hS => ?_)
            rw [hM11] at hP
            refine lv_aload_n (pc := 85) hx hb dX8_startGame_85 rfl (lv_at hl 0 rfl) ?_
            refine lv_iconst (pc := 86) (v := (0 : Int32)) hx hb dX8_startGame_86 (by decide) ?_
            obtain ⟨M12, hM12, h⟩ := bnd_ex h
            refine x_callVv (pc := 87) (st := .int (0 : Int32) :: .ref (ad 0) :: []) (As := [.int (0 : Int32)]) E hEx hl.1 hP hS (kX8_removeGroup hap  M11 _ _ hM12) gX8_112 hdX8_removeGroup rfl (by decide) sh8 rfl ⟨Nat.le_of_ble_eq_true rfl, Nat.le_of_ble_eq_true rfl⟩ ⟨rfl, rfl⟩ dX8_startGame_87 rfl (Nat.le_of_ble_eq_true rfl) (fun H locs hP hS => ?_)
            refine lv_aload_n (pc := 90) hx hb dX8_startGame_90 rfl (lv_at hl 0 rfl) ?_
            refine x_get (pc := 91) (v := .ref (ad 1)) E hP (by decide) sh8 rfl inX8 0 (by decide) q972 rfl dX8_startGame_91 ?_
            refine lv_bipush (pc := 94) (v := (12 : Int32)) hx hb dX8_startGame_94 (by decide) ?_
            refine x_iald (pc := 96) (j := 12) E hP (by decide) sh8a1 0 rfl (vp_inl (by decide)) rfl dX8_startGame_96 ?_
            refine lv_aload_n (pc := 97) hx hb dX8_startGame_97 rfl (lv_at hl 0 rfl) ?_
            refine x_get (pc := 98) (v := .ref (ad 1)) E hP (by decide) sh8 rfl inX8 0 (by decide) q972 rfl dX8_startGame_98 ?_
            refine lv_bipush (pc := 101) (v := (9 : Int32)) hx hb dX8_startGame_101 (by decide) ?_
            refine x_iald (pc := 103) (j := 9) E hP (by decide) sh8a1 0 rfl (vp_inl (by decide)) rfl dX8_startGame_103 ?_
            refine lv_icmp_le (pc := 104) (tgt := 126) hx hb dX8_startGame_104 (by decide) (fun c13 => ?_) (fun c13 => ?_)
            · have h := (if_pos c13).symm.trans h
              exact hB126 M12 _ _ _ h hP hS (lv_sub hl [0] rfl)
            · have h := (if_neg c13).symm.trans h
              refine lv_aload_n (pc := 107) hx hb dX8_startGame_107 rfl (lv_at hl 0 rfl) ?_
              refine lv_aload_n (pc := 108) hx hb dX8_startGame_108 rfl (lv_at hl 0 rfl) ?_
              refine x_get (pc := 109) (v := .ref (ad 1)) E hP (by decide) sh8 rfl inX8 0 (by decide) q972 rfl dX8_startGame_109 ?_
              refine lv_bipush (pc := 112) (v := (12 : Int32)) hx hb dX8_startGame_112 (by decide) ?_
              refine x_iald (pc := 114) (j := 12) E hP (by decide) sh8a1 0 rfl (vp_inl (by decide)) rfl dX8_startGame_114 ?_
              refine lv_aload_n (pc := 115) hx hb dX8_startGame_115 rfl (lv_at hl 0 rfl) ?_
              refine x_get (pc := 116) (v := .ref (ad 1)) E hP (by decide) sh8 rfl inX8 0 (by decide) q972 rfl dX8_startGame_116 ?_
              refine lv_bipush (pc := 119) (v := (9 : Int32)) hx hb dX8_startGame_119 (by decide) ?_
              refine x_iald (pc := 121) (j := 9) E hP (by decide) sh8a1 0 rfl (vp_inl (by decide)) rfl dX8_startGame_121 ?_
              refine lv_isub (pc := 122) hx hb dX8_startGame_122 ?_
              obtain ⟨M27, hM27, h⟩ := bnd_ex h
              refine x_callVv (pc := 123) (st := .int ((M12 1 12) - (M12 1 9)) :: .ref (ad 0) :: []) (As := [.int ((M12 1 12) - (M12 1 9))]) E hEx hl.1 hP hS (kX8_pass hap  M12 _ _ hM27) gX8_115 hdX8_pass rfl (by decide) sh8 rfl ⟨Nat.le_of_ble_eq_true rfl, Nat.le_of_ble_eq_true rfl⟩ ⟨rfl, rfl⟩ dX8_startGame_123 rfl (Nat.le_of_ble_eq_true rfl) (fun H locs hP hS => ?_)
              exact hB126 M27 _ _ _ h hP hS (lv_sub hl [0] rfl)
          · have h := (if_pos c9).symm.trans h
            refine lv_bipush (pc := 52) (v := (-3 : Int32)) hx hb dX8_startGame_52 (by decide) ?_
            obtain ⟨rfl, rfl⟩ := som2 h
            exact x_iret E hP hS rfl dX8_startGame_54
        · have h := (if_neg c8).symm.trans h
          refine lv_bipush (pc := 38) (v := (-4 : Int32)) hx hb dX8_startGame_38 (by decide) ?_
          obtain ⟨rfl, rfl⟩ := som2 h
          exact x_iret E hP hS rfl dX8_startGame_40
set_option maxRecDepth 100000 in
set_option maxHeartbeats 4000000 in
theorem kX8_note (hap : Apart 7 ad)   (M : Mem) (x1 x2 x3 : Int32) (M' : Mem) (h : fX8_note M x1 x2 x3 = some M') : RV G ad cA cZ cC yX8_note cX8_note 5 ({ frames := 0, cells := 0, slots := 0, locals := 0 } : Room) [.ref (ad 0), .int x1, .int x2, .int x3] M M' := by
  refine CV.mk (own := RX8) (ls0 := [(0, .ref (ad 0)), (1, .int x1), (2, .int x2), (3, .int x3)]) (by decide +kernel) rfl hap (Nat.le_of_ble_eq_true rfl) rfl ?_
  intro p l e s m args below meth c ls E hP hl
  have hx := E.1
  have hb := E.2.1
  have hown := E.2.2.2.2.2.1
  have hts := E.2.2.2.2.2.2.1
  have hEx := ExR.ok 7 ad
  have hS : va_S (AW 7 ad) s.heap s.heap [] := va_S.rf
  unfold fX8_note at h
  refine lv_sipush (pc := 0) (v := (402 : Int32)) hx hb dX8_note_0 (by decide) ?_
  refine lv_iconst (pc := 3) (v := (4 : Int32)) hx hb dX8_note_3 (by decide) ?_
  refine lv_aload_n (pc := 4) hx hb dX8_note_4 rfl (lv_at hl 0 rfl) ?_
  refine x_get (pc := 5) (v := .ref (ad 1)) E hP (by decide) sh8 rfl inX8 0 (by decide) q972 rfl dX8_note_5 ?_
  refine lv_bipush (pc := 8) (v := (17 : Int32)) hx hb dX8_note_8 (by decide) ?_
  refine x_iald (pc := 10) (j := 17) E hP (by decide) sh8a1 0 rfl (vp_inl (by decide)) rfl dX8_note_10 ?_
  refine lv_imul (pc := 11) hx hb dX8_note_11 ?_
  refine lv_iadd (pc := 12) hx hb dX8_note_12 ?_
  obtain ⟨y1, hy1, h⟩ := thn_ex h
  refine W.eq (g2 := F0 m 13 ls (.int y1 :: [])) (by rw [← hy1]) ?_
  refine lv_istore (pc := 13) (lv' := [(4, .int y1), (0, .ref (ad 0)), (1, .int x1), (2, .int x2), (3, .int x3)]) hx hb dX8_note_13 hl (by decide) rfl (fun ls hl => ?_)
  refine lv_aload_n (pc := 15) hx hb dX8_note_15 rfl (lv_at hl 1 rfl) ?_
  refine x_get (pc := 16) (v := .ref (ad 1)) E hP (by decide) sh8 rfl inX8 0 (by decide) q972 rfl dX8_note_16 ?_
  refine lv_iload (pc := 19) hx hb dX8_note_19 (lv_at hl 0 rfl) ?_
  refine lv_aload_n (pc := 21) hx hb dX8_note_21 rfl (lv_at hl 1 rfl) ?_
  refine x_get (pc := 22) (v := .ref (ad 1)) E hP (by decide) sh8 rfl inX8 0 (by decide) q972 rfl dX8_note_22 ?_
  refine lv_bipush (pc := 25) (v := (9 : Int32)) hx hb dX8_note_25 (by decide) ?_
  refine x_iald (pc := 27) (j := 9) E hP (by decide) sh8a1 0 rfl (vp_inl (by decide)) rfl dX8_note_27 ?_
  refine lv_aload_n (pc := 28) hx hb dX8_note_28 rfl (lv_at hl 1 rfl) ?_
  refine x_get (pc := 29) (v := .ref (ad 1)) E hP (by decide) sh8 rfl inX8 0 (by decide) q972 rfl dX8_note_29 ?_
  refine lv_bipush (pc := 32) (v := (13 : Int32)) hx hb dX8_note_32 (by decide) ?_
  refine x_iald (pc := 34) (j := 13) E hP (by decide) sh8a1 0 rfl (vp_inl (by decide)) rfl dX8_note_34 ?_
  refine lv_isub (pc := 35) hx hb dX8_note_35 ?_
  obtain ⟨c2, h⟩ := ite_some h
  obtain ⟨M3, hM3, h⟩ := thn_ex h
  refine x_iast (pc := 36) (j := y1.toNatClampNeg) E hP hS (by decide) sh8a1 0 rfl (inb_in c2) rfl dX8_note_36 (fun H locs hP hS => ?_)
  rw [hM3] at hP
  refine lv_aload_n (pc := 37) hx hb dX8_note_37 rfl (lv_at hl 1 rfl) ?_
  refine x_get (pc := 38) (v := .ref (ad 1)) E hP (by decide) sh8 rfl inX8 0 (by decide) q972 rfl dX8_note_38 ?_
  refine lv_iload (pc := 41) hx hb dX8_note_41 (lv_at hl 0 rfl) ?_
  refine lv_iconst (pc := 43) (v := (1 : Int32)) hx hb dX8_note_43 (by decide) ?_
  refine lv_iadd (pc := 44) hx hb dX8_note_44 ?_
  refine lv_iload_n (pc := 45) hx hb dX8_note_45 rfl (lv_at hl 2 rfl) ?_
  obtain ⟨c4, h⟩ := ite_some h
  obtain ⟨M5, hM5, h⟩ := thn_ex h
  refine x_iast (pc := 46) (j := (y1 + (1 : Int32)).toNatClampNeg) E hP hS (by decide) sh8a1 0 rfl (inb_in c4) rfl dX8_note_46 (fun H locs hP hS => ?_)
  rw [hM5] at hP
  refine lv_aload_n (pc := 47) hx hb dX8_note_47 rfl (lv_at hl 1 rfl) ?_
  refine x_get (pc := 48) (v := .ref (ad 1)) E hP (by decide) sh8 rfl inX8 0 (by decide) q972 rfl dX8_note_48 ?_
  refine lv_iload (pc := 51) hx hb dX8_note_51 (lv_at hl 0 rfl) ?_
  refine lv_iconst (pc := 53) (v := (2 : Int32)) hx hb dX8_note_53 (by decide) ?_
  refine lv_iadd (pc := 54) hx hb dX8_note_54 ?_
  refine lv_iload_n (pc := 55) hx hb dX8_note_55 rfl (lv_at hl 3 rfl) ?_
  obtain ⟨c6, h⟩ := ite_some h
  obtain ⟨M7, hM7, h⟩ := thn_ex h
  refine x_iast (pc := 56) (j := (y1 + (2 : Int32)).toNatClampNeg) E hP hS (by decide) sh8a1 0 rfl (inb_in c6) rfl dX8_note_56 (fun H locs hP hS => ?_)
  rw [hM7] at hP
  refine lv_aload_n (pc := 57) hx hb dX8_note_57 rfl (lv_at hl 1 rfl) ?_
  refine x_get (pc := 58) (v := .ref (ad 1)) E hP (by decide) sh8 rfl inX8 0 (by decide) q972 rfl dX8_note_58 ?_
  refine lv_iload (pc := 61) hx hb dX8_note_61 (lv_at hl 0 rfl) ?_
  refine lv_iconst (pc := 63) (v := (3 : Int32)) hx hb dX8_note_63 (by decide) ?_
  refine lv_iadd (pc := 64) hx hb dX8_note_64 ?_
  refine lv_iload_n (pc := 65) hx hb dX8_note_65 rfl (lv_at hl 4 rfl) ?_
  obtain ⟨c8, h⟩ := ite_some h
  obtain ⟨M9, hM9, h⟩ := thn_ex h
  refine x_iast (pc := 66) (j := (y1 + (3 : Int32)).toNatClampNeg) E hP hS (by decide) sh8a1 0 rfl (inb_in c8) rfl dX8_note_66 (fun H locs hP hS => ?_)
  rw [hM9] at hP
  refine lv_aload_n (pc := 67) hx hb dX8_note_67 rfl (lv_at hl 1 rfl) ?_
  refine x_get (pc := 68) (v := .ref (ad 1)) E hP (by decide) sh8 rfl inX8 0 (by decide) q972 rfl dX8_note_68 ?_
  refine lv_bipush (pc := 71) (v := (17 : Int32)) hx hb dX8_note_71 (by decide) ?_
  refine lv_dup2_11 (pc := 73) hx hb dX8_note_73 rfl rfl ?_
  refine x_iald (pc := 74) (j := 17) E hP (by decide) sh8a1 0 rfl (vp_inl (by decide)) rfl dX8_note_74 ?_
  refine lv_iconst (pc := 75) (v := (1 : Int32)) hx hb dX8_note_75 (by decide) ?_
  refine lv_iadd (pc := 76) hx hb dX8_note_76 ?_
  obtain ⟨M10, hM10, h⟩ := thn_ex h
  refine x_iast (pc := 77) (j := 17) E hP hS (by decide) sh8a1 0 rfl (vp_inl (by decide)) rfl dX8_note_77 (fun H locs hP hS => ?_)
  rw [hM10] at hP
  obtain rfl := som1 h
  exact x_vret E hP hS dX8_note_78
set_option maxRecDepth 100000 in
set_option maxHeartbeats 4000000 in
theorem kX8_end (hap : Apart 7 ad)   (M : Mem) (x1 : Int32) (M' : Mem) (h : fX8_end M x1 = some M') : RV G ad cA cZ cC yX8_end cX8_end 3 ({ frames := 1, cells := 0, slots := 0, locals := 21 } : Room) [.ref (ad 0), .int x1] M M' := by
  refine CV.mk (own := RX8) (ls0 := [(0, .ref (ad 0)), (1, .int x1)]) (by decide +kernel) rfl hap (Nat.le_of_ble_eq_true rfl) rfl ?_
  intro p l e s m args below meth c ls E hP hl
  have hx := E.1
  have hb := E.2.1
  have hown := E.2.2.2.2.2.1
  have hts := E.2.2.2.2.2.2.1
  have hEx := ExR.ok 7 ad
  have hS : va_S (AW 7 ad) s.heap s.heap [] := va_S.rf
  have hL2 : ∀ (n : Nat) (M : Mem) (x1 x2 : Int32) (H : Heap) (locs : List Loc) (ls : Array Slot), fX8_end_L2 n M x1 x2 = some M' → va_P G vwCl (WW 7 (shR cA cZ cC ad) ad M) H → va_S (AW 7 ad) s.heap H locs → lv_has ls 3 [(0, .ref (ad 0)), (1, .int x1), (2, .int x2)] → W p l e ({ frames := 1, cells := 0, slots := 0, locals := 21 } : Room) s m args below meth c H locs 0 0 (QV below G 7 (shR cA cZ cC ad) ad args s M') (F0 m 2 ls []) := by
    intro n
    induction n with
    | zero => intro M x1 x2 H locs ls h; cases h
    | succ n ih =>
      intro M x1 x2 H locs ls h hP hS hl
      rw [fX8_end_L2] at h
      refine lv_iload_n (pc := 2) hx hb dX8_end_2 rfl (lv_at hl 2 rfl) ?_
      refine lv_aload_n (pc := 3) hx hb dX8_end_3 rfl (lv_at hl 0 rfl) ?_
      refine x_get (pc := 4) (v := .ref (ad 1)) E hP (by decide) sh8 rfl inX8 0 (by decide) q972 rfl dX8_end_4 ?_
      refine lv_iconst (pc := 7) (v := (1 : Int32)) hx hb dX8_end_7 (by decide) ?_
      refine x_iald (pc := 8) (j := 1) E hP (by decide) sh8a1 0 rfl (vp_inl (by decide)) rfl dX8_end_8 ?_
      refine lv_icmp_ge (pc := 9) (tgt := 48) hx hb dX8_end_9 (by decide) (fun c1 => ?_) (fun c1 => ?_)
      · have h := (if_pos c1).symm.trans h
        refine lv_sipush (pc := 48) (v := (192 : Int32)) hx hb dX8_end_48 (by decide) ?_
        refine lv_bipush (pc := 51) (v := (7 : Int32)) hx hb dX8_end_51 (by decide) ?_
        refine lv_aload_n (pc := 53) hx hb dX8_end_53 rfl (lv_at hl 0 rfl) ?_
        refine x_get (pc := 54) (v := .ref (ad 1)) E hP (by decide) sh8 rfl inX8 0 (by decide) q972 rfl dX8_end_54 ?_
        refine lv_iconst (pc := 57) (v := (4 : Int32)) hx hb dX8_end_57 (by decide) ?_
        refine x_iald (pc := 58) (j := 4) E hP (by decide) sh8a1 0 rfl (vp_inl (by decide)) rfl dX8_end_58 ?_
        refine lv_imul (pc := 59) hx hb dX8_end_59 ?_
        refine lv_iadd (pc := 60) hx hb dX8_end_60 ?_
        obtain ⟨y2, hy2, h⟩ := thn_ex h
        refine W.eq (g2 := F0 m 61 ls (.int y2 :: [])) (by rw [← hy2]) ?_
        refine lv_istore_n (pc := 61) (lv' := [(2, .int y2), (0, .ref (ad 0)), (1, .int x1)]) hx hb dX8_end_61 rfl hl (by decide) rfl (fun ls hl => ?_)
        refine lv_aload_n (pc := 62) hx hb dX8_end_62 rfl (lv_at hl 1 rfl) ?_
        refine x_get (pc := 63) (v := .ref (ad 1)) E hP (by decide) sh8 rfl inX8 0 (by decide) q972 rfl dX8_end_63 ?_
        refine lv_iload_n (pc := 66) hx hb dX8_end_66 rfl (lv_at hl 0 rfl) ?_
        refine lv_aload_n (pc := 67) hx hb dX8_end_67 rfl (lv_at hl 1 rfl) ?_
        refine x_get (pc := 68) (v := .ref (ad 1)) E hP (by decide) sh8 rfl inX8 0 (by decide) q972 rfl dX8_end_68 ?_
        refine lv_bipush (pc := 71) (v := (11 : Int32)) hx hb dX8_end_71 (by decide) ?_
        refine x_iald (pc := 73) (j := 11) E hP (by decide) sh8a1 0 rfl (vp_inl (by decide)) rfl dX8_end_73 ?_
        obtain ⟨c3, h⟩ := ite_some h
        obtain ⟨M4, hM4, h⟩ := thn_ex h
        refine x_iast (pc := 74) (j := y2.toNatClampNeg) E hP hS (by decide) sh8a1 0 rfl (inb_in c3) rfl dX8_end_74 (fun H locs hP hS => ?_)
        rw [hM4] at hP
        refine lv_aload_n (pc := 75) hx hb dX8_end_75 rfl (lv_at hl 1 rfl) ?_
        refine x_get (pc := 76) (v := .ref (ad 1)) E hP (by decide) sh8 rfl inX8 0 (by decide) q972 rfl dX8_end_76 ?_
        refine lv_iload_n (pc := 79) hx hb dX8_end_79 rfl (lv_at hl 0 rfl) ?_
        refine lv_iconst (pc := 80) (v := (1 : Int32)) hx hb dX8_end_80 (by decide) ?_
        refine lv_iadd (pc := 81) hx hb dX8_end_81 ?_
        refine lv_aload_n (pc := 82) hx hb dX8_end_82 rfl (lv_at hl 1 rfl) ?_
        refine x_get (pc := 83) (v := .ref (ad 1)) E hP (by decide) sh8 rfl inX8 0 (by decide) q972 rfl dX8_end_83 ?_
        refine lv_bipush (pc := 86) (v := (12 : Int32)) hx hb dX8_end_86 (by decide) ?_
        refine x_iald (pc := 88) (j := 12) E hP (by decide) sh8a1 0 rfl (vp_inl (by decide)) rfl dX8_end_88 ?_
        obtain ⟨c5, h⟩ := ite_some h
        obtain ⟨M6, hM6, h⟩ := thn_ex h
        refine x_iast (pc := 89) (j := (y2 + (1 : Int32)).toNatClampNeg) E hP hS (by decide) sh8a1 0 rfl (inb_in c5) rfl dX8_end_89 (fun H locs hP hS => ?_)
        rw [hM6] at hP
        refine lv_aload_n (pc := 90) hx hb dX8_end_90 rfl (lv_at hl 1 rfl) ?_
        refine x_get (pc := 91) (v := .ref (ad 1)) E hP (by decide) sh8 rfl inX8 0 (by decide) q972 rfl dX8_end_91 ?_
        refine lv_iload_n (pc := 94) hx hb dX8_end_94 rfl (lv_at hl 0 rfl) ?_
        refine lv_iconst (pc := 95) (v := (2 : Int32)) hx hb dX8_end_95 (by decide) ?_
        refine lv_iadd (pc := 96) hx hb dX8_end_96 ?_
        refine lv_aload_n (pc := 97) hx hb dX8_end_97 rfl (lv_at hl 1 rfl) ?_
        refine x_get (pc := 98) (v := .ref (ad 1)) E hP (by decide) sh8 rfl inX8 0 (by decide) q972 rfl dX8_end_98 ?_
        refine lv_bipush (pc := 101) (v := (13 : Int32)) hx hb dX8_end_101 (by decide) ?_
        refine x_iald (pc := 103) (j := 13) E hP (by decide) sh8a1 0 rfl (vp_inl (by decide)) rfl dX8_end_103 ?_
        obtain ⟨c7, h⟩ := ite_some h
        obtain ⟨M8, hM8, h⟩ := thn_ex h
        refine x_iast (pc := 104) (j := (y2 + (2 : Int32)).toNatClampNeg) E hP hS (by decide) sh8a1 0 rfl (inb_in c7) rfl dX8_end_104 (fun H locs hP hS => ?_)
        rw [hM8] at hP
        refine lv_aload_n (pc := 105) hx hb dX8_end_105 rfl (lv_at hl 1 rfl) ?_
        refine x_get (pc := 106) (v := .ref (ad 1)) E hP (by decide) sh8 rfl inX8 0 (by decide) q972 rfl dX8_end_106 ?_
        refine lv_iload_n (pc := 109) hx hb dX8_end_109 rfl (lv_at hl 0 rfl) ?_
        refine lv_iconst (pc := 110) (v := (3 : Int32)) hx hb dX8_end_110 (by decide) ?_
        refine lv_iadd (pc := 111) hx hb dX8_end_111 ?_
        refine lv_aload_n (pc := 112) hx hb dX8_end_112 rfl (lv_at hl 1 rfl) ?_
        refine x_get (pc := 113) (v := .ref (ad 1)) E hP (by decide) sh8 rfl inX8 0 (by decide) q972 rfl dX8_end_113 ?_
        refine lv_bipush (pc := 116) (v := (9 : Int32)) hx hb dX8_end_116 (by decide) ?_
        refine x_iald (pc := 118) (j := 9) E hP (by decide) sh8a1 0 rfl (vp_inl (by decide)) rfl dX8_end_118 ?_
        refine lv_aload_n (pc := 119) hx hb dX8_end_119 rfl (lv_at hl 1 rfl) ?_
        refine x_get (pc := 120) (v := .ref (ad 1)) E hP (by decide) sh8 rfl inX8 0 (by decide) q972 rfl dX8_end_120 ?_
        refine lv_bipush (pc := 123) (v := (13 : Int32)) hx hb dX8_end_123 (by decide) ?_
        refine x_iald (pc := 125) (j := 13) E hP (by decide) sh8a1 0 rfl (vp_inl (by decide)) rfl dX8_end_125 ?_
        refine lv_isub (pc := 126) hx hb dX8_end_126 ?_
        obtain ⟨c9, h⟩ := ite_some h
        obtain ⟨M10, hM10, h⟩ := thn_ex h
        refine x_iast (pc := 127) (j := (y2 + (3 : Int32)).toNatClampNeg) E hP hS (by decide) sh8a1 0 rfl (inb_in c9) rfl dX8_end_127 (fun H locs hP hS => ?_)
        rw [hM10] at hP
        refine lv_aload_n (pc := 128) hx hb dX8_end_128 rfl (lv_at hl 1 rfl) ?_
        refine x_get (pc := 129) (v := .ref (ad 1)) E hP (by decide) sh8 rfl inX8 0 (by decide) q972 rfl dX8_end_129 ?_
        refine lv_iload_n (pc := 132) hx hb dX8_end_132 rfl (lv_at hl 0 rfl) ?_
        refine lv_iconst (pc := 133) (v := (4 : Int32)) hx hb dX8_end_133 (by decide) ?_
        refine lv_iadd (pc := 134) hx hb dX8_end_134 ?_
        refine lv_iload_n (pc := 135) hx hb dX8_end_135 rfl (lv_at hl 2 rfl) ?_
        obtain ⟨c11, h⟩ := ite_some h
        obtain ⟨M12, hM12, h⟩ := thn_ex h
        refine x_iast (pc := 136) (j := (y2 + (4 : Int32)).toNatClampNeg) E hP hS (by decide) sh8a1 0 rfl (inb_in c11) rfl dX8_end_136 (fun H locs hP hS => ?_)
        rw [hM12] at hP
        refine lv_aload_n (pc := 137) hx hb dX8_end_137 rfl (lv_at hl 1 rfl) ?_
        refine x_get (pc := 138) (v := .ref (ad 1)) E hP (by decide) sh8 rfl inX8 0 (by decide) q972 rfl dX8_end_138 ?_
        refine lv_iload_n (pc := 141) hx hb dX8_end_141 rfl (lv_at hl 0 rfl) ?_
        refine lv_iconst (pc := 142) (v := (5 : Int32)) hx hb dX8_end_142 (by decide) ?_
        refine lv_iadd (pc := 143) hx hb dX8_end_143 ?_
        refine lv_aload_n (pc := 144) hx hb dX8_end_144 rfl (lv_at hl 1 rfl) ?_
        refine x_get (pc := 145) (v := .ref (ad 1)) E hP (by decide) sh8 rfl inX8 0 (by decide) q972 rfl dX8_end_145 ?_
        refine lv_bipush (pc := 148) (v := (14 : Int32)) hx hb dX8_end_148 (by decide) ?_
        refine x_iald (pc := 150) (j := 14) E hP (by decide) sh8a1 0 rfl (vp_inl (by decide)) rfl dX8_end_150 ?_
        obtain ⟨c13, h⟩ := ite_some h
        obtain ⟨M14, hM14, h⟩ := thn_ex h
        refine x_iast (pc := 151) (j := (y2 + (5 : Int32)).toNatClampNeg) E hP hS (by decide) sh8a1 0 rfl (inb_in c13) rfl dX8_end_151 (fun H locs hP hS => ?_)
        rw [hM14] at hP
        refine lv_aload_n (pc := 152) hx hb dX8_end_152 rfl (lv_at hl 1 rfl) ?_
        refine x_get (pc := 153) (v := .ref (ad 1)) E hP (by decide) sh8 rfl inX8 0 (by decide) q972 rfl dX8_end_153 ?_
        refine lv_iload_n (pc := 156) hx hb dX8_end_156 rfl (lv_at hl 0 rfl) ?_
        refine lv_bipush (pc := 157) (v := (6 : Int32)) hx hb dX8_end_157 (by decide) ?_
        refine lv_iadd (pc := 159) hx hb dX8_end_159 ?_
        refine lv_aload_n (pc := 160) hx hb dX8_end_160 rfl (lv_at hl 1 rfl) ?_
        refine x_get (pc := 161) (v := .ref (ad 1)) E hP (by decide) sh8 rfl inX8 0 (by decide) q972 rfl dX8_end_161 ?_
        refine lv_bipush (pc := 164) (v := (16 : Int32)) hx hb dX8_end_164 (by decide) ?_
        refine x_iald (pc := 166) (j := 16) E hP (by decide) sh8a1 0 rfl (vp_inl (by decide)) rfl dX8_end_166 ?_
        obtain ⟨c15, h⟩ := ite_some h
        obtain ⟨M16, hM16, h⟩ := thn_ex h
        refine x_iast (pc := 167) (j := (y2 + (6 : Int32)).toNatClampNeg) E hP hS (by decide) sh8a1 0 rfl (inb_in c15) rfl dX8_end_167 (fun H locs hP hS => ?_)
        rw [hM16] at hP
        refine lv_aload_n (pc := 168) hx hb dX8_end_168 rfl (lv_at hl 1 rfl) ?_
        refine x_get (pc := 169) (v := .ref (ad 1)) E hP (by decide) sh8 rfl inX8 0 (by decide) q972 rfl dX8_end_169 ?_
        refine lv_iconst (pc := 172) (v := (4 : Int32)) hx hb dX8_end_172 (by decide) ?_
        refine lv_dup2_11 (pc := 173) hx hb dX8_end_173 rfl rfl ?_
        refine x_iald (pc := 174) (j := 4) E hP (by decide) sh8a1 0 rfl (vp_inl (by decide)) rfl dX8_end_174 ?_
        refine lv_iconst (pc := 175) (v := (1 : Int32)) hx hb dX8_end_175 (by decide) ?_
        refine lv_iadd (pc := 176) hx hb dX8_end_176 ?_
        obtain ⟨M17, hM17, h⟩ := thn_ex h
        refine x_iast (pc := 177) (j := 4) E hP hS (by decide) sh8a1 0 rfl (vp_inl (by decide)) rfl dX8_end_177 (fun H locs hP hS => ?_)
        rw [hM17] at hP
        refine lv_aload_n (pc := 178) hx hb dX8_end_178 rfl (lv_at hl 1 rfl) ?_
        refine x_get (pc := 179) (v := .ref (ad 1)) E hP (by decide) sh8 rfl inX8 0 (by decide) q972 rfl dX8_end_179 ?_
        refine lv_bipush (pc := 182) (v := (10 : Int32)) hx hb dX8_end_182 (by decide) ?_
        refine lv_iconst (pc := 184) (v := (0 : Int32)) hx hb dX8_end_184 (by decide) ?_
        obtain ⟨M18, hM18, h⟩ := thn_ex h
        refine x_iast (pc := 185) (j := 10) E hP hS (by decide) sh8a1 0 rfl (vp_inl (by decide)) rfl dX8_end_185 (fun H locs hP hS => ?_)
        rw [hM18] at hP
        obtain rfl := som1 h
        exact x_vret E hP hS dX8_end_186
      · have h := (if_neg c1).symm.trans h
        refine lv_aload_n (pc := 12) hx hb dX8_end_12 rfl (lv_at hl 0 rfl) ?_
        refine x_get (pc := 13) (v := .ref (ad 1)) E hP (by decide) sh8 rfl inX8 0 (by decide) q972 rfl dX8_end_13 ?_
        refine lv_bipush (pc := 16) (v := (104 : Int32)) hx hb dX8_end_16 (by decide) ?_
        refine lv_iload_n (pc := 18) hx hb dX8_end_18 rfl (lv_at hl 2 rfl) ?_
        refine lv_iadd (pc := 19) hx hb dX8_end_19 ?_
        refine lv_aload_n (pc := 20) hx hb dX8_end_20 rfl (lv_at hl 0 rfl) ?_
        refine lv_iload_n (pc := 21) hx hb dX8_end_21 rfl (lv_at hl 2 rfl) ?_
        obtain ⟨y19, hy19, h⟩ := bnd_ex h
        refine x_callVi (pc := 22) (st := .int x2 :: .ref (ad 0) :: .int ((104 : Int32) + x2) :: .ref (ad 1) :: []) (As := [.int x2]) E hEx hl.1 hP hS (kX8_isHeld hap  M _ _ hy19) gX8_45 hdX8_isHeld rfl (by decide) sh8 rfl ⟨Nat.le_of_ble_eq_true rfl, Nat.le_of_ble_eq_true rfl⟩ ⟨rfl, rfl⟩ dX8_end_22 rfl (Nat.le_of_ble_eq_true rfl) (fun H locs hP hS n20 => ?_)
        refine lv_if_eq (pc := 25) (tgt := 32) hx hb dX8_end_25 (by decide) (fun c21 => ?_) (fun c21 => ?_)
        · have h := (if_pos c21).symm.trans h
          refine lv_aload_n (pc := 32) hx hb dX8_end_32 rfl (lv_at hl 0 rfl) ?_
          refine x_get (pc := 33) (v := .ref (ad 1)) E hP (by decide) sh8 rfl inX8 0 (by decide) q972 rfl dX8_end_33 ?_
          refine lv_bipush (pc := 36) (v := (104 : Int32)) hx hb dX8_end_36 (by decide) ?_
          refine lv_iload_n (pc := 38) hx hb dX8_end_38 rfl (lv_at hl 2 rfl) ?_
          refine lv_iadd (pc := 39) hx hb dX8_end_39 ?_
          obtain ⟨c22, h⟩ := ite_some h
          refine x_iald (pc := 40) (j := ((104 : Int32) + x2).toNatClampNeg) E hP (by decide) sh8a1 0 rfl (inb_in c22) rfl dX8_end_40 ?_
          obtain ⟨c23, h⟩ := ite_some h
          obtain ⟨M24, hM24, h⟩ := thn_ex h
          refine x_iast (pc := 41) (j := ((104 : Int32) + x2).toNatClampNeg) E hP hS (by decide) sh8a1 0 rfl (inb_in c23) rfl dX8_end_41 (fun H locs hP hS => ?_)
          rw [hM24] at hP
          refine lv_iinc (pc := 42) (v := (x2 + 1)) (lv' := [(2, .int (x2 + 1)), (0, .ref (ad 0)), (1, .int x1)]) hx hb dX8_end_42 hl (k := 2) rfl rfl (by decide) rfl (fun ls hl => ?_)
          refine lv_goto (pc := 45) (tgt := 2) hx hb dX8_end_45 (by decide) ?_
          exact ih M24 x1 (x2 + 1) _ _ _ h hP hS (lv_sub hl [1, 2, 0] rfl)
        · have h := (if_neg c21).symm.trans h
          refine lv_iconst (pc := 28) (v := (0 : Int32)) hx hb dX8_end_28 (by decide) ?_
          refine lv_goto (pc := 29) (tgt := 41) hx hb dX8_end_29 (by decide) ?_
          obtain ⟨c25, h⟩ := ite_some h
          obtain ⟨M26, hM26, h⟩ := thn_ex h
          refine x_iast (pc := 41) (j := ((104 : Int32) + x2).toNatClampNeg) E hP hS (by decide) sh8a1 0 rfl (inb_in c25) rfl dX8_end_41 (fun H locs hP hS => ?_)
          rw [hM26] at hP
          refine lv_iinc (pc := 42) (v := (x2 + 1)) (lv' := [(2, .int (x2 + 1)), (0, .ref (ad 0)), (1, .int x1)]) hx hb dX8_end_42 hl (k := 2) rfl rfl (by decide) rfl (fun ls hl => ?_)
          refine lv_goto (pc := 45) (tgt := 2) hx hb dX8_end_45 (by decide) ?_
          exact ih M26 x1 (x2 + 1) _ _ _ h hP hS (lv_sub hl [1, 2, 0] rfl)
  unfold fX8_end at h
  refine lv_iconst (pc := 0) (v := (0 : Int32)) hx hb dX8_end_0 (by decide) ?_
  refine lv_istore_n (pc := 1) (lv' := [(2, .int (0 : Int32)), (0, .ref (ad 0)), (1, .int x1)]) hx hb dX8_end_1 rfl hl (by decide) rfl (fun ls hl => ?_)
  exact hL2 5000 M x1 (0 : Int32) _ _ _ h hP hS (lv_sub hl [1, 2, 0] rfl)
set_option maxRecDepth 100000 in
set_option maxHeartbeats 4000000 in
theorem kX8_minutesLeft (hap : Apart 7 ad)   (M : Mem)  (v : Int32) (h : fX8_minutesLeft M = some v) : RI G ad cA cZ cC yX8_minutesLeft cX8_minutesLeft 1 .int ({ frames := 0, cells := 0, slots := 0, locals := 0 } : Room) [.ref (ad 0)] M v M := by
  refine CI.mk (own := RX8) (ls0 := [(0, .ref (ad 0))]) (by decide +kernel) rfl hap (Nat.le_of_ble_eq_true rfl) rfl ?_
  intro p l e s m args below meth c ls E hP hl
  have hx := E.1
  have hb := E.2.1
  have hown := E.2.2.2.2.2.1
  have hts := E.2.2.2.2.2.2.1
  have hEx := ExR.ok 7 ad
  have hS : va_S (AW 7 ad) s.heap s.heap [] := va_S.rf
  unfold fX8_minutesLeft at h
  refine lv_aload_n (pc := 0) hx hb dX8_minutesLeft_0 rfl (lv_at hl 0 rfl) ?_
  refine x_get (pc := 1) (v := .ref (ad 1)) E hP (by decide) sh8 rfl inX8 0 (by decide) q972 rfl dX8_minutesLeft_1 ?_
  refine lv_bipush (pc := 4) (v := (13 : Int32)) hx hb dX8_minutesLeft_4 (by decide) ?_
  refine x_iald (pc := 6) (j := 13) E hP (by decide) sh8a1 0 rfl (vp_inl (by decide)) rfl dX8_minutesLeft_6 ?_
  refine lv_aload_n (pc := 7) hx hb dX8_minutesLeft_7 rfl (lv_at hl 0 rfl) ?_
  refine x_get (pc := 8) (v := .ref (ad 1)) E hP (by decide) sh8 rfl inX8 0 (by decide) q972 rfl dX8_minutesLeft_8 ?_
  refine lv_bipush (pc := 11) (v := (6 : Int32)) hx hb dX8_minutesLeft_11 (by decide) ?_
  refine x_iald (pc := 13) (j := 6) E hP (by decide) sh8a1 0 rfl (vp_inl (by decide)) rfl dX8_minutesLeft_13 ?_
  refine lv_iadd (pc := 14) hx hb dX8_minutesLeft_14 ?_
  refine lv_aload_n (pc := 15) hx hb dX8_minutesLeft_15 rfl (lv_at hl 0 rfl) ?_
  refine x_get (pc := 16) (v := .ref (ad 1)) E hP (by decide) sh8 rfl inX8 0 (by decide) q972 rfl dX8_minutesLeft_16 ?_
  refine lv_bipush (pc := 19) (v := (9 : Int32)) hx hb dX8_minutesLeft_19 (by decide) ?_
  refine x_iald (pc := 21) (j := 9) E hP (by decide) sh8a1 0 rfl (vp_inl (by decide)) rfl dX8_minutesLeft_21 ?_
  refine lv_isub (pc := 22) hx hb dX8_minutesLeft_22 ?_
  obtain rfl := som1 h
  exact x_iret E hP hS rfl dX8_minutesLeft_23
set_option maxRecDepth 100000 in
set_option maxHeartbeats 4000000 in
theorem kX8_lessHalf (hap : Apart 7 ad)   (M : Mem) (x1 : Int32) (v : Int32) (h : fX8_lessHalf M x1 = some v) : RI G ad cA cZ cC yX8_lessHalf cX8_lessHalf 3 .int ({ frames := 0, cells := 0, slots := 0, locals := 0 } : Room) [.ref (ad 0), .int x1] M v M := by
  refine CI.mk (own := RX8) (ls0 := [(0, .ref (ad 0)), (1, .int x1)]) (by decide +kernel) rfl hap (Nat.le_of_ble_eq_true rfl) rfl ?_
  intro p l e s m args below meth c ls E hP hl
  have hx := E.1
  have hb := E.2.1
  have hown := E.2.2.2.2.2.1
  have hts := E.2.2.2.2.2.2.1
  have hEx := ExR.ok 7 ad
  have hS : va_S (AW 7 ad) s.heap s.heap [] := va_S.rf
  unfold fX8_lessHalf at h
  refine lv_iload_n (pc := 0) hx hb dX8_lessHalf_0 rfl (lv_at hl 1 rfl) ?_
  refine lv_aload_n (pc := 1) hx hb dX8_lessHalf_1 rfl (lv_at hl 0 rfl) ?_
  refine x_get (pc := 2) (v := .ref (ad 1)) E hP (by decide) sh8 rfl inX8 0 (by decide) q972 rfl dX8_lessHalf_2 ?_
  refine lv_bipush (pc := 5) (v := (11 : Int32)) hx hb dX8_lessHalf_5 (by decide) ?_
  refine x_iald (pc := 7) (j := 11) E hP (by decide) sh8a1 0 rfl (vp_inl (by decide)) rfl dX8_lessHalf_7 ?_
  refine lv_iconst (pc := 8) (v := (2 : Int32)) hx hb dX8_lessHalf_8 (by decide) ?_
  refine lv_idiv (pc := 9) hx hb dX8_lessHalf_9 (by decide) ?_
  refine lv_isub (pc := 10) hx hb dX8_lessHalf_10 ?_
  obtain ⟨y1, hy1, h⟩ := thn_ex h
  refine W.eq (g2 := F0 m 11 ls (.int y1 :: [])) (by rw [← hy1]) ?_
  refine lv_istore_n (pc := 11) (lv' := [(2, .int y1), (0, .ref (ad 0)), (1, .int x1)]) hx hb dX8_lessHalf_11 rfl hl (by decide) rfl (fun ls hl => ?_)
  refine lv_iload_n (pc := 12) hx hb dX8_lessHalf_12 rfl (lv_at hl 0 rfl) ?_
  refine lv_iconst (pc := 13) (v := (1 : Int32)) hx hb dX8_lessHalf_13 (by decide) ?_
  refine lv_icmp_le (pc := 14) (tgt := 21) hx hb dX8_lessHalf_14 (by decide) (fun c2 => ?_) (fun c2 => ?_)
  · have h := (if_pos c2).symm.trans h
    refine lv_iconst (pc := 21) (v := (1 : Int32)) hx hb dX8_lessHalf_21 (by decide) ?_
    obtain rfl := som1 h
    exact x_iret E hP hS rfl dX8_lessHalf_22
  · have h := (if_neg c2).symm.trans h
    refine lv_iload_n (pc := 17) hx hb dX8_lessHalf_17 rfl (lv_at hl 0 rfl) ?_
    refine lv_goto (pc := 18) (tgt := 22) hx hb dX8_lessHalf_18 (by decide) ?_
    obtain rfl := som1 h
    exact x_iret E hP hS rfl dX8_lessHalf_22
set_option maxRecDepth 100000 in
set_option maxHeartbeats 4000000 in
theorem kX8_readMinutes (hap : Apart 7 ad)   (M : Mem) (x1 : Int32) (v : Int32) (h : fX8_readMinutes M x1 = some v) : RI G ad cA cZ cC yX8_readMinutes cX8_readMinutes 3 .int ({ frames := 1, cells := 0, slots := 0, locals := 22 } : Room) [.ref (ad 0), .int x1] M v M := by
  refine CI.mk (own := RX8) (ls0 := [(0, .ref (ad 0)), (1, .int x1)]) (by decide +kernel) rfl hap (Nat.le_of_ble_eq_true rfl) rfl ?_
  intro p l e s m args below meth c ls E hP hl
  have hx := E.1
  have hb := E.2.1
  have hown := E.2.2.2.2.2.1
  have hts := E.2.2.2.2.2.2.1
  have hEx := ExR.ok 7 ad
  have hS : va_S (AW 7 ad) s.heap s.heap [] := va_S.rf
  unfold fX8_readMinutes at h
  refine lv_aload_n (pc := 0) hx hb dX8_readMinutes_0 rfl (lv_at hl 0 rfl) ?_
  refine lv_iconst (pc := 1) (v := (3 : Int32)) hx hb dX8_readMinutes_1 (by decide) ?_
  obtain ⟨y1, hy1, h⟩ := bnd_ex h
  refine x_callVi (pc := 2) (st := .int (3 : Int32) :: .ref (ad 0) :: []) (As := [.int (3 : Int32)]) E hEx hl.1 hP hS (kX8_lessHalf hap  M _ _ hy1) gX8_124 hdX8_lessHalf rfl (by decide) sh8 rfl ⟨Nat.le_of_ble_eq_true rfl, Nat.le_of_ble_eq_true rfl⟩ ⟨rfl, rfl⟩ dX8_readMinutes_2 rfl (Nat.le_of_ble_eq_true rfl) (fun H locs hP hS n2 => ?_)
  refine lv_istore_n (pc := 5) (lv' := [(2, .int y1), (0, .ref (ad 0)), (1, .int x1)]) hx hb dX8_readMinutes_5 rfl hl (by decide) rfl (fun ls hl => ?_)
  refine lv_aload_n (pc := 6) hx hb dX8_readMinutes_6 rfl (lv_at hl 1 rfl) ?_
  refine x_get (pc := 7) (v := .ref (ad 1)) E hP (by decide) sh8 rfl inX8 0 (by decide) q972 rfl dX8_readMinutes_7 ?_
  refine lv_sipush (pc := 10) (v := (164 : Int32)) hx hb dX8_readMinutes_10 (by decide) ?_
  refine lv_iload_n (pc := 13) hx hb dX8_readMinutes_13 rfl (lv_at hl 2 rfl) ?_
  refine lv_iadd (pc := 14) hx hb dX8_readMinutes_14 ?_
  obtain ⟨c3, h⟩ := ite_some h
  refine x_iald (pc := 15) (j := ((164 : Int32) + x1).toNatClampNeg) E hP (by decide) sh8a1 0 rfl (inb_in c3) rfl dX8_readMinutes_15 ?_
  refine lv_iconst (pc := 16) (v := (4 : Int32)) hx hb dX8_readMinutes_16 (by decide) ?_
  refine lv_icmp_ge (pc := 17) (tgt := 26) hx hb dX8_readMinutes_17 (by decide) (fun c4 => ?_) (fun c4 => ?_)
  · have h := (if_pos c4).symm.trans h
    refine lv_iload_n (pc := 26) hx hb dX8_readMinutes_26 rfl (lv_at hl 0 rfl) ?_
    obtain rfl := som1 h
    exact x_iret E hP hS rfl dX8_readMinutes_27
  · have h := (if_neg c4).symm.trans h
    refine lv_iconst (pc := 20) (v := (2 : Int32)) hx hb dX8_readMinutes_20 (by decide) ?_
    refine lv_iload_n (pc := 21) hx hb dX8_readMinutes_21 rfl (lv_at hl 0 rfl) ?_
    refine lv_imul (pc := 22) hx hb dX8_readMinutes_22 ?_
    refine lv_goto (pc := 23) (tgt := 27) hx hb dX8_readMinutes_23 (by decide) ?_
    obtain rfl := som1 h
    exact x_iret E hP hS rfl dX8_readMinutes_27
set_option maxRecDepth 100000 in
set_option maxHeartbeats 4000000 in
theorem kX8_isOver (hap : Apart 7 ad)   (M : Mem) (x1 : Int32) (v : Int32) (M' : Mem) (h : fX8_isOver M x1 = some (v, M')) : RI G ad cA cZ cC yX8_isOver cX8_isOver 2 .boolean ({ frames := 5, cells := 0, slots := 0, locals := 110 } : Room) [.ref (ad 0), .int x1] M v M' := by
  refine CI.mk (own := RX8) (ls0 := [(0, .ref (ad 0)), (1, .int x1)]) (by decide +kernel) rfl hap (Nat.le_of_ble_eq_true rfl) rfl ?_
  intro p l e s m args below meth c ls E hP hl
  have hx := E.1
  have hb := E.2.1
  have hown := E.2.2.2.2.2.1
  have hts := E.2.2.2.2.2.2.1
  have hEx := ExR.ok 7 ad
  have hS : va_S (AW 7 ad) s.heap s.heap [] := va_S.rf
  unfold fX8_isOver at h
  refine lv_iload_n (pc := 0) hx hb dX8_isOver_0 rfl (lv_at hl 1 rfl) ?_
  refine lv_aload_n (pc := 1) hx hb dX8_isOver_1 rfl (lv_at hl 0 rfl) ?_
  obtain ⟨y1, hy1, h⟩ := bnd_ex h
  refine x_callVi (pc := 2) (st := .ref (ad 0) :: .int x1 :: []) (As := []) E hEx hl.1 hP hS (kX8_minutesLeft hap  M  _ hy1) gX8_127 hdX8_minutesLeft rfl (by decide) sh8 rfl ⟨Nat.le_of_ble_eq_true rfl, Nat.le_of_ble_eq_true rfl⟩ ⟨rfl, rfl⟩ dX8_isOver_2 rfl (Nat.le_of_ble_eq_true rfl) (fun H locs hP hS n2 => ?_)
  refine lv_icmp_gt (pc := 5) (tgt := 10) hx hb dX8_isOver_5 (by decide) (fun c3 => ?_) (fun c3 => ?_)
  · have h := (if_pos c3).symm.trans h
    refine lv_aload_n (pc := 10) hx hb dX8_isOver_10 rfl (lv_at hl 0 rfl) ?_
    refine lv_bipush (pc := 11) (v := (6 : Int32)) hx hb dX8_isOver_11 (by decide) ?_
    refine lv_iconst (pc := 13) (v := (0 : Int32)) hx hb dX8_isOver_13 (by decide) ?_
    refine lv_iconst (pc := 14) (v := (0 : Int32)) hx hb dX8_isOver_14 (by decide) ?_
    obtain ⟨M4, hM4, h⟩ := bnd_ex h
    refine x_callVv (pc := 15) (st := .int (0 : Int32) :: .int (0 : Int32) :: .int (6 : Int32) :: .ref (ad 0) :: []) (As := [.int (6 : Int32), .int (0 : Int32), .int (0 : Int32)]) E hEx hl.1 hP hS (kX8_note hap  M _ _ _ _ hM4) gX8_130 hdX8_note rfl (by decide) sh8 rfl ⟨Nat.le_of_ble_eq_true rfl, Nat.le_of_ble_eq_true rfl⟩ ⟨rfl, rfl⟩ dX8_isOver_15 rfl (Nat.le_of_ble_eq_true rfl) (fun H locs hP hS => ?_)
    refine lv_aload_n (pc := 18) hx hb dX8_isOver_18 rfl (lv_at hl 0 rfl) ?_
    refine lv_aload_n (pc := 19) hx hb dX8_isOver_19 rfl (lv_at hl 0 rfl) ?_
    obtain ⟨y5, hy5, h⟩ := bnd_ex h
    refine x_callVi (pc := 20) (st := .ref (ad 0) :: .ref (ad 0) :: []) (As := []) E hEx hl.1 hP hS (kX8_minutesLeft hap  M4  _ hy5) gX8_127 hdX8_minutesLeft rfl (by decide) sh8 rfl ⟨Nat.le_of_ble_eq_true rfl, Nat.le_of_ble_eq_true rfl⟩ ⟨rfl, rfl⟩ dX8_isOver_20 rfl (Nat.le_of_ble_eq_true rfl) (fun H locs hP hS n6 => ?_)
    obtain ⟨M7, hM7, h⟩ := bnd_ex h
    refine x_callVv (pc := 23) (st := .int y5 :: .ref (ad 0) :: []) (As := [.int y5]) E hEx hl.1 hP hS (kX8_pass hap  M4 _ _ hM7) gX8_115 hdX8_pass rfl (by decide) sh8 rfl ⟨Nat.le_of_ble_eq_true rfl, Nat.le_of_ble_eq_true rfl⟩ ⟨rfl, rfl⟩ dX8_isOver_23 rfl (Nat.le_of_ble_eq_true rfl) (fun H locs hP hS => ?_)
    refine lv_aload_n (pc := 26) hx hb dX8_isOver_26 rfl (lv_at hl 0 rfl) ?_
    refine lv_iconst (pc := 27) (v := (0 : Int32)) hx hb dX8_isOver_27 (by decide) ?_
    obtain ⟨M8, hM8, h⟩ := bnd_ex h
    refine x_callVv (pc := 28) (st := .int (0 : Int32) :: .ref (ad 0) :: []) (As := [.int (0 : Int32)]) E hEx hl.1 hP hS (kX8_end hap  M7 _ _ hM8) gX8_134 hdX8_end rfl (by decide) sh8 rfl ⟨Nat.le_of_ble_eq_true rfl, Nat.le_of_ble_eq_true rfl⟩ ⟨rfl, rfl⟩ dX8_isOver_28 rfl (Nat.le_of_ble_eq_true rfl) (fun H locs hP hS => ?_)
    refine lv_iconst (pc := 31) (v := (1 : Int32)) hx hb dX8_isOver_31 (by decide) ?_
    obtain ⟨rfl, rfl⟩ := som2 h
    exact x_iret E hP hS rfl dX8_isOver_32
  · have h := (if_neg c3).symm.trans h
    refine lv_iconst (pc := 8) (v := (0 : Int32)) hx hb dX8_isOver_8 (by decide) ?_
    obtain ⟨rfl, rfl⟩ := som2 h
    exact x_iret E hP hS rfl dX8_isOver_9
set_option maxRecDepth 100000 in
set_option maxHeartbeats 4000000 in
theorem kX8_take (hap : Apart 7 ad)   (M : Mem) (x1 : Int32) (v : Int32) (M' : Mem) (h : fX8_take M x1 = some (v, M')) : RI G ad cA cZ cC yX8_take cX8_take 2 .int ({ frames := 6, cells := 0, slots := 0, locals := 131 } : Room) [.ref (ad 0), .int x1] M v M' := by
  refine CI.mk (own := RX8) (ls0 := [(0, .ref (ad 0)), (1, .int x1)]) (by decide +kernel) rfl hap (Nat.le_of_ble_eq_true rfl) rfl ?_
  intro p l e s m args below meth c ls E hP hl
  have hx := E.1
  have hb := E.2.1
  have hown := E.2.2.2.2.2.1
  have hts := E.2.2.2.2.2.2.1
  have hEx := ExR.ok 7 ad
  have hS : va_S (AW 7 ad) s.heap s.heap [] := va_S.rf
  unfold fX8_take at h
  refine lv_aload_n (pc := 0) hx hb dX8_take_0 rfl (lv_at hl 0 rfl) ?_
  refine lv_iload_n (pc := 1) hx hb dX8_take_1 rfl (lv_at hl 1 rfl) ?_
  obtain ⟨y1, hy1, h⟩ := bnd_ex h
  refine x_callVi (pc := 2) (st := .int x1 :: .ref (ad 0) :: []) (As := [.int x1]) E hEx hl.1 hP hS (kX8_noProp hap  M _ _ hy1) gX8_102 hdX8_noProp rfl (by decide) sh8 rfl ⟨Nat.le_of_ble_eq_true rfl, Nat.le_of_ble_eq_true rfl⟩ ⟨rfl, rfl⟩ dX8_take_2 rfl (Nat.le_of_ble_eq_true rfl) (fun H locs hP hS n2 => ?_)
  refine lv_if_eq (pc := 5) (tgt := 10) hx hb dX8_take_5 (by decide) (fun c3 => ?_) (fun c3 => ?_)
  · have h := (if_pos c3).symm.trans h
    refine lv_aload_n (pc := 10) hx hb dX8_take_10 rfl (lv_at hl 0 rfl) ?_
    obtain ⟨y4, hy4, h⟩ := bnd_ex h
    refine x_callVi (pc := 11) (st := .ref (ad 0) :: []) (As := []) E hEx hl.1 hP hS (kX8_plays hap  M  _ hy4) gX8_105 hdX8_plays rfl (by decide) sh8 rfl ⟨Nat.le_of_ble_eq_true rfl, Nat.le_of_ble_eq_true rfl⟩ ⟨rfl, rfl⟩ dX8_take_11 rfl (Nat.le_of_ble_eq_true rfl) (fun H locs hP hS n5 => ?_)
    refine lv_if_eq (pc := 14) (tgt := 33) hx hb dX8_take_14 (by decide) (fun c6 => ?_) (fun c6 => ?_)
    · have h := (if_pos c6).symm.trans h
      refine lv_bipush (pc := 33) (v := (-4 : Int32)) hx hb dX8_take_33 (by decide) ?_
      obtain ⟨rfl, rfl⟩ := som2 h
      exact x_iret E hP hS rfl dX8_take_35
    · have h := (if_neg c6).symm.trans h
      refine lv_aload_n (pc := 17) hx hb dX8_take_17 rfl (lv_at hl 0 rfl) ?_
      refine lv_iload_n (pc := 18) hx hb dX8_take_18 rfl (lv_at hl 1 rfl) ?_
      obtain ⟨y7, hy7, h⟩ := bnd_ex h
      refine x_callVi (pc := 19) (st := .int x1 :: .ref (ad 0) :: []) (As := [.int x1]) E hEx hl.1 hP hS (kX8_isHeld hap  M _ _ hy7) gX8_45 hdX8_isHeld rfl (by decide) sh8 rfl ⟨Nat.le_of_ble_eq_true rfl, Nat.le_of_ble_eq_true rfl⟩ ⟨rfl, rfl⟩ dX8_take_19 rfl (Nat.le_of_ble_eq_true rfl) (fun H locs hP hS n8 => ?_)
      refine lv_if_ne (pc := 22) (tgt := 33) hx hb dX8_take_22 (by decide) (fun c9 => ?_) (fun c9 => ?_)
      · have h := (if_neg c9).symm.trans h
        refine lv_bipush (pc := 33) (v := (-4 : Int32)) hx hb dX8_take_33 (by decide) ?_
        obtain ⟨rfl, rfl⟩ := som2 h
        exact x_iret E hP hS rfl dX8_take_35
      · have h := (if_pos c9).symm.trans h
        refine lv_aload_n (pc := 25) hx hb dX8_take_25 rfl (lv_at hl 0 rfl) ?_
        refine lv_iload_n (pc := 26) hx hb dX8_take_26 rfl (lv_at hl 1 rfl) ?_
        obtain ⟨y10, hy10, h⟩ := bnd_ex h
        refine x_callVi (pc := 27) (st := .int x1 :: .ref (ad 0) :: []) (As := [.int x1]) E hEx hl.1 hP hS (kX8_propAtHand hap  M _ _ hy10) gX8_48 hdX8_propAtHand rfl (by decide) sh8 rfl ⟨Nat.le_of_ble_eq_true rfl, Nat.le_of_ble_eq_true rfl⟩ ⟨rfl, rfl⟩ dX8_take_27 rfl (Nat.le_of_ble_eq_true rfl) (fun H locs hP hS n11 => ?_)
        refine lv_if_ne (pc := 30) (tgt := 36) hx hb dX8_take_30 (by decide) (fun c12 => ?_) (fun c12 => ?_)
        · have h := (if_neg c12).symm.trans h
          refine lv_aload_n (pc := 36) hx hb dX8_take_36 rfl (lv_at hl 0 rfl) ?_
          obtain ⟨y13, hy13, h⟩ := bnd_ex h
          refine x_callVi (pc := 37) (st := .ref (ad 0) :: []) (As := []) E hEx hl.1 hP hS (kX8_held hap  M  _ hy13) gX8_137 hdX8_held rfl (by decide) sh8 rfl ⟨Nat.le_of_ble_eq_true rfl, Nat.le_of_ble_eq_true rfl⟩ ⟨rfl, rfl⟩ dX8_take_37 rfl (Nat.le_of_ble_eq_true rfl) (fun H locs hP hS n14 => ?_)
          refine lv_aload_n (pc := 40) hx hb dX8_take_40 rfl (lv_at hl 0 rfl) ?_
          refine x_get (pc := 41) (v := .ref (ad 1)) E hP (by decide) sh8 rfl inX8 0 (by decide) q972 rfl dX8_take_41 ?_
          refine lv_bipush (pc := 44) (v := (11 : Int32)) hx hb dX8_take_44 (by decide) ?_
          refine x_iald (pc := 46) (j := 11) E hP (by decide) sh8a1 0 rfl (vp_inl (by decide)) rfl dX8_take_46 ?_
          refine lv_icmp_lt (pc := 47) (tgt := 53) hx hb dX8_take_47 (by decide) (fun c15 => ?_) (fun c15 => ?_)
          · have h := (if_pos c15).symm.trans h
            refine lv_aload_n (pc := 53) hx hb dX8_take_53 rfl (lv_at hl 0 rfl) ?_
            refine lv_aload_n (pc := 54) hx hb dX8_take_54 rfl (lv_at hl 0 rfl) ?_
            refine lv_iconst (pc := 55) (v := (3 : Int32)) hx hb dX8_take_55 (by decide) ?_
            obtain ⟨y16, hy16, h⟩ := bnd_ex h
            refine x_callVi (pc := 56) (st := .int (3 : Int32) :: .ref (ad 0) :: .ref (ad 0) :: []) (As := [.int (3 : Int32)]) E hEx hl.1 hP hS (kX8_lessHalf hap  M _ _ hy16) gX8_124 hdX8_lessHalf rfl (by decide) sh8 rfl ⟨Nat.le_of_ble_eq_true rfl, Nat.le_of_ble_eq_true rfl⟩ ⟨rfl, rfl⟩ dX8_take_56 rfl (Nat.le_of_ble_eq_true rfl) (fun H locs hP hS n17 => ?_)
            obtain ⟨q18, hq18, h⟩ := bnd_ex h
            refine x_callVi (pc := 59) (st := .int y16 :: .ref (ad 0) :: []) (As := [.int y16]) E hEx hl.1 hP hS (kX8_isOver hap  M _ _ _ hq18) gX8_140 hdX8_isOver rfl (by decide) sh8 rfl ⟨Nat.le_of_ble_eq_true rfl, Nat.le_of_ble_eq_true rfl⟩ ⟨rfl, rfl⟩ dX8_take_59 rfl (Nat.le_of_ble_eq_true rfl) (fun H locs hP hS n19 => ?_)
            refine lv_if_eq (pc := 62) (tgt := 68) hx hb dX8_take_62 (by decide) (fun c20 => ?_) (fun c20 => ?_)
            · have h := (if_pos c20).symm.trans h
              refine lv_aload_n (pc := 68) hx hb dX8_take_68 rfl (lv_at hl 0 rfl) ?_
              refine lv_iconst (pc := 69) (v := (0 : Int32)) hx hb dX8_take_69 (by decide) ?_
              refine lv_iload_n (pc := 70) hx hb dX8_take_70 rfl (lv_at hl 1 rfl) ?_
              refine lv_iconst (pc := 71) (v := (0 : Int32)) hx hb dX8_take_71 (by decide) ?_
              obtain ⟨M21, hM21, h⟩ := bnd_ex h
              refine x_callVv (pc := 72) (st := .int (0 : Int32) :: .int x1 :: .int (0 : Int32) :: .ref (ad 0) :: []) (As := [.int (0 : Int32), .int x1, .int (0 : Int32)]) E hEx hl.1 hP hS (kX8_note hap  q18.2 _ _ _ _ hM21) gX8_130 hdX8_note rfl (by decide) sh8 rfl ⟨Nat.le_of_ble_eq_true rfl, Nat.le_of_ble_eq_true rfl⟩ ⟨rfl, rfl⟩ dX8_take_72 rfl (Nat.le_of_ble_eq_true rfl) (fun H locs hP hS => ?_)
              refine lv_aload_n (pc := 75) hx hb dX8_take_75 rfl (lv_at hl 0 rfl) ?_
              refine x_get (pc := 76) (v := .ref (ad 1)) E hP (by decide) sh8 rfl inX8 0 (by decide) q972 rfl dX8_take_76 ?_
              refine lv_bipush (pc := 79) (v := (104 : Int32)) hx hb dX8_take_79 (by decide) ?_
              refine lv_iload_n (pc := 81) hx hb dX8_take_81 rfl (lv_at hl 1 rfl) ?_
              refine lv_iadd (pc := 82) hx hb dX8_take_82 ?_
              refine lv_iconst (pc := 83) (v := (-1 : Int32)) hx hb dX8_take_83 (by decide) ?_
              obtain ⟨c22, h⟩ := ite_some h
              obtain ⟨M23, hM23, h⟩ := thn_ex h
              refine x_iast (pc := 84) (j := ((104 : Int32) + x1).toNatClampNeg) E hP hS (by decide) sh8a1 0 rfl (inb_in c22) rfl dX8_take_84 (fun H locs hP hS => ?_)
              rw [hM23] at hP
              refine lv_aload_n (pc := 85) hx hb dX8_take_85 rfl (lv_at hl 0 rfl) ?_
              refine lv_aload_n (pc := 86) hx hb dX8_take_86 rfl (lv_at hl 0 rfl) ?_
              refine lv_iconst (pc := 87) (v := (3 : Int32)) hx hb dX8_take_87 (by decide) ?_
              obtain ⟨y24, hy24, h⟩ := bnd_ex h
              refine x_callVi (pc := 88) (st := .int (3 : Int32) :: .ref (ad 0) :: .ref (ad 0) :: []) (As := [.int (3 : Int32)]) E hEx hl.1 hP hS (kX8_lessHalf hap  M23 _ _ hy24) gX8_124 hdX8_lessHalf rfl (by decide) sh8 rfl ⟨Nat.le_of_ble_eq_true rfl, Nat.le_of_ble_eq_true rfl⟩ ⟨rfl, rfl⟩ dX8_take_88 rfl (Nat.le_of_ble_eq_true rfl) (fun H locs hP hS n25 => ?_)
              obtain ⟨M26, hM26, h⟩ := bnd_ex h
              refine x_callVv (pc := 91) (st := .int y24 :: .ref (ad 0) :: []) (As := [.int y24]) E hEx hl.1 hP hS (kX8_pass hap  M23 _ _ hM26) gX8_115 hdX8_pass rfl (by decide) sh8 rfl ⟨Nat.le_of_ble_eq_true rfl, Nat.le_of_ble_eq_true rfl⟩ ⟨rfl, rfl⟩ dX8_take_91 rfl (Nat.le_of_ble_eq_true rfl) (fun H locs hP hS => ?_)
              refine lv_aload_n (pc := 94) hx hb dX8_take_94 rfl (lv_at hl 0 rfl) ?_
              obtain ⟨y27, hy27, h⟩ := bnd_ex h
              refine x_callVi (pc := 95) (st := .ref (ad 0) :: []) (As := []) E hEx hl.1 hP hS (kX8_held hap  M26  _ hy27) gX8_137 hdX8_held rfl (by decide) sh8 rfl ⟨Nat.le_of_ble_eq_true rfl, Nat.le_of_ble_eq_true rfl⟩ ⟨rfl, rfl⟩ dX8_take_95 rfl (Nat.le_of_ble_eq_true rfl) (fun H locs hP hS n28 => ?_)
              obtain ⟨rfl, rfl⟩ := som2 h
              exact x_iret E hP hS rfl dX8_take_98
            · have h := (if_neg c20).symm.trans h
              refine lv_bipush (pc := 65) (v := (-6 : Int32)) hx hb dX8_take_65 (by decide) ?_
              obtain ⟨rfl, rfl⟩ := som2 h
              exact x_iret E hP hS rfl dX8_take_67
          · have h := (if_neg c15).symm.trans h
            refine lv_bipush (pc := 50) (v := (-3 : Int32)) hx hb dX8_take_50 (by decide) ?_
            obtain ⟨rfl, rfl⟩ := som2 h
            exact x_iret E hP hS rfl dX8_take_52
        · have h := (if_pos c12).symm.trans h
          refine lv_bipush (pc := 33) (v := (-4 : Int32)) hx hb dX8_take_33 (by decide) ?_
          obtain ⟨rfl, rfl⟩ := som2 h
          exact x_iret E hP hS rfl dX8_take_35
  · have h := (if_neg c3).symm.trans h
    refine lv_iconst (pc := 8) (v := (-1 : Int32)) hx hb dX8_take_8 (by decide) ?_
    obtain ⟨rfl, rfl⟩ := som2 h
    exact x_iret E hP hS rfl dX8_take_9
set_option maxRecDepth 100000 in
set_option maxHeartbeats 4000000 in
theorem kX8_lay (hap : Apart 7 ad)   (M : Mem) (x1 x2 : Int32) (v : Int32) (M' : Mem) (h : fX8_lay M x1 x2 = some (v, M')) : RI G ad cA cZ cC yX8_lay cX8_lay 3 .int ({ frames := 6, cells := 0, slots := 0, locals := 131 } : Room) [.ref (ad 0), .int x1, .int x2] M v M' := by
  refine CI.mk (own := RX8) (ls0 := [(0, .ref (ad 0)), (1, .int x1), (2, .int x2)]) (by decide +kernel) rfl hap (Nat.le_of_ble_eq_true rfl) rfl ?_
  intro p l e s m args below meth c ls E hP hl
  have hx := E.1
  have hb := E.2.1
  have hown := E.2.2.2.2.2.1
  have hts := E.2.2.2.2.2.2.1
  have hEx := ExR.ok 7 ad
  have hS : va_S (AW 7 ad) s.heap s.heap [] := va_S.rf
  unfold fX8_lay at h
  refine lv_aload_n (pc := 0) hx hb dX8_lay_0 rfl (lv_at hl 0 rfl) ?_
  refine lv_iload_n (pc := 1) hx hb dX8_lay_1 rfl (lv_at hl 1 rfl) ?_
  obtain ⟨y1, hy1, h⟩ := bnd_ex h
  refine x_callVi (pc := 2) (st := .int x1 :: .ref (ad 0) :: []) (As := [.int x1]) E hEx hl.1 hP hS (kX8_noProp hap  M _ _ hy1) gX8_102 hdX8_noProp rfl (by decide) sh8 rfl ⟨Nat.le_of_ble_eq_true rfl, Nat.le_of_ble_eq_true rfl⟩ ⟨rfl, rfl⟩ dX8_lay_2 rfl (Nat.le_of_ble_eq_true rfl) (fun H locs hP hS n2 => ?_)
  refine lv_if_ne (pc := 5) (tgt := 16) hx hb dX8_lay_5 (by decide) (fun c3 => ?_) (fun c3 => ?_)
  · have h := (if_neg c3).symm.trans h
    refine lv_iconst (pc := 16) (v := (-1 : Int32)) hx hb dX8_lay_16 (by decide) ?_
    obtain ⟨rfl, rfl⟩ := som2 h
    exact x_iret E hP hS rfl dX8_lay_17
  · have h := (if_pos c3).symm.trans h
    refine lv_aload_n (pc := 8) hx hb dX8_lay_8 rfl (lv_at hl 0 rfl) ?_
    refine lv_iload_n (pc := 9) hx hb dX8_lay_9 rfl (lv_at hl 2 rfl) ?_
    obtain ⟨y4, hy4, h⟩ := bnd_ex h
    refine x_callVi (pc := 10) (st := .int x2 :: .ref (ad 0) :: []) (As := [.int x2]) E hEx hl.1 hP hS (kX8_noBox hap  M _ _ hy4) gX8_99 hdX8_noBox rfl (by decide) sh8 rfl ⟨Nat.le_of_ble_eq_true rfl, Nat.le_of_ble_eq_true rfl⟩ ⟨rfl, rfl⟩ dX8_lay_10 rfl (Nat.le_of_ble_eq_true rfl) (fun H locs hP hS n5 => ?_)
    refine lv_if_eq (pc := 13) (tgt := 18) hx hb dX8_lay_13 (by decide) (fun c6 => ?_) (fun c6 => ?_)
    · have h := (if_pos c6).symm.trans h
      refine lv_aload_n (pc := 18) hx hb dX8_lay_18 rfl (lv_at hl 0 rfl) ?_
      obtain ⟨y7, hy7, h⟩ := bnd_ex h
      refine x_callVi (pc := 19) (st := .ref (ad 0) :: []) (As := []) E hEx hl.1 hP hS (kX8_plays hap  M  _ hy7) gX8_105 hdX8_plays rfl (by decide) sh8 rfl ⟨Nat.le_of_ble_eq_true rfl, Nat.le_of_ble_eq_true rfl⟩ ⟨rfl, rfl⟩ dX8_lay_19 rfl (Nat.le_of_ble_eq_true rfl) (fun H locs hP hS n8 => ?_)
      refine lv_if_eq (pc := 22) (tgt := 49) hx hb dX8_lay_22 (by decide) (fun c9 => ?_) (fun c9 => ?_)
      · have h := (if_pos c9).symm.trans h
        refine lv_bipush (pc := 49) (v := (-4 : Int32)) hx hb dX8_lay_49 (by decide) ?_
        obtain ⟨rfl, rfl⟩ := som2 h
        exact x_iret E hP hS rfl dX8_lay_51
      · have h := (if_neg c9).symm.trans h
        refine lv_aload_n (pc := 25) hx hb dX8_lay_25 rfl (lv_at hl 0 rfl) ?_
        refine lv_iload_n (pc := 26) hx hb dX8_lay_26 rfl (lv_at hl 1 rfl) ?_
        obtain ⟨y10, hy10, h⟩ := bnd_ex h
        refine x_callVi (pc := 27) (st := .int x1 :: .ref (ad 0) :: []) (As := [.int x1]) E hEx hl.1 hP hS (kX8_isHeld hap  M _ _ hy10) gX8_45 hdX8_isHeld rfl (by decide) sh8 rfl ⟨Nat.le_of_ble_eq_true rfl, Nat.le_of_ble_eq_true rfl⟩ ⟨rfl, rfl⟩ dX8_lay_27 rfl (Nat.le_of_ble_eq_true rfl) (fun H locs hP hS n11 => ?_)
        refine lv_if_eq (pc := 30) (tgt := 49) hx hb dX8_lay_30 (by decide) (fun c12 => ?_) (fun c12 => ?_)
        · have h := (if_pos c12).symm.trans h
          refine lv_bipush (pc := 49) (v := (-4 : Int32)) hx hb dX8_lay_49 (by decide) ?_
          obtain ⟨rfl, rfl⟩ := som2 h
          exact x_iret E hP hS rfl dX8_lay_51
        · have h := (if_neg c12).symm.trans h
          refine lv_aload_n (pc := 33) hx hb dX8_lay_33 rfl (lv_at hl 0 rfl) ?_
          refine lv_iload_n (pc := 34) hx hb dX8_lay_34 rfl (lv_at hl 2 rfl) ?_
          obtain ⟨y13, hy13, h⟩ := bnd_ex h
          refine x_callVi (pc := 35) (st := .int x2 :: .ref (ad 0) :: []) (As := [.int x2]) E hEx hl.1 hP hS (kX8_isOpen hap  M _ _ hy13) gX8_34 hdX8_isOpen rfl (by decide) sh8 rfl ⟨Nat.le_of_ble_eq_true rfl, Nat.le_of_ble_eq_true rfl⟩ ⟨rfl, rfl⟩ dX8_lay_35 rfl (Nat.le_of_ble_eq_true rfl) (fun H locs hP hS n14 => ?_)
          refine lv_if_eq (pc := 38) (tgt := 49) hx hb dX8_lay_38 (by decide) (fun c15 => ?_) (fun c15 => ?_)
          · have h := (if_pos c15).symm.trans h
            refine lv_bipush (pc := 49) (v := (-4 : Int32)) hx hb dX8_lay_49 (by decide) ?_
            obtain ⟨rfl, rfl⟩ := som2 h
            exact x_iret E hP hS rfl dX8_lay_51
          · have h := (if_neg c15).symm.trans h
            refine lv_aload_n (pc := 41) hx hb dX8_lay_41 rfl (lv_at hl 0 rfl) ?_
            refine lv_iload_n (pc := 42) hx hb dX8_lay_42 rfl (lv_at hl 2 rfl) ?_
            obtain ⟨y16, hy16, h⟩ := bnd_ex h
            refine x_callVi (pc := 43) (st := .int x2 :: .ref (ad 0) :: []) (As := [.int x2]) E hEx hl.1 hP hS (kX8_boxAtHand hap  M _ _ hy16) gX8_143 hdX8_boxAtHand rfl (by decide) sh8 rfl ⟨Nat.le_of_ble_eq_true rfl, Nat.le_of_ble_eq_true rfl⟩ ⟨rfl, rfl⟩ dX8_lay_43 rfl (Nat.le_of_ble_eq_true rfl) (fun H locs hP hS n17 => ?_)
            refine lv_if_ne (pc := 46) (tgt := 52) hx hb dX8_lay_46 (by decide) (fun c18 => ?_) (fun c18 => ?_)
            · have h := (if_neg c18).symm.trans h
              refine lv_aload_n (pc := 52) hx hb dX8_lay_52 rfl (lv_at hl 0 rfl) ?_
              refine lv_aload_n (pc := 53) hx hb dX8_lay_53 rfl (lv_at hl 0 rfl) ?_
              refine lv_iconst (pc := 54) (v := (2 : Int32)) hx hb dX8_lay_54 (by decide) ?_
              obtain ⟨y19, hy19, h⟩ := bnd_ex h
              refine x_callVi (pc := 55) (st := .int (2 : Int32) :: .ref (ad 0) :: .ref (ad 0) :: []) (As := [.int (2 : Int32)]) E hEx hl.1 hP hS (kX8_lessHalf hap  M _ _ hy19) gX8_124 hdX8_lessHalf rfl (by decide) sh8 rfl ⟨Nat.le_of_ble_eq_true rfl, Nat.le_of_ble_eq_true rfl⟩ ⟨rfl, rfl⟩ dX8_lay_55 rfl (Nat.le_of_ble_eq_true rfl) (fun H locs hP hS n20 => ?_)
              obtain ⟨q21, hq21, h⟩ := bnd_ex h
              refine x_callVi (pc := 58) (st := .int y19 :: .ref (ad 0) :: []) (As := [.int y19]) E hEx hl.1 hP hS (kX8_isOver hap  M _ _ _ hq21) gX8_140 hdX8_isOver rfl (by decide) sh8 rfl ⟨Nat.le_of_ble_eq_true rfl, Nat.le_of_ble_eq_true rfl⟩ ⟨rfl, rfl⟩ dX8_lay_58 rfl (Nat.le_of_ble_eq_true rfl) (fun H locs hP hS n22 => ?_)
              refine lv_if_eq (pc := 61) (tgt := 67) hx hb dX8_lay_61 (by decide) (fun c23 => ?_) (fun c23 => ?_)
              · have h := (if_pos c23).symm.trans h
                refine lv_aload_n (pc := 67) hx hb dX8_lay_67 rfl (lv_at hl 0 rfl) ?_
                refine lv_iconst (pc := 68) (v := (1 : Int32)) hx hb dX8_lay_68 (by decide) ?_
                refine lv_iload_n (pc := 69) hx hb dX8_lay_69 rfl (lv_at hl 1 rfl) ?_
                refine lv_iload_n (pc := 70) hx hb dX8_lay_70 rfl (lv_at hl 2 rfl) ?_
                obtain ⟨M24, hM24, h⟩ := bnd_ex h
                refine x_callVv (pc := 71) (st := .int x2 :: .int x1 :: .int (1 : Int32) :: .ref (ad 0) :: []) (As := [.int (1 : Int32), .int x1, .int x2]) E hEx hl.1 hP hS (kX8_note hap  q21.2 _ _ _ _ hM24) gX8_130 hdX8_note rfl (by decide) sh8 rfl ⟨Nat.le_of_ble_eq_true rfl, Nat.le_of_ble_eq_true rfl⟩ ⟨rfl, rfl⟩ dX8_lay_71 rfl (Nat.le_of_ble_eq_true rfl) (fun H locs hP hS => ?_)
                refine lv_aload_n (pc := 74) hx hb dX8_lay_74 rfl (lv_at hl 0 rfl) ?_
                refine x_get (pc := 75) (v := .ref (ad 1)) E hP (by decide) sh8 rfl inX8 0 (by decide) q972 rfl dX8_lay_75 ?_
                refine lv_bipush (pc := 78) (v := (104 : Int32)) hx hb dX8_lay_78 (by decide) ?_
                refine lv_iload_n (pc := 80) hx hb dX8_lay_80 rfl (lv_at hl 1 rfl) ?_
                refine lv_iadd (pc := 81) hx hb dX8_lay_81 ?_
                refine lv_iload_n (pc := 82) hx hb dX8_lay_82 rfl (lv_at hl 2 rfl) ?_
                obtain ⟨c25, h⟩ := ite_some h
                obtain ⟨M26, hM26, h⟩ := thn_ex h
                refine x_iast (pc := 83) (j := ((104 : Int32) + x1).toNatClampNeg) E hP hS (by decide) sh8a1 0 rfl (inb_in c25) rfl dX8_lay_83 (fun H locs hP hS => ?_)
                rw [hM26] at hP
                refine lv_aload_n (pc := 84) hx hb dX8_lay_84 rfl (lv_at hl 0 rfl) ?_
                refine lv_aload_n (pc := 85) hx hb dX8_lay_85 rfl (lv_at hl 0 rfl) ?_
                refine lv_iconst (pc := 86) (v := (2 : Int32)) hx hb dX8_lay_86 (by decide) ?_
                obtain ⟨y27, hy27, h⟩ := bnd_ex h
                refine x_callVi (pc := 87) (st := .int (2 : Int32) :: .ref (ad 0) :: .ref (ad 0) :: []) (As := [.int (2 : Int32)]) E hEx hl.1 hP hS (kX8_lessHalf hap  M26 _ _ hy27) gX8_124 hdX8_lessHalf rfl (by decide) sh8 rfl ⟨Nat.le_of_ble_eq_true rfl, Nat.le_of_ble_eq_true rfl⟩ ⟨rfl, rfl⟩ dX8_lay_87 rfl (Nat.le_of_ble_eq_true rfl) (fun H locs hP hS n28 => ?_)
                obtain ⟨M29, hM29, h⟩ := bnd_ex h
                refine x_callVv (pc := 90) (st := .int y27 :: .ref (ad 0) :: []) (As := [.int y27]) E hEx hl.1 hP hS (kX8_pass hap  M26 _ _ hM29) gX8_115 hdX8_pass rfl (by decide) sh8 rfl ⟨Nat.le_of_ble_eq_true rfl, Nat.le_of_ble_eq_true rfl⟩ ⟨rfl, rfl⟩ dX8_lay_90 rfl (Nat.le_of_ble_eq_true rfl) (fun H locs hP hS => ?_)
                refine lv_aload_n (pc := 93) hx hb dX8_lay_93 rfl (lv_at hl 0 rfl) ?_
                obtain ⟨y30, hy30, h⟩ := bnd_ex h
                refine x_callVi (pc := 94) (st := .ref (ad 0) :: []) (As := []) E hEx hl.1 hP hS (kX8_held hap  M29  _ hy30) gX8_137 hdX8_held rfl (by decide) sh8 rfl ⟨Nat.le_of_ble_eq_true rfl, Nat.le_of_ble_eq_true rfl⟩ ⟨rfl, rfl⟩ dX8_lay_94 rfl (Nat.le_of_ble_eq_true rfl) (fun H locs hP hS n31 => ?_)
                obtain ⟨rfl, rfl⟩ := som2 h
                exact x_iret E hP hS rfl dX8_lay_97
              · have h := (if_neg c23).symm.trans h
                refine lv_bipush (pc := 64) (v := (-6 : Int32)) hx hb dX8_lay_64 (by decide) ?_
                obtain ⟨rfl, rfl⟩ := som2 h
                exact x_iret E hP hS rfl dX8_lay_66
            · have h := (if_pos c18).symm.trans h
              refine lv_bipush (pc := 49) (v := (-4 : Int32)) hx hb dX8_lay_49 (by decide) ?_
              obtain ⟨rfl, rfl⟩ := som2 h
              exact x_iret E hP hS rfl dX8_lay_51
    · have h := (if_neg c6).symm.trans h
      refine lv_iconst (pc := 16) (v := (-1 : Int32)) hx hb dX8_lay_16 (by decide) ?_
      obtain ⟨rfl, rfl⟩ := som2 h
      exact x_iret E hP hS rfl dX8_lay_17
set_option maxRecDepth 100000 in
set_option maxHeartbeats 4000000 in
theorem kX8_lets (hap : Apart 7 ad)   (M : Mem) (x1 : Int32) (v : Int32) (h : fX8_lets M x1 = some v) : RI G ad cA cZ cC yX8_lets cX8_lets 4 .boolean ({ frames := 1, cells := 0, slots := 0, locals := 21 } : Room) [.ref (ad 0), .int x1] M v M := by
  refine CI.mk (own := RX8) (ls0 := [(0, .ref (ad 0)), (1, .int x1)]) (by decide +kernel) rfl hap (Nat.le_of_ble_eq_true rfl) rfl ?_
  intro p l e s m args below meth c ls E hP hl
  have hx := E.1
  have hb := E.2.1
  have hown := E.2.2.2.2.2.1
  have hts := E.2.2.2.2.2.2.1
  have hEx := ExR.ok 7 ad
  have hS : va_S (AW 7 ad) s.heap s.heap [] := va_S.rf
  unfold fX8_lets at h
  refine lv_aload_n (pc := 0) hx hb dX8_lets_0 rfl (lv_at hl 0 rfl) ?_
  refine x_get (pc := 1) (v := .ref (ad 1)) E hP (by decide) sh8 rfl inX8 0 (by decide) q972 rfl dX8_lets_1 ?_
  refine lv_bipush (pc := 4) (v := (32 : Int32)) hx hb dX8_lets_4 (by decide) ?_
  refine lv_iload_n (pc := 6) hx hb dX8_lets_6 rfl (lv_at hl 1 rfl) ?_
  refine lv_iadd (pc := 7) hx hb dX8_lets_7 ?_
  obtain ⟨c1, h⟩ := ite_some h
  refine x_iald (pc := 8) (j := ((32 : Int32) + x1).toNatClampNeg) E hP (by decide) sh8a1 0 rfl (inb_in c1) rfl dX8_lets_8 ?_
  obtain ⟨y2, hy2, h⟩ := thn_ex h
  refine W.eq (g2 := F0 m 9 ls (.int y2 :: [])) (by rw [← hy2]) ?_
  refine lv_istore_n (pc := 9) (lv' := [(2, .int y2), (0, .ref (ad 0)), (1, .int x1)]) hx hb dX8_lets_9 rfl hl (by decide) rfl (fun ls hl => ?_)
  refine lv_aload_n (pc := 10) hx hb dX8_lets_10 rfl (lv_at hl 1 rfl) ?_
  refine x_get (pc := 11) (v := .ref (ad 1)) E hP (by decide) sh8 rfl inX8 0 (by decide) q972 rfl dX8_lets_11 ?_
  refine lv_bipush (pc := 14) (v := (44 : Int32)) hx hb dX8_lets_14 (by decide) ?_
  refine lv_iload_n (pc := 16) hx hb dX8_lets_16 rfl (lv_at hl 2 rfl) ?_
  refine lv_iadd (pc := 17) hx hb dX8_lets_17 ?_
  obtain ⟨c3, h⟩ := ite_some h
  refine x_iald (pc := 18) (j := ((44 : Int32) + x1).toNatClampNeg) E hP (by decide) sh8a1 0 rfl (inb_in c3) rfl dX8_lets_18 ?_
  obtain ⟨y4, hy4, h⟩ := thn_ex h
  refine W.eq (g2 := F0 m 19 ls (.int y4 :: [])) (by rw [← hy4]) ?_
  refine lv_istore_n (pc := 19) (lv' := [(3, .int y4), (2, .int y2), (0, .ref (ad 0)), (1, .int x1)]) hx hb dX8_lets_19 rfl hl (by decide) rfl (fun ls hl => ?_)
  refine lv_iload_n (pc := 20) hx hb dX8_lets_20 rfl (lv_at hl 1 rfl) ?_
  refine lv_if_eq (pc := 21) (tgt := 66) hx hb dX8_lets_21 (by decide) (fun c5 => ?_) (fun c5 => ?_)
  · have h := (if_pos c5).symm.trans h
    refine lv_iconst (pc := 66) (v := (1 : Int32)) hx hb dX8_lets_66 (by decide) ?_
    refine lv_goto (pc := 67) (tgt := 71) hx hb dX8_lets_67 (by decide) ?_
    obtain rfl := som1 h
    exact x_iret E hP hS rfl dX8_lets_71
  · have h := (if_neg c5).symm.trans h
    refine lv_iload_n (pc := 24) hx hb dX8_lets_24 rfl (lv_at hl 1 rfl) ?_
    refine lv_iconst (pc := 25) (v := (2 : Int32)) hx hb dX8_lets_25 (by decide) ?_
    refine lv_icmp_eq (pc := 26) (tgt := 66) hx hb dX8_lets_26 (by decide) (fun c6 => ?_) (fun c6 => ?_)
    · have h := (if_pos c6).symm.trans h
      refine lv_iconst (pc := 66) (v := (1 : Int32)) hx hb dX8_lets_66 (by decide) ?_
      refine lv_goto (pc := 67) (tgt := 71) hx hb dX8_lets_67 (by decide) ?_
      obtain rfl := som1 h
      exact x_iret E hP hS rfl dX8_lets_71
    · have h := (if_neg c6).symm.trans h
      refine lv_iload_n (pc := 29) hx hb dX8_lets_29 rfl (lv_at hl 1 rfl) ?_
      refine lv_iconst (pc := 30) (v := (1 : Int32)) hx hb dX8_lets_30 (by decide) ?_
      refine lv_icmp_ne (pc := 31) (tgt := 45) hx hb dX8_lets_31 (by decide) (fun c7 => ?_) (fun c7 => ?_)
      · have h := (if_neg c7).symm.trans h
        refine lv_aload_n (pc := 45) hx hb dX8_lets_45 rfl (lv_at hl 2 rfl) ?_
        refine x_get (pc := 46) (v := .ref (ad 1)) E hP (by decide) sh8 rfl inX8 0 (by decide) q972 rfl dX8_lets_46 ?_
        refine lv_bipush (pc := 49) (v := (104 : Int32)) hx hb dX8_lets_49 (by decide) ?_
        refine lv_iload_n (pc := 51) hx hb dX8_lets_51 rfl (lv_at hl 0 rfl) ?_
        refine lv_iadd (pc := 52) hx hb dX8_lets_52 ?_
        obtain ⟨c8, h⟩ := ite_some h
        refine x_iald (pc := 53) (j := ((104 : Int32) + y4).toNatClampNeg) E hP (by decide) sh8a1 0 rfl (inb_in c8) rfl dX8_lets_53 ?_
        refine lv_aload_n (pc := 54) hx hb dX8_lets_54 rfl (lv_at hl 2 rfl) ?_
        refine x_get (pc := 55) (v := .ref (ad 1)) E hP (by decide) sh8 rfl inX8 0 (by decide) q972 rfl dX8_lets_55 ?_
        refine lv_bipush (pc := 58) (v := (20 : Int32)) hx hb dX8_lets_58 (by decide) ?_
        refine lv_iload_n (pc := 60) hx hb dX8_lets_60 rfl (lv_at hl 3 rfl) ?_
        refine lv_iadd (pc := 61) hx hb dX8_lets_61 ?_
        obtain ⟨c9, h⟩ := ite_some h
        refine x_iald (pc := 62) (j := ((20 : Int32) + x1).toNatClampNeg) E hP (by decide) sh8a1 0 rfl (inb_in c9) rfl dX8_lets_62 ?_
        refine lv_icmp_ne (pc := 63) (tgt := 70) hx hb dX8_lets_63 (by decide) (fun c10 => ?_) (fun c10 => ?_)
        · have h := (if_neg c10).symm.trans h
          refine lv_iconst (pc := 70) (v := (0 : Int32)) hx hb dX8_lets_70 (by decide) ?_
          obtain rfl := som1 h
          exact x_iret E hP hS rfl dX8_lets_71
        · have h := (if_pos c10).symm.trans h
          refine lv_iconst (pc := 66) (v := (1 : Int32)) hx hb dX8_lets_66 (by decide) ?_
          refine lv_goto (pc := 67) (tgt := 71) hx hb dX8_lets_67 (by decide) ?_
          obtain rfl := som1 h
          exact x_iret E hP hS rfl dX8_lets_71
      · have h := (if_pos c7).symm.trans h
        refine lv_aload_n (pc := 34) hx hb dX8_lets_34 rfl (lv_at hl 2 rfl) ?_
        refine lv_iload_n (pc := 35) hx hb dX8_lets_35 rfl (lv_at hl 0 rfl) ?_
        obtain ⟨y11, hy11, h⟩ := bnd_ex h
        refine x_callVi (pc := 36) (st := .int y4 :: .ref (ad 0) :: []) (As := [.int y4]) E hEx hl.1 hP hS (kX8_isHeld hap  M _ _ hy11) gX8_45 hdX8_isHeld rfl (by decide) sh8 rfl ⟨Nat.le_of_ble_eq_true rfl, Nat.le_of_ble_eq_true rfl⟩ ⟨rfl, rfl⟩ dX8_lets_36 rfl (Nat.le_of_ble_eq_true rfl) (fun H locs hP hS n12 => ?_)
        refine lv_if_eq (pc := 39) (tgt := 70) hx hb dX8_lets_39 (by decide) (fun c13 => ?_) (fun c13 => ?_)
        · have h := (if_pos c13).symm.trans h
          refine lv_iconst (pc := 70) (v := (0 : Int32)) hx hb dX8_lets_70 (by decide) ?_
          obtain rfl := som1 h
          exact x_iret E hP hS rfl dX8_lets_71
        · have h := (if_neg c13).symm.trans h
          refine lv_goto (pc := 42) (tgt := 66) hx hb dX8_lets_42 (by decide) ?_
          refine lv_iconst (pc := 66) (v := (1 : Int32)) hx hb dX8_lets_66 (by decide) ?_
          refine lv_goto (pc := 67) (tgt := 71) hx hb dX8_lets_67 (by decide) ?_
          obtain rfl := som1 h
          exact x_iret E hP hS rfl dX8_lets_71
set_option maxRecDepth 100000 in
set_option maxHeartbeats 4000000 in
theorem kX8_open (hap : Apart 7 ad)   (M : Mem) (x1 x2 : Int32) (v : Int32) (M' : Mem) (h : fX8_open M x1 x2 = some (v, M')) : RI G ad cA cZ cC yX8_open cX8_open 5 .int ({ frames := 6, cells := 0, slots := 0, locals := 131 } : Room) [.ref (ad 0), .int x1, .int x2] M v M' := by
  refine CI.mk (own := RX8) (ls0 := [(0, .ref (ad 0)), (1, .int x1), (2, .int x2)]) (by decide +kernel) rfl hap (Nat.le_of_ble_eq_true rfl) rfl ?_
  intro p l e s m args below meth c ls E hP hl
  have hx := E.1
  have hb := E.2.1
  have hown := E.2.2.2.2.2.1
  have hts := E.2.2.2.2.2.2.1
  have hEx := ExR.ok 7 ad
  have hS : va_S (AW 7 ad) s.heap s.heap [] := va_S.rf
  have hB180 : ∀ (M : Mem) (x3 : Int32) (H : Heap) (locs : List Loc) (ls : Array Slot), fX8_open_B180 M x3 = some (v, M') → va_P G vwCl (WW 7 (shR cA cZ cC ad) ad M) H → va_S (AW 7 ad) s.heap H locs → lv_has ls 5 [(3, .int x3)] → W p l e ({ frames := 6, cells := 0, slots := 0, locals := 131 } : Room) s m args below meth c H locs 0 0 (QI below G 7 (shR cA cZ cC ad) ad .int args s v M') (F0 m 180 ls []) := by
    intro M x3 H locs ls h hP hS hl
    unfold fX8_open_B180 at h
    refine lv_iload_n (pc := 180) hx hb dX8_open_180 rfl (lv_at hl 0 rfl) ?_
    refine lv_if_eq (pc := 181) (tgt := 188) hx hb dX8_open_181 (by decide) (fun c32 => ?_) (fun c32 => ?_)
    · have h := (if_pos c32).symm.trans h
      refine lv_iconst (pc := 188) (v := (0 : Int32)) hx hb dX8_open_188 (by decide) ?_
      obtain ⟨rfl, rfl⟩ := som2 h
      exact x_iret E hP hS rfl dX8_open_189
    · have h := (if_neg c32).symm.trans h
      refine lv_iconst (pc := 184) (v := (1 : Int32)) hx hb dX8_open_184 (by decide) ?_
      refine lv_goto (pc := 185) (tgt := 189) hx hb dX8_open_185 (by decide) ?_
      obtain ⟨rfl, rfl⟩ := som2 h
      exact x_iret E hP hS rfl dX8_open_189
  have hB153 : ∀ (M : Mem) (x1 x3 x4 : Int32) (H : Heap) (locs : List Loc) (ls : Array Slot), fX8_open_B153 M x1 x3 x4 = some (v, M') → va_P G vwCl (WW 7 (shR cA cZ cC ad) ad M) H → va_S (AW 7 ad) s.heap H locs → lv_has ls 5 [(0, .ref (ad 0)), (1, .int x1), (3, .int x3), (4, .int x4)] → W p l e ({ frames := 6, cells := 0, slots := 0, locals := 131 } : Room) s m args below meth c H locs 0 0 (QI below G 7 (shR cA cZ cC ad) ad .int args s v M') (F0 m 153 ls []) := by
    intro M x1 x3 x4 H locs ls h hP hS hl
    unfold fX8_open_B153 at h
    refine lv_aload_n (pc := 153) hx hb dX8_open_153 rfl (lv_at hl 0 rfl) ?_
    refine lv_iload (pc := 154) hx hb dX8_open_154 (lv_at hl 3 rfl) ?_
    obtain ⟨M30, hM30, h⟩ := bnd_ex h
    refine x_callVv (pc := 156) (st := .int x4 :: .ref (ad 0) :: []) (As := [.int x4]) E hEx hl.1 hP hS (kX8_pass hap  M _ _ hM30) gX8_115 hdX8_pass rfl (by decide) sh8 rfl ⟨Nat.le_of_ble_eq_true rfl, Nat.le_of_ble_eq_true rfl⟩ ⟨rfl, rfl⟩ dX8_open_156 rfl (Nat.le_of_ble_eq_true rfl) (fun H locs hP hS => ?_)
    refine lv_iload_n (pc := 159) hx hb dX8_open_159 rfl (lv_at hl 2 rfl) ?_
    refine lv_if_eq (pc := 160) (tgt := 180) hx hb dX8_open_160 (by decide) (fun c31 => ?_) (fun c31 => ?_)
    · have h := (if_pos c31).symm.trans h
      exact hB180 M30 x3 _ _ _ h hP hS (lv_sub hl [2] rfl)
    · have h := (if_neg c31).symm.trans h
      refine lv_iload_n (pc := 163) hx hb dX8_open_163 rfl (lv_at hl 1 rfl) ?_
      refine lv_aload_n (pc := 164) hx hb dX8_open_164 rfl (lv_at hl 0 rfl) ?_
      refine x_get (pc := 165) (v := .ref (ad 1)) E hP (by decide) sh8 rfl inX8 0 (by decide) q972 rfl dX8_open_165 ?_
      refine lv_iconst (pc := 168) (v := (5 : Int32)) hx hb dX8_open_168 (by decide) ?_
      refine x_iald (pc := 169) (j := 5) E hP (by decide) sh8a1 0 rfl (vp_inl (by decide)) rfl dX8_open_169 ?_
      refine lv_icmp_ne (pc := 170) (tgt := 180) hx hb dX8_open_170 (by decide) (fun c33 => ?_) (fun c33 => ?_)
      · have h := (if_neg c33).symm.trans h
        exact hB180 M30 x3 _ _ _ h hP hS (lv_sub hl [2] rfl)
      · have h := (if_pos c33).symm.trans h
        refine lv_aload_n (pc := 173) hx hb dX8_open_173 rfl (lv_at hl 0 rfl) ?_
        refine lv_iconst (pc := 174) (v := (1 : Int32)) hx hb dX8_open_174 (by decide) ?_
        obtain ⟨M34, hM34, h⟩ := bnd_ex h
        refine x_callVv (pc := 175) (st := .int (1 : Int32) :: .ref (ad 0) :: []) (As := [.int (1 : Int32)]) E hEx hl.1 hP hS (kX8_end hap  M30 _ _ hM34) gX8_134 hdX8_end rfl (by decide) sh8 rfl ⟨Nat.le_of_ble_eq_true rfl, Nat.le_of_ble_eq_true rfl⟩ ⟨rfl, rfl⟩ dX8_open_175 rfl (Nat.le_of_ble_eq_true rfl) (fun H locs hP hS => ?_)
        refine lv_iconst (pc := 178) (v := (2 : Int32)) hx hb dX8_open_178 (by decide) ?_
        obtain ⟨rfl, rfl⟩ := som2 h
        exact x_iret E hP hS rfl dX8_open_179
  have hB134 : ∀ (M : Mem) (x1 x3 x4 : Int32) (H : Heap) (locs : List Loc) (ls : Array Slot), fX8_open_B134 M x1 x3 x4 = some (v, M') → va_P G vwCl (WW 7 (shR cA cZ cC ad) ad M) H → va_S (AW 7 ad) s.heap H locs → lv_has ls 5 [(0, .ref (ad 0)), (1, .int x1), (3, .int x3), (4, .int x4)] → W p l e ({ frames := 6, cells := 0, slots := 0, locals := 131 } : Room) s m args below meth c H locs 0 0 (QI below G 7 (shR cA cZ cC ad) ad .int args s v M') (F0 m 134 ls []) := by
    intro M x1 x3 x4 H locs ls h hP hS hl
    unfold fX8_open_B134 at h
    refine lv_aload_n (pc := 134) hx hb dX8_open_134 rfl (lv_at hl 0 rfl) ?_
    refine x_get (pc := 135) (v := .ref (ad 1)) E hP (by decide) sh8 rfl inX8 0 (by decide) q972 rfl dX8_open_135 ?_
    refine lv_bipush (pc := 138) (v := (15 : Int32)) hx hb dX8_open_138 (by decide) ?_
    refine lv_dup2_11 (pc := 140) hx hb dX8_open_140 rfl rfl ?_
    refine x_iald (pc := 141) (j := 15) E hP (by decide) sh8a1 0 rfl (vp_inl (by decide)) rfl dX8_open_141 ?_
    refine lv_iload_n (pc := 142) hx hb dX8_open_142 rfl (lv_at hl 2 rfl) ?_
    refine lv_if_eq (pc := 143) (tgt := 150) hx hb dX8_open_143 (by decide) (fun c28 => ?_) (fun c28 => ?_)
    · have h := (if_pos c28).symm.trans h
      refine lv_iconst (pc := 150) (v := (1 : Int32)) hx hb dX8_open_150 (by decide) ?_
      refine lv_iadd (pc := 151) hx hb dX8_open_151 ?_
      obtain ⟨M29, hM29, h⟩ := thn_ex h
      refine x_iast (pc := 152) (j := 15) E hP hS (by decide) sh8a1 0 rfl (vp_inl (by decide)) rfl dX8_open_152 (fun H locs hP hS => ?_)
      rw [hM29] at hP
      exact hB153 M29 x1 x3 x4 _ _ _ h hP hS (lv_sub hl [0, 1, 2, 3] rfl)
    · have h := (if_neg c28).symm.trans h
      refine lv_iconst (pc := 146) (v := (0 : Int32)) hx hb dX8_open_146 (by decide) ?_
      refine lv_goto (pc := 147) (tgt := 151) hx hb dX8_open_147 (by decide) ?_
      refine lv_iadd (pc := 151) hx hb dX8_open_151 ?_
      obtain ⟨M35, hM35, h⟩ := thn_ex h
      refine x_iast (pc := 152) (j := 15) E hP hS (by decide) sh8a1 0 rfl (vp_inl (by decide)) rfl dX8_open_152 (fun H locs hP hS => ?_)
      rw [hM35] at hP
      exact hB153 M35 x1 x3 x4 _ _ _ h hP hS (lv_sub hl [0, 1, 2, 3] rfl)
  have hB97 : ∀ (M : Mem) (x1 x3 x4 : Int32) (H : Heap) (locs : List Loc) (ls : Array Slot), fX8_open_B97 M x1 x3 x4 = some (v, M') → va_P G vwCl (WW 7 (shR cA cZ cC ad) ad M) H → va_S (AW 7 ad) s.heap H locs → lv_has ls 5 [(0, .ref (ad 0)), (1, .int x1), (3, .int x3), (4, .int x4)] → W p l e ({ frames := 6, cells := 0, slots := 0, locals := 131 } : Room) s m args below meth c H locs 0 0 (QI below G 7 (shR cA cZ cC ad) ad .int args s v M') (F0 m 97 ls []) := by
    intro M x1 x3 x4 H locs ls h hP hS hl
    unfold fX8_open_B97 at h
    refine lv_aload_n (pc := 97) hx hb dX8_open_97 rfl (lv_at hl 0 rfl) ?_
    refine lv_iload (pc := 98) hx hb dX8_open_98 (lv_at hl 3 rfl) ?_
    obtain ⟨q21, hq21, h⟩ := bnd_ex h
    refine x_callVi (pc := 100) (st := .int x4 :: .ref (ad 0) :: []) (As := [.int x4]) E hEx hl.1 hP hS (kX8_isOver hap  M _ _ _ hq21) gX8_140 hdX8_isOver rfl (by decide) sh8 rfl ⟨Nat.le_of_ble_eq_true rfl, Nat.le_of_ble_eq_true rfl⟩ ⟨rfl, rfl⟩ dX8_open_100 rfl (Nat.le_of_ble_eq_true rfl) (fun H locs hP hS n22 => ?_)
    refine lv_if_eq (pc := 103) (tgt := 109) hx hb dX8_open_103 (by decide) (fun c23 => ?_) (fun c23 => ?_)
    · have h := (if_pos c23).symm.trans h
      refine lv_aload_n (pc := 109) hx hb dX8_open_109 rfl (lv_at hl 0 rfl) ?_
      refine lv_iconst (pc := 110) (v := (2 : Int32)) hx hb dX8_open_110 (by decide) ?_
      refine lv_iload_n (pc := 111) hx hb dX8_open_111 rfl (lv_at hl 1 rfl) ?_
      refine lv_iconst (pc := 112) (v := (0 : Int32)) hx hb dX8_open_112 (by decide) ?_
      obtain ⟨M24, hM24, h⟩ := bnd_ex h
      refine x_callVv (pc := 113) (st := .int (0 : Int32) :: .int x1 :: .int (2 : Int32) :: .ref (ad 0) :: []) (As := [.int (2 : Int32), .int x1, .int (0 : Int32)]) E hEx hl.1 hP hS (kX8_note hap  q21.2 _ _ _ _ hM24) gX8_130 hdX8_note rfl (by decide) sh8 rfl ⟨Nat.le_of_ble_eq_true rfl, Nat.le_of_ble_eq_true rfl⟩ ⟨rfl, rfl⟩ dX8_open_113 rfl (Nat.le_of_ble_eq_true rfl) (fun H locs hP hS => ?_)
      refine lv_aload_n (pc := 116) hx hb dX8_open_116 rfl (lv_at hl 0 rfl) ?_
      refine x_get (pc := 117) (v := .ref (ad 1)) E hP (by decide) sh8 rfl inX8 0 (by decide) q972 rfl dX8_open_117 ?_
      refine lv_bipush (pc := 120) (v := (56 : Int32)) hx hb dX8_open_120 (by decide) ?_
      refine lv_iload_n (pc := 122) hx hb dX8_open_122 rfl (lv_at hl 1 rfl) ?_
      refine lv_iadd (pc := 123) hx hb dX8_open_123 ?_
      refine lv_iload_n (pc := 124) hx hb dX8_open_124 rfl (lv_at hl 2 rfl) ?_
      refine lv_if_eq (pc := 125) (tgt := 132) hx hb dX8_open_125 (by decide) (fun c25 => ?_) (fun c25 => ?_)
      · have h := (if_pos c25).symm.trans h
        refine lv_iconst (pc := 132) (v := (0 : Int32)) hx hb dX8_open_132 (by decide) ?_
        obtain ⟨c26, h⟩ := ite_some h
        obtain ⟨M27, hM27, h⟩ := thn_ex h
        refine x_iast (pc := 133) (j := ((56 : Int32) + x1).toNatClampNeg) E hP hS (by decide) sh8a1 0 rfl (inb_in c26) rfl dX8_open_133 (fun H locs hP hS => ?_)
        rw [hM27] at hP
        exact hB134 M27 x1 x3 x4 _ _ _ h hP hS (lv_sub hl [0, 1, 2, 3] rfl)
      · have h := (if_neg c25).symm.trans h
        refine lv_iconst (pc := 128) (v := (1 : Int32)) hx hb dX8_open_128 (by decide) ?_
        refine lv_goto (pc := 129) (tgt := 133) hx hb dX8_open_129 (by decide) ?_
        obtain ⟨c36, h⟩ := ite_some h
        obtain ⟨M37, hM37, h⟩ := thn_ex h
        refine x_iast (pc := 133) (j := ((56 : Int32) + x1).toNatClampNeg) E hP hS (by decide) sh8a1 0 rfl (inb_in c36) rfl dX8_open_133 (fun H locs hP hS => ?_)
        rw [hM37] at hP
        exact hB134 M37 x1 x3 x4 _ _ _ h hP hS (lv_sub hl [0, 1, 2, 3] rfl)
    · have h := (if_neg c23).symm.trans h
      refine lv_bipush (pc := 106) (v := (-6 : Int32)) hx hb dX8_open_106 (by decide) ?_
      obtain ⟨rfl, rfl⟩ := som2 h
      exact x_iret E hP hS rfl dX8_open_108
  have hB76 : ∀ (M : Mem) (x1 x3 : Int32) (H : Heap) (locs : List Loc) (ls : Array Slot), fX8_open_B76 M x1 x3 = some (v, M') → va_P G vwCl (WW 7 (shR cA cZ cC ad) ad M) H → va_S (AW 7 ad) s.heap H locs → lv_has ls 5 [(0, .ref (ad 0)), (1, .int x1), (3, .int x3)] → W p l e ({ frames := 6, cells := 0, slots := 0, locals := 131 } : Room) s m args below meth c H locs 0 0 (QI below G 7 (shR cA cZ cC ad) ad .int args s v M') (F0 m 76 ls []) := by
    intro M x1 x3 H locs ls h hP hS hl
    unfold fX8_open_B76 at h
    refine lv_iload_n (pc := 76) hx hb dX8_open_76 rfl (lv_at hl 2 rfl) ?_
    refine lv_if_eq (pc := 77) (tgt := 88) hx hb dX8_open_77 (by decide) (fun c18 => ?_) (fun c18 => ?_)
    · have h := (if_pos c18).symm.trans h
      refine lv_iconst (pc := 88) (v := (2 : Int32)) hx hb dX8_open_88 (by decide) ?_
      refine lv_aload_n (pc := 89) hx hb dX8_open_89 rfl (lv_at hl 0 rfl) ?_
      refine lv_iconst (pc := 90) (v := (4 : Int32)) hx hb dX8_open_90 (by decide) ?_
      obtain ⟨y19, hy19, h⟩ := bnd_ex h
      refine x_callVi (pc := 91) (st := .int (4 : Int32) :: .ref (ad 0) :: .int (2 : Int32) :: []) (As := [.int (4 : Int32)]) E hEx hl.1 hP hS (kX8_lessHalf hap  M _ _ hy19) gX8_124 hdX8_lessHalf rfl (by decide) sh8 rfl ⟨Nat.le_of_ble_eq_true rfl, Nat.le_of_ble_eq_true rfl⟩ ⟨rfl, rfl⟩ dX8_open_91 rfl (Nat.le_of_ble_eq_true rfl) (fun H locs hP hS n20 => ?_)
      refine lv_imul (pc := 94) hx hb dX8_open_94 ?_
      refine lv_istore (pc := 95) (lv' := [(4, .int ((2 : Int32) * y19)), (0, .ref (ad 0)), (1, .int x1), (3, .int x3)]) hx hb dX8_open_95 hl (by decide) rfl (fun ls hl => ?_)
      exact hB97 M x1 x3 ((2 : Int32) * y19) _ _ _ h hP hS (lv_sub hl [1, 2, 3, 0] rfl)
    · have h := (if_neg c18).symm.trans h
      refine lv_aload_n (pc := 80) hx hb dX8_open_80 rfl (lv_at hl 0 rfl) ?_
      refine lv_iconst (pc := 81) (v := (4 : Int32)) hx hb dX8_open_81 (by decide) ?_
      obtain ⟨y38, hy38, h⟩ := bnd_ex h
      refine x_callVi (pc := 82) (st := .int (4 : Int32) :: .ref (ad 0) :: []) (As := [.int (4 : Int32)]) E hEx hl.1 hP hS (kX8_lessHalf hap  M _ _ hy38) gX8_124 hdX8_lessHalf rfl (by decide) sh8 rfl ⟨Nat.le_of_ble_eq_true rfl, Nat.le_of_ble_eq_true rfl⟩ ⟨rfl, rfl⟩ dX8_open_82 rfl (Nat.le_of_ble_eq_true rfl) (fun H locs hP hS n39 => ?_)
      refine lv_goto (pc := 85) (tgt := 95) hx hb dX8_open_85 (by decide) ?_
      refine lv_istore (pc := 95) (lv' := [(4, .int y38), (0, .ref (ad 0)), (1, .int x1), (3, .int x3)]) hx hb dX8_open_95 hl (by decide) rfl (fun ls hl => ?_)
      exact hB97 M x1 x3 y38 _ _ _ h hP hS (lv_sub hl [1, 2, 3, 0] rfl)
  unfold fX8_open at h
  refine lv_aload_n (pc := 0) hx hb dX8_open_0 rfl (lv_at hl 0 rfl) ?_
  refine lv_iload_n (pc := 1) hx hb dX8_open_1 rfl (lv_at hl 1 rfl) ?_
  obtain ⟨y1, hy1, h⟩ := bnd_ex h
  refine x_callVi (pc := 2) (st := .int x1 :: .ref (ad 0) :: []) (As := [.int x1]) E hEx hl.1 hP hS (kX8_noBox hap  M _ _ hy1) gX8_99 hdX8_noBox rfl (by decide) sh8 rfl ⟨Nat.le_of_ble_eq_true rfl, Nat.le_of_ble_eq_true rfl⟩ ⟨rfl, rfl⟩ dX8_open_2 rfl (Nat.le_of_ble_eq_true rfl) (fun H locs hP hS n2 => ?_)
  refine lv_if_eq (pc := 5) (tgt := 10) hx hb dX8_open_5 (by decide) (fun c3 => ?_) (fun c3 => ?_)
  · have h := (if_pos c3).symm.trans h
    refine lv_aload_n (pc := 10) hx hb dX8_open_10 rfl (lv_at hl 0 rfl) ?_
    obtain ⟨y4, hy4, h⟩ := bnd_ex h
    refine x_callVi (pc := 11) (st := .ref (ad 0) :: []) (As := []) E hEx hl.1 hP hS (kX8_plays hap  M  _ hy4) gX8_105 hdX8_plays rfl (by decide) sh8 rfl ⟨Nat.le_of_ble_eq_true rfl, Nat.le_of_ble_eq_true rfl⟩ ⟨rfl, rfl⟩ dX8_open_11 rfl (Nat.le_of_ble_eq_true rfl) (fun H locs hP hS n5 => ?_)
    refine lv_if_eq (pc := 14) (tgt := 41) hx hb dX8_open_14 (by decide) (fun c6 => ?_) (fun c6 => ?_)
    · have h := (if_pos c6).symm.trans h
      refine lv_bipush (pc := 41) (v := (-4 : Int32)) hx hb dX8_open_41 (by decide) ?_
      obtain ⟨rfl, rfl⟩ := som2 h
      exact x_iret E hP hS rfl dX8_open_43
    · have h := (if_neg c6).symm.trans h
      refine lv_aload_n (pc := 17) hx hb dX8_open_17 rfl (lv_at hl 0 rfl) ?_
      refine lv_iload_n (pc := 18) hx hb dX8_open_18 rfl (lv_at hl 1 rfl) ?_
      obtain ⟨y7, hy7, h⟩ := bnd_ex h
      refine x_callVi (pc := 19) (st := .int x1 :: .ref (ad 0) :: []) (As := [.int x1]) E hEx hl.1 hP hS (kX8_isOpen hap  M _ _ hy7) gX8_34 hdX8_isOpen rfl (by decide) sh8 rfl ⟨Nat.le_of_ble_eq_true rfl, Nat.le_of_ble_eq_true rfl⟩ ⟨rfl, rfl⟩ dX8_open_19 rfl (Nat.le_of_ble_eq_true rfl) (fun H locs hP hS n8 => ?_)
      refine lv_if_ne (pc := 22) (tgt := 41) hx hb dX8_open_22 (by decide) (fun c9 => ?_) (fun c9 => ?_)
      · have h := (if_neg c9).symm.trans h
        refine lv_bipush (pc := 41) (v := (-4 : Int32)) hx hb dX8_open_41 (by decide) ?_
        obtain ⟨rfl, rfl⟩ := som2 h
        exact x_iret E hP hS rfl dX8_open_43
      · have h := (if_pos c9).symm.trans h
        refine lv_aload_n (pc := 25) hx hb dX8_open_25 rfl (lv_at hl 0 rfl) ?_
        refine lv_iload_n (pc := 26) hx hb dX8_open_26 rfl (lv_at hl 1 rfl) ?_
        obtain ⟨y10, hy10, h⟩ := bnd_ex h
        refine x_callVi (pc := 27) (st := .int x1 :: .ref (ad 0) :: []) (As := [.int x1]) E hEx hl.1 hP hS (kX8_boxAtHand hap  M _ _ hy10) gX8_143 hdX8_boxAtHand rfl (by decide) sh8 rfl ⟨Nat.le_of_ble_eq_true rfl, Nat.le_of_ble_eq_true rfl⟩ ⟨rfl, rfl⟩ dX8_open_27 rfl (Nat.le_of_ble_eq_true rfl) (fun H locs hP hS n11 => ?_)
        refine lv_if_eq (pc := 30) (tgt := 41) hx hb dX8_open_30 (by decide) (fun c12 => ?_) (fun c12 => ?_)
        · have h := (if_pos c12).symm.trans h
          refine lv_bipush (pc := 41) (v := (-4 : Int32)) hx hb dX8_open_41 (by decide) ?_
          obtain ⟨rfl, rfl⟩ := som2 h
          exact x_iret E hP hS rfl dX8_open_43
        · have h := (if_neg c12).symm.trans h
          refine lv_aload_n (pc := 33) hx hb dX8_open_33 rfl (lv_at hl 0 rfl) ?_
          refine lv_iload_n (pc := 34) hx hb dX8_open_34 rfl (lv_at hl 1 rfl) ?_
          obtain ⟨y13, hy13, h⟩ := bnd_ex h
          refine x_callVi (pc := 35) (st := .int x1 :: .ref (ad 0) :: []) (As := [.int x1]) E hEx hl.1 hP hS (kX8_lets hap  M _ _ hy13) gX8_146 hdX8_lets rfl (by decide) sh8 rfl ⟨Nat.le_of_ble_eq_true rfl, Nat.le_of_ble_eq_true rfl⟩ ⟨rfl, rfl⟩ dX8_open_35 rfl (Nat.le_of_ble_eq_true rfl) (fun H locs hP hS n14 => ?_)
          refine lv_if_ne (pc := 38) (tgt := 44) hx hb dX8_open_38 (by decide) (fun c15 => ?_) (fun c15 => ?_)
          · have h := (if_neg c15).symm.trans h
            refine lv_aload_n (pc := 44) hx hb dX8_open_44 rfl (lv_at hl 0 rfl) ?_
            refine x_get (pc := 45) (v := .ref (ad 1)) E hP (by decide) sh8 rfl inX8 0 (by decide) q972 rfl dX8_open_45 ?_
            refine lv_bipush (pc := 48) (v := (32 : Int32)) hx hb dX8_open_48 (by decide) ?_
            refine lv_iload_n (pc := 50) hx hb dX8_open_50 rfl (lv_at hl 1 rfl) ?_
            refine lv_iadd (pc := 51) hx hb dX8_open_51 ?_
            obtain ⟨c16, h⟩ := ite_some h
            refine x_iald (pc := 52) (j := ((32 : Int32) + x1).toNatClampNeg) E hP (by decide) sh8a1 0 rfl (inb_in c16) rfl dX8_open_52 ?_
            refine lv_iconst (pc := 53) (v := (2 : Int32)) hx hb dX8_open_53 (by decide) ?_
            refine lv_icmp_ne (pc := 54) (tgt := 70) hx hb dX8_open_54 (by decide) (fun c17 => ?_) (fun c17 => ?_)
            · have h := (if_neg c17).symm.trans h
              refine lv_iconst (pc := 70) (v := (1 : Int32)) hx hb dX8_open_70 (by decide) ?_
              refine lv_goto (pc := 71) (tgt := 75) hx hb dX8_open_71 (by decide) ?_
              refine lv_istore_n (pc := 75) (lv' := [(3, .int (1 : Int32)), (0, .ref (ad 0)), (1, .int x1), (2, .int x2)]) hx hb dX8_open_75 rfl hl (by decide) rfl (fun ls hl => ?_)
              exact hB76 M x1 (1 : Int32) _ _ _ h hP hS (lv_sub hl [1, 2, 0] rfl)
            · have h := (if_pos c17).symm.trans h
              refine lv_aload_n (pc := 57) hx hb dX8_open_57 rfl (lv_at hl 0 rfl) ?_
              refine x_get (pc := 58) (v := .ref (ad 1)) E hP (by decide) sh8 rfl inX8 0 (by decide) q972 rfl dX8_open_58 ?_
              refine lv_bipush (pc := 61) (v := (44 : Int32)) hx hb dX8_open_61 (by decide) ?_
              refine lv_iload_n (pc := 63) hx hb dX8_open_63 rfl (lv_at hl 1 rfl) ?_
              refine lv_iadd (pc := 64) hx hb dX8_open_64 ?_
              obtain ⟨c40, h⟩ := ite_some h
              refine x_iald (pc := 65) (j := ((44 : Int32) + x1).toNatClampNeg) E hP (by decide) sh8a1 0 rfl (inb_in c40) rfl dX8_open_65 ?_
              refine lv_iload_n (pc := 66) hx hb dX8_open_66 rfl (lv_at hl 2 rfl) ?_
              refine lv_icmp_ne (pc := 67) (tgt := 74) hx hb dX8_open_67 (by decide) (fun c41 => ?_) (fun c41 => ?_)
              · have h := (if_neg c41).symm.trans h
                refine lv_iconst (pc := 74) (v := (0 : Int32)) hx hb dX8_open_74 (by decide) ?_
                refine lv_istore_n (pc := 75) (lv' := [(3, .int (0 : Int32)), (0, .ref (ad 0)), (1, .int x1), (2, .int x2)]) hx hb dX8_open_75 rfl hl (by decide) rfl (fun ls hl => ?_)
                exact hB76 M x1 (0 : Int32) _ _ _ h hP hS (lv_sub hl [1, 2, 0] rfl)
              · have h := (if_pos c41).symm.trans h
                refine lv_iconst (pc := 70) (v := (1 : Int32)) hx hb dX8_open_70 (by decide) ?_
                refine lv_goto (pc := 71) (tgt := 75) hx hb dX8_open_71 (by decide) ?_
                refine lv_istore_n (pc := 75) (lv' := [(3, .int (1 : Int32)), (0, .ref (ad 0)), (1, .int x1), (2, .int x2)]) hx hb dX8_open_75 rfl hl (by decide) rfl (fun ls hl => ?_)
                exact hB76 M x1 (1 : Int32) _ _ _ h hP hS (lv_sub hl [1, 2, 0] rfl)
          · have h := (if_pos c15).symm.trans h
            refine lv_bipush (pc := 41) (v := (-4 : Int32)) hx hb dX8_open_41 (by decide) ?_
            obtain ⟨rfl, rfl⟩ := som2 h
            exact x_iret E hP hS rfl dX8_open_43
  · have h := (if_neg c3).symm.trans h
    refine lv_iconst (pc := 8) (v := (-1 : Int32)) hx hb dX8_open_8 (by decide) ?_
    obtain ⟨rfl, rfl⟩ := som2 h
    exact x_iret E hP hS rfl dX8_open_9
set_option maxRecDepth 100000 in
set_option maxHeartbeats 4000000 in
theorem kX8_learn (hap : Apart 7 ad)   (M : Mem) (x1 : Int32) (M' : Mem) (h : fX8_learn M x1 = some M') : RV G ad cA cZ cC yX8_learn cX8_learn 2 ({ frames := 0, cells := 0, slots := 0, locals := 0 } : Room) [.ref (ad 0), .int x1] M M' := by
  refine CV.mk (own := RX8) (ls0 := [(0, .ref (ad 0)), (1, .int x1)]) (by decide +kernel) rfl hap (Nat.le_of_ble_eq_true rfl) rfl ?_
  intro p l e s m args below meth c ls E hP hl
  have hx := E.1
  have hb := E.2.1
  have hown := E.2.2.2.2.2.1
  have hts := E.2.2.2.2.2.2.1
  have hEx := ExR.ok 7 ad
  have hS : va_S (AW 7 ad) s.heap s.heap [] := va_S.rf
  unfold fX8_learn at h
  refine lv_aload_n (pc := 0) hx hb dX8_learn_0 rfl (lv_at hl 0 rfl) ?_
  refine x_get (pc := 1) (v := .ref (ad 1)) E hP (by decide) sh8 rfl inX8 0 (by decide) q972 rfl dX8_learn_1 ?_
  refine lv_bipush (pc := 4) (v := (68 : Int32)) hx hb dX8_learn_4 (by decide) ?_
  refine lv_aload_n (pc := 6) hx hb dX8_learn_6 rfl (lv_at hl 0 rfl) ?_
  refine x_get (pc := 7) (v := .ref (ad 1)) E hP (by decide) sh8 rfl inX8 0 (by decide) q972 rfl dX8_learn_7 ?_
  refine lv_sipush (pc := 10) (v := (140 : Int32)) hx hb dX8_learn_10 (by decide) ?_
  refine lv_iload_n (pc := 13) hx hb dX8_learn_13 rfl (lv_at hl 1 rfl) ?_
  refine lv_iadd (pc := 14) hx hb dX8_learn_14 ?_
  obtain ⟨c1, h⟩ := ite_some h
  refine x_iald (pc := 15) (j := ((140 : Int32) + x1).toNatClampNeg) E hP (by decide) sh8a1 0 rfl (inb_in c1) rfl dX8_learn_15 ?_
  refine lv_iadd (pc := 16) hx hb dX8_learn_16 ?_
  refine lv_dup2_11 (pc := 17) hx hb dX8_learn_17 rfl rfl ?_
  obtain ⟨c2, h⟩ := ite_some h
  refine x_iald (pc := 18) (j := ((68 : Int32) + (M 1 (((140 : Int32) + x1).toNatClampNeg))).toNatClampNeg) E hP (by decide) sh8a1 0 rfl (inb_in c2) rfl dX8_learn_18 ?_
  refine lv_iconst (pc := 19) (v := (1 : Int32)) hx hb dX8_learn_19 (by decide) ?_
  refine lv_aload_n (pc := 20) hx hb dX8_learn_20 rfl (lv_at hl 0 rfl) ?_
  refine x_get (pc := 21) (v := .ref (ad 1)) E hP (by decide) sh8 rfl inX8 0 (by decide) q972 rfl dX8_learn_21 ?_
  refine lv_sipush (pc := 24) (v := (152 : Int32)) hx hb dX8_learn_24 (by decide) ?_
  refine lv_iload_n (pc := 27) hx hb dX8_learn_27 rfl (lv_at hl 1 rfl) ?_
  refine lv_iadd (pc := 28) hx hb dX8_learn_28 ?_
  obtain ⟨c3, h⟩ := ite_some h
  refine x_iald (pc := 29) (j := ((152 : Int32) + x1).toNatClampNeg) E hP (by decide) sh8a1 0 rfl (inb_in c3) rfl dX8_learn_29 ?_
  refine lv_ishl (pc := 30) hx hb dX8_learn_30 ?_
  refine lv_ior (pc := 31) hx hb dX8_learn_31 ?_
  obtain ⟨c4, h⟩ := ite_some h
  obtain ⟨M5, hM5, h⟩ := thn_ex h
  refine x_iast (pc := 32) (j := ((68 : Int32) + (M 1 (((140 : Int32) + x1).toNatClampNeg))).toNatClampNeg) E hP hS (by decide) sh8a1 0 rfl (inb_in c4) rfl dX8_learn_32 (fun H locs hP hS => ?_)
  rw [hM5] at hP
  obtain rfl := som1 h
  exact x_vret E hP hS dX8_learn_33
set_option maxRecDepth 100000 in
set_option maxHeartbeats 4000000 in
theorem kX8_read (hap : Apart 7 ad)   (M : Mem) (x1 : Int32) (v : Int32) (M' : Mem) (h : fX8_read M x1 = some (v, M')) : RI G ad cA cZ cC yX8_read cX8_read 3 .int ({ frames := 6, cells := 0, slots := 0, locals := 131 } : Room) [.ref (ad 0), .int x1] M v M' := by
  refine CI.mk (own := RX8) (ls0 := [(0, .ref (ad 0)), (1, .int x1)]) (by decide +kernel) rfl hap (Nat.le_of_ble_eq_true rfl) rfl ?_
  intro p l e s m args below meth c ls E hP hl
  have hx := E.1
  have hb := E.2.1
  have hown := E.2.2.2.2.2.1
  have hts := E.2.2.2.2.2.2.1
  have hEx := ExR.ok 7 ad
  have hS : va_S (AW 7 ad) s.heap s.heap [] := va_S.rf
  unfold fX8_read at h
  refine lv_aload_n (pc := 0) hx hb dX8_read_0 rfl (lv_at hl 0 rfl) ?_
  refine lv_iload_n (pc := 1) hx hb dX8_read_1 rfl (lv_at hl 1 rfl) ?_
  obtain ⟨y1, hy1, h⟩ := bnd_ex h
  refine x_callVi (pc := 2) (st := .int x1 :: .ref (ad 0) :: []) (As := [.int x1]) E hEx hl.1 hP hS (kX8_noClue hap  M _ _ hy1) gX8_149 hdX8_noClue rfl (by decide) sh8 rfl ⟨Nat.le_of_ble_eq_true rfl, Nat.le_of_ble_eq_true rfl⟩ ⟨rfl, rfl⟩ dX8_read_2 rfl (Nat.le_of_ble_eq_true rfl) (fun H locs hP hS n2 => ?_)
  refine lv_if_eq (pc := 5) (tgt := 10) hx hb dX8_read_5 (by decide) (fun c3 => ?_) (fun c3 => ?_)
  · have h := (if_pos c3).symm.trans h
    refine lv_aload_n (pc := 10) hx hb dX8_read_10 rfl (lv_at hl 0 rfl) ?_
    obtain ⟨y4, hy4, h⟩ := bnd_ex h
    refine x_callVi (pc := 11) (st := .ref (ad 0) :: []) (As := []) E hEx hl.1 hP hS (kX8_plays hap  M  _ hy4) gX8_105 hdX8_plays rfl (by decide) sh8 rfl ⟨Nat.le_of_ble_eq_true rfl, Nat.le_of_ble_eq_true rfl⟩ ⟨rfl, rfl⟩ dX8_read_11 rfl (Nat.le_of_ble_eq_true rfl) (fun H locs hP hS n5 => ?_)
    refine lv_if_eq (pc := 14) (tgt := 25) hx hb dX8_read_14 (by decide) (fun c6 => ?_) (fun c6 => ?_)
    · have h := (if_pos c6).symm.trans h
      refine lv_bipush (pc := 25) (v := (-4 : Int32)) hx hb dX8_read_25 (by decide) ?_
      obtain ⟨rfl, rfl⟩ := som2 h
      exact x_iret E hP hS rfl dX8_read_27
    · have h := (if_neg c6).symm.trans h
      refine lv_aload_n (pc := 17) hx hb dX8_read_17 rfl (lv_at hl 0 rfl) ?_
      refine lv_iload_n (pc := 18) hx hb dX8_read_18 rfl (lv_at hl 1 rfl) ?_
      obtain ⟨y7, hy7, h⟩ := bnd_ex h
      refine x_callVi (pc := 19) (st := .int x1 :: .ref (ad 0) :: []) (As := [.int x1]) E hEx hl.1 hP hS (kX8_clueAtHand hap  M _ _ hy7) gX8_51 hdX8_clueAtHand rfl (by decide) sh8 rfl ⟨Nat.le_of_ble_eq_true rfl, Nat.le_of_ble_eq_true rfl⟩ ⟨rfl, rfl⟩ dX8_read_19 rfl (Nat.le_of_ble_eq_true rfl) (fun H locs hP hS n8 => ?_)
      refine lv_if_ne (pc := 22) (tgt := 28) hx hb dX8_read_22 (by decide) (fun c9 => ?_) (fun c9 => ?_)
      · have h := (if_neg c9).symm.trans h
        refine lv_aload_n (pc := 28) hx hb dX8_read_28 rfl (lv_at hl 0 rfl) ?_
        refine x_get (pc := 29) (v := .ref (ad 1)) E hP (by decide) sh8 rfl inX8 0 (by decide) q972 rfl dX8_read_29 ?_
        refine lv_sipush (pc := 32) (v := (164 : Int32)) hx hb dX8_read_32 (by decide) ?_
        refine lv_iload_n (pc := 35) hx hb dX8_read_35 rfl (lv_at hl 1 rfl) ?_
        refine lv_iadd (pc := 36) hx hb dX8_read_36 ?_
        obtain ⟨c10, h⟩ := ite_some h
        refine x_iald (pc := 37) (j := ((164 : Int32) + x1).toNatClampNeg) E hP (by decide) sh8a1 0 rfl (inb_in c10) rfl dX8_read_37 ?_
        refine lv_if_ne (pc := 38) (tgt := 44) hx hb dX8_read_38 (by decide) (fun c11 => ?_) (fun c11 => ?_)
        · have h := (if_neg c11).symm.trans h
          refine lv_aload_n (pc := 44) hx hb dX8_read_44 rfl (lv_at hl 0 rfl) ?_
          refine lv_iload_n (pc := 45) hx hb dX8_read_45 rfl (lv_at hl 1 rfl) ?_
          obtain ⟨y12, hy12, h⟩ := bnd_ex h
          refine x_callVi (pc := 46) (st := .int x1 :: .ref (ad 0) :: []) (As := [.int x1]) E hEx hl.1 hP hS (kX8_readMinutes hap  M _ _ hy12) gX8_152 hdX8_readMinutes rfl (by decide) sh8 rfl ⟨Nat.le_of_ble_eq_true rfl, Nat.le_of_ble_eq_true rfl⟩ ⟨rfl, rfl⟩ dX8_read_46 rfl (Nat.le_of_ble_eq_true rfl) (fun H locs hP hS n13 => ?_)
          refine lv_istore_n (pc := 49) (lv' := [(2, .int y12), (0, .ref (ad 0)), (1, .int x1)]) hx hb dX8_read_49 rfl hl (by decide) rfl (fun ls hl => ?_)
          refine lv_aload_n (pc := 50) hx hb dX8_read_50 rfl (lv_at hl 1 rfl) ?_
          refine lv_iload_n (pc := 51) hx hb dX8_read_51 rfl (lv_at hl 0 rfl) ?_
          obtain ⟨q14, hq14, h⟩ := bnd_ex h
          refine x_callVi (pc := 52) (st := .int y12 :: .ref (ad 0) :: []) (As := [.int y12]) E hEx hl.1 hP hS (kX8_isOver hap  M _ _ _ hq14) gX8_140 hdX8_isOver rfl (by decide) sh8 rfl ⟨Nat.le_of_ble_eq_true rfl, Nat.le_of_ble_eq_true rfl⟩ ⟨rfl, rfl⟩ dX8_read_52 rfl (Nat.le_of_ble_eq_true rfl) (fun H locs hP hS n15 => ?_)
          refine lv_if_eq (pc := 55) (tgt := 61) hx hb dX8_read_55 (by decide) (fun c16 => ?_) (fun c16 => ?_)
          · have h := (if_pos c16).symm.trans h
            refine lv_aload_n (pc := 61) hx hb dX8_read_61 rfl (lv_at hl 1 rfl) ?_
            refine lv_iconst (pc := 62) (v := (3 : Int32)) hx hb dX8_read_62 (by decide) ?_
            refine lv_iload_n (pc := 63) hx hb dX8_read_63 rfl (lv_at hl 2 rfl) ?_
            refine lv_iconst (pc := 64) (v := (0 : Int32)) hx hb dX8_read_64 (by decide) ?_
            obtain ⟨M17, hM17, h⟩ := bnd_ex h
            refine x_callVv (pc := 65) (st := .int (0 : Int32) :: .int x1 :: .int (3 : Int32) :: .ref (ad 0) :: []) (As := [.int (3 : Int32), .int x1, .int (0 : Int32)]) E hEx hl.1 hP hS (kX8_note hap  q14.2 _ _ _ _ hM17) gX8_130 hdX8_note rfl (by decide) sh8 rfl ⟨Nat.le_of_ble_eq_true rfl, Nat.le_of_ble_eq_true rfl⟩ ⟨rfl, rfl⟩ dX8_read_65 rfl (Nat.le_of_ble_eq_true rfl) (fun H locs hP hS => ?_)
            refine lv_aload_n (pc := 68) hx hb dX8_read_68 rfl (lv_at hl 1 rfl) ?_
            refine lv_iload_n (pc := 69) hx hb dX8_read_69 rfl (lv_at hl 2 rfl) ?_
            obtain ⟨M18, hM18, h⟩ := bnd_ex h
            refine x_callVv (pc := 70) (st := .int x1 :: .ref (ad 0) :: []) (As := [.int x1]) E hEx hl.1 hP hS (kX8_learn hap  M17 _ _ hM18) gX8_155 hdX8_learn rfl (by decide) sh8 rfl ⟨Nat.le_of_ble_eq_true rfl, Nat.le_of_ble_eq_true rfl⟩ ⟨rfl, rfl⟩ dX8_read_70 rfl (Nat.le_of_ble_eq_true rfl) (fun H locs hP hS => ?_)
            refine lv_aload_n (pc := 73) hx hb dX8_read_73 rfl (lv_at hl 1 rfl) ?_
            refine x_get (pc := 74) (v := .ref (ad 1)) E hP (by decide) sh8 rfl inX8 0 (by decide) q972 rfl dX8_read_74 ?_
            refine lv_sipush (pc := 77) (v := (164 : Int32)) hx hb dX8_read_77 (by decide) ?_
            refine lv_iload_n (pc := 80) hx hb dX8_read_80 rfl (lv_at hl 2 rfl) ?_
            refine lv_iadd (pc := 81) hx hb dX8_read_81 ?_
            refine lv_dup2_11 (pc := 82) hx hb dX8_read_82 rfl rfl ?_
            obtain ⟨c19, h⟩ := ite_some h
            refine x_iald (pc := 83) (j := ((164 : Int32) + x1).toNatClampNeg) E hP (by decide) sh8a1 0 rfl (inb_in c19) rfl dX8_read_83 ?_
            refine lv_iconst (pc := 84) (v := (1 : Int32)) hx hb dX8_read_84 (by decide) ?_
            refine lv_isub (pc := 85) hx hb dX8_read_85 ?_
            obtain ⟨c20, h⟩ := ite_some h
            obtain ⟨M21, hM21, h⟩ := thn_ex h
            refine x_iast (pc := 86) (j := ((164 : Int32) + x1).toNatClampNeg) E hP hS (by decide) sh8a1 0 rfl (inb_in c20) rfl dX8_read_86 (fun H locs hP hS => ?_)
            rw [hM21] at hP
            refine lv_aload_n (pc := 87) hx hb dX8_read_87 rfl (lv_at hl 1 rfl) ?_
            refine lv_iload_n (pc := 88) hx hb dX8_read_88 rfl (lv_at hl 0 rfl) ?_
            obtain ⟨M22, hM22, h⟩ := bnd_ex h
            refine x_callVv (pc := 89) (st := .int y12 :: .ref (ad 0) :: []) (As := [.int y12]) E hEx hl.1 hP hS (kX8_pass hap  M21 _ _ hM22) gX8_115 hdX8_pass rfl (by decide) sh8 rfl ⟨Nat.le_of_ble_eq_true rfl, Nat.le_of_ble_eq_true rfl⟩ ⟨rfl, rfl⟩ dX8_read_89 rfl (Nat.le_of_ble_eq_true rfl) (fun H locs hP hS => ?_)
            refine lv_aload_n (pc := 92) hx hb dX8_read_92 rfl (lv_at hl 1 rfl) ?_
            refine lv_iload_n (pc := 93) hx hb dX8_read_93 rfl (lv_at hl 2 rfl) ?_
            obtain ⟨y23, hy23, h⟩ := bnd_ex h
            refine x_callVi (pc := 94) (st := .int x1 :: .ref (ad 0) :: []) (As := [.int x1]) E hEx hl.1 hP hS (kX8_digitOf hap  M22 _ _ hy23) gX8_158 hdX8_digitOf rfl (by decide) sh8 rfl ⟨Nat.le_of_ble_eq_true rfl, Nat.le_of_ble_eq_true rfl⟩ ⟨rfl, rfl⟩ dX8_read_94 rfl (Nat.le_of_ble_eq_true rfl) (fun H locs hP hS n24 => ?_)
            obtain ⟨rfl, rfl⟩ := som2 h
            exact x_iret E hP hS rfl dX8_read_97
          · have h := (if_neg c16).symm.trans h
            refine lv_bipush (pc := 58) (v := (-6 : Int32)) hx hb dX8_read_58 (by decide) ?_
            obtain ⟨rfl, rfl⟩ := som2 h
            exact x_iret E hP hS rfl dX8_read_60
        · have h := (if_pos c11).symm.trans h
          refine lv_bipush (pc := 41) (v := (-5 : Int32)) hx hb dX8_read_41 (by decide) ?_
          obtain ⟨rfl, rfl⟩ := som2 h
          exact x_iret E hP hS rfl dX8_read_43
      · have h := (if_pos c9).symm.trans h
        refine lv_bipush (pc := 25) (v := (-4 : Int32)) hx hb dX8_read_25 (by decide) ?_
        obtain ⟨rfl, rfl⟩ := som2 h
        exact x_iret E hP hS rfl dX8_read_27
  · have h := (if_neg c3).symm.trans h
    refine lv_iconst (pc := 8) (v := (-1 : Int32)) hx hb dX8_read_8 (by decide) ?_
    obtain ⟨rfl, rfl⟩ := som2 h
    exact x_iret E hP hS rfl dX8_read_9
set_option maxRecDepth 100000 in
set_option maxHeartbeats 4000000 in
theorem kX8_rest (hap : Apart 7 ad)   (M : Mem) (x1 : Int32) (v : Int32) (M' : Mem) (h : fX8_rest M x1 = some (v, M')) : RI G ad cA cZ cC yX8_rest cX8_rest 2 .int ({ frames := 6, cells := 0, slots := 0, locals := 131 } : Room) [.ref (ad 0), .int x1] M v M' := by
  refine CI.mk (own := RX8) (ls0 := [(0, .ref (ad 0)), (1, .int x1)]) (by decide +kernel) rfl hap (Nat.le_of_ble_eq_true rfl) rfl ?_
  intro p l e s m args below meth c ls E hP hl
  have hx := E.1
  have hb := E.2.1
  have hown := E.2.2.2.2.2.1
  have hts := E.2.2.2.2.2.2.1
  have hEx := ExR.ok 7 ad
  have hS : va_S (AW 7 ad) s.heap s.heap [] := va_S.rf
  unfold fX8_rest at h
  refine lv_iload_n (pc := 0) hx hb dX8_rest_0 rfl (lv_at hl 1 rfl) ?_
  refine lv_iconst (pc := 1) (v := (1 : Int32)) hx hb dX8_rest_1 (by decide) ?_
  refine lv_bipush (pc := 2) (v := (60 : Int32)) hx hb dX8_rest_2 (by decide) ?_
  refine x_callSi (pc := 4) (st := .int (60 : Int32) :: .int (1 : Int32) :: .int x1 :: []) (As := [.int x1, .int (1 : Int32), .int (60 : Int32)]) E hEx hl.1 hP hS (kX8_in hap  M _ _ _ _ rfl) gX8_30 hsX8_in rfl ⟨Nat.le_of_ble_eq_true rfl, Nat.le_of_ble_eq_true rfl⟩ ⟨rfl, rfl⟩ dX8_rest_4 rfl (Nat.le_of_ble_eq_true rfl) (fun H locs hP hS n1 => ?_)
  refine lv_if_ne (pc := 7) (tgt := 13) hx hb dX8_rest_7 (by decide) (fun c2 => ?_) (fun c2 => ?_)
  · have h := (if_neg c2).symm.trans h
    refine lv_aload_n (pc := 13) hx hb dX8_rest_13 rfl (lv_at hl 0 rfl) ?_
    obtain ⟨y3, hy3, h⟩ := bnd_ex h
    refine x_callVi (pc := 14) (st := .ref (ad 0) :: []) (As := []) E hEx hl.1 hP hS (kX8_plays hap  M  _ hy3) gX8_105 hdX8_plays rfl (by decide) sh8 rfl ⟨Nat.le_of_ble_eq_true rfl, Nat.le_of_ble_eq_true rfl⟩ ⟨rfl, rfl⟩ dX8_rest_14 rfl (Nat.le_of_ble_eq_true rfl) (fun H locs hP hS n4 => ?_)
    refine lv_if_ne (pc := 17) (tgt := 23) hx hb dX8_rest_17 (by decide) (fun c5 => ?_) (fun c5 => ?_)
    · have h := (if_neg c5).symm.trans h
      refine lv_aload_n (pc := 23) hx hb dX8_rest_23 rfl (lv_at hl 0 rfl) ?_
      refine lv_iload_n (pc := 24) hx hb dX8_rest_24 rfl (lv_at hl 1 rfl) ?_
      obtain ⟨q6, hq6, h⟩ := bnd_ex h
      refine x_callVi (pc := 25) (st := .int x1 :: .ref (ad 0) :: []) (As := [.int x1]) E hEx hl.1 hP hS (kX8_isOver hap  M _ _ _ hq6) gX8_140 hdX8_isOver rfl (by decide) sh8 rfl ⟨Nat.le_of_ble_eq_true rfl, Nat.le_of_ble_eq_true rfl⟩ ⟨rfl, rfl⟩ dX8_rest_25 rfl (Nat.le_of_ble_eq_true rfl) (fun H locs hP hS n7 => ?_)
      refine lv_if_eq (pc := 28) (tgt := 34) hx hb dX8_rest_28 (by decide) (fun c8 => ?_) (fun c8 => ?_)
      · have h := (if_pos c8).symm.trans h
        refine lv_aload_n (pc := 34) hx hb dX8_rest_34 rfl (lv_at hl 0 rfl) ?_
        refine lv_iconst (pc := 35) (v := (5 : Int32)) hx hb dX8_rest_35 (by decide) ?_
        refine lv_iload_n (pc := 36) hx hb dX8_rest_36 rfl (lv_at hl 1 rfl) ?_
        refine lv_iconst (pc := 37) (v := (0 : Int32)) hx hb dX8_rest_37 (by decide) ?_
        obtain ⟨M9, hM9, h⟩ := bnd_ex h
        refine x_callVv (pc := 38) (st := .int (0 : Int32) :: .int x1 :: .int (5 : Int32) :: .ref (ad 0) :: []) (As := [.int (5 : Int32), .int x1, .int (0 : Int32)]) E hEx hl.1 hP hS (kX8_note hap  q6.2 _ _ _ _ hM9) gX8_130 hdX8_note rfl (by decide) sh8 rfl ⟨Nat.le_of_ble_eq_true rfl, Nat.le_of_ble_eq_true rfl⟩ ⟨rfl, rfl⟩ dX8_rest_38 rfl (Nat.le_of_ble_eq_true rfl) (fun H locs hP hS => ?_)
        refine lv_aload_n (pc := 41) hx hb dX8_rest_41 rfl (lv_at hl 0 rfl) ?_
        refine lv_iload_n (pc := 42) hx hb dX8_rest_42 rfl (lv_at hl 1 rfl) ?_
        obtain ⟨M10, hM10, h⟩ := bnd_ex h
        refine x_callVv (pc := 43) (st := .int x1 :: .ref (ad 0) :: []) (As := [.int x1]) E hEx hl.1 hP hS (kX8_pass hap  M9 _ _ hM10) gX8_115 hdX8_pass rfl (by decide) sh8 rfl ⟨Nat.le_of_ble_eq_true rfl, Nat.le_of_ble_eq_true rfl⟩ ⟨rfl, rfl⟩ dX8_rest_43 rfl (Nat.le_of_ble_eq_true rfl) (fun H locs hP hS => ?_)
        refine lv_aload_n (pc := 46) hx hb dX8_rest_46 rfl (lv_at hl 0 rfl) ?_
        obtain ⟨y11, hy11, h⟩ := bnd_ex h
        refine x_callVi (pc := 47) (st := .ref (ad 0) :: []) (As := []) E hEx hl.1 hP hS (kX8_minutesLeft hap  M10  _ hy11) gX8_127 hdX8_minutesLeft rfl (by decide) sh8 rfl ⟨Nat.le_of_ble_eq_true rfl, Nat.le_of_ble_eq_true rfl⟩ ⟨rfl, rfl⟩ dX8_rest_47 rfl (Nat.le_of_ble_eq_true rfl) (fun H locs hP hS n12 => ?_)
        obtain ⟨rfl, rfl⟩ := som2 h
        exact x_iret E hP hS rfl dX8_rest_50
      · have h := (if_neg c8).symm.trans h
        refine lv_bipush (pc := 31) (v := (-6 : Int32)) hx hb dX8_rest_31 (by decide) ?_
        obtain ⟨rfl, rfl⟩ := som2 h
        exact x_iret E hP hS rfl dX8_rest_33
    · have h := (if_pos c5).symm.trans h
      refine lv_bipush (pc := 20) (v := (-4 : Int32)) hx hb dX8_rest_20 (by decide) ?_
      obtain ⟨rfl, rfl⟩ := som2 h
      exact x_iret E hP hS rfl dX8_rest_22
  · have h := (if_pos c2).symm.trans h
    refine lv_bipush (pc := 10) (v := (-2 : Int32)) hx hb dX8_rest_10 (by decide) ?_
    obtain ⟨rfl, rfl⟩ := som2 h
    exact x_iret E hP hS rfl dX8_rest_12
set_option maxRecDepth 100000 in
set_option maxHeartbeats 4000000 in
theorem kX8_clueFor (hap : Apart 7 ad)   (M : Mem) (x1 x2 x3 : Int32) (v : Int32) (h : fX8_clueFor M x1 x2 x3 = some v) : RI G ad cA cZ cC yX8_clueFor cX8_clueFor 7 .int ({ frames := 4, cells := 0, slots := 0, locals := 86 } : Room) [.ref (ad 0), .int x1, .int x2, .int x3] M v M := by
  refine CI.mk (own := RX8) (ls0 := [(0, .ref (ad 0)), (1, .int x1), (2, .int x2), (3, .int x3)]) (by decide +kernel) rfl hap (Nat.le_of_ble_eq_true rfl) rfl ?_
  intro p l e s m args below meth c ls E hP hl
  have hx := E.1
  have hb := E.2.1
  have hown := E.2.2.2.2.2.1
  have hts := E.2.2.2.2.2.2.1
  have hEx := ExR.ok 7 ad
  have hS : va_S (AW 7 ad) s.heap s.heap [] := va_S.rf
  have hL14 : ∀ (n : Nat) (M : Mem) (x1 x2 x3 x4 x5 : Int32) (H : Heap) (locs : List Loc) (ls : Array Slot), fX8_clueFor_L14 n M x1 x2 x3 x4 x5 = some v → va_P G vwCl (WW 7 (shR cA cZ cC ad) ad M) H → va_S (AW 7 ad) s.heap H locs → lv_has ls 7 [(0, .ref (ad 0)), (1, .int x1), (2, .int x2), (3, .int x3), (4, .int x4), (5, .int x5)] → W p l e ({ frames := 4, cells := 0, slots := 0, locals := 86 } : Room) s m args below meth c H locs 0 0 (QI below G 7 (shR cA cZ cC ad) ad .int args s v M) (F0 m 14 ls []) := by
    intro n
    induction n with
    | zero => intro M x1 x2 x3 x4 x5 H locs ls h; cases h
    | succ n ih =>
      intro M x1 x2 x3 x4 x5 H locs ls h hP hS hl
      rw [fX8_clueFor_L14] at h
      refine lv_iload (pc := 14) hx hb dX8_clueFor_14 (lv_at hl 5 rfl) ?_
      refine lv_if_lt (pc := 16) (tgt := 134) hx hb dX8_clueFor_16 (by decide) (fun c1 => ?_) (fun c1 => ?_)
      · have h := (if_pos c1).symm.trans h
        refine lv_iload (pc := 134) hx hb dX8_clueFor_134 (lv_at hl 4 rfl) ?_
        obtain rfl := som1 h
        exact x_iret E hP hS rfl dX8_clueFor_136
      · have h := (if_neg c1).symm.trans h
        refine lv_aload_n (pc := 19) hx hb dX8_clueFor_19 rfl (lv_at hl 0 rfl) ?_
        refine x_get (pc := 20) (v := .ref (ad 1)) E hP (by decide) sh8 rfl inX8 0 (by decide) q972 rfl dX8_clueFor_20 ?_
        refine lv_sipush (pc := 23) (v := (140 : Int32)) hx hb dX8_clueFor_23 (by decide) ?_
        refine lv_iload (pc := 26) hx hb dX8_clueFor_26 (lv_at hl 5 rfl) ?_
        refine lv_iadd (pc := 28) hx hb dX8_clueFor_28 ?_
        obtain ⟨c2, h⟩ := ite_some h
        refine x_iald (pc := 29) (j := ((140 : Int32) + x5).toNatClampNeg) E hP (by decide) sh8a1 0 rfl (inb_in c2) rfl dX8_clueFor_29 ?_
        refine lv_iload_n (pc := 30) hx hb dX8_clueFor_30 rfl (lv_at hl 1 rfl) ?_
        refine lv_icmp_ne (pc := 31) (tgt := 77) hx hb dX8_clueFor_31 (by decide) (fun c3 => ?_) (fun c3 => ?_)
        · have h := (if_neg c3).symm.trans h
          refine lv_iconst (pc := 77) (v := (0 : Int32)) hx hb dX8_clueFor_77 (by decide) ?_
          refine lv_istore (pc := 78) (lv' := [(6, .int (0 : Int32)), (0, .ref (ad 0)), (1, .int x1), (2, .int x2), (3, .int x3), (4, .int x4), (5, .int x5)]) hx hb dX8_clueFor_78 hl (by decide) rfl (fun ls hl => ?_)
          refine lv_iload (pc := 80) hx hb dX8_clueFor_80 (lv_at hl 0 rfl) ?_
          refine lv_if_eq (pc := 82) (tgt := 124) hx hb dX8_clueFor_82 (by decide) (fun c4 => ?_) (fun c4 => ?_)
          · refine lv_iload (pc := 124) hx hb dX8_clueFor_124 (lv_at hl 5 rfl) ?_
            refine lv_istore (pc := 126) (lv' := [(4, .int x4), (6, .int (0 : Int32)), (0, .ref (ad 0)), (1, .int x1), (2, .int x2), (3, .int x3), (5, .int x5)]) hx hb dX8_clueFor_126 hl (by decide) rfl (fun ls hl => ?_)
            refine lv_iinc (pc := 128) (v := (x5 + (-1))) (lv' := [(5, .int (x5 + (-1))), (4, .int x4), (6, .int (0 : Int32)), (0, .ref (ad 0)), (1, .int x1), (2, .int x2), (3, .int x3)]) hx hb dX8_clueFor_128 hl (k := 6) rfl rfl (by decide) rfl (fun ls hl => ?_)
            refine lv_goto (pc := 131) (tgt := 14) hx hb dX8_clueFor_131 (by decide) ?_
            exact ih M x1 x2 x3 x4 (x5 + (-1)) _ _ _ h hP hS (lv_sub hl [3, 4, 5, 6, 1, 0] rfl)
          · exact absurd c4 (by decide)
        · have h := (if_pos c3).symm.trans h
          refine lv_aload_n (pc := 34) hx hb dX8_clueFor_34 rfl (lv_at hl 0 rfl) ?_
          refine x_get (pc := 35) (v := .ref (ad 1)) E hP (by decide) sh8 rfl inX8 0 (by decide) q972 rfl dX8_clueFor_35 ?_
          refine lv_sipush (pc := 38) (v := (152 : Int32)) hx hb dX8_clueFor_38 (by decide) ?_
          refine lv_iload (pc := 41) hx hb dX8_clueFor_41 (lv_at hl 5 rfl) ?_
          refine lv_iadd (pc := 43) hx hb dX8_clueFor_43 ?_
          obtain ⟨c5, h⟩ := ite_some h
          refine x_iald (pc := 44) (j := ((152 : Int32) + x5).toNatClampNeg) E hP (by decide) sh8a1 0 rfl (inb_in c5) rfl dX8_clueFor_44 ?_
          refine lv_iload_n (pc := 45) hx hb dX8_clueFor_45 rfl (lv_at hl 2 rfl) ?_
          refine lv_icmp_ne (pc := 46) (tgt := 77) hx hb dX8_clueFor_46 (by decide) (fun c6 => ?_) (fun c6 => ?_)
          · have h := (if_neg c6).symm.trans h
            refine lv_iconst (pc := 77) (v := (0 : Int32)) hx hb dX8_clueFor_77 (by decide) ?_
            refine lv_istore (pc := 78) (lv' := [(6, .int (0 : Int32)), (0, .ref (ad 0)), (1, .int x1), (2, .int x2), (3, .int x3), (4, .int x4), (5, .int x5)]) hx hb dX8_clueFor_78 hl (by decide) rfl (fun ls hl => ?_)
            refine lv_iload (pc := 80) hx hb dX8_clueFor_80 (lv_at hl 0 rfl) ?_
            refine lv_if_eq (pc := 82) (tgt := 124) hx hb dX8_clueFor_82 (by decide) (fun c7 => ?_) (fun c7 => ?_)
            · refine lv_iload (pc := 124) hx hb dX8_clueFor_124 (lv_at hl 5 rfl) ?_
              refine lv_istore (pc := 126) (lv' := [(4, .int x4), (6, .int (0 : Int32)), (0, .ref (ad 0)), (1, .int x1), (2, .int x2), (3, .int x3), (5, .int x5)]) hx hb dX8_clueFor_126 hl (by decide) rfl (fun ls hl => ?_)
              refine lv_iinc (pc := 128) (v := (x5 + (-1))) (lv' := [(5, .int (x5 + (-1))), (4, .int x4), (6, .int (0 : Int32)), (0, .ref (ad 0)), (1, .int x1), (2, .int x2), (3, .int x3)]) hx hb dX8_clueFor_128 hl (k := 6) rfl rfl (by decide) rfl (fun ls hl => ?_)
              refine lv_goto (pc := 131) (tgt := 14) hx hb dX8_clueFor_131 (by decide) ?_
              exact ih M x1 x2 x3 x4 (x5 + (-1)) _ _ _ h hP hS (lv_sub hl [3, 4, 5, 6, 1, 0] rfl)
            · exact absurd c7 (by decide)
          · have h := (if_pos c6).symm.trans h
            refine lv_aload_n (pc := 49) hx hb dX8_clueFor_49 rfl (lv_at hl 0 rfl) ?_
            refine x_get (pc := 50) (v := .ref (ad 1)) E hP (by decide) sh8 rfl inX8 0 (by decide) q972 rfl dX8_clueFor_50 ?_
            refine lv_sipush (pc := 53) (v := (164 : Int32)) hx hb dX8_clueFor_53 (by decide) ?_
            refine lv_iload (pc := 56) hx hb dX8_clueFor_56 (lv_at hl 5 rfl) ?_
            refine lv_iadd (pc := 58) hx hb dX8_clueFor_58 ?_
            obtain ⟨c8, h⟩ := ite_some h
            refine x_iald (pc := 59) (j := ((164 : Int32) + x5).toNatClampNeg) E hP (by decide) sh8a1 0 rfl (inb_in c8) rfl dX8_clueFor_59 ?_
            refine lv_if_le (pc := 60) (tgt := 77) hx hb dX8_clueFor_60 (by decide) (fun c9 => ?_) (fun c9 => ?_)
            · have h := (if_pos c9).symm.trans h
              refine lv_iconst (pc := 77) (v := (0 : Int32)) hx hb dX8_clueFor_77 (by decide) ?_
              refine lv_istore (pc := 78) (lv' := [(6, .int (0 : Int32)), (0, .ref (ad 0)), (1, .int x1), (2, .int x2), (3, .int x3), (4, .int x4), (5, .int x5)]) hx hb dX8_clueFor_78 hl (by decide) rfl (fun ls hl => ?_)
              refine lv_iload (pc := 80) hx hb dX8_clueFor_80 (lv_at hl 0 rfl) ?_
              refine lv_if_eq (pc := 82) (tgt := 124) hx hb dX8_clueFor_82 (by decide) (fun c10 => ?_) (fun c10 => ?_)
              · refine lv_iload (pc := 124) hx hb dX8_clueFor_124 (lv_at hl 5 rfl) ?_
                refine lv_istore (pc := 126) (lv' := [(4, .int x4), (6, .int (0 : Int32)), (0, .ref (ad 0)), (1, .int x1), (2, .int x2), (3, .int x3), (5, .int x5)]) hx hb dX8_clueFor_126 hl (by decide) rfl (fun ls hl => ?_)
                refine lv_iinc (pc := 128) (v := (x5 + (-1))) (lv' := [(5, .int (x5 + (-1))), (4, .int x4), (6, .int (0 : Int32)), (0, .ref (ad 0)), (1, .int x1), (2, .int x2), (3, .int x3)]) hx hb dX8_clueFor_128 hl (k := 6) rfl rfl (by decide) rfl (fun ls hl => ?_)
                refine lv_goto (pc := 131) (tgt := 14) hx hb dX8_clueFor_131 (by decide) ?_
                exact ih M x1 x2 x3 x4 (x5 + (-1)) _ _ _ h hP hS (lv_sub hl [3, 4, 5, 6, 1, 0] rfl)
              · exact absurd c10 (by decide)
            · have h := (if_neg c9).symm.trans h
              refine lv_aload_n (pc := 63) hx hb dX8_clueFor_63 rfl (lv_at hl 0 rfl) ?_
              refine lv_iload (pc := 64) hx hb dX8_clueFor_64 (lv_at hl 5 rfl) ?_
              obtain ⟨y11, hy11, h⟩ := bnd_ex h
              refine x_callVi (pc := 66) (st := .int x5 :: .ref (ad 0) :: []) (As := [.int x5]) E hEx hl.1 hP hS (kX8_clueAtHand hap  M _ _ hy11) gX8_51 hdX8_clueAtHand rfl (by decide) sh8 rfl ⟨Nat.le_of_ble_eq_true rfl, Nat.le_of_ble_eq_true rfl⟩ ⟨rfl, rfl⟩ dX8_clueFor_66 rfl (Nat.le_of_ble_eq_true rfl) (fun H locs hP hS n12 => ?_)
              refine lv_iload_n (pc := 69) hx hb dX8_clueFor_69 rfl (lv_at hl 3 rfl) ?_
              refine lv_icmp_ne (pc := 70) (tgt := 77) hx hb dX8_clueFor_70 (by decide) (fun c13 => ?_) (fun c13 => ?_)
              · have h := (if_neg c13).symm.trans h
                refine lv_iconst (pc := 77) (v := (0 : Int32)) hx hb dX8_clueFor_77 (by decide) ?_
                refine lv_istore (pc := 78) (lv' := [(6, .int (0 : Int32)), (0, .ref (ad 0)), (1, .int x1), (2, .int x2), (3, .int x3), (4, .int x4), (5, .int x5)]) hx hb dX8_clueFor_78 hl (by decide) rfl (fun ls hl => ?_)
                refine lv_iload (pc := 80) hx hb dX8_clueFor_80 (lv_at hl 0 rfl) ?_
                refine lv_if_eq (pc := 82) (tgt := 124) hx hb dX8_clueFor_82 (by decide) (fun c14 => ?_) (fun c14 => ?_)
                · refine lv_iload (pc := 124) hx hb dX8_clueFor_124 (lv_at hl 5 rfl) ?_
                  refine lv_istore (pc := 126) (lv' := [(4, .int x4), (6, .int (0 : Int32)), (0, .ref (ad 0)), (1, .int x1), (2, .int x2), (3, .int x3), (5, .int x5)]) hx hb dX8_clueFor_126 hl (by decide) rfl (fun ls hl => ?_)
                  refine lv_iinc (pc := 128) (v := (x5 + (-1))) (lv' := [(5, .int (x5 + (-1))), (4, .int x4), (6, .int (0 : Int32)), (0, .ref (ad 0)), (1, .int x1), (2, .int x2), (3, .int x3)]) hx hb dX8_clueFor_128 hl (k := 6) rfl rfl (by decide) rfl (fun ls hl => ?_)
                  refine lv_goto (pc := 131) (tgt := 14) hx hb dX8_clueFor_131 (by decide) ?_
                  exact ih M x1 x2 x3 x4 (x5 + (-1)) _ _ _ h hP hS (lv_sub hl [3, 4, 5, 6, 1, 0] rfl)
                · exact absurd c14 (by decide)
              · have h := (if_pos c13).symm.trans h
                refine lv_iconst (pc := 73) (v := (1 : Int32)) hx hb dX8_clueFor_73 (by decide) ?_
                refine lv_goto (pc := 74) (tgt := 78) hx hb dX8_clueFor_74 (by decide) ?_
                refine lv_istore (pc := 78) (lv' := [(6, .int (1 : Int32)), (0, .ref (ad 0)), (1, .int x1), (2, .int x2), (3, .int x3), (4, .int x4), (5, .int x5)]) hx hb dX8_clueFor_78 hl (by decide) rfl (fun ls hl => ?_)
                refine lv_iload (pc := 80) hx hb dX8_clueFor_80 (lv_at hl 0 rfl) ?_
                refine lv_if_eq (pc := 82) (tgt := 124) hx hb dX8_clueFor_82 (by decide) (fun c15 => ?_) (fun c15 => ?_)
                · exact absurd c15 (by decide)
                · refine lv_iload (pc := 85) hx hb dX8_clueFor_85 (lv_at hl 5 rfl) ?_
                  refine lv_if_lt (pc := 87) (tgt := 119) hx hb dX8_clueFor_87 (by decide) (fun c16 => ?_) (fun c16 => ?_)
                  · have h := (if_pos c16).symm.trans h
                    refine lv_iload (pc := 119) hx hb dX8_clueFor_119 (lv_at hl 6 rfl) ?_
                    refine lv_goto (pc := 121) (tgt := 126) hx hb dX8_clueFor_121 (by decide) ?_
                    refine lv_istore (pc := 126) (lv' := [(4, .int x5), (6, .int (1 : Int32)), (0, .ref (ad 0)), (1, .int x1), (2, .int x2), (3, .int x3), (5, .int x5)]) hx hb dX8_clueFor_126 hl (by decide) rfl (fun ls hl => ?_)
                    refine lv_iinc (pc := 128) (v := (x5 + (-1))) (lv' := [(5, .int (x5 + (-1))), (4, .int x5), (6, .int (1 : Int32)), (0, .ref (ad 0)), (1, .int x1), (2, .int x2), (3, .int x3)]) hx hb dX8_clueFor_128 hl (k := 6) rfl rfl (by decide) rfl (fun ls hl => ?_)
                    refine lv_goto (pc := 131) (tgt := 14) hx hb dX8_clueFor_131 (by decide) ?_
                    exact ih M x1 x2 x3 x5 (x5 + (-1)) _ _ _ h hP hS (lv_sub hl [3, 4, 5, 6, 1, 0] rfl)
                  · have h := (if_neg c16).symm.trans h
                    refine lv_iload_n (pc := 90) hx hb dX8_clueFor_90 rfl (lv_at hl 4 rfl) ?_
                    refine lv_if_eq (pc := 91) (tgt := 119) hx hb dX8_clueFor_91 (by decide) (fun c17 => ?_) (fun c17 => ?_)
                    · have h := (if_pos c17).symm.trans h
                      refine lv_iload (pc := 119) hx hb dX8_clueFor_119 (lv_at hl 6 rfl) ?_
                      refine lv_goto (pc := 121) (tgt := 126) hx hb dX8_clueFor_121 (by decide) ?_
                      refine lv_istore (pc := 126) (lv' := [(4, .int x5), (6, .int (1 : Int32)), (0, .ref (ad 0)), (1, .int x1), (2, .int x2), (3, .int x3), (5, .int x5)]) hx hb dX8_clueFor_126 hl (by decide) rfl (fun ls hl => ?_)
                      refine lv_iinc (pc := 128) (v := (x5 + (-1))) (lv' := [(5, .int (x5 + (-1))), (4, .int x5), (6, .int (1 : Int32)), (0, .ref (ad 0)), (1, .int x1), (2, .int x2), (3, .int x3)]) hx hb dX8_clueFor_128 hl (k := 6) rfl rfl (by decide) rfl (fun ls hl => ?_)
                      refine lv_goto (pc := 131) (tgt := 14) hx hb dX8_clueFor_131 (by decide) ?_
                      exact ih M x1 x2 x3 x5 (x5 + (-1)) _ _ _ h hP hS (lv_sub hl [3, 4, 5, 6, 1, 0] rfl)
                    · have h := (if_neg c17).symm.trans h
                      refine lv_aload_n (pc := 94) hx hb dX8_clueFor_94 rfl (lv_at hl 1 rfl) ?_
                      refine x_get (pc := 95) (v := .ref (ad 1)) E hP (by decide) sh8 rfl inX8 0 (by decide) q972 rfl dX8_clueFor_95 ?_
                      refine lv_sipush (pc := 98) (v := (164 : Int32)) hx hb dX8_clueFor_98 (by decide) ?_
                      refine lv_iload (pc := 101) hx hb dX8_clueFor_101 (lv_at hl 6 rfl) ?_
                      refine lv_iadd (pc := 103) hx hb dX8_clueFor_103 ?_
                      obtain ⟨c18, h⟩ := ite_some h
                      refine x_iald (pc := 104) (j := ((164 : Int32) + x5).toNatClampNeg) E hP (by decide) sh8a1 0 rfl (inb_in c18) rfl dX8_clueFor_104 ?_
                      refine lv_aload_n (pc := 105) hx hb dX8_clueFor_105 rfl (lv_at hl 1 rfl) ?_
                      refine x_get (pc := 106) (v := .ref (ad 1)) E hP (by decide) sh8 rfl inX8 0 (by decide) q972 rfl dX8_clueFor_106 ?_
                      refine lv_sipush (pc := 109) (v := (164 : Int32)) hx hb dX8_clueFor_109 (by decide) ?_
                      refine lv_iload (pc := 112) hx hb dX8_clueFor_112 (lv_at hl 5 rfl) ?_
                      refine lv_iadd (pc := 114) hx hb dX8_clueFor_114 ?_
                      obtain ⟨c19, h⟩ := ite_some h
                      refine x_iald (pc := 115) (j := ((164 : Int32) + x4).toNatClampNeg) E hP (by decide) sh8a1 0 rfl (inb_in c19) rfl dX8_clueFor_115 ?_
                      refine lv_icmp_lt (pc := 116) (tgt := 124) hx hb dX8_clueFor_116 (by decide) (fun c20 => ?_) (fun c20 => ?_)
                      · have h := (if_pos c20).symm.trans h
                        refine lv_iload (pc := 124) hx hb dX8_clueFor_124 (lv_at hl 5 rfl) ?_
                        refine lv_istore (pc := 126) (lv' := [(4, .int x4), (6, .int (1 : Int32)), (0, .ref (ad 0)), (1, .int x1), (2, .int x2), (3, .int x3), (5, .int x5)]) hx hb dX8_clueFor_126 hl (by decide) rfl (fun ls hl => ?_)
                        refine lv_iinc (pc := 128) (v := (x5 + (-1))) (lv' := [(5, .int (x5 + (-1))), (4, .int x4), (6, .int (1 : Int32)), (0, .ref (ad 0)), (1, .int x1), (2, .int x2), (3, .int x3)]) hx hb dX8_clueFor_128 hl (k := 6) rfl rfl (by decide) rfl (fun ls hl => ?_)
                        refine lv_goto (pc := 131) (tgt := 14) hx hb dX8_clueFor_131 (by decide) ?_
                        exact ih M x1 x2 x3 x4 (x5 + (-1)) _ _ _ h hP hS (lv_sub hl [3, 4, 5, 6, 1, 0] rfl)
                      · have h := (if_neg c20).symm.trans h
                        refine lv_iload (pc := 119) hx hb dX8_clueFor_119 (lv_at hl 6 rfl) ?_
                        refine lv_goto (pc := 121) (tgt := 126) hx hb dX8_clueFor_121 (by decide) ?_
                        refine lv_istore (pc := 126) (lv' := [(4, .int x5), (6, .int (1 : Int32)), (0, .ref (ad 0)), (1, .int x1), (2, .int x2), (3, .int x3), (5, .int x5)]) hx hb dX8_clueFor_126 hl (by decide) rfl (fun ls hl => ?_)
                        refine lv_iinc (pc := 128) (v := (x5 + (-1))) (lv' := [(5, .int (x5 + (-1))), (4, .int x5), (6, .int (1 : Int32)), (0, .ref (ad 0)), (1, .int x1), (2, .int x2), (3, .int x3)]) hx hb dX8_clueFor_128 hl (k := 6) rfl rfl (by decide) rfl (fun ls hl => ?_)
                        refine lv_goto (pc := 131) (tgt := 14) hx hb dX8_clueFor_131 (by decide) ?_
                        exact ih M x1 x2 x3 x5 (x5 + (-1)) _ _ _ h hP hS (lv_sub hl [3, 4, 5, 6, 1, 0] rfl)
  unfold fX8_clueFor at h
  refine lv_bipush (pc := 0) (v := (-5 : Int32)) hx hb dX8_clueFor_0 (by decide) ?_
  refine lv_istore (pc := 2) (lv' := [(4, .int (-5 : Int32)), (0, .ref (ad 0)), (1, .int x1), (2, .int x2), (3, .int x3)]) hx hb dX8_clueFor_2 hl (by decide) rfl (fun ls hl => ?_)
  refine lv_aload_n (pc := 4) hx hb dX8_clueFor_4 rfl (lv_at hl 1 rfl) ?_
  refine x_get (pc := 5) (v := .ref (ad 1)) E hP (by decide) sh8 rfl inX8 0 (by decide) q972 rfl dX8_clueFor_5 ?_
  refine lv_iconst (pc := 8) (v := (2 : Int32)) hx hb dX8_clueFor_8 (by decide) ?_
  refine x_iald (pc := 9) (j := 2) E hP (by decide) sh8a1 0 rfl (vp_inl (by decide)) rfl dX8_clueFor_9 ?_
  refine lv_iconst (pc := 10) (v := (1 : Int32)) hx hb dX8_clueFor_10 (by decide) ?_
  refine lv_isub (pc := 11) hx hb dX8_clueFor_11 ?_
  refine lv_istore (pc := 12) (lv' := [(5, .int ((M 1 2) - (1 : Int32))), (4, .int (-5 : Int32)), (0, .ref (ad 0)), (1, .int x1), (2, .int x2), (3, .int x3)]) hx hb dX8_clueFor_12 hl (by decide) rfl (fun ls hl => ?_)
  exact hL14 5000 M x1 x2 x3 (-5 : Int32) ((M 1 2) - (1 : Int32)) _ _ _ h hP hS (lv_sub hl [2, 3, 4, 5, 1, 0] rfl)
end
