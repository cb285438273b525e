section
variable {G : va_G} {ad sK sV : Nat → Nat} {cA cZ cC : ClassId}
set_option maxRecDepth 100000 in
set_option maxHeartbeats 4000000 in
theorem kX8_in (hap : Apart 7 ad)   (M : Mem) (x0 x1 x2 : Int32) (v : Int32) (h : fX8_in M x0 x1 x2 = v) : RI G ad cA cZ cC yX8_in cX8_in 3 .boolean ({ frames := 0, cells := 0, slots := 0, locals := 0 } : Room) [.int x0, .int x1, .int x2] M v M := by
  refine CI.mk (own := RX8) (ls0 := [(0, .int x0), (1, .int x1), (2, .int x2)]) (by decide +kernel) rfl hap (Nat.le_of_ble_eq_true rfl) rfl ?_
  intro p l e s m args below meth c ls E hP hl
  have hx := E.1
  have hb := E.2.1
  have hown := E.2.2.2.2.2.1
  have hts := E.2.2.2.2.2.2.1
  have hEx := ExR.ok 7 ad
  have hS : va_S (AW 7 ad) s.heap s.heap [] := va_S.rf
  unfold fX8_in at h
  refine lv_iload_n (pc := 0) hx hb dX8_in_0 rfl (lv_at hl 0 rfl) ?_
  refine lv_iload_n (pc := 1) hx hb dX8_in_1 rfl (lv_at hl 1 rfl) ?_
  refine lv_icmp_lt (pc := 2) (tgt := 14) hx hb dX8_in_2 (by decide) (fun c1 => ?_) (fun c1 => ?_)
  · have h := (if_pos c1).symm.trans h
    refine lv_iconst (pc := 14) (v := (0 : Int32)) hx hb dX8_in_14 (by decide) ?_
    obtain rfl : (0 : Int32) = v := h
    exact x_iret E hP hS rfl dX8_in_15
  · have h := (if_neg c1).symm.trans h
    refine lv_iload_n (pc := 5) hx hb dX8_in_5 rfl (lv_at hl 0 rfl) ?_
    refine lv_iload_n (pc := 6) hx hb dX8_in_6 rfl (lv_at hl 2 rfl) ?_
    refine lv_icmp_gt (pc := 7) (tgt := 14) hx hb dX8_in_7 (by decide) (fun c2 => ?_) (fun c2 => ?_)
    · have h := (if_pos c2).symm.trans h
      refine lv_iconst (pc := 14) (v := (0 : Int32)) hx hb dX8_in_14 (by decide) ?_
      obtain rfl : (0 : Int32) = v := h
      exact x_iret E hP hS rfl dX8_in_15
    · have h := (if_neg c2).symm.trans h
      refine lv_iconst (pc := 10) (v := (1 : Int32)) hx hb dX8_in_10 (by decide) ?_
      refine lv_goto (pc := 11) (tgt := 15) hx hb dX8_in_11 (by decide) ?_
      obtain rfl : (1 : Int32) = v := h
      exact x_iret E hP hS rfl dX8_in_15
set_option maxRecDepth 100000 in
set_option maxHeartbeats 4000000 in
theorem kX8_keep (hap : Apart 7 ad)   (M : Mem) (x1 : Int32) (v : Int32) (M' : Mem) (h : fX8_keep M x1 = some (v, M')) : RI G ad cA cZ cC yX8_keep cX8_keep 3 .int ({ frames := 1, cells := 0, slots := 0, locals := 22 } : Room) [.ref (ad 0), .int x1] M v M' := by
  refine CI.mk (own := RX8) (ls0 := [(0, .ref (ad 0)), (1, .int x1)]) (by decide +kernel) rfl hap (Nat.le_of_ble_eq_true rfl) rfl ?_
  intro p l e s m args below meth c ls E hP hl
  have hx := E.1
  have hb := E.2.1
  have hown := E.2.2.2.2.2.1
  have hts := E.2.2.2.2.2.2.1
  have hEx := ExR.ok 7 ad
  have hS : va_S (AW 7 ad) s.heap s.heap [] := va_S.rf
  have hL20 : ∀ (n : Nat) (M : Mem) (x1 x2 : Int32) (H : Heap) (locs : List Loc) (ls : Array Slot), fX8_keep_L20 n M x1 x2 = some (v, M') → va_P G vwCl (WW 7 (shR cA cZ cC ad) ad M) H → va_S (AW 7 ad) s.heap H locs → lv_has ls 3 [(0, .ref (ad 0)), (1, .int x1), (2, .int x2)] → W p l e ({ frames := 1, cells := 0, slots := 0, locals := 22 } : Room) s m args below meth c H locs 0 0 (QI below G 7 (shR cA cZ cC ad) ad .int args s v M') (F0 m 20 ls []) := by
    intro n
    induction n with
    | zero => intro M x1 x2 H locs ls h; cases h
    | succ n ih =>
      intro M x1 x2 H locs ls h hP hS hl
      rw [fX8_keep_L20] at h
      refine lv_iload_n (pc := 20) hx hb dX8_keep_20 rfl (lv_at hl 2 rfl) ?_
      refine lv_sipush (pc := 21) (v := (902 : Int32)) hx hb dX8_keep_21 (by decide) ?_
      refine lv_icmp_ge (pc := 24) (tgt := 51) hx hb dX8_keep_24 (by decide) (fun c5 => ?_) (fun c5 => ?_)
      · have h := (if_pos c5).symm.trans h
        refine lv_aload_n (pc := 51) hx hb dX8_keep_51 rfl (lv_at hl 0 rfl) ?_
        refine x_get (pc := 52) (v := .ref (ad 1)) E hP (by decide) sh8 rfl inX8 0 (by decide) q972 rfl dX8_keep_52 ?_
        refine lv_bipush (pc := 55) (v := (9 : Int32)) hx hb dX8_keep_55 (by decide) ?_
        refine x_iald (pc := 57) (j := 9) E hP (by decide) sh8a1 0 rfl (vp_inl (by decide)) rfl dX8_keep_57 ?_
        obtain ⟨rfl, rfl⟩ := som2 h
        exact x_iret E hP hS rfl dX8_keep_58
      · have h := (if_neg c5).symm.trans h
        refine lv_aload_n (pc := 27) hx hb dX8_keep_27 rfl (lv_at hl 0 rfl) ?_
        refine x_get (pc := 28) (v := .ref (ad 3)) E hP (by decide) sh8 rfl inX8 2 (by decide) q974 rfl dX8_keep_28 ?_
        refine lv_sipush (pc := 31) (v := (902 : Int32)) hx hb dX8_keep_31 (by decide) ?_
        refine lv_iload_n (pc := 34) hx hb dX8_keep_34 rfl (lv_at hl 1 rfl) ?_
        refine lv_imul (pc := 35) hx hb dX8_keep_35 ?_
        refine lv_iload_n (pc := 36) hx hb dX8_keep_36 rfl (lv_at hl 2 rfl) ?_
        refine lv_iadd (pc := 37) hx hb dX8_keep_37 ?_
        refine lv_aload_n (pc := 38) hx hb dX8_keep_38 rfl (lv_at hl 0 rfl) ?_
        refine x_get (pc := 39) (v := .ref (ad 1)) E hP (by decide) sh8 rfl inX8 0 (by decide) q972 rfl dX8_keep_39 ?_
        refine lv_iload_n (pc := 42) hx hb dX8_keep_42 rfl (lv_at hl 2 rfl) ?_
        obtain ⟨c6, h⟩ := ite_some h
        refine x_iald (pc := 43) (j := x2.toNatClampNeg) E hP (by decide) sh8a1 0 rfl (inb_in c6) rfl dX8_keep_43 ?_
        obtain ⟨c7, h⟩ := ite_some h
        obtain ⟨M8, hM8, h⟩ := thn_ex h
        refine x_iast (pc := 44) (j := (((902 : Int32) * x1) + x2).toNatClampNeg) E hP hS (by decide) sh8a3 0 rfl (inb_in c7) rfl dX8_keep_44 (fun H locs hP hS => ?_)
        rw [hM8] at hP
        refine lv_iinc (pc := 45) (v := (x2 + 1)) (lv' := [(2, .int (x2 + 1)), (0, .ref (ad 0)), (1, .int x1)]) hx hb dX8_keep_45 hl (k := 2) rfl rfl (by decide) rfl (fun ls hl => ?_)
        refine lv_goto (pc := 48) (tgt := 20) hx hb dX8_keep_48 (by decide) ?_
        exact ih M8 x1 (x2 + 1) _ _ _ h hP hS (lv_sub hl [1, 2, 0] rfl)
  unfold fX8_keep at h
  refine lv_iload_n (pc := 0) hx hb dX8_keep_0 rfl (lv_at hl 1 rfl) ?_
  refine lv_iconst (pc := 1) (v := (0 : Int32)) hx hb dX8_keep_1 (by decide) ?_
  refine lv_iconst (pc := 2) (v := (1 : Int32)) hx hb dX8_keep_2 (by decide) ?_
  refine x_callSi (pc := 3) (st := .int (1 : Int32) :: .int (0 : Int32) :: .int x1 :: []) (As := [.int x1, .int (0 : Int32), .int (1 : Int32)]) E hEx hl.1 hP hS (kX8_in hap  M _ _ _ _ rfl) gX8_30 hsX8_in rfl ⟨Nat.le_of_ble_eq_true rfl, Nat.le_of_ble_eq_true rfl⟩ ⟨rfl, rfl⟩ dX8_keep_3 rfl (Nat.le_of_ble_eq_true rfl) (fun H locs hP hS n1 => ?_)
  refine lv_if_ne (pc := 6) (tgt := 11) hx hb dX8_keep_6 (by decide) (fun c2 => ?_) (fun c2 => ?_)
  · have h := (if_neg c2).symm.trans h
    refine lv_aload_n (pc := 11) hx hb dX8_keep_11 rfl (lv_at hl 0 rfl) ?_
    refine x_get (pc := 12) (v := .ref (ad 4)) E hP (by decide) sh8 rfl inX8 3 (by decide) q975 rfl dX8_keep_12 ?_
    refine lv_iload_n (pc := 15) hx hb dX8_keep_15 rfl (lv_at hl 1 rfl) ?_
    refine lv_iconst (pc := 16) (v := (1 : Int32)) hx hb dX8_keep_16 (by decide) ?_
    obtain ⟨c3, h⟩ := ite_some h
    obtain ⟨M4, hM4, h⟩ := thn_ex h
    refine x_zast (pc := 17) (j := x1.toNatClampNeg) E hP hS (by decide) sh8a4 1 rfl (inb_in c3) rfl dX8_keep_17 (fun H locs hP hS => ?_)
    rw [hM4] at hP
    refine lv_iconst (pc := 18) (v := (0 : Int32)) hx hb dX8_keep_18 (by decide) ?_
    refine lv_istore_n (pc := 19) (lv' := [(2, .int (0 : Int32)), (0, .ref (ad 0)), (1, .int x1)]) hx hb dX8_keep_19 rfl hl (by decide) rfl (fun ls hl => ?_)
    exact hL20 5000 M4 x1 (0 : Int32) _ _ _ h hP hS (lv_sub hl [1, 2, 0] rfl)
  · have h := (if_pos c2).symm.trans h
    refine lv_iconst (pc := 9) (v := (-1 : Int32)) hx hb dX8_keep_9 (by decide) ?_
    obtain ⟨rfl, rfl⟩ := som2 h
    exact x_iret E hP hS rfl dX8_keep_10
set_option maxRecDepth 100000 in
set_option maxHeartbeats 4000000 in
theorem kX8_restore (hap : Apart 7 ad)   (M : Mem) (x1 : Int32) (v : Int32) (M' : Mem) (h : fX8_restore M x1 = some (v, M')) : RI G ad cA cZ cC yX8_restore cX8_restore 3 .int ({ frames := 1, cells := 0, slots := 0, locals := 22 } : Room) [.ref (ad 0), .int x1] M v M' := by
  refine CI.mk (own := RX8) (ls0 := [(0, .ref (ad 0)), (1, .int x1)]) (by decide +kernel) rfl hap (Nat.le_of_ble_eq_true rfl) rfl ?_
  intro p l e s m args below meth c ls E hP hl
  have hx := E.1
  have hb := E.2.1
  have hown := E.2.2.2.2.2.1
  have hts := E.2.2.2.2.2.2.1
  have hEx := ExR.ok 7 ad
  have hS : va_S (AW 7 ad) s.heap s.heap [] := va_S.rf
  have hL25 : ∀ (n : Nat) (M : Mem) (x1 x2 : Int32) (H : Heap) (locs : List Loc) (ls : Array Slot), fX8_restore_L25 n M x1 x2 = some (v, M') → va_P G vwCl (WW 7 (shR cA cZ cC ad) ad M) H → va_S (AW 7 ad) s.heap H locs → lv_has ls 3 [(0, .ref (ad 0)), (1, .int x1), (2, .int x2)] → W p l e ({ frames := 1, cells := 0, slots := 0, locals := 22 } : Room) s m args below meth c H locs 0 0 (QI below G 7 (shR cA cZ cC ad) ad .int args s v M') (F0 m 25 ls []) := by
    intro n
    induction n with
    | zero => intro M x1 x2 H locs ls h; cases h
    | succ n ih =>
      intro M x1 x2 H locs ls h hP hS hl
      rw [fX8_restore_L25] at h
      refine lv_iload_n (pc := 25) hx hb dX8_restore_25 rfl (lv_at hl 2 rfl) ?_
      refine lv_sipush (pc := 26) (v := (902 : Int32)) hx hb dX8_restore_26 (by decide) ?_
      refine lv_icmp_ge (pc := 29) (tgt := 56) hx hb dX8_restore_29 (by decide) (fun c5 => ?_) (fun c5 => ?_)
      · have h := (if_pos c5).symm.trans h
        refine lv_aload_n (pc := 56) hx hb dX8_restore_56 rfl (lv_at hl 0 rfl) ?_
        refine x_get (pc := 57) (v := .ref (ad 1)) E hP (by decide) sh8 rfl inX8 0 (by decide) q972 rfl dX8_restore_57 ?_
        refine lv_bipush (pc := 60) (v := (9 : Int32)) hx hb dX8_restore_60 (by decide) ?_
        refine x_iald (pc := 62) (j := 9) E hP (by decide) sh8a1 0 rfl (vp_inl (by decide)) rfl dX8_restore_62 ?_
        obtain ⟨rfl, rfl⟩ := som2 h
        exact x_iret E hP hS rfl dX8_restore_63
      · have h := (if_neg c5).symm.trans h
        refine lv_aload_n (pc := 32) hx hb dX8_restore_32 rfl (lv_at hl 0 rfl) ?_
        refine x_get (pc := 33) (v := .ref (ad 1)) E hP (by decide) sh8 rfl inX8 0 (by decide) q972 rfl dX8_restore_33 ?_
        refine lv_iload_n (pc := 36) hx hb dX8_restore_36 rfl (lv_at hl 2 rfl) ?_
        refine lv_aload_n (pc := 37) hx hb dX8_restore_37 rfl (lv_at hl 0 rfl) ?_
        refine x_get (pc := 38) (v := .ref (ad 3)) E hP (by decide) sh8 rfl inX8 2 (by decide) q974 rfl dX8_restore_38 ?_
        refine lv_sipush (pc := 41) (v := (902 : Int32)) hx hb dX8_restore_41 (by decide) ?_
        refine lv_iload_n (pc := 44) hx hb dX8_restore_44 rfl (lv_at hl 1 rfl) ?_
        refine lv_imul (pc := 45) hx hb dX8_restore_45 ?_
        refine lv_iload_n (pc := 46) hx hb dX8_restore_46 rfl (lv_at hl 2 rfl) ?_
        refine lv_iadd (pc := 47) hx hb dX8_restore_47 ?_
        obtain ⟨c6, h⟩ := ite_some h
        refine x_iald (pc := 48) (j := (((902 : Int32) * x1) + x2).toNatClampNeg) E hP (by decide) sh8a3 0 rfl (inb_in c6) rfl dX8_restore_48 ?_
        obtain ⟨c7, h⟩ := ite_some h
        obtain ⟨M8, hM8, h⟩ := thn_ex h
        refine x_iast (pc := 49) (j := x2.toNatClampNeg) E hP hS (by decide) sh8a1 0 rfl (inb_in c7) rfl dX8_restore_49 (fun H locs hP hS => ?_)
        rw [hM8] at hP
        refine lv_iinc (pc := 50) (v := (x2 + 1)) (lv' := [(2, .int (x2 + 1)), (0, .ref (ad 0)), (1, .int x1)]) hx hb dX8_restore_50 hl (k := 2) rfl rfl (by decide) rfl (fun ls hl => ?_)
        refine lv_goto (pc := 53) (tgt := 25) hx hb dX8_restore_53 (by decide) ?_
        exact ih M8 x1 (x2 + 1) _ _ _ h hP hS (lv_sub hl [1, 2, 0] rfl)
  unfold fX8_restore at h
  refine lv_iload_n (pc := 0) hx hb dX8_restore_0 rfl (lv_at hl 1 rfl) ?_
  refine lv_iconst (pc := 1) (v := (0 : Int32)) hx hb dX8_restore_1 (by decide) ?_
  refine lv_iconst (pc := 2) (v := (1 : Int32)) hx hb dX8_restore_2 (by decide) ?_
  refine x_callSi (pc := 3) (st := .int (1 : Int32) :: .int (0 : Int32) :: .int x1 :: []) (As := [.int x1, .int (0 : Int32), .int (1 : Int32)]) E hEx hl.1 hP hS (kX8_in hap  M _ _ _ _ rfl) gX8_30 hsX8_in rfl ⟨Nat.le_of_ble_eq_true rfl, Nat.le_of_ble_eq_true rfl⟩ ⟨rfl, rfl⟩ dX8_restore_3 rfl (Nat.le_of_ble_eq_true rfl) (fun H locs hP hS n1 => ?_)
  refine lv_if_ne (pc := 6) (tgt := 11) hx hb dX8_restore_6 (by decide) (fun c2 => ?_) (fun c2 => ?_)
  · have h := (if_neg c2).symm.trans h
    refine lv_aload_n (pc := 11) hx hb dX8_restore_11 rfl (lv_at hl 0 rfl) ?_
    refine x_get (pc := 12) (v := .ref (ad 4)) E hP (by decide) sh8 rfl inX8 3 (by decide) q975 rfl dX8_restore_12 ?_
    refine lv_iload_n (pc := 15) hx hb dX8_restore_15 rfl (lv_at hl 1 rfl) ?_
    obtain ⟨c3, h⟩ := ite_some h
    refine x_zald (pc := 16) (j := x1.toNatClampNeg) E hP (by decide) sh8a4 1 rfl (inb_in c3) rfl dX8_restore_16 ?_
    refine lv_if_ne (pc := 17) (tgt := 23) hx hb dX8_restore_17 (by decide) (fun c4 => ?_) (fun c4 => ?_)
    · have h := (if_neg c4).symm.trans h
      refine lv_iconst (pc := 23) (v := (0 : Int32)) hx hb dX8_restore_23 (by decide) ?_
      refine lv_istore_n (pc := 24) (lv' := [(2, .int (0 : Int32)), (0, .ref (ad 0)), (1, .int x1)]) hx hb dX8_restore_24 rfl hl (by decide) rfl (fun ls hl => ?_)
      exact hL25 5000 M x1 (0 : Int32) _ _ _ h hP hS (lv_sub hl [1, 2, 0] rfl)
    · have h := (if_pos c4).symm.trans h
      refine lv_bipush (pc := 20) (v := (-5 : Int32)) hx hb dX8_restore_20 (by decide) ?_
      obtain ⟨rfl, rfl⟩ := som2 h
      exact x_iret E hP hS rfl dX8_restore_22
  · have h := (if_pos c2).symm.trans h
    refine lv_iconst (pc := 9) (v := (-1 : Int32)) hx hb dX8_restore_9 (by decide) ?_
    obtain ⟨rfl, rfl⟩ := som2 h
    exact x_iret E hP hS rfl dX8_restore_10
set_option maxRecDepth 100000 in
set_option maxHeartbeats 4000000 in
theorem kX8_plays (hap : Apart 7 ad)   (M : Mem)  (v : Int32) (h : fX8_plays M = some v) : RI G ad cA cZ cC yX8_plays cX8_plays 1 .boolean ({ frames := 0, cells := 0, slots := 0, locals := 0 } : Room) [.ref (ad 0)] M v M := by
  refine CI.mk (own := RX8) (ls0 := [(0, .ref (ad 0))]) (by decide +kernel) rfl hap (Nat.le_of_ble_eq_true rfl) rfl ?_
  intro p l e s m args below meth c ls E hP hl
  have hx := E.1
  have hb := E.2.1
  have hown := E.2.2.2.2.2.1
  have hts := E.2.2.2.2.2.2.1
  have hEx := ExR.ok 7 ad
  have hS : va_S (AW 7 ad) s.heap s.heap [] := va_S.rf
  unfold fX8_plays at h
  refine lv_aload_n (pc := 0) hx hb dX8_plays_0 rfl (lv_at hl 0 rfl) ?_
  refine x_get (pc := 1) (v := .ref (ad 1)) E hP (by decide) sh8 rfl inX8 0 (by decide) q972 rfl dX8_plays_1 ?_
  refine lv_bipush (pc := 4) (v := (10 : Int32)) hx hb dX8_plays_4 (by decide) ?_
  refine x_iald (pc := 6) (j := 10) E hP (by decide) sh8a1 0 rfl (vp_inl (by decide)) rfl dX8_plays_6 ?_
  refine lv_iconst (pc := 7) (v := (1 : Int32)) hx hb dX8_plays_7 (by decide) ?_
  refine lv_icmp_ne (pc := 8) (tgt := 15) hx hb dX8_plays_8 (by decide) (fun c1 => ?_) (fun c1 => ?_)
  · have h := (if_neg c1).symm.trans h
    refine lv_iconst (pc := 15) (v := (0 : Int32)) hx hb dX8_plays_15 (by decide) ?_
    obtain rfl := som1 h
    exact x_iret E hP hS rfl dX8_plays_16
  · have h := (if_pos c1).symm.trans h
    refine lv_iconst (pc := 11) (v := (1 : Int32)) hx hb dX8_plays_11 (by decide) ?_
    refine lv_goto (pc := 12) (tgt := 16) hx hb dX8_plays_12 (by decide) ?_
    obtain rfl := som1 h
    exact x_iret E hP hS rfl dX8_plays_16
set_option maxRecDepth 100000 in
set_option maxHeartbeats 4000000 in
theorem kX8_noBox (hap : Apart 7 ad)   (M : Mem) (x1 : Int32) (v : Int32) (h : fX8_noBox M x1 = some v) : RI G ad cA cZ cC yX8_noBox cX8_noBox 2 .boolean ({ frames := 1, cells := 0, slots := 0, locals := 22 } : Room) [.ref (ad 0), .int x1] M v M := by
  refine CI.mk (own := RX8) (ls0 := [(0, .ref (ad 0)), (1, .int x1)]) (by decide +kernel) rfl hap (Nat.le_of_ble_eq_true rfl) rfl ?_
  intro p l e s m args below meth c ls E hP hl
  have hx := E.1
  have hb := E.2.1
  have hown := E.2.2.2.2.2.1
  have hts := E.2.2.2.2.2.2.1
  have hEx := ExR.ok 7 ad
  have hS : va_S (AW 7 ad) s.heap s.heap [] := va_S.rf
  unfold fX8_noBox at h
  refine lv_iload_n (pc := 0) hx hb dX8_noBox_0 rfl (lv_at hl 1 rfl) ?_
  refine lv_iconst (pc := 1) (v := (0 : Int32)) hx hb dX8_noBox_1 (by decide) ?_
  refine lv_aload_n (pc := 2) hx hb dX8_noBox_2 rfl (lv_at hl 0 rfl) ?_
  refine x_get (pc := 3) (v := .ref (ad 1)) E hP (by decide) sh8 rfl inX8 0 (by decide) q972 rfl dX8_noBox_3 ?_
  refine lv_iconst (pc := 6) (v := (0 : Int32)) hx hb dX8_noBox_6 (by decide) ?_
  refine x_iald (pc := 7) (j := 0) E hP (by decide) sh8a1 0 rfl (vp_inl (by decide)) rfl dX8_noBox_7 ?_
  refine lv_iconst (pc := 8) (v := (1 : Int32)) hx hb dX8_noBox_8 (by decide) ?_
  refine lv_isub (pc := 9) hx hb dX8_noBox_9 ?_
  refine x_callSi (pc := 10) (st := .int ((M 1 0) - (1 : Int32)) :: .int (0 : Int32) :: .int x1 :: []) (As := [.int x1, .int (0 : Int32), .int ((M 1 0) - (1 : Int32))]) E hEx hl.1 hP hS (kX8_in hap  M _ _ _ _ rfl) gX8_30 hsX8_in rfl ⟨Nat.le_of_ble_eq_true rfl, Nat.le_of_ble_eq_true rfl⟩ ⟨rfl, rfl⟩ dX8_noBox_10 rfl (Nat.le_of_ble_eq_true rfl) (fun H locs hP hS n1 => ?_)
  refine lv_if_ne (pc := 13) (tgt := 20) hx hb dX8_noBox_13 (by decide) (fun c2 => ?_) (fun c2 => ?_)
  · have h := (if_neg c2).symm.trans h
    refine lv_iconst (pc := 20) (v := (0 : Int32)) hx hb dX8_noBox_20 (by decide) ?_
    obtain rfl := som1 h
    exact x_iret E hP hS rfl dX8_noBox_21
  · have h := (if_pos c2).symm.trans h
    refine lv_iconst (pc := 16) (v := (1 : Int32)) hx hb dX8_noBox_16 (by decide) ?_
    refine lv_goto (pc := 17) (tgt := 21) hx hb dX8_noBox_17 (by decide) ?_
    obtain rfl := som1 h
    exact x_iret E hP hS rfl dX8_noBox_21
set_option maxRecDepth 100000 in
set_option maxHeartbeats 4000000 in
theorem kX8_noProp (hap : Apart 7 ad)   (M : Mem) (x1 : Int32) (v : Int32) (h : fX8_noProp M x1 = some v) : RI G ad cA cZ cC yX8_noProp cX8_noProp 2 .boolean ({ frames := 1, cells := 0, slots := 0, locals := 22 } : Room) [.ref (ad 0), .int x1] M v M := by
  refine CI.mk (own := RX8) (ls0 := [(0, .ref (ad 0)), (1, .int x1)]) (by decide +kernel) rfl hap (Nat.le_of_ble_eq_true rfl) rfl ?_
  intro p l e s m args below meth c ls E hP hl
  have hx := E.1
  have hb := E.2.1
  have hown := E.2.2.2.2.2.1
  have hts := E.2.2.2.2.2.2.1
  have hEx := ExR.ok 7 ad
  have hS : va_S (AW 7 ad) s.heap s.heap [] := va_S.rf
  unfold fX8_noProp at h
  refine lv_iload_n (pc := 0) hx hb dX8_noProp_0 rfl (lv_at hl 1 rfl) ?_
  refine lv_iconst (pc := 1) (v := (0 : Int32)) hx hb dX8_noProp_1 (by decide) ?_
  refine lv_aload_n (pc := 2) hx hb dX8_noProp_2 rfl (lv_at hl 0 rfl) ?_
  refine x_get (pc := 3) (v := .ref (ad 1)) E hP (by decide) sh8 rfl inX8 0 (by decide) q972 rfl dX8_noProp_3 ?_
  refine lv_iconst (pc := 6) (v := (1 : Int32)) hx hb dX8_noProp_6 (by decide) ?_
  refine x_iald (pc := 7) (j := 1) E hP (by decide) sh8a1 0 rfl (vp_inl (by decide)) rfl dX8_noProp_7 ?_
  refine lv_iconst (pc := 8) (v := (1 : Int32)) hx hb dX8_noProp_8 (by decide) ?_
  refine lv_isub (pc := 9) hx hb dX8_noProp_9 ?_
  refine x_callSi (pc := 10) (st := .int ((M 1 1) - (1 : Int32)) :: .int (0 : Int32) :: .int x1 :: []) (As := [.int x1, .int (0 : Int32), .int ((M 1 1) - (1 : Int32))]) E hEx hl.1 hP hS (kX8_in hap  M _ _ _ _ rfl) gX8_30 hsX8_in rfl ⟨Nat.le_of_ble_eq_true rfl, Nat.le_of_ble_eq_true rfl⟩ ⟨rfl, rfl⟩ dX8_noProp_10 rfl (Nat.le_of_ble_eq_true rfl) (fun H locs hP hS n1 => ?_)
  refine lv_if_ne (pc := 13) (tgt := 20) hx hb dX8_noProp_13 (by decide) (fun c2 => ?_) (fun c2 => ?_)
  · have h := (if_neg c2).symm.trans h
    refine lv_iconst (pc := 20) (v := (0 : Int32)) hx hb dX8_noProp_20 (by decide) ?_
    obtain rfl := som1 h
    exact x_iret E hP hS rfl dX8_noProp_21
  · have h := (if_pos c2).symm.trans h
    refine lv_iconst (pc := 16) (v := (1 : Int32)) hx hb dX8_noProp_16 (by decide) ?_
    refine lv_goto (pc := 17) (tgt := 21) hx hb dX8_noProp_17 (by decide) ?_
    obtain rfl := som1 h
    exact x_iret E hP hS rfl dX8_noProp_21
set_option maxRecDepth 100000 in
set_option maxHeartbeats 4000000 in
theorem kX8_noClue (hap : Apart 7 ad)   (M : Mem) (x1 : Int32) (v : Int32) (h : fX8_noClue M x1 = some v) : RI G ad cA cZ cC yX8_noClue cX8_noClue 2 .boolean ({ frames := 1, cells := 0, slots := 0, locals := 22 } : Room) [.ref (ad 0), .int x1] M v M := by
  refine CI.mk (own := RX8) (ls0 := [(0, .ref (ad 0)), (1, .int x1)]) (by decide +kernel) rfl hap (Nat.le_of_ble_eq_true rfl) rfl ?_
  intro p l e s m args below meth c ls E hP hl
  have hx := E.1
  have hb := E.2.1
  have hown := E.2.2.2.2.2.1
  have hts := E.2.2.2.2.2.2.1
  have hEx := ExR.ok 7 ad
  have hS : va_S (AW 7 ad) s.heap s.heap [] := va_S.rf
  unfold fX8_noClue at h
  refine lv_iload_n (pc := 0) hx hb dX8_noClue_0 rfl (lv_at hl 1 rfl) ?_
  refine lv_iconst (pc := 1) (v := (0 : Int32)) hx hb dX8_noClue_1 (by decide) ?_
  refine lv_aload_n (pc := 2) hx hb dX8_noClue_2 rfl (lv_at hl 0 rfl) ?_
  refine x_get (pc := 3) (v := .ref (ad 1)) E hP (by decide) sh8 rfl inX8 0 (by decide) q972 rfl dX8_noClue_3 ?_
  refine lv_iconst (pc := 6) (v := (2 : Int32)) hx hb dX8_noClue_6 (by decide) ?_
  refine x_iald (pc := 7) (j := 2) E hP (by decide) sh8a1 0 rfl (vp_inl (by decide)) rfl dX8_noClue_7 ?_
  refine lv_iconst (pc := 8) (v := (1 : Int32)) hx hb dX8_noClue_8 (by decide) ?_
  refine lv_isub (pc := 9) hx hb dX8_noClue_9 ?_
  refine x_callSi (pc := 10) (st := .int ((M 1 2) - (1 : Int32)) :: .int (0 : Int32) :: .int x1 :: []) (As := [.int x1, .int (0 : Int32), .int ((M 1 2) - (1 : Int32))]) E hEx hl.1 hP hS (kX8_in hap  M _ _ _ _ rfl) gX8_30 hsX8_in rfl ⟨Nat.le_of_ble_eq_true rfl, Nat.le_of_ble_eq_true rfl⟩ ⟨rfl, rfl⟩ dX8_noClue_10 rfl (Nat.le_of_ble_eq_true rfl) (fun H locs hP hS n1 => ?_)
  refine lv_if_ne (pc := 13) (tgt := 20) hx hb dX8_noClue_13 (by decide) (fun c2 => ?_) (fun c2 => ?_)
  · have h := (if_neg c2).symm.trans h
    refine lv_iconst (pc := 20) (v := (0 : Int32)) hx hb dX8_noClue_20 (by decide) ?_
    obtain rfl := som1 h
    exact x_iret E hP hS rfl dX8_noClue_21
  · have h := (if_pos c2).symm.trans h
    refine lv_iconst (pc := 16) (v := (1 : Int32)) hx hb dX8_noClue_16 (by decide) ?_
    refine lv_goto (pc := 17) (tgt := 21) hx hb dX8_noClue_17 (by decide) ?_
    obtain rfl := som1 h
    exact x_iret E hP hS rfl dX8_noClue_21
set_option maxRecDepth 100000 in
set_option maxHeartbeats 4000000 in
theorem kX8_isOpen (hap : Apart 7 ad)   (M : Mem) (x1 : Int32) (v : Int32) (h : fX8_isOpen M x1 = some v) : RI G ad cA cZ cC yX8_isOpen cX8_isOpen 2 .boolean ({ frames := 0, cells := 0, slots := 0, locals := 0 } : Room) [.ref (ad 0), .int x1] M v M := by
  refine CI.mk (own := RX8) (ls0 := [(0, .ref (ad 0)), (1, .int x1)]) (by decide +kernel) rfl hap (Nat.le_of_ble_eq_true rfl) rfl ?_
  intro p l e s m args below meth c ls E hP hl
  have hx := E.1
  have hb := E.2.1
  have hown := E.2.2.2.2.2.1
  have hts := E.2.2.2.2.2.2.1
  have hEx := ExR.ok 7 ad
  have hS : va_S (AW 7 ad) s.heap s.heap [] := va_S.rf
  unfold fX8_isOpen at h
  refine lv_aload_n (pc := 0) hx hb dX8_isOpen_0 rfl (lv_at hl 0 rfl) ?_
  refine x_get (pc := 1) (v := .ref (ad 1)) E hP (by decide) sh8 rfl inX8 0 (by decide) q972 rfl dX8_isOpen_1 ?_
  refine lv_bipush (pc := 4) (v := (56 : Int32)) hx hb dX8_isOpen_4 (by decide) ?_
  refine lv_iload_n (pc := 6) hx hb dX8_isOpen_6 rfl (lv_at hl 1 rfl) ?_
  refine lv_iadd (pc := 7) hx hb dX8_isOpen_7 ?_
  obtain ⟨c1, h⟩ := ite_some h
  refine x_iald (pc := 8) (j := ((56 : Int32) + x1).toNatClampNeg) E hP (by decide) sh8a1 0 rfl (inb_in c1) rfl dX8_isOpen_8 ?_
  refine lv_iconst (pc := 9) (v := (1 : Int32)) hx hb dX8_isOpen_9 (by decide) ?_
  refine lv_icmp_ne (pc := 10) (tgt := 17) hx hb dX8_isOpen_10 (by decide) (fun c2 => ?_) (fun c2 => ?_)
  · have h := (if_neg c2).symm.trans h
    refine lv_iconst (pc := 17) (v := (0 : Int32)) hx hb dX8_isOpen_17 (by decide) ?_
    obtain rfl := som1 h
    exact x_iret E hP hS rfl dX8_isOpen_18
  · have h := (if_pos c2).symm.trans h
    refine lv_iconst (pc := 13) (v := (1 : Int32)) hx hb dX8_isOpen_13 (by decide) ?_
    refine lv_goto (pc := 14) (tgt := 18) hx hb dX8_isOpen_14 (by decide) ?_
    obtain rfl := som1 h
    exact x_iret E hP hS rfl dX8_isOpen_18
set_option maxRecDepth 100000 in
set_option maxHeartbeats 4000000 in
theorem kX8_closedFrom (hap : Apart 7 ad)   (M : Mem) (x1 : Int32) (v : Int32) (h : fX8_closedFrom M x1 = some v) : RI G ad cA cZ cC yX8_closedFrom cX8_closedFrom 4 .int ({ frames := 1, cells := 0, slots := 0, locals := 21 } : Room) [.ref (ad 0), .int x1] M v M := by
  refine CI.mk (own := RX8) (ls0 := [(0, .ref (ad 0)), (1, .int x1)]) (by decide +kernel) rfl hap (Nat.le_of_ble_eq_true rfl) rfl ?_
  intro p l e s m args below meth c ls E hP hl
  have hx := E.1
  have hb := E.2.1
  have hown := E.2.2.2.2.2.1
  have hts := E.2.2.2.2.2.2.1
  have hEx := ExR.ok 7 ad
  have hS : va_S (AW 7 ad) s.heap s.heap [] := va_S.rf
  have hL5 : ∀ (n : Nat) (M : Mem) (x2 x3 : Int32) (H : Heap) (locs : List Loc) (ls : Array Slot), fX8_closedFrom_L5 n M x2 x3 = some v → va_P G vwCl (WW 7 (shR cA cZ cC ad) ad M) H → va_S (AW 7 ad) s.heap H locs → lv_has ls 4 [(0, .ref (ad 0)), (2, .int x2), (3, .int x3)] → W p l e ({ frames := 1, cells := 0, slots := 0, locals := 21 } : Room) s m args below meth c H locs 0 0 (QI below G 7 (shR cA cZ cC ad) ad .int args s v M) (F0 m 5 ls []) := by
    intro n
    induction n with
    | zero => intro M x2 x3 H locs ls h; cases h
    | succ n ih =>
      intro M x2 x3 H locs ls h hP hS hl
      rw [fX8_closedFrom_L5] at h
      refine lv_iload_n (pc := 5) hx hb dX8_closedFrom_5 rfl (lv_at hl 2 rfl) ?_
      refine lv_if_le (pc := 6) (tgt := 36) hx hb dX8_closedFrom_6 (by decide) (fun c1 => ?_) (fun c1 => ?_)
      · have h := (if_pos c1).symm.trans h
        refine lv_iload_n (pc := 36) hx hb dX8_closedFrom_36 rfl (lv_at hl 1 rfl) ?_
        obtain rfl := som1 h
        exact x_iret E hP hS rfl dX8_closedFrom_37
      · have h := (if_neg c1).symm.trans h
        refine lv_aload_n (pc := 9) hx hb dX8_closedFrom_9 rfl (lv_at hl 0 rfl) ?_
        refine lv_iload_n (pc := 10) hx hb dX8_closedFrom_10 rfl (lv_at hl 2 rfl) ?_
        obtain ⟨y2, hy2, h⟩ := bnd_ex h
        refine x_callVi (pc := 11) (st := .int x3 :: .ref (ad 0) :: []) (As := [.int x3]) E hEx hl.1 hP hS (kX8_isOpen hap  M _ _ hy2) gX8_34 hdX8_isOpen rfl (by decide) sh8 rfl ⟨Nat.le_of_ble_eq_true rfl, Nat.le_of_ble_eq_true rfl⟩ ⟨rfl, rfl⟩ dX8_closedFrom_11 rfl (Nat.le_of_ble_eq_true rfl) (fun H locs hP hS n3 => ?_)
        refine lv_if_eq (pc := 14) (tgt := 21) hx hb dX8_closedFrom_14 (by decide) (fun c4 => ?_) (fun c4 => ?_)
        · have h := (if_pos c4).symm.trans h
          refine lv_iload_n (pc := 21) hx hb dX8_closedFrom_21 rfl (lv_at hl 2 rfl) ?_
          refine lv_istore_n (pc := 22) (lv' := [(2, .int x3), (0, .ref (ad 0)), (3, .int x3)]) hx hb dX8_closedFrom_22 rfl hl (by decide) rfl (fun ls hl => ?_)
          refine lv_aload_n (pc := 23) hx hb dX8_closedFrom_23 rfl (lv_at hl 1 rfl) ?_
          refine x_get (pc := 24) (v := .ref (ad 1)) E hP (by decide) sh8 rfl inX8 0 (by decide) q972 rfl dX8_closedFrom_24 ?_
          refine lv_bipush (pc := 27) (v := (20 : Int32)) hx hb dX8_closedFrom_27 (by decide) ?_
          refine lv_iload_n (pc := 29) hx hb dX8_closedFrom_29 rfl (lv_at hl 2 rfl) ?_
          refine lv_iadd (pc := 30) hx hb dX8_closedFrom_30 ?_
          obtain ⟨c5, h⟩ := ite_some h
          refine x_iald (pc := 31) (j := ((20 : Int32) + x3).toNatClampNeg) E hP (by decide) sh8a1 0 rfl (inb_in c5) rfl dX8_closedFrom_31 ?_
          obtain ⟨y6, hy6, h⟩ := thn_ex h
          refine W.eq (g2 := F0 m 32 ls (.int y6 :: [])) (by rw [← hy6]) ?_
          refine lv_istore_n (pc := 32) (lv' := [(3, .int y6), (2, .int x3), (0, .ref (ad 0))]) hx hb dX8_closedFrom_32 rfl hl (by decide) rfl (fun ls hl => ?_)
          refine lv_goto (pc := 33) (tgt := 5) hx hb dX8_closedFrom_33 (by decide) ?_
          exact ih M x3 y6 _ _ _ h hP hS (lv_sub hl [2, 1, 0] rfl)
        · have h := (if_neg c4).symm.trans h
          refine lv_iload_n (pc := 17) hx hb dX8_closedFrom_17 rfl (lv_at hl 1 rfl) ?_
          refine lv_goto (pc := 18) (tgt := 22) hx hb dX8_closedFrom_18 (by decide) ?_
          refine lv_istore_n (pc := 22) (lv' := [(2, .int x2), (0, .ref (ad 0)), (3, .int x3)]) hx hb dX8_closedFrom_22 rfl hl (by decide) rfl (fun ls hl => ?_)
          refine lv_aload_n (pc := 23) hx hb dX8_closedFrom_23 rfl (lv_at hl 1 rfl) ?_
          refine x_get (pc := 24) (v := .ref (ad 1)) E hP (by decide) sh8 rfl inX8 0 (by decide) q972 rfl dX8_closedFrom_24 ?_
          refine lv_bipush (pc := 27) (v := (20 : Int32)) hx hb dX8_closedFrom_27 (by decide) ?_
          refine lv_iload_n (pc := 29) hx hb dX8_closedFrom_29 rfl (lv_at hl 2 rfl) ?_
          refine lv_iadd (pc := 30) hx hb dX8_closedFrom_30 ?_
          obtain ⟨c7, h⟩ := ite_some h
          refine x_iald (pc := 31) (j := ((20 : Int32) + x3).toNatClampNeg) E hP (by decide) sh8a1 0 rfl (inb_in c7) rfl dX8_closedFrom_31 ?_
          obtain ⟨y8, hy8, h⟩ := thn_ex h
          refine W.eq (g2 := F0 m 32 ls (.int y8 :: [])) (by rw [← hy8]) ?_
          refine lv_istore_n (pc := 32) (lv' := [(3, .int y8), (2, .int x2), (0, .ref (ad 0))]) hx hb dX8_closedFrom_32 rfl hl (by decide) rfl (fun ls hl => ?_)
          refine lv_goto (pc := 33) (tgt := 5) hx hb dX8_closedFrom_33 (by decide) ?_
          exact ih M x2 y8 _ _ _ h hP hS (lv_sub hl [2, 1, 0] rfl)
  unfold fX8_closedFrom at h
  refine lv_bipush (pc := 0) (v := (-5 : Int32)) hx hb dX8_closedFrom_0 (by decide) ?_
  refine lv_istore_n (pc := 2) (lv' := [(2, .int (-5 : Int32)), (0, .ref (ad 0)), (1, .int x1)]) hx hb dX8_closedFrom_2 rfl hl (by decide) rfl (fun ls hl => ?_)
  refine lv_iload_n (pc := 3) hx hb dX8_closedFrom_3 rfl (lv_at hl 2 rfl) ?_
  refine lv_istore_n (pc := 4) (lv' := [(3, .int x1), (2, .int (-5 : Int32)), (0, .ref (ad 0)), (1, .int x1)]) hx hb dX8_closedFrom_4 rfl hl (by decide) rfl (fun ls hl => ?_)
  exact hL5 5000 M (-5 : Int32) x1 _ _ _ h hP hS (lv_sub hl [2, 1, 0] rfl)
set_option maxRecDepth 100000 in
set_option maxHeartbeats 4000000 in
theorem kX8_closedAround (hap : Apart 7 ad)   (M : Mem) (x1 : Int32) (v : Int32) (h : fX8_closedAround M x1 = some v) : RI G ad cA cZ cC yX8_closedAround cX8_closedAround 2 .int ({ frames := 2, cells := 0, slots := 0, locals := 44 } : Room) [.ref (ad 0), .int x1] M v M := by
  refine CI.mk (own := RX8) (ls0 := [(0, .ref (ad 0)), (1, .int x1)]) (by decide +kernel) rfl hap (Nat.le_of_ble_eq_true rfl) rfl ?_
  intro p l e s m args below meth c ls E hP hl
  have hx := E.1
  have hb := E.2.1
  have hown := E.2.2.2.2.2.1
  have hts := E.2.2.2.2.2.2.1
  have hEx := ExR.ok 7 ad
  have hS : va_S (AW 7 ad) s.heap s.heap [] := va_S.rf
  unfold fX8_closedAround at h
  refine lv_iload_n (pc := 0) hx hb dX8_closedAround_0 rfl (lv_at hl 1 rfl) ?_
  refine lv_if_ne (pc := 1) (tgt := 9) hx hb dX8_closedAround_1 (by decide) (fun c1 => ?_) (fun c1 => ?_)
  · have h := (if_neg c1).symm.trans h
    refine lv_aload_n (pc := 9) hx hb dX8_closedAround_9 rfl (lv_at hl 0 rfl) ?_
    refine lv_aload_n (pc := 10) hx hb dX8_closedAround_10 rfl (lv_at hl 0 rfl) ?_
    refine x_get (pc := 11) (v := .ref (ad 1)) E hP (by decide) sh8 rfl inX8 0 (by decide) q972 rfl dX8_closedAround_11 ?_
    refine lv_bipush (pc := 14) (v := (20 : Int32)) hx hb dX8_closedAround_14 (by decide) ?_
    refine lv_iload_n (pc := 16) hx hb dX8_closedAround_16 rfl (lv_at hl 1 rfl) ?_
    refine lv_iadd (pc := 17) hx hb dX8_closedAround_17 ?_
    obtain ⟨c2, h⟩ := ite_some h
    refine x_iald (pc := 18) (j := ((20 : Int32) + x1).toNatClampNeg) E hP (by decide) sh8a1 0 rfl (inb_in c2) rfl dX8_closedAround_18 ?_
    obtain ⟨y3, hy3, h⟩ := bnd_ex h
    refine x_callVi (pc := 19) (st := .int (M 1 (((20 : Int32) + x1).toNatClampNeg)) :: .ref (ad 0) :: []) (As := [.int (M 1 (((20 : Int32) + x1).toNatClampNeg))]) E hEx hl.1 hP hS (kX8_closedFrom hap  M _ _ hy3) gX8_38 hdX8_closedFrom rfl (by decide) sh8 rfl ⟨Nat.le_of_ble_eq_true rfl, Nat.le_of_ble_eq_true rfl⟩ ⟨rfl, rfl⟩ dX8_closedAround_19 rfl (Nat.le_of_ble_eq_true rfl) (fun H locs hP hS n4 => ?_)
    obtain rfl := som1 h
    exact x_iret E hP hS rfl dX8_closedAround_22
  · have h := (if_pos c1).symm.trans h
    refine lv_bipush (pc := 4) (v := (-5 : Int32)) hx hb dX8_closedAround_4 (by decide) ?_
    refine lv_goto (pc := 6) (tgt := 22) hx hb dX8_closedAround_6 (by decide) ?_
    obtain rfl := som1 h
    exact x_iret E hP hS rfl dX8_closedAround_22
set_option maxRecDepth 100000 in
set_option maxHeartbeats 4000000 in
theorem kX8_boxAtHand (hap : Apart 7 ad)   (M : Mem) (x1 : Int32) (v : Int32) (h : fX8_boxAtHand M x1 = some v) : RI G ad cA cZ cC yX8_boxAtHand cX8_boxAtHand 2 .boolean ({ frames := 3, cells := 0, slots := 0, locals := 65 } : Room) [.ref (ad 0), .int x1] M v M := by
  refine CI.mk (own := RX8) (ls0 := [(0, .ref (ad 0)), (1, .int x1)]) (by decide +kernel) rfl hap (Nat.le_of_ble_eq_true rfl) rfl ?_
  intro p l e s m args below meth c ls E hP hl
  have hx := E.1
  have hb := E.2.1
  have hown := E.2.2.2.2.2.1
  have hts := E.2.2.2.2.2.2.1
  have hEx := ExR.ok 7 ad
  have hS : va_S (AW 7 ad) s.heap s.heap [] := va_S.rf
  unfold fX8_boxAtHand at h
  refine lv_aload_n (pc := 0) hx hb dX8_boxAtHand_0 rfl (lv_at hl 0 rfl) ?_
  refine lv_iload_n (pc := 1) hx hb dX8_boxAtHand_1 rfl (lv_at hl 1 rfl) ?_
  obtain ⟨y1, hy1, h⟩ := bnd_ex h
  refine x_callVi (pc := 2) (st := .int x1 :: .ref (ad 0) :: []) (As := [.int x1]) E hEx hl.1 hP hS (kX8_closedAround hap  M _ _ hy1) gX8_42 hdX8_closedAround rfl (by decide) sh8 rfl ⟨Nat.le_of_ble_eq_true rfl, Nat.le_of_ble_eq_true rfl⟩ ⟨rfl, rfl⟩ dX8_boxAtHand_2 rfl (Nat.le_of_ble_eq_true rfl) (fun H locs hP hS n2 => ?_)
  refine lv_if_ge (pc := 5) (tgt := 12) hx hb dX8_boxAtHand_5 (by decide) (fun c3 => ?_) (fun c3 => ?_)
  · have h := (if_pos c3).symm.trans h
    refine lv_iconst (pc := 12) (v := (0 : Int32)) hx hb dX8_boxAtHand_12 (by decide) ?_
    obtain rfl := som1 h
    exact x_iret E hP hS rfl dX8_boxAtHand_13
  · have h := (if_neg c3).symm.trans h
    refine lv_iconst (pc := 8) (v := (1 : Int32)) hx hb dX8_boxAtHand_8 (by decide) ?_
    refine lv_goto (pc := 9) (tgt := 13) hx hb dX8_boxAtHand_9 (by decide) ?_
    obtain rfl := som1 h
    exact x_iret E hP hS rfl dX8_boxAtHand_13
set_option maxRecDepth 100000 in
set_option maxHeartbeats 4000000 in
theorem kX8_isHeld (hap : Apart 7 ad)   (M : Mem) (x1 : Int32) (v : Int32) (h : fX8_isHeld M x1 = some v) : RI G ad cA cZ cC yX8_isHeld cX8_isHeld 2 .boolean ({ frames := 0, cells := 0, slots := 0, locals := 0 } : Room) [.ref (ad 0), .int x1] M v M := by
  refine CI.mk (own := RX8) (ls0 := [(0, .ref (ad 0)), (1, .int x1)]) (by decide +kernel) rfl hap (Nat.le_of_ble_eq_true rfl) rfl ?_
  intro p l e s m args below meth c ls E hP hl
  have hx := E.1
  have hb := E.2.1
  have hown := E.2.2.2.2.2.1
  have hts := E.2.2.2.2.2.2.1
  have hEx := ExR.ok 7 ad
  have hS : va_S (AW 7 ad) s.heap s.heap [] := va_S.rf
  unfold fX8_isHeld at h
  refine lv_aload_n (pc := 0) hx hb dX8_isHeld_0 rfl (lv_at hl 0 rfl) ?_
  refine x_get (pc := 1) (v := .ref (ad 1)) E hP (by decide) sh8 rfl inX8 0 (by decide) q972 rfl dX8_isHeld_1 ?_
  refine lv_bipush (pc := 4) (v := (104 : Int32)) hx hb dX8_isHeld_4 (by decide) ?_
  refine lv_iload_n (pc := 6) hx hb dX8_isHeld_6 rfl (lv_at hl 1 rfl) ?_
  refine lv_iadd (pc := 7) hx hb dX8_isHeld_7 ?_
  obtain ⟨c1, h⟩ := ite_some h
  refine x_iald (pc := 8) (j := ((104 : Int32) + x1).toNatClampNeg) E hP (by decide) sh8a1 0 rfl (inb_in c1) rfl dX8_isHeld_8 ?_
  refine lv_iconst (pc := 9) (v := (-1 : Int32)) hx hb dX8_isHeld_9 (by decide) ?_
  refine lv_icmp_ne (pc := 10) (tgt := 17) hx hb dX8_isHeld_10 (by decide) (fun c2 => ?_) (fun c2 => ?_)
  · have h := (if_neg c2).symm.trans h
    refine lv_iconst (pc := 17) (v := (0 : Int32)) hx hb dX8_isHeld_17 (by decide) ?_
    obtain rfl := som1 h
    exact x_iret E hP hS rfl dX8_isHeld_18
  · have h := (if_pos c2).symm.trans h
    refine lv_iconst (pc := 13) (v := (1 : Int32)) hx hb dX8_isHeld_13 (by decide) ?_
    refine lv_goto (pc := 14) (tgt := 18) hx hb dX8_isHeld_14 (by decide) ?_
    obtain rfl := som1 h
    exact x_iret E hP hS rfl dX8_isHeld_18
set_option maxRecDepth 100000 in
set_option maxHeartbeats 4000000 in
theorem kX8_propAtHand (hap : Apart 7 ad)   (M : Mem) (x1 : Int32) (v : Int32) (h : fX8_propAtHand M x1 = some v) : RI G ad cA cZ cC yX8_propAtHand cX8_propAtHand 2 .boolean ({ frames := 2, cells := 0, slots := 0, locals := 44 } : Room) [.ref (ad 0), .int x1] M v M := by
  refine CI.mk (own := RX8) (ls0 := [(0, .ref (ad 0)), (1, .int x1)]) (by decide +kernel) rfl hap (Nat.le_of_ble_eq_true rfl) rfl ?_
  intro p l e s m args below meth c ls E hP hl
  have hx := E.1
  have hb := E.2.1
  have hown := E.2.2.2.2.2.1
  have hts := E.2.2.2.2.2.2.1
  have hEx := ExR.ok 7 ad
  have hS : va_S (AW 7 ad) s.heap s.heap [] := va_S.rf
  unfold fX8_propAtHand at h
  refine lv_aload_n (pc := 0) hx hb dX8_propAtHand_0 rfl (lv_at hl 0 rfl) ?_
  refine lv_iload_n (pc := 1) hx hb dX8_propAtHand_1 rfl (lv_at hl 1 rfl) ?_
  obtain ⟨y1, hy1, h⟩ := bnd_ex h
  refine x_callVi (pc := 2) (st := .int x1 :: .ref (ad 0) :: []) (As := [.int x1]) E hEx hl.1 hP hS (kX8_isHeld hap  M _ _ hy1) gX8_45 hdX8_isHeld rfl (by decide) sh8 rfl ⟨Nat.le_of_ble_eq_true rfl, Nat.le_of_ble_eq_true rfl⟩ ⟨rfl, rfl⟩ dX8_propAtHand_2 rfl (Nat.le_of_ble_eq_true rfl) (fun H locs hP hS n2 => ?_)
  refine lv_if_ne (pc := 5) (tgt := 24) hx hb dX8_propAtHand_5 (by decide) (fun c3 => ?_) (fun c3 => ?_)
  · have h := (if_neg c3).symm.trans h
    refine lv_iconst (pc := 24) (v := (1 : Int32)) hx hb dX8_propAtHand_24 (by decide) ?_
    refine lv_goto (pc := 25) (tgt := 29) hx hb dX8_propAtHand_25 (by decide) ?_
    obtain rfl := som1 h
    exact x_iret E hP hS rfl dX8_propAtHand_29
  · have h := (if_pos c3).symm.trans h
    refine lv_aload_n (pc := 8) hx hb dX8_propAtHand_8 rfl (lv_at hl 0 rfl) ?_
    refine lv_aload_n (pc := 9) hx hb dX8_propAtHand_9 rfl (lv_at hl 0 rfl) ?_
    refine x_get (pc := 10) (v := .ref (ad 1)) E hP (by decide) sh8 rfl inX8 0 (by decide) q972 rfl dX8_propAtHand_10 ?_
    refine lv_bipush (pc := 13) (v := (104 : Int32)) hx hb dX8_propAtHand_13 (by decide) ?_
    refine lv_iload_n (pc := 15) hx hb dX8_propAtHand_15 rfl (lv_at hl 1 rfl) ?_
    refine lv_iadd (pc := 16) hx hb dX8_propAtHand_16 ?_
    obtain ⟨c4, h⟩ := ite_some h
    refine x_iald (pc := 17) (j := ((104 : Int32) + x1).toNatClampNeg) E hP (by decide) sh8a1 0 rfl (inb_in c4) rfl dX8_propAtHand_17 ?_
    obtain ⟨y5, hy5, h⟩ := bnd_ex h
    refine x_callVi (pc := 18) (st := .int (M 1 (((104 : Int32) + x1).toNatClampNeg)) :: .ref (ad 0) :: []) (As := [.int (M 1 (((104 : Int32) + x1).toNatClampNeg))]) E hEx hl.1 hP hS (kX8_closedFrom hap  M _ _ hy5) gX8_38 hdX8_closedFrom rfl (by decide) sh8 rfl ⟨Nat.le_of_ble_eq_true rfl, Nat.le_of_ble_eq_true rfl⟩ ⟨rfl, rfl⟩ dX8_propAtHand_18 rfl (Nat.le_of_ble_eq_true rfl) (fun H locs hP hS n6 => ?_)
    refine lv_if_ge (pc := 21) (tgt := 28) hx hb dX8_propAtHand_21 (by decide) (fun c7 => ?_) (fun c7 => ?_)
    · have h := (if_pos c7).symm.trans h
      refine lv_iconst (pc := 28) (v := (0 : Int32)) hx hb dX8_propAtHand_28 (by decide) ?_
      obtain rfl := som1 h
      exact x_iret E hP hS rfl dX8_propAtHand_29
    · have h := (if_neg c7).symm.trans h
      refine lv_iconst (pc := 24) (v := (1 : Int32)) hx hb dX8_propAtHand_24 (by decide) ?_
      refine lv_goto (pc := 25) (tgt := 29) hx hb dX8_propAtHand_25 (by decide) ?_
      obtain rfl := som1 h
      exact x_iret E hP hS rfl dX8_propAtHand_29
set_option maxRecDepth 100000 in
set_option maxHeartbeats 4000000 in
theorem kX8_clueAtHand (hap : Apart 7 ad)   (M : Mem) (x1 : Int32) (v : Int32) (h : fX8_clueAtHand M x1 = some v) : RI G ad cA cZ cC yX8_clueAtHand cX8_clueAtHand 2 .boolean ({ frames := 3, cells := 0, slots := 0, locals := 65 } : Room) [.ref (ad 0), .int x1] M v M := by
  refine CI.mk (own := RX8) (ls0 := [(0, .ref (ad 0)), (1, .int x1)]) (by decide +kernel) rfl hap (Nat.le_of_ble_eq_true rfl) rfl ?_
  intro p l e s m args below meth c ls E hP hl
  have hx := E.1
  have hb := E.2.1
  have hown := E.2.2.2.2.2.1
  have hts := E.2.2.2.2.2.2.1
  have hEx := ExR.ok 7 ad
  have hS : va_S (AW 7 ad) s.heap s.heap [] := va_S.rf
  unfold fX8_clueAtHand at h
  refine lv_aload_n (pc := 0) hx hb dX8_clueAtHand_0 rfl (lv_at hl 0 rfl) ?_
  refine lv_aload_n (pc := 1) hx hb dX8_clueAtHand_1 rfl (lv_at hl 0 rfl) ?_
  refine x_get (pc := 2) (v := .ref (ad 1)) E hP (by decide) sh8 rfl inX8 0 (by decide) q972 rfl dX8_clueAtHand_2 ?_
  refine lv_sipush (pc := 5) (v := (128 : Int32)) hx hb dX8_clueAtHand_5 (by decide) ?_
  refine lv_iload_n (pc := 8) hx hb dX8_clueAtHand_8 rfl (lv_at hl 1 rfl) ?_
  refine lv_iadd (pc := 9) hx hb dX8_clueAtHand_9 ?_
  obtain ⟨c1, h⟩ := ite_some h
  refine x_iald (pc := 10) (j := ((128 : Int32) + x1).toNatClampNeg) E hP (by decide) sh8a1 0 rfl (inb_in c1) rfl dX8_clueAtHand_10 ?_
  obtain ⟨y2, hy2, h⟩ := bnd_ex h
  refine x_callVi (pc := 11) (st := .int (M 1 (((128 : Int32) + x1).toNatClampNeg)) :: .ref (ad 0) :: []) (As := [.int (M 1 (((128 : Int32) + x1).toNatClampNeg))]) E hEx hl.1 hP hS (kX8_propAtHand hap  M _ _ hy2) gX8_48 hdX8_propAtHand rfl (by decide) sh8 rfl ⟨Nat.le_of_ble_eq_true rfl, Nat.le_of_ble_eq_true rfl⟩ ⟨rfl, rfl⟩ dX8_clueAtHand_11 rfl (Nat.le_of_ble_eq_true rfl) (fun H locs hP hS n3 => ?_)
  obtain rfl := som1 h
  exact x_iret E hP hS n3 dX8_clueAtHand_14
set_option maxRecDepth 100000 in
set_option maxHeartbeats 4000000 in
theorem kX8_held (hap : Apart 7 ad)   (M : Mem)  (v : Int32) (h : fX8_held M = some v) : RI G ad cA cZ cC yX8_held cX8_held 3 .int ({ frames := 1, cells := 0, slots := 0, locals := 21 } : Room) [.ref (ad 0)] M v M := by
  refine CI.mk (own := RX8) (ls0 := [(0, .ref (ad 0))]) (by decide +kernel) rfl hap (Nat.le_of_ble_eq_true rfl) rfl ?_
  intro p l e s m args below meth c ls E hP hl
  have hx := E.1
  have hb := E.2.1
  have hown := E.2.2.2.2.2.1
  have hts := E.2.2.2.2.2.2.1
  have hEx := ExR.ok 7 ad
  have hS : va_S (AW 7 ad) s.heap s.heap [] := va_S.rf
  have hL4 : ∀ (n : Nat) (M : Mem) (x1 x2 : Int32) (H : Heap) (locs : List Loc) (ls : Array Slot), fX8_held_L4 n M x1 x2 = some v → va_P G vwCl (WW 7 (shR cA cZ cC ad) ad M) H → va_S (AW 7 ad) s.heap H locs → lv_has ls 3 [(0, .ref (ad 0)), (1, .int x1), (2, .int x2)] → W p l e ({ frames := 1, cells := 0, slots := 0, locals := 21 } : Room) s m args below meth c H locs 0 0 (QI below G 7 (shR cA cZ cC ad) ad .int args s v M) (F0 m 4 ls []) := by
    intro n
    induction n with
    | zero => intro M x1 x2 H locs ls h; cases h
    | succ n ih =>
      intro M x1 x2 H locs ls h hP hS hl
      rw [fX8_held_L4] at h
      refine lv_iload_n (pc := 4) hx hb dX8_held_4 rfl (lv_at hl 2 rfl) ?_
      refine lv_aload_n (pc := 5) hx hb dX8_held_5 rfl (lv_at hl 0 rfl) ?_
      refine x_get (pc := 6) (v := .ref (ad 1)) E hP (by decide) sh8 rfl inX8 0 (by decide) q972 rfl dX8_held_6 ?_
      refine lv_iconst (pc := 9) (v := (1 : Int32)) hx hb dX8_held_9 (by decide) ?_
      refine x_iald (pc := 10) (j := 1) E hP (by decide) sh8a1 0 rfl (vp_inl (by decide)) rfl dX8_held_10 ?_
      refine lv_icmp_ge (pc := 11) (tgt := 36) hx hb dX8_held_11 (by decide) (fun c1 => ?_) (fun c1 => ?_)
      · have h := (if_pos c1).symm.trans h
        refine lv_iload_n (pc := 36) hx hb dX8_held_36 rfl (lv_at hl 1 rfl) ?_
        obtain rfl := som1 h
        exact x_iret E hP hS rfl dX8_held_37
      · have h := (if_neg c1).symm.trans h
        refine lv_iload_n (pc := 14) hx hb dX8_held_14 rfl (lv_at hl 1 rfl) ?_
        refine lv_aload_n (pc := 15) hx hb dX8_held_15 rfl (lv_at hl 0 rfl) ?_
        refine lv_iload_n (pc := 16) hx hb dX8_held_16 rfl (lv_at hl 2 rfl) ?_
        obtain ⟨y2, hy2, h⟩ := bnd_ex h
        refine x_callVi (pc := 17) (st := .int x2 :: .ref (ad 0) :: .int x1 :: []) (As := [.int x2]) E hEx hl.1 hP hS (kX8_isHeld hap  M _ _ hy2) gX8_45 hdX8_isHeld rfl (by decide) sh8 rfl ⟨Nat.le_of_ble_eq_true rfl, Nat.le_of_ble_eq_true rfl⟩ ⟨rfl, rfl⟩ dX8_held_17 rfl (Nat.le_of_ble_eq_true rfl) (fun H locs hP hS n3 => ?_)
        refine lv_if_eq (pc := 20) (tgt := 27) hx hb dX8_held_20 (by decide) (fun c4 => ?_) (fun c4 => ?_)
        · have h := (if_pos c4).symm.trans h
          refine lv_iconst (pc := 27) (v := (0 : Int32)) hx hb dX8_held_27 (by decide) ?_
          refine lv_iadd (pc := 28) hx hb dX8_held_28 ?_
          refine lv_istore_n (pc := 29) (lv' := [(1, .int (x1 + (0 : Int32))), (0, .ref (ad 0)), (2, .int x2)]) hx hb dX8_held_29 rfl hl (by decide) rfl (fun ls hl => ?_)
          refine lv_iinc (pc := 30) (v := (x2 + 1)) (lv' := [(2, .int (x2 + 1)), (1, .int (x1 + (0 : Int32))), (0, .ref (ad 0))]) hx hb dX8_held_30 hl (k := 2) rfl rfl (by decide) rfl (fun ls hl => ?_)
          refine lv_goto (pc := 33) (tgt := 4) hx hb dX8_held_33 (by decide) ?_
          exact ih M (x1 + (0 : Int32)) (x2 + 1) _ _ _ h hP hS (lv_sub hl [2, 1, 0] rfl)
        · have h := (if_neg c4).symm.trans h
          refine lv_iconst (pc := 23) (v := (1 : Int32)) hx hb dX8_held_23 (by decide) ?_
          refine lv_goto (pc := 24) (tgt := 28) hx hb dX8_held_24 (by decide) ?_
          refine lv_iadd (pc := 28) hx hb dX8_held_28 ?_
          refine lv_istore_n (pc := 29) (lv' := [(1, .int (x1 + (1 : Int32))), (0, .ref (ad 0)), (2, .int x2)]) hx hb dX8_held_29 rfl hl (by decide) rfl (fun ls hl => ?_)
          refine lv_iinc (pc := 30) (v := (x2 + 1)) (lv' := [(2, .int (x2 + 1)), (1, .int (x1 + (1 : Int32))), (0, .ref (ad 0))]) hx hb dX8_held_30 hl (k := 2) rfl rfl (by decide) rfl (fun ls hl => ?_)
          refine lv_goto (pc := 33) (tgt := 4) hx hb dX8_held_33 (by decide) ?_
          exact ih M (x1 + (1 : Int32)) (x2 + 1) _ _ _ h hP hS (lv_sub hl [2, 1, 0] rfl)
  unfold fX8_held at h
  refine lv_iconst (pc := 0) (v := (0 : Int32)) hx hb dX8_held_0 (by decide) ?_
  refine lv_istore_n (pc := 1) (lv' := [(1, .int (0 : Int32)), (0, .ref (ad 0))]) hx hb dX8_held_1 rfl hl (by decide) rfl (fun ls hl => ?_)
  refine lv_iconst (pc := 2) (v := (0 : Int32)) hx hb dX8_held_2 (by decide) ?_
  refine lv_istore_n (pc := 3) (lv' := [(2, .int (0 : Int32)), (1, .int (0 : Int32)), (0, .ref (ad 0))]) hx hb dX8_held_3 rfl hl (by decide) rfl (fun ls hl => ?_)
  exact hL4 5000 M (0 : Int32) (0 : Int32) _ _ _ h hP hS (lv_sub hl [2, 1, 0] rfl)
set_option maxRecDepth 100000 in
set_option maxHeartbeats 4000000 in
theorem kX8_digitOf (hap : Apart 7 ad)   (M : Mem) (x1 : Int32) (v : Int32) (h : fX8_digitOf M x1 = some v) : RI G ad cA cZ cC yX8_digitOf cX8_digitOf 4 .int ({ frames := 0, cells := 0, slots := 0, locals := 0 } : Room) [.ref (ad 0), .int x1] M v M := by
  refine CI.mk (own := RX8) (ls0 := [(0, .ref (ad 0)), (1, .int x1)]) (by decide +kernel) rfl hap (Nat.le_of_ble_eq_true rfl) rfl ?_
  intro p l e s m args below meth c ls E hP hl
  have hx := E.1
  have hb := E.2.1
  have hown := E.2.2.2.2.2.1
  have hts := E.2.2.2.2.2.2.1
  have hEx := ExR.ok 7 ad
  have hS : va_S (AW 7 ad) s.heap s.heap [] := va_S.rf
  have hL30 : ∀ (n : Nat) (M : Mem) (x2 x3 : Int32) (H : Heap) (locs : List Loc) (ls : Array Slot), fX8_digitOf_L30 n M x2 x3 = some v → va_P G vwCl (WW 7 (shR cA cZ cC ad) ad M) H → va_S (AW 7 ad) s.heap H locs → lv_has ls 4 [(2, .int x2), (3, .int x3)] → W p l e ({ frames := 0, cells := 0, slots := 0, locals := 0 } : Room) s m args below meth c H locs 0 0 (QI below G 7 (shR cA cZ cC ad) ad .int args s v M) (F0 m 30 ls []) := by
    intro n
    induction n with
    | zero => intro M x2 x3 H locs ls h; cases h
    | succ n ih =>
      intro M x2 x3 H locs ls h hP hS hl
      rw [fX8_digitOf_L30] at h
      refine lv_iload_n (pc := 30) hx hb dX8_digitOf_30 rfl (lv_at hl 1 rfl) ?_
      refine lv_iconst (pc := 31) (v := (3 : Int32)) hx hb dX8_digitOf_31 (by decide) ?_
      refine lv_icmp_ge (pc := 32) (tgt := 46) hx hb dX8_digitOf_32 (by decide) (fun c6 => ?_) (fun c6 => ?_)
      · have h := (if_pos c6).symm.trans h
        refine lv_iload_n (pc := 46) hx hb dX8_digitOf_46 rfl (lv_at hl 0 rfl) ?_
        refine lv_bipush (pc := 47) (v := (10 : Int32)) hx hb dX8_digitOf_47 (by decide) ?_
        refine x_irem (pc := 49) hx hb dX8_digitOf_49 (by decide) ?_
        obtain rfl := som1 h
        exact x_iret E hP hS rfl dX8_digitOf_50
      · have h := (if_neg c6).symm.trans h
        refine lv_iload_n (pc := 35) hx hb dX8_digitOf_35 rfl (lv_at hl 0 rfl) ?_
        refine lv_bipush (pc := 36) (v := (10 : Int32)) hx hb dX8_digitOf_36 (by decide) ?_
        refine lv_idiv (pc := 38) hx hb dX8_digitOf_38 (by decide) ?_
        refine lv_istore_n (pc := 39) (lv' := [(2, .int (x2 / (10 : Int32))), (3, .int x3)]) hx hb dX8_digitOf_39 rfl hl (by decide) rfl (fun ls hl => ?_)
        refine lv_iinc (pc := 40) (v := (x3 + 1)) (lv' := [(3, .int (x3 + 1)), (2, .int (x2 / (10 : Int32)))]) hx hb dX8_digitOf_40 hl (k := 1) rfl rfl (by decide) rfl (fun ls hl => ?_)
        refine lv_goto (pc := 43) (tgt := 30) hx hb dX8_digitOf_43 (by decide) ?_
        exact ih M (x2 / (10 : Int32)) (x3 + 1) _ _ _ h hP hS (lv_sub hl [1, 0] rfl)
  unfold fX8_digitOf at h
  refine lv_aload_n (pc := 0) hx hb dX8_digitOf_0 rfl (lv_at hl 0 rfl) ?_
  refine x_get (pc := 1) (v := .ref (ad 1)) E hP (by decide) sh8 rfl inX8 0 (by decide) q972 rfl dX8_digitOf_1 ?_
  refine lv_bipush (pc := 4) (v := (44 : Int32)) hx hb dX8_digitOf_4 (by decide) ?_
  refine lv_aload_n (pc := 6) hx hb dX8_digitOf_6 rfl (lv_at hl 0 rfl) ?_
  refine x_get (pc := 7) (v := .ref (ad 1)) E hP (by decide) sh8 rfl inX8 0 (by decide) q972 rfl dX8_digitOf_7 ?_
  refine lv_sipush (pc := 10) (v := (140 : Int32)) hx hb dX8_digitOf_10 (by decide) ?_
  refine lv_iload_n (pc := 13) hx hb dX8_digitOf_13 rfl (lv_at hl 1 rfl) ?_
  refine lv_iadd (pc := 14) hx hb dX8_digitOf_14 ?_
  obtain ⟨c1, h⟩ := ite_some h
  refine x_iald (pc := 15) (j := ((140 : Int32) + x1).toNatClampNeg) E hP (by decide) sh8a1 0 rfl (inb_in c1) rfl dX8_digitOf_15 ?_
  refine lv_iadd (pc := 16) hx hb dX8_digitOf_16 ?_
  obtain ⟨c2, h⟩ := ite_some h
  refine x_iald (pc := 17) (j := ((44 : Int32) + (M 1 (((140 : Int32) + x1).toNatClampNeg))).toNatClampNeg) E hP (by decide) sh8a1 0 rfl (inb_in c2) rfl dX8_digitOf_17 ?_
  obtain ⟨y3, hy3, h⟩ := thn_ex h
  refine W.eq (g2 := F0 m 18 ls (.int y3 :: [])) (by rw [← hy3]) ?_
  refine lv_istore_n (pc := 18) (lv' := [(2, .int y3), (0, .ref (ad 0)), (1, .int x1)]) hx hb dX8_digitOf_18 rfl hl (by decide) rfl (fun ls hl => ?_)
  refine lv_aload_n (pc := 19) hx hb dX8_digitOf_19 rfl (lv_at hl 1 rfl) ?_
  refine x_get (pc := 20) (v := .ref (ad 1)) E hP (by decide) sh8 rfl inX8 0 (by decide) q972 rfl dX8_digitOf_20 ?_
  refine lv_sipush (pc := 23) (v := (152 : Int32)) hx hb dX8_digitOf_23 (by decide) ?_
  refine lv_iload_n (pc := 26) hx hb dX8_digitOf_26 rfl (lv_at hl 2 rfl) ?_
  refine lv_iadd (pc := 27) hx hb dX8_digitOf_27 ?_
  obtain ⟨c4, h⟩ := ite_some h
  refine x_iald (pc := 28) (j := ((152 : Int32) + x1).toNatClampNeg) E hP (by decide) sh8a1 0 rfl (inb_in c4) rfl dX8_digitOf_28 ?_
  obtain ⟨y5, hy5, h⟩ := thn_ex h
  refine W.eq (g2 := F0 m 29 ls (.int y5 :: [])) (by rw [← hy5]) ?_
  refine lv_istore_n (pc := 29) (lv' := [(3, .int y5), (2, .int y3), (0, .ref (ad 0)), (1, .int x1)]) hx hb dX8_digitOf_29 rfl hl (by decide) rfl (fun ls hl => ?_)
  exact hL30 5000 M y3 y5 _ _ _ h hP hS (lv_sub hl [1, 0] rfl)
set_option maxRecDepth 100000 in
set_option maxHeartbeats 4000000 in
theorem kX8_pass (hap : Apart 7 ad)   (M : Mem) (x1 : Int32) (M' : Mem) (h : fX8_pass M x1 = some M') : RV G ad cA cZ cC yX8_pass cX8_pass 5 ({ frames := 4, cells := 0, slots := 0, locals := 86 } : Room) [.ref (ad 0), .int x1] M M' := by
  refine CV.mk (own := RX8) (ls0 := [(0, .ref (ad 0)), (1, .int x1)]) (by decide +kernel) rfl hap (Nat.le_of_ble_eq_true rfl) rfl ?_
  intro p l e s m args below meth c ls E hP hl
  have hx := E.1
  have hb := E.2.1
  have hown := E.2.2.2.2.2.1
  have hts := E.2.2.2.2.2.2.1
  have hEx := ExR.ok 7 ad
  have hS : va_S (AW 7 ad) s.heap s.heap [] := va_S.rf
  have hB102 : ∀ (M : Mem) (x1 : Int32) (H : Heap) (locs : List Loc) (ls : Array Slot), fX8_pass_B102 M x1 = some M' → va_P G vwCl (WW 7 (shR cA cZ cC ad) ad M) H → va_S (AW 7 ad) s.heap H locs → lv_has ls 5 [(0, .ref (ad 0)), (1, .int x1)] → W p l e ({ frames := 4, cells := 0, slots := 0, locals := 86 } : Room) s m args below meth c H locs 0 0 (QV below G 7 (shR cA cZ cC ad) ad args s M') (F0 m 102 ls []) := by
    intro M x1 H locs ls h hP hS hl
    unfold fX8_pass_B102 at h
    refine lv_aload_n (pc := 102) hx hb dX8_pass_102 rfl (lv_at hl 0 rfl) ?_
    refine x_get (pc := 103) (v := .ref (ad 1)) E hP (by decide) sh8 rfl inX8 0 (by decide) q972 rfl dX8_pass_103 ?_
    refine lv_bipush (pc := 106) (v := (9 : Int32)) hx hb dX8_pass_106 (by decide) ?_
    refine lv_dup2_11 (pc := 108) hx hb dX8_pass_108 rfl rfl ?_
    refine x_iald (pc := 109) (j := 9) E hP (by decide) sh8a1 0 rfl (vp_inl (by decide)) rfl dX8_pass_109 ?_
    refine lv_iload_n (pc := 110) hx hb dX8_pass_110 rfl (lv_at hl 1 rfl) ?_
    refine lv_iadd (pc := 111) hx hb dX8_pass_111 ?_
    obtain ⟨M3, hM3, h⟩ := thn_ex h
    refine x_iast (pc := 112) (j := 9) E hP hS (by decide) sh8a1 0 rfl (vp_inl (by decide)) rfl dX8_pass_112 (fun H locs hP hS => ?_)
    rw [hM3] at hP
    obtain rfl := som1 h
    exact x_vret E hP hS dX8_pass_113
  have hL26 : ∀ (n : Nat) (M : Mem) (x1 x2 x3 : Int32) (H : Heap) (locs : List Loc) (ls : Array Slot), fX8_pass_L26 n M x1 x2 x3 = some M' → va_P G vwCl (WW 7 (shR cA cZ cC ad) ad M) H → va_S (AW 7 ad) s.heap H locs → lv_has ls 5 [(0, .ref (ad 0)), (1, .int x1), (2, .int x2), (3, .int x3)] → W p l e ({ frames := 4, cells := 0, slots := 0, locals := 86 } : Room) s m args below meth c H locs 0 0 (QV below G 7 (shR cA cZ cC ad) ad args s M') (F0 m 26 ls []) := by
    intro n
    induction n with
    | zero => intro M x1 x2 x3 H locs ls h; cases h
    | succ n ih =>
      intro M x1 x2 x3 H locs ls h hP hS hl
      rw [fX8_pass_L26] at h
      refine lv_iload_n (pc := 26) hx hb dX8_pass_26 rfl (lv_at hl 3 rfl) ?_
      refine lv_aload_n (pc := 27) hx hb dX8_pass_27 rfl (lv_at hl 0 rfl) ?_
      refine x_get (pc := 28) (v := .ref (ad 1)) E hP (by decide) sh8 rfl inX8 0 (by decide) q972 rfl dX8_pass_28 ?_
      refine lv_iconst (pc := 31) (v := (2 : Int32)) hx hb dX8_pass_31 (by decide) ?_
      refine x_iald (pc := 32) (j := 2) E hP (by decide) sh8a1 0 rfl (vp_inl (by decide)) rfl dX8_pass_32 ?_
      refine lv_icmp_ge (pc := 33) (tgt := 102) hx hb dX8_pass_33 (by decide) (fun c2 => ?_) (fun c2 => ?_)
      · have h := (if_pos c2).symm.trans h
        exact hB102 M x1 _ _ _ h hP hS (lv_sub hl [0, 1] rfl)
      · have h := (if_neg c2).symm.trans h
        refine lv_iload_n (pc := 36) hx hb dX8_pass_36 rfl (lv_at hl 2 rfl) ?_
        refine lv_if_le (pc := 37) (tgt := 102) hx hb dX8_pass_37 (by decide) (fun c4 => ?_) (fun c4 => ?_)
        · have h := (if_pos c4).symm.trans h
          exact hB102 M x1 _ _ _ h hP hS (lv_sub hl [0, 1] rfl)
        · have h := (if_neg c4).symm.trans h
          refine lv_aload_n (pc := 40) hx hb dX8_pass_40 rfl (lv_at hl 0 rfl) ?_
          refine x_get (pc := 41) (v := .ref (ad 1)) E hP (by decide) sh8 rfl inX8 0 (by decide) q972 rfl dX8_pass_41 ?_
          refine lv_sipush (pc := 44) (v := (164 : Int32)) hx hb dX8_pass_44 (by decide) ?_
          refine lv_iload_n (pc := 47) hx hb dX8_pass_47 rfl (lv_at hl 3 rfl) ?_
          refine lv_iadd (pc := 48) hx hb dX8_pass_48 ?_
          obtain ⟨c5, h⟩ := ite_some h
          refine x_iald (pc := 49) (j := ((164 : Int32) + x3).toNatClampNeg) E hP (by decide) sh8a1 0 rfl (inb_in c5) rfl dX8_pass_49 ?_
          refine lv_iload_n (pc := 50) hx hb dX8_pass_50 rfl (lv_at hl 2 rfl) ?_
          refine lv_isub (pc := 51) hx hb dX8_pass_51 ?_
          obtain ⟨y6, hy6, h⟩ := thn_ex h
          refine W.eq (g2 := F0 m 52 ls (.int y6 :: [])) (by rw [← hy6]) ?_
          refine lv_istore (pc := 52) (lv' := [(4, .int y6), (0, .ref (ad 0)), (1, .int x1), (2, .int x2), (3, .int x3)]) hx hb dX8_pass_52 hl (by decide) rfl (fun ls hl => ?_)
          refine lv_aload_n (pc := 54) hx hb dX8_pass_54 rfl (lv_at hl 1 rfl) ?_
          refine x_get (pc := 55) (v := .ref (ad 1)) E hP (by decide) sh8 rfl inX8 0 (by decide) q972 rfl dX8_pass_55 ?_
          refine lv_sipush (pc := 58) (v := (164 : Int32)) hx hb dX8_pass_58 (by decide) ?_
          refine lv_iload_n (pc := 61) hx hb dX8_pass_61 rfl (lv_at hl 4 rfl) ?_
          refine lv_iadd (pc := 62) hx hb dX8_pass_62 ?_
          refine lv_aload_n (pc := 63) hx hb dX8_pass_63 rfl (lv_at hl 1 rfl) ?_
          refine lv_iload_n (pc := 64) hx hb dX8_pass_64 rfl (lv_at hl 4 rfl) ?_
          obtain ⟨y7, hy7, h⟩ := bnd_ex h
          refine x_callVi (pc := 65) (st := .int x3 :: .ref (ad 0) :: .int ((164 : Int32) + x3) :: .ref (ad 1) :: []) (As := [.int x3]) E hEx hl.1 hP hS (kX8_clueAtHand hap  M _ _ hy7) gX8_51 hdX8_clueAtHand rfl (by decide) sh8 rfl ⟨Nat.le_of_ble_eq_true rfl, Nat.le_of_ble_eq_true rfl⟩ ⟨rfl, rfl⟩ dX8_pass_65 rfl (Nat.le_of_ble_eq_true rfl) (fun H locs hP hS n8 => ?_)
          refine lv_if_ne (pc := 68) (tgt := 84) hx hb dX8_pass_68 (by decide) (fun c9 => ?_) (fun c9 => ?_)
          · have h := (if_neg c9).symm.trans h
            refine lv_iload (pc := 84) hx hb dX8_pass_84 (lv_at hl 0 rfl) ?_
            refine lv_if_le (pc := 86) (tgt := 94) hx hb dX8_pass_86 (by decide) (fun c10 => ?_) (fun c10 => ?_)
            · have h := (if_pos c10).symm.trans h
              refine lv_iconst (pc := 94) (v := (0 : Int32)) hx hb dX8_pass_94 (by decide) ?_
              obtain ⟨c11, h⟩ := ite_some h
              obtain ⟨M12, hM12, h⟩ := thn_ex h
              refine x_iast (pc := 95) (j := ((164 : Int32) + x3).toNatClampNeg) E hP hS (by decide) sh8a1 0 rfl (inb_in c11) rfl dX8_pass_95 (fun H locs hP hS => ?_)
              rw [hM12] at hP
              refine lv_iinc (pc := 96) (v := (x3 + 1)) (lv' := [(3, .int (x3 + 1)), (4, .int y6), (0, .ref (ad 0)), (1, .int x1), (2, .int x2)]) hx hb dX8_pass_96 hl (k := 4) rfl rfl (by decide) rfl (fun ls hl => ?_)
              refine lv_goto (pc := 99) (tgt := 26) hx hb dX8_pass_99 (by decide) ?_
              exact ih M12 x1 x2 (x3 + 1) _ _ _ h hP hS (lv_sub hl [2, 3, 4, 0] rfl)
            · have h := (if_neg c10).symm.trans h
              refine lv_iload (pc := 89) hx hb dX8_pass_89 (lv_at hl 0 rfl) ?_
              refine lv_goto (pc := 91) (tgt := 95) hx hb dX8_pass_91 (by decide) ?_
              obtain ⟨c13, h⟩ := ite_some h
              obtain ⟨M14, hM14, h⟩ := thn_ex h
              refine x_iast (pc := 95) (j := ((164 : Int32) + x3).toNatClampNeg) E hP hS (by decide) sh8a1 0 rfl (inb_in c13) rfl dX8_pass_95 (fun H locs hP hS => ?_)
              rw [hM14] at hP
              refine lv_iinc (pc := 96) (v := (x3 + 1)) (lv' := [(3, .int (x3 + 1)), (4, .int y6), (0, .ref (ad 0)), (1, .int x1), (2, .int x2)]) hx hb dX8_pass_96 hl (k := 4) rfl rfl (by decide) rfl (fun ls hl => ?_)
              refine lv_goto (pc := 99) (tgt := 26) hx hb dX8_pass_99 (by decide) ?_
              exact ih M14 x1 x2 (x3 + 1) _ _ _ h hP hS (lv_sub hl [2, 3, 4, 0] rfl)
          · have h := (if_pos c9).symm.trans h
            refine lv_aload_n (pc := 71) hx hb dX8_pass_71 rfl (lv_at hl 1 rfl) ?_
            refine x_get (pc := 72) (v := .ref (ad 1)) E hP (by decide) sh8 rfl inX8 0 (by decide) q972 rfl dX8_pass_72 ?_
            refine lv_sipush (pc := 75) (v := (164 : Int32)) hx hb dX8_pass_75 (by decide) ?_
            refine lv_iload_n (pc := 78) hx hb dX8_pass_78 rfl (lv_at hl 4 rfl) ?_
            refine lv_iadd (pc := 79) hx hb dX8_pass_79 ?_
            obtain ⟨c15, h⟩ := ite_some h
            refine x_iald (pc := 80) (j := ((164 : Int32) + x3).toNatClampNeg) E hP (by decide) sh8a1 0 rfl (inb_in c15) rfl dX8_pass_80 ?_
            refine lv_goto (pc := 81) (tgt := 95) hx hb dX8_pass_81 (by decide) ?_
            obtain ⟨c16, h⟩ := ite_some h
            obtain ⟨M17, hM17, h⟩ := thn_ex h
            refine x_iast (pc := 95) (j := ((164 : Int32) + x3).toNatClampNeg) E hP hS (by decide) sh8a1 0 rfl (inb_in c16) rfl dX8_pass_95 (fun H locs hP hS => ?_)
            rw [hM17] at hP
            refine lv_iinc (pc := 96) (v := (x3 + 1)) (lv' := [(3, .int (x3 + 1)), (4, .int y6), (0, .ref (ad 0)), (1, .int x1), (2, .int x2)]) hx hb dX8_pass_96 hl (k := 4) rfl rfl (by decide) rfl (fun ls hl => ?_)
            refine lv_goto (pc := 99) (tgt := 26) hx hb dX8_pass_99 (by decide) ?_
            exact ih M17 x1 x2 (x3 + 1) _ _ _ h hP hS (lv_sub hl [2, 3, 4, 0] rfl)
  unfold fX8_pass at h
  refine lv_aload_n (pc := 0) hx hb dX8_pass_0 rfl (lv_at hl 0 rfl) ?_
  refine x_get (pc := 1) (v := .ref (ad 1)) E hP (by decide) sh8 rfl inX8 0 (by decide) q972 rfl dX8_pass_1 ?_
  refine lv_bipush (pc := 4) (v := (9 : Int32)) hx hb dX8_pass_4 (by decide) ?_
  refine x_iald (pc := 6) (j := 9) E hP (by decide) sh8a1 0 rfl (vp_inl (by decide)) rfl dX8_pass_6 ?_
  refine lv_iload_n (pc := 7) hx hb dX8_pass_7 rfl (lv_at hl 1 rfl) ?_
  refine lv_iadd (pc := 8) hx hb dX8_pass_8 ?_
  refine lv_bipush (pc := 9) (v := (60 : Int32)) hx hb dX8_pass_9 (by decide) ?_
  refine lv_idiv (pc := 11) hx hb dX8_pass_11 (by decide) ?_
  refine lv_aload_n (pc := 12) hx hb dX8_pass_12 rfl (lv_at hl 0 rfl) ?_
  refine x_get (pc := 13) (v := .ref (ad 1)) E hP (by decide) sh8 rfl inX8 0 (by decide) q972 rfl dX8_pass_13 ?_
  refine lv_bipush (pc := 16) (v := (9 : Int32)) hx hb dX8_pass_16 (by decide) ?_
  refine x_iald (pc := 18) (j := 9) E hP (by decide) sh8a1 0 rfl (vp_inl (by decide)) rfl dX8_pass_18 ?_
  refine lv_bipush (pc := 19) (v := (60 : Int32)) hx hb dX8_pass_19 (by decide) ?_
  refine lv_idiv (pc := 21) hx hb dX8_pass_21 (by decide) ?_
  refine lv_isub (pc := 22) hx hb dX8_pass_22 ?_
  obtain ⟨y1, hy1, h⟩ := thn_ex h
  refine W.eq (g2 := F0 m 23 ls (.int y1 :: [])) (by rw [← hy1]) ?_
  refine lv_istore_n (pc := 23) (lv' := [(2, .int y1), (0, .ref (ad 0)), (1, .int x1)]) hx hb dX8_pass_23 rfl hl (by decide) rfl (fun ls hl => ?_)
  refine lv_iconst (pc := 24) (v := (0 : Int32)) hx hb dX8_pass_24 (by decide) ?_
  refine lv_istore_n (pc := 25) (lv' := [(3, .int (0 : Int32)), (2, .int y1), (0, .ref (ad 0)), (1, .int x1)]) hx hb dX8_pass_25 rfl hl (by decide) rfl (fun ls hl => ?_)
  exact hL26 5000 M x1 y1 (0 : Int32) _ _ _ h hP hS (lv_sub hl [2, 3, 1, 0] rfl)
set_option maxRecDepth 100000 in
set_option maxHeartbeats 4000000 in
theorem kX8_type (hap : Apart 7 ad)   (M : Mem) (x1 : Int32) (v : Int32) (M' : Mem) (h : fX8_type M x1 = some (v, M')) : RI G ad cA cZ cC yX8_type cX8_type 2 .int ({ frames := 0, cells := 0, slots := 0, locals := 0 } : Room) [.ref (ad 0), .int x1] M v M' := by
  refine CI.mk (own := RX8) (ls0 := [(0, .ref (ad 0)), (1, .int x1)]) (by decide +kernel) rfl hap (Nat.le_of_ble_eq_true rfl) rfl ?_
  intro p l e s m args below meth c ls E hP hl
  have hx := E.1
  have hb := E.2.1
  have hown := E.2.2.2.2.2.1
  have hts := E.2.2.2.2.2.2.1
  have hEx := ExR.ok 7 ad
  have hS : va_S (AW 7 ad) s.heap s.heap [] := va_S.rf
  unfold fX8_type at h
  refine lv_aload_n (pc := 0) hx hb dX8_type_0 rfl (lv_at hl 0 rfl) ?_
  refine x_get (pc := 1) (v := .int (M 0 4)) E hP (by decide) sh8 rfl inX8 4 (by decide) q976 rfl dX8_type_1 ?_
  refine lv_bipush (pc := 4) (v := (20 : Int32)) hx hb dX8_type_4 (by decide) ?_
  refine lv_icmp_ne (pc := 6) (tgt := 12) hx hb dX8_type_6 (by decide) (fun c1 => ?_) (fun c1 => ?_)
  · have h := (if_neg c1).symm.trans h
    refine lv_aload_n (pc := 12) hx hb dX8_type_12 rfl (lv_at hl 0 rfl) ?_
    refine x_get (pc := 13) (v := .ref (ad 5)) E hP (by decide) sh8 rfl inX8 5 (by decide) q977 rfl dX8_type_13 ?_
    refine lv_aload_n (pc := 16) hx hb dX8_type_16 rfl (lv_at hl 0 rfl) ?_
    refine x_get (pc := 17) (v := .int (M 0 4)) E hP (by decide) sh8 rfl inX8 4 (by decide) q976 rfl dX8_type_17 ?_
    refine lv_iload_n (pc := 20) hx hb dX8_type_20 rfl (lv_at hl 1 rfl) ?_
    obtain ⟨c2, h⟩ := ite_some h
    obtain ⟨M3, hM3, h⟩ := thn_ex h
    refine x_cast (pc := 21) (j := (M 0 4).toNatClampNeg) E hP hS (by decide) sh8a5 2 rfl (inb_in c2) rfl dX8_type_21 (fun H locs hP hS => ?_)
    rw [hM3] at hP
    refine lv_aload_n (pc := 22) hx hb dX8_type_22 rfl (lv_at hl 0 rfl) ?_
    refine lv_dup (pc := 23) hx hb dX8_type_23 rfl ?_
    refine x_get (pc := 24) (v := .int (M3 0 4)) E hP (by decide) sh8 rfl inX8 4 (by decide) q976 rfl dX8_type_24 ?_
    refine lv_iconst (pc := 27) (v := (1 : Int32)) hx hb dX8_type_27 (by decide) ?_
    refine lv_iadd (pc := 28) hx hb dX8_type_28 ?_
    obtain ⟨M4, hM4, h⟩ := thn_ex h
    refine x_put (pc := 29) (v := ((M3 0 4) + (1 : Int32))) E hP hS (by decide) sh8 tyX8 tyX8_ok nmX8 rfl inX8 4 (by decide) q976 rfl rfl rfl (Nat.le_of_ble_eq_true rfl) rfl dX8_type_29 (fun H locs hP hS => ?_)
    rw [hM4] at hP
    refine lv_aload_n (pc := 32) hx hb dX8_type_32 rfl (lv_at hl 0 rfl) ?_
    refine x_get (pc := 33) (v := .int (M4 0 4)) E hP (by decide) sh8 rfl inX8 4 (by decide) q976 rfl dX8_type_33 ?_
    obtain ⟨rfl, rfl⟩ := som2 h
    exact x_iret E hP hS rfl dX8_type_36
  · have h := (if_pos c1).symm.trans h
    refine lv_bipush (pc := 9) (v := (-3 : Int32)) hx hb dX8_type_9 (by decide) ?_
    obtain ⟨rfl, rfl⟩ := som2 h
    exact x_iret E hP hS rfl dX8_type_11
set_option maxRecDepth 100000 in
set_option maxHeartbeats 4000000 in
theorem kX8_clearText (hap : Apart 7 ad)   (M : Mem)  (v : Int32) (M' : Mem) (h : fX8_clearText M = some (v, M')) : RI G ad cA cZ cC yX8_clearText cX8_clearText 2 .int ({ frames := 0, cells := 0, slots := 0, locals := 0 } : Room) [.ref (ad 0)] M v M' := by
  refine CI.mk (own := RX8) (ls0 := [(0, .ref (ad 0))]) (by decide +kernel) rfl hap (Nat.le_of_ble_eq_true rfl) rfl ?_
  intro p l e s m args below meth c ls E hP hl
  have hx := E.1
  have hb := E.2.1
  have hown := E.2.2.2.2.2.1
  have hts := E.2.2.2.2.2.2.1
  have hEx := ExR.ok 7 ad
  have hS : va_S (AW 7 ad) s.heap s.heap [] := va_S.rf
  unfold fX8_clearText at h
  refine lv_aload_n (pc := 0) hx hb dX8_clearText_0 rfl (lv_at hl 0 rfl) ?_
  refine x_get (pc := 1) (v := .int (M 0 4)) E hP (by decide) sh8 rfl inX8 4 (by decide) q976 rfl dX8_clearText_1 ?_
  refine lv_istore_n (pc := 4) (lv' := [(1, .int (M 0 4)), (0, .ref (ad 0))]) hx hb dX8_clearText_4 rfl hl (by decide) rfl (fun ls hl => ?_)
  refine lv_aload_n (pc := 5) hx hb dX8_clearText_5 rfl (lv_at hl 1 rfl) ?_
  refine lv_iconst (pc := 6) (v := (0 : Int32)) hx hb dX8_clearText_6 (by decide) ?_
  obtain ⟨M1, hM1, h⟩ := thn_ex h
  refine x_put (pc := 7) (v := (0 : Int32)) E hP hS (by decide) sh8 tyX8 tyX8_ok nmX8 rfl inX8 4 (by decide) q976 rfl rfl rfl (Nat.le_of_ble_eq_true rfl) rfl dX8_clearText_7 (fun H locs hP hS => ?_)
  rw [hM1] at hP
  refine lv_iload_n (pc := 10) hx hb dX8_clearText_10 rfl (lv_at hl 0 rfl) ?_
  obtain ⟨rfl, rfl⟩ := som2 h
  exact x_iret E hP hS rfl dX8_clearText_11
set_option maxRecDepth 100000 in
set_option maxHeartbeats 4000000 in
theorem kX8_lockLetter (hap : Apart 7 ad)   (M : Mem) (x0 x1 : Int32) (v : Int32) (h : fX8_lockLetter M x0 x1 = v) : RI G ad cA cZ cC yX8_lockLetter cX8_lockLetter 2 .int ({ frames := 0, cells := 0, slots := 0, locals := 0 } : Room) [.int x0, .int x1] M v M := by
  refine CI.mk (own := RX8) (ls0 := [(0, .int x0), (1, .int x1)]) (by decide +kernel) rfl hap (Nat.le_of_ble_eq_true rfl) rfl ?_
  intro p l e s m args below meth c ls E hP hl
  have hx := E.1
  have hb := E.2.1
  have hown := E.2.2.2.2.2.1
  have hts := E.2.2.2.2.2.2.1
  have hEx := ExR.ok 7 ad
  have hS : va_S (AW 7 ad) s.heap s.heap [] := va_S.rf
  unfold fX8_lockLetter at h
  refine lv_iload_n (pc := 0) hx hb dX8_lockLetter_0 rfl (lv_at hl 0 rfl) ?_
  by_cases c1 : x0 = (0 : Int32)
  · have h := (if_pos c1).symm.trans h
    refine lv_tableIn (pc := 1) (off := 27) (tgt := 28) hx hb dX8_lockLetter_1 (by rw [c1]; decide) (by rw [c1]; decide) (by rw [c1]; decide) (by decide) ?_
    refine lv_iload_n (pc := 28) hx hb dX8_lockLetter_28 rfl (lv_at hl 1 rfl) ?_
    refine lv_if_ne (pc := 29) (tgt := 37) hx hb dX8_lockLetter_29 (by decide) (fun c16 => ?_) (fun c16 => ?_)
    · have h := (if_neg c16).symm.trans h
      refine lv_iload_n (pc := 37) hx hb dX8_lockLetter_37 rfl (lv_at hl 1 rfl) ?_
      refine lv_iconst (pc := 38) (v := (1 : Int32)) hx hb dX8_lockLetter_38 (by decide) ?_
      refine lv_icmp_ne (pc := 39) (tgt := 47) hx hb dX8_lockLetter_39 (by decide) (fun c17 => ?_) (fun c17 => ?_)
      · have h := (if_neg c17).symm.trans h
        refine lv_iload_n (pc := 47) hx hb dX8_lockLetter_47 rfl (lv_at hl 1 rfl) ?_
        refine lv_iconst (pc := 48) (v := (2 : Int32)) hx hb dX8_lockLetter_48 (by decide) ?_
        refine lv_icmp_ne (pc := 49) (tgt := 57) hx hb dX8_lockLetter_49 (by decide) (fun c18 => ?_) (fun c18 => ?_)
        · have h := (if_neg c18).symm.trans h
          refine lv_iload_n (pc := 57) hx hb dX8_lockLetter_57 rfl (lv_at hl 1 rfl) ?_
          refine lv_iconst (pc := 58) (v := (3 : Int32)) hx hb dX8_lockLetter_58 (by decide) ?_
          refine lv_icmp_ne (pc := 59) (tgt := 67) hx hb dX8_lockLetter_59 (by decide) (fun c19 => ?_) (fun c19 => ?_)
          · have h := (if_neg c19).symm.trans h
            refine lv_iload_n (pc := 67) hx hb dX8_lockLetter_67 rfl (lv_at hl 1 rfl) ?_
            refine lv_iconst (pc := 68) (v := (4 : Int32)) hx hb dX8_lockLetter_68 (by decide) ?_
            refine lv_icmp_ne (pc := 69) (tgt := 77) hx hb dX8_lockLetter_69 (by decide) (fun c20 => ?_) (fun c20 => ?_)
            · have h := (if_neg c20).symm.trans h
              refine lv_iconst (pc := 77) (v := (0 : Int32)) hx hb dX8_lockLetter_77 (by decide) ?_
              obtain rfl : (0 : Int32) = v := h
              exact x_iret E hP hS rfl dX8_lockLetter_78
            · have h := (if_pos c20).symm.trans h
              refine lv_bipush (pc := 72) (v := (104 : Int32)) hx hb dX8_lockLetter_72 (by decide) ?_
              refine lv_goto (pc := 74) (tgt := 78) hx hb dX8_lockLetter_74 (by decide) ?_
              obtain rfl : (104 : Int32) = v := h
              exact x_iret E hP hS rfl dX8_lockLetter_78
          · have h := (if_pos c19).symm.trans h
            refine lv_bipush (pc := 62) (v := (99 : Int32)) hx hb dX8_lockLetter_62 (by decide) ?_
            refine lv_goto (pc := 64) (tgt := 78) hx hb dX8_lockLetter_64 (by decide) ?_
            obtain rfl : (99 : Int32) = v := h
            exact x_iret E hP hS rfl dX8_lockLetter_78
        · have h := (if_pos c18).symm.trans h
          refine lv_bipush (pc := 52) (v := (116 : Int32)) hx hb dX8_lockLetter_52 (by decide) ?_
          refine lv_goto (pc := 54) (tgt := 78) hx hb dX8_lockLetter_54 (by decide) ?_
          obtain rfl : (116 : Int32) = v := h
          exact x_iret E hP hS rfl dX8_lockLetter_78
      · have h := (if_pos c17).symm.trans h
        refine lv_bipush (pc := 42) (v := (97 : Int32)) hx hb dX8_lockLetter_42 (by decide) ?_
        refine lv_goto (pc := 44) (tgt := 78) hx hb dX8_lockLetter_44 (by decide) ?_
        obtain rfl : (97 : Int32) = v := h
        exact x_iret E hP hS rfl dX8_lockLetter_78
    · have h := (if_pos c16).symm.trans h
      refine lv_bipush (pc := 32) (v := (108 : Int32)) hx hb dX8_lockLetter_32 (by decide) ?_
      refine lv_goto (pc := 34) (tgt := 78) hx hb dX8_lockLetter_34 (by decide) ?_
      obtain rfl : (108 : Int32) = v := h
      exact x_iret E hP hS rfl dX8_lockLetter_78
  · have h := (if_neg c1).symm.trans h
    by_cases c2 : x0 = (1 : Int32)
    · have h := (if_pos c2).symm.trans h
      refine lv_tableIn (pc := 1) (off := 78) (tgt := 79) hx hb dX8_lockLetter_1 (by rw [c2]; decide) (by rw [c2]; decide) (by rw [c2]; decide) (by decide) ?_
      refine lv_iload_n (pc := 79) hx hb dX8_lockLetter_79 rfl (lv_at hl 1 rfl) ?_
      refine lv_if_ne (pc := 80) (tgt := 88) hx hb dX8_lockLetter_80 (by decide) (fun c13 => ?_) (fun c13 => ?_)
      · have h := (if_neg c13).symm.trans h
        refine lv_iload_n (pc := 88) hx hb dX8_lockLetter_88 rfl (lv_at hl 1 rfl) ?_
        refine lv_iconst (pc := 89) (v := (1 : Int32)) hx hb dX8_lockLetter_89 (by decide) ?_
        refine lv_icmp_ne (pc := 90) (tgt := 98) hx hb dX8_lockLetter_90 (by decide) (fun c14 => ?_) (fun c14 => ?_)
        · have h := (if_neg c14).symm.trans h
          refine lv_iload_n (pc := 98) hx hb dX8_lockLetter_98 rfl (lv_at hl 1 rfl) ?_
          refine lv_iconst (pc := 99) (v := (2 : Int32)) hx hb dX8_lockLetter_99 (by decide) ?_
          refine lv_icmp_ne (pc := 100) (tgt := 108) hx hb dX8_lockLetter_100 (by decide) (fun c15 => ?_) (fun c15 => ?_)
          · have h := (if_neg c15).symm.trans h
            refine lv_iconst (pc := 108) (v := (0 : Int32)) hx hb dX8_lockLetter_108 (by decide) ?_
            obtain rfl : (0 : Int32) = v := h
            exact x_iret E hP hS rfl dX8_lockLetter_109
          · have h := (if_pos c15).symm.trans h
            refine lv_bipush (pc := 103) (v := (121 : Int32)) hx hb dX8_lockLetter_103 (by decide) ?_
            refine lv_goto (pc := 105) (tgt := 109) hx hb dX8_lockLetter_105 (by decide) ?_
            obtain rfl : (121 : Int32) = v := h
            exact x_iret E hP hS rfl dX8_lockLetter_109
        · have h := (if_pos c14).symm.trans h
          refine lv_bipush (pc := 93) (v := (101 : Int32)) hx hb dX8_lockLetter_93 (by decide) ?_
          refine lv_goto (pc := 95) (tgt := 109) hx hb dX8_lockLetter_95 (by decide) ?_
          obtain rfl : (101 : Int32) = v := h
          exact x_iret E hP hS rfl dX8_lockLetter_109
      · have h := (if_pos c13).symm.trans h
        refine lv_bipush (pc := 83) (v := (107 : Int32)) hx hb dX8_lockLetter_83 (by decide) ?_
        refine lv_goto (pc := 85) (tgt := 109) hx hb dX8_lockLetter_85 (by decide) ?_
        obtain rfl : (107 : Int32) = v := h
        exact x_iret E hP hS rfl dX8_lockLetter_109
    · have h := (if_neg c2).symm.trans h
      by_cases c3 : x0 = (2 : Int32)
      · have h := (if_pos c3).symm.trans h
        refine lv_tableIn (pc := 1) (off := 109) (tgt := 110) hx hb dX8_lockLetter_1 (by rw [c3]; decide) (by rw [c3]; decide) (by rw [c3]; decide) (by decide) ?_
        refine lv_iload_n (pc := 110) hx hb dX8_lockLetter_110 rfl (lv_at hl 1 rfl) ?_
        refine lv_if_ne (pc := 111) (tgt := 119) hx hb dX8_lockLetter_111 (by decide) (fun c9 => ?_) (fun c9 => ?_)
        · have h := (if_neg c9).symm.trans h
          refine lv_iload_n (pc := 119) hx hb dX8_lockLetter_119 rfl (lv_at hl 1 rfl) ?_
          refine lv_iconst (pc := 120) (v := (1 : Int32)) hx hb dX8_lockLetter_120 (by decide) ?_
          refine lv_icmp_ne (pc := 121) (tgt := 129) hx hb dX8_lockLetter_121 (by decide) (fun c10 => ?_) (fun c10 => ?_)
          · have h := (if_neg c10).symm.trans h
            refine lv_iload_n (pc := 129) hx hb dX8_lockLetter_129 rfl (lv_at hl 1 rfl) ?_
            refine lv_iconst (pc := 130) (v := (2 : Int32)) hx hb dX8_lockLetter_130 (by decide) ?_
            refine lv_icmp_ne (pc := 131) (tgt := 139) hx hb dX8_lockLetter_131 (by decide) (fun c11 => ?_) (fun c11 => ?_)
            · have h := (if_neg c11).symm.trans h
              refine lv_iload_n (pc := 139) hx hb dX8_lockLetter_139 rfl (lv_at hl 1 rfl) ?_
              refine lv_iconst (pc := 140) (v := (3 : Int32)) hx hb dX8_lockLetter_140 (by decide) ?_
              refine lv_icmp_ne (pc := 141) (tgt := 149) hx hb dX8_lockLetter_141 (by decide) (fun c12 => ?_) (fun c12 => ?_)
              · have h := (if_neg c12).symm.trans h
                refine lv_iconst (pc := 149) (v := (0 : Int32)) hx hb dX8_lockLetter_149 (by decide) ?_
                obtain rfl : (0 : Int32) = v := h
                exact x_iret E hP hS rfl dX8_lockLetter_150
              · have h := (if_pos c12).symm.trans h
                refine lv_bipush (pc := 144) (v := (101 : Int32)) hx hb dX8_lockLetter_144 (by decide) ?_
                refine lv_goto (pc := 146) (tgt := 150) hx hb dX8_lockLetter_146 (by decide) ?_
                obtain rfl : (101 : Int32) = v := h
                exact x_iret E hP hS rfl dX8_lockLetter_150
            · have h := (if_pos c11).symm.trans h
              refine lv_bipush (pc := 134) (v := (100 : Int32)) hx hb dX8_lockLetter_134 (by decide) ?_
              refine lv_goto (pc := 136) (tgt := 150) hx hb dX8_lockLetter_136 (by decide) ?_
              obtain rfl : (100 : Int32) = v := h
              exact x_iret E hP hS rfl dX8_lockLetter_150
          · have h := (if_pos c10).symm.trans h
            refine lv_bipush (pc := 124) (v := (111 : Int32)) hx hb dX8_lockLetter_124 (by decide) ?_
            refine lv_goto (pc := 126) (tgt := 150) hx hb dX8_lockLetter_126 (by decide) ?_
            obtain rfl : (111 : Int32) = v := h
            exact x_iret E hP hS rfl dX8_lockLetter_150
        · have h := (if_pos c9).symm.trans h
          refine lv_bipush (pc := 114) (v := (99 : Int32)) hx hb dX8_lockLetter_114 (by decide) ?_
          refine lv_goto (pc := 116) (tgt := 150) hx hb dX8_lockLetter_116 (by decide) ?_
          obtain rfl : (99 : Int32) = v := h
          exact x_iret E hP hS rfl dX8_lockLetter_150
      · have h := (if_neg c3).symm.trans h
        refine lv_tableOut (pc := 1) (tgt := 151) hx hb dX8_lockLetter_1 (by have e0 := ne_lit (k := 0) (by decide) c1; have e1 := ne_lit (k := 1) (by decide) c2; have e2 := ne_lit (k := 2) (by decide) c3; omega) (by decide) ?_
        refine lv_iload_n (pc := 151) hx hb dX8_lockLetter_151 rfl (lv_at hl 1 rfl) ?_
        refine lv_if_ne (pc := 152) (tgt := 160) hx hb dX8_lockLetter_152 (by decide) (fun c4 => ?_) (fun c4 => ?_)
        · have h := (if_neg c4).symm.trans h
          refine lv_iload_n (pc := 160) hx hb dX8_lockLetter_160 rfl (lv_at hl 1 rfl) ?_
          refine lv_iconst (pc := 161) (v := (1 : Int32)) hx hb dX8_lockLetter_161 (by decide) ?_
          refine lv_icmp_ne (pc := 162) (tgt := 170) hx hb dX8_lockLetter_162 (by decide) (fun c5 => ?_) (fun c5 => ?_)
          · have h := (if_neg c5).symm.trans h
            refine lv_iload_n (pc := 170) hx hb dX8_lockLetter_170 rfl (lv_at hl 1 rfl) ?_
            refine lv_iconst (pc := 171) (v := (2 : Int32)) hx hb dX8_lockLetter_171 (by decide) ?_
            refine lv_icmp_ne (pc := 172) (tgt := 180) hx hb dX8_lockLetter_172 (by decide) (fun c6 => ?_) (fun c6 => ?_)
            · have h := (if_neg c6).symm.trans h
              refine lv_iload_n (pc := 180) hx hb dX8_lockLetter_180 rfl (lv_at hl 1 rfl) ?_
              refine lv_iconst (pc := 181) (v := (3 : Int32)) hx hb dX8_lockLetter_181 (by decide) ?_
              refine lv_icmp_ne (pc := 182) (tgt := 190) hx hb dX8_lockLetter_182 (by decide) (fun c7 => ?_) (fun c7 => ?_)
              · have h := (if_neg c7).symm.trans h
                refine lv_iload_n (pc := 190) hx hb dX8_lockLetter_190 rfl (lv_at hl 1 rfl) ?_
                refine lv_iconst (pc := 191) (v := (4 : Int32)) hx hb dX8_lockLetter_191 (by decide) ?_
                refine lv_icmp_ne (pc := 192) (tgt := 200) hx hb dX8_lockLetter_192 (by decide) (fun c8 => ?_) (fun c8 => ?_)
                · have h := (if_neg c8).symm.trans h
                  refine lv_iconst (pc := 200) (v := (0 : Int32)) hx hb dX8_lockLetter_200 (by decide) ?_
                  obtain rfl : (0 : Int32) = v := h
                  exact x_iret E hP hS rfl dX8_lockLetter_201
                · have h := (if_pos c8).symm.trans h
                  refine lv_bipush (pc := 195) (v := (101 : Int32)) hx hb dX8_lockLetter_195 (by decide) ?_
                  refine lv_goto (pc := 197) (tgt := 201) hx hb dX8_lockLetter_197 (by decide) ?_
                  obtain rfl : (101 : Int32) = v := h
                  exact x_iret E hP hS rfl dX8_lockLetter_201
              · have h := (if_pos c7).symm.trans h
                refine lv_bipush (pc := 185) (v := (116 : Int32)) hx hb dX8_lockLetter_185 (by decide) ?_
                refine lv_goto (pc := 187) (tgt := 201) hx hb dX8_lockLetter_187 (by decide) ?_
                obtain rfl : (116 : Int32) = v := h
                exact x_iret E hP hS rfl dX8_lockLetter_201
            · have h := (if_pos c6).symm.trans h
              refine lv_bipush (pc := 175) (v := (97 : Int32)) hx hb dX8_lockLetter_175 (by decide) ?_
              refine lv_goto (pc := 177) (tgt := 201) hx hb dX8_lockLetter_177 (by decide) ?_
              obtain rfl : (97 : Int32) = v := h
              exact x_iret E hP hS rfl dX8_lockLetter_201
          · have h := (if_pos c5).symm.trans h
            refine lv_bipush (pc := 165) (v := (108 : Int32)) hx hb dX8_lockLetter_165 (by decide) ?_
            refine lv_goto (pc := 167) (tgt := 201) hx hb dX8_lockLetter_167 (by decide) ?_
            obtain rfl : (108 : Int32) = v := h
            exact x_iret E hP hS rfl dX8_lockLetter_201
        · have h := (if_pos c4).symm.trans h
          refine lv_bipush (pc := 155) (v := (112 : Int32)) hx hb dX8_lockLetter_155 (by decide) ?_
          refine lv_goto (pc := 157) (tgt := 201) hx hb dX8_lockLetter_157 (by decide) ?_
          obtain rfl : (112 : Int32) = v := h
          exact x_iret E hP hS rfl dX8_lockLetter_201
set_option maxRecDepth 100000 in
set_option maxHeartbeats 4000000 in
theorem kX8_sees (hap : Apart 7 ad)   (M : Mem)  (v : Int32) (h : fX8_sees M = some v) : RI G ad cA cZ cC yX8_sees cX8_sees 1 .int ({ frames := 0, cells := 0, slots := 0, locals := 0 } : Room) [.ref (ad 0)] M v M := by
  refine CI.mk (own := RX8) (ls0 := [(0, .ref (ad 0))]) (by decide +kernel) rfl hap (Nat.le_of_ble_eq_true rfl) rfl ?_
  intro p l e s m args below meth c ls E hP hl
  have hx := E.1
  have hb := E.2.1
  have hown := E.2.2.2.2.2.1
  have hts := E.2.2.2.2.2.2.1
  have hEx := ExR.ok 7 ad
  have hS : va_S (AW 7 ad) s.heap s.heap [] := va_S.rf
  unfold fX8_sees at h
  refine lv_aload_n (pc := 0) hx hb dX8_sees_0 rfl (lv_at hl 0 rfl) ?_
  refine x_get (pc := 1) (v := .int (M 0 6)) E hP (by decide) sh8 rfl inX8 6 (by decide) q978 rfl dX8_sees_1 ?_
  refine lv_aload_n (pc := 4) hx hb dX8_sees_4 rfl (lv_at hl 0 rfl) ?_
  refine x_get (pc := 5) (v := .int (M 0 4)) E hP (by decide) sh8 rfl inX8 4 (by decide) q976 rfl dX8_sees_5 ?_
  refine lv_icmp_ge (pc := 8) (tgt := 23) hx hb dX8_sees_8 (by decide) (fun c1 => ?_) (fun c1 => ?_)
  · have h := (if_pos c1).symm.trans h
    refine lv_iconst (pc := 23) (v := (0 : Int32)) hx hb dX8_sees_23 (by decide) ?_
    obtain rfl := som1 h
    exact x_iret E hP hS rfl dX8_sees_24
  · have h := (if_neg c1).symm.trans h
    refine lv_aload_n (pc := 11) hx hb dX8_sees_11 rfl (lv_at hl 0 rfl) ?_
    refine x_get (pc := 12) (v := .ref (ad 5)) E hP (by decide) sh8 rfl inX8 5 (by decide) q977 rfl dX8_sees_12 ?_
    refine lv_aload_n (pc := 15) hx hb dX8_sees_15 rfl (lv_at hl 0 rfl) ?_
    refine x_get (pc := 16) (v := .int (M 0 6)) E hP (by decide) sh8 rfl inX8 6 (by decide) q978 rfl dX8_sees_16 ?_
    obtain ⟨c2, h⟩ := ite_some h
    refine x_cald (pc := 19) (j := (M 0 6).toNatClampNeg) E hP (by decide) sh8a5 2 rfl (inb_in c2) rfl dX8_sees_19 ?_
    refine lv_goto (pc := 20) (tgt := 24) hx hb dX8_sees_20 (by decide) ?_
    obtain rfl := som1 h
    exact x_iret E hP hS rfl dX8_sees_24
set_option maxRecDepth 100000 in
set_option maxHeartbeats 4000000 in
theorem kX8_takes (hap : Apart 7 ad)   (M : Mem) (x1 : Int32) (M' : Mem) (h : fX8_takes M x1 = some M') : RV G ad cA cZ cC yX8_takes cX8_takes 2 ({ frames := 1, cells := 0, slots := 0, locals := 20 } : Room) [.ref (ad 0), .int x1] M M' := by
  refine CV.mk (own := RX8) (ls0 := [(0, .ref (ad 0)), (1, .int x1)]) (by decide +kernel) rfl hap (Nat.le_of_ble_eq_true rfl) rfl ?_
  intro p l e s m args below meth c ls E hP hl
  have hx := E.1
  have hb := E.2.1
  have hown := E.2.2.2.2.2.1
  have hts := E.2.2.2.2.2.2.1
  have hEx := ExR.ok 7 ad
  have hS : va_S (AW 7 ad) s.heap s.heap [] := va_S.rf
  have hB35 : ∀ (M : Mem) (H : Heap) (locs : List Loc) (ls : Array Slot), fX8_takes_B35 M = some M' → va_P G vwCl (WW 7 (shR cA cZ cC ad) ad M) H → va_S (AW 7 ad) s.heap H locs → lv_has ls 2 [(0, .ref (ad 0))] → W p l e ({ frames := 1, cells := 0, slots := 0, locals := 20 } : Room) s m args below meth c H locs 0 0 (QV below G 7 (shR cA cZ cC ad) ad args s M') (F0 m 35 ls []) := by
    intro M  H locs ls h hP hS hl
    unfold fX8_takes_B35 at h
    refine lv_aload_n (pc := 35) hx hb dX8_takes_35 rfl (lv_at hl 0 rfl) ?_
    refine lv_dup (pc := 36) hx hb dX8_takes_36 rfl ?_
    refine x_get (pc := 37) (v := .int (M 0 6)) E hP (by decide) sh8 rfl inX8 6 (by decide) q978 rfl dX8_takes_37 ?_
    refine lv_aload_n (pc := 40) hx hb dX8_takes_40 rfl (lv_at hl 0 rfl) ?_
    refine x_get (pc := 41) (v := .int (bz (M 0 7))) E hP (by decide) sh8 rfl inX8 7 (by decide) q979 rfl dX8_takes_41 ?_
    refine lv_if_eq (pc := 44) (tgt := 51) hx hb dX8_takes_44 (by decide) (fun c3 => ?_) (fun c3 => ?_)
    · have h := (if_pos c3).symm.trans h
      refine lv_iconst (pc := 51) (v := (1 : Int32)) hx hb dX8_takes_51 (by decide) ?_
      refine lv_iadd (pc := 52) hx hb dX8_takes_52 ?_
      obtain ⟨M4, hM4, h⟩ := thn_ex h
      refine x_put (pc := 53) (v := ((M 0 6) + (1 : Int32))) E hP hS (by decide) sh8 tyX8 tyX8_ok nmX8 rfl inX8 6 (by decide) q978 rfl rfl rfl (Nat.le_of_ble_eq_true rfl) rfl dX8_takes_53 (fun H locs hP hS => ?_)
      rw [hM4] at hP
      obtain rfl := som1 h
      exact x_vret E hP hS dX8_takes_56
    · have h := (if_neg c3).symm.trans h
      refine lv_iconst (pc := 47) (v := (0 : Int32)) hx hb dX8_takes_47 (by decide) ?_
      refine lv_goto (pc := 48) (tgt := 52) hx hb dX8_takes_48 (by decide) ?_
      refine lv_iadd (pc := 52) hx hb dX8_takes_52 ?_
      obtain ⟨M5, hM5, h⟩ := thn_ex h
      refine x_put (pc := 53) (v := ((M 0 6) + (0 : Int32))) E hP hS (by decide) sh8 tyX8 tyX8_ok nmX8 rfl inX8 6 (by decide) q978 rfl rfl rfl (Nat.le_of_ble_eq_true rfl) rfl dX8_takes_53 (fun H locs hP hS => ?_)
      rw [hM5] at hP
      obtain rfl := som1 h
      exact x_vret E hP hS dX8_takes_56
  unfold fX8_takes at h
  refine lv_aload_n (pc := 0) hx hb dX8_takes_0 rfl (lv_at hl 0 rfl) ?_
  refine lv_aload_n (pc := 1) hx hb dX8_takes_1 rfl (lv_at hl 0 rfl) ?_
  refine x_get (pc := 2) (v := .int (bz (M 0 7))) E hP (by decide) sh8 rfl inX8 7 (by decide) q979 rfl dX8_takes_2 ?_
  refine lv_if_ne (pc := 5) (tgt := 27) hx hb dX8_takes_5 (by decide) (fun c1 => ?_) (fun c1 => ?_)
  · have h := (if_neg c1).symm.trans h
    refine lv_iconst (pc := 27) (v := (1 : Int32)) hx hb dX8_takes_27 (by decide) ?_
    refine lv_goto (pc := 28) (tgt := 32) hx hb dX8_takes_28 (by decide) ?_
    obtain ⟨M2, hM2, h⟩ := thn_ex h
    refine x_put (pc := 32) (v := (1 : Int32)) E hP hS (by decide) sh8 tyX8 tyX8_ok nmX8 rfl inX8 7 (by decide) q979 rfl rfl rfl (Nat.le_of_ble_eq_true rfl) (by simp [upd, bz0, bz1]) dX8_takes_32 (fun H locs hP hS => ?_)
    rw [hM2] at hP
    exact hB35 M2 _ _ _ h hP hS (lv_sub hl [0] rfl)
  · have h := (if_pos c1).symm.trans h
    refine lv_aload_n (pc := 8) hx hb dX8_takes_8 rfl (lv_at hl 0 rfl) ?_
    refine x_get (pc := 9) (v := .int (M 0 6)) E hP (by decide) sh8 rfl inX8 6 (by decide) q978 rfl dX8_takes_9 ?_
    refine lv_aload_n (pc := 12) hx hb dX8_takes_12 rfl (lv_at hl 0 rfl) ?_
    refine x_get (pc := 13) (v := .int (M 0 4)) E hP (by decide) sh8 rfl inX8 4 (by decide) q976 rfl dX8_takes_13 ?_
    refine lv_icmp_ge (pc := 16) (tgt := 27) hx hb dX8_takes_16 (by decide) (fun c6 => ?_) (fun c6 => ?_)
    · have h := (if_pos c6).symm.trans h
      refine lv_iconst (pc := 27) (v := (1 : Int32)) hx hb dX8_takes_27 (by decide) ?_
      refine lv_goto (pc := 28) (tgt := 32) hx hb dX8_takes_28 (by decide) ?_
      obtain ⟨M7, hM7, h⟩ := thn_ex h
      refine x_put (pc := 32) (v := (1 : Int32)) E hP hS (by decide) sh8 tyX8 tyX8_ok nmX8 rfl inX8 7 (by decide) q979 rfl rfl rfl (Nat.le_of_ble_eq_true rfl) (by simp [upd, bz0, bz1]) dX8_takes_32 (fun H locs hP hS => ?_)
      rw [hM7] at hP
      exact hB35 M7 _ _ _ h hP hS (lv_sub hl [0] rfl)
    · have h := (if_neg c6).symm.trans h
      refine lv_aload_n (pc := 19) hx hb dX8_takes_19 rfl (lv_at hl 0 rfl) ?_
      obtain ⟨y8, hy8, h⟩ := bnd_ex h
      refine x_callVi (pc := 20) (st := .ref (ad 0) :: .ref (ad 0) :: []) (As := []) E hEx hl.1 hP hS (kX8_sees hap  M  _ hy8) gX8_65 hdX8_sees rfl (by decide) sh8 rfl ⟨Nat.le_of_ble_eq_true rfl, Nat.le_of_ble_eq_true rfl⟩ ⟨rfl, rfl⟩ dX8_takes_20 rfl (Nat.le_of_ble_eq_true rfl) (fun H locs hP hS n9 => ?_)
      refine lv_iload_n (pc := 23) hx hb dX8_takes_23 rfl (lv_at hl 1 rfl) ?_
      refine lv_icmp_eq (pc := 24) (tgt := 31) hx hb dX8_takes_24 (by decide) (fun c10 => ?_) (fun c10 => ?_)
      · have h := (if_pos c10).symm.trans h
        refine lv_iconst (pc := 31) (v := (0 : Int32)) hx hb dX8_takes_31 (by decide) ?_
        obtain ⟨M11, hM11, h⟩ := thn_ex h
        refine x_put (pc := 32) (v := (0 : Int32)) E hP hS (by decide) sh8 tyX8 tyX8_ok nmX8 rfl inX8 7 (by decide) q979 rfl rfl rfl (Nat.le_of_ble_eq_true rfl) (by simp [upd, bz0, bz1]) dX8_takes_32 (fun H locs hP hS => ?_)
        rw [hM11] at hP
        exact hB35 M11 _ _ _ h hP hS (lv_sub hl [0] rfl)
      · have h := (if_neg c10).symm.trans h
        refine lv_iconst (pc := 27) (v := (1 : Int32)) hx hb dX8_takes_27 (by decide) ?_
        refine lv_goto (pc := 28) (tgt := 32) hx hb dX8_takes_28 (by decide) ?_
        obtain ⟨M12, hM12, h⟩ := thn_ex h
        refine x_put (pc := 32) (v := (1 : Int32)) E hP hS (by decide) sh8 tyX8 tyX8_ok nmX8 rfl inX8 7 (by decide) q979 rfl rfl rfl (Nat.le_of_ble_eq_true rfl) (by simp [upd, bz0, bz1]) dX8_takes_32 (fun H locs hP hS => ?_)
        rw [hM12] at hP
        exact hB35 M12 _ _ _ h hP hS (lv_sub hl [0] rfl)
set_option maxRecDepth 100000 in
set_option maxHeartbeats 4000000 in
theorem kX8_seesDigit (hap : Apart 7 ad)   (M : Mem)  (v : Int32) (h : fX8_seesDigit M = some v) : RI G ad cA cZ cC yX8_seesDigit cX8_seesDigit 1 .boolean ({ frames := 1, cells := 0, slots := 0, locals := 22 } : Room) [.ref (ad 0)] M v M := by
  refine CI.mk (own := RX8) (ls0 := [(0, .ref (ad 0))]) (by decide +kernel) rfl hap (Nat.le_of_ble_eq_true rfl) rfl ?_
  intro p l e s m args below meth c ls E hP hl
  have hx := E.1
  have hb := E.2.1
  have hown := E.2.2.2.2.2.1
  have hts := E.2.2.2.2.2.2.1
  have hEx := ExR.ok 7 ad
  have hS : va_S (AW 7 ad) s.heap s.heap [] := va_S.rf
  unfold fX8_seesDigit at h
  refine lv_aload_n (pc := 0) hx hb dX8_seesDigit_0 rfl (lv_at hl 0 rfl) ?_
  refine x_get (pc := 1) (v := .int (M 0 6)) E hP (by decide) sh8 rfl inX8 6 (by decide) q978 rfl dX8_seesDigit_1 ?_
  refine lv_aload_n (pc := 4) hx hb dX8_seesDigit_4 rfl (lv_at hl 0 rfl) ?_
  refine x_get (pc := 5) (v := .int (M 0 4)) E hP (by decide) sh8 rfl inX8 4 (by decide) q976 rfl dX8_seesDigit_5 ?_
  refine lv_icmp_ge (pc := 8) (tgt := 29) hx hb dX8_seesDigit_8 (by decide) (fun c1 => ?_) (fun c1 => ?_)
  · have h := (if_pos c1).symm.trans h
    refine lv_iconst (pc := 29) (v := (0 : Int32)) hx hb dX8_seesDigit_29 (by decide) ?_
    obtain rfl := som1 h
    exact x_iret E hP hS rfl dX8_seesDigit_30
  · have h := (if_neg c1).symm.trans h
    refine lv_aload_n (pc := 11) hx hb dX8_seesDigit_11 rfl (lv_at hl 0 rfl) ?_
    obtain ⟨y2, hy2, h⟩ := bnd_ex h
    refine x_callVi (pc := 12) (st := .ref (ad 0) :: []) (As := []) E hEx hl.1 hP hS (kX8_sees hap  M  _ hy2) gX8_65 hdX8_sees rfl (by decide) sh8 rfl ⟨Nat.le_of_ble_eq_true rfl, Nat.le_of_ble_eq_true rfl⟩ ⟨rfl, rfl⟩ dX8_seesDigit_12 rfl (Nat.le_of_ble_eq_true rfl) (fun H locs hP hS n3 => ?_)
    refine lv_bipush (pc := 15) (v := (48 : Int32)) hx hb dX8_seesDigit_15 (by decide) ?_
    refine lv_bipush (pc := 17) (v := (57 : Int32)) hx hb dX8_seesDigit_17 (by decide) ?_
    refine x_callSi (pc := 19) (st := .int (57 : Int32) :: .int (48 : Int32) :: .int y2 :: []) (As := [.int y2, .int (48 : Int32), .int (57 : Int32)]) E hEx hl.1 hP hS (kX8_in hap  M _ _ _ _ rfl) gX8_30 hsX8_in rfl ⟨Nat.le_of_ble_eq_true rfl, Nat.le_of_ble_eq_true rfl⟩ ⟨rfl, rfl⟩ dX8_seesDigit_19 rfl (Nat.le_of_ble_eq_true rfl) (fun H locs hP hS n4 => ?_)
    refine lv_if_eq (pc := 22) (tgt := 29) hx hb dX8_seesDigit_22 (by decide) (fun c5 => ?_) (fun c5 => ?_)
    · have h := (if_pos c5).symm.trans h
      refine lv_iconst (pc := 29) (v := (0 : Int32)) hx hb dX8_seesDigit_29 (by decide) ?_
      obtain rfl := som1 h
      exact x_iret E hP hS rfl dX8_seesDigit_30
    · have h := (if_neg c5).symm.trans h
      refine lv_iconst (pc := 25) (v := (1 : Int32)) hx hb dX8_seesDigit_25 (by decide) ?_
      refine lv_goto (pc := 26) (tgt := 30) hx hb dX8_seesDigit_26 (by decide) ?_
      obtain rfl := som1 h
      exact x_iret E hP hS rfl dX8_seesDigit_30
set_option maxRecDepth 100000 in
set_option maxHeartbeats 4000000 in
theorem kX8_number (hap : Apart 7 ad)   (M : Mem) (x1 x2 : Int32) (v : Int32) (M' : Mem) (h : fX8_number M x1 x2 = some (v, M')) : RI G ad cA cZ cC yX8_number cX8_number 5 .int ({ frames := 2, cells := 0, slots := 0, locals := 42 } : Room) [.ref (ad 0), .int x1, .int x2] M v M' := by
  refine CI.mk (own := RX8) (ls0 := [(0, .ref (ad 0)), (1, .int x1), (2, .int x2)]) (by decide +kernel) rfl hap (Nat.le_of_ble_eq_true rfl) rfl ?_
  intro p l e s m args below meth c ls E hP hl
  have hx := E.1
  have hb := E.2.1
  have hown := E.2.2.2.2.2.1
  have hts := E.2.2.2.2.2.2.1
  have hEx := ExR.ok 7 ad
  have hS : va_S (AW 7 ad) s.heap s.heap [] := va_S.rf
  have hL5 : ∀ (n : Nat) (M : Mem) (x1 x2 x3 x4 : Int32) (H : Heap) (locs : List Loc) (ls : Array Slot), fX8_number_L5 n M x1 x2 x3 x4 = some (v, M') → va_P G vwCl (WW 7 (shR cA cZ cC ad) ad M) H → va_S (AW 7 ad) s.heap H locs → lv_has ls 5 [(0, .ref (ad 0)), (1, .int x1), (2, .int x2), (3, .int x3), (4, .int x4)] → W p l e ({ frames := 2, cells := 0, slots := 0, locals := 42 } : Room) s m args below meth c H locs 0 0 (QI below G 7 (shR cA cZ cC ad) ad .int args s v M') (F0 m 5 ls []) := by
    intro n
    induction n with
    | zero => intro M x1 x2 x3 x4 H locs ls h; cases h
    | succ n ih =>
      intro M x1 x2 x3 x4 H locs ls h hP hS hl
      rw [fX8_number_L5] at h
      refine lv_aload_n (pc := 5) hx hb dX8_number_5 rfl (lv_at hl 0 rfl) ?_
      refine x_get (pc := 6) (v := .int (bz (M 0 7))) E hP (by decide) sh8 rfl inX8 7 (by decide) q979 rfl dX8_number_6 ?_
      refine lv_if_ne (pc := 9) (tgt := 98) hx hb dX8_number_9 (by decide) (fun c1 => ?_) (fun c1 => ?_)
      · have h := (if_neg c1).symm.trans h
        refine lv_iload_n (pc := 98) hx hb dX8_number_98 rfl (lv_at hl 3 rfl) ?_
        obtain ⟨rfl, rfl⟩ := som2 h
        exact x_iret E hP hS rfl dX8_number_99
      · have h := (if_pos c1).symm.trans h
        refine lv_iload (pc := 12) hx hb dX8_number_12 (lv_at hl 4 rfl) ?_
        refine lv_iload_n (pc := 14) hx hb dX8_number_14 rfl (lv_at hl 2 rfl) ?_
        refine lv_icmp_ge (pc := 15) (tgt := 98) hx hb dX8_number_15 (by decide) (fun c2 => ?_) (fun c2 => ?_)
        · have h := (if_pos c2).symm.trans h
          refine lv_iload_n (pc := 98) hx hb dX8_number_98 rfl (lv_at hl 3 rfl) ?_
          obtain ⟨rfl, rfl⟩ := som2 h
          exact x_iret E hP hS rfl dX8_number_99
        · have h := (if_neg c2).symm.trans h
          refine lv_iload (pc := 18) hx hb dX8_number_18 (lv_at hl 4 rfl) ?_
          refine lv_iload_n (pc := 20) hx hb dX8_number_20 rfl (lv_at hl 1 rfl) ?_
          refine lv_icmp_lt (pc := 21) (tgt := 31) hx hb dX8_number_21 (by decide) (fun c3 => ?_) (fun c3 => ?_)
          · have h := (if_pos c3).symm.trans h
            refine lv_aload_n (pc := 31) hx hb dX8_number_31 rfl (lv_at hl 0 rfl) ?_
            refine lv_aload_n (pc := 32) hx hb dX8_number_32 rfl (lv_at hl 0 rfl) ?_
            obtain ⟨y4, hy4, h⟩ := bnd_ex h
            refine x_callVi (pc := 33) (st := .ref (ad 0) :: .ref (ad 0) :: []) (As := []) E hEx hl.1 hP hS (kX8_seesDigit hap  M  _ hy4) gX8_69 hdX8_seesDigit rfl (by decide) sh8 rfl ⟨Nat.le_of_ble_eq_true rfl, Nat.le_of_ble_eq_true rfl⟩ ⟨rfl, rfl⟩ dX8_number_33 rfl (Nat.le_of_ble_eq_true rfl) (fun H locs hP hS n5 => ?_)
            refine lv_if_ne (pc := 36) (tgt := 43) hx hb dX8_number_36 (by decide) (fun c6 => ?_) (fun c6 => ?_)
            · have h := (if_neg c6).symm.trans h
              refine lv_iconst (pc := 43) (v := (0 : Int32)) hx hb dX8_number_43 (by decide) ?_
              obtain ⟨M7, hM7, h⟩ := thn_ex h
              refine x_put (pc := 44) (v := (0 : Int32)) E hP hS (by decide) sh8 tyX8 tyX8_ok nmX8 rfl inX8 7 (by decide) q979 rfl rfl rfl (Nat.le_of_ble_eq_true rfl) (by simp [upd, bz0, bz1]) dX8_number_44 (fun H locs hP hS => ?_)
              rw [hM7] at hP
              refine lv_bipush (pc := 47) (v := (10 : Int32)) hx hb dX8_number_47 (by decide) ?_
              refine lv_iload_n (pc := 49) hx hb dX8_number_49 rfl (lv_at hl 3 rfl) ?_
              refine lv_imul (pc := 50) hx hb dX8_number_50 ?_
              refine lv_aload_n (pc := 51) hx hb dX8_number_51 rfl (lv_at hl 0 rfl) ?_
              refine x_get (pc := 52) (v := .int (bz (M7 0 7))) E hP (by decide) sh8 rfl inX8 7 (by decide) q979 rfl dX8_number_52 ?_
              refine lv_if_eq (pc := 55) (tgt := 62) hx hb dX8_number_55 (by decide) (fun c8 => ?_) (fun c8 => ?_)
              · have h := (if_pos c8).symm.trans h
                refine lv_aload_n (pc := 62) hx hb dX8_number_62 rfl (lv_at hl 0 rfl) ?_
                obtain ⟨y9, hy9, h⟩ := bnd_ex h
                refine x_callVi (pc := 63) (st := .ref (ad 0) :: .int ((10 : Int32) * x3) :: []) (As := []) E hEx hl.1 hP hS (kX8_sees hap  M7  _ hy9) gX8_65 hdX8_sees rfl (by decide) sh8 rfl ⟨Nat.le_of_ble_eq_true rfl, Nat.le_of_ble_eq_true rfl⟩ ⟨rfl, rfl⟩ dX8_number_63 rfl (Nat.le_of_ble_eq_true rfl) (fun H locs hP hS n10 => ?_)
                refine lv_bipush (pc := 66) (v := (48 : Int32)) hx hb dX8_number_66 (by decide) ?_
                refine lv_isub (pc := 68) hx hb dX8_number_68 ?_
                refine lv_iadd (pc := 69) hx hb dX8_number_69 ?_
                obtain ⟨y11, hy11, h⟩ := thn_ex h
                refine W.eq (g2 := F0 m 70 ls (.int y11 :: [])) (by rw [← hy11]) ?_
                refine lv_istore_n (pc := 70) (lv' := [(3, .int y11), (0, .ref (ad 0)), (1, .int x1), (2, .int x2), (4, .int x4)]) hx hb dX8_number_70 rfl hl (by decide) rfl (fun ls hl => ?_)
                refine lv_aload_n (pc := 71) hx hb dX8_number_71 rfl (lv_at hl 1 rfl) ?_
                refine lv_dup (pc := 72) hx hb dX8_number_72 rfl ?_
                refine x_get (pc := 73) (v := .int (M7 0 6)) E hP (by decide) sh8 rfl inX8 6 (by decide) q978 rfl dX8_number_73 ?_
                refine lv_aload_n (pc := 76) hx hb dX8_number_76 rfl (lv_at hl 1 rfl) ?_
                refine x_get (pc := 77) (v := .int (bz (M7 0 7))) E hP (by decide) sh8 rfl inX8 7 (by decide) q979 rfl dX8_number_77 ?_
                refine lv_if_eq (pc := 80) (tgt := 87) hx hb dX8_number_80 (by decide) (fun c12 => ?_) (fun c12 => ?_)
                · have h := (if_pos c12).symm.trans h
                  refine lv_iconst (pc := 87) (v := (1 : Int32)) hx hb dX8_number_87 (by decide) ?_
                  refine lv_iadd (pc := 88) hx hb dX8_number_88 ?_
                  obtain ⟨M13, hM13, h⟩ := thn_ex h
                  refine x_put (pc := 89) (v := ((M7 0 6) + (1 : Int32))) E hP hS (by decide) sh8 tyX8 tyX8_ok nmX8 rfl inX8 6 (by decide) q978 rfl rfl rfl (Nat.le_of_ble_eq_true rfl) rfl dX8_number_89 (fun H locs hP hS => ?_)
                  rw [hM13] at hP
                  refine lv_iinc (pc := 92) (v := (x4 + 1)) (lv' := [(4, .int (x4 + 1)), (3, .int y11), (0, .ref (ad 0)), (1, .int x1), (2, .int x2)]) hx hb dX8_number_92 hl (k := 4) rfl rfl (by decide) rfl (fun ls hl => ?_)
                  refine lv_goto (pc := 95) (tgt := 5) hx hb dX8_number_95 (by decide) ?_
                  exact ih M13 x1 x2 y11 (x4 + 1) _ _ _ h hP hS (lv_sub hl [2, 3, 4, 1, 0] rfl)
                · have h := (if_neg c12).symm.trans h
                  refine lv_iconst (pc := 83) (v := (0 : Int32)) hx hb dX8_number_83 (by decide) ?_
                  refine lv_goto (pc := 84) (tgt := 88) hx hb dX8_number_84 (by decide) ?_
                  refine lv_iadd (pc := 88) hx hb dX8_number_88 ?_
                  obtain ⟨M14, hM14, h⟩ := thn_ex h
                  refine x_put (pc := 89) (v := ((M7 0 6) + (0 : Int32))) E hP hS (by decide) sh8 tyX8 tyX8_ok nmX8 rfl inX8 6 (by decide) q978 rfl rfl rfl (Nat.le_of_ble_eq_true rfl) rfl dX8_number_89 (fun H locs hP hS => ?_)
                  rw [hM14] at hP
                  refine lv_iinc (pc := 92) (v := (x4 + 1)) (lv' := [(4, .int (x4 + 1)), (3, .int y11), (0, .ref (ad 0)), (1, .int x1), (2, .int x2)]) hx hb dX8_number_92 hl (k := 4) rfl rfl (by decide) rfl (fun ls hl => ?_)
                  refine lv_goto (pc := 95) (tgt := 5) hx hb dX8_number_95 (by decide) ?_
                  exact ih M14 x1 x2 y11 (x4 + 1) _ _ _ h hP hS (lv_sub hl [2, 3, 4, 1, 0] rfl)
              · have h := (if_neg c8).symm.trans h
                refine lv_iconst (pc := 58) (v := (0 : Int32)) hx hb dX8_number_58 (by decide) ?_
                refine lv_goto (pc := 59) (tgt := 69) hx hb dX8_number_59 (by decide) ?_
                refine lv_iadd (pc := 69) hx hb dX8_number_69 ?_
                obtain ⟨y15, hy15, h⟩ := thn_ex h
                refine W.eq (g2 := F0 m 70 ls (.int y15 :: [])) (by rw [← hy15]) ?_
                refine lv_istore_n (pc := 70) (lv' := [(3, .int y15), (0, .ref (ad 0)), (1, .int x1), (2, .int x2), (4, .int x4)]) hx hb dX8_number_70 rfl hl (by decide) rfl (fun ls hl => ?_)
                refine lv_aload_n (pc := 71) hx hb dX8_number_71 rfl (lv_at hl 1 rfl) ?_
                refine lv_dup (pc := 72) hx hb dX8_number_72 rfl ?_
                refine x_get (pc := 73) (v := .int (M7 0 6)) E hP (by decide) sh8 rfl inX8 6 (by decide) q978 rfl dX8_number_73 ?_
                refine lv_aload_n (pc := 76) hx hb dX8_number_76 rfl (lv_at hl 1 rfl) ?_
                refine x_get (pc := 77) (v := .int (bz (M7 0 7))) E hP (by decide) sh8 rfl inX8 7 (by decide) q979 rfl dX8_number_77 ?_
                refine lv_if_eq (pc := 80) (tgt := 87) hx hb dX8_number_80 (by decide) (fun c16 => ?_) (fun c16 => ?_)
                · have h := (if_pos c16).symm.trans h
                  refine lv_iconst (pc := 87) (v := (1 : Int32)) hx hb dX8_number_87 (by decide) ?_
                  refine lv_iadd (pc := 88) hx hb dX8_number_88 ?_
                  obtain ⟨M17, hM17, h⟩ := thn_ex h
                  refine x_put (pc := 89) (v := ((M7 0 6) + (1 : Int32))) E hP hS (by decide) sh8 tyX8 tyX8_ok nmX8 rfl inX8 6 (by decide) q978 rfl rfl rfl (Nat.le_of_ble_eq_true rfl) rfl dX8_number_89 (fun H locs hP hS => ?_)
                  rw [hM17] at hP
                  refine lv_iinc (pc := 92) (v := (x4 + 1)) (lv' := [(4, .int (x4 + 1)), (3, .int y15), (0, .ref (ad 0)), (1, .int x1), (2, .int x2)]) hx hb dX8_number_92 hl (k := 4) rfl rfl (by decide) rfl (fun ls hl => ?_)
                  refine lv_goto (pc := 95) (tgt := 5) hx hb dX8_number_95 (by decide) ?_
                  exact ih M17 x1 x2 y15 (x4 + 1) _ _ _ h hP hS (lv_sub hl [2, 3, 4, 1, 0] rfl)
                · have h := (if_neg c16).symm.trans h
                  refine lv_iconst (pc := 83) (v := (0 : Int32)) hx hb dX8_number_83 (by decide) ?_
                  refine lv_goto (pc := 84) (tgt := 88) hx hb dX8_number_84 (by decide) ?_
                  refine lv_iadd (pc := 88) hx hb dX8_number_88 ?_
                  obtain ⟨M18, hM18, h⟩ := thn_ex h
                  refine x_put (pc := 89) (v := ((M7 0 6) + (0 : Int32))) E hP hS (by decide) sh8 tyX8 tyX8_ok nmX8 rfl inX8 6 (by decide) q978 rfl rfl rfl (Nat.le_of_ble_eq_true rfl) rfl dX8_number_89 (fun H locs hP hS => ?_)
                  rw [hM18] at hP
                  refine lv_iinc (pc := 92) (v := (x4 + 1)) (lv' := [(4, .int (x4 + 1)), (3, .int y15), (0, .ref (ad 0)), (1, .int x1), (2, .int x2)]) hx hb dX8_number_92 hl (k := 4) rfl rfl (by decide) rfl (fun ls hl => ?_)
                  refine lv_goto (pc := 95) (tgt := 5) hx hb dX8_number_95 (by decide) ?_
                  exact ih M18 x1 x2 y15 (x4 + 1) _ _ _ h hP hS (lv_sub hl [2, 3, 4, 1, 0] rfl)
            · have h := (if_pos c6).symm.trans h
              refine lv_iconst (pc := 39) (v := (1 : Int32)) hx hb dX8_number_39 (by decide) ?_
              refine lv_goto (pc := 40) (tgt := 44) hx hb dX8_number_40 (by decide) ?_
              obtain ⟨M19, hM19, h⟩ := thn_ex h
              refine x_put (pc := 44) (v := (1 : Int32)) E hP hS (by decide) sh8 tyX8 tyX8_ok nmX8 rfl inX8 7 (by decide) q979 rfl rfl rfl (Nat.le_of_ble_eq_true rfl) (by simp [upd, bz0, bz1]) dX8_number_44 (fun H locs hP hS => ?_)
              rw [hM19] at hP
              refine lv_bipush (pc := 47) (v := (10 : Int32)) hx hb dX8_number_47 (by decide) ?_
              refine lv_iload_n (pc := 49) hx hb dX8_number_49 rfl (lv_at hl 3 rfl) ?_
              refine lv_imul (pc := 50) hx hb dX8_number_50 ?_
              refine lv_aload_n (pc := 51) hx hb dX8_number_51 rfl (lv_at hl 0 rfl) ?_
              refine x_get (pc := 52) (v := .int (bz (M19 0 7))) E hP (by decide) sh8 rfl inX8 7 (by decide) q979 rfl dX8_number_52 ?_
              refine lv_if_eq (pc := 55) (tgt := 62) hx hb dX8_number_55 (by decide) (fun c20 => ?_) (fun c20 => ?_)
              · have h := (if_pos c20).symm.trans h
                refine lv_aload_n (pc := 62) hx hb dX8_number_62 rfl (lv_at hl 0 rfl) ?_
                obtain ⟨y21, hy21, h⟩ := bnd_ex h
                refine x_callVi (pc := 63) (st := .ref (ad 0) :: .int ((10 : Int32) * x3) :: []) (As := []) E hEx hl.1 hP hS (kX8_sees hap  M19  _ hy21) gX8_65 hdX8_sees rfl (by decide) sh8 rfl ⟨Nat.le_of_ble_eq_true rfl, Nat.le_of_ble_eq_true rfl⟩ ⟨rfl, rfl⟩ dX8_number_63 rfl (Nat.le_of_ble_eq_true rfl) (fun H locs hP hS n22 => ?_)
                refine lv_bipush (pc := 66) (v := (48 : Int32)) hx hb dX8_number_66 (by decide) ?_
                refine lv_isub (pc := 68) hx hb dX8_number_68 ?_
                refine lv_iadd (pc := 69) hx hb dX8_number_69 ?_
                obtain ⟨y23, hy23, h⟩ := thn_ex h
                refine W.eq (g2 := F0 m 70 ls (.int y23 :: [])) (by rw [← hy23]) ?_
                refine lv_istore_n (pc := 70) (lv' := [(3, .int y23), (0, .ref (ad 0)), (1, .int x1), (2, .int x2), (4, .int x4)]) hx hb dX8_number_70 rfl hl (by decide) rfl (fun ls hl => ?_)
                refine lv_aload_n (pc := 71) hx hb dX8_number_71 rfl (lv_at hl 1 rfl) ?_
                refine lv_dup (pc := 72) hx hb dX8_number_72 rfl ?_
                refine x_get (pc := 73) (v := .int (M19 0 6)) E hP (by decide) sh8 rfl inX8 6 (by decide) q978 rfl dX8_number_73 ?_
                refine lv_aload_n (pc := 76) hx hb dX8_number_76 rfl (lv_at hl 1 rfl) ?_
                refine x_get (pc := 77) (v := .int (bz (M19 0 7))) E hP (by decide) sh8 rfl inX8 7 (by decide) q979 rfl dX8_number_77 ?_
                refine lv_if_eq (pc := 80) (tgt := 87) hx hb dX8_number_80 (by decide) (fun c24 => ?_) (fun c24 => ?_)
                · have h := (if_pos c24).symm.trans h
                  refine lv_iconst (pc := 87) (v := (1 : Int32)) hx hb dX8_number_87 (by decide) ?_
                  refine lv_iadd (pc := 88) hx hb dX8_number_88 ?_
                  obtain ⟨M25, hM25, h⟩ := thn_ex h
                  refine x_put (pc := 89) (v := ((M19 0 6) + (1 : Int32))) E hP hS (by decide) sh8 tyX8 tyX8_ok nmX8 rfl inX8 6 (by decide) q978 rfl rfl rfl (Nat.le_of_ble_eq_true rfl) rfl dX8_number_89 (fun H locs hP hS => ?_)
                  rw [hM25] at hP
                  refine lv_iinc (pc := 92) (v := (x4 + 1)) (lv' := [(4, .int (x4 + 1)), (3, .int y23), (0, .ref (ad 0)), (1, .int x1), (2, .int x2)]) hx hb dX8_number_92 hl (k := 4) rfl rfl (by decide) rfl (fun ls hl => ?_)
                  refine lv_goto (pc := 95) (tgt := 5) hx hb dX8_number_95 (by decide) ?_
                  exact ih M25 x1 x2 y23 (x4 + 1) _ _ _ h hP hS (lv_sub hl [2, 3, 4, 1, 0] rfl)
                · have h := (if_neg c24).symm.trans h
                  refine lv_iconst (pc := 83) (v := (0 : Int32)) hx hb dX8_number_83 (by decide) ?_
                  refine lv_goto (pc := 84) (tgt := 88) hx hb dX8_number_84 (by decide) ?_
                  refine lv_iadd (pc := 88) hx hb dX8_number_88 ?_
                  obtain ⟨M26, hM26, h⟩ := thn_ex h
                  refine x_put (pc := 89) (v := ((M19 0 6) + (0 : Int32))) E hP hS (by decide) sh8 tyX8 tyX8_ok nmX8 rfl inX8 6 (by decide) q978 rfl rfl rfl (Nat.le_of_ble_eq_true rfl) rfl dX8_number_89 (fun H locs hP hS => ?_)
                  rw [hM26] at hP
                  refine lv_iinc (pc := 92) (v := (x4 + 1)) (lv' := [(4, .int (x4 + 1)), (3, .int y23), (0, .ref (ad 0)), (1, .int x1), (2, .int x2)]) hx hb dX8_number_92 hl (k := 4) rfl rfl (by decide) rfl (fun ls hl => ?_)
                  refine lv_goto (pc := 95) (tgt := 5) hx hb dX8_number_95 (by decide) ?_
                  exact ih M26 x1 x2 y23 (x4 + 1) _ _ _ h hP hS (lv_sub hl [2, 3, 4, 1, 0] rfl)
              · have h := (if_neg c20).symm.trans h
                refine lv_iconst (pc := 58) (v := (0 : Int32)) hx hb dX8_number_58 (by decide) ?_
                refine lv_goto (pc := 59) (tgt := 69) hx hb dX8_number_59 (by decide) ?_
                refine lv_iadd (pc := 69) hx hb dX8_number_69 ?_
                obtain ⟨y27, hy27, h⟩ := thn_ex h
                refine W.eq (g2 := F0 m 70 ls (.int y27 :: [])) (by rw [← hy27]) ?_
                refine lv_istore_n (pc := 70) (lv' := [(3, .int y27), (0, .ref (ad 0)), (1, .int x1), (2, .int x2), (4, .int x4)]) hx hb dX8_number_70 rfl hl (by decide) rfl (fun ls hl => ?_)
                refine lv_aload_n (pc := 71) hx hb dX8_number_71 rfl (lv_at hl 1 rfl) ?_
                refine lv_dup (pc := 72) hx hb dX8_number_72 rfl ?_
                refine x_get (pc := 73) (v := .int (M19 0 6)) E hP (by decide) sh8 rfl inX8 6 (by decide) q978 rfl dX8_number_73 ?_
                refine lv_aload_n (pc := 76) hx hb dX8_number_76 rfl (lv_at hl 1 rfl) ?_
                refine x_get (pc := 77) (v := .int (bz (M19 0 7))) E hP (by decide) sh8 rfl inX8 7 (by decide) q979 rfl dX8_number_77 ?_
                refine lv_if_eq (pc := 80) (tgt := 87) hx hb dX8_number_80 (by decide) (fun c28 => ?_) (fun c28 => ?_)
                · have h := (if_pos c28).symm.trans h
                  refine lv_iconst (pc := 87) (v := (1 : Int32)) hx hb dX8_number_87 (by decide) ?_
                  refine lv_iadd (pc := 88) hx hb dX8_number_88 ?_
                  obtain ⟨M29, hM29, h⟩ := thn_ex h
                  refine x_put (pc := 89) (v := ((M19 0 6) + (1 : Int32))) E hP hS (by decide) sh8 tyX8 tyX8_ok nmX8 rfl inX8 6 (by decide) q978 rfl rfl rfl (Nat.le_of_ble_eq_true rfl) rfl dX8_number_89 (fun H locs hP hS => ?_)
                  rw [hM29] at hP
                  refine lv_iinc (pc := 92) (v := (x4 + 1)) (lv' := [(4, .int (x4 + 1)), (3, .int y27), (0, .ref (ad 0)), (1, .int x1), (2, .int x2)]) hx hb dX8_number_92 hl (k := 4) rfl rfl (by decide) rfl (fun ls hl => ?_)
                  refine lv_goto (pc := 95) (tgt := 5) hx hb dX8_number_95 (by decide) ?_
                  exact ih M29 x1 x2 y27 (x4 + 1) _ _ _ h hP hS (lv_sub hl [2, 3, 4, 1, 0] rfl)
                · have h := (if_neg c28).symm.trans h
                  refine lv_iconst (pc := 83) (v := (0 : Int32)) hx hb dX8_number_83 (by decide) ?_
                  refine lv_goto (pc := 84) (tgt := 88) hx hb dX8_number_84 (by decide) ?_
                  refine lv_iadd (pc := 88) hx hb dX8_number_88 ?_
                  obtain ⟨M30, hM30, h⟩ := thn_ex h
                  refine x_put (pc := 89) (v := ((M19 0 6) + (0 : Int32))) E hP hS (by decide) sh8 tyX8 tyX8_ok nmX8 rfl inX8 6 (by decide) q978 rfl rfl rfl (Nat.le_of_ble_eq_true rfl) rfl dX8_number_89 (fun H locs hP hS => ?_)
                  rw [hM30] at hP
                  refine lv_iinc (pc := 92) (v := (x4 + 1)) (lv' := [(4, .int (x4 + 1)), (3, .int y27), (0, .ref (ad 0)), (1, .int x1), (2, .int x2)]) hx hb dX8_number_92 hl (k := 4) rfl rfl (by decide) rfl (fun ls hl => ?_)
                  refine lv_goto (pc := 95) (tgt := 5) hx hb dX8_number_95 (by decide) ?_
                  exact ih M30 x1 x2 y27 (x4 + 1) _ _ _ h hP hS (lv_sub hl [2, 3, 4, 1, 0] rfl)
          · have h := (if_neg c3).symm.trans h
            refine lv_aload_n (pc := 24) hx hb dX8_number_24 rfl (lv_at hl 0 rfl) ?_
            obtain ⟨y31, hy31, h⟩ := bnd_ex h
            refine x_callVi (pc := 25) (st := .ref (ad 0) :: []) (As := []) E hEx hl.1 hP hS (kX8_seesDigit hap  M  _ hy31) gX8_69 hdX8_seesDigit rfl (by decide) sh8 rfl ⟨Nat.le_of_ble_eq_true rfl, Nat.le_of_ble_eq_true rfl⟩ ⟨rfl, rfl⟩ dX8_number_25 rfl (Nat.le_of_ble_eq_true rfl) (fun H locs hP hS n32 => ?_)
            refine lv_if_eq (pc := 28) (tgt := 98) hx hb dX8_number_28 (by decide) (fun c33 => ?_) (fun c33 => ?_)
            · have h := (if_pos c33).symm.trans h
              refine lv_iload_n (pc := 98) hx hb dX8_number_98 rfl (lv_at hl 3 rfl) ?_
              obtain ⟨rfl, rfl⟩ := som2 h
              exact x_iret E hP hS rfl dX8_number_99
            · have h := (if_neg c33).symm.trans h
              refine lv_aload_n (pc := 31) hx hb dX8_number_31 rfl (lv_at hl 0 rfl) ?_
              refine lv_aload_n (pc := 32) hx hb dX8_number_32 rfl (lv_at hl 0 rfl) ?_
              obtain ⟨y34, hy34, h⟩ := bnd_ex h
              refine x_callVi (pc := 33) (st := .ref (ad 0) :: .ref (ad 0) :: []) (As := []) E hEx hl.1 hP hS (kX8_seesDigit hap  M  _ hy34) gX8_69 hdX8_seesDigit rfl (by decide) sh8 rfl ⟨Nat.le_of_ble_eq_true rfl, Nat.le_of_ble_eq_true rfl⟩ ⟨rfl, rfl⟩ dX8_number_33 rfl (Nat.le_of_ble_eq_true rfl) (fun H locs hP hS n35 => ?_)
              refine lv_if_ne (pc := 36) (tgt := 43) hx hb dX8_number_36 (by decide) (fun c36 => ?_) (fun c36 => ?_)
              · have h := (if_neg c36).symm.trans h
                refine lv_iconst (pc := 43) (v := (0 : Int32)) hx hb dX8_number_43 (by decide) ?_
                obtain ⟨M37, hM37, h⟩ := thn_ex h
                refine x_put (pc := 44) (v := (0 : Int32)) E hP hS (by decide) sh8 tyX8 tyX8_ok nmX8 rfl inX8 7 (by decide) q979 rfl rfl rfl (Nat.le_of_ble_eq_true rfl) (by simp [upd, bz0, bz1]) dX8_number_44 (fun H locs hP hS => ?_)
                rw [hM37] at hP
                refine lv_bipush (pc := 47) (v := (10 : Int32)) hx hb dX8_number_47 (by decide) ?_
                refine lv_iload_n (pc := 49) hx hb dX8_number_49 rfl (lv_at hl 3 rfl) ?_
                refine lv_imul (pc := 50) hx hb dX8_number_50 ?_
                refine lv_aload_n (pc := 51) hx hb dX8_number_51 rfl (lv_at hl 0 rfl) ?_
                refine x_get (pc := 52) (v := .int (bz (M37 0 7))) E hP (by decide) sh8 rfl inX8 7 (by decide) q979 rfl dX8_number_52 ?_
                refine lv_if_eq (pc := 55) (tgt := 62) hx hb dX8_number_55 (by decide) (fun c38 => ?_) (fun c38 => ?_)
                · have h := (if_pos c38).symm.trans h
                  refine lv_aload_n (pc := 62) hx hb dX8_number_62 rfl (lv_at hl 0 rfl) ?_
                  obtain ⟨y39, hy39, h⟩ := bnd_ex h
                  refine x_callVi (pc := 63) (st := .ref (ad 0) :: .int ((10 : Int32) * x3) :: []) (As := []) E hEx hl.1 hP hS (kX8_sees hap  M37  _ hy39) gX8_65 hdX8_sees rfl (by decide) sh8 rfl ⟨Nat.le_of_ble_eq_true rfl, Nat.le_of_ble_eq_true rfl⟩ ⟨rfl, rfl⟩ dX8_number_63 rfl (Nat.le_of_ble_eq_true rfl) (fun H locs hP hS n40 => ?_)
                  refine lv_bipush (pc := 66) (v := (48 : Int32)) hx hb dX8_number_66 (by decide) ?_
                  refine lv_isub (pc := 68) hx hb dX8_number_68 ?_
                  refine lv_iadd (pc := 69) hx hb dX8_number_69 ?_
                  obtain ⟨y41, hy41, h⟩ := thn_ex h
                  refine W.eq (g2 := F0 m 70 ls (.int y41 :: [])) (by rw [← hy41]) ?_
                  refine lv_istore_n (pc := 70) (lv' := [(3, .int y41), (0, .ref (ad 0)), (1, .int x1), (2, .int x2), (4, .int x4)]) hx hb dX8_number_70 rfl hl (by decide) rfl (fun ls hl => ?_)
                  refine lv_aload_n (pc := 71) hx hb dX8_number_71 rfl (lv_at hl 1 rfl) ?_
                  refine lv_dup (pc := 72) hx hb dX8_number_72 rfl ?_
                  refine x_get (pc := 73) (v := .int (M37 0 6)) E hP (by decide) sh8 rfl inX8 6 (by decide) q978 rfl dX8_number_73 ?_
                  refine lv_aload_n (pc := 76) hx hb dX8_number_76 rfl (lv_at hl 1 rfl) ?_
                  refine x_get (pc := 77) (v := .int (bz (M37 0 7))) E hP (by decide) sh8 rfl inX8 7 (by decide) q979 rfl dX8_number_77 ?_
                  refine lv_if_eq (pc := 80) (tgt := 87) hx hb dX8_number_80 (by decide) (fun c42 => ?_) (fun c42 => ?_)
                  · have h := (if_pos c42).symm.trans h
                    refine lv_iconst (pc := 87) (v := (1 : Int32)) hx hb dX8_number_87 (by decide) ?_
                    refine lv_iadd (pc := 88) hx hb dX8_number_88 ?_
                    obtain ⟨M43, hM43, h⟩ := thn_ex h
                    refine x_put (pc := 89) (v := ((M37 0 6) + (1 : Int32))) E hP hS (by decide) sh8 tyX8 tyX8_ok nmX8 rfl inX8 6 (by decide) q978 rfl rfl rfl (Nat.le_of_ble_eq_true rfl) rfl dX8_number_89 (fun H locs hP hS => ?_)
                    rw [hM43] at hP
                    refine lv_iinc (pc := 92) (v := (x4 + 1)) (lv' := [(4, .int (x4 + 1)), (3, .int y41), (0, .ref (ad 0)), (1, .int x1), (2, .int x2)]) hx hb dX8_number_92 hl (k := 4) rfl rfl (by decide) rfl (fun ls hl => ?_)
                    refine lv_goto (pc := 95) (tgt := 5) hx hb dX8_number_95 (by decide) ?_
                    exact ih M43 x1 x2 y41 (x4 + 1) _ _ _ h hP hS (lv_sub hl [2, 3, 4, 1, 0] rfl)
                  · have h := (if_neg c42).symm.trans h
                    refine lv_iconst (pc := 83) (v := (0 : Int32)) hx hb dX8_number_83 (by decide) ?_
                    refine lv_goto (pc := 84) (tgt := 88) hx hb dX8_number_84 (by decide) ?_
                    refine lv_iadd (pc := 88) hx hb dX8_number_88 ?_
                    obtain ⟨M44, hM44, h⟩ := thn_ex h
                    refine x_put (pc := 89) (v := ((M37 0 6) + (0 : Int32))) E hP hS (by decide) sh8 tyX8 tyX8_ok nmX8 rfl inX8 6 (by decide) q978 rfl rfl rfl (Nat.le_of_ble_eq_true rfl) rfl dX8_number_89 (fun H locs hP hS => ?_)
                    rw [hM44] at hP
                    refine lv_iinc (pc := 92) (v := (x4 + 1)) (lv' := [(4, .int (x4 + 1)), (3, .int y41), (0, .ref (ad 0)), (1, .int x1), (2, .int x2)]) hx hb dX8_number_92 hl (k := 4) rfl rfl (by decide) rfl (fun ls hl => ?_)
                    refine lv_goto (pc := 95) (tgt := 5) hx hb dX8_number_95 (by decide) ?_
                    exact ih M44 x1 x2 y41 (x4 + 1) _ _ _ h hP hS (lv_sub hl [2, 3, 4, 1, 0] rfl)
                · have h := (if_neg c38).symm.trans h
                  refine lv_iconst (pc := 58) (v := (0 : Int32)) hx hb dX8_number_58 (by decide) ?_
                  refine lv_goto (pc := 59) (tgt := 69) hx hb dX8_number_59 (by decide) ?_
                  refine lv_iadd (pc := 69) hx hb dX8_number_69 ?_
                  obtain ⟨y45, hy45, h⟩ := thn_ex h
                  refine W.eq (g2 := F0 m 70 ls (.int y45 :: [])) (by rw [← hy45]) ?_
                  refine lv_istore_n (pc := 70) (lv' := [(3, .int y45), (0, .ref (ad 0)), (1, .int x1), (2, .int x2), (4, .int x4)]) hx hb dX8_number_70 rfl hl (by decide) rfl (fun ls hl => ?_)
                  refine lv_aload_n (pc := 71) hx hb dX8_number_71 rfl (lv_at hl 1 rfl) ?_
                  refine lv_dup (pc := 72) hx hb dX8_number_72 rfl ?_
                  refine x_get (pc := 73) (v := .int (M37 0 6)) E hP (by decide) sh8 rfl inX8 6 (by decide) q978 rfl dX8_number_73 ?_
                  refine lv_aload_n (pc := 76) hx hb dX8_number_76 rfl (lv_at hl 1 rfl) ?_
                  refine x_get (pc := 77) (v := .int (bz (M37 0 7))) E hP (by decide) sh8 rfl inX8 7 (by decide) q979 rfl dX8_number_77 ?_
                  refine lv_if_eq (pc := 80) (tgt := 87) hx hb dX8_number_80 (by decide) (fun c46 => ?_) (fun c46 => ?_)
                  · have h := (if_pos c46).symm.trans h
                    refine lv_iconst (pc := 87) (v := (1 : Int32)) hx hb dX8_number_87 (by decide) ?_
                    refine lv_iadd (pc := 88) hx hb dX8_number_88 ?_
                    obtain ⟨M47, hM47, h⟩ := thn_ex h
                    refine x_put (pc := 89) (v := ((M37 0 6) + (1 : Int32))) E hP hS (by decide) sh8 tyX8 tyX8_ok nmX8 rfl inX8 6 (by decide) q978 rfl rfl rfl (Nat.le_of_ble_eq_true rfl) rfl dX8_number_89 (fun H locs hP hS => ?_)
                    rw [hM47] at hP
                    refine lv_iinc (pc := 92) (v := (x4 + 1)) (lv' := [(4, .int (x4 + 1)), (3, .int y45), (0, .ref (ad 0)), (1, .int x1), (2, .int x2)]) hx hb dX8_number_92 hl (k := 4) rfl rfl (by decide) rfl (fun ls hl => ?_)
                    refine lv_goto (pc := 95) (tgt := 5) hx hb dX8_number_95 (by decide) ?_
                    exact ih M47 x1 x2 y45 (x4 + 1) _ _ _ h hP hS (lv_sub hl [2, 3, 4, 1, 0] rfl)
                  · have h := (if_neg c46).symm.trans h
                    refine lv_iconst (pc := 83) (v := (0 : Int32)) hx hb dX8_number_83 (by decide) ?_
                    refine lv_goto (pc := 84) (tgt := 88) hx hb dX8_number_84 (by decide) ?_
                    refine lv_iadd (pc := 88) hx hb dX8_number_88 ?_
                    obtain ⟨M48, hM48, h⟩ := thn_ex h
                    refine x_put (pc := 89) (v := ((M37 0 6) + (0 : Int32))) E hP hS (by decide) sh8 tyX8 tyX8_ok nmX8 rfl inX8 6 (by decide) q978 rfl rfl rfl (Nat.le_of_ble_eq_true rfl) rfl dX8_number_89 (fun H locs hP hS => ?_)
                    rw [hM48] at hP
                    refine lv_iinc (pc := 92) (v := (x4 + 1)) (lv' := [(4, .int (x4 + 1)), (3, .int y45), (0, .ref (ad 0)), (1, .int x1), (2, .int x2)]) hx hb dX8_number_92 hl (k := 4) rfl rfl (by decide) rfl (fun ls hl => ?_)
                    refine lv_goto (pc := 95) (tgt := 5) hx hb dX8_number_95 (by decide) ?_
                    exact ih M48 x1 x2 y45 (x4 + 1) _ _ _ h hP hS (lv_sub hl [2, 3, 4, 1, 0] rfl)
              · have h := (if_pos c36).symm.trans h
                refine lv_iconst (pc := 39) (v := (1 : Int32)) hx hb dX8_number_39 (by decide) ?_
                refine lv_goto (pc := 40) (tgt := 44) hx hb dX8_number_40 (by decide) ?_
                obtain ⟨M49, hM49, h⟩ := thn_ex h
                refine x_put (pc := 44) (v := (1 : Int32)) E hP hS (by decide) sh8 tyX8 tyX8_ok nmX8 rfl inX8 7 (by decide) q979 rfl rfl rfl (Nat.le_of_ble_eq_true rfl) (by simp [upd, bz0, bz1]) dX8_number_44 (fun H locs hP hS => ?_)
                rw [hM49] at hP
                refine lv_bipush (pc := 47) (v := (10 : Int32)) hx hb dX8_number_47 (by decide) ?_
                refine lv_iload_n (pc := 49) hx hb dX8_number_49 rfl (lv_at hl 3 rfl) ?_
                refine lv_imul (pc := 50) hx hb dX8_number_50 ?_
                refine lv_aload_n (pc := 51) hx hb dX8_number_51 rfl (lv_at hl 0 rfl) ?_
                refine x_get (pc := 52) (v := .int (bz (M49 0 7))) E hP (by decide) sh8 rfl inX8 7 (by decide) q979 rfl dX8_number_52 ?_
                refine lv_if_eq (pc := 55) (tgt := 62) hx hb dX8_number_55 (by decide) (fun c50 => ?_) (fun c50 => ?_)
                · have h := (if_pos c50).symm.trans h
                  refine lv_aload_n (pc := 62) hx hb dX8_number_62 rfl (lv_at hl 0 rfl) ?_
                  obtain ⟨y51, hy51, h⟩ := bnd_ex h
                  refine x_callVi (pc := 63) (st := .ref (ad 0) :: .int ((10 : Int32) * x3) :: []) (As := []) E hEx hl.1 hP hS (kX8_sees hap  M49  _ hy51) gX8_65 hdX8_sees rfl (by decide) sh8 rfl ⟨Nat.le_of_ble_eq_true rfl, Nat.le_of_ble_eq_true rfl⟩ ⟨rfl, rfl⟩ dX8_number_63 rfl (Nat.le_of_ble_eq_true rfl) (fun H locs hP hS n52 => ?_)
                  refine lv_bipush (pc := 66) (v := (48 : Int32)) hx hb dX8_number_66 (by decide) ?_
                  refine lv_isub (pc := 68) hx hb dX8_number_68 ?_
                  refine lv_iadd (pc := 69) hx hb dX8_number_69 ?_
                  obtain ⟨y53, hy53, h⟩ := thn_ex h
                  refine W.eq (g2 := F0 m 70 ls (.int y53 :: [])) (by rw [← hy53]) ?_
                  refine lv_istore_n (pc := 70) (lv' := [(3, .int y53), (0, .ref (ad 0)), (1, .int x1), (2, .int x2), (4, .int x4)]) hx hb dX8_number_70 rfl hl (by decide) rfl (fun ls hl => ?_)
                  refine lv_aload_n (pc := 71) hx hb dX8_number_71 rfl (lv_at hl 1 rfl) ?_
                  refine lv_dup (pc := 72) hx hb dX8_number_72 rfl ?_
                  refine x_get (pc := 73) (v := .int (M49 0 6)) E hP (by decide) sh8 rfl inX8 6 (by decide) q978 rfl dX8_number_73 ?_
                  refine lv_aload_n (pc := 76) hx hb dX8_number_76 rfl (lv_at hl 1 rfl) ?_
                  refine x_get (pc := 77) (v := .int (bz (M49 0 7))) E hP (by decide) sh8 rfl inX8 7 (by decide) q979 rfl dX8_number_77 ?_
                  refine lv_if_eq (pc := 80) (tgt := 87) hx hb dX8_number_80 (by decide) (fun c54 => ?_) (fun c54 => ?_)
                  · have h := (if_pos c54).symm.trans h
                    refine lv_iconst (pc := 87) (v := (1 : Int32)) hx hb dX8_number_87 (by decide) ?_
                    refine lv_iadd (pc := 88) hx hb dX8_number_88 ?_
                    obtain ⟨M55, hM55, h⟩ := thn_ex h
                    refine x_put (pc := 89) (v := ((M49 0 6) + (1 : Int32))) E hP hS (by decide) sh8 tyX8 tyX8_ok nmX8 rfl inX8 6 (by decide) q978 rfl rfl rfl (Nat.le_of_ble_eq_true rfl) rfl dX8_number_89 (fun H locs hP hS => ?_)
                    rw [hM55] at hP
                    refine lv_iinc (pc := 92) (v := (x4 + 1)) (lv' := [(4, .int (x4 + 1)), (3, .int y53), (0, .ref (ad 0)), (1, .int x1), (2, .int x2)]) hx hb dX8_number_92 hl (k := 4) rfl rfl (by decide) rfl (fun ls hl => ?_)
                    refine lv_goto (pc := 95) (tgt := 5) hx hb dX8_number_95 (by decide) ?_
                    exact ih M55 x1 x2 y53 (x4 + 1) _ _ _ h hP hS (lv_sub hl [2, 3, 4, 1, 0] rfl)
                  · have h := (if_neg c54).symm.trans h
                    refine lv_iconst (pc := 83) (v := (0 : Int32)) hx hb dX8_number_83 (by decide) ?_
                    refine lv_goto (pc := 84) (tgt := 88) hx hb dX8_number_84 (by decide) ?_
                    refine lv_iadd (pc := 88) hx hb dX8_number_88 ?_
                    obtain ⟨M56, hM56, h⟩ := thn_ex h
                    refine x_put (pc := 89) (v := ((M49 0 6) + (0 : Int32))) E hP hS (by decide) sh8 tyX8 tyX8_ok nmX8 rfl inX8 6 (by decide) q978 rfl rfl rfl (Nat.le_of_ble_eq_true rfl) rfl dX8_number_89 (fun H locs hP hS => ?_)
                    rw [hM56] at hP
                    refine lv_iinc (pc := 92) (v := (x4 + 1)) (lv' := [(4, .int (x4 + 1)), (3, .int y53), (0, .ref (ad 0)), (1, .int x1), (2, .int x2)]) hx hb dX8_number_92 hl (k := 4) rfl rfl (by decide) rfl (fun ls hl => ?_)
                    refine lv_goto (pc := 95) (tgt := 5) hx hb dX8_number_95 (by decide) ?_
                    exact ih M56 x1 x2 y53 (x4 + 1) _ _ _ h hP hS (lv_sub hl [2, 3, 4, 1, 0] rfl)
                · have h := (if_neg c50).symm.trans h
                  refine lv_iconst (pc := 58) (v := (0 : Int32)) hx hb dX8_number_58 (by decide) ?_
                  refine lv_goto (pc := 59) (tgt := 69) hx hb dX8_number_59 (by decide) ?_
                  refine lv_iadd (pc := 69) hx hb dX8_number_69 ?_
                  obtain ⟨y57, hy57, h⟩ := thn_ex h
                  refine W.eq (g2 := F0 m 70 ls (.int y57 :: [])) (by rw [← hy57]) ?_
                  refine lv_istore_n (pc := 70) (lv' := [(3, .int y57), (0, .ref (ad 0)), (1, .int x1), (2, .int x2), (4, .int x4)]) hx hb dX8_number_70 rfl hl (by decide) rfl (fun ls hl => ?_)
                  refine lv_aload_n (pc := 71) hx hb dX8_number_71 rfl (lv_at hl 1 rfl) ?_
                  refine lv_dup (pc := 72) hx hb dX8_number_72 rfl ?_
                  refine x_get (pc := 73) (v := .int (M49 0 6)) E hP (by decide) sh8 rfl inX8 6 (by decide) q978 rfl dX8_number_73 ?_
                  refine lv_aload_n (pc := 76) hx hb dX8_number_76 rfl (lv_at hl 1 rfl) ?_
                  refine x_get (pc := 77) (v := .int (bz (M49 0 7))) E hP (by decide) sh8 rfl inX8 7 (by decide) q979 rfl dX8_number_77 ?_
                  refine lv_if_eq (pc := 80) (tgt := 87) hx hb dX8_number_80 (by decide) (fun c58 => ?_) (fun c58 => ?_)
                  · have h := (if_pos c58).symm.trans h
                    refine lv_iconst (pc := 87) (v := (1 : Int32)) hx hb dX8_number_87 (by decide) ?_
                    refine lv_iadd (pc := 88) hx hb dX8_number_88 ?_
                    obtain ⟨M59, hM59, h⟩ := thn_ex h
                    refine x_put (pc := 89) (v := ((M49 0 6) + (1 : Int32))) E hP hS (by decide) sh8 tyX8 tyX8_ok nmX8 rfl inX8 6 (by decide) q978 rfl rfl rfl (Nat.le_of_ble_eq_true rfl) rfl dX8_number_89 (fun H locs hP hS => ?_)
                    rw [hM59] at hP
                    refine lv_iinc (pc := 92) (v := (x4 + 1)) (lv' := [(4, .int (x4 + 1)), (3, .int y57), (0, .ref (ad 0)), (1, .int x1), (2, .int x2)]) hx hb dX8_number_92 hl (k := 4) rfl rfl (by decide) rfl (fun ls hl => ?_)
                    refine lv_goto (pc := 95) (tgt := 5) hx hb dX8_number_95 (by decide) ?_
                    exact ih M59 x1 x2 y57 (x4 + 1) _ _ _ h hP hS (lv_sub hl [2, 3, 4, 1, 0] rfl)
                  · have h := (if_neg c58).symm.trans h
                    refine lv_iconst (pc := 83) (v := (0 : Int32)) hx hb dX8_number_83 (by decide) ?_
                    refine lv_goto (pc := 84) (tgt := 88) hx hb dX8_number_84 (by decide) ?_
                    refine lv_iadd (pc := 88) hx hb dX8_number_88 ?_
                    obtain ⟨M60, hM60, h⟩ := thn_ex h
                    refine x_put (pc := 89) (v := ((M49 0 6) + (0 : Int32))) E hP hS (by decide) sh8 tyX8 tyX8_ok nmX8 rfl inX8 6 (by decide) q978 rfl rfl rfl (Nat.le_of_ble_eq_true rfl) rfl dX8_number_89 (fun H locs hP hS => ?_)
                    rw [hM60] at hP
                    refine lv_iinc (pc := 92) (v := (x4 + 1)) (lv' := [(4, .int (x4 + 1)), (3, .int y57), (0, .ref (ad 0)), (1, .int x1), (2, .int x2)]) hx hb dX8_number_92 hl (k := 4) rfl rfl (by decide) rfl (fun ls hl => ?_)
                    refine lv_goto (pc := 95) (tgt := 5) hx hb dX8_number_95 (by decide) ?_
                    exact ih M60 x1 x2 y57 (x4 + 1) _ _ _ h hP hS (lv_sub hl [2, 3, 4, 1, 0] rfl)
  unfold fX8_number at h
  refine lv_iconst (pc := 0) (v := (0 : Int32)) hx hb dX8_number_0 (by decide) ?_
  refine lv_istore_n (pc := 1) (lv' := [(3, .int (0 : Int32)), (0, .ref (ad 0)), (1, .int x1), (2, .int x2)]) hx hb dX8_number_1 rfl hl (by decide) rfl (fun ls hl => ?_)
  refine lv_iconst (pc := 2) (v := (0 : Int32)) hx hb dX8_number_2 (by decide) ?_
  refine lv_istore (pc := 3) (lv' := [(4, .int (0 : Int32)), (3, .int (0 : Int32)), (0, .ref (ad 0)), (1, .int x1), (2, .int x2)]) hx hb dX8_number_3 hl (by decide) rfl (fun ls hl => ?_)
  exact hL5 5000 M x1 x2 (0 : Int32) (0 : Int32) _ _ _ h hP hS (lv_sub hl [2, 3, 4, 1, 0] rfl)
set_option maxRecDepth 100000 in
set_option maxHeartbeats 4000000 in
theorem kX8_readsLock (hap : Apart 7 ad)   (M : Mem)  (M' : Mem) (h : fX8_readsLock M = some M') : RV G ad cA cZ cC yX8_readsLock cX8_readsLock 2 ({ frames := 3, cells := 0, slots := 0, locals := 66 } : Room) [.ref (ad 0)] M M' := by
  refine CV.mk (own := RX8) (ls0 := [(0, .ref (ad 0))]) (by decide +kernel) rfl hap (Nat.le_of_ble_eq_true rfl) rfl ?_
  intro p l e s m args below meth c ls E hP hl
  have hx := E.1
  have hb := E.2.1
  have hown := E.2.2.2.2.2.1
  have hts := E.2.2.2.2.2.2.1
  have hEx := ExR.ok 7 ad
  have hS : va_S (AW 7 ad) s.heap s.heap [] := va_S.rf
  have hB115 : ∀ (M : Mem) (H : Heap) (locs : List Loc) (ls : Array Slot), fX8_readsLock_B115 M = some M' → va_P G vwCl (WW 7 (shR cA cZ cC ad) ad M) H → va_S (AW 7 ad) s.heap H locs → lv_has ls 2 [(0, .ref (ad 0))] → W p l e ({ frames := 3, cells := 0, slots := 0, locals := 66 } : Room) s m args below meth c H locs 0 0 (QV below G 7 (shR cA cZ cC ad) ad args s M') (F0 m 115 ls []) := by
    intro M  H locs ls h hP hS hl
    unfold fX8_readsLock_B115 at h
    refine lv_aload_n (pc := 115) hx hb dX8_readsLock_115 rfl (lv_at hl 0 rfl) ?_
    refine lv_bipush (pc := 116) (v := (-5 : Int32)) hx hb dX8_readsLock_116 (by decide) ?_
    obtain ⟨M6, hM6, h⟩ := thn_ex h
    refine x_put (pc := 118) (v := (-5 : Int32)) E hP hS (by decide) sh8 tyX8 tyX8_ok nmX8 rfl inX8 10 (by decide) q982 rfl rfl rfl (Nat.le_of_ble_eq_true rfl) rfl dX8_readsLock_118 (fun H locs hP hS => ?_)
    rw [hM6] at hP
    refine lv_aload_n (pc := 121) hx hb dX8_readsLock_121 rfl (lv_at hl 0 rfl) ?_
    refine x_get (pc := 122) (v := .int (bz (M6 0 7))) E hP (by decide) sh8 rfl inX8 7 (by decide) q979 rfl dX8_readsLock_122 ?_
    refine lv_if_ne (pc := 125) (tgt := 168) hx hb dX8_readsLock_125 (by decide) (fun c7 => ?_) (fun c7 => ?_)
    · have h := (if_neg c7).symm.trans h
      obtain rfl := som1 h
      exact x_vret E hP hS dX8_readsLock_168
    · have h := (if_pos c7).symm.trans h
      refine lv_aload_n (pc := 128) hx hb dX8_readsLock_128 rfl (lv_at hl 0 rfl) ?_
      refine x_get (pc := 129) (v := .int (M6 0 9)) E hP (by decide) sh8 rfl inX8 9 (by decide) q981 rfl dX8_readsLock_129 ?_
      refine lv_if_eq (pc := 132) (tgt := 168) hx hb dX8_readsLock_132 (by decide) (fun c8 => ?_) (fun c8 => ?_)
      · have h := (if_pos c8).symm.trans h
        obtain rfl := som1 h
        exact x_vret E hP hS dX8_readsLock_168
      · have h := (if_neg c8).symm.trans h
        refine lv_aload_n (pc := 135) hx hb dX8_readsLock_135 rfl (lv_at hl 0 rfl) ?_
        refine lv_bipush (pc := 136) (v := (32 : Int32)) hx hb dX8_readsLock_136 (by decide) ?_
        obtain ⟨M9, hM9, h⟩ := bnd_ex h
        refine x_callVv (pc := 138) (st := .int (32 : Int32) :: .ref (ad 0) :: []) (As := [.int (32 : Int32)]) E hEx hl.1 hP hS (kX8_takes hap  M6 _ _ hM9) gX8_80 hdX8_takes rfl (by decide) sh8 rfl ⟨Nat.le_of_ble_eq_true rfl, Nat.le_of_ble_eq_true rfl⟩ ⟨rfl, rfl⟩ dX8_readsLock_138 rfl (Nat.le_of_ble_eq_true rfl) (fun H locs hP hS => ?_)
        refine lv_aload_n (pc := 141) hx hb dX8_readsLock_141 rfl (lv_at hl 0 rfl) ?_
        refine lv_aload_n (pc := 142) hx hb dX8_readsLock_142 rfl (lv_at hl 0 rfl) ?_
        refine x_get (pc := 143) (v := .int (M9 0 9)) E hP (by decide) sh8 rfl inX8 9 (by decide) q981 rfl dX8_readsLock_143 ?_
        refine lv_iconst (pc := 146) (v := (2 : Int32)) hx hb dX8_readsLock_146 (by decide) ?_
        refine lv_icmp_ne (pc := 147) (tgt := 159) hx hb dX8_readsLock_147 (by decide) (fun c10 => ?_) (fun c10 => ?_)
        · have h := (if_neg c10).symm.trans h
          refine lv_aload_n (pc := 159) hx hb dX8_readsLock_159 rfl (lv_at hl 0 rfl) ?_
          refine lv_iconst (pc := 160) (v := (1 : Int32)) hx hb dX8_readsLock_160 (by decide) ?_
          refine lv_iconst (pc := 161) (v := (2 : Int32)) hx hb dX8_readsLock_161 (by decide) ?_
          obtain ⟨q11, hq11, h⟩ := bnd_ex h
          refine x_callVi (pc := 162) (st := .int (2 : Int32) :: .int (1 : Int32) :: .ref (ad 0) :: .ref (ad 0) :: []) (As := [.int (1 : Int32), .int (2 : Int32)]) E hEx hl.1 hP hS (kX8_number hap  M9 _ _ _ _ hq11) gX8_87 hdX8_number rfl (by decide) sh8 rfl ⟨Nat.le_of_ble_eq_true rfl, Nat.le_of_ble_eq_true rfl⟩ ⟨rfl, rfl⟩ dX8_readsLock_162 rfl (Nat.le_of_ble_eq_true rfl) (fun H locs hP hS n12 => ?_)
          obtain ⟨M13, hM13, h⟩ := thn_ex h
          refine x_put (pc := 165) (v := q11.1) E hP hS (by decide) sh8 tyX8 tyX8_ok nmX8 rfl inX8 10 (by decide) q982 rfl rfl rfl (Nat.le_of_ble_eq_true rfl) rfl dX8_readsLock_165 (fun H locs hP hS => ?_)
          rw [hM13] at hP
          obtain rfl := som1 h
          exact x_vret E hP hS dX8_readsLock_168
        · have h := (if_pos c10).symm.trans h
          refine lv_aload_n (pc := 150) hx hb dX8_readsLock_150 rfl (lv_at hl 0 rfl) ?_
          refine lv_iconst (pc := 151) (v := (4 : Int32)) hx hb dX8_readsLock_151 (by decide) ?_
          refine lv_iconst (pc := 152) (v := (4 : Int32)) hx hb dX8_readsLock_152 (by decide) ?_
          obtain ⟨q14, hq14, h⟩ := bnd_ex h
          refine x_callVi (pc := 153) (st := .int (4 : Int32) :: .int (4 : Int32) :: .ref (ad 0) :: .ref (ad 0) :: []) (As := [.int (4 : Int32), .int (4 : Int32)]) E hEx hl.1 hP hS (kX8_number hap  M9 _ _ _ _ hq14) gX8_87 hdX8_number rfl (by decide) sh8 rfl ⟨Nat.le_of_ble_eq_true rfl, Nat.le_of_ble_eq_true rfl⟩ ⟨rfl, rfl⟩ dX8_readsLock_153 rfl (Nat.le_of_ble_eq_true rfl) (fun H locs hP hS n15 => ?_)
          refine lv_goto (pc := 156) (tgt := 165) hx hb dX8_readsLock_156 (by decide) ?_
          obtain ⟨M16, hM16, h⟩ := thn_ex h
          refine x_put (pc := 165) (v := q14.1) E hP hS (by decide) sh8 tyX8 tyX8_ok nmX8 rfl inX8 10 (by decide) q982 rfl rfl rfl (Nat.le_of_ble_eq_true rfl) rfl dX8_readsLock_165 (fun H locs hP hS => ?_)
          rw [hM16] at hP
          obtain rfl := som1 h
          exact x_vret E hP hS dX8_readsLock_168
  have hL79 : ∀ (n : Nat) (M : Mem) (x1 : Int32) (H : Heap) (locs : List Loc) (ls : Array Slot), fX8_readsLock_L79 n M x1 = some M' → va_P G vwCl (WW 7 (shR cA cZ cC ad) ad M) H → va_S (AW 7 ad) s.heap H locs → lv_has ls 2 [(0, .ref (ad 0)), (1, .int x1)] → W p l e ({ frames := 3, cells := 0, slots := 0, locals := 66 } : Room) s m args below meth c H locs 0 0 (QV below G 7 (shR cA cZ cC ad) ad args s M') (F0 m 79 ls []) := by
    intro n
    induction n with
    | zero => intro M x1 H locs ls h; cases h
    | succ n ih =>
      intro M x1 H locs ls h hP hS hl
      rw [fX8_readsLock_L79] at h
      refine lv_aload_n (pc := 79) hx hb dX8_readsLock_79 rfl (lv_at hl 0 rfl) ?_
      refine x_get (pc := 80) (v := .int (bz (M 0 7))) E hP (by decide) sh8 rfl inX8 7 (by decide) q979 rfl dX8_readsLock_80 ?_
      refine lv_if_ne (pc := 83) (tgt := 115) hx hb dX8_readsLock_83 (by decide) (fun c5 => ?_) (fun c5 => ?_)
      · have h := (if_neg c5).symm.trans h
        exact hB115 M _ _ _ h hP hS (lv_sub hl [0] rfl)
      · have h := (if_pos c5).symm.trans h
        refine lv_aload_n (pc := 86) hx hb dX8_readsLock_86 rfl (lv_at hl 0 rfl) ?_
        refine x_get (pc := 87) (v := .int (M 0 9)) E hP (by decide) sh8 rfl inX8 9 (by decide) q981 rfl dX8_readsLock_87 ?_
        refine lv_iload_n (pc := 90) hx hb dX8_readsLock_90 rfl (lv_at hl 1 rfl) ?_
        refine x_callSi (pc := 91) (st := .int x1 :: .int (M 0 9) :: []) (As := [.int (M 0 9), .int x1]) E hEx hl.1 hP hS (kX8_lockLetter hap  M _ _ _ rfl) gX8_76 hsX8_lockLetter rfl ⟨Nat.le_of_ble_eq_true rfl, Nat.le_of_ble_eq_true rfl⟩ ⟨rfl, rfl⟩ dX8_readsLock_91 rfl (Nat.le_of_ble_eq_true rfl) (fun H locs hP hS n17 => ?_)
        refine lv_if_le (pc := 94) (tgt := 115) hx hb dX8_readsLock_94 (by decide) (fun c18 => ?_) (fun c18 => ?_)
        · have h := (if_pos c18).symm.trans h
          exact hB115 M _ _ _ h hP hS (lv_sub hl [0] rfl)
        · have h := (if_neg c18).symm.trans h
          refine lv_aload_n (pc := 97) hx hb dX8_readsLock_97 rfl (lv_at hl 0 rfl) ?_
          refine lv_aload_n (pc := 98) hx hb dX8_readsLock_98 rfl (lv_at hl 0 rfl) ?_
          refine x_get (pc := 99) (v := .int (M 0 9)) E hP (by decide) sh8 rfl inX8 9 (by decide) q981 rfl dX8_readsLock_99 ?_
          refine lv_iload_n (pc := 102) hx hb dX8_readsLock_102 rfl (lv_at hl 1 rfl) ?_
          refine x_callSi (pc := 103) (st := .int x1 :: .int (M 0 9) :: .ref (ad 0) :: []) (As := [.int (M 0 9), .int x1]) E hEx hl.1 hP hS (kX8_lockLetter hap  M _ _ _ rfl) gX8_76 hsX8_lockLetter rfl ⟨Nat.le_of_ble_eq_true rfl, Nat.le_of_ble_eq_true rfl⟩ ⟨rfl, rfl⟩ dX8_readsLock_103 rfl (Nat.le_of_ble_eq_true rfl) (fun H locs hP hS n19 => ?_)
          obtain ⟨M20, hM20, h⟩ := bnd_ex h
          refine x_callVv (pc := 106) (st := .int (fX8_lockLetter M (M 0 9) x1) :: .ref (ad 0) :: []) (As := [.int (fX8_lockLetter M (M 0 9) x1)]) E hEx hl.1 hP hS (kX8_takes hap  M _ _ hM20) gX8_80 hdX8_takes rfl (by decide) sh8 rfl ⟨Nat.le_of_ble_eq_true rfl, Nat.le_of_ble_eq_true rfl⟩ ⟨rfl, rfl⟩ dX8_readsLock_106 rfl (Nat.le_of_ble_eq_true rfl) (fun H locs hP hS => ?_)
          refine lv_iinc (pc := 109) (v := (x1 + 1)) (lv' := [(1, .int (x1 + 1)), (0, .ref (ad 0))]) hx hb dX8_readsLock_109 hl (k := 1) rfl rfl (by decide) rfl (fun ls hl => ?_)
          refine lv_goto (pc := 112) (tgt := 79) hx hb dX8_readsLock_112 (by decide) ?_
          exact ih M20 (x1 + 1) _ _ _ h hP hS (lv_sub hl [1, 0] rfl)
  have hL8 : ∀ (n : Nat) (M : Mem) (x1 : Int32) (H : Heap) (locs : List Loc) (ls : Array Slot), fX8_readsLock_L8 n M x1 = some M' → va_P G vwCl (WW 7 (shR cA cZ cC ad) ad M) H → va_S (AW 7 ad) s.heap H locs → lv_has ls 2 [(0, .ref (ad 0)), (1, .int x1)] → W p l e ({ frames := 3, cells := 0, slots := 0, locals := 66 } : Room) s m args below meth c H locs 0 0 (QV below G 7 (shR cA cZ cC ad) ad args s M') (F0 m 8 ls []) := by
    intro n
    induction n with
    | zero => intro M x1 H locs ls h; cases h
    | succ n ih =>
      intro M x1 H locs ls h hP hS hl
      rw [fX8_readsLock_L8] at h
      refine lv_iload_n (pc := 8) hx hb dX8_readsLock_8 rfl (lv_at hl 1 rfl) ?_
      refine lv_iconst (pc := 9) (v := (4 : Int32)) hx hb dX8_readsLock_9 (by decide) ?_
      refine lv_icmp_ge (pc := 10) (tgt := 54) hx hb dX8_readsLock_10 (by decide) (fun c2 => ?_) (fun c2 => ?_)
      · have h := (if_pos c2).symm.trans h
        refine lv_aload_n (pc := 54) hx hb dX8_readsLock_54 rfl (lv_at hl 0 rfl) ?_
        refine lv_aload_n (pc := 55) hx hb dX8_readsLock_55 rfl (lv_at hl 0 rfl) ?_
        refine x_get (pc := 56) (v := .int (bz (M 0 7))) E hP (by decide) sh8 rfl inX8 7 (by decide) q979 rfl dX8_readsLock_56 ?_
        refine lv_if_ne (pc := 59) (tgt := 69) hx hb dX8_readsLock_59 (by decide) (fun c3 => ?_) (fun c3 => ?_)
        · have h := (if_neg c3).symm.trans h
          refine lv_iconst (pc := 69) (v := (1 : Int32)) hx hb dX8_readsLock_69 (by decide) ?_
          refine lv_goto (pc := 70) (tgt := 74) hx hb dX8_readsLock_70 (by decide) ?_
          obtain ⟨M4, hM4, h⟩ := thn_ex h
          refine x_put (pc := 74) (v := (1 : Int32)) E hP hS (by decide) sh8 tyX8 tyX8_ok nmX8 rfl inX8 7 (by decide) q979 rfl rfl rfl (Nat.le_of_ble_eq_true rfl) (by simp [upd, bz0, bz1]) dX8_readsLock_74 (fun H locs hP hS => ?_)
          rw [hM4] at hP
          refine lv_iconst (pc := 77) (v := (0 : Int32)) hx hb dX8_readsLock_77 (by decide) ?_
          refine lv_istore_n (pc := 78) (lv' := [(1, .int (0 : Int32)), (0, .ref (ad 0))]) hx hb dX8_readsLock_78 rfl hl (by decide) rfl (fun ls hl => ?_)
          exact hL79 5000 M4 (0 : Int32) _ _ _ h hP hS (lv_sub hl [1, 0] rfl)
        · have h := (if_pos c3).symm.trans h
          refine lv_aload_n (pc := 62) hx hb dX8_readsLock_62 rfl (lv_at hl 0 rfl) ?_
          refine x_get (pc := 63) (v := .int (M 0 9)) E hP (by decide) sh8 rfl inX8 9 (by decide) q981 rfl dX8_readsLock_63 ?_
          refine lv_if_ge (pc := 66) (tgt := 73) hx hb dX8_readsLock_66 (by decide) (fun c21 => ?_) (fun c21 => ?_)
          · have h := (if_pos c21).symm.trans h
            refine lv_iconst (pc := 73) (v := (0 : Int32)) hx hb dX8_readsLock_73 (by decide) ?_
            obtain ⟨M22, hM22, h⟩ := thn_ex h
            refine x_put (pc := 74) (v := (0 : Int32)) E hP hS (by decide) sh8 tyX8 tyX8_ok nmX8 rfl inX8 7 (by decide) q979 rfl rfl rfl (Nat.le_of_ble_eq_true rfl) (by simp [upd, bz0, bz1]) dX8_readsLock_74 (fun H locs hP hS => ?_)
            rw [hM22] at hP
            refine lv_iconst (pc := 77) (v := (0 : Int32)) hx hb dX8_readsLock_77 (by decide) ?_
            refine lv_istore_n (pc := 78) (lv' := [(1, .int (0 : Int32)), (0, .ref (ad 0))]) hx hb dX8_readsLock_78 rfl hl (by decide) rfl (fun ls hl => ?_)
            exact hL79 5000 M22 (0 : Int32) _ _ _ h hP hS (lv_sub hl [1, 0] rfl)
          · have h := (if_neg c21).symm.trans h
            refine lv_iconst (pc := 69) (v := (1 : Int32)) hx hb dX8_readsLock_69 (by decide) ?_
            refine lv_goto (pc := 70) (tgt := 74) hx hb dX8_readsLock_70 (by decide) ?_
            obtain ⟨M23, hM23, h⟩ := thn_ex h
            refine x_put (pc := 74) (v := (1 : Int32)) E hP hS (by decide) sh8 tyX8 tyX8_ok nmX8 rfl inX8 7 (by decide) q979 rfl rfl rfl (Nat.le_of_ble_eq_true rfl) (by simp [upd, bz0, bz1]) dX8_readsLock_74 (fun H locs hP hS => ?_)
            rw [hM23] at hP
            refine lv_iconst (pc := 77) (v := (0 : Int32)) hx hb dX8_readsLock_77 (by decide) ?_
            refine lv_istore_n (pc := 78) (lv' := [(1, .int (0 : Int32)), (0, .ref (ad 0))]) hx hb dX8_readsLock_78 rfl hl (by decide) rfl (fun ls hl => ?_)
            exact hL79 5000 M23 (0 : Int32) _ _ _ h hP hS (lv_sub hl [1, 0] rfl)
      · have h := (if_neg c2).symm.trans h
        refine lv_aload_n (pc := 13) hx hb dX8_readsLock_13 rfl (lv_at hl 0 rfl) ?_
        refine lv_aload_n (pc := 14) hx hb dX8_readsLock_14 rfl (lv_at hl 0 rfl) ?_
        refine x_get (pc := 15) (v := .int (M 0 6)) E hP (by decide) sh8 rfl inX8 6 (by decide) q978 rfl dX8_readsLock_15 ?_
        refine lv_aload_n (pc := 18) hx hb dX8_readsLock_18 rfl (lv_at hl 0 rfl) ?_
        refine x_get (pc := 19) (v := .int (M 0 4)) E hP (by decide) sh8 rfl inX8 4 (by decide) q976 rfl dX8_readsLock_19 ?_
        refine lv_icmp_ge (pc := 22) (tgt := 41) hx hb dX8_readsLock_22 (by decide) (fun c24 => ?_) (fun c24 => ?_)
        · have h := (if_pos c24).symm.trans h
          refine lv_aload_n (pc := 41) hx hb dX8_readsLock_41 rfl (lv_at hl 0 rfl) ?_
          refine x_get (pc := 42) (v := .int (M 0 9)) E hP (by decide) sh8 rfl inX8 9 (by decide) q981 rfl dX8_readsLock_42 ?_
          obtain ⟨M25, hM25, h⟩ := thn_ex h
          refine x_put (pc := 45) (v := (M 0 9)) E hP hS (by decide) sh8 tyX8 tyX8_ok nmX8 rfl inX8 9 (by decide) q981 rfl rfl rfl (Nat.le_of_ble_eq_true rfl) rfl dX8_readsLock_45 (fun H locs hP hS => ?_)
          rw [hM25] at hP
          refine lv_iinc (pc := 48) (v := (x1 + 1)) (lv' := [(1, .int (x1 + 1)), (0, .ref (ad 0))]) hx hb dX8_readsLock_48 hl (k := 1) rfl rfl (by decide) rfl (fun ls hl => ?_)
          refine lv_goto (pc := 51) (tgt := 8) hx hb dX8_readsLock_51 (by decide) ?_
          exact ih M25 (x1 + 1) _ _ _ h hP hS (lv_sub hl [1, 0] rfl)
        · have h := (if_neg c24).symm.trans h
          refine lv_aload_n (pc := 25) hx hb dX8_readsLock_25 rfl (lv_at hl 0 rfl) ?_
          obtain ⟨y26, hy26, h⟩ := bnd_ex h
          refine x_callVi (pc := 26) (st := .ref (ad 0) :: .ref (ad 0) :: []) (As := []) E hEx hl.1 hP hS (kX8_sees hap  M  _ hy26) gX8_65 hdX8_sees rfl (by decide) sh8 rfl ⟨Nat.le_of_ble_eq_true rfl, Nat.le_of_ble_eq_true rfl⟩ ⟨rfl, rfl⟩ dX8_readsLock_26 rfl (Nat.le_of_ble_eq_true rfl) (fun H locs hP hS n27 => ?_)
          refine lv_iload_n (pc := 29) hx hb dX8_readsLock_29 rfl (lv_at hl 1 rfl) ?_
          refine lv_iconst (pc := 30) (v := (0 : Int32)) hx hb dX8_readsLock_30 (by decide) ?_
          refine x_callSi (pc := 31) (st := .int (0 : Int32) :: .int x1 :: .int y26 :: .ref (ad 0) :: []) (As := [.int x1, .int (0 : Int32)]) E hEx hl.1 hP hS (kX8_lockLetter hap  M _ _ _ rfl) gX8_76 hsX8_lockLetter rfl ⟨Nat.le_of_ble_eq_true rfl, Nat.le_of_ble_eq_true rfl⟩ ⟨rfl, rfl⟩ dX8_readsLock_31 rfl (Nat.le_of_ble_eq_true rfl) (fun H locs hP hS n28 => ?_)
          refine lv_icmp_ne (pc := 34) (tgt := 41) hx hb dX8_readsLock_34 (by decide) (fun c29 => ?_) (fun c29 => ?_)
          · have h := (if_neg c29).symm.trans h
            refine lv_aload_n (pc := 41) hx hb dX8_readsLock_41 rfl (lv_at hl 0 rfl) ?_
            refine x_get (pc := 42) (v := .int (M 0 9)) E hP (by decide) sh8 rfl inX8 9 (by decide) q981 rfl dX8_readsLock_42 ?_
            obtain ⟨M30, hM30, h⟩ := thn_ex h
            refine x_put (pc := 45) (v := (M 0 9)) E hP hS (by decide) sh8 tyX8 tyX8_ok nmX8 rfl inX8 9 (by decide) q981 rfl rfl rfl (Nat.le_of_ble_eq_true rfl) rfl dX8_readsLock_45 (fun H locs hP hS => ?_)
            rw [hM30] at hP
            refine lv_iinc (pc := 48) (v := (x1 + 1)) (lv' := [(1, .int (x1 + 1)), (0, .ref (ad 0))]) hx hb dX8_readsLock_48 hl (k := 1) rfl rfl (by decide) rfl (fun ls hl => ?_)
            refine lv_goto (pc := 51) (tgt := 8) hx hb dX8_readsLock_51 (by decide) ?_
            exact ih M30 (x1 + 1) _ _ _ h hP hS (lv_sub hl [1, 0] rfl)
          · have h := (if_pos c29).symm.trans h
            refine lv_iload_n (pc := 37) hx hb dX8_readsLock_37 rfl (lv_at hl 1 rfl) ?_
            refine lv_goto (pc := 38) (tgt := 45) hx hb dX8_readsLock_38 (by decide) ?_
            obtain ⟨M31, hM31, h⟩ := thn_ex h
            refine x_put (pc := 45) (v := x1) E hP hS (by decide) sh8 tyX8 tyX8_ok nmX8 rfl inX8 9 (by decide) q981 rfl rfl rfl (Nat.le_of_ble_eq_true rfl) rfl dX8_readsLock_45 (fun H locs hP hS => ?_)
            rw [hM31] at hP
            refine lv_iinc (pc := 48) (v := (x1 + 1)) (lv' := [(1, .int (x1 + 1)), (0, .ref (ad 0))]) hx hb dX8_readsLock_48 hl (k := 1) rfl rfl (by decide) rfl (fun ls hl => ?_)
            refine lv_goto (pc := 51) (tgt := 8) hx hb dX8_readsLock_51 (by decide) ?_
            exact ih M31 (x1 + 1) _ _ _ h hP hS (lv_sub hl [1, 0] rfl)
  unfold fX8_readsLock at h
  refine lv_aload_n (pc := 0) hx hb dX8_readsLock_0 rfl (lv_at hl 0 rfl) ?_
  refine lv_bipush (pc := 1) (v := (-5 : Int32)) hx hb dX8_readsLock_1 (by decide) ?_
  obtain ⟨M1, hM1, h⟩ := thn_ex h
  refine x_put (pc := 3) (v := (-5 : Int32)) E hP hS (by decide) sh8 tyX8 tyX8_ok nmX8 rfl inX8 9 (by decide) q981 rfl rfl rfl (Nat.le_of_ble_eq_true rfl) rfl dX8_readsLock_3 (fun H locs hP hS => ?_)
  rw [hM1] at hP
  refine lv_iconst (pc := 6) (v := (0 : Int32)) hx hb dX8_readsLock_6 (by decide) ?_
  refine lv_istore_n (pc := 7) (lv' := [(1, .int (0 : Int32)), (0, .ref (ad 0))]) hx hb dX8_readsLock_7 rfl hl (by decide) rfl (fun ls hl => ?_)
  exact hL8 5000 M1 (0 : Int32) _ _ _ h hP hS (lv_sub hl [1, 0] rfl)
set_option maxRecDepth 100000 in
set_option maxHeartbeats 4000000 in
theorem kX8_faultOfText (hap : Apart 7 ad)   (M : Mem)  (v : Int32) (M' : Mem) (h : fX8_faultOfText M = some (v, M')) : RI G ad cA cZ cC yX8_faultOfText cX8_faultOfText 1 .int ({ frames := 4, cells := 0, slots := 0, locals := 87 } : Room) [.ref (ad 0)] M v M' := by
  refine CI.mk (own := RX8) (ls0 := [(0, .ref (ad 0))]) (by decide +kernel) rfl hap (Nat.le_of_ble_eq_true rfl) rfl ?_
  intro p l e s m args below meth c ls E hP hl
  have hx := E.1
  have hb := E.2.1
  have hown := E.2.2.2.2.2.1
  have hts := E.2.2.2.2.2.2.1
  have hEx := ExR.ok 7 ad
  have hS : va_S (AW 7 ad) s.heap s.heap [] := va_S.rf
  have hB37 : ∀ (M : Mem) (H : Heap) (locs : List Loc) (ls : Array Slot), fX8_faultOfText_B37 M = some (v, M') → va_P G vwCl (WW 7 (shR cA cZ cC ad) ad M) H → va_S (AW 7 ad) s.heap H locs → lv_has ls 1 [(0, .ref (ad 0))] → W p l e ({ frames := 4, cells := 0, slots := 0, locals := 87 } : Room) s m args below meth c H locs 0 0 (QI below G 7 (shR cA cZ cC ad) ad .int args s v M') (F0 m 37 ls []) := by
    intro M  H locs ls h hP hS hl
    unfold fX8_faultOfText_B37 at h
    refine lv_aload_n (pc := 37) hx hb dX8_faultOfText_37 rfl (lv_at hl 0 rfl) ?_
    refine x_get (pc := 38) (v := .int (bz (M 0 7))) E hP (by decide) sh8 rfl inX8 7 (by decide) q979 rfl dX8_faultOfText_38 ?_
    refine lv_if_ne (pc := 41) (tgt := 55) hx hb dX8_faultOfText_41 (by decide) (fun c8 => ?_) (fun c8 => ?_)
    · have h := (if_neg c8).symm.trans h
      refine lv_aload_n (pc := 55) hx hb dX8_faultOfText_55 rfl (lv_at hl 0 rfl) ?_
      refine x_get (pc := 56) (v := .int (M 0 6)) E hP (by decide) sh8 rfl inX8 6 (by decide) q978 rfl dX8_faultOfText_56 ?_
      refine lv_goto (pc := 59) (tgt := 64) hx hb dX8_faultOfText_59 (by decide) ?_
      obtain ⟨rfl, rfl⟩ := som2 h
      exact x_iret E hP hS rfl dX8_faultOfText_64
    · have h := (if_pos c8).symm.trans h
      refine lv_aload_n (pc := 44) hx hb dX8_faultOfText_44 rfl (lv_at hl 0 rfl) ?_
      refine x_get (pc := 45) (v := .int (M 0 6)) E hP (by decide) sh8 rfl inX8 6 (by decide) q978 rfl dX8_faultOfText_45 ?_
      refine lv_aload_n (pc := 48) hx hb dX8_faultOfText_48 rfl (lv_at hl 0 rfl) ?_
      refine x_get (pc := 49) (v := .int (M 0 4)) E hP (by decide) sh8 rfl inX8 4 (by decide) q976 rfl dX8_faultOfText_49 ?_
      refine lv_icmp_ge (pc := 52) (tgt := 62) hx hb dX8_faultOfText_52 (by decide) (fun c9 => ?_) (fun c9 => ?_)
      · have h := (if_pos c9).symm.trans h
        refine lv_bipush (pc := 62) (v := (-5 : Int32)) hx hb dX8_faultOfText_62 (by decide) ?_
        obtain ⟨rfl, rfl⟩ := som2 h
        exact x_iret E hP hS rfl dX8_faultOfText_64
      · have h := (if_neg c9).symm.trans h
        refine lv_aload_n (pc := 55) hx hb dX8_faultOfText_55 rfl (lv_at hl 0 rfl) ?_
        refine x_get (pc := 56) (v := .int (M 0 6)) E hP (by decide) sh8 rfl inX8 6 (by decide) q978 rfl dX8_faultOfText_56 ?_
        refine lv_goto (pc := 59) (tgt := 64) hx hb dX8_faultOfText_59 (by decide) ?_
        obtain ⟨rfl, rfl⟩ := som2 h
        exact x_iret E hP hS rfl dX8_faultOfText_64
  unfold fX8_faultOfText at h
  refine lv_aload_n (pc := 0) hx hb dX8_faultOfText_0 rfl (lv_at hl 0 rfl) ?_
  refine lv_iconst (pc := 1) (v := (0 : Int32)) hx hb dX8_faultOfText_1 (by decide) ?_
  obtain ⟨M1, hM1, h⟩ := thn_ex h
  refine x_put (pc := 2) (v := (0 : Int32)) E hP hS (by decide) sh8 tyX8 tyX8_ok nmX8 rfl inX8 6 (by decide) q978 rfl rfl rfl (Nat.le_of_ble_eq_true rfl) rfl dX8_faultOfText_2 (fun H locs hP hS => ?_)
  rw [hM1] at hP
  refine lv_aload_n (pc := 5) hx hb dX8_faultOfText_5 rfl (lv_at hl 0 rfl) ?_
  refine lv_iconst (pc := 6) (v := (0 : Int32)) hx hb dX8_faultOfText_6 (by decide) ?_
  obtain ⟨M2, hM2, h⟩ := thn_ex h
  refine x_put (pc := 7) (v := (0 : Int32)) E hP hS (by decide) sh8 tyX8 tyX8_ok nmX8 rfl inX8 7 (by decide) q979 rfl rfl rfl (Nat.le_of_ble_eq_true rfl) (by simp [upd, bz0, bz1]) dX8_faultOfText_7 (fun H locs hP hS => ?_)
  rw [hM2] at hP
  refine lv_aload_n (pc := 10) hx hb dX8_faultOfText_10 rfl (lv_at hl 0 rfl) ?_
  refine lv_aload_n (pc := 11) hx hb dX8_faultOfText_11 rfl (lv_at hl 0 rfl) ?_
  refine lv_iconst (pc := 12) (v := (1 : Int32)) hx hb dX8_faultOfText_12 (by decide) ?_
  refine lv_iconst (pc := 13) (v := (2 : Int32)) hx hb dX8_faultOfText_13 (by decide) ?_
  obtain ⟨q3, hq3, h⟩ := bnd_ex h
  refine x_callVi (pc := 14) (st := .int (2 : Int32) :: .int (1 : Int32) :: .ref (ad 0) :: .ref (ad 0) :: []) (As := [.int (1 : Int32), .int (2 : Int32)]) E hEx hl.1 hP hS (kX8_number hap  M2 _ _ _ _ hq3) gX8_87 hdX8_number rfl (by decide) sh8 rfl ⟨Nat.le_of_ble_eq_true rfl, Nat.le_of_ble_eq_true rfl⟩ ⟨rfl, rfl⟩ dX8_faultOfText_14 rfl (Nat.le_of_ble_eq_true rfl) (fun H locs hP hS n4 => ?_)
  obtain ⟨M5, hM5, h⟩ := thn_ex h
  refine x_put (pc := 17) (v := q3.1) E hP hS (by decide) sh8 tyX8 tyX8_ok nmX8 rfl inX8 8 (by decide) q980 rfl rfl rfl (Nat.le_of_ble_eq_true rfl) rfl dX8_faultOfText_17 (fun H locs hP hS => ?_)
  rw [hM5] at hP
  refine lv_aload_n (pc := 20) hx hb dX8_faultOfText_20 rfl (lv_at hl 0 rfl) ?_
  refine lv_bipush (pc := 21) (v := (32 : Int32)) hx hb dX8_faultOfText_21 (by decide) ?_
  obtain ⟨M6, hM6, h⟩ := bnd_ex h
  refine x_callVv (pc := 23) (st := .int (32 : Int32) :: .ref (ad 0) :: []) (As := [.int (32 : Int32)]) E hEx hl.1 hP hS (kX8_takes hap  M5 _ _ hM6) gX8_80 hdX8_takes rfl (by decide) sh8 rfl ⟨Nat.le_of_ble_eq_true rfl, Nat.le_of_ble_eq_true rfl⟩ ⟨rfl, rfl⟩ dX8_faultOfText_23 rfl (Nat.le_of_ble_eq_true rfl) (fun H locs hP hS => ?_)
  refine lv_aload_n (pc := 26) hx hb dX8_faultOfText_26 rfl (lv_at hl 0 rfl) ?_
  refine x_get (pc := 27) (v := .int (bz (M6 0 7))) E hP (by decide) sh8 rfl inX8 7 (by decide) q979 rfl dX8_faultOfText_27 ?_
  refine lv_if_ne (pc := 30) (tgt := 37) hx hb dX8_faultOfText_30 (by decide) (fun c7 => ?_) (fun c7 => ?_)
  · have h := (if_neg c7).symm.trans h
    exact hB37 M6 _ _ _ h hP hS (lv_sub hl [0] rfl)
  · have h := (if_pos c7).symm.trans h
    refine lv_aload_n (pc := 33) hx hb dX8_faultOfText_33 rfl (lv_at hl 0 rfl) ?_
    obtain ⟨M10, hM10, h⟩ := bnd_ex h
    refine x_callVv (pc := 34) (st := .ref (ad 0) :: []) (As := []) E hEx hl.1 hP hS (kX8_readsLock hap  M6  _ hM10) gX8_93 hdX8_readsLock rfl (by decide) sh8 rfl ⟨Nat.le_of_ble_eq_true rfl, Nat.le_of_ble_eq_true rfl⟩ ⟨rfl, rfl⟩ dX8_faultOfText_34 rfl (Nat.le_of_ble_eq_true rfl) (fun H locs hP hS => ?_)
    exact hB37 M10 _ _ _ h hP hS (lv_sub hl [0] rfl)
set_option maxRecDepth 100000 in
set_option maxHeartbeats 4000000 in
theorem kX8_addBox (hap : Apart 7 ad)   (M : Mem)  (v : Int32) (M' : Mem) (h : fX8_addBox M = some (v, M')) : RI G ad cA cZ cC yX8_addBox cX8_addBox 4 .int ({ frames := 5, cells := 0, slots := 0, locals := 107 } : Room) [.ref (ad 0)] M v M' := by
  refine CI.mk (own := RX8) (ls0 := [(0, .ref (ad 0))]) (by decide +kernel) rfl hap (Nat.le_of_ble_eq_true rfl) rfl ?_
  intro p l e s m args below meth c ls E hP hl
  have hx := E.1
  have hb := E.2.1
  have hown := E.2.2.2.2.2.1
  have hts := E.2.2.2.2.2.2.1
  have hEx := ExR.ok 7 ad
  have hS : va_S (AW 7 ad) s.heap s.heap [] := va_S.rf
  have hB64 : ∀ (M : Mem) (H : Heap) (locs : List Loc) (ls : Array Slot), fX8_addBox_B64 M = some (v, M') → va_P G vwCl (WW 7 (shR cA cZ cC ad) ad M) H → va_S (AW 7 ad) s.heap H locs → lv_has ls 4 [(0, .ref (ad 0))] → W p l e ({ frames := 5, cells := 0, slots := 0, locals := 107 } : Room) s m args below meth c H locs 0 0 (QI below G 7 (shR cA cZ cC ad) ad .int args s v M') (F0 m 64 ls []) := by
    intro M  H locs ls h hP hS hl
    unfold fX8_addBox_B64 at h
    refine lv_aload_n (pc := 64) hx hb dX8_addBox_64 rfl (lv_at hl 0 rfl) ?_
    obtain ⟨y9, hy9, h⟩ := bnd_ex h
    refine x_callVi (pc := 65) (st := .ref (ad 0) :: []) (As := []) E hEx hl.1 hP hS (kX8_plays hap  M  _ hy9) gX8_105 hdX8_plays rfl (by decide) sh8 rfl ⟨Nat.le_of_ble_eq_true rfl, Nat.le_of_ble_eq_true rfl⟩ ⟨rfl, rfl⟩ dX8_addBox_65 rfl (Nat.le_of_ble_eq_true rfl) (fun H locs hP hS n10 => ?_)
    refine lv_if_eq (pc := 68) (tgt := 74) hx hb dX8_addBox_68 (by decide) (fun c11 => ?_) (fun c11 => ?_)
    · have h := (if_pos c11).symm.trans h
      refine lv_aload_n (pc := 74) hx hb dX8_addBox_74 rfl (lv_at hl 0 rfl) ?_
      refine x_get (pc := 75) (v := .ref (ad 1)) E hP (by decide) sh8 rfl inX8 0 (by decide) q972 rfl dX8_addBox_75 ?_
      refine lv_iconst (pc := 78) (v := (0 : Int32)) hx hb dX8_addBox_78 (by decide) ?_
      refine x_iald (pc := 79) (j := 0) E hP (by decide) sh8a1 0 rfl (vp_inl (by decide)) rfl dX8_addBox_79 ?_
      refine lv_istore_n (pc := 80) (lv' := [(3, .int (M 1 0)), (0, .ref (ad 0))]) hx hb dX8_addBox_80 rfl hl (by decide) rfl (fun ls hl => ?_)
      refine lv_iload_n (pc := 81) hx hb dX8_addBox_81 rfl (lv_at hl 0 rfl) ?_
      refine lv_bipush (pc := 82) (v := (12 : Int32)) hx hb dX8_addBox_82 (by decide) ?_
      refine lv_icmp_ne (pc := 84) (tgt := 90) hx hb dX8_addBox_84 (by decide) (fun c12 => ?_) (fun c12 => ?_)
      · have h := (if_neg c12).symm.trans h
        refine lv_aload_n (pc := 90) hx hb dX8_addBox_90 rfl (lv_at hl 1 rfl) ?_
        refine x_get (pc := 91) (v := .ref (ad 1)) E hP (by decide) sh8 rfl inX8 0 (by decide) q972 rfl dX8_addBox_91 ?_
        refine lv_bipush (pc := 94) (v := (20 : Int32)) hx hb dX8_addBox_94 (by decide) ?_
        refine lv_iload_n (pc := 96) hx hb dX8_addBox_96 rfl (lv_at hl 0 rfl) ?_
        refine lv_iadd (pc := 97) hx hb dX8_addBox_97 ?_
        refine lv_aload_n (pc := 98) hx hb dX8_addBox_98 rfl (lv_at hl 1 rfl) ?_
        refine x_get (pc := 99) (v := .int (M 0 8)) E hP (by decide) sh8 rfl inX8 8 (by decide) q980 rfl dX8_addBox_99 ?_
        obtain ⟨c13, h⟩ := ite_some h
        obtain ⟨M14, hM14, h⟩ := thn_ex h
        refine x_iast (pc := 102) (j := ((20 : Int32) + (M 1 0)).toNatClampNeg) E hP hS (by decide) sh8a1 0 rfl (inb_in c13) rfl dX8_addBox_102 (fun H locs hP hS => ?_)
        rw [hM14] at hP
        refine lv_aload_n (pc := 103) hx hb dX8_addBox_103 rfl (lv_at hl 1 rfl) ?_
        refine x_get (pc := 104) (v := .ref (ad 1)) E hP (by decide) sh8 rfl inX8 0 (by decide) q972 rfl dX8_addBox_104 ?_
        refine lv_bipush (pc := 107) (v := (32 : Int32)) hx hb dX8_addBox_107 (by decide) ?_
        refine lv_iload_n (pc := 109) hx hb dX8_addBox_109 rfl (lv_at hl 0 rfl) ?_
        refine lv_iadd (pc := 110) hx hb dX8_addBox_110 ?_
        refine lv_aload_n (pc := 111) hx hb dX8_addBox_111 rfl (lv_at hl 1 rfl) ?_
        refine x_get (pc := 112) (v := .int (M14 0 9)) E hP (by decide) sh8 rfl inX8 9 (by decide) q981 rfl dX8_addBox_112 ?_
        obtain ⟨c15, h⟩ := ite_some h
        obtain ⟨M16, hM16, h⟩ := thn_ex h
        refine x_iast (pc := 115) (j := ((32 : Int32) + (M 1 0)).toNatClampNeg) E hP hS (by decide) sh8a1 0 rfl (inb_in c15) rfl dX8_addBox_115 (fun H locs hP hS => ?_)
        rw [hM16] at hP
        refine lv_aload_n (pc := 116) hx hb dX8_addBox_116 rfl (lv_at hl 1 rfl) ?_
        refine x_get (pc := 117) (v := .ref (ad 1)) E hP (by decide) sh8 rfl inX8 0 (by decide) q972 rfl dX8_addBox_117 ?_
        refine lv_bipush (pc := 120) (v := (44 : Int32)) hx hb dX8_addBox_120 (by decide) ?_
        refine lv_iload_n (pc := 122) hx hb dX8_addBox_122 rfl (lv_at hl 0 rfl) ?_
        refine lv_iadd (pc := 123) hx hb dX8_addBox_123 ?_
        refine lv_aload_n (pc := 124) hx hb dX8_addBox_124 rfl (lv_at hl 1 rfl) ?_
        refine x_get (pc := 125) (v := .int (M16 0 10)) E hP (by decide) sh8 rfl inX8 10 (by decide) q982 rfl dX8_addBox_125 ?_
        obtain ⟨c17, h⟩ := ite_some h
        obtain ⟨M18, hM18, h⟩ := thn_ex h
        refine x_iast (pc := 128) (j := ((44 : Int32) + (M 1 0)).toNatClampNeg) E hP hS (by decide) sh8a1 0 rfl (inb_in c17) rfl dX8_addBox_128 (fun H locs hP hS => ?_)
        rw [hM18] at hP
        refine lv_aload_n (pc := 129) hx hb dX8_addBox_129 rfl (lv_at hl 1 rfl) ?_
        refine x_get (pc := 130) (v := .ref (ad 1)) E hP (by decide) sh8 rfl inX8 0 (by decide) q972 rfl dX8_addBox_130 ?_
        refine lv_bipush (pc := 133) (v := (56 : Int32)) hx hb dX8_addBox_133 (by decide) ?_
        refine lv_iload_n (pc := 135) hx hb dX8_addBox_135 rfl (lv_at hl 0 rfl) ?_
        refine lv_iadd (pc := 136) hx hb dX8_addBox_136 ?_
        refine lv_iconst (pc := 137) (v := (0 : Int32)) hx hb dX8_addBox_137 (by decide) ?_
        obtain ⟨c19, h⟩ := ite_some h
        obtain ⟨M20, hM20, h⟩ := thn_ex h
        refine x_iast (pc := 138) (j := ((56 : Int32) + (M 1 0)).toNatClampNeg) E hP hS (by decide) sh8a1 0 rfl (inb_in c19) rfl dX8_addBox_138 (fun H locs hP hS => ?_)
        rw [hM20] at hP
        refine lv_aload_n (pc := 139) hx hb dX8_addBox_139 rfl (lv_at hl 1 rfl) ?_
        refine x_get (pc := 140) (v := .ref (ad 1)) E hP (by decide) sh8 rfl inX8 0 (by decide) q972 rfl dX8_addBox_140 ?_
        refine lv_iconst (pc := 143) (v := (0 : Int32)) hx hb dX8_addBox_143 (by decide) ?_
        refine lv_dup2_11 (pc := 144) hx hb dX8_addBox_144 rfl rfl ?_
        refine x_iald (pc := 145) (j := 0) E hP (by decide) sh8a1 0 rfl (vp_inl (by decide)) rfl dX8_addBox_145 ?_
        refine lv_iconst (pc := 146) (v := (1 : Int32)) hx hb dX8_addBox_146 (by decide) ?_
        refine lv_iadd (pc := 147) hx hb dX8_addBox_147 ?_
        obtain ⟨M21, hM21, h⟩ := thn_ex h
        refine x_iast (pc := 148) (j := 0) E hP hS (by decide) sh8a1 0 rfl (vp_inl (by decide)) rfl dX8_addBox_148 (fun H locs hP hS => ?_)
        rw [hM21] at hP
        refine lv_iload_n (pc := 149) hx hb dX8_addBox_149 rfl (lv_at hl 0 rfl) ?_
        obtain ⟨rfl, rfl⟩ := som2 h
        exact x_iret E hP hS rfl dX8_addBox_150
      · have h := (if_pos c12).symm.trans h
        refine lv_bipush (pc := 87) (v := (-3 : Int32)) hx hb dX8_addBox_87 (by decide) ?_
        obtain ⟨rfl, rfl⟩ := som2 h
        exact x_iret E hP hS rfl dX8_addBox_89
    · have h := (if_neg c11).symm.trans h
      refine lv_bipush (pc := 71) (v := (-4 : Int32)) hx hb dX8_addBox_71 (by decide) ?_
      obtain ⟨rfl, rfl⟩ := som2 h
      exact x_iret E hP hS rfl dX8_addBox_73
  have hB36 : ∀ (M : Mem) (x2 : Int32) (H : Heap) (locs : List Loc) (ls : Array Slot), fX8_addBox_B36 M x2 = some (v, M') → va_P G vwCl (WW 7 (shR cA cZ cC ad) ad M) H → va_S (AW 7 ad) s.heap H locs → lv_has ls 4 [(0, .ref (ad 0)), (2, .int x2)] → W p l e ({ frames := 5, cells := 0, slots := 0, locals := 107 } : Room) s m args below meth c H locs 0 0 (QI below G 7 (shR cA cZ cC ad) ad .int args s v M') (F0 m 36 ls []) := by
    intro M x2 H locs ls h hP hS hl
    unfold fX8_addBox_B36 at h
    refine lv_aload_n (pc := 36) hx hb dX8_addBox_36 rfl (lv_at hl 0 rfl) ?_
    refine lv_aload_n (pc := 37) hx hb dX8_addBox_37 rfl (lv_at hl 0 rfl) ?_
    refine x_get (pc := 38) (v := .int (M 0 8)) E hP (by decide) sh8 rfl inX8 8 (by decide) q980 rfl dX8_addBox_38 ?_
    obtain ⟨y5, hy5, h⟩ := bnd_ex h
    refine x_callVi (pc := 41) (st := .int (M 0 8) :: .ref (ad 0) :: []) (As := [.int (M 0 8)]) E hEx hl.1 hP hS (kX8_noBox hap  M _ _ hy5) gX8_99 hdX8_noBox rfl (by decide) sh8 rfl ⟨Nat.le_of_ble_eq_true rfl, Nat.le_of_ble_eq_true rfl⟩ ⟨rfl, rfl⟩ dX8_addBox_41 rfl (Nat.le_of_ble_eq_true rfl) (fun H locs hP hS n6 => ?_)
    refine lv_if_ne (pc := 44) (tgt := 62) hx hb dX8_addBox_44 (by decide) (fun c7 => ?_) (fun c7 => ?_)
    · have h := (if_neg c7).symm.trans h
      refine lv_iconst (pc := 62) (v := (-1 : Int32)) hx hb dX8_addBox_62 (by decide) ?_
      obtain ⟨rfl, rfl⟩ := som2 h
      exact x_iret E hP hS rfl dX8_addBox_63
    · have h := (if_pos c7).symm.trans h
      refine lv_iload_n (pc := 47) hx hb dX8_addBox_47 rfl (lv_at hl 1 rfl) ?_
      refine lv_if_eq (pc := 48) (tgt := 64) hx hb dX8_addBox_48 (by decide) (fun c8 => ?_) (fun c8 => ?_)
      · have h := (if_pos c8).symm.trans h
        exact hB64 M _ _ _ h hP hS (lv_sub hl [0] rfl)
      · have h := (if_neg c8).symm.trans h
        refine lv_aload_n (pc := 51) hx hb dX8_addBox_51 rfl (lv_at hl 0 rfl) ?_
        refine lv_aload_n (pc := 52) hx hb dX8_addBox_52 rfl (lv_at hl 0 rfl) ?_
        refine x_get (pc := 53) (v := .int (M 0 10)) E hP (by decide) sh8 rfl inX8 10 (by decide) q982 rfl dX8_addBox_53 ?_
        obtain ⟨y22, hy22, h⟩ := bnd_ex h
        refine x_callVi (pc := 56) (st := .int (M 0 10) :: .ref (ad 0) :: []) (As := [.int (M 0 10)]) E hEx hl.1 hP hS (kX8_noProp hap  M _ _ hy22) gX8_102 hdX8_noProp rfl (by decide) sh8 rfl ⟨Nat.le_of_ble_eq_true rfl, Nat.le_of_ble_eq_true rfl⟩ ⟨rfl, rfl⟩ dX8_addBox_56 rfl (Nat.le_of_ble_eq_true rfl) (fun H locs hP hS n23 => ?_)
        refine lv_if_eq (pc := 59) (tgt := 64) hx hb dX8_addBox_59 (by decide) (fun c24 => ?_) (fun c24 => ?_)
        · have h := (if_pos c24).symm.trans h
          exact hB64 M _ _ _ h hP hS (lv_sub hl [0] rfl)
        · have h := (if_neg c24).symm.trans h
          refine lv_iconst (pc := 62) (v := (-1 : Int32)) hx hb dX8_addBox_62 (by decide) ?_
          obtain ⟨rfl, rfl⟩ := som2 h
          exact x_iret E hP hS rfl dX8_addBox_63
  unfold fX8_addBox at h
  refine lv_aload_n (pc := 0) hx hb dX8_addBox_0 rfl (lv_at hl 0 rfl) ?_
  obtain ⟨q1, hq1, h⟩ := bnd_ex h
  refine x_callVi (pc := 1) (st := .ref (ad 0) :: []) (As := []) E hEx hl.1 hP hS (kX8_faultOfText hap  M  _ _ hq1) gX8_96 hdX8_faultOfText rfl (by decide) sh8 rfl ⟨Nat.le_of_ble_eq_true rfl, Nat.le_of_ble_eq_true rfl⟩ ⟨rfl, rfl⟩ dX8_addBox_1 rfl (Nat.le_of_ble_eq_true rfl) (fun H locs hP hS n2 => ?_)
  refine lv_istore_n (pc := 4) (lv' := [(1, .int q1.1), (0, .ref (ad 0))]) hx hb dX8_addBox_4 rfl hl (by decide) rfl (fun ls hl => ?_)
  refine lv_iload_n (pc := 5) hx hb dX8_addBox_5 rfl (lv_at hl 0 rfl) ?_
  refine lv_if_lt (pc := 6) (tgt := 14) hx hb dX8_addBox_6 (by decide) (fun c3 => ?_) (fun c3 => ?_)
  · have h := (if_pos c3).symm.trans h
    refine lv_aload_n (pc := 14) hx hb dX8_addBox_14 rfl (lv_at hl 1 rfl) ?_
    refine x_get (pc := 15) (v := .int (q1.2 0 9)) E hP (by decide) sh8 rfl inX8 9 (by decide) q981 rfl dX8_addBox_15 ?_
    refine lv_iconst (pc := 18) (v := (1 : Int32)) hx hb dX8_addBox_18 (by decide) ?_
    refine lv_icmp_eq (pc := 19) (tgt := 30) hx hb dX8_addBox_19 (by decide) (fun c4 => ?_) (fun c4 => ?_)
    · have h := (if_pos c4).symm.trans h
      refine lv_iconst (pc := 30) (v := (1 : Int32)) hx hb dX8_addBox_30 (by decide) ?_
      refine lv_goto (pc := 31) (tgt := 35) hx hb dX8_addBox_31 (by decide) ?_
      refine lv_istore_n (pc := 35) (lv' := [(2, .int (1 : Int32)), (1, .int q1.1), (0, .ref (ad 0))]) hx hb dX8_addBox_35 rfl hl (by decide) rfl (fun ls hl => ?_)
      exact hB36 q1.2 (1 : Int32) _ _ _ h hP hS (lv_sub hl [2, 0] rfl)
    · have h := (if_neg c4).symm.trans h
      refine lv_aload_n (pc := 22) hx hb dX8_addBox_22 rfl (lv_at hl 1 rfl) ?_
      refine x_get (pc := 23) (v := .int (q1.2 0 9)) E hP (by decide) sh8 rfl inX8 9 (by decide) q981 rfl dX8_addBox_23 ?_
      refine lv_iconst (pc := 26) (v := (2 : Int32)) hx hb dX8_addBox_26 (by decide) ?_
      refine lv_icmp_le (pc := 27) (tgt := 34) hx hb dX8_addBox_27 (by decide) (fun c25 => ?_) (fun c25 => ?_)
      · have h := (if_pos c25).symm.trans h
        refine lv_iconst (pc := 34) (v := (0 : Int32)) hx hb dX8_addBox_34 (by decide) ?_
        refine lv_istore_n (pc := 35) (lv' := [(2, .int (0 : Int32)), (1, .int q1.1), (0, .ref (ad 0))]) hx hb dX8_addBox_35 rfl hl (by decide) rfl (fun ls hl => ?_)
        exact hB36 q1.2 (0 : Int32) _ _ _ h hP hS (lv_sub hl [2, 0] rfl)
      · have h := (if_neg c25).symm.trans h
        refine lv_iconst (pc := 30) (v := (1 : Int32)) hx hb dX8_addBox_30 (by decide) ?_
        refine lv_goto (pc := 31) (tgt := 35) hx hb dX8_addBox_31 (by decide) ?_
        refine lv_istore_n (pc := 35) (lv' := [(2, .int (1 : Int32)), (1, .int q1.1), (0, .ref (ad 0))]) hx hb dX8_addBox_35 rfl hl (by decide) rfl (fun ls hl => ?_)
        exact hB36 q1.2 (1 : Int32) _ _ _ h hP hS (lv_sub hl [2, 0] rfl)
  · have h := (if_neg c3).symm.trans h
    refine lv_bipush (pc := 9) (v := (-100 : Int32)) hx hb dX8_addBox_9 (by decide) ?_
    refine lv_iload_n (pc := 11) hx hb dX8_addBox_11 rfl (lv_at hl 0 rfl) ?_
    refine lv_isub (pc := 12) hx hb dX8_addBox_12 ?_
    obtain ⟨rfl, rfl⟩ := som2 h
    exact x_iret E hP hS rfl dX8_addBox_13
set_option maxRecDepth 100000 in
set_option maxHeartbeats 4000000 in
theorem kX8_addProp (hap : Apart 7 ad)   (M : Mem) (x1 : Int32) (v : Int32) (M' : Mem) (h : fX8_addProp M x1 = some (v, M')) : RI G ad cA cZ cC yX8_addProp cX8_addProp 3 .int ({ frames := 2, cells := 0, slots := 0, locals := 43 } : Room) [.ref (ad 0), .int x1] M v M' := by
  refine CI.mk (own := RX8) (ls0 := [(0, .ref (ad 0)), (1, .int x1)]) (by decide +kernel) rfl hap (Nat.le_of_ble_eq_true rfl) rfl ?_
  intro p l e s m args below meth c ls E hP hl
  have hx := E.1
  have hb := E.2.1
  have hown := E.2.2.2.2.2.1
  have hts := E.2.2.2.2.2.2.1
  have hEx := ExR.ok 7 ad
  have hS : va_S (AW 7 ad) s.heap s.heap [] := va_S.rf
  unfold fX8_addProp at h
  refine lv_aload_n (pc := 0) hx hb dX8_addProp_0 rfl (lv_at hl 0 rfl) ?_
  refine lv_iload_n (pc := 1) hx hb dX8_addProp_1 rfl (lv_at hl 1 rfl) ?_
  obtain ⟨y1, hy1, h⟩ := bnd_ex h
  refine x_callVi (pc := 2) (st := .int x1 :: .ref (ad 0) :: []) (As := [.int x1]) E hEx hl.1 hP hS (kX8_noBox hap  M _ _ hy1) gX8_99 hdX8_noBox rfl (by decide) sh8 rfl ⟨Nat.le_of_ble_eq_true rfl, Nat.le_of_ble_eq_true rfl⟩ ⟨rfl, rfl⟩ dX8_addProp_2 rfl (Nat.le_of_ble_eq_true rfl) (fun H locs hP hS n2 => ?_)
  refine lv_if_eq (pc := 5) (tgt := 10) hx hb dX8_addProp_5 (by decide) (fun c3 => ?_) (fun c3 => ?_)
  · have h := (if_pos c3).symm.trans h
    refine lv_aload_n (pc := 10) hx hb dX8_addProp_10 rfl (lv_at hl 0 rfl) ?_
    obtain ⟨y4, hy4, h⟩ := bnd_ex h
    refine x_callVi (pc := 11) (st := .ref (ad 0) :: []) (As := []) E hEx hl.1 hP hS (kX8_plays hap  M  _ hy4) gX8_105 hdX8_plays rfl (by decide) sh8 rfl ⟨Nat.le_of_ble_eq_true rfl, Nat.le_of_ble_eq_true rfl⟩ ⟨rfl, rfl⟩ dX8_addProp_11 rfl (Nat.le_of_ble_eq_true rfl) (fun H locs hP hS n5 => ?_)
    refine lv_if_eq (pc := 14) (tgt := 20) hx hb dX8_addProp_14 (by decide) (fun c6 => ?_) (fun c6 => ?_)
    · have h := (if_pos c6).symm.trans h
      refine lv_aload_n (pc := 20) hx hb dX8_addProp_20 rfl (lv_at hl 0 rfl) ?_
      refine x_get (pc := 21) (v := .ref (ad 1)) E hP (by decide) sh8 rfl inX8 0 (by decide) q972 rfl dX8_addProp_21 ?_
      refine lv_iconst (pc := 24) (v := (1 : Int32)) hx hb dX8_addProp_24 (by decide) ?_
      refine x_iald (pc := 25) (j := 1) E hP (by decide) sh8a1 0 rfl (vp_inl (by decide)) rfl dX8_addProp_25 ?_
      refine lv_istore_n (pc := 26) (lv' := [(2, .int (M 1 1)), (0, .ref (ad 0)), (1, .int x1)]) hx hb dX8_addProp_26 rfl hl (by decide) rfl (fun ls hl => ?_)
      refine lv_iload_n (pc := 27) hx hb dX8_addProp_27 rfl (lv_at hl 0 rfl) ?_
      refine lv_bipush (pc := 28) (v := (24 : Int32)) hx hb dX8_addProp_28 (by decide) ?_
      refine lv_icmp_ne (pc := 30) (tgt := 36) hx hb dX8_addProp_30 (by decide) (fun c7 => ?_) (fun c7 => ?_)
      · have h := (if_neg c7).symm.trans h
        refine lv_aload_n (pc := 36) hx hb dX8_addProp_36 rfl (lv_at hl 1 rfl) ?_
        refine x_get (pc := 37) (v := .ref (ad 1)) E hP (by decide) sh8 rfl inX8 0 (by decide) q972 rfl dX8_addProp_37 ?_
        refine lv_bipush (pc := 40) (v := (80 : Int32)) hx hb dX8_addProp_40 (by decide) ?_
        refine lv_iload_n (pc := 42) hx hb dX8_addProp_42 rfl (lv_at hl 0 rfl) ?_
        refine lv_iadd (pc := 43) hx hb dX8_addProp_43 ?_
        refine lv_iload_n (pc := 44) hx hb dX8_addProp_44 rfl (lv_at hl 2 rfl) ?_
        obtain ⟨c8, h⟩ := ite_some h
        obtain ⟨M9, hM9, h⟩ := thn_ex h
        refine x_iast (pc := 45) (j := ((80 : Int32) + (M 1 1)).toNatClampNeg) E hP hS (by decide) sh8a1 0 rfl (inb_in c8) rfl dX8_addProp_45 (fun H locs hP hS => ?_)
        rw [hM9] at hP
        refine lv_aload_n (pc := 46) hx hb dX8_addProp_46 rfl (lv_at hl 1 rfl) ?_
        refine x_get (pc := 47) (v := .ref (ad 1)) E hP (by decide) sh8 rfl inX8 0 (by decide) q972 rfl dX8_addProp_47 ?_
        refine lv_bipush (pc := 50) (v := (104 : Int32)) hx hb dX8_addProp_50 (by decide) ?_
        refine lv_iload_n (pc := 52) hx hb dX8_addProp_52 rfl (lv_at hl 0 rfl) ?_
        refine lv_iadd (pc := 53) hx hb dX8_addProp_53 ?_
        refine lv_iload_n (pc := 54) hx hb dX8_addProp_54 rfl (lv_at hl 2 rfl) ?_
        obtain ⟨c10, h⟩ := ite_some h
        obtain ⟨M11, hM11, h⟩ := thn_ex h
        refine x_iast (pc := 55) (j := ((104 : Int32) + (M 1 1)).toNatClampNeg) E hP hS (by decide) sh8a1 0 rfl (inb_in c10) rfl dX8_addProp_55 (fun H locs hP hS => ?_)
        rw [hM11] at hP
        refine lv_aload_n (pc := 56) hx hb dX8_addProp_56 rfl (lv_at hl 1 rfl) ?_
        refine x_get (pc := 57) (v := .ref (ad 1)) E hP (by decide) sh8 rfl inX8 0 (by decide) q972 rfl dX8_addProp_57 ?_
        refine lv_iconst (pc := 60) (v := (1 : Int32)) hx hb dX8_addProp_60 (by decide) ?_
        refine lv_dup2_11 (pc := 61) hx hb dX8_addProp_61 rfl rfl ?_
        refine x_iald (pc := 62) (j := 1) E hP (by decide) sh8a1 0 rfl (vp_inl (by decide)) rfl dX8_addProp_62 ?_
        refine lv_iconst (pc := 63) (v := (1 : Int32)) hx hb dX8_addProp_63 (by decide) ?_
        refine lv_iadd (pc := 64) hx hb dX8_addProp_64 ?_
        obtain ⟨M12, hM12, h⟩ := thn_ex h
        refine x_iast (pc := 65) (j := 1) E hP hS (by decide) sh8a1 0 rfl (vp_inl (by decide)) rfl dX8_addProp_65 (fun H locs hP hS => ?_)
        rw [hM12] at hP
        refine lv_iload_n (pc := 66) hx hb dX8_addProp_66 rfl (lv_at hl 0 rfl) ?_
        obtain ⟨rfl, rfl⟩ := som2 h
        exact x_iret E hP hS rfl dX8_addProp_67
      · have h := (if_pos c7).symm.trans h
        refine lv_bipush (pc := 33) (v := (-3 : Int32)) hx hb dX8_addProp_33 (by decide) ?_
        obtain ⟨rfl, rfl⟩ := som2 h
        exact x_iret E hP hS rfl dX8_addProp_35
    · have h := (if_neg c6).symm.trans h
      refine lv_bipush (pc := 17) (v := (-4 : Int32)) hx hb dX8_addProp_17 (by decide) ?_
      obtain ⟨rfl, rfl⟩ := som2 h
      exact x_iret E hP hS rfl dX8_addProp_19
  · have h := (if_neg c3).symm.trans h
    refine lv_iconst (pc := 8) (v := (-1 : Int32)) hx hb dX8_addProp_8 (by decide) ?_
    obtain ⟨rfl, rfl⟩ := som2 h
    exact x_iret E hP hS rfl dX8_addProp_9
set_option maxRecDepth 100000 in
set_option maxHeartbeats 4000000 in
theorem kX8_addClue (hap : Apart 7 ad)   (M : Mem) (x1 x2 x3 : Int32) (v : Int32) (M' : Mem) (h : fX8_addClue M x1 x2 x3 = some (v, M')) : RI G ad cA cZ cC yX8_addClue cX8_addClue 5 .int ({ frames := 2, cells := 0, slots := 0, locals := 43 } : Room) [.ref (ad 0), .int x1, .int x2, .int x3] M v M' := by
  refine CI.mk (own := RX8) (ls0 := [(0, .ref (ad 0)), (1, .int x1), (2, .int x2), (3, .int x3)]) (by decide +kernel) rfl hap (Nat.le_of_ble_eq_true rfl) rfl ?_
  intro p l e s m args below meth c ls E hP hl
  have hx := E.1
  have hb := E.2.1
  have hown := E.2.2.2.2.2.1
  have hts := E.2.2.2.2.2.2.1
  have hEx := ExR.ok 7 ad
  have hS : va_S (AW 7 ad) s.heap s.heap [] := va_S.rf
  unfold fX8_addClue at h
  refine lv_aload_n (pc := 0) hx hb dX8_addClue_0 rfl (lv_at hl 0 rfl) ?_
  refine lv_iload_n (pc := 1) hx hb dX8_addClue_1 rfl (lv_at hl 1 rfl) ?_
  obtain ⟨y1, hy1, h⟩ := bnd_ex h
  refine x_callVi (pc := 2) (st := .int x1 :: .ref (ad 0) :: []) (As := [.int x1]) E hEx hl.1 hP hS (kX8_noProp hap  M _ _ hy1) gX8_102 hdX8_noProp rfl (by decide) sh8 rfl ⟨Nat.le_of_ble_eq_true rfl, Nat.le_of_ble_eq_true rfl⟩ ⟨rfl, rfl⟩ dX8_addClue_2 rfl (Nat.le_of_ble_eq_true rfl) (fun H locs hP hS n2 => ?_)
  refine lv_if_ne (pc := 5) (tgt := 16) hx hb dX8_addClue_5 (by decide) (fun c3 => ?_) (fun c3 => ?_)
  · have h := (if_neg c3).symm.trans h
    refine lv_iconst (pc := 16) (v := (-1 : Int32)) hx hb dX8_addClue_16 (by decide) ?_
    obtain ⟨rfl, rfl⟩ := som2 h
    exact x_iret E hP hS rfl dX8_addClue_17
  · have h := (if_pos c3).symm.trans h
    refine lv_aload_n (pc := 8) hx hb dX8_addClue_8 rfl (lv_at hl 0 rfl) ?_
    refine lv_iload_n (pc := 9) hx hb dX8_addClue_9 rfl (lv_at hl 2 rfl) ?_
    obtain ⟨y4, hy4, h⟩ := bnd_ex h
    refine x_callVi (pc := 10) (st := .int x2 :: .ref (ad 0) :: []) (As := [.int x2]) E hEx hl.1 hP hS (kX8_noBox hap  M _ _ hy4) gX8_99 hdX8_noBox rfl (by decide) sh8 rfl ⟨Nat.le_of_ble_eq_true rfl, Nat.le_of_ble_eq_true rfl⟩ ⟨rfl, rfl⟩ dX8_addClue_10 rfl (Nat.le_of_ble_eq_true rfl) (fun H locs hP hS n5 => ?_)
    refine lv_if_eq (pc := 13) (tgt := 18) hx hb dX8_addClue_13 (by decide) (fun c6 => ?_) (fun c6 => ?_)
    · have h := (if_pos c6).symm.trans h
      refine lv_iload_n (pc := 18) hx hb dX8_addClue_18 rfl (lv_at hl 3 rfl) ?_
      refine lv_iconst (pc := 19) (v := (0 : Int32)) hx hb dX8_addClue_19 (by decide) ?_
      refine lv_iconst (pc := 20) (v := (3 : Int32)) hx hb dX8_addClue_20 (by decide) ?_
      refine x_callSi (pc := 21) (st := .int (3 : Int32) :: .int (0 : Int32) :: .int x3 :: []) (As := [.int x3, .int (0 : Int32), .int (3 : Int32)]) E hEx hl.1 hP hS (kX8_in hap  M _ _ _ _ rfl) gX8_30 hsX8_in rfl ⟨Nat.le_of_ble_eq_true rfl, Nat.le_of_ble_eq_true rfl⟩ ⟨rfl, rfl⟩ dX8_addClue_21 rfl (Nat.le_of_ble_eq_true rfl) (fun H locs hP hS n7 => ?_)
      refine lv_if_ne (pc := 24) (tgt := 30) hx hb dX8_addClue_24 (by decide) (fun c8 => ?_) (fun c8 => ?_)
      · have h := (if_neg c8).symm.trans h
        refine lv_iload_n (pc := 30) hx hb dX8_addClue_30 rfl (lv_at hl 2 rfl) ?_
        refine lv_if_eq (pc := 31) (tgt := 54) hx hb dX8_addClue_31 (by decide) (fun c9 => ?_) (fun c9 => ?_)
        · have h := (if_pos c9).symm.trans h
          refine lv_bipush (pc := 54) (v := (-4 : Int32)) hx hb dX8_addClue_54 (by decide) ?_
          obtain ⟨rfl, rfl⟩ := som2 h
          exact x_iret E hP hS rfl dX8_addClue_56
        · have h := (if_neg c9).symm.trans h
          refine lv_aload_n (pc := 34) hx hb dX8_addClue_34 rfl (lv_at hl 0 rfl) ?_
          refine x_get (pc := 35) (v := .ref (ad 1)) E hP (by decide) sh8 rfl inX8 0 (by decide) q972 rfl dX8_addClue_35 ?_
          refine lv_bipush (pc := 38) (v := (32 : Int32)) hx hb dX8_addClue_38 (by decide) ?_
          refine lv_iload_n (pc := 40) hx hb dX8_addClue_40 rfl (lv_at hl 2 rfl) ?_
          refine lv_iadd (pc := 41) hx hb dX8_addClue_41 ?_
          obtain ⟨c10, h⟩ := ite_some h
          refine x_iald (pc := 42) (j := ((32 : Int32) + x2).toNatClampNeg) E hP (by decide) sh8a1 0 rfl (inb_in c10) rfl dX8_addClue_42 ?_
          refine lv_iconst (pc := 43) (v := (2 : Int32)) hx hb dX8_addClue_43 (by decide) ?_
          refine lv_icmp_ne (pc := 44) (tgt := 54) hx hb dX8_addClue_44 (by decide) (fun c11 => ?_) (fun c11 => ?_)
          · have h := (if_neg c11).symm.trans h
            refine lv_bipush (pc := 54) (v := (-4 : Int32)) hx hb dX8_addClue_54 (by decide) ?_
            obtain ⟨rfl, rfl⟩ := som2 h
            exact x_iret E hP hS rfl dX8_addClue_56
          · have h := (if_pos c11).symm.trans h
            refine lv_aload_n (pc := 47) hx hb dX8_addClue_47 rfl (lv_at hl 0 rfl) ?_
            obtain ⟨y12, hy12, h⟩ := bnd_ex h
            refine x_callVi (pc := 48) (st := .ref (ad 0) :: []) (As := []) E hEx hl.1 hP hS (kX8_plays hap  M  _ hy12) gX8_105 hdX8_plays rfl (by decide) sh8 rfl ⟨Nat.le_of_ble_eq_true rfl, Nat.le_of_ble_eq_true rfl⟩ ⟨rfl, rfl⟩ dX8_addClue_48 rfl (Nat.le_of_ble_eq_true rfl) (fun H locs hP hS n13 => ?_)
            refine lv_if_eq (pc := 51) (tgt := 57) hx hb dX8_addClue_51 (by decide) (fun c14 => ?_) (fun c14 => ?_)
            · have h := (if_pos c14).symm.trans h
              refine lv_aload_n (pc := 57) hx hb dX8_addClue_57 rfl (lv_at hl 0 rfl) ?_
              refine x_get (pc := 58) (v := .ref (ad 1)) E hP (by decide) sh8 rfl inX8 0 (by decide) q972 rfl dX8_addClue_58 ?_
              refine lv_iconst (pc := 61) (v := (2 : Int32)) hx hb dX8_addClue_61 (by decide) ?_
              refine x_iald (pc := 62) (j := 2) E hP (by decide) sh8a1 0 rfl (vp_inl (by decide)) rfl dX8_addClue_62 ?_
              refine lv_istore (pc := 63) (lv' := [(4, .int (M 1 2)), (0, .ref (ad 0)), (1, .int x1), (2, .int x2), (3, .int x3)]) hx hb dX8_addClue_63 hl (by decide) rfl (fun ls hl => ?_)
              refine lv_iload (pc := 65) hx hb dX8_addClue_65 (lv_at hl 0 rfl) ?_
              refine lv_bipush (pc := 67) (v := (12 : Int32)) hx hb dX8_addClue_67 (by decide) ?_
              refine lv_icmp_ne (pc := 69) (tgt := 75) hx hb dX8_addClue_69 (by decide) (fun c15 => ?_) (fun c15 => ?_)
              · have h := (if_neg c15).symm.trans h
                refine lv_aload_n (pc := 75) hx hb dX8_addClue_75 rfl (lv_at hl 1 rfl) ?_
                refine x_get (pc := 76) (v := .ref (ad 1)) E hP (by decide) sh8 rfl inX8 0 (by decide) q972 rfl dX8_addClue_76 ?_
                refine lv_sipush (pc := 79) (v := (128 : Int32)) hx hb dX8_addClue_79 (by decide) ?_
                refine lv_iload (pc := 82) hx hb dX8_addClue_82 (lv_at hl 0 rfl) ?_
                refine lv_iadd (pc := 84) hx hb dX8_addClue_84 ?_
                refine lv_iload_n (pc := 85) hx hb dX8_addClue_85 rfl (lv_at hl 2 rfl) ?_
                obtain ⟨c16, h⟩ := ite_some h
                obtain ⟨M17, hM17, h⟩ := thn_ex h
                refine x_iast (pc := 86) (j := ((128 : Int32) + (M 1 2)).toNatClampNeg) E hP hS (by decide) sh8a1 0 rfl (inb_in c16) rfl dX8_addClue_86 (fun H locs hP hS => ?_)
                rw [hM17] at hP
                refine lv_aload_n (pc := 87) hx hb dX8_addClue_87 rfl (lv_at hl 1 rfl) ?_
                refine x_get (pc := 88) (v := .ref (ad 1)) E hP (by decide) sh8 rfl inX8 0 (by decide) q972 rfl dX8_addClue_88 ?_
                refine lv_sipush (pc := 91) (v := (140 : Int32)) hx hb dX8_addClue_91 (by decide) ?_
                refine lv_iload (pc := 94) hx hb dX8_addClue_94 (lv_at hl 0 rfl) ?_
                refine lv_iadd (pc := 96) hx hb dX8_addClue_96 ?_
                refine lv_iload_n (pc := 97) hx hb dX8_addClue_97 rfl (lv_at hl 3 rfl) ?_
                obtain ⟨c18, h⟩ := ite_some h
                obtain ⟨M19, hM19, h⟩ := thn_ex h
                refine x_iast (pc := 98) (j := ((140 : Int32) + (M 1 2)).toNatClampNeg) E hP hS (by decide) sh8a1 0 rfl (inb_in c18) rfl dX8_addClue_98 (fun H locs hP hS => ?_)
                rw [hM19] at hP
                refine lv_aload_n (pc := 99) hx hb dX8_addClue_99 rfl (lv_at hl 1 rfl) ?_
                refine x_get (pc := 100) (v := .ref (ad 1)) E hP (by decide) sh8 rfl inX8 0 (by decide) q972 rfl dX8_addClue_100 ?_
                refine lv_sipush (pc := 103) (v := (152 : Int32)) hx hb dX8_addClue_103 (by decide) ?_
                refine lv_iload (pc := 106) hx hb dX8_addClue_106 (lv_at hl 0 rfl) ?_
                refine lv_iadd (pc := 108) hx hb dX8_addClue_108 ?_
                refine lv_iload_n (pc := 109) hx hb dX8_addClue_109 rfl (lv_at hl 4 rfl) ?_
                obtain ⟨c20, h⟩ := ite_some h
                obtain ⟨M21, hM21, h⟩ := thn_ex h
                refine x_iast (pc := 110) (j := ((152 : Int32) + (M 1 2)).toNatClampNeg) E hP hS (by decide) sh8a1 0 rfl (inb_in c20) rfl dX8_addClue_110 (fun H locs hP hS => ?_)
                rw [hM21] at hP
                refine lv_aload_n (pc := 111) hx hb dX8_addClue_111 rfl (lv_at hl 1 rfl) ?_
                refine x_get (pc := 112) (v := .ref (ad 1)) E hP (by decide) sh8 rfl inX8 0 (by decide) q972 rfl dX8_addClue_112 ?_
                refine lv_sipush (pc := 115) (v := (164 : Int32)) hx hb dX8_addClue_115 (by decide) ?_
                refine lv_iload (pc := 118) hx hb dX8_addClue_118 (lv_at hl 0 rfl) ?_
                refine lv_iadd (pc := 120) hx hb dX8_addClue_120 ?_
                refine lv_bipush (pc := 121) (v := (9 : Int32)) hx hb dX8_addClue_121 (by decide) ?_
                obtain ⟨c22, h⟩ := ite_some h
                obtain ⟨M23, hM23, h⟩ := thn_ex h
                refine x_iast (pc := 123) (j := ((164 : Int32) + (M 1 2)).toNatClampNeg) E hP hS (by decide) sh8a1 0 rfl (inb_in c22) rfl dX8_addClue_123 (fun H locs hP hS => ?_)
                rw [hM23] at hP
                refine lv_aload_n (pc := 124) hx hb dX8_addClue_124 rfl (lv_at hl 1 rfl) ?_
                refine x_get (pc := 125) (v := .ref (ad 1)) E hP (by decide) sh8 rfl inX8 0 (by decide) q972 rfl dX8_addClue_125 ?_
                refine lv_iconst (pc := 128) (v := (2 : Int32)) hx hb dX8_addClue_128 (by decide) ?_
                refine lv_dup2_11 (pc := 129) hx hb dX8_addClue_129 rfl rfl ?_
                refine x_iald (pc := 130) (j := 2) E hP (by decide) sh8a1 0 rfl (vp_inl (by decide)) rfl dX8_addClue_130 ?_
                refine lv_iconst (pc := 131) (v := (1 : Int32)) hx hb dX8_addClue_131 (by decide) ?_
                refine lv_iadd (pc := 132) hx hb dX8_addClue_132 ?_
                obtain ⟨M24, hM24, h⟩ := thn_ex h
                refine x_iast (pc := 133) (j := 2) E hP hS (by decide) sh8a1 0 rfl (vp_inl (by decide)) rfl dX8_addClue_133 (fun H locs hP hS => ?_)
                rw [hM24] at hP
                refine lv_iload (pc := 134) hx hb dX8_addClue_134 (lv_at hl 0 rfl) ?_
                obtain ⟨rfl, rfl⟩ := som2 h
                exact x_iret E hP hS rfl dX8_addClue_136
              · have h := (if_pos c15).symm.trans h
                refine lv_bipush (pc := 72) (v := (-3 : Int32)) hx hb dX8_addClue_72 (by decide) ?_
                obtain ⟨rfl, rfl⟩ := som2 h
                exact x_iret E hP hS rfl dX8_addClue_74
            · have h := (if_neg c14).symm.trans h
              refine lv_bipush (pc := 54) (v := (-4 : Int32)) hx hb dX8_addClue_54 (by decide) ?_
              obtain ⟨rfl, rfl⟩ := som2 h
              exact x_iret E hP hS rfl dX8_addClue_56
      · have h := (if_pos c8).symm.trans h
        refine lv_bipush (pc := 27) (v := (-2 : Int32)) hx hb dX8_addClue_27 (by decide) ?_
        obtain ⟨rfl, rfl⟩ := som2 h
        exact x_iret E hP hS rfl dX8_addClue_29
    · have h := (if_neg c6).symm.trans h
      refine lv_iconst (pc := 16) (v := (-1 : Int32)) hx hb dX8_addClue_16 (by decide) ?_
      obtain ⟨rfl, rfl⟩ := som2 h
      exact x_iret E hP hS rfl dX8_addClue_17
set_option maxRecDepth 100000 in
set_option maxHeartbeats 4000000 in
theorem kX8_setExit (hap : Apart 7 ad)   (M : Mem) (x1 : Int32) (v : Int32) (M' : Mem) (h : fX8_setExit M x1 = some (v, M')) : RI G ad cA cZ cC yX8_setExit cX8_setExit 3 .int ({ frames := 2, cells := 0, slots := 0, locals := 43 } : Room) [.ref (ad 0), .int x1] M v M' := by
  refine CI.mk (own := RX8) (ls0 := [(0, .ref (ad 0)), (1, .int x1)]) (by decide +kernel) rfl hap (Nat.le_of_ble_eq_true rfl) rfl ?_
  intro p l e s m args below meth c ls E hP hl
  have hx := E.1
  have hb := E.2.1
  have hown := E.2.2.2.2.2.1
  have hts := E.2.2.2.2.2.2.1
  have hEx := ExR.ok 7 ad
  have hS : va_S (AW 7 ad) s.heap s.heap [] := va_S.rf
  unfold fX8_setExit at h
  refine lv_aload_n (pc := 0) hx hb dX8_setExit_0 rfl (lv_at hl 0 rfl) ?_
  refine lv_iload_n (pc := 1) hx hb dX8_setExit_1 rfl (lv_at hl 1 rfl) ?_
  obtain ⟨y1, hy1, h⟩ := bnd_ex h
  refine x_callVi (pc := 2) (st := .int x1 :: .ref (ad 0) :: []) (As := [.int x1]) E hEx hl.1 hP hS (kX8_noBox hap  M _ _ hy1) gX8_99 hdX8_noBox rfl (by decide) sh8 rfl ⟨Nat.le_of_ble_eq_true rfl, Nat.le_of_ble_eq_true rfl⟩ ⟨rfl, rfl⟩ dX8_setExit_2 rfl (Nat.le_of_ble_eq_true rfl) (fun H locs hP hS n2 => ?_)
  refine lv_if_eq (pc := 5) (tgt := 10) hx hb dX8_setExit_5 (by decide) (fun c3 => ?_) (fun c3 => ?_)
  · have h := (if_pos c3).symm.trans h
    refine lv_iload_n (pc := 10) hx hb dX8_setExit_10 rfl (lv_at hl 1 rfl) ?_
    refine lv_if_ne (pc := 11) (tgt := 17) hx hb dX8_setExit_11 (by decide) (fun c4 => ?_) (fun c4 => ?_)
    · have h := (if_neg c4).symm.trans h
      refine lv_aload_n (pc := 17) hx hb dX8_setExit_17 rfl (lv_at hl 0 rfl) ?_
      obtain ⟨y5, hy5, h⟩ := bnd_ex h
      refine x_callVi (pc := 18) (st := .ref (ad 0) :: []) (As := []) E hEx hl.1 hP hS (kX8_plays hap  M  _ hy5) gX8_105 hdX8_plays rfl (by decide) sh8 rfl ⟨Nat.le_of_ble_eq_true rfl, Nat.le_of_ble_eq_true rfl⟩ ⟨rfl, rfl⟩ dX8_setExit_18 rfl (Nat.le_of_ble_eq_true rfl) (fun H locs hP hS n6 => ?_)
      refine lv_if_eq (pc := 21) (tgt := 27) hx hb dX8_setExit_21 (by decide) (fun c7 => ?_) (fun c7 => ?_)
      · have h := (if_pos c7).symm.trans h
        refine lv_aload_n (pc := 27) hx hb dX8_setExit_27 rfl (lv_at hl 0 rfl) ?_
        refine x_get (pc := 28) (v := .ref (ad 1)) E hP (by decide) sh8 rfl inX8 0 (by decide) q972 rfl dX8_setExit_28 ?_
        refine lv_iconst (pc := 31) (v := (5 : Int32)) hx hb dX8_setExit_31 (by decide) ?_
        refine x_iald (pc := 32) (j := 5) E hP (by decide) sh8a1 0 rfl (vp_inl (by decide)) rfl dX8_setExit_32 ?_
        refine lv_istore_n (pc := 33) (lv' := [(2, .int (M 1 5)), (0, .ref (ad 0)), (1, .int x1)]) hx hb dX8_setExit_33 rfl hl (by decide) rfl (fun ls hl => ?_)
        refine lv_aload_n (pc := 34) hx hb dX8_setExit_34 rfl (lv_at hl 1 rfl) ?_
        refine x_get (pc := 35) (v := .ref (ad 1)) E hP (by decide) sh8 rfl inX8 0 (by decide) q972 rfl dX8_setExit_35 ?_
        refine lv_iconst (pc := 38) (v := (5 : Int32)) hx hb dX8_setExit_38 (by decide) ?_
        refine lv_iload_n (pc := 39) hx hb dX8_setExit_39 rfl (lv_at hl 2 rfl) ?_
        obtain ⟨M8, hM8, h⟩ := thn_ex h
        refine x_iast (pc := 40) (j := 5) E hP hS (by decide) sh8a1 0 rfl (vp_inl (by decide)) rfl dX8_setExit_40 (fun H locs hP hS => ?_)
        rw [hM8] at hP
        refine lv_iload_n (pc := 41) hx hb dX8_setExit_41 rfl (lv_at hl 0 rfl) ?_
        refine lv_iload_n (pc := 42) hx hb dX8_setExit_42 rfl (lv_at hl 2 rfl) ?_
        refine lv_icmp_ne (pc := 43) (tgt := 51) hx hb dX8_setExit_43 (by decide) (fun c9 => ?_) (fun c9 => ?_)
        · have h := (if_neg c9).symm.trans h
          refine lv_iload_n (pc := 51) hx hb dX8_setExit_51 rfl (lv_at hl 0 rfl) ?_
          obtain ⟨rfl, rfl⟩ := som2 h
          exact x_iret E hP hS rfl dX8_setExit_52
        · have h := (if_pos c9).symm.trans h
          refine lv_bipush (pc := 46) (v := (-5 : Int32)) hx hb dX8_setExit_46 (by decide) ?_
          refine lv_goto (pc := 48) (tgt := 52) hx hb dX8_setExit_48 (by decide) ?_
          obtain ⟨rfl, rfl⟩ := som2 h
          exact x_iret E hP hS rfl dX8_setExit_52
      · have h := (if_neg c7).symm.trans h
        refine lv_bipush (pc := 24) (v := (-4 : Int32)) hx hb dX8_setExit_24 (by decide) ?_
        obtain ⟨rfl, rfl⟩ := som2 h
        exact x_iret E hP hS rfl dX8_setExit_26
    · have h := (if_pos c4).symm.trans h
      refine lv_bipush (pc := 14) (v := (-2 : Int32)) hx hb dX8_setExit_14 (by decide) ?_
      obtain ⟨rfl, rfl⟩ := som2 h
      exact x_iret E hP hS rfl dX8_setExit_16
  · have h := (if_neg c3).symm.trans h
    refine lv_iconst (pc := 8) (v := (-1 : Int32)) hx hb dX8_setExit_8 (by decide) ?_
    obtain ⟨rfl, rfl⟩ := som2 h
    exact x_iret E hP hS rfl dX8_setExit_9
set_option maxRecDepth 100000 in
set_option maxHeartbeats 4000000 in
theorem kX8_setLimits (hap : Apart 7 ad)   (M : Mem) (x1 x2 : Int32) (v : Int32) (M' : Mem) (h : fX8_setLimits M x1 x2 = some (v, M')) : RI G ad cA cZ cC yX8_setLimits cX8_setLimits 5 .int ({ frames := 1, cells := 0, slots := 0, locals := 22 } : Room) [.ref (ad 0), .int x1, .int x2] M v M' := by
  refine CI.mk (own := RX8) (ls0 := [(0, .ref (ad 0)), (1, .int x1), (2, .int x2)]) (by decide +kernel) rfl hap (Nat.le_of_ble_eq_true rfl) rfl ?_
  intro p l e s m args below meth c ls E hP hl
  have hx := E.1
  have hb := E.2.1
  have hown := E.2.2.2.2.2.1
  have hts := E.2.2.2.2.2.2.1
  have hEx := ExR.ok 7 ad
  have hS : va_S (AW 7 ad) s.heap s.heap [] := va_S.rf
  have hB65 : ∀ (M : Mem) (x1 x2 x3 x4 : Int32) (H : Heap) (locs : List Loc) (ls : Array Slot), fX8_setLimits_B65 M x1 x2 x3 x4 = some (v, M') → va_P G vwCl (WW 7 (shR cA cZ cC ad) ad M) H → va_S (AW 7 ad) s.heap H locs → lv_has ls 5 [(0, .ref (ad 0)), (1, .int x1), (2, .int x2), (3, .int x3), (4, .int x4)] → W p l e ({ frames := 1, cells := 0, slots := 0, locals := 22 } : Room) s m args below meth c H locs 0 0 (QI below G 7 (shR cA cZ cC ad) ad .int args s v M') (F0 m 65 ls []) := by
    intro M x1 x2 x3 x4 H locs ls h hP hS hl
    unfold fX8_setLimits_B65 at h
    refine lv_aload_n (pc := 65) hx hb dX8_setLimits_65 rfl (lv_at hl 0 rfl) ?_
    refine x_get (pc := 66) (v := .ref (ad 1)) E hP (by decide) sh8 rfl inX8 0 (by decide) q972 rfl dX8_setLimits_66 ?_
    refine lv_bipush (pc := 69) (v := (6 : Int32)) hx hb dX8_setLimits_69 (by decide) ?_
    refine lv_iload_n (pc := 71) hx hb dX8_setLimits_71 rfl (lv_at hl 1 rfl) ?_
    obtain ⟨M9, hM9, h⟩ := thn_ex h
    refine x_iast (pc := 72) (j := 6) E hP hS (by decide) sh8a1 0 rfl (vp_inl (by decide)) rfl dX8_setLimits_72 (fun H locs hP hS => ?_)
    rw [hM9] at hP
    refine lv_aload_n (pc := 73) hx hb dX8_setLimits_73 rfl (lv_at hl 0 rfl) ?_
    refine x_get (pc := 74) (v := .ref (ad 1)) E hP (by decide) sh8 rfl inX8 0 (by decide) q972 rfl dX8_setLimits_74 ?_
    refine lv_bipush (pc := 77) (v := (7 : Int32)) hx hb dX8_setLimits_77 (by decide) ?_
    refine lv_iload_n (pc := 79) hx hb dX8_setLimits_79 rfl (lv_at hl 2 rfl) ?_
    obtain ⟨M10, hM10, h⟩ := thn_ex h
    refine x_iast (pc := 80) (j := 7) E hP hS (by decide) sh8a1 0 rfl (vp_inl (by decide)) rfl dX8_setLimits_80 (fun H locs hP hS => ?_)
    rw [hM10] at hP
    refine lv_iload (pc := 81) hx hb dX8_setLimits_81 (lv_at hl 4 rfl) ?_
    refine lv_if_eq (pc := 83) (tgt := 91) hx hb dX8_setLimits_83 (by decide) (fun c11 => ?_) (fun c11 => ?_)
    · have h := (if_pos c11).symm.trans h
      refine lv_iload_n (pc := 91) hx hb dX8_setLimits_91 rfl (lv_at hl 3 rfl) ?_
      obtain ⟨rfl, rfl⟩ := som2 h
      exact x_iret E hP hS rfl dX8_setLimits_92
    · have h := (if_neg c11).symm.trans h
      refine lv_bipush (pc := 86) (v := (-5 : Int32)) hx hb dX8_setLimits_86 (by decide) ?_
      refine lv_goto (pc := 88) (tgt := 92) hx hb dX8_setLimits_88 (by decide) ?_
      obtain ⟨rfl, rfl⟩ := som2 h
      exact x_iret E hP hS rfl dX8_setLimits_92
  unfold fX8_setLimits at h
  refine lv_iload_n (pc := 0) hx hb dX8_setLimits_0 rfl (lv_at hl 1 rfl) ?_
  refine lv_bipush (pc := 1) (v := (10 : Int32)) hx hb dX8_setLimits_1 (by decide) ?_
  refine lv_bipush (pc := 3) (v := (120 : Int32)) hx hb dX8_setLimits_3 (by decide) ?_
  refine x_callSi (pc := 5) (st := .int (120 : Int32) :: .int (10 : Int32) :: .int x1 :: []) (As := [.int x1, .int (10 : Int32), .int (120 : Int32)]) E hEx hl.1 hP hS (kX8_in hap  M _ _ _ _ rfl) gX8_30 hsX8_in rfl ⟨Nat.le_of_ble_eq_true rfl, Nat.le_of_ble_eq_true rfl⟩ ⟨rfl, rfl⟩ dX8_setLimits_5 rfl (Nat.le_of_ble_eq_true rfl) (fun H locs hP hS n1 => ?_)
  refine lv_if_eq (pc := 8) (tgt := 21) hx hb dX8_setLimits_8 (by decide) (fun c2 => ?_) (fun c2 => ?_)
  · have h := (if_pos c2).symm.trans h
    refine lv_bipush (pc := 21) (v := (-2 : Int32)) hx hb dX8_setLimits_21 (by decide) ?_
    obtain ⟨rfl, rfl⟩ := som2 h
    exact x_iret E hP hS rfl dX8_setLimits_23
  · have h := (if_neg c2).symm.trans h
    refine lv_iload_n (pc := 11) hx hb dX8_setLimits_11 rfl (lv_at hl 2 rfl) ?_
    refine lv_iconst (pc := 12) (v := (0 : Int32)) hx hb dX8_setLimits_12 (by decide) ?_
    refine lv_bipush (pc := 13) (v := (9 : Int32)) hx hb dX8_setLimits_13 (by decide) ?_
    refine x_callSi (pc := 15) (st := .int (9 : Int32) :: .int (0 : Int32) :: .int x2 :: []) (As := [.int x2, .int (0 : Int32), .int (9 : Int32)]) E hEx hl.1 hP hS (kX8_in hap  M _ _ _ _ rfl) gX8_30 hsX8_in rfl ⟨Nat.le_of_ble_eq_true rfl, Nat.le_of_ble_eq_true rfl⟩ ⟨rfl, rfl⟩ dX8_setLimits_15 rfl (Nat.le_of_ble_eq_true rfl) (fun H locs hP hS n3 => ?_)
    refine lv_if_ne (pc := 18) (tgt := 24) hx hb dX8_setLimits_18 (by decide) (fun c4 => ?_) (fun c4 => ?_)
    · have h := (if_neg c4).symm.trans h
      refine lv_aload_n (pc := 24) hx hb dX8_setLimits_24 rfl (lv_at hl 0 rfl) ?_
      obtain ⟨y5, hy5, h⟩ := bnd_ex h
      refine x_callVi (pc := 25) (st := .ref (ad 0) :: []) (As := []) E hEx hl.1 hP hS (kX8_plays hap  M  _ hy5) gX8_105 hdX8_plays rfl (by decide) sh8 rfl ⟨Nat.le_of_ble_eq_true rfl, Nat.le_of_ble_eq_true rfl⟩ ⟨rfl, rfl⟩ dX8_setLimits_25 rfl (Nat.le_of_ble_eq_true rfl) (fun H locs hP hS n6 => ?_)
      refine lv_if_eq (pc := 28) (tgt := 34) hx hb dX8_setLimits_28 (by decide) (fun c7 => ?_) (fun c7 => ?_)
      · have h := (if_pos c7).symm.trans h
        refine lv_aload_n (pc := 34) hx hb dX8_setLimits_34 rfl (lv_at hl 0 rfl) ?_
        refine x_get (pc := 35) (v := .ref (ad 1)) E hP (by decide) sh8 rfl inX8 0 (by decide) q972 rfl dX8_setLimits_35 ?_
        refine lv_bipush (pc := 38) (v := (6 : Int32)) hx hb dX8_setLimits_38 (by decide) ?_
        refine x_iald (pc := 40) (j := 6) E hP (by decide) sh8a1 0 rfl (vp_inl (by decide)) rfl dX8_setLimits_40 ?_
        refine lv_istore_n (pc := 41) (lv' := [(3, .int (M 1 6)), (0, .ref (ad 0)), (1, .int x1), (2, .int x2)]) hx hb dX8_setLimits_41 rfl hl (by decide) rfl (fun ls hl => ?_)
        refine lv_iload_n (pc := 42) hx hb dX8_setLimits_42 rfl (lv_at hl 0 rfl) ?_
        refine lv_iload_n (pc := 43) hx hb dX8_setLimits_43 rfl (lv_at hl 2 rfl) ?_
        refine lv_icmp_ne (pc := 44) (tgt := 62) hx hb dX8_setLimits_44 (by decide) (fun c8 => ?_) (fun c8 => ?_)
        · have h := (if_neg c8).symm.trans h
          refine lv_iconst (pc := 62) (v := (0 : Int32)) hx hb dX8_setLimits_62 (by decide) ?_
          refine lv_istore (pc := 63) (lv' := [(4, .int (0 : Int32)), (3, .int (M 1 6)), (0, .ref (ad 0)), (1, .int x1), (2, .int x2)]) hx hb dX8_setLimits_63 hl (by decide) rfl (fun ls hl => ?_)
          exact hB65 M x1 x2 (M 1 6) (0 : Int32) _ _ _ h hP hS (lv_sub hl [2, 3, 4, 1, 0] rfl)
        · have h := (if_pos c8).symm.trans h
          refine lv_aload_n (pc := 47) hx hb dX8_setLimits_47 rfl (lv_at hl 1 rfl) ?_
          refine x_get (pc := 48) (v := .ref (ad 1)) E hP (by decide) sh8 rfl inX8 0 (by decide) q972 rfl dX8_setLimits_48 ?_
          refine lv_bipush (pc := 51) (v := (7 : Int32)) hx hb dX8_setLimits_51 (by decide) ?_
          refine x_iald (pc := 53) (j := 7) E hP (by decide) sh8a1 0 rfl (vp_inl (by decide)) rfl dX8_setLimits_53 ?_
          refine lv_iload_n (pc := 54) hx hb dX8_setLimits_54 rfl (lv_at hl 3 rfl) ?_
          refine lv_icmp_ne (pc := 55) (tgt := 62) hx hb dX8_setLimits_55 (by decide) (fun c12 => ?_) (fun c12 => ?_)
          · have h := (if_neg c12).symm.trans h
            refine lv_iconst (pc := 62) (v := (0 : Int32)) hx hb dX8_setLimits_62 (by decide) ?_
            refine lv_istore (pc := 63) (lv' := [(4, .int (0 : Int32)), (3, .int (M 1 6)), (0, .ref (ad 0)), (1, .int x1), (2, .int x2)]) hx hb dX8_setLimits_63 hl (by decide) rfl (fun ls hl => ?_)
            exact hB65 M x1 x2 (M 1 6) (0 : Int32) _ _ _ h hP hS (lv_sub hl [2, 3, 4, 1, 0] rfl)
          · have h := (if_pos c12).symm.trans h
            refine lv_iconst (pc := 58) (v := (1 : Int32)) hx hb dX8_setLimits_58 (by decide) ?_
            refine lv_goto (pc := 59) (tgt := 63) hx hb dX8_setLimits_59 (by decide) ?_
            refine lv_istore (pc := 63) (lv' := [(4, .int (1 : Int32)), (3, .int (M 1 6)), (0, .ref (ad 0)), (1, .int x1), (2, .int x2)]) hx hb dX8_setLimits_63 hl (by decide) rfl (fun ls hl => ?_)
            exact hB65 M x1 x2 (M 1 6) (1 : Int32) _ _ _ h hP hS (lv_sub hl [2, 3, 4, 1, 0] rfl)
      · have h := (if_neg c7).symm.trans h
        refine lv_bipush (pc := 31) (v := (-4 : Int32)) hx hb dX8_setLimits_31 (by decide) ?_
        obtain ⟨rfl, rfl⟩ := som2 h
        exact x_iret E hP hS rfl dX8_setLimits_33
    · have h := (if_pos c4).symm.trans h
      refine lv_bipush (pc := 21) (v := (-2 : Int32)) hx hb dX8_setLimits_21 (by decide) ?_
      obtain ⟨rfl, rfl⟩ := som2 h
      exact x_iret E hP hS rfl dX8_setLimits_23
end
