section
variable {G : va_G} {ad sK sV : Nat → Nat} {cA cZ cC : ClassId}
set_option maxRecDepth 100000 in
set_option maxHeartbeats 4000000 in
theorem kL_low (hap : Apart 78 ad)   (M : Mem) (x0 x1 : Int32) (v : Int32) (h : fL_low M x0 x1 = some v) : XI G ad sK sV cA cZ cC yL_low cL_low 2 .int ({ frames := 0, cells := 0, slots := 0, locals := 0 } : Room) [.int x0, .int x1] M v M := by
  refine CI.mk (own := RL) (ls0 := [(0, .int x0), (1, .int x1)]) (by decide +kernel) rfl hap (Nat.le_of_ble_eq_true rfl) rfl ?_
  intro p l e s m args below meth c ls E hP hl
  have hx := E.1
  have hb := E.2.1
  have hown := E.2.2.2.2.2.1
  have hts := E.2.2.2.2.2.2.1
  have hNe := E.2.2.2.2.2.2.2.2.1.1
  have hEx := ExX.ok ad sK sV
  have hS : va_S (AW 78 ad) s.heap s.heap [] := va_S.rf
  unfold fL_low at h
  refine lv_iload_n (pc := 0) hx hb dL_low_0 rfl (lv_at hl 0 rfl) ?_
  refine lv_ldc (pc := 1) (v := (2147483647 : Int32)) hx hb hown (hts _ q589) dL_low_1 ?_
  refine lv_iand (pc := 3) hx hb dL_low_3 ?_
  refine lv_iload_n (pc := 4) hx hb dL_low_4 rfl (lv_at hl 1 rfl) ?_
  obtain ⟨c1, h⟩ := ite_some h
  refine x_irem (pc := 5) hx hb dL_low_5 c1 ?_
  obtain rfl := som1 h
  exact x_iret E hP hS rfl dL_low_6
set_option maxRecDepth 100000 in
set_option maxHeartbeats 4000000 in
theorem kL_max (hap : Apart 78 ad)   (M : Mem) (x0 x1 : Int32) (v : Int32) (h : fL_max M x0 x1 = v) : XI G ad sK sV cA cZ cC yL_max cL_max 2 .int ({ frames := 0, cells := 0, slots := 0, locals := 0 } : Room) [.int x0, .int x1] M v M := by
  refine CI.mk (own := RL) (ls0 := [(0, .int x0), (1, .int x1)]) (by decide +kernel) rfl hap (Nat.le_of_ble_eq_true rfl) rfl ?_
  intro p l e s m args below meth c ls E hP hl
  have hx := E.1
  have hb := E.2.1
  have hown := E.2.2.2.2.2.1
  have hts := E.2.2.2.2.2.2.1
  have hNe := E.2.2.2.2.2.2.2.2.1.1
  have hEx := ExX.ok ad sK sV
  have hS : va_S (AW 78 ad) s.heap s.heap [] := va_S.rf
  unfold fL_max at h
  refine lv_iload_n (pc := 0) hx hb dL_max_0 rfl (lv_at hl 0 rfl) ?_
  refine lv_iload_n (pc := 1) hx hb dL_max_1 rfl (lv_at hl 1 rfl) ?_
  refine lv_icmp_le (pc := 2) (tgt := 9) hx hb dL_max_2 (by decide) (fun c1 => ?_) (fun c1 => ?_)
  · have h := (if_pos c1).symm.trans h
    refine lv_iload_n (pc := 9) hx hb dL_max_9 rfl (lv_at hl 1 rfl) ?_
    obtain rfl : x1 = v := h
    exact x_iret E hP hS rfl dL_max_10
  · have h := (if_neg c1).symm.trans h
    refine lv_iload_n (pc := 5) hx hb dL_max_5 rfl (lv_at hl 0 rfl) ?_
    refine lv_goto (pc := 6) (tgt := 10) hx hb dL_max_6 (by decide) ?_
    obtain rfl : x0 = v := h
    exact x_iret E hP hS rfl dL_max_10
set_option maxRecDepth 100000 in
set_option maxHeartbeats 4000000 in
theorem kL_allOpen (hap : Apart 78 ad)   (M : Mem) (x1 : Int32) (v : Int32) (h : fL_allOpen M x1 = some v) : XI G ad sK sV cA cZ cC yL_allOpen cL_allOpen 4 .boolean ({ frames := 4, cells := 0, slots := 0, locals := 89 } : Room) [.ref (ad 0), .int x1] M v M := by
  refine CI.mk (own := RL) (ls0 := [(0, .ref (ad 0)), (1, .int x1)]) (by decide +kernel) rfl hap (Nat.le_of_ble_eq_true rfl) rfl ?_
  intro p l e s m args below meth c ls E hP hl
  have hx := E.1
  have hb := E.2.1
  have hown := E.2.2.2.2.2.1
  have hts := E.2.2.2.2.2.2.1
  have hNe := E.2.2.2.2.2.2.2.2.1.1
  have hEx := ExX.ok ad sK sV
  have hS : va_S (AW 78 ad) s.heap s.heap [] := va_S.rf
  have hL4 : ∀ (n : Nat) (M : Mem) (x2 x3 : Int32) (H : Heap) (locs : List Loc) (ls : Array Slot), fL_allOpen_L4 n M x2 x3 = some v → va_P G vwCl (WW 78 (shX cA ad) ad M) H → va_S (AW 78 ad) s.heap H locs → lv_has ls 4 [(0, .ref (ad 0)), (2, .int x2), (3, .int x3)] → narrow .boolean (.int x2) = .int x2 → W p l e ({ frames := 4, cells := 0, slots := 0, locals := 89 } : Room) s m args below meth c H locs 0 0 (QI below G 78 (shX cA ad) ad .boolean args s v M) (F0 m 4 ls []) := by
    intro n
    induction n with
    | zero => intro M x2 x3 H locs ls h; cases h
    | succ n ih =>
      intro M x2 x3 H locs ls h hP hS hl hz2
      rw [fL_allOpen_L4] at h
      refine lv_iload_n (pc := 4) hx hb dL_allOpen_4 rfl (lv_at hl 2 rfl) ?_
      refine lv_if_le (pc := 5) (tgt := 38) hx hb dL_allOpen_5 (by decide) (fun c1 => ?_) (fun c1 => ?_)
      · have h := (if_pos c1).symm.trans h
        refine lv_iload_n (pc := 38) hx hb dL_allOpen_38 rfl (lv_at hl 1 rfl) ?_
        obtain rfl := som1 h
        exact x_iret E hP hS hz2 dL_allOpen_39
      · have h := (if_neg c1).symm.trans h
        refine lv_iload_n (pc := 8) hx hb dL_allOpen_8 rfl (lv_at hl 1 rfl) ?_
        refine lv_if_eq (pc := 9) (tgt := 26) hx hb dL_allOpen_9 (by decide) (fun c2 => ?_) (fun c2 => ?_)
        · have h := (if_pos c2).symm.trans h
          refine lv_iconst (pc := 26) (v := (0 : Int32)) hx hb dL_allOpen_26 (by decide) ?_
          refine lv_istore_n (pc := 27) (lv' := [(2, .int (0 : Int32)), (0, .ref (ad 0)), (3, .int x3)]) hx hb dL_allOpen_27 rfl hl (by decide) rfl (fun ls hl => ?_)
          refine lv_aload_n (pc := 28) hx hb dL_allOpen_28 rfl (lv_at hl 1 rfl) ?_
          refine lv_iload_n (pc := 29) hx hb dL_allOpen_29 rfl (lv_at hl 2 rfl) ?_
          refine lv_iconst (pc := 30) (v := (0 : Int32)) hx hb dL_allOpen_30 (by decide) ?_
          obtain ⟨y3, hy3, h⟩ := bnd_ex h
          refine x_callVi (pc := 31) (st := .int (0 : Int32) :: .int x3 :: .ref (ad 0) :: []) (As := [.int x3, .int (0 : Int32)]) E hEx hl.1 hP hS (kX7_box hap  M _ _ _ hy3) gL_9 hdX7_box rfl (by decide) sh7 rfl ⟨Nat.le_of_ble_eq_true rfl, Nat.le_of_ble_eq_true rfl⟩ ⟨rfl, rfl⟩ dL_allOpen_31 rfl (Nat.le_of_ble_eq_true rfl) (fun H locs hP hS n4 => ?_)
          refine lv_istore_n (pc := 34) (lv' := [(3, .int y3), (2, .int (0 : Int32)), (0, .ref (ad 0))]) hx hb dL_allOpen_34 rfl hl (by decide) rfl (fun ls hl => ?_)
          refine lv_goto (pc := 35) (tgt := 4) hx hb dL_allOpen_35 (by decide) ?_
          exact ih M (0 : Int32) y3 _ _ _ h hP hS (lv_sub hl [2, 1, 0] rfl) rfl
        · have h := (if_neg c2).symm.trans h
          refine lv_aload_n (pc := 12) hx hb dL_allOpen_12 rfl (lv_at hl 0 rfl) ?_
          refine lv_iload_n (pc := 13) hx hb dL_allOpen_13 rfl (lv_at hl 2 rfl) ?_
          refine lv_iconst (pc := 14) (v := (2 : Int32)) hx hb dL_allOpen_14 (by decide) ?_
          obtain ⟨y5, hy5, h⟩ := bnd_ex h
          refine x_callVi (pc := 15) (st := .int (2 : Int32) :: .int x3 :: .ref (ad 0) :: []) (As := [.int x3, .int (2 : Int32)]) E hEx hl.1 hP hS (kX7_box hap  M _ _ _ hy5) gL_9 hdX7_box rfl (by decide) sh7 rfl ⟨Nat.le_of_ble_eq_true rfl, Nat.le_of_ble_eq_true rfl⟩ ⟨rfl, rfl⟩ dL_allOpen_15 rfl (Nat.le_of_ble_eq_true rfl) (fun H locs hP hS n6 => ?_)
          refine lv_iconst (pc := 18) (v := (1 : Int32)) hx hb dL_allOpen_18 (by decide) ?_
          refine lv_icmp_ne (pc := 19) (tgt := 26) hx hb dL_allOpen_19 (by decide) (fun c7 => ?_) (fun c7 => ?_)
          · have h := (if_neg c7).symm.trans h
            refine lv_iconst (pc := 26) (v := (0 : Int32)) hx hb dL_allOpen_26 (by decide) ?_
            refine lv_istore_n (pc := 27) (lv' := [(2, .int (0 : Int32)), (0, .ref (ad 0)), (3, .int x3)]) hx hb dL_allOpen_27 rfl hl (by decide) rfl (fun ls hl => ?_)
            refine lv_aload_n (pc := 28) hx hb dL_allOpen_28 rfl (lv_at hl 1 rfl) ?_
            refine lv_iload_n (pc := 29) hx hb dL_allOpen_29 rfl (lv_at hl 2 rfl) ?_
            refine lv_iconst (pc := 30) (v := (0 : Int32)) hx hb dL_allOpen_30 (by decide) ?_
            obtain ⟨y8, hy8, h⟩ := bnd_ex h
            refine x_callVi (pc := 31) (st := .int (0 : Int32) :: .int x3 :: .ref (ad 0) :: []) (As := [.int x3, .int (0 : Int32)]) E hEx hl.1 hP hS (kX7_box hap  M _ _ _ hy8) gL_9 hdX7_box rfl (by decide) sh7 rfl ⟨Nat.le_of_ble_eq_true rfl, Nat.le_of_ble_eq_true rfl⟩ ⟨rfl, rfl⟩ dL_allOpen_31 rfl (Nat.le_of_ble_eq_true rfl) (fun H locs hP hS n9 => ?_)
            refine lv_istore_n (pc := 34) (lv' := [(3, .int y8), (2, .int (0 : Int32)), (0, .ref (ad 0))]) hx hb dL_allOpen_34 rfl hl (by decide) rfl (fun ls hl => ?_)
            refine lv_goto (pc := 35) (tgt := 4) hx hb dL_allOpen_35 (by decide) ?_
            exact ih M (0 : Int32) y8 _ _ _ h hP hS (lv_sub hl [2, 1, 0] rfl) rfl
          · have h := (if_pos c7).symm.trans h
            refine lv_iconst (pc := 22) (v := (1 : Int32)) hx hb dL_allOpen_22 (by decide) ?_
            refine lv_goto (pc := 23) (tgt := 27) hx hb dL_allOpen_23 (by decide) ?_
            refine lv_istore_n (pc := 27) (lv' := [(2, .int (1 : Int32)), (0, .ref (ad 0)), (3, .int x3)]) hx hb dL_allOpen_27 rfl hl (by decide) rfl (fun ls hl => ?_)
            refine lv_aload_n (pc := 28) hx hb dL_allOpen_28 rfl (lv_at hl 1 rfl) ?_
            refine lv_iload_n (pc := 29) hx hb dL_allOpen_29 rfl (lv_at hl 2 rfl) ?_
            refine lv_iconst (pc := 30) (v := (0 : Int32)) hx hb dL_allOpen_30 (by decide) ?_
            obtain ⟨y10, hy10, h⟩ := bnd_ex h
            refine x_callVi (pc := 31) (st := .int (0 : Int32) :: .int x3 :: .ref (ad 0) :: []) (As := [.int x3, .int (0 : Int32)]) E hEx hl.1 hP hS (kX7_box hap  M _ _ _ hy10) gL_9 hdX7_box rfl (by decide) sh7 rfl ⟨Nat.le_of_ble_eq_true rfl, Nat.le_of_ble_eq_true rfl⟩ ⟨rfl, rfl⟩ dL_allOpen_31 rfl (Nat.le_of_ble_eq_true rfl) (fun H locs hP hS n11 => ?_)
            refine lv_istore_n (pc := 34) (lv' := [(3, .int y10), (2, .int (1 : Int32)), (0, .ref (ad 0))]) hx hb dL_allOpen_34 rfl hl (by decide) rfl (fun ls hl => ?_)
            refine lv_goto (pc := 35) (tgt := 4) hx hb dL_allOpen_35 (by decide) ?_
            exact ih M (1 : Int32) y10 _ _ _ h hP hS (lv_sub hl [2, 1, 0] rfl) rfl
  unfold fL_allOpen at h
  refine lv_iconst (pc := 0) (v := (1 : Int32)) hx hb dL_allOpen_0 (by decide) ?_
  refine lv_istore_n (pc := 1) (lv' := [(2, .int (1 : Int32)), (0, .ref (ad 0)), (1, .int x1)]) hx hb dL_allOpen_1 rfl hl (by decide) rfl (fun ls hl => ?_)
  refine lv_iload_n (pc := 2) hx hb dL_allOpen_2 rfl (lv_at hl 2 rfl) ?_
  refine lv_istore_n (pc := 3) (lv' := [(3, .int x1), (2, .int (1 : Int32)), (0, .ref (ad 0)), (1, .int x1)]) hx hb dL_allOpen_3 rfl hl (by decide) rfl (fun ls hl => ?_)
  exact hL4 5000 M (1 : Int32) x1 _ _ _ h hP hS (lv_sub hl [2, 1, 0] rfl) rfl
set_option maxRecDepth 100000 in
set_option maxHeartbeats 4000000 in
theorem kL_boxes (hap : Apart 78 ad)   (M : Mem)  (v : Int32) (h : fL_boxes M = some v) : XI G ad sK sV cA cZ cC yL_boxes cL_boxes 10 .boolean ({ frames := 5, cells := 0, slots := 0, locals := 112 } : Room) [.ref (ad 0)] M v M := by
  refine CI.mk (own := RL) (ls0 := [(0, .ref (ad 0))]) (by decide +kernel) rfl hap (Nat.le_of_ble_eq_true rfl) rfl ?_
  intro p l e s m args below meth c ls E hP hl
  have hx := E.1
  have hb := E.2.1
  have hown := E.2.2.2.2.2.1
  have hts := E.2.2.2.2.2.2.1
  have hNe := E.2.2.2.2.2.2.2.2.1.1
  have hEx := ExX.ok ad sK sV
  have hS : va_S (AW 78 ad) s.heap s.heap [] := va_S.rf
  have hB427 : ∀ (M : Mem) (x1 x2 x3 x4 x5 x8 : Int32) (H : Heap) (locs : List Loc) (ls : Array Slot), fL_boxes_B427 M x1 x2 x3 x4 x5 x8 = some v → va_P G vwCl (WW 78 (shX cA ad) ad M) H → va_S (AW 78 ad) s.heap H locs → lv_has ls 10 [(0, .ref (ad 0)), (1, .int x1), (2, .int x2), (3, .int x3), (4, .int x4), (5, .int x5), (8, .int x8)] → W p l e ({ frames := 5, cells := 0, slots := 0, locals := 112 } : Room) s m args below meth c H locs 0 0 (QI below G 78 (shX cA ad) ad .boolean args s v M) (F0 m 427 ls []) := by
    intro M x1 x2 x3 x4 x5 x8 H locs ls h hP hS hl
    unfold fL_boxes_B427 at h
    refine lv_iload (pc := 427) hx hb dL_boxes_427 (lv_at hl 6 rfl) ?_
    refine lv_if_eq (pc := 429) (tgt := 478) hx hb dL_boxes_429 (by decide) (fun c12 => ?_) (fun c12 => ?_)
    · have h := (if_pos c12).symm.trans h
      refine lv_iconst (pc := 478) (v := (0 : Int32)) hx hb dL_boxes_478 (by decide) ?_
      obtain rfl := som1 h
      exact x_iret E hP hS rfl dL_boxes_479
    · have h := (if_neg c12).symm.trans h
      refine lv_aload_n (pc := 432) hx hb dL_boxes_432 rfl (lv_at hl 0 rfl) ?_
      refine lv_iconst (pc := 433) (v := (0 : Int32)) hx hb dL_boxes_433 (by decide) ?_
      obtain ⟨y13, hy13, h⟩ := bnd_ex h
      refine x_callVi (pc := 434) (st := .int (0 : Int32) :: .ref (ad 0) :: []) (As := [.int (0 : Int32)]) E hEx hl.1 hP hS (kX7_differences hap  M _ _ hy13) gL_31 hdX7_differences rfl (by decide) sh7 rfl ⟨Nat.le_of_ble_eq_true rfl, Nat.le_of_ble_eq_true rfl⟩ ⟨rfl, rfl⟩ dL_boxes_434 rfl (Nat.le_of_ble_eq_true rfl) (fun H locs hP hS n14 => ?_)
      refine lv_iload (pc := 437) hx hb dL_boxes_437 (lv_at hl 4 rfl) ?_
      refine lv_icmp_ne (pc := 439) (tgt := 478) hx hb dL_boxes_439 (by decide) (fun c15 => ?_) (fun c15 => ?_)
      · have h := (if_neg c15).symm.trans h
        refine lv_iconst (pc := 478) (v := (0 : Int32)) hx hb dL_boxes_478 (by decide) ?_
        obtain rfl := som1 h
        exact x_iret E hP hS rfl dL_boxes_479
      · have h := (if_pos c15).symm.trans h
        refine lv_aload_n (pc := 442) hx hb dL_boxes_442 rfl (lv_at hl 0 rfl) ?_
        refine lv_iconst (pc := 443) (v := (1 : Int32)) hx hb dL_boxes_443 (by decide) ?_
        obtain ⟨y16, hy16, h⟩ := bnd_ex h
        refine x_callVi (pc := 444) (st := .int (1 : Int32) :: .ref (ad 0) :: []) (As := [.int (1 : Int32)]) E hEx hl.1 hP hS (kX7_differences hap  M _ _ hy16) gL_31 hdX7_differences rfl (by decide) sh7 rfl ⟨Nat.le_of_ble_eq_true rfl, Nat.le_of_ble_eq_true rfl⟩ ⟨rfl, rfl⟩ dL_boxes_444 rfl (Nat.le_of_ble_eq_true rfl) (fun H locs hP hS n17 => ?_)
        refine lv_iload_n (pc := 447) hx hb dL_boxes_447 rfl (lv_at hl 1 rfl) ?_
        refine lv_icmp_ne (pc := 448) (tgt := 478) hx hb dL_boxes_448 (by decide) (fun c18 => ?_) (fun c18 => ?_)
        · have h := (if_neg c18).symm.trans h
          refine lv_iconst (pc := 478) (v := (0 : Int32)) hx hb dL_boxes_478 (by decide) ?_
          obtain rfl := som1 h
          exact x_iret E hP hS rfl dL_boxes_479
        · have h := (if_pos c18).symm.trans h
          refine lv_iload_n (pc := 451) hx hb dL_boxes_451 rfl (lv_at hl 2 rfl) ?_
          refine lv_iload (pc := 452) hx hb dL_boxes_452 (lv_at hl 5 rfl) ?_
          refine lv_iadd (pc := 454) hx hb dL_boxes_454 ?_
          refine lv_aload_n (pc := 455) hx hb dL_boxes_455 rfl (lv_at hl 0 rfl) ?_
          refine lv_iconst (pc := 456) (v := (1 : Int32)) hx hb dL_boxes_456 (by decide) ?_
          obtain ⟨y19, hy19, h⟩ := bnd_ex h
          refine x_callVi (pc := 457) (st := .int (1 : Int32) :: .ref (ad 0) :: .int (x2 + x5) :: []) (As := [.int (1 : Int32)]) E hEx hl.1 hP hS (kX7_count hap  M _ _ hy19) gL_15 hdX7_count rfl (by decide) sh7 rfl ⟨Nat.le_of_ble_eq_true rfl, Nat.le_of_ble_eq_true rfl⟩ ⟨rfl, rfl⟩ dL_boxes_457 rfl (Nat.le_of_ble_eq_true rfl) (fun H locs hP hS n20 => ?_)
          refine lv_icmp_ne (pc := 460) (tgt := 478) hx hb dL_boxes_460 (by decide) (fun c21 => ?_) (fun c21 => ?_)
          · have h := (if_neg c21).symm.trans h
            refine lv_iconst (pc := 478) (v := (0 : Int32)) hx hb dL_boxes_478 (by decide) ?_
            obtain rfl := som1 h
            exact x_iret E hP hS rfl dL_boxes_479
          · have h := (if_pos c21).symm.trans h
            refine lv_iload_n (pc := 463) hx hb dL_boxes_463 rfl (lv_at hl 3 rfl) ?_
            refine lv_aload_n (pc := 464) hx hb dL_boxes_464 rfl (lv_at hl 0 rfl) ?_
            refine lv_iconst (pc := 465) (v := (0 : Int32)) hx hb dL_boxes_465 (by decide) ?_
            obtain ⟨y22, hy22, h⟩ := bnd_ex h
            refine x_callVi (pc := 466) (st := .int (0 : Int32) :: .ref (ad 0) :: .int x3 :: []) (As := [.int (0 : Int32)]) E hEx hl.1 hP hS (kX7_count hap  M _ _ hy22) gL_15 hdX7_count rfl (by decide) sh7 rfl ⟨Nat.le_of_ble_eq_true rfl, Nat.le_of_ble_eq_true rfl⟩ ⟨rfl, rfl⟩ dL_boxes_466 rfl (Nat.le_of_ble_eq_true rfl) (fun H locs hP hS n23 => ?_)
            refine lv_iconst (pc := 469) (v := (1 : Int32)) hx hb dL_boxes_469 (by decide) ?_
            refine lv_isub (pc := 470) hx hb dL_boxes_470 ?_
            refine lv_icmp_ne (pc := 471) (tgt := 478) hx hb dL_boxes_471 (by decide) (fun c24 => ?_) (fun c24 => ?_)
            · have h := (if_neg c24).symm.trans h
              refine lv_iconst (pc := 478) (v := (0 : Int32)) hx hb dL_boxes_478 (by decide) ?_
              obtain rfl := som1 h
              exact x_iret E hP hS rfl dL_boxes_479
            · have h := (if_pos c24).symm.trans h
              refine lv_iconst (pc := 474) (v := (1 : Int32)) hx hb dL_boxes_474 (by decide) ?_
              refine lv_goto (pc := 475) (tgt := 479) hx hb dL_boxes_475 (by decide) ?_
              obtain rfl := som1 h
              exact x_iret E hP hS rfl dL_boxes_479
  have hB310 : ∀ (M : Mem) (x1 x2 x3 x4 x5 x6 x7 : Int32) (H : Heap) (locs : List Loc) (ls : Array Slot), fL_boxes_B310 M x1 x2 x3 x4 x5 x6 x7 = some v → va_P G vwCl (WW 78 (shX cA ad) ad M) H → va_S (AW 78 ad) s.heap H locs → lv_has ls 10 [(0, .ref (ad 0)), (1, .int x1), (2, .int x2), (3, .int x3), (4, .int x4), (5, .int x5), (6, .int x6), (7, .int x7)] → W p l e ({ frames := 5, cells := 0, slots := 0, locals := 112 } : Room) s m args below meth c H locs 0 0 (QI below G 78 (shX cA ad) ad .boolean args s v M) (F0 m 310 ls []) := by
    intro M x1 x2 x3 x4 x5 x6 x7 H locs ls h hP hS hl
    unfold fL_boxes_B310 at h
    refine lv_iload (pc := 310) hx hb dL_boxes_310 (lv_at hl 7 rfl) ?_
    refine lv_if_eq (pc := 312) (tgt := 405) hx hb dL_boxes_312 (by decide) (fun c10 => ?_) (fun c10 => ?_)
    · have h := (if_pos c10).symm.trans h
      refine lv_iload (pc := 405) hx hb dL_boxes_405 (lv_at hl 5 rfl) ?_
      refine lv_if_ne (pc := 407) (tgt := 424) hx hb dL_boxes_407 (by decide) (fun c11 => ?_) (fun c11 => ?_)
      · have h := (if_neg c11).symm.trans h
        refine lv_iconst (pc := 424) (v := (0 : Int32)) hx hb dL_boxes_424 (by decide) ?_
        refine lv_istore (pc := 425) (lv' := [(8, .int (0 : Int32)), (0, .ref (ad 0)), (1, .int x1), (2, .int x2), (3, .int x3), (4, .int x4), (5, .int x5), (6, .int x6), (7, .int x7)]) hx hb dL_boxes_425 hl (by decide) rfl (fun ls hl => ?_)
        exact hB427 M x1 x2 x3 x4 x5 (0 : Int32) _ _ _ h hP hS (lv_sub hl [1, 2, 3, 4, 5, 6, 0] rfl)
      · have h := (if_pos c11).symm.trans h
        refine lv_aload_n (pc := 410) hx hb dL_boxes_410 rfl (lv_at hl 0 rfl) ?_
        refine lv_iconst (pc := 411) (v := (0 : Int32)) hx hb dL_boxes_411 (by decide) ?_
        obtain ⟨y25, hy25, h⟩ := bnd_ex h
        refine x_callVi (pc := 412) (st := .int (0 : Int32) :: .ref (ad 0) :: []) (As := [.int (0 : Int32)]) E hEx hl.1 hP hS (kX7_game hap  M _ _ hy25) gL_28 hdX7_game rfl (by decide) sh7 rfl ⟨Nat.le_of_ble_eq_true rfl, Nat.le_of_ble_eq_true rfl⟩ ⟨rfl, rfl⟩ dL_boxes_412 rfl (Nat.le_of_ble_eq_true rfl) (fun H locs hP hS n26 => ?_)
        refine lv_bipush (pc := 415) (v := (-4 : Int32)) hx hb dL_boxes_415 (by decide) ?_
        refine lv_icmp_ne (pc := 417) (tgt := 424) hx hb dL_boxes_417 (by decide) (fun c27 => ?_) (fun c27 => ?_)
        · have h := (if_neg c27).symm.trans h
          refine lv_iconst (pc := 424) (v := (0 : Int32)) hx hb dL_boxes_424 (by decide) ?_
          refine lv_istore (pc := 425) (lv' := [(8, .int (0 : Int32)), (0, .ref (ad 0)), (1, .int x1), (2, .int x2), (3, .int x3), (4, .int x4), (5, .int x5), (6, .int x6), (7, .int x7)]) hx hb dL_boxes_425 hl (by decide) rfl (fun ls hl => ?_)
          exact hB427 M x1 x2 x3 x4 x5 (0 : Int32) _ _ _ h hP hS (lv_sub hl [1, 2, 3, 4, 5, 6, 0] rfl)
        · have h := (if_pos c27).symm.trans h
          refine lv_iconst (pc := 420) (v := (1 : Int32)) hx hb dL_boxes_420 (by decide) ?_
          refine lv_goto (pc := 421) (tgt := 425) hx hb dL_boxes_421 (by decide) ?_
          refine lv_istore (pc := 425) (lv' := [(8, .int (1 : Int32)), (0, .ref (ad 0)), (1, .int x1), (2, .int x2), (3, .int x3), (4, .int x4), (5, .int x5), (6, .int x6), (7, .int x7)]) hx hb dL_boxes_425 hl (by decide) rfl (fun ls hl => ?_)
          exact hB427 M x1 x2 x3 x4 x5 (1 : Int32) _ _ _ h hP hS (lv_sub hl [1, 2, 3, 4, 5, 6, 0] rfl)
    · have h := (if_neg c10).symm.trans h
      refine lv_aload_n (pc := 315) hx hb dL_boxes_315 rfl (lv_at hl 0 rfl) ?_
      refine lv_iconst (pc := 316) (v := (4 : Int32)) hx hb dL_boxes_316 (by decide) ?_
      obtain ⟨y28, hy28, h⟩ := bnd_ex h
      refine x_callVi (pc := 317) (st := .int (4 : Int32) :: .ref (ad 0) :: []) (As := [.int (4 : Int32)]) E hEx hl.1 hP hS (kX7_game hap  M _ _ hy28) gL_28 hdX7_game rfl (by decide) sh7 rfl ⟨Nat.le_of_ble_eq_true rfl, Nat.le_of_ble_eq_true rfl⟩ ⟨rfl, rfl⟩ dL_boxes_317 rfl (Nat.le_of_ble_eq_true rfl) (fun H locs hP hS n29 => ?_)
      refine lv_iload (pc := 320) hx hb dL_boxes_320 (lv_at hl 6 rfl) ?_
      refine lv_icmp_ne (pc := 322) (tgt := 401) hx hb dL_boxes_322 (by decide) (fun c30 => ?_) (fun c30 => ?_)
      · have h := (if_neg c30).symm.trans h
        refine lv_iconst (pc := 401) (v := (0 : Int32)) hx hb dL_boxes_401 (by decide) ?_
        refine lv_goto (pc := 402) (tgt := 425) hx hb dL_boxes_402 (by decide) ?_
        refine lv_istore (pc := 425) (lv' := [(8, .int (0 : Int32)), (0, .ref (ad 0)), (1, .int x1), (2, .int x2), (3, .int x3), (4, .int x4), (5, .int x5), (6, .int x6), (7, .int x7)]) hx hb dL_boxes_425 hl (by decide) rfl (fun ls hl => ?_)
        exact hB427 M x1 x2 x3 x4 x5 (0 : Int32) _ _ _ h hP hS (lv_sub hl [1, 2, 3, 4, 5, 6, 0] rfl)
      · have h := (if_pos c30).symm.trans h
        refine lv_iload (pc := 325) hx hb dL_boxes_325 (lv_at hl 5 rfl) ?_
        refine lv_aload_n (pc := 327) hx hb dL_boxes_327 rfl (lv_at hl 0 rfl) ?_
        refine lv_iconst (pc := 328) (v := (0 : Int32)) hx hb dL_boxes_328 (by decide) ?_
        obtain ⟨y31, hy31, h⟩ := bnd_ex h
        refine x_callVi (pc := 329) (st := .int (0 : Int32) :: .ref (ad 0) :: .int x5 :: []) (As := [.int (0 : Int32)]) E hEx hl.1 hP hS (kX7_game hap  M _ _ hy31) gL_28 hdX7_game rfl (by decide) sh7 rfl ⟨Nat.le_of_ble_eq_true rfl, Nat.le_of_ble_eq_true rfl⟩ ⟨rfl, rfl⟩ dL_boxes_329 rfl (Nat.le_of_ble_eq_true rfl) (fun H locs hP hS n32 => ?_)
        refine lv_icmp_gt (pc := 332) (tgt := 401) hx hb dL_boxes_332 (by decide) (fun c33 => ?_) (fun c33 => ?_)
        · have h := (if_pos c33).symm.trans h
          refine lv_iconst (pc := 401) (v := (0 : Int32)) hx hb dL_boxes_401 (by decide) ?_
          refine lv_goto (pc := 402) (tgt := 425) hx hb dL_boxes_402 (by decide) ?_
          refine lv_istore (pc := 425) (lv' := [(8, .int (0 : Int32)), (0, .ref (ad 0)), (1, .int x1), (2, .int x2), (3, .int x3), (4, .int x4), (5, .int x5), (6, .int x6), (7, .int x7)]) hx hb dL_boxes_425 hl (by decide) rfl (fun ls hl => ?_)
          exact hB427 M x1 x2 x3 x4 x5 (0 : Int32) _ _ _ h hP hS (lv_sub hl [1, 2, 3, 4, 5, 6, 0] rfl)
        · have h := (if_neg c33).symm.trans h
          refine lv_aload_n (pc := 335) hx hb dL_boxes_335 rfl (lv_at hl 0 rfl) ?_
          refine lv_iconst (pc := 336) (v := (2 : Int32)) hx hb dL_boxes_336 (by decide) ?_
          obtain ⟨y34, hy34, h⟩ := bnd_ex h
          refine x_callVi (pc := 337) (st := .int (2 : Int32) :: .ref (ad 0) :: []) (As := [.int (2 : Int32)]) E hEx hl.1 hP hS (kX7_game hap  M _ _ hy34) gL_28 hdX7_game rfl (by decide) sh7 rfl ⟨Nat.le_of_ble_eq_true rfl, Nat.le_of_ble_eq_true rfl⟩ ⟨rfl, rfl⟩ dL_boxes_337 rfl (Nat.le_of_ble_eq_true rfl) (fun H locs hP hS n35 => ?_)
          refine lv_if_lt (pc := 340) (tgt := 401) hx hb dL_boxes_340 (by decide) (fun c36 => ?_) (fun c36 => ?_)
          · have h := (if_pos c36).symm.trans h
            refine lv_iconst (pc := 401) (v := (0 : Int32)) hx hb dL_boxes_401 (by decide) ?_
            refine lv_goto (pc := 402) (tgt := 425) hx hb dL_boxes_402 (by decide) ?_
            refine lv_istore (pc := 425) (lv' := [(8, .int (0 : Int32)), (0, .ref (ad 0)), (1, .int x1), (2, .int x2), (3, .int x3), (4, .int x4), (5, .int x5), (6, .int x6), (7, .int x7)]) hx hb dL_boxes_425 hl (by decide) rfl (fun ls hl => ?_)
            exact hB427 M x1 x2 x3 x4 x5 (0 : Int32) _ _ _ h hP hS (lv_sub hl [1, 2, 3, 4, 5, 6, 0] rfl)
          · have h := (if_neg c36).symm.trans h
            refine lv_aload_n (pc := 343) hx hb dL_boxes_343 rfl (lv_at hl 0 rfl) ?_
            refine lv_iconst (pc := 344) (v := (2 : Int32)) hx hb dL_boxes_344 (by decide) ?_
            obtain ⟨y37, hy37, h⟩ := bnd_ex h
            refine x_callVi (pc := 345) (st := .int (2 : Int32) :: .ref (ad 0) :: []) (As := [.int (2 : Int32)]) E hEx hl.1 hP hS (kX7_game hap  M _ _ hy37) gL_28 hdX7_game rfl (by decide) sh7 rfl ⟨Nat.le_of_ble_eq_true rfl, Nat.le_of_ble_eq_true rfl⟩ ⟨rfl, rfl⟩ dL_boxes_345 rfl (Nat.le_of_ble_eq_true rfl) (fun H locs hP hS n38 => ?_)
            refine lv_aload_n (pc := 348) hx hb dL_boxes_348 rfl (lv_at hl 0 rfl) ?_
            refine lv_bipush (pc := 349) (v := (12 : Int32)) hx hb dL_boxes_349 (by decide) ?_
            obtain ⟨y39, hy39, h⟩ := bnd_ex h
            refine x_callVi (pc := 351) (st := .int (12 : Int32) :: .ref (ad 0) :: .int y37 :: []) (As := [.int (12 : Int32)]) E hEx hl.1 hP hS (kX7_count hap  M _ _ hy39) gL_15 hdX7_count rfl (by decide) sh7 rfl ⟨Nat.le_of_ble_eq_true rfl, Nat.le_of_ble_eq_true rfl⟩ ⟨rfl, rfl⟩ dL_boxes_351 rfl (Nat.le_of_ble_eq_true rfl) (fun H locs hP hS n40 => ?_)
            refine lv_icmp_gt (pc := 354) (tgt := 401) hx hb dL_boxes_354 (by decide) (fun c41 => ?_) (fun c41 => ?_)
            · have h := (if_pos c41).symm.trans h
              refine lv_iconst (pc := 401) (v := (0 : Int32)) hx hb dL_boxes_401 (by decide) ?_
              refine lv_goto (pc := 402) (tgt := 425) hx hb dL_boxes_402 (by decide) ?_
              refine lv_istore (pc := 425) (lv' := [(8, .int (0 : Int32)), (0, .ref (ad 0)), (1, .int x1), (2, .int x2), (3, .int x3), (4, .int x4), (5, .int x5), (6, .int x6), (7, .int x7)]) hx hb dL_boxes_425 hl (by decide) rfl (fun ls hl => ?_)
              exact hB427 M x1 x2 x3 x4 x5 (0 : Int32) _ _ _ h hP hS (lv_sub hl [1, 2, 3, 4, 5, 6, 0] rfl)
            · have h := (if_neg c41).symm.trans h
              refine lv_aload_n (pc := 357) hx hb dL_boxes_357 rfl (lv_at hl 0 rfl) ?_
              refine lv_iconst (pc := 358) (v := (1 : Int32)) hx hb dL_boxes_358 (by decide) ?_
              obtain ⟨y42, hy42, h⟩ := bnd_ex h
              refine x_callVi (pc := 359) (st := .int (1 : Int32) :: .ref (ad 0) :: []) (As := [.int (1 : Int32)]) E hEx hl.1 hP hS (kX7_game hap  M _ _ hy42) gL_28 hdX7_game rfl (by decide) sh7 rfl ⟨Nat.le_of_ble_eq_true rfl, Nat.le_of_ble_eq_true rfl⟩ ⟨rfl, rfl⟩ dL_boxes_359 rfl (Nat.le_of_ble_eq_true rfl) (fun H locs hP hS n43 => ?_)
              refine lv_aload_n (pc := 362) hx hb dL_boxes_362 rfl (lv_at hl 0 rfl) ?_
              refine lv_bipush (pc := 363) (v := (12 : Int32)) hx hb dL_boxes_363 (by decide) ?_
              obtain ⟨y44, hy44, h⟩ := bnd_ex h
              refine x_callVi (pc := 365) (st := .int (12 : Int32) :: .ref (ad 0) :: .int y42 :: []) (As := [.int (12 : Int32)]) E hEx hl.1 hP hS (kX7_count hap  M _ _ hy44) gL_15 hdX7_count rfl (by decide) sh7 rfl ⟨Nat.le_of_ble_eq_true rfl, Nat.le_of_ble_eq_true rfl⟩ ⟨rfl, rfl⟩ dL_boxes_365 rfl (Nat.le_of_ble_eq_true rfl) (fun H locs hP hS n45 => ?_)
              refine lv_iadd (pc := 368) hx hb dL_boxes_368 ?_
              refine lv_aload_n (pc := 369) hx hb dL_boxes_369 rfl (lv_at hl 0 rfl) ?_
              refine lv_iconst (pc := 370) (v := (5 : Int32)) hx hb dL_boxes_370 (by decide) ?_
              obtain ⟨y46, hy46, h⟩ := bnd_ex h
              refine x_callVi (pc := 371) (st := .int (5 : Int32) :: .ref (ad 0) :: .int (y42 + y44) :: []) (As := [.int (5 : Int32)]) E hEx hl.1 hP hS (kX7_count hap  M _ _ hy46) gL_15 hdX7_count rfl (by decide) sh7 rfl ⟨Nat.le_of_ble_eq_true rfl, Nat.le_of_ble_eq_true rfl⟩ ⟨rfl, rfl⟩ dL_boxes_371 rfl (Nat.le_of_ble_eq_true rfl) (fun H locs hP hS n47 => ?_)
              refine lv_isub (pc := 374) hx hb dL_boxes_374 ?_
              refine lv_aload_n (pc := 375) hx hb dL_boxes_375 rfl (lv_at hl 0 rfl) ?_
              refine lv_iconst (pc := 376) (v := (2 : Int32)) hx hb dL_boxes_376 (by decide) ?_
              obtain ⟨y48, hy48, h⟩ := bnd_ex h
              refine x_callVi (pc := 377) (st := .int (2 : Int32) :: .ref (ad 0) :: .int ((y42 + y44) - y46) :: []) (As := [.int (2 : Int32)]) E hEx hl.1 hP hS (kX7_game hap  M _ _ hy48) gL_28 hdX7_game rfl (by decide) sh7 rfl ⟨Nat.le_of_ble_eq_true rfl, Nat.le_of_ble_eq_true rfl⟩ ⟨rfl, rfl⟩ dL_boxes_377 rfl (Nat.le_of_ble_eq_true rfl) (fun H locs hP hS n49 => ?_)
              refine lv_icmp_ne (pc := 380) (tgt := 401) hx hb dL_boxes_380 (by decide) (fun c50 => ?_) (fun c50 => ?_)
              · have h := (if_neg c50).symm.trans h
                refine lv_iconst (pc := 401) (v := (0 : Int32)) hx hb dL_boxes_401 (by decide) ?_
                refine lv_goto (pc := 402) (tgt := 425) hx hb dL_boxes_402 (by decide) ?_
                refine lv_istore (pc := 425) (lv' := [(8, .int (0 : Int32)), (0, .ref (ad 0)), (1, .int x1), (2, .int x2), (3, .int x3), (4, .int x4), (5, .int x5), (6, .int x6), (7, .int x7)]) hx hb dL_boxes_425 hl (by decide) rfl (fun ls hl => ?_)
                exact hB427 M x1 x2 x3 x4 x5 (0 : Int32) _ _ _ h hP hS (lv_sub hl [1, 2, 3, 4, 5, 6, 0] rfl)
              · have h := (if_pos c50).symm.trans h
                refine lv_aload_n (pc := 383) hx hb dL_boxes_383 rfl (lv_at hl 0 rfl) ?_
                refine lv_iconst (pc := 384) (v := (3 : Int32)) hx hb dL_boxes_384 (by decide) ?_
                obtain ⟨y51, hy51, h⟩ := bnd_ex h
                refine x_callVi (pc := 385) (st := .int (3 : Int32) :: .ref (ad 0) :: []) (As := [.int (3 : Int32)]) E hEx hl.1 hP hS (kX7_game hap  M _ _ hy51) gL_28 hdX7_game rfl (by decide) sh7 rfl ⟨Nat.le_of_ble_eq_true rfl, Nat.le_of_ble_eq_true rfl⟩ ⟨rfl, rfl⟩ dL_boxes_385 rfl (Nat.le_of_ble_eq_true rfl) (fun H locs hP hS n52 => ?_)
                refine lv_aload_n (pc := 388) hx hb dL_boxes_388 rfl (lv_at hl 0 rfl) ?_
                refine lv_bipush (pc := 389) (v := (13 : Int32)) hx hb dL_boxes_389 (by decide) ?_
                obtain ⟨y53, hy53, h⟩ := bnd_ex h
                refine x_callVi (pc := 391) (st := .int (13 : Int32) :: .ref (ad 0) :: .int y51 :: []) (As := [.int (13 : Int32)]) E hEx hl.1 hP hS (kX7_count hap  M _ _ hy53) gL_15 hdX7_count rfl (by decide) sh7 rfl ⟨Nat.le_of_ble_eq_true rfl, Nat.le_of_ble_eq_true rfl⟩ ⟨rfl, rfl⟩ dL_boxes_391 rfl (Nat.le_of_ble_eq_true rfl) (fun H locs hP hS n54 => ?_)
                refine lv_icmp_gt (pc := 394) (tgt := 401) hx hb dL_boxes_394 (by decide) (fun c55 => ?_) (fun c55 => ?_)
                · have h := (if_pos c55).symm.trans h
                  refine lv_iconst (pc := 401) (v := (0 : Int32)) hx hb dL_boxes_401 (by decide) ?_
                  refine lv_goto (pc := 402) (tgt := 425) hx hb dL_boxes_402 (by decide) ?_
                  refine lv_istore (pc := 425) (lv' := [(8, .int (0 : Int32)), (0, .ref (ad 0)), (1, .int x1), (2, .int x2), (3, .int x3), (4, .int x4), (5, .int x5), (6, .int x6), (7, .int x7)]) hx hb dL_boxes_425 hl (by decide) rfl (fun ls hl => ?_)
                  exact hB427 M x1 x2 x3 x4 x5 (0 : Int32) _ _ _ h hP hS (lv_sub hl [1, 2, 3, 4, 5, 6, 0] rfl)
                · have h := (if_neg c55).symm.trans h
                  refine lv_iconst (pc := 397) (v := (1 : Int32)) hx hb dL_boxes_397 (by decide) ?_
                  refine lv_goto (pc := 398) (tgt := 425) hx hb dL_boxes_398 (by decide) ?_
                  refine lv_istore (pc := 425) (lv' := [(8, .int (1 : Int32)), (0, .ref (ad 0)), (1, .int x1), (2, .int x2), (3, .int x3), (4, .int x4), (5, .int x5), (6, .int x6), (7, .int x7)]) hx hb dL_boxes_425 hl (by decide) rfl (fun ls hl => ?_)
                  exact hB427 M x1 x2 x3 x4 x5 (1 : Int32) _ _ _ h hP hS (lv_sub hl [1, 2, 3, 4, 5, 6, 0] rfl)
  have hL158 : ∀ (n : Nat) (M : Mem) (x1 x2 x3 x4 x5 x6 x7 : Int32) (H : Heap) (locs : List Loc) (ls : Array Slot), fL_boxes_L158 n M x1 x2 x3 x4 x5 x6 x7 = some v → va_P G vwCl (WW 78 (shX cA ad) ad M) H → va_S (AW 78 ad) s.heap H locs → lv_has ls 10 [(0, .ref (ad 0)), (1, .int x1), (2, .int x2), (3, .int x3), (4, .int x4), (5, .int x5), (6, .int x6), (7, .int x7)] → W p l e ({ frames := 5, cells := 0, slots := 0, locals := 112 } : Room) s m args below meth c H locs 0 0 (QI below G 78 (shX cA ad) ad .boolean args s v M) (F0 m 158 ls []) := by
    intro n
    induction n with
    | zero => intro M x1 x2 x3 x4 x5 x6 x7 H locs ls h; cases h
    | succ n ih =>
      intro M x1 x2 x3 x4 x5 x6 x7 H locs ls h hP hS hl
      rw [fL_boxes_L158] at h
      refine lv_iload (pc := 158) hx hb dL_boxes_158 (lv_at hl 7 rfl) ?_
      refine lv_aload_n (pc := 160) hx hb dL_boxes_160 rfl (lv_at hl 0 rfl) ?_
      refine lv_iconst (pc := 161) (v := (1 : Int32)) hx hb dL_boxes_161 (by decide) ?_
      obtain ⟨y4, hy4, h⟩ := bnd_ex h
      refine x_callVi (pc := 162) (st := .int (1 : Int32) :: .ref (ad 0) :: .int x7 :: []) (As := [.int (1 : Int32)]) E hEx hl.1 hP hS (kX7_count hap  M _ _ hy4) gL_15 hdX7_count rfl (by decide) sh7 rfl ⟨Nat.le_of_ble_eq_true rfl, Nat.le_of_ble_eq_true rfl⟩ ⟨rfl, rfl⟩ dL_boxes_162 rfl (Nat.le_of_ble_eq_true rfl) (fun H locs hP hS n5 => ?_)
      refine lv_icmp_ge (pc := 165) (tgt := 293) hx hb dL_boxes_165 (by decide) (fun c6 => ?_) (fun c6 => ?_)
      · have h := (if_pos c6).symm.trans h
        refine lv_aload_n (pc := 293) hx hb dL_boxes_293 rfl (lv_at hl 0 rfl) ?_
        refine lv_bipush (pc := 294) (v := (14 : Int32)) hx hb dL_boxes_294 (by decide) ?_
        obtain ⟨y7, hy7, h⟩ := bnd_ex h
        refine x_callVi (pc := 296) (st := .int (14 : Int32) :: .ref (ad 0) :: []) (As := [.int (14 : Int32)]) E hEx hl.1 hP hS (kX7_count hap  M _ _ hy7) gL_15 hdX7_count rfl (by decide) sh7 rfl ⟨Nat.le_of_ble_eq_true rfl, Nat.le_of_ble_eq_true rfl⟩ ⟨rfl, rfl⟩ dL_boxes_296 rfl (Nat.le_of_ble_eq_true rfl) (fun H locs hP hS n8 => ?_)
        refine lv_iconst (pc := 299) (v := (1 : Int32)) hx hb dL_boxes_299 (by decide) ?_
        refine lv_icmp_ne (pc := 300) (tgt := 307) hx hb dL_boxes_300 (by decide) (fun c9 => ?_) (fun c9 => ?_)
        · have h := (if_neg c9).symm.trans h
          refine lv_iconst (pc := 307) (v := (0 : Int32)) hx hb dL_boxes_307 (by decide) ?_
          refine lv_istore (pc := 308) (lv' := [(7, .int (0 : Int32)), (0, .ref (ad 0)), (1, .int x1), (2, .int x2), (3, .int x3), (4, .int x4), (5, .int x5), (6, .int x6)]) hx hb dL_boxes_308 hl (by decide) rfl (fun ls hl => ?_)
          exact hB310 M x1 x2 x3 x4 x5 x6 (0 : Int32) _ _ _ h hP hS (lv_sub hl [1, 2, 3, 4, 5, 6, 7, 0] rfl)
        · have h := (if_pos c9).symm.trans h
          refine lv_iconst (pc := 303) (v := (1 : Int32)) hx hb dL_boxes_303 (by decide) ?_
          refine lv_goto (pc := 304) (tgt := 308) hx hb dL_boxes_304 (by decide) ?_
          refine lv_istore (pc := 308) (lv' := [(7, .int (1 : Int32)), (0, .ref (ad 0)), (1, .int x1), (2, .int x2), (3, .int x3), (4, .int x4), (5, .int x5), (6, .int x6)]) hx hb dL_boxes_308 hl (by decide) rfl (fun ls hl => ?_)
          exact hB310 M x1 x2 x3 x4 x5 x6 (1 : Int32) _ _ _ h hP hS (lv_sub hl [1, 2, 3, 4, 5, 6, 7, 0] rfl)
      · have h := (if_neg c6).symm.trans h
        refine lv_aload_n (pc := 168) hx hb dL_boxes_168 rfl (lv_at hl 0 rfl) ?_
        refine lv_iload (pc := 169) hx hb dL_boxes_169 (lv_at hl 7 rfl) ?_
        refine lv_iconst (pc := 171) (v := (1 : Int32)) hx hb dL_boxes_171 (by decide) ?_
        obtain ⟨y56, hy56, h⟩ := bnd_ex h
        refine x_callVi (pc := 172) (st := .int (1 : Int32) :: .int x7 :: .ref (ad 0) :: []) (As := [.int x7, .int (1 : Int32)]) E hEx hl.1 hP hS (kX7_prop hap  M _ _ _ hy56) gL_25 hdX7_prop rfl (by decide) sh7 rfl ⟨Nat.le_of_ble_eq_true rfl, Nat.le_of_ble_eq_true rfl⟩ ⟨rfl, rfl⟩ dL_boxes_172 rfl (Nat.le_of_ble_eq_true rfl) (fun H locs hP hS n57 => ?_)
        refine lv_istore (pc := 175) (lv' := [(8, .int y56), (0, .ref (ad 0)), (1, .int x1), (2, .int x2), (3, .int x3), (4, .int x4), (5, .int x5), (6, .int x6), (7, .int x7)]) hx hb dL_boxes_175 hl (by decide) rfl (fun ls hl => ?_)
        refine lv_iload (pc := 177) hx hb dL_boxes_177 (lv_at hl 0 rfl) ?_
        refine lv_if_lt (pc := 179) (tgt := 191) hx hb dL_boxes_179 (by decide) (fun c58 => ?_) (fun c58 => ?_)
        · have h := (if_pos c58).symm.trans h
          refine lv_iconst (pc := 191) (v := (1 : Int32)) hx hb dL_boxes_191 (by decide) ?_
          refine lv_goto (pc := 192) (tgt := 196) hx hb dL_boxes_192 (by decide) ?_
          refine lv_istore (pc := 196) (lv' := [(9, .int (1 : Int32)), (8, .int y56), (0, .ref (ad 0)), (1, .int x1), (2, .int x2), (3, .int x3), (4, .int x4), (5, .int x5), (6, .int x6), (7, .int x7)]) hx hb dL_boxes_196 hl (by decide) rfl (fun ls hl => ?_)
          refine lv_iload (pc := 198) hx hb dL_boxes_198 (lv_at hl 6 rfl) ?_
          refine lv_iload (pc := 200) hx hb dL_boxes_200 (lv_at hl 1 rfl) ?_
          refine lv_aload_n (pc := 202) hx hb dL_boxes_202 rfl (lv_at hl 2 rfl) ?_
          refine lv_iload (pc := 203) hx hb dL_boxes_203 (lv_at hl 9 rfl) ?_
          refine lv_iconst (pc := 205) (v := (0 : Int32)) hx hb dL_boxes_205 (by decide) ?_
          obtain ⟨y59, hy59, h⟩ := bnd_ex h
          refine x_callVi (pc := 206) (st := .int (0 : Int32) :: .int x7 :: .ref (ad 0) :: .int y56 :: .int x4 :: []) (As := [.int x7, .int (0 : Int32)]) E hEx hl.1 hP hS (kX7_prop hap  M _ _ _ hy59) gL_25 hdX7_prop rfl (by decide) sh7 rfl ⟨Nat.le_of_ble_eq_true rfl, Nat.le_of_ble_eq_true rfl⟩ ⟨rfl, rfl⟩ dL_boxes_206 rfl (Nat.le_of_ble_eq_true rfl) (fun H locs hP hS n60 => ?_)
          refine lv_icmp_ne (pc := 209) (tgt := 216) hx hb dL_boxes_209 (by decide) (fun c61 => ?_) (fun c61 => ?_)
          · have h := (if_neg c61).symm.trans h
            refine lv_iconst (pc := 216) (v := (1 : Int32)) hx hb dL_boxes_216 (by decide) ?_
            refine lv_iadd (pc := 217) hx hb dL_boxes_217 ?_
            refine lv_istore (pc := 218) (lv' := [(4, .int (x4 + (1 : Int32))), (9, .int (1 : Int32)), (8, .int y56), (0, .ref (ad 0)), (1, .int x1), (2, .int x2), (3, .int x3), (5, .int x5), (6, .int x6), (7, .int x7)]) hx hb dL_boxes_218 hl (by decide) rfl (fun ls hl => ?_)
            refine lv_iload (pc := 220) hx hb dL_boxes_220 (lv_at hl 7 rfl) ?_
            refine lv_iload (pc := 222) hx hb dL_boxes_222 (lv_at hl 2 rfl) ?_
            refine lv_if_ge (pc := 224) (tgt := 231) hx hb dL_boxes_224 (by decide) (fun c62 => ?_) (fun c62 => ?_)
            · have h := (if_pos c62).symm.trans h
              refine lv_iconst (pc := 231) (v := (0 : Int32)) hx hb dL_boxes_231 (by decide) ?_
              refine lv_iadd (pc := 232) hx hb dL_boxes_232 ?_
              refine lv_istore (pc := 233) (lv' := [(5, .int (x5 + (0 : Int32))), (4, .int (x4 + (1 : Int32))), (9, .int (1 : Int32)), (8, .int y56), (0, .ref (ad 0)), (1, .int x1), (2, .int x2), (3, .int x3), (6, .int x6), (7, .int x7)]) hx hb dL_boxes_233 hl (by decide) rfl (fun ls hl => ?_)
              refine lv_iload (pc := 235) hx hb dL_boxes_235 (lv_at hl 8 rfl) ?_
              refine lv_iload (pc := 237) hx hb dL_boxes_237 (lv_at hl 3 rfl) ?_
              refine lv_if_ge (pc := 239) (tgt := 249) hx hb dL_boxes_239 (by decide) (fun c63 => ?_) (fun c63 => ?_)
              · have h := (if_pos c63).symm.trans h
                refine lv_iconst (pc := 249) (v := (0 : Int32)) hx hb dL_boxes_249 (by decide) ?_
                refine lv_ior (pc := 250) hx hb dL_boxes_250 ?_
                refine lv_istore (pc := 251) (lv' := [(6, .int (x6 ||| (0 : Int32))), (5, .int (x5 + (0 : Int32))), (4, .int (x4 + (1 : Int32))), (9, .int (1 : Int32)), (8, .int y56), (0, .ref (ad 0)), (1, .int x1), (2, .int x2), (3, .int x3), (7, .int x7)]) hx hb dL_boxes_251 hl (by decide) rfl (fun ls hl => ?_)
                refine lv_aload_n (pc := 253) hx hb dL_boxes_253 rfl (lv_at hl 5 rfl) ?_
                refine lv_iload (pc := 254) hx hb dL_boxes_254 (lv_at hl 9 rfl) ?_
                refine lv_iconst (pc := 256) (v := (2 : Int32)) hx hb dL_boxes_256 (by decide) ?_
                obtain ⟨y64, hy64, h⟩ := bnd_ex h
                refine x_callVi (pc := 257) (st := .int (2 : Int32) :: .int x7 :: .ref (ad 0) :: []) (As := [.int x7, .int (2 : Int32)]) E hEx hl.1 hP hS (kX7_prop hap  M _ _ _ hy64) gL_25 hdX7_prop rfl (by decide) sh7 rfl ⟨Nat.le_of_ble_eq_true rfl, Nat.le_of_ble_eq_true rfl⟩ ⟨rfl, rfl⟩ dL_boxes_257 rfl (Nat.le_of_ble_eq_true rfl) (fun H locs hP hS n65 => ?_)
                refine lv_iload (pc := 260) hx hb dL_boxes_260 (lv_at hl 3 rfl) ?_
                refine lv_if_eq (pc := 262) (tgt := 269) hx hb dL_boxes_262 (by decide) (fun c66 => ?_) (fun c66 => ?_)
                · exact absurd c66 (by decide)
                · refine lv_iconst (pc := 265) (v := (1 : Int32)) hx hb dL_boxes_265 (by decide) ?_
                  refine lv_goto (pc := 266) (tgt := 270) hx hb dL_boxes_266 (by decide) ?_
                  refine lv_icmp_ne (pc := 270) (tgt := 285) hx hb dL_boxes_270 (by decide) (fun c67 => ?_) (fun c67 => ?_)
                  · have h := (if_neg c67).symm.trans h
                    refine lv_iconst (pc := 285) (v := (0 : Int32)) hx hb dL_boxes_285 (by decide) ?_
                    obtain rfl := som1 h
                    exact x_iret E hP hS rfl dL_boxes_286
                  · have h := (if_pos c67).symm.trans h
                    refine lv_iload (pc := 273) hx hb dL_boxes_273 (lv_at hl 4 rfl) ?_
                    refine lv_if_ge (pc := 275) (tgt := 287) hx hb dL_boxes_275 (by decide) (fun c68 => ?_) (fun c68 => ?_)
                    · have h := (if_pos c68).symm.trans h
                      refine lv_iinc (pc := 287) (v := (x7 + 1)) (lv' := [(7, .int (x7 + 1)), (6, .int (x6 ||| (0 : Int32))), (5, .int (x5 + (0 : Int32))), (4, .int (x4 + (1 : Int32))), (9, .int (1 : Int32)), (8, .int y56), (0, .ref (ad 0)), (1, .int x1), (2, .int x2), (3, .int x3)]) hx hb dL_boxes_287 hl (k := 9) rfl rfl (by decide) rfl (fun ls hl => ?_)
                      refine lv_goto (pc := 290) (tgt := 158) hx hb dL_boxes_290 (by decide) ?_
                      exact ih M x1 x2 x3 (x4 + (1 : Int32)) (x5 + (0 : Int32)) (x6 ||| (0 : Int32)) (x7 + 1) _ _ _ h hP hS (lv_sub hl [6, 7, 8, 9, 3, 2, 1, 0] rfl)
                    · have h := (if_neg c68).symm.trans h
                      refine lv_iload (pc := 278) hx hb dL_boxes_278 (lv_at hl 4 rfl) ?_
                      refine lv_bipush (pc := 280) (v := (-5 : Int32)) hx hb dL_boxes_280 (by decide) ?_
                      refine lv_icmp_eq (pc := 282) (tgt := 287) hx hb dL_boxes_282 (by decide) (fun c69 => ?_) (fun c69 => ?_)
                      · have h := (if_pos c69).symm.trans h
                        refine lv_iinc (pc := 287) (v := (x7 + 1)) (lv' := [(7, .int (x7 + 1)), (6, .int (x6 ||| (0 : Int32))), (5, .int (x5 + (0 : Int32))), (4, .int (x4 + (1 : Int32))), (9, .int (1 : Int32)), (8, .int y56), (0, .ref (ad 0)), (1, .int x1), (2, .int x2), (3, .int x3)]) hx hb dL_boxes_287 hl (k := 9) rfl rfl (by decide) rfl (fun ls hl => ?_)
                        refine lv_goto (pc := 290) (tgt := 158) hx hb dL_boxes_290 (by decide) ?_
                        exact ih M x1 x2 x3 (x4 + (1 : Int32)) (x5 + (0 : Int32)) (x6 ||| (0 : Int32)) (x7 + 1) _ _ _ h hP hS (lv_sub hl [6, 7, 8, 9, 3, 2, 1, 0] rfl)
                      · have h := (if_neg c69).symm.trans h
                        refine lv_iconst (pc := 285) (v := (0 : Int32)) hx hb dL_boxes_285 (by decide) ?_
                        obtain rfl := som1 h
                        exact x_iret E hP hS rfl dL_boxes_286
              · have h := (if_neg c63).symm.trans h
                refine lv_iconst (pc := 242) (v := (1 : Int32)) hx hb dL_boxes_242 (by decide) ?_
                refine lv_iload (pc := 243) hx hb dL_boxes_243 (lv_at hl 9 rfl) ?_
                refine lv_ishl (pc := 245) hx hb dL_boxes_245 ?_
                refine lv_goto (pc := 246) (tgt := 250) hx hb dL_boxes_246 (by decide) ?_
                refine lv_ior (pc := 250) hx hb dL_boxes_250 ?_
                obtain ⟨y70, hy70, h⟩ := thn_ex h
                refine W.eq (g2 := F0 m 251 ls (.int y70 :: [])) (by rw [← hy70]) ?_
                refine lv_istore (pc := 251) (lv' := [(6, .int y70), (5, .int (x5 + (0 : Int32))), (4, .int (x4 + (1 : Int32))), (9, .int (1 : Int32)), (8, .int y56), (0, .ref (ad 0)), (1, .int x1), (2, .int x2), (3, .int x3), (7, .int x7)]) hx hb dL_boxes_251 hl (by decide) rfl (fun ls hl => ?_)
                refine lv_aload_n (pc := 253) hx hb dL_boxes_253 rfl (lv_at hl 5 rfl) ?_
                refine lv_iload (pc := 254) hx hb dL_boxes_254 (lv_at hl 9 rfl) ?_
                refine lv_iconst (pc := 256) (v := (2 : Int32)) hx hb dL_boxes_256 (by decide) ?_
                obtain ⟨y71, hy71, h⟩ := bnd_ex h
                refine x_callVi (pc := 257) (st := .int (2 : Int32) :: .int x7 :: .ref (ad 0) :: []) (As := [.int x7, .int (2 : Int32)]) E hEx hl.1 hP hS (kX7_prop hap  M _ _ _ hy71) gL_25 hdX7_prop rfl (by decide) sh7 rfl ⟨Nat.le_of_ble_eq_true rfl, Nat.le_of_ble_eq_true rfl⟩ ⟨rfl, rfl⟩ dL_boxes_257 rfl (Nat.le_of_ble_eq_true rfl) (fun H locs hP hS n72 => ?_)
                refine lv_iload (pc := 260) hx hb dL_boxes_260 (lv_at hl 3 rfl) ?_
                refine lv_if_eq (pc := 262) (tgt := 269) hx hb dL_boxes_262 (by decide) (fun c73 => ?_) (fun c73 => ?_)
                · exact absurd c73 (by decide)
                · refine lv_iconst (pc := 265) (v := (1 : Int32)) hx hb dL_boxes_265 (by decide) ?_
                  refine lv_goto (pc := 266) (tgt := 270) hx hb dL_boxes_266 (by decide) ?_
                  refine lv_icmp_ne (pc := 270) (tgt := 285) hx hb dL_boxes_270 (by decide) (fun c74 => ?_) (fun c74 => ?_)
                  · have h := (if_neg c74).symm.trans h
                    refine lv_iconst (pc := 285) (v := (0 : Int32)) hx hb dL_boxes_285 (by decide) ?_
                    obtain rfl := som1 h
                    exact x_iret E hP hS rfl dL_boxes_286
                  · have h := (if_pos c74).symm.trans h
                    refine lv_iload (pc := 273) hx hb dL_boxes_273 (lv_at hl 4 rfl) ?_
                    refine lv_if_ge (pc := 275) (tgt := 287) hx hb dL_boxes_275 (by decide) (fun c75 => ?_) (fun c75 => ?_)
                    · have h := (if_pos c75).symm.trans h
                      refine lv_iinc (pc := 287) (v := (x7 + 1)) (lv' := [(7, .int (x7 + 1)), (6, .int y70), (5, .int (x5 + (0 : Int32))), (4, .int (x4 + (1 : Int32))), (9, .int (1 : Int32)), (8, .int y56), (0, .ref (ad 0)), (1, .int x1), (2, .int x2), (3, .int x3)]) hx hb dL_boxes_287 hl (k := 9) rfl rfl (by decide) rfl (fun ls hl => ?_)
                      refine lv_goto (pc := 290) (tgt := 158) hx hb dL_boxes_290 (by decide) ?_
                      exact ih M x1 x2 x3 (x4 + (1 : Int32)) (x5 + (0 : Int32)) y70 (x7 + 1) _ _ _ h hP hS (lv_sub hl [6, 7, 8, 9, 3, 2, 1, 0] rfl)
                    · have h := (if_neg c75).symm.trans h
                      refine lv_iload (pc := 278) hx hb dL_boxes_278 (lv_at hl 4 rfl) ?_
                      refine lv_bipush (pc := 280) (v := (-5 : Int32)) hx hb dL_boxes_280 (by decide) ?_
                      refine lv_icmp_eq (pc := 282) (tgt := 287) hx hb dL_boxes_282 (by decide) (fun c76 => ?_) (fun c76 => ?_)
                      · have h := (if_pos c76).symm.trans h
                        refine lv_iinc (pc := 287) (v := (x7 + 1)) (lv' := [(7, .int (x7 + 1)), (6, .int y70), (5, .int (x5 + (0 : Int32))), (4, .int (x4 + (1 : Int32))), (9, .int (1 : Int32)), (8, .int y56), (0, .ref (ad 0)), (1, .int x1), (2, .int x2), (3, .int x3)]) hx hb dL_boxes_287 hl (k := 9) rfl rfl (by decide) rfl (fun ls hl => ?_)
                        refine lv_goto (pc := 290) (tgt := 158) hx hb dL_boxes_290 (by decide) ?_
                        exact ih M x1 x2 x3 (x4 + (1 : Int32)) (x5 + (0 : Int32)) y70 (x7 + 1) _ _ _ h hP hS (lv_sub hl [6, 7, 8, 9, 3, 2, 1, 0] rfl)
                      · have h := (if_neg c76).symm.trans h
                        refine lv_iconst (pc := 285) (v := (0 : Int32)) hx hb dL_boxes_285 (by decide) ?_
                        obtain rfl := som1 h
                        exact x_iret E hP hS rfl dL_boxes_286
            · have h := (if_neg c62).symm.trans h
              refine lv_iconst (pc := 227) (v := (1 : Int32)) hx hb dL_boxes_227 (by decide) ?_
              refine lv_goto (pc := 228) (tgt := 232) hx hb dL_boxes_228 (by decide) ?_
              refine lv_iadd (pc := 232) hx hb dL_boxes_232 ?_
              refine lv_istore (pc := 233) (lv' := [(5, .int (x5 + (1 : Int32))), (4, .int (x4 + (1 : Int32))), (9, .int (1 : Int32)), (8, .int y56), (0, .ref (ad 0)), (1, .int x1), (2, .int x2), (3, .int x3), (6, .int x6), (7, .int x7)]) hx hb dL_boxes_233 hl (by decide) rfl (fun ls hl => ?_)
              refine lv_iload (pc := 235) hx hb dL_boxes_235 (lv_at hl 8 rfl) ?_
              refine lv_iload (pc := 237) hx hb dL_boxes_237 (lv_at hl 3 rfl) ?_
              refine lv_if_ge (pc := 239) (tgt := 249) hx hb dL_boxes_239 (by decide) (fun c77 => ?_) (fun c77 => ?_)
              · have h := (if_pos c77).symm.trans h
                refine lv_iconst (pc := 249) (v := (0 : Int32)) hx hb dL_boxes_249 (by decide) ?_
                refine lv_ior (pc := 250) hx hb dL_boxes_250 ?_
                refine lv_istore (pc := 251) (lv' := [(6, .int (x6 ||| (0 : Int32))), (5, .int (x5 + (1 : Int32))), (4, .int (x4 + (1 : Int32))), (9, .int (1 : Int32)), (8, .int y56), (0, .ref (ad 0)), (1, .int x1), (2, .int x2), (3, .int x3), (7, .int x7)]) hx hb dL_boxes_251 hl (by decide) rfl (fun ls hl => ?_)
                refine lv_aload_n (pc := 253) hx hb dL_boxes_253 rfl (lv_at hl 5 rfl) ?_
                refine lv_iload (pc := 254) hx hb dL_boxes_254 (lv_at hl 9 rfl) ?_
                refine lv_iconst (pc := 256) (v := (2 : Int32)) hx hb dL_boxes_256 (by decide) ?_
                obtain ⟨y78, hy78, h⟩ := bnd_ex h
                refine x_callVi (pc := 257) (st := .int (2 : Int32) :: .int x7 :: .ref (ad 0) :: []) (As := [.int x7, .int (2 : Int32)]) E hEx hl.1 hP hS (kX7_prop hap  M _ _ _ hy78) gL_25 hdX7_prop rfl (by decide) sh7 rfl ⟨Nat.le_of_ble_eq_true rfl, Nat.le_of_ble_eq_true rfl⟩ ⟨rfl, rfl⟩ dL_boxes_257 rfl (Nat.le_of_ble_eq_true rfl) (fun H locs hP hS n79 => ?_)
                refine lv_iload (pc := 260) hx hb dL_boxes_260 (lv_at hl 3 rfl) ?_
                refine lv_if_eq (pc := 262) (tgt := 269) hx hb dL_boxes_262 (by decide) (fun c80 => ?_) (fun c80 => ?_)
                · exact absurd c80 (by decide)
                · refine lv_iconst (pc := 265) (v := (1 : Int32)) hx hb dL_boxes_265 (by decide) ?_
                  refine lv_goto (pc := 266) (tgt := 270) hx hb dL_boxes_266 (by decide) ?_
                  refine lv_icmp_ne (pc := 270) (tgt := 285) hx hb dL_boxes_270 (by decide) (fun c81 => ?_) (fun c81 => ?_)
                  · have h := (if_neg c81).symm.trans h
                    refine lv_iconst (pc := 285) (v := (0 : Int32)) hx hb dL_boxes_285 (by decide) ?_
                    obtain rfl := som1 h
                    exact x_iret E hP hS rfl dL_boxes_286
                  · have h := (if_pos c81).symm.trans h
                    refine lv_iload (pc := 273) hx hb dL_boxes_273 (lv_at hl 4 rfl) ?_
                    refine lv_if_ge (pc := 275) (tgt := 287) hx hb dL_boxes_275 (by decide) (fun c82 => ?_) (fun c82 => ?_)
                    · have h := (if_pos c82).symm.trans h
                      refine lv_iinc (pc := 287) (v := (x7 + 1)) (lv' := [(7, .int (x7 + 1)), (6, .int (x6 ||| (0 : Int32))), (5, .int (x5 + (1 : Int32))), (4, .int (x4 + (1 : Int32))), (9, .int (1 : Int32)), (8, .int y56), (0, .ref (ad 0)), (1, .int x1), (2, .int x2), (3, .int x3)]) hx hb dL_boxes_287 hl (k := 9) rfl rfl (by decide) rfl (fun ls hl => ?_)
                      refine lv_goto (pc := 290) (tgt := 158) hx hb dL_boxes_290 (by decide) ?_
                      exact ih M x1 x2 x3 (x4 + (1 : Int32)) (x5 + (1 : Int32)) (x6 ||| (0 : Int32)) (x7 + 1) _ _ _ h hP hS (lv_sub hl [6, 7, 8, 9, 3, 2, 1, 0] rfl)
                    · have h := (if_neg c82).symm.trans h
                      refine lv_iload (pc := 278) hx hb dL_boxes_278 (lv_at hl 4 rfl) ?_
                      refine lv_bipush (pc := 280) (v := (-5 : Int32)) hx hb dL_boxes_280 (by decide) ?_
                      refine lv_icmp_eq (pc := 282) (tgt := 287) hx hb dL_boxes_282 (by decide) (fun c83 => ?_) (fun c83 => ?_)
                      · have h := (if_pos c83).symm.trans h
                        refine lv_iinc (pc := 287) (v := (x7 + 1)) (lv' := [(7, .int (x7 + 1)), (6, .int (x6 ||| (0 : Int32))), (5, .int (x5 + (1 : Int32))), (4, .int (x4 + (1 : Int32))), (9, .int (1 : Int32)), (8, .int y56), (0, .ref (ad 0)), (1, .int x1), (2, .int x2), (3, .int x3)]) hx hb dL_boxes_287 hl (k := 9) rfl rfl (by decide) rfl (fun ls hl => ?_)
                        refine lv_goto (pc := 290) (tgt := 158) hx hb dL_boxes_290 (by decide) ?_
                        exact ih M x1 x2 x3 (x4 + (1 : Int32)) (x5 + (1 : Int32)) (x6 ||| (0 : Int32)) (x7 + 1) _ _ _ h hP hS (lv_sub hl [6, 7, 8, 9, 3, 2, 1, 0] rfl)
                      · have h := (if_neg c83).symm.trans h
                        refine lv_iconst (pc := 285) (v := (0 : Int32)) hx hb dL_boxes_285 (by decide) ?_
                        obtain rfl := som1 h
                        exact x_iret E hP hS rfl dL_boxes_286
              · have h := (if_neg c77).symm.trans h
                refine lv_iconst (pc := 242) (v := (1 : Int32)) hx hb dL_boxes_242 (by decide) ?_
                refine lv_iload (pc := 243) hx hb dL_boxes_243 (lv_at hl 9 rfl) ?_
                refine lv_ishl (pc := 245) hx hb dL_boxes_245 ?_
                refine lv_goto (pc := 246) (tgt := 250) hx hb dL_boxes_246 (by decide) ?_
                refine lv_ior (pc := 250) hx hb dL_boxes_250 ?_
                obtain ⟨y84, hy84, h⟩ := thn_ex h
                refine W.eq (g2 := F0 m 251 ls (.int y84 :: [])) (by rw [← hy84]) ?_
                refine lv_istore (pc := 251) (lv' := [(6, .int y84), (5, .int (x5 + (1 : Int32))), (4, .int (x4 + (1 : Int32))), (9, .int (1 : Int32)), (8, .int y56), (0, .ref (ad 0)), (1, .int x1), (2, .int x2), (3, .int x3), (7, .int x7)]) hx hb dL_boxes_251 hl (by decide) rfl (fun ls hl => ?_)
                refine lv_aload_n (pc := 253) hx hb dL_boxes_253 rfl (lv_at hl 5 rfl) ?_
                refine lv_iload (pc := 254) hx hb dL_boxes_254 (lv_at hl 9 rfl) ?_
                refine lv_iconst (pc := 256) (v := (2 : Int32)) hx hb dL_boxes_256 (by decide) ?_
                obtain ⟨y85, hy85, h⟩ := bnd_ex h
                refine x_callVi (pc := 257) (st := .int (2 : Int32) :: .int x7 :: .ref (ad 0) :: []) (As := [.int x7, .int (2 : Int32)]) E hEx hl.1 hP hS (kX7_prop hap  M _ _ _ hy85) gL_25 hdX7_prop rfl (by decide) sh7 rfl ⟨Nat.le_of_ble_eq_true rfl, Nat.le_of_ble_eq_true rfl⟩ ⟨rfl, rfl⟩ dL_boxes_257 rfl (Nat.le_of_ble_eq_true rfl) (fun H locs hP hS n86 => ?_)
                refine lv_iload (pc := 260) hx hb dL_boxes_260 (lv_at hl 3 rfl) ?_
                refine lv_if_eq (pc := 262) (tgt := 269) hx hb dL_boxes_262 (by decide) (fun c87 => ?_) (fun c87 => ?_)
                · exact absurd c87 (by decide)
                · refine lv_iconst (pc := 265) (v := (1 : Int32)) hx hb dL_boxes_265 (by decide) ?_
                  refine lv_goto (pc := 266) (tgt := 270) hx hb dL_boxes_266 (by decide) ?_
                  refine lv_icmp_ne (pc := 270) (tgt := 285) hx hb dL_boxes_270 (by decide) (fun c88 => ?_) (fun c88 => ?_)
                  · have h := (if_neg c88).symm.trans h
                    refine lv_iconst (pc := 285) (v := (0 : Int32)) hx hb dL_boxes_285 (by decide) ?_
                    obtain rfl := som1 h
                    exact x_iret E hP hS rfl dL_boxes_286
                  · have h := (if_pos c88).symm.trans h
                    refine lv_iload (pc := 273) hx hb dL_boxes_273 (lv_at hl 4 rfl) ?_
                    refine lv_if_ge (pc := 275) (tgt := 287) hx hb dL_boxes_275 (by decide) (fun c89 => ?_) (fun c89 => ?_)
                    · have h := (if_pos c89).symm.trans h
                      refine lv_iinc (pc := 287) (v := (x7 + 1)) (lv' := [(7, .int (x7 + 1)), (6, .int y84), (5, .int (x5 + (1 : Int32))), (4, .int (x4 + (1 : Int32))), (9, .int (1 : Int32)), (8, .int y56), (0, .ref (ad 0)), (1, .int x1), (2, .int x2), (3, .int x3)]) hx hb dL_boxes_287 hl (k := 9) rfl rfl (by decide) rfl (fun ls hl => ?_)
                      refine lv_goto (pc := 290) (tgt := 158) hx hb dL_boxes_290 (by decide) ?_
                      exact ih M x1 x2 x3 (x4 + (1 : Int32)) (x5 + (1 : Int32)) y84 (x7 + 1) _ _ _ h hP hS (lv_sub hl [6, 7, 8, 9, 3, 2, 1, 0] rfl)
                    · have h := (if_neg c89).symm.trans h
                      refine lv_iload (pc := 278) hx hb dL_boxes_278 (lv_at hl 4 rfl) ?_
                      refine lv_bipush (pc := 280) (v := (-5 : Int32)) hx hb dL_boxes_280 (by decide) ?_
                      refine lv_icmp_eq (pc := 282) (tgt := 287) hx hb dL_boxes_282 (by decide) (fun c90 => ?_) (fun c90 => ?_)
                      · have h := (if_pos c90).symm.trans h
                        refine lv_iinc (pc := 287) (v := (x7 + 1)) (lv' := [(7, .int (x7 + 1)), (6, .int y84), (5, .int (x5 + (1 : Int32))), (4, .int (x4 + (1 : Int32))), (9, .int (1 : Int32)), (8, .int y56), (0, .ref (ad 0)), (1, .int x1), (2, .int x2), (3, .int x3)]) hx hb dL_boxes_287 hl (k := 9) rfl rfl (by decide) rfl (fun ls hl => ?_)
                        refine lv_goto (pc := 290) (tgt := 158) hx hb dL_boxes_290 (by decide) ?_
                        exact ih M x1 x2 x3 (x4 + (1 : Int32)) (x5 + (1 : Int32)) y84 (x7 + 1) _ _ _ h hP hS (lv_sub hl [6, 7, 8, 9, 3, 2, 1, 0] rfl)
                      · have h := (if_neg c90).symm.trans h
                        refine lv_iconst (pc := 285) (v := (0 : Int32)) hx hb dL_boxes_285 (by decide) ?_
                        obtain rfl := som1 h
                        exact x_iret E hP hS rfl dL_boxes_286
          · have h := (if_pos c61).symm.trans h
            refine lv_iconst (pc := 212) (v := (0 : Int32)) hx hb dL_boxes_212 (by decide) ?_
            refine lv_goto (pc := 213) (tgt := 217) hx hb dL_boxes_213 (by decide) ?_
            refine lv_iadd (pc := 217) hx hb dL_boxes_217 ?_
            refine lv_istore (pc := 218) (lv' := [(4, .int (x4 + (0 : Int32))), (9, .int (1 : Int32)), (8, .int y56), (0, .ref (ad 0)), (1, .int x1), (2, .int x2), (3, .int x3), (5, .int x5), (6, .int x6), (7, .int x7)]) hx hb dL_boxes_218 hl (by decide) rfl (fun ls hl => ?_)
            refine lv_iload (pc := 220) hx hb dL_boxes_220 (lv_at hl 7 rfl) ?_
            refine lv_iload (pc := 222) hx hb dL_boxes_222 (lv_at hl 2 rfl) ?_
            refine lv_if_ge (pc := 224) (tgt := 231) hx hb dL_boxes_224 (by decide) (fun c91 => ?_) (fun c91 => ?_)
            · have h := (if_pos c91).symm.trans h
              refine lv_iconst (pc := 231) (v := (0 : Int32)) hx hb dL_boxes_231 (by decide) ?_
              refine lv_iadd (pc := 232) hx hb dL_boxes_232 ?_
              refine lv_istore (pc := 233) (lv' := [(5, .int (x5 + (0 : Int32))), (4, .int (x4 + (0 : Int32))), (9, .int (1 : Int32)), (8, .int y56), (0, .ref (ad 0)), (1, .int x1), (2, .int x2), (3, .int x3), (6, .int x6), (7, .int x7)]) hx hb dL_boxes_233 hl (by decide) rfl (fun ls hl => ?_)
              refine lv_iload (pc := 235) hx hb dL_boxes_235 (lv_at hl 8 rfl) ?_
              refine lv_iload (pc := 237) hx hb dL_boxes_237 (lv_at hl 3 rfl) ?_
              refine lv_if_ge (pc := 239) (tgt := 249) hx hb dL_boxes_239 (by decide) (fun c92 => ?_) (fun c92 => ?_)
              · have h := (if_pos c92).symm.trans h
                refine lv_iconst (pc := 249) (v := (0 : Int32)) hx hb dL_boxes_249 (by decide) ?_
                refine lv_ior (pc := 250) hx hb dL_boxes_250 ?_
                refine lv_istore (pc := 251) (lv' := [(6, .int (x6 ||| (0 : Int32))), (5, .int (x5 + (0 : Int32))), (4, .int (x4 + (0 : Int32))), (9, .int (1 : Int32)), (8, .int y56), (0, .ref (ad 0)), (1, .int x1), (2, .int x2), (3, .int x3), (7, .int x7)]) hx hb dL_boxes_251 hl (by decide) rfl (fun ls hl => ?_)
                refine lv_aload_n (pc := 253) hx hb dL_boxes_253 rfl (lv_at hl 5 rfl) ?_
                refine lv_iload (pc := 254) hx hb dL_boxes_254 (lv_at hl 9 rfl) ?_
                refine lv_iconst (pc := 256) (v := (2 : Int32)) hx hb dL_boxes_256 (by decide) ?_
                obtain ⟨y93, hy93, h⟩ := bnd_ex h
                refine x_callVi (pc := 257) (st := .int (2 : Int32) :: .int x7 :: .ref (ad 0) :: []) (As := [.int x7, .int (2 : Int32)]) E hEx hl.1 hP hS (kX7_prop hap  M _ _ _ hy93) gL_25 hdX7_prop rfl (by decide) sh7 rfl ⟨Nat.le_of_ble_eq_true rfl, Nat.le_of_ble_eq_true rfl⟩ ⟨rfl, rfl⟩ dL_boxes_257 rfl (Nat.le_of_ble_eq_true rfl) (fun H locs hP hS n94 => ?_)
                refine lv_iload (pc := 260) hx hb dL_boxes_260 (lv_at hl 3 rfl) ?_
                refine lv_if_eq (pc := 262) (tgt := 269) hx hb dL_boxes_262 (by decide) (fun c95 => ?_) (fun c95 => ?_)
                · exact absurd c95 (by decide)
                · refine lv_iconst (pc := 265) (v := (1 : Int32)) hx hb dL_boxes_265 (by decide) ?_
                  refine lv_goto (pc := 266) (tgt := 270) hx hb dL_boxes_266 (by decide) ?_
                  refine lv_icmp_ne (pc := 270) (tgt := 285) hx hb dL_boxes_270 (by decide) (fun c96 => ?_) (fun c96 => ?_)
                  · have h := (if_neg c96).symm.trans h
                    refine lv_iconst (pc := 285) (v := (0 : Int32)) hx hb dL_boxes_285 (by decide) ?_
                    obtain rfl := som1 h
                    exact x_iret E hP hS rfl dL_boxes_286
                  · have h := (if_pos c96).symm.trans h
                    refine lv_iload (pc := 273) hx hb dL_boxes_273 (lv_at hl 4 rfl) ?_
                    refine lv_if_ge (pc := 275) (tgt := 287) hx hb dL_boxes_275 (by decide) (fun c97 => ?_) (fun c97 => ?_)
                    · have h := (if_pos c97).symm.trans h
                      refine lv_iinc (pc := 287) (v := (x7 + 1)) (lv' := [(7, .int (x7 + 1)), (6, .int (x6 ||| (0 : Int32))), (5, .int (x5 + (0 : Int32))), (4, .int (x4 + (0 : Int32))), (9, .int (1 : Int32)), (8, .int y56), (0, .ref (ad 0)), (1, .int x1), (2, .int x2), (3, .int x3)]) hx hb dL_boxes_287 hl (k := 9) rfl rfl (by decide) rfl (fun ls hl => ?_)
                      refine lv_goto (pc := 290) (tgt := 158) hx hb dL_boxes_290 (by decide) ?_
                      exact ih M x1 x2 x3 (x4 + (0 : Int32)) (x5 + (0 : Int32)) (x6 ||| (0 : Int32)) (x7 + 1) _ _ _ h hP hS (lv_sub hl [6, 7, 8, 9, 3, 2, 1, 0] rfl)
                    · have h := (if_neg c97).symm.trans h
                      refine lv_iload (pc := 278) hx hb dL_boxes_278 (lv_at hl 4 rfl) ?_
                      refine lv_bipush (pc := 280) (v := (-5 : Int32)) hx hb dL_boxes_280 (by decide) ?_
                      refine lv_icmp_eq (pc := 282) (tgt := 287) hx hb dL_boxes_282 (by decide) (fun c98 => ?_) (fun c98 => ?_)
                      · have h := (if_pos c98).symm.trans h
                        refine lv_iinc (pc := 287) (v := (x7 + 1)) (lv' := [(7, .int (x7 + 1)), (6, .int (x6 ||| (0 : Int32))), (5, .int (x5 + (0 : Int32))), (4, .int (x4 + (0 : Int32))), (9, .int (1 : Int32)), (8, .int y56), (0, .ref (ad 0)), (1, .int x1), (2, .int x2), (3, .int x3)]) hx hb dL_boxes_287 hl (k := 9) rfl rfl (by decide) rfl (fun ls hl => ?_)
                        refine lv_goto (pc := 290) (tgt := 158) hx hb dL_boxes_290 (by decide) ?_
                        exact ih M x1 x2 x3 (x4 + (0 : Int32)) (x5 + (0 : Int32)) (x6 ||| (0 : Int32)) (x7 + 1) _ _ _ h hP hS (lv_sub hl [6, 7, 8, 9, 3, 2, 1, 0] rfl)
                      · have h := (if_neg c98).symm.trans h
                        refine lv_iconst (pc := 285) (v := (0 : Int32)) hx hb dL_boxes_285 (by decide) ?_
                        obtain rfl := som1 h
                        exact x_iret E hP hS rfl dL_boxes_286
              · have h := (if_neg c92).symm.trans h
                refine lv_iconst (pc := 242) (v := (1 : Int32)) hx hb dL_boxes_242 (by decide) ?_
                refine lv_iload (pc := 243) hx hb dL_boxes_243 (lv_at hl 9 rfl) ?_
                refine lv_ishl (pc := 245) hx hb dL_boxes_245 ?_
                refine lv_goto (pc := 246) (tgt := 250) hx hb dL_boxes_246 (by decide) ?_
                refine lv_ior (pc := 250) hx hb dL_boxes_250 ?_
                obtain ⟨y99, hy99, h⟩ := thn_ex h
                refine W.eq (g2 := F0 m 251 ls (.int y99 :: [])) (by rw [← hy99]) ?_
                refine lv_istore (pc := 251) (lv' := [(6, .int y99), (5, .int (x5 + (0 : Int32))), (4, .int (x4 + (0 : Int32))), (9, .int (1 : Int32)), (8, .int y56), (0, .ref (ad 0)), (1, .int x1), (2, .int x2), (3, .int x3), (7, .int x7)]) hx hb dL_boxes_251 hl (by decide) rfl (fun ls hl => ?_)
                refine lv_aload_n (pc := 253) hx hb dL_boxes_253 rfl (lv_at hl 5 rfl) ?_
                refine lv_iload (pc := 254) hx hb dL_boxes_254 (lv_at hl 9 rfl) ?_
                refine lv_iconst (pc := 256) (v := (2 : Int32)) hx hb dL_boxes_256 (by decide) ?_
                obtain ⟨y100, hy100, h⟩ := bnd_ex h
                refine x_callVi (pc := 257) (st := .int (2 : Int32) :: .int x7 :: .ref (ad 0) :: []) (As := [.int x7, .int (2 : Int32)]) E hEx hl.1 hP hS (kX7_prop hap  M _ _ _ hy100) gL_25 hdX7_prop rfl (by decide) sh7 rfl ⟨Nat.le_of_ble_eq_true rfl, Nat.le_of_ble_eq_true rfl⟩ ⟨rfl, rfl⟩ dL_boxes_257 rfl (Nat.le_of_ble_eq_true rfl) (fun H locs hP hS n101 => ?_)
                refine lv_iload (pc := 260) hx hb dL_boxes_260 (lv_at hl 3 rfl) ?_
                refine lv_if_eq (pc := 262) (tgt := 269) hx hb dL_boxes_262 (by decide) (fun c102 => ?_) (fun c102 => ?_)
                · exact absurd c102 (by decide)
                · refine lv_iconst (pc := 265) (v := (1 : Int32)) hx hb dL_boxes_265 (by decide) ?_
                  refine lv_goto (pc := 266) (tgt := 270) hx hb dL_boxes_266 (by decide) ?_
                  refine lv_icmp_ne (pc := 270) (tgt := 285) hx hb dL_boxes_270 (by decide) (fun c103 => ?_) (fun c103 => ?_)
                  · have h := (if_neg c103).symm.trans h
                    refine lv_iconst (pc := 285) (v := (0 : Int32)) hx hb dL_boxes_285 (by decide) ?_
                    obtain rfl := som1 h
                    exact x_iret E hP hS rfl dL_boxes_286
                  · have h := (if_pos c103).symm.trans h
                    refine lv_iload (pc := 273) hx hb dL_boxes_273 (lv_at hl 4 rfl) ?_
                    refine lv_if_ge (pc := 275) (tgt := 287) hx hb dL_boxes_275 (by decide) (fun c104 => ?_) (fun c104 => ?_)
                    · have h := (if_pos c104).symm.trans h
                      refine lv_iinc (pc := 287) (v := (x7 + 1)) (lv' := [(7, .int (x7 + 1)), (6, .int y99), (5, .int (x5 + (0 : Int32))), (4, .int (x4 + (0 : Int32))), (9, .int (1 : Int32)), (8, .int y56), (0, .ref (ad 0)), (1, .int x1), (2, .int x2), (3, .int x3)]) hx hb dL_boxes_287 hl (k := 9) rfl rfl (by decide) rfl (fun ls hl => ?_)
                      refine lv_goto (pc := 290) (tgt := 158) hx hb dL_boxes_290 (by decide) ?_
                      exact ih M x1 x2 x3 (x4 + (0 : Int32)) (x5 + (0 : Int32)) y99 (x7 + 1) _ _ _ h hP hS (lv_sub hl [6, 7, 8, 9, 3, 2, 1, 0] rfl)
                    · have h := (if_neg c104).symm.trans h
                      refine lv_iload (pc := 278) hx hb dL_boxes_278 (lv_at hl 4 rfl) ?_
                      refine lv_bipush (pc := 280) (v := (-5 : Int32)) hx hb dL_boxes_280 (by decide) ?_
                      refine lv_icmp_eq (pc := 282) (tgt := 287) hx hb dL_boxes_282 (by decide) (fun c105 => ?_) (fun c105 => ?_)
                      · have h := (if_pos c105).symm.trans h
                        refine lv_iinc (pc := 287) (v := (x7 + 1)) (lv' := [(7, .int (x7 + 1)), (6, .int y99), (5, .int (x5 + (0 : Int32))), (4, .int (x4 + (0 : Int32))), (9, .int (1 : Int32)), (8, .int y56), (0, .ref (ad 0)), (1, .int x1), (2, .int x2), (3, .int x3)]) hx hb dL_boxes_287 hl (k := 9) rfl rfl (by decide) rfl (fun ls hl => ?_)
                        refine lv_goto (pc := 290) (tgt := 158) hx hb dL_boxes_290 (by decide) ?_
                        exact ih M x1 x2 x3 (x4 + (0 : Int32)) (x5 + (0 : Int32)) y99 (x7 + 1) _ _ _ h hP hS (lv_sub hl [6, 7, 8, 9, 3, 2, 1, 0] rfl)
                      · have h := (if_neg c105).symm.trans h
                        refine lv_iconst (pc := 285) (v := (0 : Int32)) hx hb dL_boxes_285 (by decide) ?_
                        obtain rfl := som1 h
                        exact x_iret E hP hS rfl dL_boxes_286
            · have h := (if_neg c91).symm.trans h
              refine lv_iconst (pc := 227) (v := (1 : Int32)) hx hb dL_boxes_227 (by decide) ?_
              refine lv_goto (pc := 228) (tgt := 232) hx hb dL_boxes_228 (by decide) ?_
              refine lv_iadd (pc := 232) hx hb dL_boxes_232 ?_
              refine lv_istore (pc := 233) (lv' := [(5, .int (x5 + (1 : Int32))), (4, .int (x4 + (0 : Int32))), (9, .int (1 : Int32)), (8, .int y56), (0, .ref (ad 0)), (1, .int x1), (2, .int x2), (3, .int x3), (6, .int x6), (7, .int x7)]) hx hb dL_boxes_233 hl (by decide) rfl (fun ls hl => ?_)
              refine lv_iload (pc := 235) hx hb dL_boxes_235 (lv_at hl 8 rfl) ?_
              refine lv_iload (pc := 237) hx hb dL_boxes_237 (lv_at hl 3 rfl) ?_
              refine lv_if_ge (pc := 239) (tgt := 249) hx hb dL_boxes_239 (by decide) (fun c106 => ?_) (fun c106 => ?_)
              · have h := (if_pos c106).symm.trans h
                refine lv_iconst (pc := 249) (v := (0 : Int32)) hx hb dL_boxes_249 (by decide) ?_
                refine lv_ior (pc := 250) hx hb dL_boxes_250 ?_
                refine lv_istore (pc := 251) (lv' := [(6, .int (x6 ||| (0 : Int32))), (5, .int (x5 + (1 : Int32))), (4, .int (x4 + (0 : Int32))), (9, .int (1 : Int32)), (8, .int y56), (0, .ref (ad 0)), (1, .int x1), (2, .int x2), (3, .int x3), (7, .int x7)]) hx hb dL_boxes_251 hl (by decide) rfl (fun ls hl => ?_)
                refine lv_aload_n (pc := 253) hx hb dL_boxes_253 rfl (lv_at hl 5 rfl) ?_
                refine lv_iload (pc := 254) hx hb dL_boxes_254 (lv_at hl 9 rfl) ?_
                refine lv_iconst (pc := 256) (v := (2 : Int32)) hx hb dL_boxes_256 (by decide) ?_
                obtain ⟨y107, hy107, h⟩ := bnd_ex h
                refine x_callVi (pc := 257) (st := .int (2 : Int32) :: .int x7 :: .ref (ad 0) :: []) (As := [.int x7, .int (2 : Int32)]) E hEx hl.1 hP hS (kX7_prop hap  M _ _ _ hy107) gL_25 hdX7_prop rfl (by decide) sh7 rfl ⟨Nat.le_of_ble_eq_true rfl, Nat.le_of_ble_eq_true rfl⟩ ⟨rfl, rfl⟩ dL_boxes_257 rfl (Nat.le_of_ble_eq_true rfl) (fun H locs hP hS n108 => ?_)
                refine lv_iload (pc := 260) hx hb dL_boxes_260 (lv_at hl 3 rfl) ?_
                refine lv_if_eq (pc := 262) (tgt := 269) hx hb dL_boxes_262 (by decide) (fun c109 => ?_) (fun c109 => ?_)
                · exact absurd c109 (by decide)
                · refine lv_iconst (pc := 265) (v := (1 : Int32)) hx hb dL_boxes_265 (by decide) ?_
                  refine lv_goto (pc := 266) (tgt := 270) hx hb dL_boxes_266 (by decide) ?_
                  refine lv_icmp_ne (pc := 270) (tgt := 285) hx hb dL_boxes_270 (by decide) (fun c110 => ?_) (fun c110 => ?_)
                  · have h := (if_neg c110).symm.trans h
                    refine lv_iconst (pc := 285) (v := (0 : Int32)) hx hb dL_boxes_285 (by decide) ?_
                    obtain rfl := som1 h
                    exact x_iret E hP hS rfl dL_boxes_286
                  · have h := (if_pos c110).symm.trans h
                    refine lv_iload (pc := 273) hx hb dL_boxes_273 (lv_at hl 4 rfl) ?_
                    refine lv_if_ge (pc := 275) (tgt := 287) hx hb dL_boxes_275 (by decide) (fun c111 => ?_) (fun c111 => ?_)
                    · have h := (if_pos c111).symm.trans h
                      refine lv_iinc (pc := 287) (v := (x7 + 1)) (lv' := [(7, .int (x7 + 1)), (6, .int (x6 ||| (0 : Int32))), (5, .int (x5 + (1 : Int32))), (4, .int (x4 + (0 : Int32))), (9, .int (1 : Int32)), (8, .int y56), (0, .ref (ad 0)), (1, .int x1), (2, .int x2), (3, .int x3)]) hx hb dL_boxes_287 hl (k := 9) rfl rfl (by decide) rfl (fun ls hl => ?_)
                      refine lv_goto (pc := 290) (tgt := 158) hx hb dL_boxes_290 (by decide) ?_
                      exact ih M x1 x2 x3 (x4 + (0 : Int32)) (x5 + (1 : Int32)) (x6 ||| (0 : Int32)) (x7 + 1) _ _ _ h hP hS (lv_sub hl [6, 7, 8, 9, 3, 2, 1, 0] rfl)
                    · have h := (if_neg c111).symm.trans h
                      refine lv_iload (pc := 278) hx hb dL_boxes_278 (lv_at hl 4 rfl) ?_
                      refine lv_bipush (pc := 280) (v := (-5 : Int32)) hx hb dL_boxes_280 (by decide) ?_
                      refine lv_icmp_eq (pc := 282) (tgt := 287) hx hb dL_boxes_282 (by decide) (fun c112 => ?_) (fun c112 => ?_)
                      · have h := (if_pos c112).symm.trans h
                        refine lv_iinc (pc := 287) (v := (x7 + 1)) (lv' := [(7, .int (x7 + 1)), (6, .int (x6 ||| (0 : Int32))), (5, .int (x5 + (1 : Int32))), (4, .int (x4 + (0 : Int32))), (9, .int (1 : Int32)), (8, .int y56), (0, .ref (ad 0)), (1, .int x1), (2, .int x2), (3, .int x3)]) hx hb dL_boxes_287 hl (k := 9) rfl rfl (by decide) rfl (fun ls hl => ?_)
                        refine lv_goto (pc := 290) (tgt := 158) hx hb dL_boxes_290 (by decide) ?_
                        exact ih M x1 x2 x3 (x4 + (0 : Int32)) (x5 + (1 : Int32)) (x6 ||| (0 : Int32)) (x7 + 1) _ _ _ h hP hS (lv_sub hl [6, 7, 8, 9, 3, 2, 1, 0] rfl)
                      · have h := (if_neg c112).symm.trans h
                        refine lv_iconst (pc := 285) (v := (0 : Int32)) hx hb dL_boxes_285 (by decide) ?_
                        obtain rfl := som1 h
                        exact x_iret E hP hS rfl dL_boxes_286
              · have h := (if_neg c106).symm.trans h
                refine lv_iconst (pc := 242) (v := (1 : Int32)) hx hb dL_boxes_242 (by decide) ?_
                refine lv_iload (pc := 243) hx hb dL_boxes_243 (lv_at hl 9 rfl) ?_
                refine lv_ishl (pc := 245) hx hb dL_boxes_245 ?_
                refine lv_goto (pc := 246) (tgt := 250) hx hb dL_boxes_246 (by decide) ?_
                refine lv_ior (pc := 250) hx hb dL_boxes_250 ?_
                obtain ⟨y113, hy113, h⟩ := thn_ex h
                refine W.eq (g2 := F0 m 251 ls (.int y113 :: [])) (by rw [← hy113]) ?_
                refine lv_istore (pc := 251) (lv' := [(6, .int y113), (5, .int (x5 + (1 : Int32))), (4, .int (x4 + (0 : Int32))), (9, .int (1 : Int32)), (8, .int y56), (0, .ref (ad 0)), (1, .int x1), (2, .int x2), (3, .int x3), (7, .int x7)]) hx hb dL_boxes_251 hl (by decide) rfl (fun ls hl => ?_)
                refine lv_aload_n (pc := 253) hx hb dL_boxes_253 rfl (lv_at hl 5 rfl) ?_
                refine lv_iload (pc := 254) hx hb dL_boxes_254 (lv_at hl 9 rfl) ?_
                refine lv_iconst (pc := 256) (v := (2 : Int32)) hx hb dL_boxes_256 (by decide) ?_
                obtain ⟨y114, hy114, h⟩ := bnd_ex h
                refine x_callVi (pc := 257) (st := .int (2 : Int32) :: .int x7 :: .ref (ad 0) :: []) (As := [.int x7, .int (2 : Int32)]) E hEx hl.1 hP hS (kX7_prop hap  M _ _ _ hy114) gL_25 hdX7_prop rfl (by decide) sh7 rfl ⟨Nat.le_of_ble_eq_true rfl, Nat.le_of_ble_eq_true rfl⟩ ⟨rfl, rfl⟩ dL_boxes_257 rfl (Nat.le_of_ble_eq_true rfl) (fun H locs hP hS n115 => ?_)
                refine lv_iload (pc := 260) hx hb dL_boxes_260 (lv_at hl 3 rfl) ?_
                refine lv_if_eq (pc := 262) (tgt := 269) hx hb dL_boxes_262 (by decide) (fun c116 => ?_) (fun c116 => ?_)
                · exact absurd c116 (by decide)
                · refine lv_iconst (pc := 265) (v := (1 : Int32)) hx hb dL_boxes_265 (by decide) ?_
                  refine lv_goto (pc := 266) (tgt := 270) hx hb dL_boxes_266 (by decide) ?_
                  refine lv_icmp_ne (pc := 270) (tgt := 285) hx hb dL_boxes_270 (by decide) (fun c117 => ?_) (fun c117 => ?_)
                  · have h := (if_neg c117).symm.trans h
                    refine lv_iconst (pc := 285) (v := (0 : Int32)) hx hb dL_boxes_285 (by decide) ?_
                    obtain rfl := som1 h
                    exact x_iret E hP hS rfl dL_boxes_286
                  · have h := (if_pos c117).symm.trans h
                    refine lv_iload (pc := 273) hx hb dL_boxes_273 (lv_at hl 4 rfl) ?_
                    refine lv_if_ge (pc := 275) (tgt := 287) hx hb dL_boxes_275 (by decide) (fun c118 => ?_) (fun c118 => ?_)
                    · have h := (if_pos c118).symm.trans h
                      refine lv_iinc (pc := 287) (v := (x7 + 1)) (lv' := [(7, .int (x7 + 1)), (6, .int y113), (5, .int (x5 + (1 : Int32))), (4, .int (x4 + (0 : Int32))), (9, .int (1 : Int32)), (8, .int y56), (0, .ref (ad 0)), (1, .int x1), (2, .int x2), (3, .int x3)]) hx hb dL_boxes_287 hl (k := 9) rfl rfl (by decide) rfl (fun ls hl => ?_)
                      refine lv_goto (pc := 290) (tgt := 158) hx hb dL_boxes_290 (by decide) ?_
                      exact ih M x1 x2 x3 (x4 + (0 : Int32)) (x5 + (1 : Int32)) y113 (x7 + 1) _ _ _ h hP hS (lv_sub hl [6, 7, 8, 9, 3, 2, 1, 0] rfl)
                    · have h := (if_neg c118).symm.trans h
                      refine lv_iload (pc := 278) hx hb dL_boxes_278 (lv_at hl 4 rfl) ?_
                      refine lv_bipush (pc := 280) (v := (-5 : Int32)) hx hb dL_boxes_280 (by decide) ?_
                      refine lv_icmp_eq (pc := 282) (tgt := 287) hx hb dL_boxes_282 (by decide) (fun c119 => ?_) (fun c119 => ?_)
                      · have h := (if_pos c119).symm.trans h
                        refine lv_iinc (pc := 287) (v := (x7 + 1)) (lv' := [(7, .int (x7 + 1)), (6, .int y113), (5, .int (x5 + (1 : Int32))), (4, .int (x4 + (0 : Int32))), (9, .int (1 : Int32)), (8, .int y56), (0, .ref (ad 0)), (1, .int x1), (2, .int x2), (3, .int x3)]) hx hb dL_boxes_287 hl (k := 9) rfl rfl (by decide) rfl (fun ls hl => ?_)
                        refine lv_goto (pc := 290) (tgt := 158) hx hb dL_boxes_290 (by decide) ?_
                        exact ih M x1 x2 x3 (x4 + (0 : Int32)) (x5 + (1 : Int32)) y113 (x7 + 1) _ _ _ h hP hS (lv_sub hl [6, 7, 8, 9, 3, 2, 1, 0] rfl)
                      · have h := (if_neg c119).symm.trans h
                        refine lv_iconst (pc := 285) (v := (0 : Int32)) hx hb dL_boxes_285 (by decide) ?_
                        obtain rfl := som1 h
                        exact x_iret E hP hS rfl dL_boxes_286
        · have h := (if_neg c58).symm.trans h
          refine lv_aload_n (pc := 182) hx hb dL_boxes_182 rfl (lv_at hl 1 rfl) ?_
          refine lv_iload (pc := 183) hx hb dL_boxes_183 (lv_at hl 0 rfl) ?_
          obtain ⟨y120, hy120, h⟩ := bnd_ex h
          refine x_callSi (pc := 185) (st := .int y56 :: .ref (ad 0) :: []) (As := [.ref (ad 0), .int y56]) E hEx hl.1 hP hS (kL_allOpen hap  M _ _ hy120) gL_19 hsL_allOpen rfl ⟨Nat.le_of_ble_eq_true rfl, Nat.le_of_ble_eq_true rfl⟩ ⟨rfl, rfl⟩ dL_boxes_185 rfl (Nat.le_of_ble_eq_true rfl) (fun H locs hP hS n121 => ?_)
          refine lv_if_eq (pc := 188) (tgt := 195) hx hb dL_boxes_188 (by decide) (fun c122 => ?_) (fun c122 => ?_)
          · have h := (if_pos c122).symm.trans h
            refine lv_iconst (pc := 195) (v := (0 : Int32)) hx hb dL_boxes_195 (by decide) ?_
            refine lv_istore (pc := 196) (lv' := [(9, .int (0 : Int32)), (8, .int y56), (0, .ref (ad 0)), (1, .int x1), (2, .int x2), (3, .int x3), (4, .int x4), (5, .int x5), (6, .int x6), (7, .int x7)]) hx hb dL_boxes_196 hl (by decide) rfl (fun ls hl => ?_)
            refine lv_iload (pc := 198) hx hb dL_boxes_198 (lv_at hl 6 rfl) ?_
            refine lv_iload (pc := 200) hx hb dL_boxes_200 (lv_at hl 1 rfl) ?_
            refine lv_aload_n (pc := 202) hx hb dL_boxes_202 rfl (lv_at hl 2 rfl) ?_
            refine lv_iload (pc := 203) hx hb dL_boxes_203 (lv_at hl 9 rfl) ?_
            refine lv_iconst (pc := 205) (v := (0 : Int32)) hx hb dL_boxes_205 (by decide) ?_
            obtain ⟨y123, hy123, h⟩ := bnd_ex h
            refine x_callVi (pc := 206) (st := .int (0 : Int32) :: .int x7 :: .ref (ad 0) :: .int y56 :: .int x4 :: []) (As := [.int x7, .int (0 : Int32)]) E hEx hl.1 hP hS (kX7_prop hap  M _ _ _ hy123) gL_25 hdX7_prop rfl (by decide) sh7 rfl ⟨Nat.le_of_ble_eq_true rfl, Nat.le_of_ble_eq_true rfl⟩ ⟨rfl, rfl⟩ dL_boxes_206 rfl (Nat.le_of_ble_eq_true rfl) (fun H locs hP hS n124 => ?_)
            refine lv_icmp_ne (pc := 209) (tgt := 216) hx hb dL_boxes_209 (by decide) (fun c125 => ?_) (fun c125 => ?_)
            · have h := (if_neg c125).symm.trans h
              refine lv_iconst (pc := 216) (v := (1 : Int32)) hx hb dL_boxes_216 (by decide) ?_
              refine lv_iadd (pc := 217) hx hb dL_boxes_217 ?_
              refine lv_istore (pc := 218) (lv' := [(4, .int (x4 + (1 : Int32))), (9, .int (0 : Int32)), (8, .int y56), (0, .ref (ad 0)), (1, .int x1), (2, .int x2), (3, .int x3), (5, .int x5), (6, .int x6), (7, .int x7)]) hx hb dL_boxes_218 hl (by decide) rfl (fun ls hl => ?_)
              refine lv_iload (pc := 220) hx hb dL_boxes_220 (lv_at hl 7 rfl) ?_
              refine lv_iload (pc := 222) hx hb dL_boxes_222 (lv_at hl 2 rfl) ?_
              refine lv_if_ge (pc := 224) (tgt := 231) hx hb dL_boxes_224 (by decide) (fun c126 => ?_) (fun c126 => ?_)
              · have h := (if_pos c126).symm.trans h
                refine lv_iconst (pc := 231) (v := (0 : Int32)) hx hb dL_boxes_231 (by decide) ?_
                refine lv_iadd (pc := 232) hx hb dL_boxes_232 ?_
                refine lv_istore (pc := 233) (lv' := [(5, .int (x5 + (0 : Int32))), (4, .int (x4 + (1 : Int32))), (9, .int (0 : Int32)), (8, .int y56), (0, .ref (ad 0)), (1, .int x1), (2, .int x2), (3, .int x3), (6, .int x6), (7, .int x7)]) hx hb dL_boxes_233 hl (by decide) rfl (fun ls hl => ?_)
                refine lv_iload (pc := 235) hx hb dL_boxes_235 (lv_at hl 8 rfl) ?_
                refine lv_iload (pc := 237) hx hb dL_boxes_237 (lv_at hl 3 rfl) ?_
                refine lv_if_ge (pc := 239) (tgt := 249) hx hb dL_boxes_239 (by decide) (fun c127 => ?_) (fun c127 => ?_)
                · have h := (if_pos c127).symm.trans h
                  refine lv_iconst (pc := 249) (v := (0 : Int32)) hx hb dL_boxes_249 (by decide) ?_
                  refine lv_ior (pc := 250) hx hb dL_boxes_250 ?_
                  refine lv_istore (pc := 251) (lv' := [(6, .int (x6 ||| (0 : Int32))), (5, .int (x5 + (0 : Int32))), (4, .int (x4 + (1 : Int32))), (9, .int (0 : Int32)), (8, .int y56), (0, .ref (ad 0)), (1, .int x1), (2, .int x2), (3, .int x3), (7, .int x7)]) hx hb dL_boxes_251 hl (by decide) rfl (fun ls hl => ?_)
                  refine lv_aload_n (pc := 253) hx hb dL_boxes_253 rfl (lv_at hl 5 rfl) ?_
                  refine lv_iload (pc := 254) hx hb dL_boxes_254 (lv_at hl 9 rfl) ?_
                  refine lv_iconst (pc := 256) (v := (2 : Int32)) hx hb dL_boxes_256 (by decide) ?_
                  obtain ⟨y128, hy128, h⟩ := bnd_ex h
                  refine x_callVi (pc := 257) (st := .int (2 : Int32) :: .int x7 :: .ref (ad 0) :: []) (As := [.int x7, .int (2 : Int32)]) E hEx hl.1 hP hS (kX7_prop hap  M _ _ _ hy128) gL_25 hdX7_prop rfl (by decide) sh7 rfl ⟨Nat.le_of_ble_eq_true rfl, Nat.le_of_ble_eq_true rfl⟩ ⟨rfl, rfl⟩ dL_boxes_257 rfl (Nat.le_of_ble_eq_true rfl) (fun H locs hP hS n129 => ?_)
                  refine lv_iload (pc := 260) hx hb dL_boxes_260 (lv_at hl 3 rfl) ?_
                  refine lv_if_eq (pc := 262) (tgt := 269) hx hb dL_boxes_262 (by decide) (fun c130 => ?_) (fun c130 => ?_)
                  · refine lv_iconst (pc := 269) (v := (0 : Int32)) hx hb dL_boxes_269 (by decide) ?_
                    refine lv_icmp_ne (pc := 270) (tgt := 285) hx hb dL_boxes_270 (by decide) (fun c131 => ?_) (fun c131 => ?_)
                    · have h := (if_neg c131).symm.trans h
                      refine lv_iconst (pc := 285) (v := (0 : Int32)) hx hb dL_boxes_285 (by decide) ?_
                      obtain rfl := som1 h
                      exact x_iret E hP hS rfl dL_boxes_286
                    · have h := (if_pos c131).symm.trans h
                      refine lv_iload (pc := 273) hx hb dL_boxes_273 (lv_at hl 4 rfl) ?_
                      refine lv_if_ge (pc := 275) (tgt := 287) hx hb dL_boxes_275 (by decide) (fun c132 => ?_) (fun c132 => ?_)
                      · have h := (if_pos c132).symm.trans h
                        refine lv_iinc (pc := 287) (v := (x7 + 1)) (lv' := [(7, .int (x7 + 1)), (6, .int (x6 ||| (0 : Int32))), (5, .int (x5 + (0 : Int32))), (4, .int (x4 + (1 : Int32))), (9, .int (0 : Int32)), (8, .int y56), (0, .ref (ad 0)), (1, .int x1), (2, .int x2), (3, .int x3)]) hx hb dL_boxes_287 hl (k := 9) rfl rfl (by decide) rfl (fun ls hl => ?_)
                        refine lv_goto (pc := 290) (tgt := 158) hx hb dL_boxes_290 (by decide) ?_
                        exact ih M x1 x2 x3 (x4 + (1 : Int32)) (x5 + (0 : Int32)) (x6 ||| (0 : Int32)) (x7 + 1) _ _ _ h hP hS (lv_sub hl [6, 7, 8, 9, 3, 2, 1, 0] rfl)
                      · have h := (if_neg c132).symm.trans h
                        refine lv_iload (pc := 278) hx hb dL_boxes_278 (lv_at hl 4 rfl) ?_
                        refine lv_bipush (pc := 280) (v := (-5 : Int32)) hx hb dL_boxes_280 (by decide) ?_
                        refine lv_icmp_eq (pc := 282) (tgt := 287) hx hb dL_boxes_282 (by decide) (fun c133 => ?_) (fun c133 => ?_)
                        · have h := (if_pos c133).symm.trans h
                          refine lv_iinc (pc := 287) (v := (x7 + 1)) (lv' := [(7, .int (x7 + 1)), (6, .int (x6 ||| (0 : Int32))), (5, .int (x5 + (0 : Int32))), (4, .int (x4 + (1 : Int32))), (9, .int (0 : Int32)), (8, .int y56), (0, .ref (ad 0)), (1, .int x1), (2, .int x2), (3, .int x3)]) hx hb dL_boxes_287 hl (k := 9) rfl rfl (by decide) rfl (fun ls hl => ?_)
                          refine lv_goto (pc := 290) (tgt := 158) hx hb dL_boxes_290 (by decide) ?_
                          exact ih M x1 x2 x3 (x4 + (1 : Int32)) (x5 + (0 : Int32)) (x6 ||| (0 : Int32)) (x7 + 1) _ _ _ h hP hS (lv_sub hl [6, 7, 8, 9, 3, 2, 1, 0] rfl)
                        · have h := (if_neg c133).symm.trans h
                          refine lv_iconst (pc := 285) (v := (0 : Int32)) hx hb dL_boxes_285 (by decide) ?_
                          obtain rfl := som1 h
                          exact x_iret E hP hS rfl dL_boxes_286
                  · exact absurd c130 (by decide)
                · have h := (if_neg c127).symm.trans h
                  refine lv_iconst (pc := 242) (v := (1 : Int32)) hx hb dL_boxes_242 (by decide) ?_
                  refine lv_iload (pc := 243) hx hb dL_boxes_243 (lv_at hl 9 rfl) ?_
                  refine lv_ishl (pc := 245) hx hb dL_boxes_245 ?_
                  refine lv_goto (pc := 246) (tgt := 250) hx hb dL_boxes_246 (by decide) ?_
                  refine lv_ior (pc := 250) hx hb dL_boxes_250 ?_
                  obtain ⟨y134, hy134, h⟩ := thn_ex h
                  refine W.eq (g2 := F0 m 251 ls (.int y134 :: [])) (by rw [← hy134]) ?_
                  refine lv_istore (pc := 251) (lv' := [(6, .int y134), (5, .int (x5 + (0 : Int32))), (4, .int (x4 + (1 : Int32))), (9, .int (0 : Int32)), (8, .int y56), (0, .ref (ad 0)), (1, .int x1), (2, .int x2), (3, .int x3), (7, .int x7)]) hx hb dL_boxes_251 hl (by decide) rfl (fun ls hl => ?_)
                  refine lv_aload_n (pc := 253) hx hb dL_boxes_253 rfl (lv_at hl 5 rfl) ?_
                  refine lv_iload (pc := 254) hx hb dL_boxes_254 (lv_at hl 9 rfl) ?_
                  refine lv_iconst (pc := 256) (v := (2 : Int32)) hx hb dL_boxes_256 (by decide) ?_
                  obtain ⟨y135, hy135, h⟩ := bnd_ex h
                  refine x_callVi (pc := 257) (st := .int (2 : Int32) :: .int x7 :: .ref (ad 0) :: []) (As := [.int x7, .int (2 : Int32)]) E hEx hl.1 hP hS (kX7_prop hap  M _ _ _ hy135) gL_25 hdX7_prop rfl (by decide) sh7 rfl ⟨Nat.le_of_ble_eq_true rfl, Nat.le_of_ble_eq_true rfl⟩ ⟨rfl, rfl⟩ dL_boxes_257 rfl (Nat.le_of_ble_eq_true rfl) (fun H locs hP hS n136 => ?_)
                  refine lv_iload (pc := 260) hx hb dL_boxes_260 (lv_at hl 3 rfl) ?_
                  refine lv_if_eq (pc := 262) (tgt := 269) hx hb dL_boxes_262 (by decide) (fun c137 => ?_) (fun c137 => ?_)
                  · refine lv_iconst (pc := 269) (v := (0 : Int32)) hx hb dL_boxes_269 (by decide) ?_
                    refine lv_icmp_ne (pc := 270) (tgt := 285) hx hb dL_boxes_270 (by decide) (fun c138 => ?_) (fun c138 => ?_)
                    · have h := (if_neg c138).symm.trans h
                      refine lv_iconst (pc := 285) (v := (0 : Int32)) hx hb dL_boxes_285 (by decide) ?_
                      obtain rfl := som1 h
                      exact x_iret E hP hS rfl dL_boxes_286
                    · have h := (if_pos c138).symm.trans h
                      refine lv_iload (pc := 273) hx hb dL_boxes_273 (lv_at hl 4 rfl) ?_
                      refine lv_if_ge (pc := 275) (tgt := 287) hx hb dL_boxes_275 (by decide) (fun c139 => ?_) (fun c139 => ?_)
                      · have h := (if_pos c139).symm.trans h
                        refine lv_iinc (pc := 287) (v := (x7 + 1)) (lv' := [(7, .int (x7 + 1)), (6, .int y134), (5, .int (x5 + (0 : Int32))), (4, .int (x4 + (1 : Int32))), (9, .int (0 : Int32)), (8, .int y56), (0, .ref (ad 0)), (1, .int x1), (2, .int x2), (3, .int x3)]) hx hb dL_boxes_287 hl (k := 9) rfl rfl (by decide) rfl (fun ls hl => ?_)
                        refine lv_goto (pc := 290) (tgt := 158) hx hb dL_boxes_290 (by decide) ?_
                        exact ih M x1 x2 x3 (x4 + (1 : Int32)) (x5 + (0 : Int32)) y134 (x7 + 1) _ _ _ h hP hS (lv_sub hl [6, 7, 8, 9, 3, 2, 1, 0] rfl)
                      · have h := (if_neg c139).symm.trans h
                        refine lv_iload (pc := 278) hx hb dL_boxes_278 (lv_at hl 4 rfl) ?_
                        refine lv_bipush (pc := 280) (v := (-5 : Int32)) hx hb dL_boxes_280 (by decide) ?_
                        refine lv_icmp_eq (pc := 282) (tgt := 287) hx hb dL_boxes_282 (by decide) (fun c140 => ?_) (fun c140 => ?_)
                        · have h := (if_pos c140).symm.trans h
                          refine lv_iinc (pc := 287) (v := (x7 + 1)) (lv' := [(7, .int (x7 + 1)), (6, .int y134), (5, .int (x5 + (0 : Int32))), (4, .int (x4 + (1 : Int32))), (9, .int (0 : Int32)), (8, .int y56), (0, .ref (ad 0)), (1, .int x1), (2, .int x2), (3, .int x3)]) hx hb dL_boxes_287 hl (k := 9) rfl rfl (by decide) rfl (fun ls hl => ?_)
                          refine lv_goto (pc := 290) (tgt := 158) hx hb dL_boxes_290 (by decide) ?_
                          exact ih M x1 x2 x3 (x4 + (1 : Int32)) (x5 + (0 : Int32)) y134 (x7 + 1) _ _ _ h hP hS (lv_sub hl [6, 7, 8, 9, 3, 2, 1, 0] rfl)
                        · have h := (if_neg c140).symm.trans h
                          refine lv_iconst (pc := 285) (v := (0 : Int32)) hx hb dL_boxes_285 (by decide) ?_
                          obtain rfl := som1 h
                          exact x_iret E hP hS rfl dL_boxes_286
                  · exact absurd c137 (by decide)
              · have h := (if_neg c126).symm.trans h
                refine lv_iconst (pc := 227) (v := (1 : Int32)) hx hb dL_boxes_227 (by decide) ?_
                refine lv_goto (pc := 228) (tgt := 232) hx hb dL_boxes_228 (by decide) ?_
                refine lv_iadd (pc := 232) hx hb dL_boxes_232 ?_
                refine lv_istore (pc := 233) (lv' := [(5, .int (x5 + (1 : Int32))), (4, .int (x4 + (1 : Int32))), (9, .int (0 : Int32)), (8, .int y56), (0, .ref (ad 0)), (1, .int x1), (2, .int x2), (3, .int x3), (6, .int x6), (7, .int x7)]) hx hb dL_boxes_233 hl (by decide) rfl (fun ls hl => ?_)
                refine lv_iload (pc := 235) hx hb dL_boxes_235 (lv_at hl 8 rfl) ?_
                refine lv_iload (pc := 237) hx hb dL_boxes_237 (lv_at hl 3 rfl) ?_
                refine lv_if_ge (pc := 239) (tgt := 249) hx hb dL_boxes_239 (by decide) (fun c141 => ?_) (fun c141 => ?_)
                · have h := (if_pos c141).symm.trans h
                  refine lv_iconst (pc := 249) (v := (0 : Int32)) hx hb dL_boxes_249 (by decide) ?_
                  refine lv_ior (pc := 250) hx hb dL_boxes_250 ?_
                  refine lv_istore (pc := 251) (lv' := [(6, .int (x6 ||| (0 : Int32))), (5, .int (x5 + (1 : Int32))), (4, .int (x4 + (1 : Int32))), (9, .int (0 : Int32)), (8, .int y56), (0, .ref (ad 0)), (1, .int x1), (2, .int x2), (3, .int x3), (7, .int x7)]) hx hb dL_boxes_251 hl (by decide) rfl (fun ls hl => ?_)
                  refine lv_aload_n (pc := 253) hx hb dL_boxes_253 rfl (lv_at hl 5 rfl) ?_
                  refine lv_iload (pc := 254) hx hb dL_boxes_254 (lv_at hl 9 rfl) ?_
                  refine lv_iconst (pc := 256) (v := (2 : Int32)) hx hb dL_boxes_256 (by decide) ?_
                  obtain ⟨y142, hy142, h⟩ := bnd_ex h
                  refine x_callVi (pc := 257) (st := .int (2 : Int32) :: .int x7 :: .ref (ad 0) :: []) (As := [.int x7, .int (2 : Int32)]) E hEx hl.1 hP hS (kX7_prop hap  M _ _ _ hy142) gL_25 hdX7_prop rfl (by decide) sh7 rfl ⟨Nat.le_of_ble_eq_true rfl, Nat.le_of_ble_eq_true rfl⟩ ⟨rfl, rfl⟩ dL_boxes_257 rfl (Nat.le_of_ble_eq_true rfl) (fun H locs hP hS n143 => ?_)
                  refine lv_iload (pc := 260) hx hb dL_boxes_260 (lv_at hl 3 rfl) ?_
                  refine lv_if_eq (pc := 262) (tgt := 269) hx hb dL_boxes_262 (by decide) (fun c144 => ?_) (fun c144 => ?_)
                  · refine lv_iconst (pc := 269) (v := (0 : Int32)) hx hb dL_boxes_269 (by decide) ?_
                    refine lv_icmp_ne (pc := 270) (tgt := 285) hx hb dL_boxes_270 (by decide) (fun c145 => ?_) (fun c145 => ?_)
                    · have h := (if_neg c145).symm.trans h
                      refine lv_iconst (pc := 285) (v := (0 : Int32)) hx hb dL_boxes_285 (by decide) ?_
                      obtain rfl := som1 h
                      exact x_iret E hP hS rfl dL_boxes_286
                    · have h := (if_pos c145).symm.trans h
                      refine lv_iload (pc := 273) hx hb dL_boxes_273 (lv_at hl 4 rfl) ?_
                      refine lv_if_ge (pc := 275) (tgt := 287) hx hb dL_boxes_275 (by decide) (fun c146 => ?_) (fun c146 => ?_)
                      · have h := (if_pos c146).symm.trans h
                        refine lv_iinc (pc := 287) (v := (x7 + 1)) (lv' := [(7, .int (x7 + 1)), (6, .int (x6 ||| (0 : Int32))), (5, .int (x5 + (1 : Int32))), (4, .int (x4 + (1 : Int32))), (9, .int (0 : Int32)), (8, .int y56), (0, .ref (ad 0)), (1, .int x1), (2, .int x2), (3, .int x3)]) hx hb dL_boxes_287 hl (k := 9) rfl rfl (by decide) rfl (fun ls hl => ?_)
                        refine lv_goto (pc := 290) (tgt := 158) hx hb dL_boxes_290 (by decide) ?_
                        exact ih M x1 x2 x3 (x4 + (1 : Int32)) (x5 + (1 : Int32)) (x6 ||| (0 : Int32)) (x7 + 1) _ _ _ h hP hS (lv_sub hl [6, 7, 8, 9, 3, 2, 1, 0] rfl)
                      · have h := (if_neg c146).symm.trans h
                        refine lv_iload (pc := 278) hx hb dL_boxes_278 (lv_at hl 4 rfl) ?_
                        refine lv_bipush (pc := 280) (v := (-5 : Int32)) hx hb dL_boxes_280 (by decide) ?_
                        refine lv_icmp_eq (pc := 282) (tgt := 287) hx hb dL_boxes_282 (by decide) (fun c147 => ?_) (fun c147 => ?_)
                        · have h := (if_pos c147).symm.trans h
                          refine lv_iinc (pc := 287) (v := (x7 + 1)) (lv' := [(7, .int (x7 + 1)), (6, .int (x6 ||| (0 : Int32))), (5, .int (x5 + (1 : Int32))), (4, .int (x4 + (1 : Int32))), (9, .int (0 : Int32)), (8, .int y56), (0, .ref (ad 0)), (1, .int x1), (2, .int x2), (3, .int x3)]) hx hb dL_boxes_287 hl (k := 9) rfl rfl (by decide) rfl (fun ls hl => ?_)
                          refine lv_goto (pc := 290) (tgt := 158) hx hb dL_boxes_290 (by decide) ?_
                          exact ih M x1 x2 x3 (x4 + (1 : Int32)) (x5 + (1 : Int32)) (x6 ||| (0 : Int32)) (x7 + 1) _ _ _ h hP hS (lv_sub hl [6, 7, 8, 9, 3, 2, 1, 0] rfl)
                        · have h := (if_neg c147).symm.trans h
                          refine lv_iconst (pc := 285) (v := (0 : Int32)) hx hb dL_boxes_285 (by decide) ?_
                          obtain rfl := som1 h
                          exact x_iret E hP hS rfl dL_boxes_286
                  · exact absurd c144 (by decide)
                · have h := (if_neg c141).symm.trans h
                  refine lv_iconst (pc := 242) (v := (1 : Int32)) hx hb dL_boxes_242 (by decide) ?_
                  refine lv_iload (pc := 243) hx hb dL_boxes_243 (lv_at hl 9 rfl) ?_
                  refine lv_ishl (pc := 245) hx hb dL_boxes_245 ?_
                  refine lv_goto (pc := 246) (tgt := 250) hx hb dL_boxes_246 (by decide) ?_
                  refine lv_ior (pc := 250) hx hb dL_boxes_250 ?_
                  obtain ⟨y148, hy148, h⟩ := thn_ex h
                  refine W.eq (g2 := F0 m 251 ls (.int y148 :: [])) (by rw [← hy148]) ?_
                  refine lv_istore (pc := 251) (lv' := [(6, .int y148), (5, .int (x5 + (1 : Int32))), (4, .int (x4 + (1 : Int32))), (9, .int (0 : Int32)), (8, .int y56), (0, .ref (ad 0)), (1, .int x1), (2, .int x2), (3, .int x3), (7, .int x7)]) hx hb dL_boxes_251 hl (by decide) rfl (fun ls hl => ?_)
                  refine lv_aload_n (pc := 253) hx hb dL_boxes_253 rfl (lv_at hl 5 rfl) ?_
                  refine lv_iload (pc := 254) hx hb dL_boxes_254 (lv_at hl 9 rfl) ?_
                  refine lv_iconst (pc := 256) (v := (2 : Int32)) hx hb dL_boxes_256 (by decide) ?_
                  obtain ⟨y149, hy149, h⟩ := bnd_ex h
                  refine x_callVi (pc := 257) (st := .int (2 : Int32) :: .int x7 :: .ref (ad 0) :: []) (As := [.int x7, .int (2 : Int32)]) E hEx hl.1 hP hS (kX7_prop hap  M _ _ _ hy149) gL_25 hdX7_prop rfl (by decide) sh7 rfl ⟨Nat.le_of_ble_eq_true rfl, Nat.le_of_ble_eq_true rfl⟩ ⟨rfl, rfl⟩ dL_boxes_257 rfl (Nat.le_of_ble_eq_true rfl) (fun H locs hP hS n150 => ?_)
                  refine lv_iload (pc := 260) hx hb dL_boxes_260 (lv_at hl 3 rfl) ?_
                  refine lv_if_eq (pc := 262) (tgt := 269) hx hb dL_boxes_262 (by decide) (fun c151 => ?_) (fun c151 => ?_)
                  · refine lv_iconst (pc := 269) (v := (0 : Int32)) hx hb dL_boxes_269 (by decide) ?_
                    refine lv_icmp_ne (pc := 270) (tgt := 285) hx hb dL_boxes_270 (by decide) (fun c152 => ?_) (fun c152 => ?_)
                    · have h := (if_neg c152).symm.trans h
                      refine lv_iconst (pc := 285) (v := (0 : Int32)) hx hb dL_boxes_285 (by decide) ?_
                      obtain rfl := som1 h
                      exact x_iret E hP hS rfl dL_boxes_286
                    · have h := (if_pos c152).symm.trans h
                      refine lv_iload (pc := 273) hx hb dL_boxes_273 (lv_at hl 4 rfl) ?_
                      refine lv_if_ge (pc := 275) (tgt := 287) hx hb dL_boxes_275 (by decide) (fun c153 => ?_) (fun c153 => ?_)
                      · have h := (if_pos c153).symm.trans h
                        refine lv_iinc (pc := 287) (v := (x7 + 1)) (lv' := [(7, .int (x7 + 1)), (6, .int y148), (5, .int (x5 + (1 : Int32))), (4, .int (x4 + (1 : Int32))), (9, .int (0 : Int32)), (8, .int y56), (0, .ref (ad 0)), (1, .int x1), (2, .int x2), (3, .int x3)]) hx hb dL_boxes_287 hl (k := 9) rfl rfl (by decide) rfl (fun ls hl => ?_)
                        refine lv_goto (pc := 290) (tgt := 158) hx hb dL_boxes_290 (by decide) ?_
                        exact ih M x1 x2 x3 (x4 + (1 : Int32)) (x5 + (1 : Int32)) y148 (x7 + 1) _ _ _ h hP hS (lv_sub hl [6, 7, 8, 9, 3, 2, 1, 0] rfl)
                      · have h := (if_neg c153).symm.trans h
                        refine lv_iload (pc := 278) hx hb dL_boxes_278 (lv_at hl 4 rfl) ?_
                        refine lv_bipush (pc := 280) (v := (-5 : Int32)) hx hb dL_boxes_280 (by decide) ?_
                        refine lv_icmp_eq (pc := 282) (tgt := 287) hx hb dL_boxes_282 (by decide) (fun c154 => ?_) (fun c154 => ?_)
                        · have h := (if_pos c154).symm.trans h
                          refine lv_iinc (pc := 287) (v := (x7 + 1)) (lv' := [(7, .int (x7 + 1)), (6, .int y148), (5, .int (x5 + (1 : Int32))), (4, .int (x4 + (1 : Int32))), (9, .int (0 : Int32)), (8, .int y56), (0, .ref (ad 0)), (1, .int x1), (2, .int x2), (3, .int x3)]) hx hb dL_boxes_287 hl (k := 9) rfl rfl (by decide) rfl (fun ls hl => ?_)
                          refine lv_goto (pc := 290) (tgt := 158) hx hb dL_boxes_290 (by decide) ?_
                          exact ih M x1 x2 x3 (x4 + (1 : Int32)) (x5 + (1 : Int32)) y148 (x7 + 1) _ _ _ h hP hS (lv_sub hl [6, 7, 8, 9, 3, 2, 1, 0] rfl)
                        · have h := (if_neg c154).symm.trans h
                          refine lv_iconst (pc := 285) (v := (0 : Int32)) hx hb dL_boxes_285 (by decide) ?_
                          obtain rfl := som1 h
                          exact x_iret E hP hS rfl dL_boxes_286
                  · exact absurd c151 (by decide)
            · have h := (if_pos c125).symm.trans h
              refine lv_iconst (pc := 212) (v := (0 : Int32)) hx hb dL_boxes_212 (by decide) ?_
              refine lv_goto (pc := 213) (tgt := 217) hx hb dL_boxes_213 (by decide) ?_
              refine lv_iadd (pc := 217) hx hb dL_boxes_217 ?_
              refine lv_istore (pc := 218) (lv' := [(4, .int (x4 + (0 : Int32))), (9, .int (0 : Int32)), (8, .int y56), (0, .ref (ad 0)), (1, .int x1), (2, .int x2), (3, .int x3), (5, .int x5), (6, .int x6), (7, .int x7)]) hx hb dL_boxes_218 hl (by decide) rfl (fun ls hl => ?_)
              refine lv_iload (pc := 220) hx hb dL_boxes_220 (lv_at hl 7 rfl) ?_
              refine lv_iload (pc := 222) hx hb dL_boxes_222 (lv_at hl 2 rfl) ?_
              refine lv_if_ge (pc := 224) (tgt := 231) hx hb dL_boxes_224 (by decide) (fun c155 => ?_) (fun c155 => ?_)
              · have h := (if_pos c155).symm.trans h
                refine lv_iconst (pc := 231) (v := (0 : Int32)) hx hb dL_boxes_231 (by decide) ?_
                refine lv_iadd (pc := 232) hx hb dL_boxes_232 ?_
                refine lv_istore (pc := 233) (lv' := [(5, .int (x5 + (0 : Int32))), (4, .int (x4 + (0 : Int32))), (9, .int (0 : Int32)), (8, .int y56), (0, .ref (ad 0)), (1, .int x1), (2, .int x2), (3, .int x3), (6, .int x6), (7, .int x7)]) hx hb dL_boxes_233 hl (by decide) rfl (fun ls hl => ?_)
                refine lv_iload (pc := 235) hx hb dL_boxes_235 (lv_at hl 8 rfl) ?_
                refine lv_iload (pc := 237) hx hb dL_boxes_237 (lv_at hl 3 rfl) ?_
                refine lv_if_ge (pc := 239) (tgt := 249) hx hb dL_boxes_239 (by decide) (fun c156 => ?_) (fun c156 => ?_)
                · have h := (if_pos c156).symm.trans h
                  refine lv_iconst (pc := 249) (v := (0 : Int32)) hx hb dL_boxes_249 (by decide) ?_
                  refine lv_ior (pc := 250) hx hb dL_boxes_250 ?_
                  refine lv_istore (pc := 251) (lv' := [(6, .int (x6 ||| (0 : Int32))), (5, .int (x5 + (0 : Int32))), (4, .int (x4 + (0 : Int32))), (9, .int (0 : Int32)), (8, .int y56), (0, .ref (ad 0)), (1, .int x1), (2, .int x2), (3, .int x3), (7, .int x7)]) hx hb dL_boxes_251 hl (by decide) rfl (fun ls hl => ?_)
                  refine lv_aload_n (pc := 253) hx hb dL_boxes_253 rfl (lv_at hl 5 rfl) ?_
                  refine lv_iload (pc := 254) hx hb dL_boxes_254 (lv_at hl 9 rfl) ?_
                  refine lv_iconst (pc := 256) (v := (2 : Int32)) hx hb dL_boxes_256 (by decide) ?_
                  obtain ⟨y157, hy157, h⟩ := bnd_ex h
                  refine x_callVi (pc := 257) (st := .int (2 : Int32) :: .int x7 :: .ref (ad 0) :: []) (As := [.int x7, .int (2 : Int32)]) E hEx hl.1 hP hS (kX7_prop hap  M _ _ _ hy157) gL_25 hdX7_prop rfl (by decide) sh7 rfl ⟨Nat.le_of_ble_eq_true rfl, Nat.le_of_ble_eq_true rfl⟩ ⟨rfl, rfl⟩ dL_boxes_257 rfl (Nat.le_of_ble_eq_true rfl) (fun H locs hP hS n158 => ?_)
                  refine lv_iload (pc := 260) hx hb dL_boxes_260 (lv_at hl 3 rfl) ?_
                  refine lv_if_eq (pc := 262) (tgt := 269) hx hb dL_boxes_262 (by decide) (fun c159 => ?_) (fun c159 => ?_)
                  · refine lv_iconst (pc := 269) (v := (0 : Int32)) hx hb dL_boxes_269 (by decide) ?_
                    refine lv_icmp_ne (pc := 270) (tgt := 285) hx hb dL_boxes_270 (by decide) (fun c160 => ?_) (fun c160 => ?_)
                    · have h := (if_neg c160).symm.trans h
                      refine lv_iconst (pc := 285) (v := (0 : Int32)) hx hb dL_boxes_285 (by decide) ?_
                      obtain rfl := som1 h
                      exact x_iret E hP hS rfl dL_boxes_286
                    · have h := (if_pos c160).symm.trans h
                      refine lv_iload (pc := 273) hx hb dL_boxes_273 (lv_at hl 4 rfl) ?_
                      refine lv_if_ge (pc := 275) (tgt := 287) hx hb dL_boxes_275 (by decide) (fun c161 => ?_) (fun c161 => ?_)
                      · have h := (if_pos c161).symm.trans h
                        refine lv_iinc (pc := 287) (v := (x7 + 1)) (lv' := [(7, .int (x7 + 1)), (6, .int (x6 ||| (0 : Int32))), (5, .int (x5 + (0 : Int32))), (4, .int (x4 + (0 : Int32))), (9, .int (0 : Int32)), (8, .int y56), (0, .ref (ad 0)), (1, .int x1), (2, .int x2), (3, .int x3)]) hx hb dL_boxes_287 hl (k := 9) rfl rfl (by decide) rfl (fun ls hl => ?_)
                        refine lv_goto (pc := 290) (tgt := 158) hx hb dL_boxes_290 (by decide) ?_
                        exact ih M x1 x2 x3 (x4 + (0 : Int32)) (x5 + (0 : Int32)) (x6 ||| (0 : Int32)) (x7 + 1) _ _ _ h hP hS (lv_sub hl [6, 7, 8, 9, 3, 2, 1, 0] rfl)
                      · have h := (if_neg c161).symm.trans h
                        refine lv_iload (pc := 278) hx hb dL_boxes_278 (lv_at hl 4 rfl) ?_
                        refine lv_bipush (pc := 280) (v := (-5 : Int32)) hx hb dL_boxes_280 (by decide) ?_
                        refine lv_icmp_eq (pc := 282) (tgt := 287) hx hb dL_boxes_282 (by decide) (fun c162 => ?_) (fun c162 => ?_)
                        · have h := (if_pos c162).symm.trans h
                          refine lv_iinc (pc := 287) (v := (x7 + 1)) (lv' := [(7, .int (x7 + 1)), (6, .int (x6 ||| (0 : Int32))), (5, .int (x5 + (0 : Int32))), (4, .int (x4 + (0 : Int32))), (9, .int (0 : Int32)), (8, .int y56), (0, .ref (ad 0)), (1, .int x1), (2, .int x2), (3, .int x3)]) hx hb dL_boxes_287 hl (k := 9) rfl rfl (by decide) rfl (fun ls hl => ?_)
                          refine lv_goto (pc := 290) (tgt := 158) hx hb dL_boxes_290 (by decide) ?_
                          exact ih M x1 x2 x3 (x4 + (0 : Int32)) (x5 + (0 : Int32)) (x6 ||| (0 : Int32)) (x7 + 1) _ _ _ h hP hS (lv_sub hl [6, 7, 8, 9, 3, 2, 1, 0] rfl)
                        · have h := (if_neg c162).symm.trans h
                          refine lv_iconst (pc := 285) (v := (0 : Int32)) hx hb dL_boxes_285 (by decide) ?_
                          obtain rfl := som1 h
                          exact x_iret E hP hS rfl dL_boxes_286
                  · exact absurd c159 (by decide)
                · have h := (if_neg c156).symm.trans h
                  refine lv_iconst (pc := 242) (v := (1 : Int32)) hx hb dL_boxes_242 (by decide) ?_
                  refine lv_iload (pc := 243) hx hb dL_boxes_243 (lv_at hl 9 rfl) ?_
                  refine lv_ishl (pc := 245) hx hb dL_boxes_245 ?_
                  refine lv_goto (pc := 246) (tgt := 250) hx hb dL_boxes_246 (by decide) ?_
                  refine lv_ior (pc := 250) hx hb dL_boxes_250 ?_
                  obtain ⟨y163, hy163, h⟩ := thn_ex h
                  refine W.eq (g2 := F0 m 251 ls (.int y163 :: [])) (by rw [← hy163]) ?_
                  refine lv_istore (pc := 251) (lv' := [(6, .int y163), (5, .int (x5 + (0 : Int32))), (4, .int (x4 + (0 : Int32))), (9, .int (0 : Int32)), (8, .int y56), (0, .ref (ad 0)), (1, .int x1), (2, .int x2), (3, .int x3), (7, .int x7)]) hx hb dL_boxes_251 hl (by decide) rfl (fun ls hl => ?_)
                  refine lv_aload_n (pc := 253) hx hb dL_boxes_253 rfl (lv_at hl 5 rfl) ?_
                  refine lv_iload (pc := 254) hx hb dL_boxes_254 (lv_at hl 9 rfl) ?_
                  refine lv_iconst (pc := 256) (v := (2 : Int32)) hx hb dL_boxes_256 (by decide) ?_
                  obtain ⟨y164, hy164, h⟩ := bnd_ex h
                  refine x_callVi (pc := 257) (st := .int (2 : Int32) :: .int x7 :: .ref (ad 0) :: []) (As := [.int x7, .int (2 : Int32)]) E hEx hl.1 hP hS (kX7_prop hap  M _ _ _ hy164) gL_25 hdX7_prop rfl (by decide) sh7 rfl ⟨Nat.le_of_ble_eq_true rfl, Nat.le_of_ble_eq_true rfl⟩ ⟨rfl, rfl⟩ dL_boxes_257 rfl (Nat.le_of_ble_eq_true rfl) (fun H locs hP hS n165 => ?_)
                  refine lv_iload (pc := 260) hx hb dL_boxes_260 (lv_at hl 3 rfl) ?_
                  refine lv_if_eq (pc := 262) (tgt := 269) hx hb dL_boxes_262 (by decide) (fun c166 => ?_) (fun c166 => ?_)
                  · refine lv_iconst (pc := 269) (v := (0 : Int32)) hx hb dL_boxes_269 (by decide) ?_
                    refine lv_icmp_ne (pc := 270) (tgt := 285) hx hb dL_boxes_270 (by decide) (fun c167 => ?_) (fun c167 => ?_)
                    · have h := (if_neg c167).symm.trans h
                      refine lv_iconst (pc := 285) (v := (0 : Int32)) hx hb dL_boxes_285 (by decide) ?_
                      obtain rfl := som1 h
                      exact x_iret E hP hS rfl dL_boxes_286
                    · have h := (if_pos c167).symm.trans h
                      refine lv_iload (pc := 273) hx hb dL_boxes_273 (lv_at hl 4 rfl) ?_
                      refine lv_if_ge (pc := 275) (tgt := 287) hx hb dL_boxes_275 (by decide) (fun c168 => ?_) (fun c168 => ?_)
                      · have h := (if_pos c168).symm.trans h
                        refine lv_iinc (pc := 287) (v := (x7 + 1)) (lv' := [(7, .int (x7 + 1)), (6, .int y163), (5, .int (x5 + (0 : Int32))), (4, .int (x4 + (0 : Int32))), (9, .int (0 : Int32)), (8, .int y56), (0, .ref (ad 0)), (1, .int x1), (2, .int x2), (3, .int x3)]) hx hb dL_boxes_287 hl (k := 9) rfl rfl (by decide) rfl (fun ls hl => ?_)
                        refine lv_goto (pc := 290) (tgt := 158) hx hb dL_boxes_290 (by decide) ?_
                        exact ih M x1 x2 x3 (x4 + (0 : Int32)) (x5 + (0 : Int32)) y163 (x7 + 1) _ _ _ h hP hS (lv_sub hl [6, 7, 8, 9, 3, 2, 1, 0] rfl)
                      · have h := (if_neg c168).symm.trans h
                        refine lv_iload (pc := 278) hx hb dL_boxes_278 (lv_at hl 4 rfl) ?_
                        refine lv_bipush (pc := 280) (v := (-5 : Int32)) hx hb dL_boxes_280 (by decide) ?_
                        refine lv_icmp_eq (pc := 282) (tgt := 287) hx hb dL_boxes_282 (by decide) (fun c169 => ?_) (fun c169 => ?_)
                        · have h := (if_pos c169).symm.trans h
                          refine lv_iinc (pc := 287) (v := (x7 + 1)) (lv' := [(7, .int (x7 + 1)), (6, .int y163), (5, .int (x5 + (0 : Int32))), (4, .int (x4 + (0 : Int32))), (9, .int (0 : Int32)), (8, .int y56), (0, .ref (ad 0)), (1, .int x1), (2, .int x2), (3, .int x3)]) hx hb dL_boxes_287 hl (k := 9) rfl rfl (by decide) rfl (fun ls hl => ?_)
                          refine lv_goto (pc := 290) (tgt := 158) hx hb dL_boxes_290 (by decide) ?_
                          exact ih M x1 x2 x3 (x4 + (0 : Int32)) (x5 + (0 : Int32)) y163 (x7 + 1) _ _ _ h hP hS (lv_sub hl [6, 7, 8, 9, 3, 2, 1, 0] rfl)
                        · have h := (if_neg c169).symm.trans h
                          refine lv_iconst (pc := 285) (v := (0 : Int32)) hx hb dL_boxes_285 (by decide) ?_
                          obtain rfl := som1 h
                          exact x_iret E hP hS rfl dL_boxes_286
                  · exact absurd c166 (by decide)
              · have h := (if_neg c155).symm.trans h
                refine lv_iconst (pc := 227) (v := (1 : Int32)) hx hb dL_boxes_227 (by decide) ?_
                refine lv_goto (pc := 228) (tgt := 232) hx hb dL_boxes_228 (by decide) ?_
                refine lv_iadd (pc := 232) hx hb dL_boxes_232 ?_
                refine lv_istore (pc := 233) (lv' := [(5, .int (x5 + (1 : Int32))), (4, .int (x4 + (0 : Int32))), (9, .int (0 : Int32)), (8, .int y56), (0, .ref (ad 0)), (1, .int x1), (2, .int x2), (3, .int x3), (6, .int x6), (7, .int x7)]) hx hb dL_boxes_233 hl (by decide) rfl (fun ls hl => ?_)
                refine lv_iload (pc := 235) hx hb dL_boxes_235 (lv_at hl 8 rfl) ?_
                refine lv_iload (pc := 237) hx hb dL_boxes_237 (lv_at hl 3 rfl) ?_
                refine lv_if_ge (pc := 239) (tgt := 249) hx hb dL_boxes_239 (by decide) (fun c170 => ?_) (fun c170 => ?_)
                · have h := (if_pos c170).symm.trans h
                  refine lv_iconst (pc := 249) (v := (0 : Int32)) hx hb dL_boxes_249 (by decide) ?_
                  refine lv_ior (pc := 250) hx hb dL_boxes_250 ?_
                  refine lv_istore (pc := 251) (lv' := [(6, .int (x6 ||| (0 : Int32))), (5, .int (x5 + (1 : Int32))), (4, .int (x4 + (0 : Int32))), (9, .int (0 : Int32)), (8, .int y56), (0, .ref (ad 0)), (1, .int x1), (2, .int x2), (3, .int x3), (7, .int x7)]) hx hb dL_boxes_251 hl (by decide) rfl (fun ls hl => ?_)
                  refine lv_aload_n (pc := 253) hx hb dL_boxes_253 rfl (lv_at hl 5 rfl) ?_
                  refine lv_iload (pc := 254) hx hb dL_boxes_254 (lv_at hl 9 rfl) ?_
                  refine lv_iconst (pc := 256) (v := (2 : Int32)) hx hb dL_boxes_256 (by decide) ?_
                  obtain ⟨y171, hy171, h⟩ := bnd_ex h
                  refine x_callVi (pc := 257) (st := .int (2 : Int32) :: .int x7 :: .ref (ad 0) :: []) (As := [.int x7, .int (2 : Int32)]) E hEx hl.1 hP hS (kX7_prop hap  M _ _ _ hy171) gL_25 hdX7_prop rfl (by decide) sh7 rfl ⟨Nat.le_of_ble_eq_true rfl, Nat.le_of_ble_eq_true rfl⟩ ⟨rfl, rfl⟩ dL_boxes_257 rfl (Nat.le_of_ble_eq_true rfl) (fun H locs hP hS n172 => ?_)
                  refine lv_iload (pc := 260) hx hb dL_boxes_260 (lv_at hl 3 rfl) ?_
                  refine lv_if_eq (pc := 262) (tgt := 269) hx hb dL_boxes_262 (by decide) (fun c173 => ?_) (fun c173 => ?_)
                  · refine lv_iconst (pc := 269) (v := (0 : Int32)) hx hb dL_boxes_269 (by decide) ?_
                    refine lv_icmp_ne (pc := 270) (tgt := 285) hx hb dL_boxes_270 (by decide) (fun c174 => ?_) (fun c174 => ?_)
                    · have h := (if_neg c174).symm.trans h
                      refine lv_iconst (pc := 285) (v := (0 : Int32)) hx hb dL_boxes_285 (by decide) ?_
                      obtain rfl := som1 h
                      exact x_iret E hP hS rfl dL_boxes_286
                    · have h := (if_pos c174).symm.trans h
                      refine lv_iload (pc := 273) hx hb dL_boxes_273 (lv_at hl 4 rfl) ?_
                      refine lv_if_ge (pc := 275) (tgt := 287) hx hb dL_boxes_275 (by decide) (fun c175 => ?_) (fun c175 => ?_)
                      · have h := (if_pos c175).symm.trans h
                        refine lv_iinc (pc := 287) (v := (x7 + 1)) (lv' := [(7, .int (x7 + 1)), (6, .int (x6 ||| (0 : Int32))), (5, .int (x5 + (1 : Int32))), (4, .int (x4 + (0 : Int32))), (9, .int (0 : Int32)), (8, .int y56), (0, .ref (ad 0)), (1, .int x1), (2, .int x2), (3, .int x3)]) hx hb dL_boxes_287 hl (k := 9) rfl rfl (by decide) rfl (fun ls hl => ?_)
                        refine lv_goto (pc := 290) (tgt := 158) hx hb dL_boxes_290 (by decide) ?_
                        exact ih M x1 x2 x3 (x4 + (0 : Int32)) (x5 + (1 : Int32)) (x6 ||| (0 : Int32)) (x7 + 1) _ _ _ h hP hS (lv_sub hl [6, 7, 8, 9, 3, 2, 1, 0] rfl)
                      · have h := (if_neg c175).symm.trans h
                        refine lv_iload (pc := 278) hx hb dL_boxes_278 (lv_at hl 4 rfl) ?_
                        refine lv_bipush (pc := 280) (v := (-5 : Int32)) hx hb dL_boxes_280 (by decide) ?_
                        refine lv_icmp_eq (pc := 282) (tgt := 287) hx hb dL_boxes_282 (by decide) (fun c176 => ?_) (fun c176 => ?_)
                        · have h := (if_pos c176).symm.trans h
                          refine lv_iinc (pc := 287) (v := (x7 + 1)) (lv' := [(7, .int (x7 + 1)), (6, .int (x6 ||| (0 : Int32))), (5, .int (x5 + (1 : Int32))), (4, .int (x4 + (0 : Int32))), (9, .int (0 : Int32)), (8, .int y56), (0, .ref (ad 0)), (1, .int x1), (2, .int x2), (3, .int x3)]) hx hb dL_boxes_287 hl (k := 9) rfl rfl (by decide) rfl (fun ls hl => ?_)
                          refine lv_goto (pc := 290) (tgt := 158) hx hb dL_boxes_290 (by decide) ?_
                          exact ih M x1 x2 x3 (x4 + (0 : Int32)) (x5 + (1 : Int32)) (x6 ||| (0 : Int32)) (x7 + 1) _ _ _ h hP hS (lv_sub hl [6, 7, 8, 9, 3, 2, 1, 0] rfl)
                        · have h := (if_neg c176).symm.trans h
                          refine lv_iconst (pc := 285) (v := (0 : Int32)) hx hb dL_boxes_285 (by decide) ?_
                          obtain rfl := som1 h
                          exact x_iret E hP hS rfl dL_boxes_286
                  · exact absurd c173 (by decide)
                · have h := (if_neg c170).symm.trans h
                  refine lv_iconst (pc := 242) (v := (1 : Int32)) hx hb dL_boxes_242 (by decide) ?_
                  refine lv_iload (pc := 243) hx hb dL_boxes_243 (lv_at hl 9 rfl) ?_
                  refine lv_ishl (pc := 245) hx hb dL_boxes_245 ?_
                  refine lv_goto (pc := 246) (tgt := 250) hx hb dL_boxes_246 (by decide) ?_
                  refine lv_ior (pc := 250) hx hb dL_boxes_250 ?_
                  obtain ⟨y177, hy177, h⟩ := thn_ex h
                  refine W.eq (g2 := F0 m 251 ls (.int y177 :: [])) (by rw [← hy177]) ?_
                  refine lv_istore (pc := 251) (lv' := [(6, .int y177), (5, .int (x5 + (1 : Int32))), (4, .int (x4 + (0 : Int32))), (9, .int (0 : Int32)), (8, .int y56), (0, .ref (ad 0)), (1, .int x1), (2, .int x2), (3, .int x3), (7, .int x7)]) hx hb dL_boxes_251 hl (by decide) rfl (fun ls hl => ?_)
                  refine lv_aload_n (pc := 253) hx hb dL_boxes_253 rfl (lv_at hl 5 rfl) ?_
                  refine lv_iload (pc := 254) hx hb dL_boxes_254 (lv_at hl 9 rfl) ?_
                  refine lv_iconst (pc := 256) (v := (2 : Int32)) hx hb dL_boxes_256 (by decide) ?_
                  obtain ⟨y178, hy178, h⟩ := bnd_ex h
                  refine x_callVi (pc := 257) (st := .int (2 : Int32) :: .int x7 :: .ref (ad 0) :: []) (As := [.int x7, .int (2 : Int32)]) E hEx hl.1 hP hS (kX7_prop hap  M _ _ _ hy178) gL_25 hdX7_prop rfl (by decide) sh7 rfl ⟨Nat.le_of_ble_eq_true rfl, Nat.le_of_ble_eq_true rfl⟩ ⟨rfl, rfl⟩ dL_boxes_257 rfl (Nat.le_of_ble_eq_true rfl) (fun H locs hP hS n179 => ?_)
                  refine lv_iload (pc := 260) hx hb dL_boxes_260 (lv_at hl 3 rfl) ?_
                  refine lv_if_eq (pc := 262) (tgt := 269) hx hb dL_boxes_262 (by decide) (fun c180 => ?_) (fun c180 => ?_)
                  · refine lv_iconst (pc := 269) (v := (0 : Int32)) hx hb dL_boxes_269 (by decide) ?_
                    refine lv_icmp_ne (pc := 270) (tgt := 285) hx hb dL_boxes_270 (by decide) (fun c181 => ?_) (fun c181 => ?_)
                    · have h := (if_neg c181).symm.trans h
                      refine lv_iconst (pc := 285) (v := (0 : Int32)) hx hb dL_boxes_285 (by decide) ?_
                      obtain rfl := som1 h
                      exact x_iret E hP hS rfl dL_boxes_286
                    · have h := (if_pos c181).symm.trans h
                      refine lv_iload (pc := 273) hx hb dL_boxes_273 (lv_at hl 4 rfl) ?_
                      refine lv_if_ge (pc := 275) (tgt := 287) hx hb dL_boxes_275 (by decide) (fun c182 => ?_) (fun c182 => ?_)
                      · have h := (if_pos c182).symm.trans h
                        refine lv_iinc (pc := 287) (v := (x7 + 1)) (lv' := [(7, .int (x7 + 1)), (6, .int y177), (5, .int (x5 + (1 : Int32))), (4, .int (x4 + (0 : Int32))), (9, .int (0 : Int32)), (8, .int y56), (0, .ref (ad 0)), (1, .int x1), (2, .int x2), (3, .int x3)]) hx hb dL_boxes_287 hl (k := 9) rfl rfl (by decide) rfl (fun ls hl => ?_)
                        refine lv_goto (pc := 290) (tgt := 158) hx hb dL_boxes_290 (by decide) ?_
                        exact ih M x1 x2 x3 (x4 + (0 : Int32)) (x5 + (1 : Int32)) y177 (x7 + 1) _ _ _ h hP hS (lv_sub hl [6, 7, 8, 9, 3, 2, 1, 0] rfl)
                      · have h := (if_neg c182).symm.trans h
                        refine lv_iload (pc := 278) hx hb dL_boxes_278 (lv_at hl 4 rfl) ?_
                        refine lv_bipush (pc := 280) (v := (-5 : Int32)) hx hb dL_boxes_280 (by decide) ?_
                        refine lv_icmp_eq (pc := 282) (tgt := 287) hx hb dL_boxes_282 (by decide) (fun c183 => ?_) (fun c183 => ?_)
                        · have h := (if_pos c183).symm.trans h
                          refine lv_iinc (pc := 287) (v := (x7 + 1)) (lv' := [(7, .int (x7 + 1)), (6, .int y177), (5, .int (x5 + (1 : Int32))), (4, .int (x4 + (0 : Int32))), (9, .int (0 : Int32)), (8, .int y56), (0, .ref (ad 0)), (1, .int x1), (2, .int x2), (3, .int x3)]) hx hb dL_boxes_287 hl (k := 9) rfl rfl (by decide) rfl (fun ls hl => ?_)
                          refine lv_goto (pc := 290) (tgt := 158) hx hb dL_boxes_290 (by decide) ?_
                          exact ih M x1 x2 x3 (x4 + (0 : Int32)) (x5 + (1 : Int32)) y177 (x7 + 1) _ _ _ h hP hS (lv_sub hl [6, 7, 8, 9, 3, 2, 1, 0] rfl)
                        · have h := (if_neg c183).symm.trans h
                          refine lv_iconst (pc := 285) (v := (0 : Int32)) hx hb dL_boxes_285 (by decide) ?_
                          obtain rfl := som1 h
                          exact x_iret E hP hS rfl dL_boxes_286
                  · exact absurd c180 (by decide)
          · have h := (if_neg c122).symm.trans h
            refine lv_iconst (pc := 191) (v := (1 : Int32)) hx hb dL_boxes_191 (by decide) ?_
            refine lv_goto (pc := 192) (tgt := 196) hx hb dL_boxes_192 (by decide) ?_
            refine lv_istore (pc := 196) (lv' := [(9, .int (1 : Int32)), (8, .int y56), (0, .ref (ad 0)), (1, .int x1), (2, .int x2), (3, .int x3), (4, .int x4), (5, .int x5), (6, .int x6), (7, .int x7)]) hx hb dL_boxes_196 hl (by decide) rfl (fun ls hl => ?_)
            refine lv_iload (pc := 198) hx hb dL_boxes_198 (lv_at hl 6 rfl) ?_
            refine lv_iload (pc := 200) hx hb dL_boxes_200 (lv_at hl 1 rfl) ?_
            refine lv_aload_n (pc := 202) hx hb dL_boxes_202 rfl (lv_at hl 2 rfl) ?_
            refine lv_iload (pc := 203) hx hb dL_boxes_203 (lv_at hl 9 rfl) ?_
            refine lv_iconst (pc := 205) (v := (0 : Int32)) hx hb dL_boxes_205 (by decide) ?_
            obtain ⟨y184, hy184, h⟩ := bnd_ex h
            refine x_callVi (pc := 206) (st := .int (0 : Int32) :: .int x7 :: .ref (ad 0) :: .int y56 :: .int x4 :: []) (As := [.int x7, .int (0 : Int32)]) E hEx hl.1 hP hS (kX7_prop hap  M _ _ _ hy184) gL_25 hdX7_prop rfl (by decide) sh7 rfl ⟨Nat.le_of_ble_eq_true rfl, Nat.le_of_ble_eq_true rfl⟩ ⟨rfl, rfl⟩ dL_boxes_206 rfl (Nat.le_of_ble_eq_true rfl) (fun H locs hP hS n185 => ?_)
            refine lv_icmp_ne (pc := 209) (tgt := 216) hx hb dL_boxes_209 (by decide) (fun c186 => ?_) (fun c186 => ?_)
            · have h := (if_neg c186).symm.trans h
              refine lv_iconst (pc := 216) (v := (1 : Int32)) hx hb dL_boxes_216 (by decide) ?_
              refine lv_iadd (pc := 217) hx hb dL_boxes_217 ?_
              refine lv_istore (pc := 218) (lv' := [(4, .int (x4 + (1 : Int32))), (9, .int (1 : Int32)), (8, .int y56), (0, .ref (ad 0)), (1, .int x1), (2, .int x2), (3, .int x3), (5, .int x5), (6, .int x6), (7, .int x7)]) hx hb dL_boxes_218 hl (by decide) rfl (fun ls hl => ?_)
              refine lv_iload (pc := 220) hx hb dL_boxes_220 (lv_at hl 7 rfl) ?_
              refine lv_iload (pc := 222) hx hb dL_boxes_222 (lv_at hl 2 rfl) ?_
              refine lv_if_ge (pc := 224) (tgt := 231) hx hb dL_boxes_224 (by decide) (fun c187 => ?_) (fun c187 => ?_)
              · have h := (if_pos c187).symm.trans h
                refine lv_iconst (pc := 231) (v := (0 : Int32)) hx hb dL_boxes_231 (by decide) ?_
                refine lv_iadd (pc := 232) hx hb dL_boxes_232 ?_
                refine lv_istore (pc := 233) (lv' := [(5, .int (x5 + (0 : Int32))), (4, .int (x4 + (1 : Int32))), (9, .int (1 : Int32)), (8, .int y56), (0, .ref (ad 0)), (1, .int x1), (2, .int x2), (3, .int x3), (6, .int x6), (7, .int x7)]) hx hb dL_boxes_233 hl (by decide) rfl (fun ls hl => ?_)
                refine lv_iload (pc := 235) hx hb dL_boxes_235 (lv_at hl 8 rfl) ?_
                refine lv_iload (pc := 237) hx hb dL_boxes_237 (lv_at hl 3 rfl) ?_
                refine lv_if_ge (pc := 239) (tgt := 249) hx hb dL_boxes_239 (by decide) (fun c188 => ?_) (fun c188 => ?_)
                · have h := (if_pos c188).symm.trans h
                  refine lv_iconst (pc := 249) (v := (0 : Int32)) hx hb dL_boxes_249 (by decide) ?_
                  refine lv_ior (pc := 250) hx hb dL_boxes_250 ?_
                  refine lv_istore (pc := 251) (lv' := [(6, .int (x6 ||| (0 : Int32))), (5, .int (x5 + (0 : Int32))), (4, .int (x4 + (1 : Int32))), (9, .int (1 : Int32)), (8, .int y56), (0, .ref (ad 0)), (1, .int x1), (2, .int x2), (3, .int x3), (7, .int x7)]) hx hb dL_boxes_251 hl (by decide) rfl (fun ls hl => ?_)
                  refine lv_aload_n (pc := 253) hx hb dL_boxes_253 rfl (lv_at hl 5 rfl) ?_
                  refine lv_iload (pc := 254) hx hb dL_boxes_254 (lv_at hl 9 rfl) ?_
                  refine lv_iconst (pc := 256) (v := (2 : Int32)) hx hb dL_boxes_256 (by decide) ?_
                  obtain ⟨y189, hy189, h⟩ := bnd_ex h
                  refine x_callVi (pc := 257) (st := .int (2 : Int32) :: .int x7 :: .ref (ad 0) :: []) (As := [.int x7, .int (2 : Int32)]) E hEx hl.1 hP hS (kX7_prop hap  M _ _ _ hy189) gL_25 hdX7_prop rfl (by decide) sh7 rfl ⟨Nat.le_of_ble_eq_true rfl, Nat.le_of_ble_eq_true rfl⟩ ⟨rfl, rfl⟩ dL_boxes_257 rfl (Nat.le_of_ble_eq_true rfl) (fun H locs hP hS n190 => ?_)
                  refine lv_iload (pc := 260) hx hb dL_boxes_260 (lv_at hl 3 rfl) ?_
                  refine lv_if_eq (pc := 262) (tgt := 269) hx hb dL_boxes_262 (by decide) (fun c191 => ?_) (fun c191 => ?_)
                  · exact absurd c191 (by decide)
                  · refine lv_iconst (pc := 265) (v := (1 : Int32)) hx hb dL_boxes_265 (by decide) ?_
                    refine lv_goto (pc := 266) (tgt := 270) hx hb dL_boxes_266 (by decide) ?_
                    refine lv_icmp_ne (pc := 270) (tgt := 285) hx hb dL_boxes_270 (by decide) (fun c192 => ?_) (fun c192 => ?_)
                    · have h := (if_neg c192).symm.trans h
                      refine lv_iconst (pc := 285) (v := (0 : Int32)) hx hb dL_boxes_285 (by decide) ?_
                      obtain rfl := som1 h
                      exact x_iret E hP hS rfl dL_boxes_286
                    · have h := (if_pos c192).symm.trans h
                      refine lv_iload (pc := 273) hx hb dL_boxes_273 (lv_at hl 4 rfl) ?_
                      refine lv_if_ge (pc := 275) (tgt := 287) hx hb dL_boxes_275 (by decide) (fun c193 => ?_) (fun c193 => ?_)
                      · have h := (if_pos c193).symm.trans h
                        refine lv_iinc (pc := 287) (v := (x7 + 1)) (lv' := [(7, .int (x7 + 1)), (6, .int (x6 ||| (0 : Int32))), (5, .int (x5 + (0 : Int32))), (4, .int (x4 + (1 : Int32))), (9, .int (1 : Int32)), (8, .int y56), (0, .ref (ad 0)), (1, .int x1), (2, .int x2), (3, .int x3)]) hx hb dL_boxes_287 hl (k := 9) rfl rfl (by decide) rfl (fun ls hl => ?_)
                        refine lv_goto (pc := 290) (tgt := 158) hx hb dL_boxes_290 (by decide) ?_
                        exact ih M x1 x2 x3 (x4 + (1 : Int32)) (x5 + (0 : Int32)) (x6 ||| (0 : Int32)) (x7 + 1) _ _ _ h hP hS (lv_sub hl [6, 7, 8, 9, 3, 2, 1, 0] rfl)
                      · have h := (if_neg c193).symm.trans h
                        refine lv_iload (pc := 278) hx hb dL_boxes_278 (lv_at hl 4 rfl) ?_
                        refine lv_bipush (pc := 280) (v := (-5 : Int32)) hx hb dL_boxes_280 (by decide) ?_
                        refine lv_icmp_eq (pc := 282) (tgt := 287) hx hb dL_boxes_282 (by decide) (fun c194 => ?_) (fun c194 => ?_)
                        · have h := (if_pos c194).symm.trans h
                          refine lv_iinc (pc := 287) (v := (x7 + 1)) (lv' := [(7, .int (x7 + 1)), (6, .int (x6 ||| (0 : Int32))), (5, .int (x5 + (0 : Int32))), (4, .int (x4 + (1 : Int32))), (9, .int (1 : Int32)), (8, .int y56), (0, .ref (ad 0)), (1, .int x1), (2, .int x2), (3, .int x3)]) hx hb dL_boxes_287 hl (k := 9) rfl rfl (by decide) rfl (fun ls hl => ?_)
                          refine lv_goto (pc := 290) (tgt := 158) hx hb dL_boxes_290 (by decide) ?_
                          exact ih M x1 x2 x3 (x4 + (1 : Int32)) (x5 + (0 : Int32)) (x6 ||| (0 : Int32)) (x7 + 1) _ _ _ h hP hS (lv_sub hl [6, 7, 8, 9, 3, 2, 1, 0] rfl)
                        · have h := (if_neg c194).symm.trans h
                          refine lv_iconst (pc := 285) (v := (0 : Int32)) hx hb dL_boxes_285 (by decide) ?_
                          obtain rfl := som1 h
                          exact x_iret E hP hS rfl dL_boxes_286
                · have h := (if_neg c188).symm.trans h
                  refine lv_iconst (pc := 242) (v := (1 : Int32)) hx hb dL_boxes_242 (by decide) ?_
                  refine lv_iload (pc := 243) hx hb dL_boxes_243 (lv_at hl 9 rfl) ?_
                  refine lv_ishl (pc := 245) hx hb dL_boxes_245 ?_
                  refine lv_goto (pc := 246) (tgt := 250) hx hb dL_boxes_246 (by decide) ?_
                  refine lv_ior (pc := 250) hx hb dL_boxes_250 ?_
                  obtain ⟨y195, hy195, h⟩ := thn_ex h
                  refine W.eq (g2 := F0 m 251 ls (.int y195 :: [])) (by rw [← hy195]) ?_
                  refine lv_istore (pc := 251) (lv' := [(6, .int y195), (5, .int (x5 + (0 : Int32))), (4, .int (x4 + (1 : Int32))), (9, .int (1 : Int32)), (8, .int y56), (0, .ref (ad 0)), (1, .int x1), (2, .int x2), (3, .int x3), (7, .int x7)]) hx hb dL_boxes_251 hl (by decide) rfl (fun ls hl => ?_)
                  refine lv_aload_n (pc := 253) hx hb dL_boxes_253 rfl (lv_at hl 5 rfl) ?_
                  refine lv_iload (pc := 254) hx hb dL_boxes_254 (lv_at hl 9 rfl) ?_
                  refine lv_iconst (pc := 256) (v := (2 : Int32)) hx hb dL_boxes_256 (by decide) ?_
                  obtain ⟨y196, hy196, h⟩ := bnd_ex h
                  refine x_callVi (pc := 257) (st := .int (2 : Int32) :: .int x7 :: .ref (ad 0) :: []) (As := [.int x7, .int (2 : Int32)]) E hEx hl.1 hP hS (kX7_prop hap  M _ _ _ hy196) gL_25 hdX7_prop rfl (by decide) sh7 rfl ⟨Nat.le_of_ble_eq_true rfl, Nat.le_of_ble_eq_true rfl⟩ ⟨rfl, rfl⟩ dL_boxes_257 rfl (Nat.le_of_ble_eq_true rfl) (fun H locs hP hS n197 => ?_)
                  refine lv_iload (pc := 260) hx hb dL_boxes_260 (lv_at hl 3 rfl) ?_
                  refine lv_if_eq (pc := 262) (tgt := 269) hx hb dL_boxes_262 (by decide) (fun c198 => ?_) (fun c198 => ?_)
                  · exact absurd c198 (by decide)
                  · refine lv_iconst (pc := 265) (v := (1 : Int32)) hx hb dL_boxes_265 (by decide) ?_
                    refine lv_goto (pc := 266) (tgt := 270) hx hb dL_boxes_266 (by decide) ?_
                    refine lv_icmp_ne (pc := 270) (tgt := 285) hx hb dL_boxes_270 (by decide) (fun c199 => ?_) (fun c199 => ?_)
                    · have h := (if_neg c199).symm.trans h
                      refine lv_iconst (pc := 285) (v := (0 : Int32)) hx hb dL_boxes_285 (by decide) ?_
                      obtain rfl := som1 h
                      exact x_iret E hP hS rfl dL_boxes_286
                    · have h := (if_pos c199).symm.trans h
                      refine lv_iload (pc := 273) hx hb dL_boxes_273 (lv_at hl 4 rfl) ?_
                      refine lv_if_ge (pc := 275) (tgt := 287) hx hb dL_boxes_275 (by decide) (fun c200 => ?_) (fun c200 => ?_)
                      · have h := (if_pos c200).symm.trans h
                        refine lv_iinc (pc := 287) (v := (x7 + 1)) (lv' := [(7, .int (x7 + 1)), (6, .int y195), (5, .int (x5 + (0 : Int32))), (4, .int (x4 + (1 : Int32))), (9, .int (1 : Int32)), (8, .int y56), (0, .ref (ad 0)), (1, .int x1), (2, .int x2), (3, .int x3)]) hx hb dL_boxes_287 hl (k := 9) rfl rfl (by decide) rfl (fun ls hl => ?_)
                        refine lv_goto (pc := 290) (tgt := 158) hx hb dL_boxes_290 (by decide) ?_
                        exact ih M x1 x2 x3 (x4 + (1 : Int32)) (x5 + (0 : Int32)) y195 (x7 + 1) _ _ _ h hP hS (lv_sub hl [6, 7, 8, 9, 3, 2, 1, 0] rfl)
                      · have h := (if_neg c200).symm.trans h
                        refine lv_iload (pc := 278) hx hb dL_boxes_278 (lv_at hl 4 rfl) ?_
                        refine lv_bipush (pc := 280) (v := (-5 : Int32)) hx hb dL_boxes_280 (by decide) ?_
                        refine lv_icmp_eq (pc := 282) (tgt := 287) hx hb dL_boxes_282 (by decide) (fun c201 => ?_) (fun c201 => ?_)
                        · have h := (if_pos c201).symm.trans h
                          refine lv_iinc (pc := 287) (v := (x7 + 1)) (lv' := [(7, .int (x7 + 1)), (6, .int y195), (5, .int (x5 + (0 : Int32))), (4, .int (x4 + (1 : Int32))), (9, .int (1 : Int32)), (8, .int y56), (0, .ref (ad 0)), (1, .int x1), (2, .int x2), (3, .int x3)]) hx hb dL_boxes_287 hl (k := 9) rfl rfl (by decide) rfl (fun ls hl => ?_)
                          refine lv_goto (pc := 290) (tgt := 158) hx hb dL_boxes_290 (by decide) ?_
                          exact ih M x1 x2 x3 (x4 + (1 : Int32)) (x5 + (0 : Int32)) y195 (x7 + 1) _ _ _ h hP hS (lv_sub hl [6, 7, 8, 9, 3, 2, 1, 0] rfl)
                        · have h := (if_neg c201).symm.trans h
                          refine lv_iconst (pc := 285) (v := (0 : Int32)) hx hb dL_boxes_285 (by decide) ?_
                          obtain rfl := som1 h
                          exact x_iret E hP hS rfl dL_boxes_286
              · have h := (if_neg c187).symm.trans h
                refine lv_iconst (pc := 227) (v := (1 : Int32)) hx hb dL_boxes_227 (by decide) ?_
                refine lv_goto (pc := 228) (tgt := 232) hx hb dL_boxes_228 (by decide) ?_
                refine lv_iadd (pc := 232) hx hb dL_boxes_232 ?_
                refine lv_istore (pc := 233) (lv' := [(5, .int (x5 + (1 : Int32))), (4, .int (x4 + (1 : Int32))), (9, .int (1 : Int32)), (8, .int y56), (0, .ref (ad 0)), (1, .int x1), (2, .int x2), (3, .int x3), (6, .int x6), (7, .int x7)]) hx hb dL_boxes_233 hl (by decide) rfl (fun ls hl => ?_)
                refine lv_iload (pc := 235) hx hb dL_boxes_235 (lv_at hl 8 rfl) ?_
                refine lv_iload (pc := 237) hx hb dL_boxes_237 (lv_at hl 3 rfl) ?_
                refine lv_if_ge (pc := 239) (tgt := 249) hx hb dL_boxes_239 (by decide) (fun c202 => ?_) (fun c202 => ?_)
                · have h := (if_pos c202).symm.trans h
                  refine lv_iconst (pc := 249) (v := (0 : Int32)) hx hb dL_boxes_249 (by decide) ?_
                  refine lv_ior (pc := 250) hx hb dL_boxes_250 ?_
                  refine lv_istore (pc := 251) (lv' := [(6, .int (x6 ||| (0 : Int32))), (5, .int (x5 + (1 : Int32))), (4, .int (x4 + (1 : Int32))), (9, .int (1 : Int32)), (8, .int y56), (0, .ref (ad 0)), (1, .int x1), (2, .int x2), (3, .int x3), (7, .int x7)]) hx hb dL_boxes_251 hl (by decide) rfl (fun ls hl => ?_)
                  refine lv_aload_n (pc := 253) hx hb dL_boxes_253 rfl (lv_at hl 5 rfl) ?_
                  refine lv_iload (pc := 254) hx hb dL_boxes_254 (lv_at hl 9 rfl) ?_
                  refine lv_iconst (pc := 256) (v := (2 : Int32)) hx hb dL_boxes_256 (by decide) ?_
                  obtain ⟨y203, hy203, h⟩ := bnd_ex h
                  refine x_callVi (pc := 257) (st := .int (2 : Int32) :: .int x7 :: .ref (ad 0) :: []) (As := [.int x7, .int (2 : Int32)]) E hEx hl.1 hP hS (kX7_prop hap  M _ _ _ hy203) gL_25 hdX7_prop rfl (by decide) sh7 rfl ⟨Nat.le_of_ble_eq_true rfl, Nat.le_of_ble_eq_true rfl⟩ ⟨rfl, rfl⟩ dL_boxes_257 rfl (Nat.le_of_ble_eq_true rfl) (fun H locs hP hS n204 => ?_)
                  refine lv_iload (pc := 260) hx hb dL_boxes_260 (lv_at hl 3 rfl) ?_
                  refine lv_if_eq (pc := 262) (tgt := 269) hx hb dL_boxes_262 (by decide) (fun c205 => ?_) (fun c205 => ?_)
                  · exact absurd c205 (by decide)
                  · refine lv_iconst (pc := 265) (v := (1 : Int32)) hx hb dL_boxes_265 (by decide) ?_
                    refine lv_goto (pc := 266) (tgt := 270) hx hb dL_boxes_266 (by decide) ?_
                    refine lv_icmp_ne (pc := 270) (tgt := 285) hx hb dL_boxes_270 (by decide) (fun c206 => ?_) (fun c206 => ?_)
                    · have h := (if_neg c206).symm.trans h
                      refine lv_iconst (pc := 285) (v := (0 : Int32)) hx hb dL_boxes_285 (by decide) ?_
                      obtain rfl := som1 h
                      exact x_iret E hP hS rfl dL_boxes_286
                    · have h := (if_pos c206).symm.trans h
                      refine lv_iload (pc := 273) hx hb dL_boxes_273 (lv_at hl 4 rfl) ?_
                      refine lv_if_ge (pc := 275) (tgt := 287) hx hb dL_boxes_275 (by decide) (fun c207 => ?_) (fun c207 => ?_)
                      · have h := (if_pos c207).symm.trans h
                        refine lv_iinc (pc := 287) (v := (x7 + 1)) (lv' := [(7, .int (x7 + 1)), (6, .int (x6 ||| (0 : Int32))), (5, .int (x5 + (1 : Int32))), (4, .int (x4 + (1 : Int32))), (9, .int (1 : Int32)), (8, .int y56), (0, .ref (ad 0)), (1, .int x1), (2, .int x2), (3, .int x3)]) hx hb dL_boxes_287 hl (k := 9) rfl rfl (by decide) rfl (fun ls hl => ?_)
                        refine lv_goto (pc := 290) (tgt := 158) hx hb dL_boxes_290 (by decide) ?_
                        exact ih M x1 x2 x3 (x4 + (1 : Int32)) (x5 + (1 : Int32)) (x6 ||| (0 : Int32)) (x7 + 1) _ _ _ h hP hS (lv_sub hl [6, 7, 8, 9, 3, 2, 1, 0] rfl)
                      · have h := (if_neg c207).symm.trans h
                        refine lv_iload (pc := 278) hx hb dL_boxes_278 (lv_at hl 4 rfl) ?_
                        refine lv_bipush (pc := 280) (v := (-5 : Int32)) hx hb dL_boxes_280 (by decide) ?_
                        refine lv_icmp_eq (pc := 282) (tgt := 287) hx hb dL_boxes_282 (by decide) (fun c208 => ?_) (fun c208 => ?_)
                        · have h := (if_pos c208).symm.trans h
                          refine lv_iinc (pc := 287) (v := (x7 + 1)) (lv' := [(7, .int (x7 + 1)), (6, .int (x6 ||| (0 : Int32))), (5, .int (x5 + (1 : Int32))), (4, .int (x4 + (1 : Int32))), (9, .int (1 : Int32)), (8, .int y56), (0, .ref (ad 0)), (1, .int x1), (2, .int x2), (3, .int x3)]) hx hb dL_boxes_287 hl (k := 9) rfl rfl (by decide) rfl (fun ls hl => ?_)
                          refine lv_goto (pc := 290) (tgt := 158) hx hb dL_boxes_290 (by decide) ?_
                          exact ih M x1 x2 x3 (x4 + (1 : Int32)) (x5 + (1 : Int32)) (x6 ||| (0 : Int32)) (x7 + 1) _ _ _ h hP hS (lv_sub hl [6, 7, 8, 9, 3, 2, 1, 0] rfl)
                        · have h := (if_neg c208).symm.trans h
                          refine lv_iconst (pc := 285) (v := (0 : Int32)) hx hb dL_boxes_285 (by decide) ?_
                          obtain rfl := som1 h
                          exact x_iret E hP hS rfl dL_boxes_286
                · have h := (if_neg c202).symm.trans h
                  refine lv_iconst (pc := 242) (v := (1 : Int32)) hx hb dL_boxes_242 (by decide) ?_
                  refine lv_iload (pc := 243) hx hb dL_boxes_243 (lv_at hl 9 rfl) ?_
                  refine lv_ishl (pc := 245) hx hb dL_boxes_245 ?_
                  refine lv_goto (pc := 246) (tgt := 250) hx hb dL_boxes_246 (by decide) ?_
                  refine lv_ior (pc := 250) hx hb dL_boxes_250 ?_
                  obtain ⟨y209, hy209, h⟩ := thn_ex h
                  refine W.eq (g2 := F0 m 251 ls (.int y209 :: [])) (by rw [← hy209]) ?_
                  refine lv_istore (pc := 251) (lv' := [(6, .int y209), (5, .int (x5 + (1 : Int32))), (4, .int (x4 + (1 : Int32))), (9, .int (1 : Int32)), (8, .int y56), (0, .ref (ad 0)), (1, .int x1), (2, .int x2), (3, .int x3), (7, .int x7)]) hx hb dL_boxes_251 hl (by decide) rfl (fun ls hl => ?_)
                  refine lv_aload_n (pc := 253) hx hb dL_boxes_253 rfl (lv_at hl 5 rfl) ?_
                  refine lv_iload (pc := 254) hx hb dL_boxes_254 (lv_at hl 9 rfl) ?_
                  refine lv_iconst (pc := 256) (v := (2 : Int32)) hx hb dL_boxes_256 (by decide) ?_
                  obtain ⟨y210, hy210, h⟩ := bnd_ex h
                  refine x_callVi (pc := 257) (st := .int (2 : Int32) :: .int x7 :: .ref (ad 0) :: []) (As := [.int x7, .int (2 : Int32)]) E hEx hl.1 hP hS (kX7_prop hap  M _ _ _ hy210) gL_25 hdX7_prop rfl (by decide) sh7 rfl ⟨Nat.le_of_ble_eq_true rfl, Nat.le_of_ble_eq_true rfl⟩ ⟨rfl, rfl⟩ dL_boxes_257 rfl (Nat.le_of_ble_eq_true rfl) (fun H locs hP hS n211 => ?_)
                  refine lv_iload (pc := 260) hx hb dL_boxes_260 (lv_at hl 3 rfl) ?_
                  refine lv_if_eq (pc := 262) (tgt := 269) hx hb dL_boxes_262 (by decide) (fun c212 => ?_) (fun c212 => ?_)
                  · exact absurd c212 (by decide)
                  · refine lv_iconst (pc := 265) (v := (1 : Int32)) hx hb dL_boxes_265 (by decide) ?_
                    refine lv_goto (pc := 266) (tgt := 270) hx hb dL_boxes_266 (by decide) ?_
                    refine lv_icmp_ne (pc := 270) (tgt := 285) hx hb dL_boxes_270 (by decide) (fun c213 => ?_) (fun c213 => ?_)
                    · have h := (if_neg c213).symm.trans h
                      refine lv_iconst (pc := 285) (v := (0 : Int32)) hx hb dL_boxes_285 (by decide) ?_
                      obtain rfl := som1 h
                      exact x_iret E hP hS rfl dL_boxes_286
                    · have h := (if_pos c213).symm.trans h
                      refine lv_iload (pc := 273) hx hb dL_boxes_273 (lv_at hl 4 rfl) ?_
                      refine lv_if_ge (pc := 275) (tgt := 287) hx hb dL_boxes_275 (by decide) (fun c214 => ?_) (fun c214 => ?_)
                      · have h := (if_pos c214).symm.trans h
                        refine lv_iinc (pc := 287) (v := (x7 + 1)) (lv' := [(7, .int (x7 + 1)), (6, .int y209), (5, .int (x5 + (1 : Int32))), (4, .int (x4 + (1 : Int32))), (9, .int (1 : Int32)), (8, .int y56), (0, .ref (ad 0)), (1, .int x1), (2, .int x2), (3, .int x3)]) hx hb dL_boxes_287 hl (k := 9) rfl rfl (by decide) rfl (fun ls hl => ?_)
                        refine lv_goto (pc := 290) (tgt := 158) hx hb dL_boxes_290 (by decide) ?_
                        exact ih M x1 x2 x3 (x4 + (1 : Int32)) (x5 + (1 : Int32)) y209 (x7 + 1) _ _ _ h hP hS (lv_sub hl [6, 7, 8, 9, 3, 2, 1, 0] rfl)
                      · have h := (if_neg c214).symm.trans h
                        refine lv_iload (pc := 278) hx hb dL_boxes_278 (lv_at hl 4 rfl) ?_
                        refine lv_bipush (pc := 280) (v := (-5 : Int32)) hx hb dL_boxes_280 (by decide) ?_
                        refine lv_icmp_eq (pc := 282) (tgt := 287) hx hb dL_boxes_282 (by decide) (fun c215 => ?_) (fun c215 => ?_)
                        · have h := (if_pos c215).symm.trans h
                          refine lv_iinc (pc := 287) (v := (x7 + 1)) (lv' := [(7, .int (x7 + 1)), (6, .int y209), (5, .int (x5 + (1 : Int32))), (4, .int (x4 + (1 : Int32))), (9, .int (1 : Int32)), (8, .int y56), (0, .ref (ad 0)), (1, .int x1), (2, .int x2), (3, .int x3)]) hx hb dL_boxes_287 hl (k := 9) rfl rfl (by decide) rfl (fun ls hl => ?_)
                          refine lv_goto (pc := 290) (tgt := 158) hx hb dL_boxes_290 (by decide) ?_
                          exact ih M x1 x2 x3 (x4 + (1 : Int32)) (x5 + (1 : Int32)) y209 (x7 + 1) _ _ _ h hP hS (lv_sub hl [6, 7, 8, 9, 3, 2, 1, 0] rfl)
                        · have h := (if_neg c215).symm.trans h
                          refine lv_iconst (pc := 285) (v := (0 : Int32)) hx hb dL_boxes_285 (by decide) ?_
                          obtain rfl := som1 h
                          exact x_iret E hP hS rfl dL_boxes_286
            · have h := (if_pos c186).symm.trans h
              refine lv_iconst (pc := 212) (v := (0 : Int32)) hx hb dL_boxes_212 (by decide) ?_
              refine lv_goto (pc := 213) (tgt := 217) hx hb dL_boxes_213 (by decide) ?_
              refine lv_iadd (pc := 217) hx hb dL_boxes_217 ?_
              refine lv_istore (pc := 218) (lv' := [(4, .int (x4 + (0 : Int32))), (9, .int (1 : Int32)), (8, .int y56), (0, .ref (ad 0)), (1, .int x1), (2, .int x2), (3, .int x3), (5, .int x5), (6, .int x6), (7, .int x7)]) hx hb dL_boxes_218 hl (by decide) rfl (fun ls hl => ?_)
              refine lv_iload (pc := 220) hx hb dL_boxes_220 (lv_at hl 7 rfl) ?_
              refine lv_iload (pc := 222) hx hb dL_boxes_222 (lv_at hl 2 rfl) ?_
              refine lv_if_ge (pc := 224) (tgt := 231) hx hb dL_boxes_224 (by decide) (fun c216 => ?_) (fun c216 => ?_)
              · have h := (if_pos c216).symm.trans h
                refine lv_iconst (pc := 231) (v := (0 : Int32)) hx hb dL_boxes_231 (by decide) ?_
                refine lv_iadd (pc := 232) hx hb dL_boxes_232 ?_
                refine lv_istore (pc := 233) (lv' := [(5, .int (x5 + (0 : Int32))), (4, .int (x4 + (0 : Int32))), (9, .int (1 : Int32)), (8, .int y56), (0, .ref (ad 0)), (1, .int x1), (2, .int x2), (3, .int x3), (6, .int x6), (7, .int x7)]) hx hb dL_boxes_233 hl (by decide) rfl (fun ls hl => ?_)
                refine lv_iload (pc := 235) hx hb dL_boxes_235 (lv_at hl 8 rfl) ?_
                refine lv_iload (pc := 237) hx hb dL_boxes_237 (lv_at hl 3 rfl) ?_
                refine lv_if_ge (pc := 239) (tgt := 249) hx hb dL_boxes_239 (by decide) (fun c217 => ?_) (fun c217 => ?_)
                · have h := (if_pos c217).symm.trans h
                  refine lv_iconst (pc := 249) (v := (0 : Int32)) hx hb dL_boxes_249 (by decide) ?_
                  refine lv_ior (pc := 250) hx hb dL_boxes_250 ?_
                  refine lv_istore (pc := 251) (lv' := [(6, .int (x6 ||| (0 : Int32))), (5, .int (x5 + (0 : Int32))), (4, .int (x4 + (0 : Int32))), (9, .int (1 : Int32)), (8, .int y56), (0, .ref (ad 0)), (1, .int x1), (2, .int x2), (3, .int x3), (7, .int x7)]) hx hb dL_boxes_251 hl (by decide) rfl (fun ls hl => ?_)
                  refine lv_aload_n (pc := 253) hx hb dL_boxes_253 rfl (lv_at hl 5 rfl) ?_
                  refine lv_iload (pc := 254) hx hb dL_boxes_254 (lv_at hl 9 rfl) ?_
                  refine lv_iconst (pc := 256) (v := (2 : Int32)) hx hb dL_boxes_256 (by decide) ?_
                  obtain ⟨y218, hy218, h⟩ := bnd_ex h
                  refine x_callVi (pc := 257) (st := .int (2 : Int32) :: .int x7 :: .ref (ad 0) :: []) (As := [.int x7, .int (2 : Int32)]) E hEx hl.1 hP hS (kX7_prop hap  M _ _ _ hy218) gL_25 hdX7_prop rfl (by decide) sh7 rfl ⟨Nat.le_of_ble_eq_true rfl, Nat.le_of_ble_eq_true rfl⟩ ⟨rfl, rfl⟩ dL_boxes_257 rfl (Nat.le_of_ble_eq_true rfl) (fun H locs hP hS n219 => ?_)
                  refine lv_iload (pc := 260) hx hb dL_boxes_260 (lv_at hl 3 rfl) ?_
                  refine lv_if_eq (pc := 262) (tgt := 269) hx hb dL_boxes_262 (by decide) (fun c220 => ?_) (fun c220 => ?_)
                  · exact absurd c220 (by decide)
                  · refine lv_iconst (pc := 265) (v := (1 : Int32)) hx hb dL_boxes_265 (by decide) ?_
                    refine lv_goto (pc := 266) (tgt := 270) hx hb dL_boxes_266 (by decide) ?_
                    refine lv_icmp_ne (pc := 270) (tgt := 285) hx hb dL_boxes_270 (by decide) (fun c221 => ?_) (fun c221 => ?_)
                    · have h := (if_neg c221).symm.trans h
                      refine lv_iconst (pc := 285) (v := (0 : Int32)) hx hb dL_boxes_285 (by decide) ?_
                      obtain rfl := som1 h
                      exact x_iret E hP hS rfl dL_boxes_286
                    · have h := (if_pos c221).symm.trans h
                      refine lv_iload (pc := 273) hx hb dL_boxes_273 (lv_at hl 4 rfl) ?_
                      refine lv_if_ge (pc := 275) (tgt := 287) hx hb dL_boxes_275 (by decide) (fun c222 => ?_) (fun c222 => ?_)
                      · have h := (if_pos c222).symm.trans h
                        refine lv_iinc (pc := 287) (v := (x7 + 1)) (lv' := [(7, .int (x7 + 1)), (6, .int (x6 ||| (0 : Int32))), (5, .int (x5 + (0 : Int32))), (4, .int (x4 + (0 : Int32))), (9, .int (1 : Int32)), (8, .int y56), (0, .ref (ad 0)), (1, .int x1), (2, .int x2), (3, .int x3)]) hx hb dL_boxes_287 hl (k := 9) rfl rfl (by decide) rfl (fun ls hl => ?_)
                        refine lv_goto (pc := 290) (tgt := 158) hx hb dL_boxes_290 (by decide) ?_
                        exact ih M x1 x2 x3 (x4 + (0 : Int32)) (x5 + (0 : Int32)) (x6 ||| (0 : Int32)) (x7 + 1) _ _ _ h hP hS (lv_sub hl [6, 7, 8, 9, 3, 2, 1, 0] rfl)
                      · have h := (if_neg c222).symm.trans h
                        refine lv_iload (pc := 278) hx hb dL_boxes_278 (lv_at hl 4 rfl) ?_
                        refine lv_bipush (pc := 280) (v := (-5 : Int32)) hx hb dL_boxes_280 (by decide) ?_
                        refine lv_icmp_eq (pc := 282) (tgt := 287) hx hb dL_boxes_282 (by decide) (fun c223 => ?_) (fun c223 => ?_)
                        · have h := (if_pos c223).symm.trans h
                          refine lv_iinc (pc := 287) (v := (x7 + 1)) (lv' := [(7, .int (x7 + 1)), (6, .int (x6 ||| (0 : Int32))), (5, .int (x5 + (0 : Int32))), (4, .int (x4 + (0 : Int32))), (9, .int (1 : Int32)), (8, .int y56), (0, .ref (ad 0)), (1, .int x1), (2, .int x2), (3, .int x3)]) hx hb dL_boxes_287 hl (k := 9) rfl rfl (by decide) rfl (fun ls hl => ?_)
                          refine lv_goto (pc := 290) (tgt := 158) hx hb dL_boxes_290 (by decide) ?_
                          exact ih M x1 x2 x3 (x4 + (0 : Int32)) (x5 + (0 : Int32)) (x6 ||| (0 : Int32)) (x7 + 1) _ _ _ h hP hS (lv_sub hl [6, 7, 8, 9, 3, 2, 1, 0] rfl)
                        · have h := (if_neg c223).symm.trans h
                          refine lv_iconst (pc := 285) (v := (0 : Int32)) hx hb dL_boxes_285 (by decide) ?_
                          obtain rfl := som1 h
                          exact x_iret E hP hS rfl dL_boxes_286
                · have h := (if_neg c217).symm.trans h
                  refine lv_iconst (pc := 242) (v := (1 : Int32)) hx hb dL_boxes_242 (by decide) ?_
                  refine lv_iload (pc := 243) hx hb dL_boxes_243 (lv_at hl 9 rfl) ?_
                  refine lv_ishl (pc := 245) hx hb dL_boxes_245 ?_
                  refine lv_goto (pc := 246) (tgt := 250) hx hb dL_boxes_246 (by decide) ?_
                  refine lv_ior (pc := 250) hx hb dL_boxes_250 ?_
                  obtain ⟨y224, hy224, h⟩ := thn_ex h
                  refine W.eq (g2 := F0 m 251 ls (.int y224 :: [])) (by rw [← hy224]) ?_
                  refine lv_istore (pc := 251) (lv' := [(6, .int y224), (5, .int (x5 + (0 : Int32))), (4, .int (x4 + (0 : Int32))), (9, .int (1 : Int32)), (8, .int y56), (0, .ref (ad 0)), (1, .int x1), (2, .int x2), (3, .int x3), (7, .int x7)]) hx hb dL_boxes_251 hl (by decide) rfl (fun ls hl => ?_)
                  refine lv_aload_n (pc := 253) hx hb dL_boxes_253 rfl (lv_at hl 5 rfl) ?_
                  refine lv_iload (pc := 254) hx hb dL_boxes_254 (lv_at hl 9 rfl) ?_
                  refine lv_iconst (pc := 256) (v := (2 : Int32)) hx hb dL_boxes_256 (by decide) ?_
                  obtain ⟨y225, hy225, h⟩ := bnd_ex h
                  refine x_callVi (pc := 257) (st := .int (2 : Int32) :: .int x7 :: .ref (ad 0) :: []) (As := [.int x7, .int (2 : Int32)]) E hEx hl.1 hP hS (kX7_prop hap  M _ _ _ hy225) gL_25 hdX7_prop rfl (by decide) sh7 rfl ⟨Nat.le_of_ble_eq_true rfl, Nat.le_of_ble_eq_true rfl⟩ ⟨rfl, rfl⟩ dL_boxes_257 rfl (Nat.le_of_ble_eq_true rfl) (fun H locs hP hS n226 => ?_)
                  refine lv_iload (pc := 260) hx hb dL_boxes_260 (lv_at hl 3 rfl) ?_
                  refine lv_if_eq (pc := 262) (tgt := 269) hx hb dL_boxes_262 (by decide) (fun c227 => ?_) (fun c227 => ?_)
                  · exact absurd c227 (by decide)
                  · refine lv_iconst (pc := 265) (v := (1 : Int32)) hx hb dL_boxes_265 (by decide) ?_
                    refine lv_goto (pc := 266) (tgt := 270) hx hb dL_boxes_266 (by decide) ?_
                    refine lv_icmp_ne (pc := 270) (tgt := 285) hx hb dL_boxes_270 (by decide) (fun c228 => ?_) (fun c228 => ?_)
                    · have h := (if_neg c228).symm.trans h
                      refine lv_iconst (pc := 285) (v := (0 : Int32)) hx hb dL_boxes_285 (by decide) ?_
                      obtain rfl := som1 h
                      exact x_iret E hP hS rfl dL_boxes_286
                    · have h := (if_pos c228).symm.trans h
                      refine lv_iload (pc := 273) hx hb dL_boxes_273 (lv_at hl 4 rfl) ?_
                      refine lv_if_ge (pc := 275) (tgt := 287) hx hb dL_boxes_275 (by decide) (fun c229 => ?_) (fun c229 => ?_)
                      · have h := (if_pos c229).symm.trans h
                        refine lv_iinc (pc := 287) (v := (x7 + 1)) (lv' := [(7, .int (x7 + 1)), (6, .int y224), (5, .int (x5 + (0 : Int32))), (4, .int (x4 + (0 : Int32))), (9, .int (1 : Int32)), (8, .int y56), (0, .ref (ad 0)), (1, .int x1), (2, .int x2), (3, .int x3)]) hx hb dL_boxes_287 hl (k := 9) rfl rfl (by decide) rfl (fun ls hl => ?_)
                        refine lv_goto (pc := 290) (tgt := 158) hx hb dL_boxes_290 (by decide) ?_
                        exact ih M x1 x2 x3 (x4 + (0 : Int32)) (x5 + (0 : Int32)) y224 (x7 + 1) _ _ _ h hP hS (lv_sub hl [6, 7, 8, 9, 3, 2, 1, 0] rfl)
                      · have h := (if_neg c229).symm.trans h
                        refine lv_iload (pc := 278) hx hb dL_boxes_278 (lv_at hl 4 rfl) ?_
                        refine lv_bipush (pc := 280) (v := (-5 : Int32)) hx hb dL_boxes_280 (by decide) ?_
                        refine lv_icmp_eq (pc := 282) (tgt := 287) hx hb dL_boxes_282 (by decide) (fun c230 => ?_) (fun c230 => ?_)
                        · have h := (if_pos c230).symm.trans h
                          refine lv_iinc (pc := 287) (v := (x7 + 1)) (lv' := [(7, .int (x7 + 1)), (6, .int y224), (5, .int (x5 + (0 : Int32))), (4, .int (x4 + (0 : Int32))), (9, .int (1 : Int32)), (8, .int y56), (0, .ref (ad 0)), (1, .int x1), (2, .int x2), (3, .int x3)]) hx hb dL_boxes_287 hl (k := 9) rfl rfl (by decide) rfl (fun ls hl => ?_)
                          refine lv_goto (pc := 290) (tgt := 158) hx hb dL_boxes_290 (by decide) ?_
                          exact ih M x1 x2 x3 (x4 + (0 : Int32)) (x5 + (0 : Int32)) y224 (x7 + 1) _ _ _ h hP hS (lv_sub hl [6, 7, 8, 9, 3, 2, 1, 0] rfl)
                        · have h := (if_neg c230).symm.trans h
                          refine lv_iconst (pc := 285) (v := (0 : Int32)) hx hb dL_boxes_285 (by decide) ?_
                          obtain rfl := som1 h
                          exact x_iret E hP hS rfl dL_boxes_286
              · have h := (if_neg c216).symm.trans h
                refine lv_iconst (pc := 227) (v := (1 : Int32)) hx hb dL_boxes_227 (by decide) ?_
                refine lv_goto (pc := 228) (tgt := 232) hx hb dL_boxes_228 (by decide) ?_
                refine lv_iadd (pc := 232) hx hb dL_boxes_232 ?_
                refine lv_istore (pc := 233) (lv' := [(5, .int (x5 + (1 : Int32))), (4, .int (x4 + (0 : Int32))), (9, .int (1 : Int32)), (8, .int y56), (0, .ref (ad 0)), (1, .int x1), (2, .int x2), (3, .int x3), (6, .int x6), (7, .int x7)]) hx hb dL_boxes_233 hl (by decide) rfl (fun ls hl => ?_)
                refine lv_iload (pc := 235) hx hb dL_boxes_235 (lv_at hl 8 rfl) ?_
                refine lv_iload (pc := 237) hx hb dL_boxes_237 (lv_at hl 3 rfl) ?_
                refine lv_if_ge (pc := 239) (tgt := 249) hx hb dL_boxes_239 (by decide) (fun c231 => ?_) (fun c231 => ?_)
                · have h := (if_pos c231).symm.trans h
                  refine lv_iconst (pc := 249) (v := (0 : Int32)) hx hb dL_boxes_249 (by decide) ?_
                  refine lv_ior (pc := 250) hx hb dL_boxes_250 ?_
                  refine lv_istore (pc := 251) (lv' := [(6, .int (x6 ||| (0 : Int32))), (5, .int (x5 + (1 : Int32))), (4, .int (x4 + (0 : Int32))), (9, .int (1 : Int32)), (8, .int y56), (0, .ref (ad 0)), (1, .int x1), (2, .int x2), (3, .int x3), (7, .int x7)]) hx hb dL_boxes_251 hl (by decide) rfl (fun ls hl => ?_)
                  refine lv_aload_n (pc := 253) hx hb dL_boxes_253 rfl (lv_at hl 5 rfl) ?_
                  refine lv_iload (pc := 254) hx hb dL_boxes_254 (lv_at hl 9 rfl) ?_
                  refine lv_iconst (pc := 256) (v := (2 : Int32)) hx hb dL_boxes_256 (by decide) ?_
                  obtain ⟨y232, hy232, h⟩ := bnd_ex h
                  refine x_callVi (pc := 257) (st := .int (2 : Int32) :: .int x7 :: .ref (ad 0) :: []) (As := [.int x7, .int (2 : Int32)]) E hEx hl.1 hP hS (kX7_prop hap  M _ _ _ hy232) gL_25 hdX7_prop rfl (by decide) sh7 rfl ⟨Nat.le_of_ble_eq_true rfl, Nat.le_of_ble_eq_true rfl⟩ ⟨rfl, rfl⟩ dL_boxes_257 rfl (Nat.le_of_ble_eq_true rfl) (fun H locs hP hS n233 => ?_)
                  refine lv_iload (pc := 260) hx hb dL_boxes_260 (lv_at hl 3 rfl) ?_
                  refine lv_if_eq (pc := 262) (tgt := 269) hx hb dL_boxes_262 (by decide) (fun c234 => ?_) (fun c234 => ?_)
                  · exact absurd c234 (by decide)
                  · refine lv_iconst (pc := 265) (v := (1 : Int32)) hx hb dL_boxes_265 (by decide) ?_
                    refine lv_goto (pc := 266) (tgt := 270) hx hb dL_boxes_266 (by decide) ?_
                    refine lv_icmp_ne (pc := 270) (tgt := 285) hx hb dL_boxes_270 (by decide) (fun c235 => ?_) (fun c235 => ?_)
                    · have h := (if_neg c235).symm.trans h
                      refine lv_iconst (pc := 285) (v := (0 : Int32)) hx hb dL_boxes_285 (by decide) ?_
                      obtain rfl := som1 h
                      exact x_iret E hP hS rfl dL_boxes_286
                    · have h := (if_pos c235).symm.trans h
                      refine lv_iload (pc := 273) hx hb dL_boxes_273 (lv_at hl 4 rfl) ?_
                      refine lv_if_ge (pc := 275) (tgt := 287) hx hb dL_boxes_275 (by decide) (fun c236 => ?_) (fun c236 => ?_)
                      · have h := (if_pos c236).symm.trans h
                        refine lv_iinc (pc := 287) (v := (x7 + 1)) (lv' := [(7, .int (x7 + 1)), (6, .int (x6 ||| (0 : Int32))), (5, .int (x5 + (1 : Int32))), (4, .int (x4 + (0 : Int32))), (9, .int (1 : Int32)), (8, .int y56), (0, .ref (ad 0)), (1, .int x1), (2, .int x2), (3, .int x3)]) hx hb dL_boxes_287 hl (k := 9) rfl rfl (by decide) rfl (fun ls hl => ?_)
                        refine lv_goto (pc := 290) (tgt := 158) hx hb dL_boxes_290 (by decide) ?_
                        exact ih M x1 x2 x3 (x4 + (0 : Int32)) (x5 + (1 : Int32)) (x6 ||| (0 : Int32)) (x7 + 1) _ _ _ h hP hS (lv_sub hl [6, 7, 8, 9, 3, 2, 1, 0] rfl)
                      · have h := (if_neg c236).symm.trans h
                        refine lv_iload (pc := 278) hx hb dL_boxes_278 (lv_at hl 4 rfl) ?_
                        refine lv_bipush (pc := 280) (v := (-5 : Int32)) hx hb dL_boxes_280 (by decide) ?_
                        refine lv_icmp_eq (pc := 282) (tgt := 287) hx hb dL_boxes_282 (by decide) (fun c237 => ?_) (fun c237 => ?_)
                        · have h := (if_pos c237).symm.trans h
                          refine lv_iinc (pc := 287) (v := (x7 + 1)) (lv' := [(7, .int (x7 + 1)), (6, .int (x6 ||| (0 : Int32))), (5, .int (x5 + (1 : Int32))), (4, .int (x4 + (0 : Int32))), (9, .int (1 : Int32)), (8, .int y56), (0, .ref (ad 0)), (1, .int x1), (2, .int x2), (3, .int x3)]) hx hb dL_boxes_287 hl (k := 9) rfl rfl (by decide) rfl (fun ls hl => ?_)
                          refine lv_goto (pc := 290) (tgt := 158) hx hb dL_boxes_290 (by decide) ?_
                          exact ih M x1 x2 x3 (x4 + (0 : Int32)) (x5 + (1 : Int32)) (x6 ||| (0 : Int32)) (x7 + 1) _ _ _ h hP hS (lv_sub hl [6, 7, 8, 9, 3, 2, 1, 0] rfl)
                        · have h := (if_neg c237).symm.trans h
                          refine lv_iconst (pc := 285) (v := (0 : Int32)) hx hb dL_boxes_285 (by decide) ?_
                          obtain rfl := som1 h
                          exact x_iret E hP hS rfl dL_boxes_286
                · have h := (if_neg c231).symm.trans h
                  refine lv_iconst (pc := 242) (v := (1 : Int32)) hx hb dL_boxes_242 (by decide) ?_
                  refine lv_iload (pc := 243) hx hb dL_boxes_243 (lv_at hl 9 rfl) ?_
                  refine lv_ishl (pc := 245) hx hb dL_boxes_245 ?_
                  refine lv_goto (pc := 246) (tgt := 250) hx hb dL_boxes_246 (by decide) ?_
                  refine lv_ior (pc := 250) hx hb dL_boxes_250 ?_
                  obtain ⟨y238, hy238, h⟩ := thn_ex h
                  refine W.eq (g2 := F0 m 251 ls (.int y238 :: [])) (by rw [← hy238]) ?_
                  refine lv_istore (pc := 251) (lv' := [(6, .int y238), (5, .int (x5 + (1 : Int32))), (4, .int (x4 + (0 : Int32))), (9, .int (1 : Int32)), (8, .int y56), (0, .ref (ad 0)), (1, .int x1), (2, .int x2), (3, .int x3), (7, .int x7)]) hx hb dL_boxes_251 hl (by decide) rfl (fun ls hl => ?_)
                  refine lv_aload_n (pc := 253) hx hb dL_boxes_253 rfl (lv_at hl 5 rfl) ?_
                  refine lv_iload (pc := 254) hx hb dL_boxes_254 (lv_at hl 9 rfl) ?_
                  refine lv_iconst (pc := 256) (v := (2 : Int32)) hx hb dL_boxes_256 (by decide) ?_
                  obtain ⟨y239, hy239, h⟩ := bnd_ex h
                  refine x_callVi (pc := 257) (st := .int (2 : Int32) :: .int x7 :: .ref (ad 0) :: []) (As := [.int x7, .int (2 : Int32)]) E hEx hl.1 hP hS (kX7_prop hap  M _ _ _ hy239) gL_25 hdX7_prop rfl (by decide) sh7 rfl ⟨Nat.le_of_ble_eq_true rfl, Nat.le_of_ble_eq_true rfl⟩ ⟨rfl, rfl⟩ dL_boxes_257 rfl (Nat.le_of_ble_eq_true rfl) (fun H locs hP hS n240 => ?_)
                  refine lv_iload (pc := 260) hx hb dL_boxes_260 (lv_at hl 3 rfl) ?_
                  refine lv_if_eq (pc := 262) (tgt := 269) hx hb dL_boxes_262 (by decide) (fun c241 => ?_) (fun c241 => ?_)
                  · exact absurd c241 (by decide)
                  · refine lv_iconst (pc := 265) (v := (1 : Int32)) hx hb dL_boxes_265 (by decide) ?_
                    refine lv_goto (pc := 266) (tgt := 270) hx hb dL_boxes_266 (by decide) ?_
                    refine lv_icmp_ne (pc := 270) (tgt := 285) hx hb dL_boxes_270 (by decide) (fun c242 => ?_) (fun c242 => ?_)
                    · have h := (if_neg c242).symm.trans h
                      refine lv_iconst (pc := 285) (v := (0 : Int32)) hx hb dL_boxes_285 (by decide) ?_
                      obtain rfl := som1 h
                      exact x_iret E hP hS rfl dL_boxes_286
                    · have h := (if_pos c242).symm.trans h
                      refine lv_iload (pc := 273) hx hb dL_boxes_273 (lv_at hl 4 rfl) ?_
                      refine lv_if_ge (pc := 275) (tgt := 287) hx hb dL_boxes_275 (by decide) (fun c243 => ?_) (fun c243 => ?_)
                      · have h := (if_pos c243).symm.trans h
                        refine lv_iinc (pc := 287) (v := (x7 + 1)) (lv' := [(7, .int (x7 + 1)), (6, .int y238), (5, .int (x5 + (1 : Int32))), (4, .int (x4 + (0 : Int32))), (9, .int (1 : Int32)), (8, .int y56), (0, .ref (ad 0)), (1, .int x1), (2, .int x2), (3, .int x3)]) hx hb dL_boxes_287 hl (k := 9) rfl rfl (by decide) rfl (fun ls hl => ?_)
                        refine lv_goto (pc := 290) (tgt := 158) hx hb dL_boxes_290 (by decide) ?_
                        exact ih M x1 x2 x3 (x4 + (0 : Int32)) (x5 + (1 : Int32)) y238 (x7 + 1) _ _ _ h hP hS (lv_sub hl [6, 7, 8, 9, 3, 2, 1, 0] rfl)
                      · have h := (if_neg c243).symm.trans h
                        refine lv_iload (pc := 278) hx hb dL_boxes_278 (lv_at hl 4 rfl) ?_
                        refine lv_bipush (pc := 280) (v := (-5 : Int32)) hx hb dL_boxes_280 (by decide) ?_
                        refine lv_icmp_eq (pc := 282) (tgt := 287) hx hb dL_boxes_282 (by decide) (fun c244 => ?_) (fun c244 => ?_)
                        · have h := (if_pos c244).symm.trans h
                          refine lv_iinc (pc := 287) (v := (x7 + 1)) (lv' := [(7, .int (x7 + 1)), (6, .int y238), (5, .int (x5 + (1 : Int32))), (4, .int (x4 + (0 : Int32))), (9, .int (1 : Int32)), (8, .int y56), (0, .ref (ad 0)), (1, .int x1), (2, .int x2), (3, .int x3)]) hx hb dL_boxes_287 hl (k := 9) rfl rfl (by decide) rfl (fun ls hl => ?_)
                          refine lv_goto (pc := 290) (tgt := 158) hx hb dL_boxes_290 (by decide) ?_
                          exact ih M x1 x2 x3 (x4 + (0 : Int32)) (x5 + (1 : Int32)) y238 (x7 + 1) _ _ _ h hP hS (lv_sub hl [6, 7, 8, 9, 3, 2, 1, 0] rfl)
                        · have h := (if_neg c244).symm.trans h
                          refine lv_iconst (pc := 285) (v := (0 : Int32)) hx hb dL_boxes_285 (by decide) ?_
                          obtain rfl := som1 h
                          exact x_iret E hP hS rfl dL_boxes_286
  have hL9 : ∀ (n : Nat) (M : Mem) (x1 x2 x3 x4 : Int32) (H : Heap) (locs : List Loc) (ls : Array Slot), fL_boxes_L9 n M x1 x2 x3 x4 = some v → va_P G vwCl (WW 78 (shX cA ad) ad M) H → va_S (AW 78 ad) s.heap H locs → lv_has ls 10 [(0, .ref (ad 0)), (1, .int x1), (2, .int x2), (3, .int x3), (4, .int x4)] → W p l e ({ frames := 5, cells := 0, slots := 0, locals := 112 } : Room) s m args below meth c H locs 0 0 (QI below G 78 (shX cA ad) ad .boolean args s v M) (F0 m 9 ls []) := by
    intro n
    induction n with
    | zero => intro M x1 x2 x3 x4 H locs ls h; cases h
    | succ n ih =>
      intro M x1 x2 x3 x4 H locs ls h hP hS hl
      rw [fL_boxes_L9] at h
      refine lv_iload (pc := 9) hx hb dL_boxes_9 (lv_at hl 4 rfl) ?_
      refine lv_aload_n (pc := 11) hx hb dL_boxes_11 rfl (lv_at hl 0 rfl) ?_
      refine lv_iconst (pc := 12) (v := (0 : Int32)) hx hb dL_boxes_12 (by decide) ?_
      obtain ⟨y1, hy1, h⟩ := bnd_ex h
      refine x_callVi (pc := 13) (st := .int (0 : Int32) :: .ref (ad 0) :: .int x4 :: []) (As := [.int (0 : Int32)]) E hEx hl.1 hP hS (kX7_count hap  M _ _ hy1) gL_15 hdX7_count rfl (by decide) sh7 rfl ⟨Nat.le_of_ble_eq_true rfl, Nat.le_of_ble_eq_true rfl⟩ ⟨rfl, rfl⟩ dL_boxes_13 rfl (Nat.le_of_ble_eq_true rfl) (fun H locs hP hS n2 => ?_)
      refine lv_icmp_ge (pc := 16) (tgt := 146) hx hb dL_boxes_16 (by decide) (fun c3 => ?_) (fun c3 => ?_)
      · have h := (if_pos c3).symm.trans h
        refine lv_iconst (pc := 146) (v := (0 : Int32)) hx hb dL_boxes_146 (by decide) ?_
        refine lv_istore (pc := 147) (lv' := [(4, .int (0 : Int32)), (0, .ref (ad 0)), (1, .int x1), (2, .int x2), (3, .int x3)]) hx hb dL_boxes_147 hl (by decide) rfl (fun ls hl => ?_)
        refine lv_iconst (pc := 149) (v := (0 : Int32)) hx hb dL_boxes_149 (by decide) ?_
        refine lv_istore (pc := 150) (lv' := [(5, .int (0 : Int32)), (4, .int (0 : Int32)), (0, .ref (ad 0)), (1, .int x1), (2, .int x2), (3, .int x3)]) hx hb dL_boxes_150 hl (by decide) rfl (fun ls hl => ?_)
        refine lv_iconst (pc := 152) (v := (0 : Int32)) hx hb dL_boxes_152 (by decide) ?_
        refine lv_istore (pc := 153) (lv' := [(6, .int (0 : Int32)), (5, .int (0 : Int32)), (4, .int (0 : Int32)), (0, .ref (ad 0)), (1, .int x1), (2, .int x2), (3, .int x3)]) hx hb dL_boxes_153 hl (by decide) rfl (fun ls hl => ?_)
        refine lv_iconst (pc := 155) (v := (0 : Int32)) hx hb dL_boxes_155 (by decide) ?_
        refine lv_istore (pc := 156) (lv' := [(7, .int (0 : Int32)), (6, .int (0 : Int32)), (5, .int (0 : Int32)), (4, .int (0 : Int32)), (0, .ref (ad 0)), (1, .int x1), (2, .int x2), (3, .int x3)]) hx hb dL_boxes_156 hl (by decide) rfl (fun ls hl => ?_)
        exact hL158 5000 M x1 x2 x3 (0 : Int32) (0 : Int32) (0 : Int32) (0 : Int32) _ _ _ h hP hS (lv_sub hl [4, 5, 6, 7, 3, 2, 1, 0] rfl)
      · have h := (if_neg c3).symm.trans h
        refine lv_aload_n (pc := 19) hx hb dL_boxes_19 rfl (lv_at hl 0 rfl) ?_
        refine lv_iload (pc := 20) hx hb dL_boxes_20 (lv_at hl 4 rfl) ?_
        refine lv_iconst (pc := 22) (v := (0 : Int32)) hx hb dL_boxes_22 (by decide) ?_
        obtain ⟨y245, hy245, h⟩ := bnd_ex h
        refine x_callVi (pc := 23) (st := .int (0 : Int32) :: .int x4 :: .ref (ad 0) :: []) (As := [.int x4, .int (0 : Int32)]) E hEx hl.1 hP hS (kX7_box hap  M _ _ _ hy245) gL_9 hdX7_box rfl (by decide) sh7 rfl ⟨Nat.le_of_ble_eq_true rfl, Nat.le_of_ble_eq_true rfl⟩ ⟨rfl, rfl⟩ dL_boxes_23 rfl (Nat.le_of_ble_eq_true rfl) (fun H locs hP hS n246 => ?_)
        refine lv_istore (pc := 26) (lv' := [(5, .int y245), (0, .ref (ad 0)), (1, .int x1), (2, .int x2), (3, .int x3), (4, .int x4)]) hx hb dL_boxes_26 hl (by decide) rfl (fun ls hl => ?_)
        refine lv_iload (pc := 28) hx hb dL_boxes_28 (lv_at hl 5 rfl) ?_
        refine lv_if_eq (pc := 30) (tgt := 42) hx hb dL_boxes_30 (by decide) (fun c247 => ?_) (fun c247 => ?_)
        · have h := (if_pos c247).symm.trans h
          refine lv_iconst (pc := 42) (v := (1 : Int32)) hx hb dL_boxes_42 (by decide) ?_
          refine lv_goto (pc := 43) (tgt := 47) hx hb dL_boxes_43 (by decide) ?_
          refine lv_istore (pc := 47) (lv' := [(6, .int (1 : Int32)), (5, .int y245), (0, .ref (ad 0)), (1, .int x1), (2, .int x2), (3, .int x3), (4, .int x4)]) hx hb dL_boxes_47 hl (by decide) rfl (fun ls hl => ?_)
          refine lv_aload_n (pc := 49) hx hb dL_boxes_49 rfl (lv_at hl 2 rfl) ?_
          refine lv_iload (pc := 50) hx hb dL_boxes_50 (lv_at hl 6 rfl) ?_
          refine lv_iconst (pc := 52) (v := (3 : Int32)) hx hb dL_boxes_52 (by decide) ?_
          obtain ⟨y248, hy248, h⟩ := bnd_ex h
          refine x_callVi (pc := 53) (st := .int (3 : Int32) :: .int x4 :: .ref (ad 0) :: []) (As := [.int x4, .int (3 : Int32)]) E hEx hl.1 hP hS (kX7_box hap  M _ _ _ hy248) gL_9 hdX7_box rfl (by decide) sh7 rfl ⟨Nat.le_of_ble_eq_true rfl, Nat.le_of_ble_eq_true rfl⟩ ⟨rfl, rfl⟩ dL_boxes_53 rfl (Nat.le_of_ble_eq_true rfl) (fun H locs hP hS n249 => ?_)
          refine lv_iload (pc := 56) hx hb dL_boxes_56 (lv_at hl 0 rfl) ?_
          refine lv_if_eq (pc := 58) (tgt := 65) hx hb dL_boxes_58 (by decide) (fun c250 => ?_) (fun c250 => ?_)
          · exact absurd c250 (by decide)
          · refine lv_iconst (pc := 61) (v := (1 : Int32)) hx hb dL_boxes_61 (by decide) ?_
            refine lv_goto (pc := 62) (tgt := 66) hx hb dL_boxes_62 (by decide) ?_
            refine lv_icmp_ne (pc := 66) (tgt := 99) hx hb dL_boxes_66 (by decide) (fun c251 => ?_) (fun c251 => ?_)
            · have h := (if_neg c251).symm.trans h
              refine lv_iconst (pc := 99) (v := (0 : Int32)) hx hb dL_boxes_99 (by decide) ?_
              obtain rfl := som1 h
              exact x_iret E hP hS rfl dL_boxes_100
            · have h := (if_pos c251).symm.trans h
              refine lv_iload (pc := 69) hx hb dL_boxes_69 (lv_at hl 6 rfl) ?_
              refine lv_if_le (pc := 71) (tgt := 86) hx hb dL_boxes_71 (by decide) (fun c252 => ?_) (fun c252 => ?_)
              · have h := (if_pos c252).symm.trans h
                refine lv_aload_n (pc := 86) hx hb dL_boxes_86 rfl (lv_at hl 2 rfl) ?_
                refine lv_iload (pc := 87) hx hb dL_boxes_87 (lv_at hl 6 rfl) ?_
                refine lv_bipush (pc := 89) (v := (8 : Int32)) hx hb dL_boxes_89 (by decide) ?_
                obtain ⟨y253, hy253, h⟩ := bnd_ex h
                refine x_callVi (pc := 91) (st := .int (8 : Int32) :: .int x4 :: .ref (ad 0) :: []) (As := [.int x4, .int (8 : Int32)]) E hEx hl.1 hP hS (kX7_box hap  M _ _ _ hy253) gL_9 hdX7_box rfl (by decide) sh7 rfl ⟨Nat.le_of_ble_eq_true rfl, Nat.le_of_ble_eq_true rfl⟩ ⟨rfl, rfl⟩ dL_boxes_91 rfl (Nat.le_of_ble_eq_true rfl) (fun H locs hP hS n254 => ?_)
                refine lv_bipush (pc := 94) (v := (-2 : Int32)) hx hb dL_boxes_94 (by decide) ?_
                refine lv_icmp_eq (pc := 96) (tgt := 101) hx hb dL_boxes_96 (by decide) (fun c255 => ?_) (fun c255 => ?_)
                · have h := (if_pos c255).symm.trans h
                  refine lv_iload_n (pc := 101) hx hb dL_boxes_101 rfl (lv_at hl 3 rfl) ?_
                  refine lv_iload (pc := 102) hx hb dL_boxes_102 (lv_at hl 6 rfl) ?_
                  refine lv_if_le (pc := 104) (tgt := 117) hx hb dL_boxes_104 (by decide) (fun c256 => ?_) (fun c256 => ?_)
                  · have h := (if_pos c256).symm.trans h
                    refine lv_iconst (pc := 117) (v := (0 : Int32)) hx hb dL_boxes_117 (by decide) ?_
                    refine lv_iadd (pc := 118) hx hb dL_boxes_118 ?_
                    refine lv_istore_n (pc := 119) (lv' := [(1, .int (x1 + (0 : Int32))), (6, .int (1 : Int32)), (5, .int y245), (0, .ref (ad 0)), (2, .int x2), (3, .int x3), (4, .int x4)]) hx hb dL_boxes_119 rfl hl (by decide) rfl (fun ls hl => ?_)
                    refine lv_iload_n (pc := 120) hx hb dL_boxes_120 rfl (lv_at hl 4 rfl) ?_
                    refine lv_aload_n (pc := 121) hx hb dL_boxes_121 rfl (lv_at hl 3 rfl) ?_
                    refine lv_iload (pc := 122) hx hb dL_boxes_122 (lv_at hl 6 rfl) ?_
                    refine lv_iconst (pc := 124) (v := (4 : Int32)) hx hb dL_boxes_124 (by decide) ?_
                    obtain ⟨y257, hy257, h⟩ := bnd_ex h
                    refine x_callVi (pc := 125) (st := .int (4 : Int32) :: .int x4 :: .ref (ad 0) :: .int x2 :: []) (As := [.int x4, .int (4 : Int32)]) E hEx hl.1 hP hS (kX7_box hap  M _ _ _ hy257) gL_9 hdX7_box rfl (by decide) sh7 rfl ⟨Nat.le_of_ble_eq_true rfl, Nat.le_of_ble_eq_true rfl⟩ ⟨rfl, rfl⟩ dL_boxes_125 rfl (Nat.le_of_ble_eq_true rfl) (fun H locs hP hS n258 => ?_)
                    refine lv_iadd (pc := 128) hx hb dL_boxes_128 ?_
                    refine lv_istore_n (pc := 129) (lv' := [(2, .int (x2 + y257)), (1, .int (x1 + (0 : Int32))), (6, .int (1 : Int32)), (5, .int y245), (0, .ref (ad 0)), (3, .int x3), (4, .int x4)]) hx hb dL_boxes_129 rfl hl (by decide) rfl (fun ls hl => ?_)
                    refine lv_iload_n (pc := 130) hx hb dL_boxes_130 rfl (lv_at hl 5 rfl) ?_
                    refine lv_aload_n (pc := 131) hx hb dL_boxes_131 rfl (lv_at hl 4 rfl) ?_
                    refine lv_iload (pc := 132) hx hb dL_boxes_132 (lv_at hl 6 rfl) ?_
                    refine lv_iconst (pc := 134) (v := (5 : Int32)) hx hb dL_boxes_134 (by decide) ?_
                    obtain ⟨y259, hy259, h⟩ := bnd_ex h
                    refine x_callVi (pc := 135) (st := .int (5 : Int32) :: .int x4 :: .ref (ad 0) :: .int x3 :: []) (As := [.int x4, .int (5 : Int32)]) E hEx hl.1 hP hS (kX7_box hap  M _ _ _ hy259) gL_9 hdX7_box rfl (by decide) sh7 rfl ⟨Nat.le_of_ble_eq_true rfl, Nat.le_of_ble_eq_true rfl⟩ ⟨rfl, rfl⟩ dL_boxes_135 rfl (Nat.le_of_ble_eq_true rfl) (fun H locs hP hS n260 => ?_)
                    refine lv_iadd (pc := 138) hx hb dL_boxes_138 ?_
                    refine lv_istore_n (pc := 139) (lv' := [(3, .int (x3 + y259)), (2, .int (x2 + y257)), (1, .int (x1 + (0 : Int32))), (6, .int (1 : Int32)), (5, .int y245), (0, .ref (ad 0)), (4, .int x4)]) hx hb dL_boxes_139 rfl hl (by decide) rfl (fun ls hl => ?_)
                    refine lv_iinc (pc := 140) (v := (x4 + 1)) (lv' := [(4, .int (x4 + 1)), (3, .int (x3 + y259)), (2, .int (x2 + y257)), (1, .int (x1 + (0 : Int32))), (6, .int (1 : Int32)), (5, .int y245), (0, .ref (ad 0))]) hx hb dL_boxes_140 hl (k := 6) rfl rfl (by decide) rfl (fun ls hl => ?_)
                    refine lv_goto (pc := 143) (tgt := 9) hx hb dL_boxes_143 (by decide) ?_
                    exact ih M (x1 + (0 : Int32)) (x2 + y257) (x3 + y259) (x4 + 1) _ _ _ h hP hS (lv_sub hl [6, 3, 2, 1, 0] rfl)
                  · have h := (if_neg c256).symm.trans h
                    refine lv_aload_n (pc := 107) hx hb dL_boxes_107 rfl (lv_at hl 2 rfl) ?_
                    refine lv_iload (pc := 108) hx hb dL_boxes_108 (lv_at hl 6 rfl) ?_
                    refine lv_iconst (pc := 110) (v := (2 : Int32)) hx hb dL_boxes_110 (by decide) ?_
                    obtain ⟨y261, hy261, h⟩ := bnd_ex h
                    refine x_callVi (pc := 111) (st := .int (2 : Int32) :: .int x4 :: .ref (ad 0) :: .int x1 :: []) (As := [.int x4, .int (2 : Int32)]) E hEx hl.1 hP hS (kX7_box hap  M _ _ _ hy261) gL_9 hdX7_box rfl (by decide) sh7 rfl ⟨Nat.le_of_ble_eq_true rfl, Nat.le_of_ble_eq_true rfl⟩ ⟨rfl, rfl⟩ dL_boxes_111 rfl (Nat.le_of_ble_eq_true rfl) (fun H locs hP hS n262 => ?_)
                    refine lv_goto (pc := 114) (tgt := 118) hx hb dL_boxes_114 (by decide) ?_
                    refine lv_iadd (pc := 118) hx hb dL_boxes_118 ?_
                    refine lv_istore_n (pc := 119) (lv' := [(1, .int (x1 + y261)), (6, .int (1 : Int32)), (5, .int y245), (0, .ref (ad 0)), (2, .int x2), (3, .int x3), (4, .int x4)]) hx hb dL_boxes_119 rfl hl (by decide) rfl (fun ls hl => ?_)
                    refine lv_iload_n (pc := 120) hx hb dL_boxes_120 rfl (lv_at hl 4 rfl) ?_
                    refine lv_aload_n (pc := 121) hx hb dL_boxes_121 rfl (lv_at hl 3 rfl) ?_
                    refine lv_iload (pc := 122) hx hb dL_boxes_122 (lv_at hl 6 rfl) ?_
                    refine lv_iconst (pc := 124) (v := (4 : Int32)) hx hb dL_boxes_124 (by decide) ?_
                    obtain ⟨y263, hy263, h⟩ := bnd_ex h
                    refine x_callVi (pc := 125) (st := .int (4 : Int32) :: .int x4 :: .ref (ad 0) :: .int x2 :: []) (As := [.int x4, .int (4 : Int32)]) E hEx hl.1 hP hS (kX7_box hap  M _ _ _ hy263) gL_9 hdX7_box rfl (by decide) sh7 rfl ⟨Nat.le_of_ble_eq_true rfl, Nat.le_of_ble_eq_true rfl⟩ ⟨rfl, rfl⟩ dL_boxes_125 rfl (Nat.le_of_ble_eq_true rfl) (fun H locs hP hS n264 => ?_)
                    refine lv_iadd (pc := 128) hx hb dL_boxes_128 ?_
                    refine lv_istore_n (pc := 129) (lv' := [(2, .int (x2 + y263)), (1, .int (x1 + y261)), (6, .int (1 : Int32)), (5, .int y245), (0, .ref (ad 0)), (3, .int x3), (4, .int x4)]) hx hb dL_boxes_129 rfl hl (by decide) rfl (fun ls hl => ?_)
                    refine lv_iload_n (pc := 130) hx hb dL_boxes_130 rfl (lv_at hl 5 rfl) ?_
                    refine lv_aload_n (pc := 131) hx hb dL_boxes_131 rfl (lv_at hl 4 rfl) ?_
                    refine lv_iload (pc := 132) hx hb dL_boxes_132 (lv_at hl 6 rfl) ?_
                    refine lv_iconst (pc := 134) (v := (5 : Int32)) hx hb dL_boxes_134 (by decide) ?_
                    obtain ⟨y265, hy265, h⟩ := bnd_ex h
                    refine x_callVi (pc := 135) (st := .int (5 : Int32) :: .int x4 :: .ref (ad 0) :: .int x3 :: []) (As := [.int x4, .int (5 : Int32)]) E hEx hl.1 hP hS (kX7_box hap  M _ _ _ hy265) gL_9 hdX7_box rfl (by decide) sh7 rfl ⟨Nat.le_of_ble_eq_true rfl, Nat.le_of_ble_eq_true rfl⟩ ⟨rfl, rfl⟩ dL_boxes_135 rfl (Nat.le_of_ble_eq_true rfl) (fun H locs hP hS n266 => ?_)
                    refine lv_iadd (pc := 138) hx hb dL_boxes_138 ?_
                    refine lv_istore_n (pc := 139) (lv' := [(3, .int (x3 + y265)), (2, .int (x2 + y263)), (1, .int (x1 + y261)), (6, .int (1 : Int32)), (5, .int y245), (0, .ref (ad 0)), (4, .int x4)]) hx hb dL_boxes_139 rfl hl (by decide) rfl (fun ls hl => ?_)
                    refine lv_iinc (pc := 140) (v := (x4 + 1)) (lv' := [(4, .int (x4 + 1)), (3, .int (x3 + y265)), (2, .int (x2 + y263)), (1, .int (x1 + y261)), (6, .int (1 : Int32)), (5, .int y245), (0, .ref (ad 0))]) hx hb dL_boxes_140 hl (k := 6) rfl rfl (by decide) rfl (fun ls hl => ?_)
                    refine lv_goto (pc := 143) (tgt := 9) hx hb dL_boxes_143 (by decide) ?_
                    exact ih M (x1 + y261) (x2 + y263) (x3 + y265) (x4 + 1) _ _ _ h hP hS (lv_sub hl [6, 3, 2, 1, 0] rfl)
                · have h := (if_neg c255).symm.trans h
                  refine lv_iconst (pc := 99) (v := (0 : Int32)) hx hb dL_boxes_99 (by decide) ?_
                  obtain rfl := som1 h
                  exact x_iret E hP hS rfl dL_boxes_100
              · have h := (if_neg c252).symm.trans h
                refine lv_iload (pc := 74) hx hb dL_boxes_74 (lv_at hl 1 rfl) ?_
                refine lv_if_lt (pc := 76) (tgt := 99) hx hb dL_boxes_76 (by decide) (fun c267 => ?_) (fun c267 => ?_)
                · have h := (if_pos c267).symm.trans h
                  refine lv_iconst (pc := 99) (v := (0 : Int32)) hx hb dL_boxes_99 (by decide) ?_
                  obtain rfl := som1 h
                  exact x_iret E hP hS rfl dL_boxes_100
                · have h := (if_neg c267).symm.trans h
                  refine lv_iload (pc := 79) hx hb dL_boxes_79 (lv_at hl 1 rfl) ?_
                  refine lv_iload (pc := 81) hx hb dL_boxes_81 (lv_at hl 6 rfl) ?_
                  refine lv_icmp_ge (pc := 83) (tgt := 99) hx hb dL_boxes_83 (by decide) (fun c268 => ?_) (fun c268 => ?_)
                  · have h := (if_pos c268).symm.trans h
                    refine lv_iconst (pc := 99) (v := (0 : Int32)) hx hb dL_boxes_99 (by decide) ?_
                    obtain rfl := som1 h
                    exact x_iret E hP hS rfl dL_boxes_100
                  · have h := (if_neg c268).symm.trans h
                    refine lv_aload_n (pc := 86) hx hb dL_boxes_86 rfl (lv_at hl 2 rfl) ?_
                    refine lv_iload (pc := 87) hx hb dL_boxes_87 (lv_at hl 6 rfl) ?_
                    refine lv_bipush (pc := 89) (v := (8 : Int32)) hx hb dL_boxes_89 (by decide) ?_
                    obtain ⟨y269, hy269, h⟩ := bnd_ex h
                    refine x_callVi (pc := 91) (st := .int (8 : Int32) :: .int x4 :: .ref (ad 0) :: []) (As := [.int x4, .int (8 : Int32)]) E hEx hl.1 hP hS (kX7_box hap  M _ _ _ hy269) gL_9 hdX7_box rfl (by decide) sh7 rfl ⟨Nat.le_of_ble_eq_true rfl, Nat.le_of_ble_eq_true rfl⟩ ⟨rfl, rfl⟩ dL_boxes_91 rfl (Nat.le_of_ble_eq_true rfl) (fun H locs hP hS n270 => ?_)
                    refine lv_bipush (pc := 94) (v := (-2 : Int32)) hx hb dL_boxes_94 (by decide) ?_
                    refine lv_icmp_eq (pc := 96) (tgt := 101) hx hb dL_boxes_96 (by decide) (fun c271 => ?_) (fun c271 => ?_)
                    · have h := (if_pos c271).symm.trans h
                      refine lv_iload_n (pc := 101) hx hb dL_boxes_101 rfl (lv_at hl 3 rfl) ?_
                      refine lv_iload (pc := 102) hx hb dL_boxes_102 (lv_at hl 6 rfl) ?_
                      refine lv_if_le (pc := 104) (tgt := 117) hx hb dL_boxes_104 (by decide) (fun c272 => ?_) (fun c272 => ?_)
                      · have h := (if_pos c272).symm.trans h
                        refine lv_iconst (pc := 117) (v := (0 : Int32)) hx hb dL_boxes_117 (by decide) ?_
                        refine lv_iadd (pc := 118) hx hb dL_boxes_118 ?_
                        refine lv_istore_n (pc := 119) (lv' := [(1, .int (x1 + (0 : Int32))), (6, .int (1 : Int32)), (5, .int y245), (0, .ref (ad 0)), (2, .int x2), (3, .int x3), (4, .int x4)]) hx hb dL_boxes_119 rfl hl (by decide) rfl (fun ls hl => ?_)
                        refine lv_iload_n (pc := 120) hx hb dL_boxes_120 rfl (lv_at hl 4 rfl) ?_
                        refine lv_aload_n (pc := 121) hx hb dL_boxes_121 rfl (lv_at hl 3 rfl) ?_
                        refine lv_iload (pc := 122) hx hb dL_boxes_122 (lv_at hl 6 rfl) ?_
                        refine lv_iconst (pc := 124) (v := (4 : Int32)) hx hb dL_boxes_124 (by decide) ?_
                        obtain ⟨y273, hy273, h⟩ := bnd_ex h
                        refine x_callVi (pc := 125) (st := .int (4 : Int32) :: .int x4 :: .ref (ad 0) :: .int x2 :: []) (As := [.int x4, .int (4 : Int32)]) E hEx hl.1 hP hS (kX7_box hap  M _ _ _ hy273) gL_9 hdX7_box rfl (by decide) sh7 rfl ⟨Nat.le_of_ble_eq_true rfl, Nat.le_of_ble_eq_true rfl⟩ ⟨rfl, rfl⟩ dL_boxes_125 rfl (Nat.le_of_ble_eq_true rfl) (fun H locs hP hS n274 => ?_)
                        refine lv_iadd (pc := 128) hx hb dL_boxes_128 ?_
                        refine lv_istore_n (pc := 129) (lv' := [(2, .int (x2 + y273)), (1, .int (x1 + (0 : Int32))), (6, .int (1 : Int32)), (5, .int y245), (0, .ref (ad 0)), (3, .int x3), (4, .int x4)]) hx hb dL_boxes_129 rfl hl (by decide) rfl (fun ls hl => ?_)
                        refine lv_iload_n (pc := 130) hx hb dL_boxes_130 rfl (lv_at hl 5 rfl) ?_
                        refine lv_aload_n (pc := 131) hx hb dL_boxes_131 rfl (lv_at hl 4 rfl) ?_
                        refine lv_iload (pc := 132) hx hb dL_boxes_132 (lv_at hl 6 rfl) ?_
                        refine lv_iconst (pc := 134) (v := (5 : Int32)) hx hb dL_boxes_134 (by decide) ?_
                        obtain ⟨y275, hy275, h⟩ := bnd_ex h
                        refine x_callVi (pc := 135) (st := .int (5 : Int32) :: .int x4 :: .ref (ad 0) :: .int x3 :: []) (As := [.int x4, .int (5 : Int32)]) E hEx hl.1 hP hS (kX7_box hap  M _ _ _ hy275) gL_9 hdX7_box rfl (by decide) sh7 rfl ⟨Nat.le_of_ble_eq_true rfl, Nat.le_of_ble_eq_true rfl⟩ ⟨rfl, rfl⟩ dL_boxes_135 rfl (Nat.le_of_ble_eq_true rfl) (fun H locs hP hS n276 => ?_)
                        refine lv_iadd (pc := 138) hx hb dL_boxes_138 ?_
                        refine lv_istore_n (pc := 139) (lv' := [(3, .int (x3 + y275)), (2, .int (x2 + y273)), (1, .int (x1 + (0 : Int32))), (6, .int (1 : Int32)), (5, .int y245), (0, .ref (ad 0)), (4, .int x4)]) hx hb dL_boxes_139 rfl hl (by decide) rfl (fun ls hl => ?_)
                        refine lv_iinc (pc := 140) (v := (x4 + 1)) (lv' := [(4, .int (x4 + 1)), (3, .int (x3 + y275)), (2, .int (x2 + y273)), (1, .int (x1 + (0 : Int32))), (6, .int (1 : Int32)), (5, .int y245), (0, .ref (ad 0))]) hx hb dL_boxes_140 hl (k := 6) rfl rfl (by decide) rfl (fun ls hl => ?_)
                        refine lv_goto (pc := 143) (tgt := 9) hx hb dL_boxes_143 (by decide) ?_
                        exact ih M (x1 + (0 : Int32)) (x2 + y273) (x3 + y275) (x4 + 1) _ _ _ h hP hS (lv_sub hl [6, 3, 2, 1, 0] rfl)
                      · have h := (if_neg c272).symm.trans h
                        refine lv_aload_n (pc := 107) hx hb dL_boxes_107 rfl (lv_at hl 2 rfl) ?_
                        refine lv_iload (pc := 108) hx hb dL_boxes_108 (lv_at hl 6 rfl) ?_
                        refine lv_iconst (pc := 110) (v := (2 : Int32)) hx hb dL_boxes_110 (by decide) ?_
                        obtain ⟨y277, hy277, h⟩ := bnd_ex h
                        refine x_callVi (pc := 111) (st := .int (2 : Int32) :: .int x4 :: .ref (ad 0) :: .int x1 :: []) (As := [.int x4, .int (2 : Int32)]) E hEx hl.1 hP hS (kX7_box hap  M _ _ _ hy277) gL_9 hdX7_box rfl (by decide) sh7 rfl ⟨Nat.le_of_ble_eq_true rfl, Nat.le_of_ble_eq_true rfl⟩ ⟨rfl, rfl⟩ dL_boxes_111 rfl (Nat.le_of_ble_eq_true rfl) (fun H locs hP hS n278 => ?_)
                        refine lv_goto (pc := 114) (tgt := 118) hx hb dL_boxes_114 (by decide) ?_
                        refine lv_iadd (pc := 118) hx hb dL_boxes_118 ?_
                        refine lv_istore_n (pc := 119) (lv' := [(1, .int (x1 + y277)), (6, .int (1 : Int32)), (5, .int y245), (0, .ref (ad 0)), (2, .int x2), (3, .int x3), (4, .int x4)]) hx hb dL_boxes_119 rfl hl (by decide) rfl (fun ls hl => ?_)
                        refine lv_iload_n (pc := 120) hx hb dL_boxes_120 rfl (lv_at hl 4 rfl) ?_
                        refine lv_aload_n (pc := 121) hx hb dL_boxes_121 rfl (lv_at hl 3 rfl) ?_
                        refine lv_iload (pc := 122) hx hb dL_boxes_122 (lv_at hl 6 rfl) ?_
                        refine lv_iconst (pc := 124) (v := (4 : Int32)) hx hb dL_boxes_124 (by decide) ?_
                        obtain ⟨y279, hy279, h⟩ := bnd_ex h
                        refine x_callVi (pc := 125) (st := .int (4 : Int32) :: .int x4 :: .ref (ad 0) :: .int x2 :: []) (As := [.int x4, .int (4 : Int32)]) E hEx hl.1 hP hS (kX7_box hap  M _ _ _ hy279) gL_9 hdX7_box rfl (by decide) sh7 rfl ⟨Nat.le_of_ble_eq_true rfl, Nat.le_of_ble_eq_true rfl⟩ ⟨rfl, rfl⟩ dL_boxes_125 rfl (Nat.le_of_ble_eq_true rfl) (fun H locs hP hS n280 => ?_)
                        refine lv_iadd (pc := 128) hx hb dL_boxes_128 ?_
                        refine lv_istore_n (pc := 129) (lv' := [(2, .int (x2 + y279)), (1, .int (x1 + y277)), (6, .int (1 : Int32)), (5, .int y245), (0, .ref (ad 0)), (3, .int x3), (4, .int x4)]) hx hb dL_boxes_129 rfl hl (by decide) rfl (fun ls hl => ?_)
                        refine lv_iload_n (pc := 130) hx hb dL_boxes_130 rfl (lv_at hl 5 rfl) ?_
                        refine lv_aload_n (pc := 131) hx hb dL_boxes_131 rfl (lv_at hl 4 rfl) ?_
                        refine lv_iload (pc := 132) hx hb dL_boxes_132 (lv_at hl 6 rfl) ?_
                        refine lv_iconst (pc := 134) (v := (5 : Int32)) hx hb dL_boxes_134 (by decide) ?_
                        obtain ⟨y281, hy281, h⟩ := bnd_ex h
                        refine x_callVi (pc := 135) (st := .int (5 : Int32) :: .int x4 :: .ref (ad 0) :: .int x3 :: []) (As := [.int x4, .int (5 : Int32)]) E hEx hl.1 hP hS (kX7_box hap  M _ _ _ hy281) gL_9 hdX7_box rfl (by decide) sh7 rfl ⟨Nat.le_of_ble_eq_true rfl, Nat.le_of_ble_eq_true rfl⟩ ⟨rfl, rfl⟩ dL_boxes_135 rfl (Nat.le_of_ble_eq_true rfl) (fun H locs hP hS n282 => ?_)
                        refine lv_iadd (pc := 138) hx hb dL_boxes_138 ?_
                        refine lv_istore_n (pc := 139) (lv' := [(3, .int (x3 + y281)), (2, .int (x2 + y279)), (1, .int (x1 + y277)), (6, .int (1 : Int32)), (5, .int y245), (0, .ref (ad 0)), (4, .int x4)]) hx hb dL_boxes_139 rfl hl (by decide) rfl (fun ls hl => ?_)
                        refine lv_iinc (pc := 140) (v := (x4 + 1)) (lv' := [(4, .int (x4 + 1)), (3, .int (x3 + y281)), (2, .int (x2 + y279)), (1, .int (x1 + y277)), (6, .int (1 : Int32)), (5, .int y245), (0, .ref (ad 0))]) hx hb dL_boxes_140 hl (k := 6) rfl rfl (by decide) rfl (fun ls hl => ?_)
                        refine lv_goto (pc := 143) (tgt := 9) hx hb dL_boxes_143 (by decide) ?_
                        exact ih M (x1 + y277) (x2 + y279) (x3 + y281) (x4 + 1) _ _ _ h hP hS (lv_sub hl [6, 3, 2, 1, 0] rfl)
                    · have h := (if_neg c271).symm.trans h
                      refine lv_iconst (pc := 99) (v := (0 : Int32)) hx hb dL_boxes_99 (by decide) ?_
                      obtain rfl := som1 h
                      exact x_iret E hP hS rfl dL_boxes_100
        · have h := (if_neg c247).symm.trans h
          refine lv_aload_n (pc := 33) hx hb dL_boxes_33 rfl (lv_at hl 1 rfl) ?_
          refine lv_iload (pc := 34) hx hb dL_boxes_34 (lv_at hl 0 rfl) ?_
          obtain ⟨y283, hy283, h⟩ := bnd_ex h
          refine x_callSi (pc := 36) (st := .int y245 :: .ref (ad 0) :: []) (As := [.ref (ad 0), .int y245]) E hEx hl.1 hP hS (kL_allOpen hap  M _ _ hy283) gL_19 hsL_allOpen rfl ⟨Nat.le_of_ble_eq_true rfl, Nat.le_of_ble_eq_true rfl⟩ ⟨rfl, rfl⟩ dL_boxes_36 rfl (Nat.le_of_ble_eq_true rfl) (fun H locs hP hS n284 => ?_)
          refine lv_if_eq (pc := 39) (tgt := 46) hx hb dL_boxes_39 (by decide) (fun c285 => ?_) (fun c285 => ?_)
          · have h := (if_pos c285).symm.trans h
            refine lv_iconst (pc := 46) (v := (0 : Int32)) hx hb dL_boxes_46 (by decide) ?_
            refine lv_istore (pc := 47) (lv' := [(6, .int (0 : Int32)), (5, .int y245), (0, .ref (ad 0)), (1, .int x1), (2, .int x2), (3, .int x3), (4, .int x4)]) hx hb dL_boxes_47 hl (by decide) rfl (fun ls hl => ?_)
            refine lv_aload_n (pc := 49) hx hb dL_boxes_49 rfl (lv_at hl 2 rfl) ?_
            refine lv_iload (pc := 50) hx hb dL_boxes_50 (lv_at hl 6 rfl) ?_
            refine lv_iconst (pc := 52) (v := (3 : Int32)) hx hb dL_boxes_52 (by decide) ?_
            obtain ⟨y286, hy286, h⟩ := bnd_ex h
            refine x_callVi (pc := 53) (st := .int (3 : Int32) :: .int x4 :: .ref (ad 0) :: []) (As := [.int x4, .int (3 : Int32)]) E hEx hl.1 hP hS (kX7_box hap  M _ _ _ hy286) gL_9 hdX7_box rfl (by decide) sh7 rfl ⟨Nat.le_of_ble_eq_true rfl, Nat.le_of_ble_eq_true rfl⟩ ⟨rfl, rfl⟩ dL_boxes_53 rfl (Nat.le_of_ble_eq_true rfl) (fun H locs hP hS n287 => ?_)
            refine lv_iload (pc := 56) hx hb dL_boxes_56 (lv_at hl 0 rfl) ?_
            refine lv_if_eq (pc := 58) (tgt := 65) hx hb dL_boxes_58 (by decide) (fun c288 => ?_) (fun c288 => ?_)
            · refine lv_iconst (pc := 65) (v := (0 : Int32)) hx hb dL_boxes_65 (by decide) ?_
              refine lv_icmp_ne (pc := 66) (tgt := 99) hx hb dL_boxes_66 (by decide) (fun c289 => ?_) (fun c289 => ?_)
              · have h := (if_neg c289).symm.trans h
                refine lv_iconst (pc := 99) (v := (0 : Int32)) hx hb dL_boxes_99 (by decide) ?_
                obtain rfl := som1 h
                exact x_iret E hP hS rfl dL_boxes_100
              · have h := (if_pos c289).symm.trans h
                refine lv_iload (pc := 69) hx hb dL_boxes_69 (lv_at hl 6 rfl) ?_
                refine lv_if_le (pc := 71) (tgt := 86) hx hb dL_boxes_71 (by decide) (fun c290 => ?_) (fun c290 => ?_)
                · have h := (if_pos c290).symm.trans h
                  refine lv_aload_n (pc := 86) hx hb dL_boxes_86 rfl (lv_at hl 2 rfl) ?_
                  refine lv_iload (pc := 87) hx hb dL_boxes_87 (lv_at hl 6 rfl) ?_
                  refine lv_bipush (pc := 89) (v := (8 : Int32)) hx hb dL_boxes_89 (by decide) ?_
                  obtain ⟨y291, hy291, h⟩ := bnd_ex h
                  refine x_callVi (pc := 91) (st := .int (8 : Int32) :: .int x4 :: .ref (ad 0) :: []) (As := [.int x4, .int (8 : Int32)]) E hEx hl.1 hP hS (kX7_box hap  M _ _ _ hy291) gL_9 hdX7_box rfl (by decide) sh7 rfl ⟨Nat.le_of_ble_eq_true rfl, Nat.le_of_ble_eq_true rfl⟩ ⟨rfl, rfl⟩ dL_boxes_91 rfl (Nat.le_of_ble_eq_true rfl) (fun H locs hP hS n292 => ?_)
                  refine lv_bipush (pc := 94) (v := (-2 : Int32)) hx hb dL_boxes_94 (by decide) ?_
                  refine lv_icmp_eq (pc := 96) (tgt := 101) hx hb dL_boxes_96 (by decide) (fun c293 => ?_) (fun c293 => ?_)
                  · have h := (if_pos c293).symm.trans h
                    refine lv_iload_n (pc := 101) hx hb dL_boxes_101 rfl (lv_at hl 3 rfl) ?_
                    refine lv_iload (pc := 102) hx hb dL_boxes_102 (lv_at hl 6 rfl) ?_
                    refine lv_if_le (pc := 104) (tgt := 117) hx hb dL_boxes_104 (by decide) (fun c294 => ?_) (fun c294 => ?_)
                    · have h := (if_pos c294).symm.trans h
                      refine lv_iconst (pc := 117) (v := (0 : Int32)) hx hb dL_boxes_117 (by decide) ?_
                      refine lv_iadd (pc := 118) hx hb dL_boxes_118 ?_
                      refine lv_istore_n (pc := 119) (lv' := [(1, .int (x1 + (0 : Int32))), (6, .int (0 : Int32)), (5, .int y245), (0, .ref (ad 0)), (2, .int x2), (3, .int x3), (4, .int x4)]) hx hb dL_boxes_119 rfl hl (by decide) rfl (fun ls hl => ?_)
                      refine lv_iload_n (pc := 120) hx hb dL_boxes_120 rfl (lv_at hl 4 rfl) ?_
                      refine lv_aload_n (pc := 121) hx hb dL_boxes_121 rfl (lv_at hl 3 rfl) ?_
                      refine lv_iload (pc := 122) hx hb dL_boxes_122 (lv_at hl 6 rfl) ?_
                      refine lv_iconst (pc := 124) (v := (4 : Int32)) hx hb dL_boxes_124 (by decide) ?_
                      obtain ⟨y295, hy295, h⟩ := bnd_ex h
                      refine x_callVi (pc := 125) (st := .int (4 : Int32) :: .int x4 :: .ref (ad 0) :: .int x2 :: []) (As := [.int x4, .int (4 : Int32)]) E hEx hl.1 hP hS (kX7_box hap  M _ _ _ hy295) gL_9 hdX7_box rfl (by decide) sh7 rfl ⟨Nat.le_of_ble_eq_true rfl, Nat.le_of_ble_eq_true rfl⟩ ⟨rfl, rfl⟩ dL_boxes_125 rfl (Nat.le_of_ble_eq_true rfl) (fun H locs hP hS n296 => ?_)
                      refine lv_iadd (pc := 128) hx hb dL_boxes_128 ?_
                      refine lv_istore_n (pc := 129) (lv' := [(2, .int (x2 + y295)), (1, .int (x1 + (0 : Int32))), (6, .int (0 : Int32)), (5, .int y245), (0, .ref (ad 0)), (3, .int x3), (4, .int x4)]) hx hb dL_boxes_129 rfl hl (by decide) rfl (fun ls hl => ?_)
                      refine lv_iload_n (pc := 130) hx hb dL_boxes_130 rfl (lv_at hl 5 rfl) ?_
                      refine lv_aload_n (pc := 131) hx hb dL_boxes_131 rfl (lv_at hl 4 rfl) ?_
                      refine lv_iload (pc := 132) hx hb dL_boxes_132 (lv_at hl 6 rfl) ?_
                      refine lv_iconst (pc := 134) (v := (5 : Int32)) hx hb dL_boxes_134 (by decide) ?_
                      obtain ⟨y297, hy297, h⟩ := bnd_ex h
                      refine x_callVi (pc := 135) (st := .int (5 : Int32) :: .int x4 :: .ref (ad 0) :: .int x3 :: []) (As := [.int x4, .int (5 : Int32)]) E hEx hl.1 hP hS (kX7_box hap  M _ _ _ hy297) gL_9 hdX7_box rfl (by decide) sh7 rfl ⟨Nat.le_of_ble_eq_true rfl, Nat.le_of_ble_eq_true rfl⟩ ⟨rfl, rfl⟩ dL_boxes_135 rfl (Nat.le_of_ble_eq_true rfl) (fun H locs hP hS n298 => ?_)
                      refine lv_iadd (pc := 138) hx hb dL_boxes_138 ?_
                      refine lv_istore_n (pc := 139) (lv' := [(3, .int (x3 + y297)), (2, .int (x2 + y295)), (1, .int (x1 + (0 : Int32))), (6, .int (0 : Int32)), (5, .int y245), (0, .ref (ad 0)), (4, .int x4)]) hx hb dL_boxes_139 rfl hl (by decide) rfl (fun ls hl => ?_)
                      refine lv_iinc (pc := 140) (v := (x4 + 1)) (lv' := [(4, .int (x4 + 1)), (3, .int (x3 + y297)), (2, .int (x2 + y295)), (1, .int (x1 + (0 : Int32))), (6, .int (0 : Int32)), (5, .int y245), (0, .ref (ad 0))]) hx hb dL_boxes_140 hl (k := 6) rfl rfl (by decide) rfl (fun ls hl => ?_)
                      refine lv_goto (pc := 143) (tgt := 9) hx hb dL_boxes_143 (by decide) ?_
                      exact ih M (x1 + (0 : Int32)) (x2 + y295) (x3 + y297) (x4 + 1) _ _ _ h hP hS (lv_sub hl [6, 3, 2, 1, 0] rfl)
                    · have h := (if_neg c294).symm.trans h
                      refine lv_aload_n (pc := 107) hx hb dL_boxes_107 rfl (lv_at hl 2 rfl) ?_
                      refine lv_iload (pc := 108) hx hb dL_boxes_108 (lv_at hl 6 rfl) ?_
                      refine lv_iconst (pc := 110) (v := (2 : Int32)) hx hb dL_boxes_110 (by decide) ?_
                      obtain ⟨y299, hy299, h⟩ := bnd_ex h
                      refine x_callVi (pc := 111) (st := .int (2 : Int32) :: .int x4 :: .ref (ad 0) :: .int x1 :: []) (As := [.int x4, .int (2 : Int32)]) E hEx hl.1 hP hS (kX7_box hap  M _ _ _ hy299) gL_9 hdX7_box rfl (by decide) sh7 rfl ⟨Nat.le_of_ble_eq_true rfl, Nat.le_of_ble_eq_true rfl⟩ ⟨rfl, rfl⟩ dL_boxes_111 rfl (Nat.le_of_ble_eq_true rfl) (fun H locs hP hS n300 => ?_)
                      refine lv_goto (pc := 114) (tgt := 118) hx hb dL_boxes_114 (by decide) ?_
                      refine lv_iadd (pc := 118) hx hb dL_boxes_118 ?_
                      refine lv_istore_n (pc := 119) (lv' := [(1, .int (x1 + y299)), (6, .int (0 : Int32)), (5, .int y245), (0, .ref (ad 0)), (2, .int x2), (3, .int x3), (4, .int x4)]) hx hb dL_boxes_119 rfl hl (by decide) rfl (fun ls hl => ?_)
                      refine lv_iload_n (pc := 120) hx hb dL_boxes_120 rfl (lv_at hl 4 rfl) ?_
                      refine lv_aload_n (pc := 121) hx hb dL_boxes_121 rfl (lv_at hl 3 rfl) ?_
                      refine lv_iload (pc := 122) hx hb dL_boxes_122 (lv_at hl 6 rfl) ?_
                      refine lv_iconst (pc := 124) (v := (4 : Int32)) hx hb dL_boxes_124 (by decide) ?_
                      obtain ⟨y301, hy301, h⟩ := bnd_ex h
                      refine x_callVi (pc := 125) (st := .int (4 : Int32) :: .int x4 :: .ref (ad 0) :: .int x2 :: []) (As := [.int x4, .int (4 : Int32)]) E hEx hl.1 hP hS (kX7_box hap  M _ _ _ hy301) gL_9 hdX7_box rfl (by decide) sh7 rfl ⟨Nat.le_of_ble_eq_true rfl, Nat.le_of_ble_eq_true rfl⟩ ⟨rfl, rfl⟩ dL_boxes_125 rfl (Nat.le_of_ble_eq_true rfl) (fun H locs hP hS n302 => ?_)
                      refine lv_iadd (pc := 128) hx hb dL_boxes_128 ?_
                      refine lv_istore_n (pc := 129) (lv' := [(2, .int (x2 + y301)), (1, .int (x1 + y299)), (6, .int (0 : Int32)), (5, .int y245), (0, .ref (ad 0)), (3, .int x3), (4, .int x4)]) hx hb dL_boxes_129 rfl hl (by decide) rfl (fun ls hl => ?_)
                      refine lv_iload_n (pc := 130) hx hb dL_boxes_130 rfl (lv_at hl 5 rfl) ?_
                      refine lv_aload_n (pc := 131) hx hb dL_boxes_131 rfl (lv_at hl 4 rfl) ?_
                      refine lv_iload (pc := 132) hx hb dL_boxes_132 (lv_at hl 6 rfl) ?_
                      refine lv_iconst (pc := 134) (v := (5 : Int32)) hx hb dL_boxes_134 (by decide) ?_
                      obtain ⟨y303, hy303, h⟩ := bnd_ex h
                      refine x_callVi (pc := 135) (st := .int (5 : Int32) :: .int x4 :: .ref (ad 0) :: .int x3 :: []) (As := [.int x4, .int (5 : Int32)]) E hEx hl.1 hP hS (kX7_box hap  M _ _ _ hy303) gL_9 hdX7_box rfl (by decide) sh7 rfl ⟨Nat.le_of_ble_eq_true rfl, Nat.le_of_ble_eq_true rfl⟩ ⟨rfl, rfl⟩ dL_boxes_135 rfl (Nat.le_of_ble_eq_true rfl) (fun H locs hP hS n304 => ?_)
                      refine lv_iadd (pc := 138) hx hb dL_boxes_138 ?_
                      refine lv_istore_n (pc := 139) (lv' := [(3, .int (x3 + y303)), (2, .int (x2 + y301)), (1, .int (x1 + y299)), (6, .int (0 : Int32)), (5, .int y245), (0, .ref (ad 0)), (4, .int x4)]) hx hb dL_boxes_139 rfl hl (by decide) rfl (fun ls hl => ?_)
                      refine lv_iinc (pc := 140) (v := (x4 + 1)) (lv' := [(4, .int (x4 + 1)), (3, .int (x3 + y303)), (2, .int (x2 + y301)), (1, .int (x1 + y299)), (6, .int (0 : Int32)), (5, .int y245), (0, .ref (ad 0))]) hx hb dL_boxes_140 hl (k := 6) rfl rfl (by decide) rfl (fun ls hl => ?_)
                      refine lv_goto (pc := 143) (tgt := 9) hx hb dL_boxes_143 (by decide) ?_
                      exact ih M (x1 + y299) (x2 + y301) (x3 + y303) (x4 + 1) _ _ _ h hP hS (lv_sub hl [6, 3, 2, 1, 0] rfl)
                  · have h := (if_neg c293).symm.trans h
                    refine lv_iconst (pc := 99) (v := (0 : Int32)) hx hb dL_boxes_99 (by decide) ?_
                    obtain rfl := som1 h
                    exact x_iret E hP hS rfl dL_boxes_100
                · have h := (if_neg c290).symm.trans h
                  refine lv_iload (pc := 74) hx hb dL_boxes_74 (lv_at hl 1 rfl) ?_
                  refine lv_if_lt (pc := 76) (tgt := 99) hx hb dL_boxes_76 (by decide) (fun c305 => ?_) (fun c305 => ?_)
                  · have h := (if_pos c305).symm.trans h
                    refine lv_iconst (pc := 99) (v := (0 : Int32)) hx hb dL_boxes_99 (by decide) ?_
                    obtain rfl := som1 h
                    exact x_iret E hP hS rfl dL_boxes_100
                  · have h := (if_neg c305).symm.trans h
                    refine lv_iload (pc := 79) hx hb dL_boxes_79 (lv_at hl 1 rfl) ?_
                    refine lv_iload (pc := 81) hx hb dL_boxes_81 (lv_at hl 6 rfl) ?_
                    refine lv_icmp_ge (pc := 83) (tgt := 99) hx hb dL_boxes_83 (by decide) (fun c306 => ?_) (fun c306 => ?_)
                    · have h := (if_pos c306).symm.trans h
                      refine lv_iconst (pc := 99) (v := (0 : Int32)) hx hb dL_boxes_99 (by decide) ?_
                      obtain rfl := som1 h
                      exact x_iret E hP hS rfl dL_boxes_100
                    · have h := (if_neg c306).symm.trans h
                      refine lv_aload_n (pc := 86) hx hb dL_boxes_86 rfl (lv_at hl 2 rfl) ?_
                      refine lv_iload (pc := 87) hx hb dL_boxes_87 (lv_at hl 6 rfl) ?_
                      refine lv_bipush (pc := 89) (v := (8 : Int32)) hx hb dL_boxes_89 (by decide) ?_
                      obtain ⟨y307, hy307, h⟩ := bnd_ex h
                      refine x_callVi (pc := 91) (st := .int (8 : Int32) :: .int x4 :: .ref (ad 0) :: []) (As := [.int x4, .int (8 : Int32)]) E hEx hl.1 hP hS (kX7_box hap  M _ _ _ hy307) gL_9 hdX7_box rfl (by decide) sh7 rfl ⟨Nat.le_of_ble_eq_true rfl, Nat.le_of_ble_eq_true rfl⟩ ⟨rfl, rfl⟩ dL_boxes_91 rfl (Nat.le_of_ble_eq_true rfl) (fun H locs hP hS n308 => ?_)
                      refine lv_bipush (pc := 94) (v := (-2 : Int32)) hx hb dL_boxes_94 (by decide) ?_
                      refine lv_icmp_eq (pc := 96) (tgt := 101) hx hb dL_boxes_96 (by decide) (fun c309 => ?_) (fun c309 => ?_)
                      · have h := (if_pos c309).symm.trans h
                        refine lv_iload_n (pc := 101) hx hb dL_boxes_101 rfl (lv_at hl 3 rfl) ?_
                        refine lv_iload (pc := 102) hx hb dL_boxes_102 (lv_at hl 6 rfl) ?_
                        refine lv_if_le (pc := 104) (tgt := 117) hx hb dL_boxes_104 (by decide) (fun c310 => ?_) (fun c310 => ?_)
                        · have h := (if_pos c310).symm.trans h
                          refine lv_iconst (pc := 117) (v := (0 : Int32)) hx hb dL_boxes_117 (by decide) ?_
                          refine lv_iadd (pc := 118) hx hb dL_boxes_118 ?_
                          refine lv_istore_n (pc := 119) (lv' := [(1, .int (x1 + (0 : Int32))), (6, .int (0 : Int32)), (5, .int y245), (0, .ref (ad 0)), (2, .int x2), (3, .int x3), (4, .int x4)]) hx hb dL_boxes_119 rfl hl (by decide) rfl (fun ls hl => ?_)
                          refine lv_iload_n (pc := 120) hx hb dL_boxes_120 rfl (lv_at hl 4 rfl) ?_
                          refine lv_aload_n (pc := 121) hx hb dL_boxes_121 rfl (lv_at hl 3 rfl) ?_
                          refine lv_iload (pc := 122) hx hb dL_boxes_122 (lv_at hl 6 rfl) ?_
                          refine lv_iconst (pc := 124) (v := (4 : Int32)) hx hb dL_boxes_124 (by decide) ?_
                          obtain ⟨y311, hy311, h⟩ := bnd_ex h
                          refine x_callVi (pc := 125) (st := .int (4 : Int32) :: .int x4 :: .ref (ad 0) :: .int x2 :: []) (As := [.int x4, .int (4 : Int32)]) E hEx hl.1 hP hS (kX7_box hap  M _ _ _ hy311) gL_9 hdX7_box rfl (by decide) sh7 rfl ⟨Nat.le_of_ble_eq_true rfl, Nat.le_of_ble_eq_true rfl⟩ ⟨rfl, rfl⟩ dL_boxes_125 rfl (Nat.le_of_ble_eq_true rfl) (fun H locs hP hS n312 => ?_)
                          refine lv_iadd (pc := 128) hx hb dL_boxes_128 ?_
                          refine lv_istore_n (pc := 129) (lv' := [(2, .int (x2 + y311)), (1, .int (x1 + (0 : Int32))), (6, .int (0 : Int32)), (5, .int y245), (0, .ref (ad 0)), (3, .int x3), (4, .int x4)]) hx hb dL_boxes_129 rfl hl (by decide) rfl (fun ls hl => ?_)
                          refine lv_iload_n (pc := 130) hx hb dL_boxes_130 rfl (lv_at hl 5 rfl) ?_
                          refine lv_aload_n (pc := 131) hx hb dL_boxes_131 rfl (lv_at hl 4 rfl) ?_
                          refine lv_iload (pc := 132) hx hb dL_boxes_132 (lv_at hl 6 rfl) ?_
                          refine lv_iconst (pc := 134) (v := (5 : Int32)) hx hb dL_boxes_134 (by decide) ?_
                          obtain ⟨y313, hy313, h⟩ := bnd_ex h
                          refine x_callVi (pc := 135) (st := .int (5 : Int32) :: .int x4 :: .ref (ad 0) :: .int x3 :: []) (As := [.int x4, .int (5 : Int32)]) E hEx hl.1 hP hS (kX7_box hap  M _ _ _ hy313) gL_9 hdX7_box rfl (by decide) sh7 rfl ⟨Nat.le_of_ble_eq_true rfl, Nat.le_of_ble_eq_true rfl⟩ ⟨rfl, rfl⟩ dL_boxes_135 rfl (Nat.le_of_ble_eq_true rfl) (fun H locs hP hS n314 => ?_)
                          refine lv_iadd (pc := 138) hx hb dL_boxes_138 ?_
                          refine lv_istore_n (pc := 139) (lv' := [(3, .int (x3 + y313)), (2, .int (x2 + y311)), (1, .int (x1 + (0 : Int32))), (6, .int (0 : Int32)), (5, .int y245), (0, .ref (ad 0)), (4, .int x4)]) hx hb dL_boxes_139 rfl hl (by decide) rfl (fun ls hl => ?_)
                          refine lv_iinc (pc := 140) (v := (x4 + 1)) (lv' := [(4, .int (x4 + 1)), (3, .int (x3 + y313)), (2, .int (x2 + y311)), (1, .int (x1 + (0 : Int32))), (6, .int (0 : Int32)), (5, .int y245), (0, .ref (ad 0))]) hx hb dL_boxes_140 hl (k := 6) rfl rfl (by decide) rfl (fun ls hl => ?_)
                          refine lv_goto (pc := 143) (tgt := 9) hx hb dL_boxes_143 (by decide) ?_
                          exact ih M (x1 + (0 : Int32)) (x2 + y311) (x3 + y313) (x4 + 1) _ _ _ h hP hS (lv_sub hl [6, 3, 2, 1, 0] rfl)
                        · have h := (if_neg c310).symm.trans h
                          refine lv_aload_n (pc := 107) hx hb dL_boxes_107 rfl (lv_at hl 2 rfl) ?_
                          refine lv_iload (pc := 108) hx hb dL_boxes_108 (lv_at hl 6 rfl) ?_
                          refine lv_iconst (pc := 110) (v := (2 : Int32)) hx hb dL_boxes_110 (by decide) ?_
                          obtain ⟨y315, hy315, h⟩ := bnd_ex h
                          refine x_callVi (pc := 111) (st := .int (2 : Int32) :: .int x4 :: .ref (ad 0) :: .int x1 :: []) (As := [.int x4, .int (2 : Int32)]) E hEx hl.1 hP hS (kX7_box hap  M _ _ _ hy315) gL_9 hdX7_box rfl (by decide) sh7 rfl ⟨Nat.le_of_ble_eq_true rfl, Nat.le_of_ble_eq_true rfl⟩ ⟨rfl, rfl⟩ dL_boxes_111 rfl (Nat.le_of_ble_eq_true rfl) (fun H locs hP hS n316 => ?_)
                          refine lv_goto (pc := 114) (tgt := 118) hx hb dL_boxes_114 (by decide) ?_
                          refine lv_iadd (pc := 118) hx hb dL_boxes_118 ?_
                          refine lv_istore_n (pc := 119) (lv' := [(1, .int (x1 + y315)), (6, .int (0 : Int32)), (5, .int y245), (0, .ref (ad 0)), (2, .int x2), (3, .int x3), (4, .int x4)]) hx hb dL_boxes_119 rfl hl (by decide) rfl (fun ls hl => ?_)
                          refine lv_iload_n (pc := 120) hx hb dL_boxes_120 rfl (lv_at hl 4 rfl) ?_
                          refine lv_aload_n (pc := 121) hx hb dL_boxes_121 rfl (lv_at hl 3 rfl) ?_
                          refine lv_iload (pc := 122) hx hb dL_boxes_122 (lv_at hl 6 rfl) ?_
                          refine lv_iconst (pc := 124) (v := (4 : Int32)) hx hb dL_boxes_124 (by decide) ?_
                          obtain ⟨y317, hy317, h⟩ := bnd_ex h
                          refine x_callVi (pc := 125) (st := .int (4 : Int32) :: .int x4 :: .ref (ad 0) :: .int x2 :: []) (As := [.int x4, .int (4 : Int32)]) E hEx hl.1 hP hS (kX7_box hap  M _ _ _ hy317) gL_9 hdX7_box rfl (by decide) sh7 rfl ⟨Nat.le_of_ble_eq_true rfl, Nat.le_of_ble_eq_true rfl⟩ ⟨rfl, rfl⟩ dL_boxes_125 rfl (Nat.le_of_ble_eq_true rfl) (fun H locs hP hS n318 => ?_)
                          refine lv_iadd (pc := 128) hx hb dL_boxes_128 ?_
                          refine lv_istore_n (pc := 129) (lv' := [(2, .int (x2 + y317)), (1, .int (x1 + y315)), (6, .int (0 : Int32)), (5, .int y245), (0, .ref (ad 0)), (3, .int x3), (4, .int x4)]) hx hb dL_boxes_129 rfl hl (by decide) rfl (fun ls hl => ?_)
                          refine lv_iload_n (pc := 130) hx hb dL_boxes_130 rfl (lv_at hl 5 rfl) ?_
                          refine lv_aload_n (pc := 131) hx hb dL_boxes_131 rfl (lv_at hl 4 rfl) ?_
                          refine lv_iload (pc := 132) hx hb dL_boxes_132 (lv_at hl 6 rfl) ?_
                          refine lv_iconst (pc := 134) (v := (5 : Int32)) hx hb dL_boxes_134 (by decide) ?_
                          obtain ⟨y319, hy319, h⟩ := bnd_ex h
                          refine x_callVi (pc := 135) (st := .int (5 : Int32) :: .int x4 :: .ref (ad 0) :: .int x3 :: []) (As := [.int x4, .int (5 : Int32)]) E hEx hl.1 hP hS (kX7_box hap  M _ _ _ hy319) gL_9 hdX7_box rfl (by decide) sh7 rfl ⟨Nat.le_of_ble_eq_true rfl, Nat.le_of_ble_eq_true rfl⟩ ⟨rfl, rfl⟩ dL_boxes_135 rfl (Nat.le_of_ble_eq_true rfl) (fun H locs hP hS n320 => ?_)
                          refine lv_iadd (pc := 138) hx hb dL_boxes_138 ?_
                          refine lv_istore_n (pc := 139) (lv' := [(3, .int (x3 + y319)), (2, .int (x2 + y317)), (1, .int (x1 + y315)), (6, .int (0 : Int32)), (5, .int y245), (0, .ref (ad 0)), (4, .int x4)]) hx hb dL_boxes_139 rfl hl (by decide) rfl (fun ls hl => ?_)
                          refine lv_iinc (pc := 140) (v := (x4 + 1)) (lv' := [(4, .int (x4 + 1)), (3, .int (x3 + y319)), (2, .int (x2 + y317)), (1, .int (x1 + y315)), (6, .int (0 : Int32)), (5, .int y245), (0, .ref (ad 0))]) hx hb dL_boxes_140 hl (k := 6) rfl rfl (by decide) rfl (fun ls hl => ?_)
                          refine lv_goto (pc := 143) (tgt := 9) hx hb dL_boxes_143 (by decide) ?_
                          exact ih M (x1 + y315) (x2 + y317) (x3 + y319) (x4 + 1) _ _ _ h hP hS (lv_sub hl [6, 3, 2, 1, 0] rfl)
                      · have h := (if_neg c309).symm.trans h
                        refine lv_iconst (pc := 99) (v := (0 : Int32)) hx hb dL_boxes_99 (by decide) ?_
                        obtain rfl := som1 h
                        exact x_iret E hP hS rfl dL_boxes_100
            · exact absurd c288 (by decide)
          · have h := (if_neg c285).symm.trans h
            refine lv_iconst (pc := 42) (v := (1 : Int32)) hx hb dL_boxes_42 (by decide) ?_
            refine lv_goto (pc := 43) (tgt := 47) hx hb dL_boxes_43 (by decide) ?_
            refine lv_istore (pc := 47) (lv' := [(6, .int (1 : Int32)), (5, .int y245), (0, .ref (ad 0)), (1, .int x1), (2, .int x2), (3, .int x3), (4, .int x4)]) hx hb dL_boxes_47 hl (by decide) rfl (fun ls hl => ?_)
            refine lv_aload_n (pc := 49) hx hb dL_boxes_49 rfl (lv_at hl 2 rfl) ?_
            refine lv_iload (pc := 50) hx hb dL_boxes_50 (lv_at hl 6 rfl) ?_
            refine lv_iconst (pc := 52) (v := (3 : Int32)) hx hb dL_boxes_52 (by decide) ?_
            obtain ⟨y321, hy321, h⟩ := bnd_ex h
            refine x_callVi (pc := 53) (st := .int (3 : Int32) :: .int x4 :: .ref (ad 0) :: []) (As := [.int x4, .int (3 : Int32)]) E hEx hl.1 hP hS (kX7_box hap  M _ _ _ hy321) gL_9 hdX7_box rfl (by decide) sh7 rfl ⟨Nat.le_of_ble_eq_true rfl, Nat.le_of_ble_eq_true rfl⟩ ⟨rfl, rfl⟩ dL_boxes_53 rfl (Nat.le_of_ble_eq_true rfl) (fun H locs hP hS n322 => ?_)
            refine lv_iload (pc := 56) hx hb dL_boxes_56 (lv_at hl 0 rfl) ?_
            refine lv_if_eq (pc := 58) (tgt := 65) hx hb dL_boxes_58 (by decide) (fun c323 => ?_) (fun c323 => ?_)
            · exact absurd c323 (by decide)
            · refine lv_iconst (pc := 61) (v := (1 : Int32)) hx hb dL_boxes_61 (by decide) ?_
              refine lv_goto (pc := 62) (tgt := 66) hx hb dL_boxes_62 (by decide) ?_
              refine lv_icmp_ne (pc := 66) (tgt := 99) hx hb dL_boxes_66 (by decide) (fun c324 => ?_) (fun c324 => ?_)
              · have h := (if_neg c324).symm.trans h
                refine lv_iconst (pc := 99) (v := (0 : Int32)) hx hb dL_boxes_99 (by decide) ?_
                obtain rfl := som1 h
                exact x_iret E hP hS rfl dL_boxes_100
              · have h := (if_pos c324).symm.trans h
                refine lv_iload (pc := 69) hx hb dL_boxes_69 (lv_at hl 6 rfl) ?_
                refine lv_if_le (pc := 71) (tgt := 86) hx hb dL_boxes_71 (by decide) (fun c325 => ?_) (fun c325 => ?_)
                · have h := (if_pos c325).symm.trans h
                  refine lv_aload_n (pc := 86) hx hb dL_boxes_86 rfl (lv_at hl 2 rfl) ?_
                  refine lv_iload (pc := 87) hx hb dL_boxes_87 (lv_at hl 6 rfl) ?_
                  refine lv_bipush (pc := 89) (v := (8 : Int32)) hx hb dL_boxes_89 (by decide) ?_
                  obtain ⟨y326, hy326, h⟩ := bnd_ex h
                  refine x_callVi (pc := 91) (st := .int (8 : Int32) :: .int x4 :: .ref (ad 0) :: []) (As := [.int x4, .int (8 : Int32)]) E hEx hl.1 hP hS (kX7_box hap  M _ _ _ hy326) gL_9 hdX7_box rfl (by decide) sh7 rfl ⟨Nat.le_of_ble_eq_true rfl, Nat.le_of_ble_eq_true rfl⟩ ⟨rfl, rfl⟩ dL_boxes_91 rfl (Nat.le_of_ble_eq_true rfl) (fun H locs hP hS n327 => ?_)
                  refine lv_bipush (pc := 94) (v := (-2 : Int32)) hx hb dL_boxes_94 (by decide) ?_
                  refine lv_icmp_eq (pc := 96) (tgt := 101) hx hb dL_boxes_96 (by decide) (fun c328 => ?_) (fun c328 => ?_)
                  · have h := (if_pos c328).symm.trans h
                    refine lv_iload_n (pc := 101) hx hb dL_boxes_101 rfl (lv_at hl 3 rfl) ?_
                    refine lv_iload (pc := 102) hx hb dL_boxes_102 (lv_at hl 6 rfl) ?_
                    refine lv_if_le (pc := 104) (tgt := 117) hx hb dL_boxes_104 (by decide) (fun c329 => ?_) (fun c329 => ?_)
                    · have h := (if_pos c329).symm.trans h
                      refine lv_iconst (pc := 117) (v := (0 : Int32)) hx hb dL_boxes_117 (by decide) ?_
                      refine lv_iadd (pc := 118) hx hb dL_boxes_118 ?_
                      refine lv_istore_n (pc := 119) (lv' := [(1, .int (x1 + (0 : Int32))), (6, .int (1 : Int32)), (5, .int y245), (0, .ref (ad 0)), (2, .int x2), (3, .int x3), (4, .int x4)]) hx hb dL_boxes_119 rfl hl (by decide) rfl (fun ls hl => ?_)
                      refine lv_iload_n (pc := 120) hx hb dL_boxes_120 rfl (lv_at hl 4 rfl) ?_
                      refine lv_aload_n (pc := 121) hx hb dL_boxes_121 rfl (lv_at hl 3 rfl) ?_
                      refine lv_iload (pc := 122) hx hb dL_boxes_122 (lv_at hl 6 rfl) ?_
                      refine lv_iconst (pc := 124) (v := (4 : Int32)) hx hb dL_boxes_124 (by decide) ?_
                      obtain ⟨y330, hy330, h⟩ := bnd_ex h
                      refine x_callVi (pc := 125) (st := .int (4 : Int32) :: .int x4 :: .ref (ad 0) :: .int x2 :: []) (As := [.int x4, .int (4 : Int32)]) E hEx hl.1 hP hS (kX7_box hap  M _ _ _ hy330) gL_9 hdX7_box rfl (by decide) sh7 rfl ⟨Nat.le_of_ble_eq_true rfl, Nat.le_of_ble_eq_true rfl⟩ ⟨rfl, rfl⟩ dL_boxes_125 rfl (Nat.le_of_ble_eq_true rfl) (fun H locs hP hS n331 => ?_)
                      refine lv_iadd (pc := 128) hx hb dL_boxes_128 ?_
                      refine lv_istore_n (pc := 129) (lv' := [(2, .int (x2 + y330)), (1, .int (x1 + (0 : Int32))), (6, .int (1 : Int32)), (5, .int y245), (0, .ref (ad 0)), (3, .int x3), (4, .int x4)]) hx hb dL_boxes_129 rfl hl (by decide) rfl (fun ls hl => ?_)
                      refine lv_iload_n (pc := 130) hx hb dL_boxes_130 rfl (lv_at hl 5 rfl) ?_
                      refine lv_aload_n (pc := 131) hx hb dL_boxes_131 rfl (lv_at hl 4 rfl) ?_
                      refine lv_iload (pc := 132) hx hb dL_boxes_132 (lv_at hl 6 rfl) ?_
                      refine lv_iconst (pc := 134) (v := (5 : Int32)) hx hb dL_boxes_134 (by decide) ?_
                      obtain ⟨y332, hy332, h⟩ := bnd_ex h
                      refine x_callVi (pc := 135) (st := .int (5 : Int32) :: .int x4 :: .ref (ad 0) :: .int x3 :: []) (As := [.int x4, .int (5 : Int32)]) E hEx hl.1 hP hS (kX7_box hap  M _ _ _ hy332) gL_9 hdX7_box rfl (by decide) sh7 rfl ⟨Nat.le_of_ble_eq_true rfl, Nat.le_of_ble_eq_true rfl⟩ ⟨rfl, rfl⟩ dL_boxes_135 rfl (Nat.le_of_ble_eq_true rfl) (fun H locs hP hS n333 => ?_)
                      refine lv_iadd (pc := 138) hx hb dL_boxes_138 ?_
                      refine lv_istore_n (pc := 139) (lv' := [(3, .int (x3 + y332)), (2, .int (x2 + y330)), (1, .int (x1 + (0 : Int32))), (6, .int (1 : Int32)), (5, .int y245), (0, .ref (ad 0)), (4, .int x4)]) hx hb dL_boxes_139 rfl hl (by decide) rfl (fun ls hl => ?_)
                      refine lv_iinc (pc := 140) (v := (x4 + 1)) (lv' := [(4, .int (x4 + 1)), (3, .int (x3 + y332)), (2, .int (x2 + y330)), (1, .int (x1 + (0 : Int32))), (6, .int (1 : Int32)), (5, .int y245), (0, .ref (ad 0))]) hx hb dL_boxes_140 hl (k := 6) rfl rfl (by decide) rfl (fun ls hl => ?_)
                      refine lv_goto (pc := 143) (tgt := 9) hx hb dL_boxes_143 (by decide) ?_
                      exact ih M (x1 + (0 : Int32)) (x2 + y330) (x3 + y332) (x4 + 1) _ _ _ h hP hS (lv_sub hl [6, 3, 2, 1, 0] rfl)
                    · have h := (if_neg c329).symm.trans h
                      refine lv_aload_n (pc := 107) hx hb dL_boxes_107 rfl (lv_at hl 2 rfl) ?_
                      refine lv_iload (pc := 108) hx hb dL_boxes_108 (lv_at hl 6 rfl) ?_
                      refine lv_iconst (pc := 110) (v := (2 : Int32)) hx hb dL_boxes_110 (by decide) ?_
                      obtain ⟨y334, hy334, h⟩ := bnd_ex h
                      refine x_callVi (pc := 111) (st := .int (2 : Int32) :: .int x4 :: .ref (ad 0) :: .int x1 :: []) (As := [.int x4, .int (2 : Int32)]) E hEx hl.1 hP hS (kX7_box hap  M _ _ _ hy334) gL_9 hdX7_box rfl (by decide) sh7 rfl ⟨Nat.le_of_ble_eq_true rfl, Nat.le_of_ble_eq_true rfl⟩ ⟨rfl, rfl⟩ dL_boxes_111 rfl (Nat.le_of_ble_eq_true rfl) (fun H locs hP hS n335 => ?_)
                      refine lv_goto (pc := 114) (tgt := 118) hx hb dL_boxes_114 (by decide) ?_
                      refine lv_iadd (pc := 118) hx hb dL_boxes_118 ?_
                      refine lv_istore_n (pc := 119) (lv' := [(1, .int (x1 + y334)), (6, .int (1 : Int32)), (5, .int y245), (0, .ref (ad 0)), (2, .int x2), (3, .int x3), (4, .int x4)]) hx hb dL_boxes_119 rfl hl (by decide) rfl (fun ls hl => ?_)
                      refine lv_iload_n (pc := 120) hx hb dL_boxes_120 rfl (lv_at hl 4 rfl) ?_
                      refine lv_aload_n (pc := 121) hx hb dL_boxes_121 rfl (lv_at hl 3 rfl) ?_
                      refine lv_iload (pc := 122) hx hb dL_boxes_122 (lv_at hl 6 rfl) ?_
                      refine lv_iconst (pc := 124) (v := (4 : Int32)) hx hb dL_boxes_124 (by decide) ?_
                      obtain ⟨y336, hy336, h⟩ := bnd_ex h
                      refine x_callVi (pc := 125) (st := .int (4 : Int32) :: .int x4 :: .ref (ad 0) :: .int x2 :: []) (As := [.int x4, .int (4 : Int32)]) E hEx hl.1 hP hS (kX7_box hap  M _ _ _ hy336) gL_9 hdX7_box rfl (by decide) sh7 rfl ⟨Nat.le_of_ble_eq_true rfl, Nat.le_of_ble_eq_true rfl⟩ ⟨rfl, rfl⟩ dL_boxes_125 rfl (Nat.le_of_ble_eq_true rfl) (fun H locs hP hS n337 => ?_)
                      refine lv_iadd (pc := 128) hx hb dL_boxes_128 ?_
                      refine lv_istore_n (pc := 129) (lv' := [(2, .int (x2 + y336)), (1, .int (x1 + y334)), (6, .int (1 : Int32)), (5, .int y245), (0, .ref (ad 0)), (3, .int x3), (4, .int x4)]) hx hb dL_boxes_129 rfl hl (by decide) rfl (fun ls hl => ?_)
                      refine lv_iload_n (pc := 130) hx hb dL_boxes_130 rfl (lv_at hl 5 rfl) ?_
                      refine lv_aload_n (pc := 131) hx hb dL_boxes_131 rfl (lv_at hl 4 rfl) ?_
                      refine lv_iload (pc := 132) hx hb dL_boxes_132 (lv_at hl 6 rfl) ?_
                      refine lv_iconst (pc := 134) (v := (5 : Int32)) hx hb dL_boxes_134 (by decide) ?_
                      obtain ⟨y338, hy338, h⟩ := bnd_ex h
                      refine x_callVi (pc := 135) (st := .int (5 : Int32) :: .int x4 :: .ref (ad 0) :: .int x3 :: []) (As := [.int x4, .int (5 : Int32)]) E hEx hl.1 hP hS (kX7_box hap  M _ _ _ hy338) gL_9 hdX7_box rfl (by decide) sh7 rfl ⟨Nat.le_of_ble_eq_true rfl, Nat.le_of_ble_eq_true rfl⟩ ⟨rfl, rfl⟩ dL_boxes_135 rfl (Nat.le_of_ble_eq_true rfl) (fun H locs hP hS n339 => ?_)
                      refine lv_iadd (pc := 138) hx hb dL_boxes_138 ?_
                      refine lv_istore_n (pc := 139) (lv' := [(3, .int (x3 + y338)), (2, .int (x2 + y336)), (1, .int (x1 + y334)), (6, .int (1 : Int32)), (5, .int y245), (0, .ref (ad 0)), (4, .int x4)]) hx hb dL_boxes_139 rfl hl (by decide) rfl (fun ls hl => ?_)
                      refine lv_iinc (pc := 140) (v := (x4 + 1)) (lv' := [(4, .int (x4 + 1)), (3, .int (x3 + y338)), (2, .int (x2 + y336)), (1, .int (x1 + y334)), (6, .int (1 : Int32)), (5, .int y245), (0, .ref (ad 0))]) hx hb dL_boxes_140 hl (k := 6) rfl rfl (by decide) rfl (fun ls hl => ?_)
                      refine lv_goto (pc := 143) (tgt := 9) hx hb dL_boxes_143 (by decide) ?_
                      exact ih M (x1 + y334) (x2 + y336) (x3 + y338) (x4 + 1) _ _ _ h hP hS (lv_sub hl [6, 3, 2, 1, 0] rfl)
                  · have h := (if_neg c328).symm.trans h
                    refine lv_iconst (pc := 99) (v := (0 : Int32)) hx hb dL_boxes_99 (by decide) ?_
                    obtain rfl := som1 h
                    exact x_iret E hP hS rfl dL_boxes_100
                · have h := (if_neg c325).symm.trans h
                  refine lv_iload (pc := 74) hx hb dL_boxes_74 (lv_at hl 1 rfl) ?_
                  refine lv_if_lt (pc := 76) (tgt := 99) hx hb dL_boxes_76 (by decide) (fun c340 => ?_) (fun c340 => ?_)
                  · have h := (if_pos c340).symm.trans h
                    refine lv_iconst (pc := 99) (v := (0 : Int32)) hx hb dL_boxes_99 (by decide) ?_
                    obtain rfl := som1 h
                    exact x_iret E hP hS rfl dL_boxes_100
                  · have h := (if_neg c340).symm.trans h
                    refine lv_iload (pc := 79) hx hb dL_boxes_79 (lv_at hl 1 rfl) ?_
                    refine lv_iload (pc := 81) hx hb dL_boxes_81 (lv_at hl 6 rfl) ?_
                    refine lv_icmp_ge (pc := 83) (tgt := 99) hx hb dL_boxes_83 (by decide) (fun c341 => ?_) (fun c341 => ?_)
                    · have h := (if_pos c341).symm.trans h
                      refine lv_iconst (pc := 99) (v := (0 : Int32)) hx hb dL_boxes_99 (by decide) ?_
                      obtain rfl := som1 h
                      exact x_iret E hP hS rfl dL_boxes_100
                    · have h := (if_neg c341).symm.trans h
                      refine lv_aload_n (pc := 86) hx hb dL_boxes_86 rfl (lv_at hl 2 rfl) ?_
                      refine lv_iload (pc := 87) hx hb dL_boxes_87 (lv_at hl 6 rfl) ?_
                      refine lv_bipush (pc := 89) (v := (8 : Int32)) hx hb dL_boxes_89 (by decide) ?_
                      obtain ⟨y342, hy342, h⟩ := bnd_ex h
                      refine x_callVi (pc := 91) (st := .int (8 : Int32) :: .int x4 :: .ref (ad 0) :: []) (As := [.int x4, .int (8 : Int32)]) E hEx hl.1 hP hS (kX7_box hap  M _ _ _ hy342) gL_9 hdX7_box rfl (by decide) sh7 rfl ⟨Nat.le_of_ble_eq_true rfl, Nat.le_of_ble_eq_true rfl⟩ ⟨rfl, rfl⟩ dL_boxes_91 rfl (Nat.le_of_ble_eq_true rfl) (fun H locs hP hS n343 => ?_)
                      refine lv_bipush (pc := 94) (v := (-2 : Int32)) hx hb dL_boxes_94 (by decide) ?_
                      refine lv_icmp_eq (pc := 96) (tgt := 101) hx hb dL_boxes_96 (by decide) (fun c344 => ?_) (fun c344 => ?_)
                      · have h := (if_pos c344).symm.trans h
                        refine lv_iload_n (pc := 101) hx hb dL_boxes_101 rfl (lv_at hl 3 rfl) ?_
                        refine lv_iload (pc := 102) hx hb dL_boxes_102 (lv_at hl 6 rfl) ?_
                        refine lv_if_le (pc := 104) (tgt := 117) hx hb dL_boxes_104 (by decide) (fun c345 => ?_) (fun c345 => ?_)
                        · have h := (if_pos c345).symm.trans h
                          refine lv_iconst (pc := 117) (v := (0 : Int32)) hx hb dL_boxes_117 (by decide) ?_
                          refine lv_iadd (pc := 118) hx hb dL_boxes_118 ?_
                          refine lv_istore_n (pc := 119) (lv' := [(1, .int (x1 + (0 : Int32))), (6, .int (1 : Int32)), (5, .int y245), (0, .ref (ad 0)), (2, .int x2), (3, .int x3), (4, .int x4)]) hx hb dL_boxes_119 rfl hl (by decide) rfl (fun ls hl => ?_)
                          refine lv_iload_n (pc := 120) hx hb dL_boxes_120 rfl (lv_at hl 4 rfl) ?_
                          refine lv_aload_n (pc := 121) hx hb dL_boxes_121 rfl (lv_at hl 3 rfl) ?_
                          refine lv_iload (pc := 122) hx hb dL_boxes_122 (lv_at hl 6 rfl) ?_
                          refine lv_iconst (pc := 124) (v := (4 : Int32)) hx hb dL_boxes_124 (by decide) ?_
                          obtain ⟨y346, hy346, h⟩ := bnd_ex h
                          refine x_callVi (pc := 125) (st := .int (4 : Int32) :: .int x4 :: .ref (ad 0) :: .int x2 :: []) (As := [.int x4, .int (4 : Int32)]) E hEx hl.1 hP hS (kX7_box hap  M _ _ _ hy346) gL_9 hdX7_box rfl (by decide) sh7 rfl ⟨Nat.le_of_ble_eq_true rfl, Nat.le_of_ble_eq_true rfl⟩ ⟨rfl, rfl⟩ dL_boxes_125 rfl (Nat.le_of_ble_eq_true rfl) (fun H locs hP hS n347 => ?_)
                          refine lv_iadd (pc := 128) hx hb dL_boxes_128 ?_
                          refine lv_istore_n (pc := 129) (lv' := [(2, .int (x2 + y346)), (1, .int (x1 + (0 : Int32))), (6, .int (1 : Int32)), (5, .int y245), (0, .ref (ad 0)), (3, .int x3), (4, .int x4)]) hx hb dL_boxes_129 rfl hl (by decide) rfl (fun ls hl => ?_)
                          refine lv_iload_n (pc := 130) hx hb dL_boxes_130 rfl (lv_at hl 5 rfl) ?_
                          refine lv_aload_n (pc := 131) hx hb dL_boxes_131 rfl (lv_at hl 4 rfl) ?_
                          refine lv_iload (pc := 132) hx hb dL_boxes_132 (lv_at hl 6 rfl) ?_
                          refine lv_iconst (pc := 134) (v := (5 : Int32)) hx hb dL_boxes_134 (by decide) ?_
                          obtain ⟨y348, hy348, h⟩ := bnd_ex h
                          refine x_callVi (pc := 135) (st := .int (5 : Int32) :: .int x4 :: .ref (ad 0) :: .int x3 :: []) (As := [.int x4, .int (5 : Int32)]) E hEx hl.1 hP hS (kX7_box hap  M _ _ _ hy348) gL_9 hdX7_box rfl (by decide) sh7 rfl ⟨Nat.le_of_ble_eq_true rfl, Nat.le_of_ble_eq_true rfl⟩ ⟨rfl, rfl⟩ dL_boxes_135 rfl (Nat.le_of_ble_eq_true rfl) (fun H locs hP hS n349 => ?_)
                          refine lv_iadd (pc := 138) hx hb dL_boxes_138 ?_
                          refine lv_istore_n (pc := 139) (lv' := [(3, .int (x3 + y348)), (2, .int (x2 + y346)), (1, .int (x1 + (0 : Int32))), (6, .int (1 : Int32)), (5, .int y245), (0, .ref (ad 0)), (4, .int x4)]) hx hb dL_boxes_139 rfl hl (by decide) rfl (fun ls hl => ?_)
                          refine lv_iinc (pc := 140) (v := (x4 + 1)) (lv' := [(4, .int (x4 + 1)), (3, .int (x3 + y348)), (2, .int (x2 + y346)), (1, .int (x1 + (0 : Int32))), (6, .int (1 : Int32)), (5, .int y245), (0, .ref (ad 0))]) hx hb dL_boxes_140 hl (k := 6) rfl rfl (by decide) rfl (fun ls hl => ?_)
                          refine lv_goto (pc := 143) (tgt := 9) hx hb dL_boxes_143 (by decide) ?_
                          exact ih M (x1 + (0 : Int32)) (x2 + y346) (x3 + y348) (x4 + 1) _ _ _ h hP hS (lv_sub hl [6, 3, 2, 1, 0] rfl)
                        · have h := (if_neg c345).symm.trans h
                          refine lv_aload_n (pc := 107) hx hb dL_boxes_107 rfl (lv_at hl 2 rfl) ?_
                          refine lv_iload (pc := 108) hx hb dL_boxes_108 (lv_at hl 6 rfl) ?_
                          refine lv_iconst (pc := 110) (v := (2 : Int32)) hx hb dL_boxes_110 (by decide) ?_
                          obtain ⟨y350, hy350, h⟩ := bnd_ex h
                          refine x_callVi (pc := 111) (st := .int (2 : Int32) :: .int x4 :: .ref (ad 0) :: .int x1 :: []) (As := [.int x4, .int (2 : Int32)]) E hEx hl.1 hP hS (kX7_box hap  M _ _ _ hy350) gL_9 hdX7_box rfl (by decide) sh7 rfl ⟨Nat.le_of_ble_eq_true rfl, Nat.le_of_ble_eq_true rfl⟩ ⟨rfl, rfl⟩ dL_boxes_111 rfl (Nat.le_of_ble_eq_true rfl) (fun H locs hP hS n351 => ?_)
                          refine lv_goto (pc := 114) (tgt := 118) hx hb dL_boxes_114 (by decide) ?_
                          refine lv_iadd (pc := 118) hx hb dL_boxes_118 ?_
                          refine lv_istore_n (pc := 119) (lv' := [(1, .int (x1 + y350)), (6, .int (1 : Int32)), (5, .int y245), (0, .ref (ad 0)), (2, .int x2), (3, .int x3), (4, .int x4)]) hx hb dL_boxes_119 rfl hl (by decide) rfl (fun ls hl => ?_)
                          refine lv_iload_n (pc := 120) hx hb dL_boxes_120 rfl (lv_at hl 4 rfl) ?_
                          refine lv_aload_n (pc := 121) hx hb dL_boxes_121 rfl (lv_at hl 3 rfl) ?_
                          refine lv_iload (pc := 122) hx hb dL_boxes_122 (lv_at hl 6 rfl) ?_
                          refine lv_iconst (pc := 124) (v := (4 : Int32)) hx hb dL_boxes_124 (by decide) ?_
                          obtain ⟨y352, hy352, h⟩ := bnd_ex h
                          refine x_callVi (pc := 125) (st := .int (4 : Int32) :: .int x4 :: .ref (ad 0) :: .int x2 :: []) (As := [.int x4, .int (4 : Int32)]) E hEx hl.1 hP hS (kX7_box hap  M _ _ _ hy352) gL_9 hdX7_box rfl (by decide) sh7 rfl ⟨Nat.le_of_ble_eq_true rfl, Nat.le_of_ble_eq_true rfl⟩ ⟨rfl, rfl⟩ dL_boxes_125 rfl (Nat.le_of_ble_eq_true rfl) (fun H locs hP hS n353 => ?_)
                          refine lv_iadd (pc := 128) hx hb dL_boxes_128 ?_
                          refine lv_istore_n (pc := 129) (lv' := [(2, .int (x2 + y352)), (1, .int (x1 + y350)), (6, .int (1 : Int32)), (5, .int y245), (0, .ref (ad 0)), (3, .int x3), (4, .int x4)]) hx hb dL_boxes_129 rfl hl (by decide) rfl (fun ls hl => ?_)
                          refine lv_iload_n (pc := 130) hx hb dL_boxes_130 rfl (lv_at hl 5 rfl) ?_
                          refine lv_aload_n (pc := 131) hx hb dL_boxes_131 rfl (lv_at hl 4 rfl) ?_
                          refine lv_iload (pc := 132) hx hb dL_boxes_132 (lv_at hl 6 rfl) ?_
                          refine lv_iconst (pc := 134) (v := (5 : Int32)) hx hb dL_boxes_134 (by decide) ?_
                          obtain ⟨y354, hy354, h⟩ := bnd_ex h
                          refine x_callVi (pc := 135) (st := .int (5 : Int32) :: .int x4 :: .ref (ad 0) :: .int x3 :: []) (As := [.int x4, .int (5 : Int32)]) E hEx hl.1 hP hS (kX7_box hap  M _ _ _ hy354) gL_9 hdX7_box rfl (by decide) sh7 rfl ⟨Nat.le_of_ble_eq_true rfl, Nat.le_of_ble_eq_true rfl⟩ ⟨rfl, rfl⟩ dL_boxes_135 rfl (Nat.le_of_ble_eq_true rfl) (fun H locs hP hS n355 => ?_)
                          refine lv_iadd (pc := 138) hx hb dL_boxes_138 ?_
                          refine lv_istore_n (pc := 139) (lv' := [(3, .int (x3 + y354)), (2, .int (x2 + y352)), (1, .int (x1 + y350)), (6, .int (1 : Int32)), (5, .int y245), (0, .ref (ad 0)), (4, .int x4)]) hx hb dL_boxes_139 rfl hl (by decide) rfl (fun ls hl => ?_)
                          refine lv_iinc (pc := 140) (v := (x4 + 1)) (lv' := [(4, .int (x4 + 1)), (3, .int (x3 + y354)), (2, .int (x2 + y352)), (1, .int (x1 + y350)), (6, .int (1 : Int32)), (5, .int y245), (0, .ref (ad 0))]) hx hb dL_boxes_140 hl (k := 6) rfl rfl (by decide) rfl (fun ls hl => ?_)
                          refine lv_goto (pc := 143) (tgt := 9) hx hb dL_boxes_143 (by decide) ?_
                          exact ih M (x1 + y350) (x2 + y352) (x3 + y354) (x4 + 1) _ _ _ h hP hS (lv_sub hl [6, 3, 2, 1, 0] rfl)
                      · have h := (if_neg c344).symm.trans h
                        refine lv_iconst (pc := 99) (v := (0 : Int32)) hx hb dL_boxes_99 (by decide) ?_
                        obtain rfl := som1 h
                        exact x_iret E hP hS rfl dL_boxes_100
  unfold fL_boxes at h
  refine lv_iconst (pc := 0) (v := (0 : Int32)) hx hb dL_boxes_0 (by decide) ?_
  refine lv_istore_n (pc := 1) (lv' := [(1, .int (0 : Int32)), (0, .ref (ad 0))]) hx hb dL_boxes_1 rfl hl (by decide) rfl (fun ls hl => ?_)
  refine lv_iconst (pc := 2) (v := (0 : Int32)) hx hb dL_boxes_2 (by decide) ?_
  refine lv_istore_n (pc := 3) (lv' := [(2, .int (0 : Int32)), (1, .int (0 : Int32)), (0, .ref (ad 0))]) hx hb dL_boxes_3 rfl hl (by decide) rfl (fun ls hl => ?_)
  refine lv_iconst (pc := 4) (v := (0 : Int32)) hx hb dL_boxes_4 (by decide) ?_
  refine lv_istore_n (pc := 5) (lv' := [(3, .int (0 : Int32)), (2, .int (0 : Int32)), (1, .int (0 : Int32)), (0, .ref (ad 0))]) hx hb dL_boxes_5 rfl hl (by decide) rfl (fun ls hl => ?_)
  refine lv_iconst (pc := 6) (v := (0 : Int32)) hx hb dL_boxes_6 (by decide) ?_
  refine lv_istore (pc := 7) (lv' := [(4, .int (0 : Int32)), (3, .int (0 : Int32)), (2, .int (0 : Int32)), (1, .int (0 : Int32)), (0, .ref (ad 0))]) hx hb dL_boxes_7 hl (by decide) rfl (fun ls hl => ?_)
  exact hL9 5000 M (0 : Int32) (0 : Int32) (0 : Int32) (0 : Int32) _ _ _ h hP hS (lv_sub hl [4, 3, 2, 1, 0] rfl)
end
