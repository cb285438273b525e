section
variable {G : va_G} {ad sK sV : Nat → Nat} {cA cZ cC : ClassId}
set_option maxRecDepth 100000 in
set_option maxHeartbeats 4000000 in
theorem kX8_clue (hap : Apart 7 ad)   (M : Mem) (x1 x2 : Int32) (v : Int32) (h : fX8_clue M x1 x2 = some v) : RI G ad cA cZ cC yX8_clue cX8_clue 3 .int ({ frames := 4, cells := 0, slots := 0, locals := 86 } : Room) [.ref (ad 0), .int x1, .int x2] M v M := by
  refine CI.mk (own := RX8) (ls0 := [(0, .ref (ad 0)), (1, .int x1), (2, .int x2)]) (by decide +kernel) rfl hap (Nat.le_of_ble_eq_true rfl) rfl ?_
  intro p l e s m args below meth c ls E hP hl
  have hx := E.1
  have hb := E.2.1
  have hown := E.2.2.2.2.2.1
  have hts := E.2.2.2.2.2.2.1
  have hEx := ExR.ok 7 ad
  have hS : va_S (AW 7 ad) s.heap s.heap [] := va_S.rf
  unfold fX8_clue at h
  refine lv_aload_n (pc := 0) hx hb dX8_clue_0 rfl (lv_at hl 0 rfl) ?_
  refine lv_iload_n (pc := 1) hx hb dX8_clue_1 rfl (lv_at hl 1 rfl) ?_
  obtain ⟨y1, hy1, h⟩ := bnd_ex h
  refine x_callVi (pc := 2) (st := .int x1 :: .ref (ad 0) :: []) (As := [.int x1]) E hEx hl.1 hP hS (kX8_noClue hap  M _ _ hy1) gX8_149 hdX8_noClue rfl (by decide) sh8 rfl ⟨Nat.le_of_ble_eq_true rfl, Nat.le_of_ble_eq_true rfl⟩ ⟨rfl, rfl⟩ dX8_clue_2 rfl (Nat.le_of_ble_eq_true rfl) (fun H locs hP hS n2 => ?_)
  refine lv_if_eq (pc := 5) (tgt := 10) hx hb dX8_clue_5 (by decide) (fun c3 => ?_) (fun c3 => ?_)
  · have h := (if_pos c3).symm.trans h
    refine lv_iload_n (pc := 10) hx hb dX8_clue_10 rfl (lv_at hl 2 rfl) ?_
    by_cases c4 : x2 = (0 : Int32)
    · have h := (if_pos c4).symm.trans h
      refine lv_tableIn (pc := 11) (off := 37) (tgt := 48) hx hb dX8_clue_11 (by rw [c4]; decide) (by rw [c4]; decide) (by rw [c4]; decide) (by decide) ?_
      refine lv_aload_n (pc := 48) hx hb dX8_clue_48 rfl (lv_at hl 0 rfl) ?_
      refine x_get (pc := 49) (v := .ref (ad 1)) E hP (by decide) sh8 rfl inX8 0 (by decide) q972 rfl dX8_clue_49 ?_
      refine lv_sipush (pc := 52) (v := (128 : Int32)) hx hb dX8_clue_52 (by decide) ?_
      refine lv_iload_n (pc := 55) hx hb dX8_clue_55 rfl (lv_at hl 1 rfl) ?_
      refine lv_iadd (pc := 56) hx hb dX8_clue_56 ?_
      obtain ⟨c18, h⟩ := ite_some h
      refine x_iald (pc := 57) (j := ((128 : Int32) + x1).toNatClampNeg) E hP (by decide) sh8a1 0 rfl (inb_in c18) rfl dX8_clue_57 ?_
      obtain rfl := som1 h
      exact x_iret E hP hS rfl dX8_clue_58
    · have h := (if_neg c4).symm.trans h
      by_cases c5 : x2 = (1 : Int32)
      · have h := (if_pos c5).symm.trans h
        refine lv_tableIn (pc := 11) (off := 48) (tgt := 59) hx hb dX8_clue_11 (by rw [c5]; decide) (by rw [c5]; decide) (by rw [c5]; decide) (by decide) ?_
        refine lv_aload_n (pc := 59) hx hb dX8_clue_59 rfl (lv_at hl 0 rfl) ?_
        refine x_get (pc := 60) (v := .ref (ad 1)) E hP (by decide) sh8 rfl inX8 0 (by decide) q972 rfl dX8_clue_60 ?_
        refine lv_sipush (pc := 63) (v := (140 : Int32)) hx hb dX8_clue_63 (by decide) ?_
        refine lv_iload_n (pc := 66) hx hb dX8_clue_66 rfl (lv_at hl 1 rfl) ?_
        refine lv_iadd (pc := 67) hx hb dX8_clue_67 ?_
        obtain ⟨c17, h⟩ := ite_some h
        refine x_iald (pc := 68) (j := ((140 : Int32) + x1).toNatClampNeg) E hP (by decide) sh8a1 0 rfl (inb_in c17) rfl dX8_clue_68 ?_
        obtain rfl := som1 h
        exact x_iret E hP hS rfl dX8_clue_69
      · have h := (if_neg c5).symm.trans h
        by_cases c6 : x2 = (2 : Int32)
        · have h := (if_pos c6).symm.trans h
          refine lv_tableIn (pc := 11) (off := 59) (tgt := 70) hx hb dX8_clue_11 (by rw [c6]; decide) (by rw [c6]; decide) (by rw [c6]; decide) (by decide) ?_
          refine lv_aload_n (pc := 70) hx hb dX8_clue_70 rfl (lv_at hl 0 rfl) ?_
          refine x_get (pc := 71) (v := .ref (ad 1)) E hP (by decide) sh8 rfl inX8 0 (by decide) q972 rfl dX8_clue_71 ?_
          refine lv_sipush (pc := 74) (v := (152 : Int32)) hx hb dX8_clue_74 (by decide) ?_
          refine lv_iload_n (pc := 77) hx hb dX8_clue_77 rfl (lv_at hl 1 rfl) ?_
          refine lv_iadd (pc := 78) hx hb dX8_clue_78 ?_
          obtain ⟨c16, h⟩ := ite_some h
          refine x_iald (pc := 79) (j := ((152 : Int32) + x1).toNatClampNeg) E hP (by decide) sh8a1 0 rfl (inb_in c16) rfl dX8_clue_79 ?_
          obtain rfl := som1 h
          exact x_iret E hP hS rfl dX8_clue_80
        · have h := (if_neg c6).symm.trans h
          by_cases c7 : x2 = (3 : Int32)
          · have h := (if_pos c7).symm.trans h
            refine lv_tableIn (pc := 11) (off := 70) (tgt := 81) hx hb dX8_clue_11 (by rw [c7]; decide) (by rw [c7]; decide) (by rw [c7]; decide) (by decide) ?_
            refine lv_aload_n (pc := 81) hx hb dX8_clue_81 rfl (lv_at hl 0 rfl) ?_
            refine x_get (pc := 82) (v := .ref (ad 1)) E hP (by decide) sh8 rfl inX8 0 (by decide) q972 rfl dX8_clue_82 ?_
            refine lv_sipush (pc := 85) (v := (164 : Int32)) hx hb dX8_clue_85 (by decide) ?_
            refine lv_iload_n (pc := 88) hx hb dX8_clue_88 rfl (lv_at hl 1 rfl) ?_
            refine lv_iadd (pc := 89) hx hb dX8_clue_89 ?_
            obtain ⟨c15, h⟩ := ite_some h
            refine x_iald (pc := 90) (j := ((164 : Int32) + x1).toNatClampNeg) E hP (by decide) sh8a1 0 rfl (inb_in c15) rfl dX8_clue_90 ?_
            obtain rfl := som1 h
            exact x_iret E hP hS rfl dX8_clue_91
          · have h := (if_neg c7).symm.trans h
            by_cases c8 : x2 = (4 : Int32)
            · have h := (if_pos c8).symm.trans h
              refine lv_tableIn (pc := 11) (off := 81) (tgt := 92) hx hb dX8_clue_11 (by rw [c8]; decide) (by rw [c8]; decide) (by rw [c8]; decide) (by decide) ?_
              refine lv_aload_n (pc := 92) hx hb dX8_clue_92 rfl (lv_at hl 0 rfl) ?_
              refine lv_iload_n (pc := 93) hx hb dX8_clue_93 rfl (lv_at hl 1 rfl) ?_
              obtain ⟨y13, hy13, h⟩ := bnd_ex h
              refine x_callVi (pc := 94) (st := .int x1 :: .ref (ad 0) :: []) (As := [.int x1]) E hEx hl.1 hP hS (kX8_digitOf hap  M _ _ hy13) gX8_158 hdX8_digitOf rfl (by decide) sh8 rfl ⟨Nat.le_of_ble_eq_true rfl, Nat.le_of_ble_eq_true rfl⟩ ⟨rfl, rfl⟩ dX8_clue_94 rfl (Nat.le_of_ble_eq_true rfl) (fun H locs hP hS n14 => ?_)
              obtain rfl := som1 h
              exact x_iret E hP hS rfl dX8_clue_97
            · have h := (if_neg c8).symm.trans h
              by_cases c9 : x2 = (5 : Int32)
              · have h := (if_pos c9).symm.trans h
                refine lv_tableIn (pc := 11) (off := 87) (tgt := 98) hx hb dX8_clue_11 (by rw [c9]; decide) (by rw [c9]; decide) (by rw [c9]; decide) (by decide) ?_
                refine lv_aload_n (pc := 98) hx hb dX8_clue_98 rfl (lv_at hl 0 rfl) ?_
                refine lv_iload_n (pc := 99) hx hb dX8_clue_99 rfl (lv_at hl 1 rfl) ?_
                obtain ⟨y10, hy10, h⟩ := bnd_ex h
                refine x_callVi (pc := 100) (st := .int x1 :: .ref (ad 0) :: []) (As := [.int x1]) E hEx hl.1 hP hS (kX8_clueAtHand hap  M _ _ hy10) gX8_51 hdX8_clueAtHand rfl (by decide) sh8 rfl ⟨Nat.le_of_ble_eq_true rfl, Nat.le_of_ble_eq_true rfl⟩ ⟨rfl, rfl⟩ dX8_clue_100 rfl (Nat.le_of_ble_eq_true rfl) (fun H locs hP hS n11 => ?_)
                refine lv_if_eq (pc := 103) (tgt := 110) hx hb dX8_clue_103 (by decide) (fun c12 => ?_) (fun c12 => ?_)
                · have h := (if_pos c12).symm.trans h
                  refine lv_iconst (pc := 110) (v := (0 : Int32)) hx hb dX8_clue_110 (by decide) ?_
                  obtain rfl := som1 h
                  exact x_iret E hP hS rfl dX8_clue_111
                · have h := (if_neg c12).symm.trans h
                  refine lv_iconst (pc := 106) (v := (1 : Int32)) hx hb dX8_clue_106 (by decide) ?_
                  refine lv_goto (pc := 107) (tgt := 111) hx hb dX8_clue_107 (by decide) ?_
                  obtain rfl := som1 h
                  exact x_iret E hP hS rfl dX8_clue_111
              · have h := (if_neg c9).symm.trans h
                refine lv_tableOut (pc := 11) (tgt := 112) hx hb dX8_clue_11 (by have e0 := ne_lit (k := 0) (by decide) c4; have e1 := ne_lit (k := 1) (by decide) c5; have e2 := ne_lit (k := 2) (by decide) c6; have e3 := ne_lit (k := 3) (by decide) c7; have e4 := ne_lit (k := 4) (by decide) c8; have e5 := ne_lit (k := 5) (by decide) c9; omega) (by decide) ?_
                refine lv_bipush (pc := 112) (v := (-2 : Int32)) hx hb dX8_clue_112 (by decide) ?_
                obtain rfl := som1 h
                exact x_iret E hP hS rfl dX8_clue_114
  · have h := (if_neg c3).symm.trans h
    refine lv_iconst (pc := 8) (v := (-1 : Int32)) hx hb dX8_clue_8 (by decide) ?_
    obtain rfl := som1 h
    exact x_iret E hP hS rfl dX8_clue_9
set_option maxRecDepth 100000 in
set_option maxHeartbeats 4000000 in
theorem kX8_heldSet (hap : Apart 7 ad)   (M : Mem)  (v : Int32) (h : fX8_heldSet M = some v) : RI G ad cA cZ cC yX8_heldSet cX8_heldSet 3 .int ({ frames := 1, cells := 0, slots := 0, locals := 21 } : Room) [.ref (ad 0)] M v M := by
  refine CI.mk (own := RX8) (ls0 := [(0, .ref (ad 0))]) (by decide +kernel) rfl hap (Nat.le_of_ble_eq_true rfl) rfl ?_
  intro p l e s m args below meth c ls E hP hl
  have hx := E.1
  have hb := E.2.1
  have hown := E.2.2.2.2.2.1
  have hts := E.2.2.2.2.2.2.1
  have hEx := ExR.ok 7 ad
  have hS : va_S (AW 7 ad) s.heap s.heap [] := va_S.rf
  have hL4 : ∀ (n : Nat) (M : Mem) (x1 x2 : Int32) (H : Heap) (locs : List Loc) (ls : Array Slot), fX8_heldSet_L4 n M x1 x2 = some v → va_P G vwCl (WW 7 (shR cA cZ cC ad) ad M) H → va_S (AW 7 ad) s.heap H locs → lv_has ls 3 [(0, .ref (ad 0)), (1, .int x1), (2, .int x2)] → W p l e ({ frames := 1, cells := 0, slots := 0, locals := 21 } : Room) s m args below meth c H locs 0 0 (QI below G 7 (shR cA cZ cC ad) ad .int args s v M) (F0 m 4 ls []) := by
    intro n
    induction n with
    | zero => intro M x1 x2 H locs ls h; cases h
    | succ n ih =>
      intro M x1 x2 H locs ls h hP hS hl
      rw [fX8_heldSet_L4] at h
      refine lv_iload_n (pc := 4) hx hb dX8_heldSet_4 rfl (lv_at hl 2 rfl) ?_
      refine lv_aload_n (pc := 5) hx hb dX8_heldSet_5 rfl (lv_at hl 0 rfl) ?_
      refine x_get (pc := 6) (v := .ref (ad 1)) E hP (by decide) sh8 rfl inX8 0 (by decide) q972 rfl dX8_heldSet_6 ?_
      refine lv_iconst (pc := 9) (v := (1 : Int32)) hx hb dX8_heldSet_9 (by decide) ?_
      refine x_iald (pc := 10) (j := 1) E hP (by decide) sh8a1 0 rfl (vp_inl (by decide)) rfl dX8_heldSet_10 ?_
      refine lv_icmp_ge (pc := 11) (tgt := 38) hx hb dX8_heldSet_11 (by decide) (fun c1 => ?_) (fun c1 => ?_)
      · have h := (if_pos c1).symm.trans h
        refine lv_iload_n (pc := 38) hx hb dX8_heldSet_38 rfl (lv_at hl 1 rfl) ?_
        obtain rfl := som1 h
        exact x_iret E hP hS rfl dX8_heldSet_39
      · have h := (if_neg c1).symm.trans h
        refine lv_iload_n (pc := 14) hx hb dX8_heldSet_14 rfl (lv_at hl 1 rfl) ?_
        refine lv_aload_n (pc := 15) hx hb dX8_heldSet_15 rfl (lv_at hl 0 rfl) ?_
        refine lv_iload_n (pc := 16) hx hb dX8_heldSet_16 rfl (lv_at hl 2 rfl) ?_
        obtain ⟨y2, hy2, h⟩ := bnd_ex h
        refine x_callVi (pc := 17) (st := .int x2 :: .ref (ad 0) :: .int x1 :: []) (As := [.int x2]) E hEx hl.1 hP hS (kX8_isHeld hap  M _ _ hy2) gX8_45 hdX8_isHeld rfl (by decide) sh8 rfl ⟨Nat.le_of_ble_eq_true rfl, Nat.le_of_ble_eq_true rfl⟩ ⟨rfl, rfl⟩ dX8_heldSet_17 rfl (Nat.le_of_ble_eq_true rfl) (fun H locs hP hS n3 => ?_)
        refine lv_if_eq (pc := 20) (tgt := 29) hx hb dX8_heldSet_20 (by decide) (fun c4 => ?_) (fun c4 => ?_)
        · have h := (if_pos c4).symm.trans h
          refine lv_iconst (pc := 29) (v := (0 : Int32)) hx hb dX8_heldSet_29 (by decide) ?_
          refine lv_ior (pc := 30) hx hb dX8_heldSet_30 ?_
          refine lv_istore_n (pc := 31) (lv' := [(1, .int (x1 ||| (0 : Int32))), (0, .ref (ad 0)), (2, .int x2)]) hx hb dX8_heldSet_31 rfl hl (by decide) rfl (fun ls hl => ?_)
          refine lv_iinc (pc := 32) (v := (x2 + 1)) (lv' := [(2, .int (x2 + 1)), (1, .int (x1 ||| (0 : Int32))), (0, .ref (ad 0))]) hx hb dX8_heldSet_32 hl (k := 2) rfl rfl (by decide) rfl (fun ls hl => ?_)
          refine lv_goto (pc := 35) (tgt := 4) hx hb dX8_heldSet_35 (by decide) ?_
          exact ih M (x1 ||| (0 : Int32)) (x2 + 1) _ _ _ h hP hS (lv_sub hl [2, 1, 0] rfl)
        · have h := (if_neg c4).symm.trans h
          refine lv_iconst (pc := 23) (v := (1 : Int32)) hx hb dX8_heldSet_23 (by decide) ?_
          refine lv_iload_n (pc := 24) hx hb dX8_heldSet_24 rfl (lv_at hl 2 rfl) ?_
          refine lv_ishl (pc := 25) hx hb dX8_heldSet_25 ?_
          refine lv_goto (pc := 26) (tgt := 30) hx hb dX8_heldSet_26 (by decide) ?_
          refine lv_ior (pc := 30) hx hb dX8_heldSet_30 ?_
          obtain ⟨y5, hy5, h⟩ := thn_ex h
          refine W.eq (g2 := F0 m 31 ls (.int y5 :: [])) (by rw [← hy5]) ?_
          refine lv_istore_n (pc := 31) (lv' := [(1, .int y5), (0, .ref (ad 0)), (2, .int x2)]) hx hb dX8_heldSet_31 rfl hl (by decide) rfl (fun ls hl => ?_)
          refine lv_iinc (pc := 32) (v := (x2 + 1)) (lv' := [(2, .int (x2 + 1)), (1, .int y5), (0, .ref (ad 0))]) hx hb dX8_heldSet_32 hl (k := 2) rfl rfl (by decide) rfl (fun ls hl => ?_)
          refine lv_goto (pc := 35) (tgt := 4) hx hb dX8_heldSet_35 (by decide) ?_
          exact ih M y5 (x2 + 1) _ _ _ h hP hS (lv_sub hl [2, 1, 0] rfl)
  unfold fX8_heldSet at h
  refine lv_iconst (pc := 0) (v := (0 : Int32)) hx hb dX8_heldSet_0 (by decide) ?_
  refine lv_istore_n (pc := 1) (lv' := [(1, .int (0 : Int32)), (0, .ref (ad 0))]) hx hb dX8_heldSet_1 rfl hl (by decide) rfl (fun ls hl => ?_)
  refine lv_iconst (pc := 2) (v := (0 : Int32)) hx hb dX8_heldSet_2 (by decide) ?_
  refine lv_istore_n (pc := 3) (lv' := [(2, .int (0 : Int32)), (1, .int (0 : Int32)), (0, .ref (ad 0))]) hx hb dX8_heldSet_3 rfl hl (by decide) rfl (fun ls hl => ?_)
  exact hL4 5000 M (0 : Int32) (0 : Int32) _ _ _ h hP hS (lv_sub hl [2, 1, 0] rfl)
set_option maxRecDepth 100000 in
set_option maxHeartbeats 4000000 in
theorem kX8_game (hap : Apart 7 ad)   (M : Mem) (x1 : Int32) (v : Int32) (h : fX8_game M x1 = some v) : RI G ad cA cZ cC yX8_game cX8_game 2 .int ({ frames := 2, cells := 0, slots := 0, locals := 43 } : Room) [.ref (ad 0), .int x1] M v M := by
  refine CI.mk (own := RX8) (ls0 := [(0, .ref (ad 0)), (1, .int x1)]) (by decide +kernel) rfl hap (Nat.le_of_ble_eq_true rfl) rfl ?_
  intro p l e s m args below meth c ls E hP hl
  have hx := E.1
  have hb := E.2.1
  have hown := E.2.2.2.2.2.1
  have hts := E.2.2.2.2.2.2.1
  have hEx := ExR.ok 7 ad
  have hS : va_S (AW 7 ad) s.heap s.heap [] := va_S.rf
  unfold fX8_game at h
  refine lv_iload_n (pc := 0) hx hb dX8_game_0 rfl (lv_at hl 1 rfl) ?_
  refine lv_iconst (pc := 1) (v := (0 : Int32)) hx hb dX8_game_1 (by decide) ?_
  refine lv_iconst (pc := 2) (v := (5 : Int32)) hx hb dX8_game_2 (by decide) ?_
  refine x_callSi (pc := 3) (st := .int (5 : Int32) :: .int (0 : Int32) :: .int x1 :: []) (As := [.int x1, .int (0 : Int32), .int (5 : Int32)]) E hEx hl.1 hP hS (kX8_in hap  M _ _ _ _ rfl) gX8_30 hsX8_in rfl ⟨Nat.le_of_ble_eq_true rfl, Nat.le_of_ble_eq_true rfl⟩ ⟨rfl, rfl⟩ dX8_game_3 rfl (Nat.le_of_ble_eq_true rfl) (fun H locs hP hS n1 => ?_)
  refine lv_if_ne (pc := 6) (tgt := 12) hx hb dX8_game_6 (by decide) (fun c2 => ?_) (fun c2 => ?_)
  · have h := (if_neg c2).symm.trans h
    refine lv_aload_n (pc := 12) hx hb dX8_game_12 rfl (lv_at hl 0 rfl) ?_
    obtain ⟨y3, hy3, h⟩ := bnd_ex h
    refine x_callVi (pc := 13) (st := .ref (ad 0) :: []) (As := []) E hEx hl.1 hP hS (kX8_plays hap  M  _ hy3) gX8_105 hdX8_plays rfl (by decide) sh8 rfl ⟨Nat.le_of_ble_eq_true rfl, Nat.le_of_ble_eq_true rfl⟩ ⟨rfl, rfl⟩ dX8_game_13 rfl (Nat.le_of_ble_eq_true rfl) (fun H locs hP hS n4 => ?_)
    refine lv_if_ne (pc := 16) (tgt := 22) hx hb dX8_game_16 (by decide) (fun c5 => ?_) (fun c5 => ?_)
    · have h := (if_neg c5).symm.trans h
      refine lv_iload_n (pc := 22) hx hb dX8_game_22 rfl (lv_at hl 1 rfl) ?_
      by_cases c6 : x1 = (0 : Int32)
      · have h := (if_pos c6).symm.trans h
        refine lv_tableIn (pc := 23) (off := 33) (tgt := 56) hx hb dX8_game_23 (by rw [c6]; decide) (by rw [c6]; decide) (by rw [c6]; decide) (by decide) ?_
        refine lv_aload_n (pc := 56) hx hb dX8_game_56 rfl (lv_at hl 0 rfl) ?_
        refine x_get (pc := 57) (v := .ref (ad 1)) E hP (by decide) sh8 rfl inX8 0 (by decide) q972 rfl dX8_game_57 ?_
        refine lv_bipush (pc := 60) (v := (11 : Int32)) hx hb dX8_game_60 (by decide) ?_
        refine x_iald (pc := 62) (j := 11) E hP (by decide) sh8a1 0 rfl (vp_inl (by decide)) rfl dX8_game_62 ?_
        obtain rfl := som1 h
        exact x_iret E hP hS rfl dX8_game_63
      · have h := (if_neg c6).symm.trans h
        by_cases c7 : x1 = (1 : Int32)
        · have h := (if_pos c7).symm.trans h
          refine lv_tableIn (pc := 23) (off := 41) (tgt := 64) hx hb dX8_game_23 (by rw [c7]; decide) (by rw [c7]; decide) (by rw [c7]; decide) (by decide) ?_
          refine lv_aload_n (pc := 64) hx hb dX8_game_64 rfl (lv_at hl 0 rfl) ?_
          refine x_get (pc := 65) (v := .ref (ad 1)) E hP (by decide) sh8 rfl inX8 0 (by decide) q972 rfl dX8_game_65 ?_
          refine lv_bipush (pc := 68) (v := (13 : Int32)) hx hb dX8_game_68 (by decide) ?_
          refine x_iald (pc := 70) (j := 13) E hP (by decide) sh8a1 0 rfl (vp_inl (by decide)) rfl dX8_game_70 ?_
          obtain rfl := som1 h
          exact x_iret E hP hS rfl dX8_game_71
        · have h := (if_neg c7).symm.trans h
          by_cases c8 : x1 = (2 : Int32)
          · have h := (if_pos c8).symm.trans h
            refine lv_tableIn (pc := 23) (off := 49) (tgt := 72) hx hb dX8_game_23 (by rw [c8]; decide) (by rw [c8]; decide) (by rw [c8]; decide) (by decide) ?_
            refine lv_aload_n (pc := 72) hx hb dX8_game_72 rfl (lv_at hl 0 rfl) ?_
            obtain ⟨y13, hy13, h⟩ := bnd_ex h
            refine x_callVi (pc := 73) (st := .ref (ad 0) :: []) (As := []) E hEx hl.1 hP hS (kX8_minutesLeft hap  M  _ hy13) gX8_127 hdX8_minutesLeft rfl (by decide) sh8 rfl ⟨Nat.le_of_ble_eq_true rfl, Nat.le_of_ble_eq_true rfl⟩ ⟨rfl, rfl⟩ dX8_game_73 rfl (Nat.le_of_ble_eq_true rfl) (fun H locs hP hS n14 => ?_)
            obtain rfl := som1 h
            exact x_iret E hP hS rfl dX8_game_76
          · have h := (if_neg c8).symm.trans h
            by_cases c9 : x1 = (3 : Int32)
            · have h := (if_pos c9).symm.trans h
              refine lv_tableIn (pc := 23) (off := 54) (tgt := 77) hx hb dX8_game_23 (by rw [c9]; decide) (by rw [c9]; decide) (by rw [c9]; decide) (by decide) ?_
              refine lv_aload_n (pc := 77) hx hb dX8_game_77 rfl (lv_at hl 0 rfl) ?_
              refine x_get (pc := 78) (v := .ref (ad 1)) E hP (by decide) sh8 rfl inX8 0 (by decide) q972 rfl dX8_game_78 ?_
              refine lv_bipush (pc := 81) (v := (14 : Int32)) hx hb dX8_game_81 (by decide) ?_
              refine x_iald (pc := 83) (j := 14) E hP (by decide) sh8a1 0 rfl (vp_inl (by decide)) rfl dX8_game_83 ?_
              obtain rfl := som1 h
              exact x_iret E hP hS rfl dX8_game_84
            · have h := (if_neg c9).symm.trans h
              by_cases c10 : x1 = (4 : Int32)
              · have h := (if_pos c10).symm.trans h
                refine lv_tableIn (pc := 23) (off := 62) (tgt := 85) hx hb dX8_game_23 (by rw [c10]; decide) (by rw [c10]; decide) (by rw [c10]; decide) (by decide) ?_
                refine lv_aload_n (pc := 85) hx hb dX8_game_85 rfl (lv_at hl 0 rfl) ?_
                obtain ⟨y11, hy11, h⟩ := bnd_ex h
                refine x_callVi (pc := 86) (st := .ref (ad 0) :: []) (As := []) E hEx hl.1 hP hS (kX8_heldSet hap  M  _ hy11) gX8_205 hdX8_heldSet rfl (by decide) sh8 rfl ⟨Nat.le_of_ble_eq_true rfl, Nat.le_of_ble_eq_true rfl⟩ ⟨rfl, rfl⟩ dX8_game_86 rfl (Nat.le_of_ble_eq_true rfl) (fun H locs hP hS n12 => ?_)
                obtain rfl := som1 h
                exact x_iret E hP hS rfl dX8_game_89
              · have h := (if_neg c10).symm.trans h
                refine lv_tableOut (pc := 23) (tgt := 90) hx hb dX8_game_23 (by have e0 := ne_lit (k := 0) (by decide) c6; have e1 := ne_lit (k := 1) (by decide) c7; have e2 := ne_lit (k := 2) (by decide) c8; have e3 := ne_lit (k := 3) (by decide) c9; have e4 := ne_lit (k := 4) (by decide) c10; omega) (by decide) ?_
                refine lv_aload_n (pc := 90) hx hb dX8_game_90 rfl (lv_at hl 0 rfl) ?_
                refine x_get (pc := 91) (v := .ref (ad 1)) E hP (by decide) sh8 rfl inX8 0 (by decide) q972 rfl dX8_game_91 ?_
                refine lv_bipush (pc := 94) (v := (15 : Int32)) hx hb dX8_game_94 (by decide) ?_
                refine x_iald (pc := 96) (j := 15) E hP (by decide) sh8a1 0 rfl (vp_inl (by decide)) rfl dX8_game_96 ?_
                obtain rfl := som1 h
                exact x_iret E hP hS rfl dX8_game_97
    · have h := (if_pos c5).symm.trans h
      refine lv_bipush (pc := 19) (v := (-4 : Int32)) hx hb dX8_game_19 (by decide) ?_
      obtain rfl := som1 h
      exact x_iret E hP hS rfl dX8_game_21
  · have h := (if_pos c2).symm.trans h
    refine lv_bipush (pc := 9) (v := (-2 : Int32)) hx hb dX8_game_9 (by decide) ?_
    obtain rfl := som1 h
    exact x_iret E hP hS rfl dX8_game_11
set_option maxRecDepth 100000 in
set_option maxHeartbeats 4000000 in
theorem kX8_startOf (hap : Apart 7 ad)   (M : Mem) (x1 : Int32) (v : Int32) (h : fX8_startOf M x1 = some v) : RI G ad cA cZ cC yX8_startOf cX8_startOf 4 .int ({ frames := 1, cells := 0, slots := 0, locals := 20 } : Room) [.ref (ad 0), .int x1] M v M := by
  refine CI.mk (own := RX8) (ls0 := [(0, .ref (ad 0)), (1, .int x1)]) (by decide +kernel) rfl hap (Nat.le_of_ble_eq_true rfl) rfl ?_
  intro p l e s m args below meth c ls E hP hl
  have hx := E.1
  have hb := E.2.1
  have hown := E.2.2.2.2.2.1
  have hts := E.2.2.2.2.2.2.1
  have hEx := ExR.ok 7 ad
  have hS : va_S (AW 7 ad) s.heap s.heap [] := va_S.rf
  have hL38 : ∀ (n : Nat) (M : Mem) (x1 x2 x3 : Int32) (H : Heap) (locs : List Loc) (ls : Array Slot), fX8_startOf_L38 n M x1 x2 x3 = some v → va_P G vwCl (WW 7 (shR cA cZ cC ad) ad M) H → va_S (AW 7 ad) s.heap H locs → lv_has ls 4 [(0, .ref (ad 0)), (1, .int x1), (2, .int x2), (3, .int x3)] → W p l e ({ frames := 1, cells := 0, slots := 0, locals := 20 } : Room) s m args below meth c H locs 0 0 (QI below G 7 (shR cA cZ cC ad) ad .int args s v M) (F0 m 38 ls []) := by
    intro n
    induction n with
    | zero => intro M x1 x2 x3 H locs ls h; cases h
    | succ n ih =>
      intro M x1 x2 x3 H locs ls h hP hS hl
      rw [fX8_startOf_L38] at h
      refine lv_iload_n (pc := 38) hx hb dX8_startOf_38 rfl (lv_at hl 3 rfl) ?_
      refine lv_iload_n (pc := 39) hx hb dX8_startOf_39 rfl (lv_at hl 1 rfl) ?_
      refine lv_icmp_ge (pc := 40) (tgt := 89) hx hb dX8_startOf_40 (by decide) (fun c4 => ?_) (fun c4 => ?_)
      · have h := (if_pos c4).symm.trans h
        refine lv_iload_n (pc := 89) hx hb dX8_startOf_89 rfl (lv_at hl 2 rfl) ?_
        refine lv_aload_n (pc := 90) hx hb dX8_startOf_90 rfl (lv_at hl 0 rfl) ?_
        refine x_get (pc := 91) (v := .ref (ad 1)) E hP (by decide) sh8 rfl inX8 0 (by decide) q972 rfl dX8_startOf_91 ?_
        refine lv_sipush (pc := 94) (v := (184 : Int32)) hx hb dX8_startOf_94 (by decide) ?_
        refine lv_iload_n (pc := 97) hx hb dX8_startOf_97 rfl (lv_at hl 1 rfl) ?_
        refine lv_iadd (pc := 98) hx hb dX8_startOf_98 ?_
        obtain ⟨c5, h⟩ := ite_some h
        refine x_iald (pc := 99) (j := ((184 : Int32) + x1).toNatClampNeg) E hP (by decide) sh8a1 0 rfl (inb_in c5) rfl dX8_startOf_99 ?_
        refine lv_icmp_le (pc := 100) (tgt := 107) hx hb dX8_startOf_100 (by decide) (fun c6 => ?_) (fun c6 => ?_)
        · have h := (if_pos c6).symm.trans h
          refine lv_aload_n (pc := 107) hx hb dX8_startOf_107 rfl (lv_at hl 0 rfl) ?_
          refine x_get (pc := 108) (v := .ref (ad 1)) E hP (by decide) sh8 rfl inX8 0 (by decide) q972 rfl dX8_startOf_108 ?_
          refine lv_sipush (pc := 111) (v := (184 : Int32)) hx hb dX8_startOf_111 (by decide) ?_
          refine lv_iload_n (pc := 114) hx hb dX8_startOf_114 rfl (lv_at hl 1 rfl) ?_
          refine lv_iadd (pc := 115) hx hb dX8_startOf_115 ?_
          obtain ⟨c7, h⟩ := ite_some h
          refine x_iald (pc := 116) (j := ((184 : Int32) + x1).toNatClampNeg) E hP (by decide) sh8a1 0 rfl (inb_in c7) rfl dX8_startOf_116 ?_
          obtain rfl := som1 h
          exact x_iret E hP hS rfl dX8_startOf_117
        · have h := (if_neg c6).symm.trans h
          refine lv_iload_n (pc := 103) hx hb dX8_startOf_103 rfl (lv_at hl 2 rfl) ?_
          refine lv_goto (pc := 104) (tgt := 117) hx hb dX8_startOf_104 (by decide) ?_
          obtain rfl := som1 h
          exact x_iret E hP hS rfl dX8_startOf_117
      · have h := (if_neg c4).symm.trans h
        refine lv_iload_n (pc := 43) hx hb dX8_startOf_43 rfl (lv_at hl 2 rfl) ?_
        refine lv_aload_n (pc := 44) hx hb dX8_startOf_44 rfl (lv_at hl 0 rfl) ?_
        refine x_get (pc := 45) (v := .ref (ad 1)) E hP (by decide) sh8 rfl inX8 0 (by decide) q972 rfl dX8_startOf_45 ?_
        refine lv_sipush (pc := 48) (v := (184 : Int32)) hx hb dX8_startOf_48 (by decide) ?_
        refine lv_iload_n (pc := 51) hx hb dX8_startOf_51 rfl (lv_at hl 3 rfl) ?_
        refine lv_iadd (pc := 52) hx hb dX8_startOf_52 ?_
        obtain ⟨c8, h⟩ := ite_some h
        refine x_iald (pc := 53) (j := ((184 : Int32) + x3).toNatClampNeg) E hP (by decide) sh8a1 0 rfl (inb_in c8) rfl dX8_startOf_53 ?_
        refine lv_icmp_le (pc := 54) (tgt := 61) hx hb dX8_startOf_54 (by decide) (fun c9 => ?_) (fun c9 => ?_)
        · have h := (if_pos c9).symm.trans h
          refine lv_aload_n (pc := 61) hx hb dX8_startOf_61 rfl (lv_at hl 0 rfl) ?_
          refine x_get (pc := 62) (v := .ref (ad 1)) E hP (by decide) sh8 rfl inX8 0 (by decide) q972 rfl dX8_startOf_62 ?_
          refine lv_sipush (pc := 65) (v := (184 : Int32)) hx hb dX8_startOf_65 (by decide) ?_
          refine lv_iload_n (pc := 68) hx hb dX8_startOf_68 rfl (lv_at hl 3 rfl) ?_
          refine lv_iadd (pc := 69) hx hb dX8_startOf_69 ?_
          obtain ⟨c10, h⟩ := ite_some h
          refine x_iald (pc := 70) (j := ((184 : Int32) + x3).toNatClampNeg) E hP (by decide) sh8a1 0 rfl (inb_in c10) rfl dX8_startOf_70 ?_
          refine lv_aload_n (pc := 71) hx hb dX8_startOf_71 rfl (lv_at hl 0 rfl) ?_
          refine x_get (pc := 72) (v := .ref (ad 1)) E hP (by decide) sh8 rfl inX8 0 (by decide) q972 rfl dX8_startOf_72 ?_
          refine lv_bipush (pc := 75) (v := (6 : Int32)) hx hb dX8_startOf_75 (by decide) ?_
          refine x_iald (pc := 77) (j := 6) E hP (by decide) sh8a1 0 rfl (vp_inl (by decide)) rfl dX8_startOf_77 ?_
          refine lv_iadd (pc := 78) hx hb dX8_startOf_78 ?_
          refine lv_bipush (pc := 79) (v := (10 : Int32)) hx hb dX8_startOf_79 (by decide) ?_
          refine lv_iadd (pc := 81) hx hb dX8_startOf_81 ?_
          obtain ⟨y11, hy11, h⟩ := thn_ex h
          refine W.eq (g2 := F0 m 82 ls (.int y11 :: [])) (by rw [← hy11]) ?_
          refine lv_istore_n (pc := 82) (lv' := [(2, .int y11), (0, .ref (ad 0)), (1, .int x1), (3, .int x3)]) hx hb dX8_startOf_82 rfl hl (by decide) rfl (fun ls hl => ?_)
          refine lv_iinc (pc := 83) (v := (x3 + 1)) (lv' := [(3, .int (x3 + 1)), (2, .int y11), (0, .ref (ad 0)), (1, .int x1)]) hx hb dX8_startOf_83 hl (k := 3) rfl rfl (by decide) rfl (fun ls hl => ?_)
          refine lv_goto (pc := 86) (tgt := 38) hx hb dX8_startOf_86 (by decide) ?_
          exact ih M x1 y11 (x3 + 1) _ _ _ h hP hS (lv_sub hl [2, 3, 1, 0] rfl)
        · have h := (if_neg c9).symm.trans h
          refine lv_iload_n (pc := 57) hx hb dX8_startOf_57 rfl (lv_at hl 2 rfl) ?_
          refine lv_goto (pc := 58) (tgt := 71) hx hb dX8_startOf_58 (by decide) ?_
          refine lv_aload_n (pc := 71) hx hb dX8_startOf_71 rfl (lv_at hl 0 rfl) ?_
          refine x_get (pc := 72) (v := .ref (ad 1)) E hP (by decide) sh8 rfl inX8 0 (by decide) q972 rfl dX8_startOf_72 ?_
          refine lv_bipush (pc := 75) (v := (6 : Int32)) hx hb dX8_startOf_75 (by decide) ?_
          refine x_iald (pc := 77) (j := 6) E hP (by decide) sh8a1 0 rfl (vp_inl (by decide)) rfl dX8_startOf_77 ?_
          refine lv_iadd (pc := 78) hx hb dX8_startOf_78 ?_
          refine lv_bipush (pc := 79) (v := (10 : Int32)) hx hb dX8_startOf_79 (by decide) ?_
          refine lv_iadd (pc := 81) hx hb dX8_startOf_81 ?_
          obtain ⟨y12, hy12, h⟩ := thn_ex h
          refine W.eq (g2 := F0 m 82 ls (.int y12 :: [])) (by rw [← hy12]) ?_
          refine lv_istore_n (pc := 82) (lv' := [(2, .int y12), (0, .ref (ad 0)), (1, .int x1), (3, .int x3)]) hx hb dX8_startOf_82 rfl hl (by decide) rfl (fun ls hl => ?_)
          refine lv_iinc (pc := 83) (v := (x3 + 1)) (lv' := [(3, .int (x3 + 1)), (2, .int y12), (0, .ref (ad 0)), (1, .int x1)]) hx hb dX8_startOf_83 hl (k := 3) rfl rfl (by decide) rfl (fun ls hl => ?_)
          refine lv_goto (pc := 86) (tgt := 38) hx hb dX8_startOf_86 (by decide) ?_
          exact ih M x1 y12 (x3 + 1) _ _ _ h hP hS (lv_sub hl [2, 3, 1, 0] rfl)
  unfold fX8_startOf at h
  refine lv_aload_n (pc := 0) hx hb dX8_startOf_0 rfl (lv_at hl 0 rfl) ?_
  obtain ⟨y1, hy1, h⟩ := bnd_ex h
  refine x_callVi (pc := 1) (st := .ref (ad 0) :: []) (As := []) E hEx hl.1 hP hS (kX8_plays hap  M  _ hy1) gX8_105 hdX8_plays rfl (by decide) sh8 rfl ⟨Nat.le_of_ble_eq_true rfl, Nat.le_of_ble_eq_true rfl⟩ ⟨rfl, rfl⟩ dX8_startOf_1 rfl (Nat.le_of_ble_eq_true rfl) (fun H locs hP hS n2 => ?_)
  refine lv_if_eq (pc := 4) (tgt := 28) hx hb dX8_startOf_4 (by decide) (fun c3 => ?_) (fun c3 => ?_)
  · have h := (if_pos c3).symm.trans h
    refine lv_aload_n (pc := 28) hx hb dX8_startOf_28 rfl (lv_at hl 0 rfl) ?_
    refine x_get (pc := 29) (v := .ref (ad 1)) E hP (by decide) sh8 rfl inX8 0 (by decide) q972 rfl dX8_startOf_29 ?_
    refine lv_bipush (pc := 32) (v := (9 : Int32)) hx hb dX8_startOf_32 (by decide) ?_
    refine x_iald (pc := 34) (j := 9) E hP (by decide) sh8a1 0 rfl (vp_inl (by decide)) rfl dX8_startOf_34 ?_
    refine lv_istore_n (pc := 35) (lv' := [(2, .int (M 1 9)), (0, .ref (ad 0)), (1, .int x1)]) hx hb dX8_startOf_35 rfl hl (by decide) rfl (fun ls hl => ?_)
    refine lv_iconst (pc := 36) (v := (0 : Int32)) hx hb dX8_startOf_36 (by decide) ?_
    refine lv_istore_n (pc := 37) (lv' := [(3, .int (0 : Int32)), (2, .int (M 1 9)), (0, .ref (ad 0)), (1, .int x1)]) hx hb dX8_startOf_37 rfl hl (by decide) rfl (fun ls hl => ?_)
    exact hL38 5000 M x1 (M 1 9) (0 : Int32) _ _ _ h hP hS (lv_sub hl [2, 3, 1, 0] rfl)
  · have h := (if_neg c3).symm.trans h
    refine lv_aload_n (pc := 7) hx hb dX8_startOf_7 rfl (lv_at hl 0 rfl) ?_
    refine x_get (pc := 8) (v := .ref (ad 1)) E hP (by decide) sh8 rfl inX8 0 (by decide) q972 rfl dX8_startOf_8 ?_
    refine lv_bipush (pc := 11) (v := (13 : Int32)) hx hb dX8_startOf_11 (by decide) ?_
    refine x_iald (pc := 13) (j := 13) E hP (by decide) sh8a1 0 rfl (vp_inl (by decide)) rfl dX8_startOf_13 ?_
    refine lv_aload_n (pc := 14) hx hb dX8_startOf_14 rfl (lv_at hl 0 rfl) ?_
    refine x_get (pc := 15) (v := .ref (ad 1)) E hP (by decide) sh8 rfl inX8 0 (by decide) q972 rfl dX8_startOf_15 ?_
    refine lv_bipush (pc := 18) (v := (6 : Int32)) hx hb dX8_startOf_18 (by decide) ?_
    refine x_iald (pc := 20) (j := 6) E hP (by decide) sh8a1 0 rfl (vp_inl (by decide)) rfl dX8_startOf_20 ?_
    refine lv_iadd (pc := 21) hx hb dX8_startOf_21 ?_
    refine lv_bipush (pc := 22) (v := (10 : Int32)) hx hb dX8_startOf_22 (by decide) ?_
    refine lv_iadd (pc := 24) hx hb dX8_startOf_24 ?_
    refine lv_goto (pc := 25) (tgt := 35) hx hb dX8_startOf_25 (by decide) ?_
    obtain ⟨y13, hy13, h⟩ := thn_ex h
    refine W.eq (g2 := F0 m 35 ls (.int y13 :: [])) (by rw [← hy13]) ?_
    refine lv_istore_n (pc := 35) (lv' := [(2, .int y13), (0, .ref (ad 0)), (1, .int x1)]) hx hb dX8_startOf_35 rfl hl (by decide) rfl (fun ls hl => ?_)
    refine lv_iconst (pc := 36) (v := (0 : Int32)) hx hb dX8_startOf_36 (by decide) ?_
    refine lv_istore_n (pc := 37) (lv' := [(3, .int (0 : Int32)), (2, .int y13), (0, .ref (ad 0)), (1, .int x1)]) hx hb dX8_startOf_37 rfl hl (by decide) rfl (fun ls hl => ?_)
    exact hL38 5000 M x1 y13 (0 : Int32) _ _ _ h hP hS (lv_sub hl [2, 3, 1, 0] rfl)
set_option maxRecDepth 100000 in
set_option maxHeartbeats 4000000 in
theorem kX8_group (hap : Apart 7 ad)   (M : Mem) (x1 x2 : Int32) (v : Int32) (h : fX8_group M x1 x2 = some v) : RI G ad cA cZ cC yX8_group cX8_group 3 .int ({ frames := 2, cells := 0, slots := 0, locals := 43 } : Room) [.ref (ad 0), .int x1, .int x2] M v M := by
  refine CI.mk (own := RX8) (ls0 := [(0, .ref (ad 0)), (1, .int x1), (2, .int x2)]) (by decide +kernel) rfl hap (Nat.le_of_ble_eq_true rfl) rfl ?_
  intro p l e s m args below meth c ls E hP hl
  have hx := E.1
  have hb := E.2.1
  have hown := E.2.2.2.2.2.1
  have hts := E.2.2.2.2.2.2.1
  have hEx := ExR.ok 7 ad
  have hS : va_S (AW 7 ad) s.heap s.heap [] := va_S.rf
  unfold fX8_group at h
  refine lv_aload_n (pc := 0) hx hb dX8_group_0 rfl (lv_at hl 0 rfl) ?_
  refine lv_iload_n (pc := 1) hx hb dX8_group_1 rfl (lv_at hl 1 rfl) ?_
  obtain ⟨y1, hy1, h⟩ := bnd_ex h
  refine x_callVi (pc := 2) (st := .int x1 :: .ref (ad 0) :: []) (As := [.int x1]) E hEx hl.1 hP hS (kX8_noGroup hap  M _ _ hy1) gX8_109 hdX8_noGroup rfl (by decide) sh8 rfl ⟨Nat.le_of_ble_eq_true rfl, Nat.le_of_ble_eq_true rfl⟩ ⟨rfl, rfl⟩ dX8_group_2 rfl (Nat.le_of_ble_eq_true rfl) (fun H locs hP hS n2 => ?_)
  refine lv_if_eq (pc := 5) (tgt := 10) hx hb dX8_group_5 (by decide) (fun c3 => ?_) (fun c3 => ?_)
  · have h := (if_pos c3).symm.trans h
    refine lv_iload_n (pc := 10) hx hb dX8_group_10 rfl (lv_at hl 2 rfl) ?_
    refine lv_if_ne (pc := 11) (tgt := 27) hx hb dX8_group_11 (by decide) (fun c4 => ?_) (fun c4 => ?_)
    · have h := (if_neg c4).symm.trans h
      refine lv_iload_n (pc := 27) hx hb dX8_group_27 rfl (lv_at hl 2 rfl) ?_
      refine lv_iconst (pc := 28) (v := (1 : Int32)) hx hb dX8_group_28 (by decide) ?_
      refine lv_icmp_ne (pc := 29) (tgt := 45) hx hb dX8_group_29 (by decide) (fun c5 => ?_) (fun c5 => ?_)
      · have h := (if_neg c5).symm.trans h
        refine lv_iload_n (pc := 45) hx hb dX8_group_45 rfl (lv_at hl 2 rfl) ?_
        refine lv_iconst (pc := 46) (v := (2 : Int32)) hx hb dX8_group_46 (by decide) ?_
        refine lv_icmp_ne (pc := 47) (tgt := 58) hx hb dX8_group_47 (by decide) (fun c6 => ?_) (fun c6 => ?_)
        · have h := (if_neg c6).symm.trans h
          refine lv_bipush (pc := 58) (v := (-2 : Int32)) hx hb dX8_group_58 (by decide) ?_
          obtain rfl := som1 h
          exact x_iret E hP hS rfl dX8_group_60
        · have h := (if_pos c6).symm.trans h
          refine lv_aload_n (pc := 50) hx hb dX8_group_50 rfl (lv_at hl 0 rfl) ?_
          refine lv_iload_n (pc := 51) hx hb dX8_group_51 rfl (lv_at hl 1 rfl) ?_
          obtain ⟨y7, hy7, h⟩ := bnd_ex h
          refine x_callVi (pc := 52) (st := .int x1 :: .ref (ad 0) :: []) (As := [.int x1]) E hEx hl.1 hP hS (kX8_startOf hap  M _ _ hy7) gX8_208 hdX8_startOf rfl (by decide) sh8 rfl ⟨Nat.le_of_ble_eq_true rfl, Nat.le_of_ble_eq_true rfl⟩ ⟨rfl, rfl⟩ dX8_group_52 rfl (Nat.le_of_ble_eq_true rfl) (fun H locs hP hS n8 => ?_)
          refine lv_goto (pc := 55) (tgt := 60) hx hb dX8_group_55 (by decide) ?_
          obtain rfl := som1 h
          exact x_iret E hP hS rfl dX8_group_60
      · have h := (if_pos c5).symm.trans h
        refine lv_aload_n (pc := 32) hx hb dX8_group_32 rfl (lv_at hl 0 rfl) ?_
        refine x_get (pc := 33) (v := .ref (ad 1)) E hP (by decide) sh8 rfl inX8 0 (by decide) q972 rfl dX8_group_33 ?_
        refine lv_sipush (pc := 36) (v := (184 : Int32)) hx hb dX8_group_36 (by decide) ?_
        refine lv_iload_n (pc := 39) hx hb dX8_group_39 rfl (lv_at hl 1 rfl) ?_
        refine lv_iadd (pc := 40) hx hb dX8_group_40 ?_
        obtain ⟨c9, h⟩ := ite_some h
        refine x_iald (pc := 41) (j := ((184 : Int32) + x1).toNatClampNeg) E hP (by decide) sh8a1 0 rfl (inb_in c9) rfl dX8_group_41 ?_
        refine lv_goto (pc := 42) (tgt := 60) hx hb dX8_group_42 (by decide) ?_
        obtain rfl := som1 h
        exact x_iret E hP hS rfl dX8_group_60
    · have h := (if_pos c4).symm.trans h
      refine lv_aload_n (pc := 14) hx hb dX8_group_14 rfl (lv_at hl 0 rfl) ?_
      refine x_get (pc := 15) (v := .ref (ad 1)) E hP (by decide) sh8 rfl inX8 0 (by decide) q972 rfl dX8_group_15 ?_
      refine lv_sipush (pc := 18) (v := (176 : Int32)) hx hb dX8_group_18 (by decide) ?_
      refine lv_iload_n (pc := 21) hx hb dX8_group_21 rfl (lv_at hl 1 rfl) ?_
      refine lv_iadd (pc := 22) hx hb dX8_group_22 ?_
      obtain ⟨c10, h⟩ := ite_some h
      refine x_iald (pc := 23) (j := ((176 : Int32) + x1).toNatClampNeg) E hP (by decide) sh8a1 0 rfl (inb_in c10) rfl dX8_group_23 ?_
      refine lv_goto (pc := 24) (tgt := 60) hx hb dX8_group_24 (by decide) ?_
      obtain rfl := som1 h
      exact x_iret E hP hS rfl dX8_group_60
  · have h := (if_neg c3).symm.trans h
    refine lv_iconst (pc := 8) (v := (-1 : Int32)) hx hb dX8_group_8 (by decide) ?_
    obtain rfl := som1 h
    exact x_iret E hP hS rfl dX8_group_9
set_option maxRecDepth 100000 in
set_option maxHeartbeats 4000000 in
theorem kX8_result (hap : Apart 7 ad)   (M : Mem) (x1 x2 : Int32) (v : Int32) (h : fX8_result M x1 x2 = some v) : RI G ad cA cZ cC yX8_result cX8_result 3 .int ({ frames := 1, cells := 0, slots := 0, locals := 22 } : Room) [.ref (ad 0), .int x1, .int x2] M v M := by
  refine CI.mk (own := RX8) (ls0 := [(0, .ref (ad 0)), (1, .int x1), (2, .int x2)]) (by decide +kernel) rfl hap (Nat.le_of_ble_eq_true rfl) rfl ?_
  intro p l e s m args below meth c ls E hP hl
  have hx := E.1
  have hb := E.2.1
  have hown := E.2.2.2.2.2.1
  have hts := E.2.2.2.2.2.2.1
  have hEx := ExR.ok 7 ad
  have hS : va_S (AW 7 ad) s.heap s.heap [] := va_S.rf
  unfold fX8_result at h
  refine lv_iload_n (pc := 0) hx hb dX8_result_0 rfl (lv_at hl 1 rfl) ?_
  refine lv_iconst (pc := 1) (v := (0 : Int32)) hx hb dX8_result_1 (by decide) ?_
  refine lv_aload_n (pc := 2) hx hb dX8_result_2 rfl (lv_at hl 0 rfl) ?_
  refine x_get (pc := 3) (v := .ref (ad 1)) E hP (by decide) sh8 rfl inX8 0 (by decide) q972 rfl dX8_result_3 ?_
  refine lv_iconst (pc := 6) (v := (4 : Int32)) hx hb dX8_result_6 (by decide) ?_
  refine x_iald (pc := 7) (j := 4) E hP (by decide) sh8a1 0 rfl (vp_inl (by decide)) rfl dX8_result_7 ?_
  refine lv_iconst (pc := 8) (v := (1 : Int32)) hx hb dX8_result_8 (by decide) ?_
  refine lv_isub (pc := 9) hx hb dX8_result_9 ?_
  refine x_callSi (pc := 10) (st := .int ((M 1 4) - (1 : Int32)) :: .int (0 : Int32) :: .int x1 :: []) (As := [.int x1, .int (0 : Int32), .int ((M 1 4) - (1 : Int32))]) E hEx hl.1 hP hS (kX8_in hap  M _ _ _ _ rfl) gX8_30 hsX8_in rfl ⟨Nat.le_of_ble_eq_true rfl, Nat.le_of_ble_eq_true rfl⟩ ⟨rfl, rfl⟩ dX8_result_10 rfl (Nat.le_of_ble_eq_true rfl) (fun H locs hP hS n1 => ?_)
  refine lv_if_ne (pc := 13) (tgt := 18) hx hb dX8_result_13 (by decide) (fun c2 => ?_) (fun c2 => ?_)
  · have h := (if_neg c2).symm.trans h
    refine lv_iload_n (pc := 18) hx hb dX8_result_18 rfl (lv_at hl 2 rfl) ?_
    refine lv_iconst (pc := 19) (v := (0 : Int32)) hx hb dX8_result_19 (by decide) ?_
    refine lv_bipush (pc := 20) (v := (6 : Int32)) hx hb dX8_result_20 (by decide) ?_
    refine x_callSi (pc := 22) (st := .int (6 : Int32) :: .int (0 : Int32) :: .int x2 :: []) (As := [.int x2, .int (0 : Int32), .int (6 : Int32)]) E hEx hl.1 hP hS (kX8_in hap  M _ _ _ _ rfl) gX8_30 hsX8_in rfl ⟨Nat.le_of_ble_eq_true rfl, Nat.le_of_ble_eq_true rfl⟩ ⟨rfl, rfl⟩ dX8_result_22 rfl (Nat.le_of_ble_eq_true rfl) (fun H locs hP hS n3 => ?_)
    refine lv_if_eq (pc := 25) (tgt := 46) hx hb dX8_result_25 (by decide) (fun c4 => ?_) (fun c4 => ?_)
    · have h := (if_pos c4).symm.trans h
      refine lv_bipush (pc := 46) (v := (-2 : Int32)) hx hb dX8_result_46 (by decide) ?_
      obtain rfl := som1 h
      exact x_iret E hP hS rfl dX8_result_48
    · have h := (if_neg c4).symm.trans h
      refine lv_aload_n (pc := 28) hx hb dX8_result_28 rfl (lv_at hl 0 rfl) ?_
      refine x_get (pc := 29) (v := .ref (ad 1)) E hP (by decide) sh8 rfl inX8 0 (by decide) q972 rfl dX8_result_29 ?_
      refine lv_sipush (pc := 32) (v := (192 : Int32)) hx hb dX8_result_32 (by decide) ?_
      refine lv_bipush (pc := 35) (v := (7 : Int32)) hx hb dX8_result_35 (by decide) ?_
      refine lv_iload_n (pc := 37) hx hb dX8_result_37 rfl (lv_at hl 1 rfl) ?_
      refine lv_imul (pc := 38) hx hb dX8_result_38 ?_
      refine lv_iadd (pc := 39) hx hb dX8_result_39 ?_
      refine lv_iload_n (pc := 40) hx hb dX8_result_40 rfl (lv_at hl 2 rfl) ?_
      refine lv_iadd (pc := 41) hx hb dX8_result_41 ?_
      obtain ⟨c5, h⟩ := ite_some h
      refine x_iald (pc := 42) (j := (((192 : Int32) + ((7 : Int32) * x1)) + x2).toNatClampNeg) E hP (by decide) sh8a1 0 rfl (inb_in c5) rfl dX8_result_42 ?_
      refine lv_goto (pc := 43) (tgt := 48) hx hb dX8_result_43 (by decide) ?_
      obtain rfl := som1 h
      exact x_iret E hP hS rfl dX8_result_48
  · have h := (if_pos c2).symm.trans h
    refine lv_iconst (pc := 16) (v := (-1 : Int32)) hx hb dX8_result_16 (by decide) ?_
    obtain rfl := som1 h
    exact x_iret E hP hS rfl dX8_result_17
set_option maxRecDepth 100000 in
set_option maxHeartbeats 4000000 in
theorem kX8_faded (hap : Apart 7 ad)   (M : Mem)  (v : Int32) (h : fX8_faded M = some v) : RI G ad cA cZ cC yX8_faded cX8_faded 3 .int ({ frames := 0, cells := 0, slots := 0, locals := 0 } : Room) [.ref (ad 0)] M v M := by
  refine CI.mk (own := RX8) (ls0 := [(0, .ref (ad 0))]) (by decide +kernel) rfl hap (Nat.le_of_ble_eq_true rfl) rfl ?_
  intro p l e s m args below meth c ls E hP hl
  have hx := E.1
  have hb := E.2.1
  have hown := E.2.2.2.2.2.1
  have hts := E.2.2.2.2.2.2.1
  have hEx := ExR.ok 7 ad
  have hS : va_S (AW 7 ad) s.heap s.heap [] := va_S.rf
  have hL4 : ∀ (n : Nat) (M : Mem) (x1 x2 : Int32) (H : Heap) (locs : List Loc) (ls : Array Slot), fX8_faded_L4 n M x1 x2 = some v → va_P G vwCl (WW 7 (shR cA cZ cC ad) ad M) H → va_S (AW 7 ad) s.heap H locs → lv_has ls 3 [(0, .ref (ad 0)), (1, .int x1), (2, .int x2)] → W p l e ({ frames := 0, cells := 0, slots := 0, locals := 0 } : Room) s m args below meth c H locs 0 0 (QI below G 7 (shR cA cZ cC ad) ad .int args s v M) (F0 m 4 ls []) := by
    intro n
    induction n with
    | zero => intro M x1 x2 H locs ls h; cases h
    | succ n ih =>
      intro M x1 x2 H locs ls h hP hS hl
      rw [fX8_faded_L4] at h
      refine lv_iload_n (pc := 4) hx hb dX8_faded_4 rfl (lv_at hl 2 rfl) ?_
      refine lv_aload_n (pc := 5) hx hb dX8_faded_5 rfl (lv_at hl 0 rfl) ?_
      refine x_get (pc := 6) (v := .ref (ad 1)) E hP (by decide) sh8 rfl inX8 0 (by decide) q972 rfl dX8_faded_6 ?_
      refine lv_iconst (pc := 9) (v := (2 : Int32)) hx hb dX8_faded_9 (by decide) ?_
      refine x_iald (pc := 10) (j := 2) E hP (by decide) sh8a1 0 rfl (vp_inl (by decide)) rfl dX8_faded_10 ?_
      refine lv_icmp_ge (pc := 11) (tgt := 42) hx hb dX8_faded_11 (by decide) (fun c1 => ?_) (fun c1 => ?_)
      · have h := (if_pos c1).symm.trans h
        refine lv_iload_n (pc := 42) hx hb dX8_faded_42 rfl (lv_at hl 1 rfl) ?_
        obtain rfl := som1 h
        exact x_iret E hP hS rfl dX8_faded_43
      · have h := (if_neg c1).symm.trans h
        refine lv_iload_n (pc := 14) hx hb dX8_faded_14 rfl (lv_at hl 1 rfl) ?_
        refine lv_aload_n (pc := 15) hx hb dX8_faded_15 rfl (lv_at hl 0 rfl) ?_
        refine x_get (pc := 16) (v := .ref (ad 1)) E hP (by decide) sh8 rfl inX8 0 (by decide) q972 rfl dX8_faded_16 ?_
        refine lv_sipush (pc := 19) (v := (164 : Int32)) hx hb dX8_faded_19 (by decide) ?_
        refine lv_iload_n (pc := 22) hx hb dX8_faded_22 rfl (lv_at hl 2 rfl) ?_
        refine lv_iadd (pc := 23) hx hb dX8_faded_23 ?_
        obtain ⟨c2, h⟩ := ite_some h
        refine x_iald (pc := 24) (j := ((164 : Int32) + x2).toNatClampNeg) E hP (by decide) sh8a1 0 rfl (inb_in c2) rfl dX8_faded_24 ?_
        refine lv_iconst (pc := 25) (v := (4 : Int32)) hx hb dX8_faded_25 (by decide) ?_
        refine lv_icmp_ge (pc := 26) (tgt := 33) hx hb dX8_faded_26 (by decide) (fun c3 => ?_) (fun c3 => ?_)
        · have h := (if_pos c3).symm.trans h
          refine lv_iconst (pc := 33) (v := (0 : Int32)) hx hb dX8_faded_33 (by decide) ?_
          refine lv_iadd (pc := 34) hx hb dX8_faded_34 ?_
          refine lv_istore_n (pc := 35) (lv' := [(1, .int (x1 + (0 : Int32))), (0, .ref (ad 0)), (2, .int x2)]) hx hb dX8_faded_35 rfl hl (by decide) rfl (fun ls hl => ?_)
          refine lv_iinc (pc := 36) (v := (x2 + 1)) (lv' := [(2, .int (x2 + 1)), (1, .int (x1 + (0 : Int32))), (0, .ref (ad 0))]) hx hb dX8_faded_36 hl (k := 2) rfl rfl (by decide) rfl (fun ls hl => ?_)
          refine lv_goto (pc := 39) (tgt := 4) hx hb dX8_faded_39 (by decide) ?_
          exact ih M (x1 + (0 : Int32)) (x2 + 1) _ _ _ h hP hS (lv_sub hl [2, 1, 0] rfl)
        · have h := (if_neg c3).symm.trans h
          refine lv_iconst (pc := 29) (v := (1 : Int32)) hx hb dX8_faded_29 (by decide) ?_
          refine lv_goto (pc := 30) (tgt := 34) hx hb dX8_faded_30 (by decide) ?_
          refine lv_iadd (pc := 34) hx hb dX8_faded_34 ?_
          refine lv_istore_n (pc := 35) (lv' := [(1, .int (x1 + (1 : Int32))), (0, .ref (ad 0)), (2, .int x2)]) hx hb dX8_faded_35 rfl hl (by decide) rfl (fun ls hl => ?_)
          refine lv_iinc (pc := 36) (v := (x2 + 1)) (lv' := [(2, .int (x2 + 1)), (1, .int (x1 + (1 : Int32))), (0, .ref (ad 0))]) hx hb dX8_faded_36 hl (k := 2) rfl rfl (by decide) rfl (fun ls hl => ?_)
          refine lv_goto (pc := 39) (tgt := 4) hx hb dX8_faded_39 (by decide) ?_
          exact ih M (x1 + (1 : Int32)) (x2 + 1) _ _ _ h hP hS (lv_sub hl [2, 1, 0] rfl)
  unfold fX8_faded at h
  refine lv_iconst (pc := 0) (v := (0 : Int32)) hx hb dX8_faded_0 (by decide) ?_
  refine lv_istore_n (pc := 1) (lv' := [(1, .int (0 : Int32)), (0, .ref (ad 0))]) hx hb dX8_faded_1 rfl hl (by decide) rfl (fun ls hl => ?_)
  refine lv_iconst (pc := 2) (v := (0 : Int32)) hx hb dX8_faded_2 (by decide) ?_
  refine lv_istore_n (pc := 3) (lv' := [(2, .int (0 : Int32)), (1, .int (0 : Int32)), (0, .ref (ad 0))]) hx hb dX8_faded_3 rfl hl (by decide) rfl (fun ls hl => ?_)
  exact hL4 5000 M (0 : Int32) (0 : Int32) _ _ _ h hP hS (lv_sub hl [2, 1, 0] rfl)
set_option maxRecDepth 100000 in
set_option maxHeartbeats 4000000 in
theorem kX8_differences (hap : Apart 7 ad)   (M : Mem) (x1 : Int32) (v : Int32) (M' : Mem) (h : fX8_differences M x1 = some (v, M')) : RI G ad cA cZ cC yX8_differences cX8_differences 2 .int ({ frames := 2, cells := 0, slots := 0, locals := 46 } : Room) [.ref (ad 0), .int x1] M v M' := by
  refine CI.mk (own := RX8) (ls0 := [(0, .ref (ad 0)), (1, .int x1)]) (by decide +kernel) rfl hap (Nat.le_of_ble_eq_true rfl) rfl ?_
  intro p l e s m args below meth c ls E hP hl
  have hx := E.1
  have hb := E.2.1
  have hown := E.2.2.2.2.2.1
  have hts := E.2.2.2.2.2.2.1
  have hEx := ExR.ok 7 ad
  have hS : va_S (AW 7 ad) s.heap s.heap [] := va_S.rf
  unfold fX8_differences at h
  refine lv_iload_n (pc := 0) hx hb dX8_differences_0 rfl (lv_at hl 1 rfl) ?_
  by_cases c1 : x1 = (0 : Int32)
  · have h := (if_pos c1).symm.trans h
    refine lv_tableIn (pc := 1) (off := 35) (tgt := 36) hx hb dX8_differences_1 (by rw [c1]; decide) (by rw [c1]; decide) (by rw [c1]; decide) (by decide) ?_
    refine lv_aload_n (pc := 36) hx hb dX8_differences_36 rfl (lv_at hl 0 rfl) ?_
    obtain ⟨y14, hy14, h⟩ := bnd_ex h
    refine x_callVi (pc := 37) (st := .ref (ad 0) :: []) (As := []) E hEx hl.1 hP hS (kX8_notAtHome hap  M  _ hy14) gX8_118 hdX8_notAtHome rfl (by decide) sh8 rfl ⟨Nat.le_of_ble_eq_true rfl, Nat.le_of_ble_eq_true rfl⟩ ⟨rfl, rfl⟩ dX8_differences_37 rfl (Nat.le_of_ble_eq_true rfl) (fun H locs hP hS n15 => ?_)
    obtain ⟨rfl, rfl⟩ := som2 h
    exact x_iret E hP hS rfl dX8_differences_40
  · have h := (if_neg c1).symm.trans h
    by_cases c2 : x1 = (1 : Int32)
    · have h := (if_pos c2).symm.trans h
      refine lv_tableIn (pc := 1) (off := 40) (tgt := 41) hx hb dX8_differences_1 (by rw [c2]; decide) (by rw [c2]; decide) (by rw [c2]; decide) (by decide) ?_
      refine lv_aload_n (pc := 41) hx hb dX8_differences_41 rfl (lv_at hl 0 rfl) ?_
      obtain ⟨y12, hy12, h⟩ := bnd_ex h
      refine x_callVi (pc := 42) (st := .ref (ad 0) :: []) (As := []) E hEx hl.1 hP hS (kX8_openOnes hap  M  _ hy12) gX8_121 hdX8_openOnes rfl (by decide) sh8 rfl ⟨Nat.le_of_ble_eq_true rfl, Nat.le_of_ble_eq_true rfl⟩ ⟨rfl, rfl⟩ dX8_differences_42 rfl (Nat.le_of_ble_eq_true rfl) (fun H locs hP hS n13 => ?_)
      obtain ⟨rfl, rfl⟩ := som2 h
      exact x_iret E hP hS rfl dX8_differences_45
    · have h := (if_neg c2).symm.trans h
      by_cases c3 : x1 = (2 : Int32)
      · have h := (if_pos c3).symm.trans h
        refine lv_tableIn (pc := 1) (off := 45) (tgt := 46) hx hb dX8_differences_1 (by rw [c3]; decide) (by rw [c3]; decide) (by rw [c3]; decide) (by decide) ?_
        refine lv_aload_n (pc := 46) hx hb dX8_differences_46 rfl (lv_at hl 0 rfl) ?_
        obtain ⟨y10, hy10, h⟩ := bnd_ex h
        refine x_callVi (pc := 47) (st := .ref (ad 0) :: []) (As := []) E hEx hl.1 hP hS (kX8_faded hap  M  _ hy10) gX8_211 hdX8_faded rfl (by decide) sh8 rfl ⟨Nat.le_of_ble_eq_true rfl, Nat.le_of_ble_eq_true rfl⟩ ⟨rfl, rfl⟩ dX8_differences_47 rfl (Nat.le_of_ble_eq_true rfl) (fun H locs hP hS n11 => ?_)
        obtain ⟨rfl, rfl⟩ := som2 h
        exact x_iret E hP hS rfl dX8_differences_50
      · have h := (if_neg c3).symm.trans h
        by_cases c4 : x1 = (3 : Int32)
        · have h := (if_pos c4).symm.trans h
          refine lv_tableIn (pc := 1) (off := 50) (tgt := 51) hx hb dX8_differences_1 (by rw [c4]; decide) (by rw [c4]; decide) (by rw [c4]; decide) (by decide) ?_
          refine lv_aload_n (pc := 51) hx hb dX8_differences_51 rfl (lv_at hl 0 rfl) ?_
          obtain ⟨q8, hq8, h⟩ := bnd_ex h
          refine x_callVi (pc := 52) (st := .ref (ad 0) :: []) (As := []) E hEx hl.1 hP hS (kX8_resetMinutes hap  M  _ _ hq8) gX8_190 hdX8_resetMinutes rfl (by decide) sh8 rfl ⟨Nat.le_of_ble_eq_true rfl, Nat.le_of_ble_eq_true rfl⟩ ⟨rfl, rfl⟩ dX8_differences_52 rfl (Nat.le_of_ble_eq_true rfl) (fun H locs hP hS n9 => ?_)
          obtain ⟨rfl, rfl⟩ := som2 h
          exact x_iret E hP hS rfl dX8_differences_55
        · have h := (if_neg c4).symm.trans h
          by_cases c5 : x1 = (4 : Int32)
          · have h := (if_pos c5).symm.trans h
            refine lv_tableIn (pc := 1) (off := 55) (tgt := 56) hx hb dX8_differences_1 (by rw [c5]; decide) (by rw [c5]; decide) (by rw [c5]; decide) (by decide) ?_
            refine lv_aload_n (pc := 56) hx hb dX8_differences_56 rfl (lv_at hl 0 rfl) ?_
            refine lv_iconst (pc := 57) (v := (1 : Int32)) hx hb dX8_differences_57 (by decide) ?_
            refine lv_iconst (pc := 58) (v := (0 : Int32)) hx hb dX8_differences_58 (by decide) ?_
            obtain ⟨q6, hq6, h⟩ := bnd_ex h
            refine x_callVi (pc := 59) (st := .int (0 : Int32) :: .int (1 : Int32) :: .ref (ad 0) :: []) (As := [.int (1 : Int32), .int (0 : Int32)]) E hEx hl.1 hP hS (kX8_written hap  M _ _ _ _ hq6) gX8_186 hdX8_written rfl (by decide) sh8 rfl ⟨Nat.le_of_ble_eq_true rfl, Nat.le_of_ble_eq_true rfl⟩ ⟨rfl, rfl⟩ dX8_differences_59 rfl (Nat.le_of_ble_eq_true rfl) (fun H locs hP hS n7 => ?_)
            obtain ⟨rfl, rfl⟩ := som2 h
            exact x_iret E hP hS rfl dX8_differences_62
          · have h := (if_neg c5).symm.trans h
            refine lv_tableOut (pc := 1) (tgt := 63) hx hb dX8_differences_1 (by have e0 := ne_lit (k := 0) (by decide) c1; have e1 := ne_lit (k := 1) (by decide) c2; have e2 := ne_lit (k := 2) (by decide) c3; have e3 := ne_lit (k := 3) (by decide) c4; have e4 := ne_lit (k := 4) (by decide) c5; omega) (by decide) ?_
            refine lv_bipush (pc := 63) (v := (-2 : Int32)) hx hb dX8_differences_63 (by decide) ?_
            obtain ⟨rfl, rfl⟩ := som2 h
            exact x_iret E hP hS rfl dX8_differences_65
set_option maxRecDepth 100000 in
set_option maxHeartbeats 4000000 in
theorem kX8_wordLetter (hap : Apart 7 ad)   (M : Mem) (x0 x1 : Int32) (v : Int32) (h : fX8_wordLetter M x0 x1 = v) : RI G ad cA cZ cC yX8_wordLetter cX8_wordLetter 2 .int ({ frames := 0, cells := 0, slots := 0, locals := 0 } : Room) [.int x0, .int x1] M v M := by
  refine CI.mk (own := RX8) (ls0 := [(0, .int x0), (1, .int x1)]) (by decide +kernel) rfl hap (Nat.le_of_ble_eq_true rfl) rfl ?_
  intro p l e s m args below meth c ls E hP hl
  have hx := E.1
  have hb := E.2.1
  have hown := E.2.2.2.2.2.1
  have hts := E.2.2.2.2.2.2.1
  have hEx := ExR.ok 7 ad
  have hS : va_S (AW 7 ad) s.heap s.heap [] := va_S.rf
  unfold fX8_wordLetter at h
  refine lv_iload_n (pc := 0) hx hb dX8_wordLetter_0 rfl (lv_at hl 0 rfl) ?_
  by_cases c1 : x0 = (0 : Int32)
  · have h := (if_pos c1).symm.trans h
    refine lv_tableIn (pc := 1) (off := 43) (tgt := 44) hx hb dX8_wordLetter_1 (by rw [c1]; decide) (by rw [c1]; decide) (by rw [c1]; decide) (by decide) ?_
    refine lv_iload_n (pc := 44) hx hb dX8_wordLetter_44 rfl (lv_at hl 1 rfl) ?_
    refine lv_if_ne (pc := 45) (tgt := 53) hx hb dX8_wordLetter_45 (by decide) (fun c27 => ?_) (fun c27 => ?_)
    · have h := (if_neg c27).symm.trans h
      refine lv_iload_n (pc := 53) hx hb dX8_wordLetter_53 rfl (lv_at hl 1 rfl) ?_
      refine lv_iconst (pc := 54) (v := (1 : Int32)) hx hb dX8_wordLetter_54 (by decide) ?_
      refine lv_icmp_ne (pc := 55) (tgt := 63) hx hb dX8_wordLetter_55 (by decide) (fun c28 => ?_) (fun c28 => ?_)
      · have h := (if_neg c28).symm.trans h
        refine lv_iload_n (pc := 63) hx hb dX8_wordLetter_63 rfl (lv_at hl 1 rfl) ?_
        refine lv_iconst (pc := 64) (v := (2 : Int32)) hx hb dX8_wordLetter_64 (by decide) ?_
        refine lv_icmp_ne (pc := 65) (tgt := 73) hx hb dX8_wordLetter_65 (by decide) (fun c29 => ?_) (fun c29 => ?_)
        · have h := (if_neg c29).symm.trans h
          refine lv_bipush (pc := 73) (v := (101 : Int32)) hx hb dX8_wordLetter_73 (by decide) ?_
          obtain rfl : (101 : Int32) = v := h
          exact x_iret E hP hS rfl dX8_wordLetter_75
        · have h := (if_pos c29).symm.trans h
          refine lv_bipush (pc := 68) (v := (107 : Int32)) hx hb dX8_wordLetter_68 (by decide) ?_
          refine lv_goto (pc := 70) (tgt := 75) hx hb dX8_wordLetter_70 (by decide) ?_
          obtain rfl : (107 : Int32) = v := h
          exact x_iret E hP hS rfl dX8_wordLetter_75
      · have h := (if_pos c28).symm.trans h
        refine lv_bipush (pc := 58) (v := (97 : Int32)) hx hb dX8_wordLetter_58 (by decide) ?_
        refine lv_goto (pc := 60) (tgt := 75) hx hb dX8_wordLetter_60 (by decide) ?_
        obtain rfl : (97 : Int32) = v := h
        exact x_iret E hP hS rfl dX8_wordLetter_75
    · have h := (if_pos c27).symm.trans h
      refine lv_bipush (pc := 48) (v := (116 : Int32)) hx hb dX8_wordLetter_48 (by decide) ?_
      refine lv_goto (pc := 50) (tgt := 75) hx hb dX8_wordLetter_50 (by decide) ?_
      obtain rfl : (116 : Int32) = v := h
      exact x_iret E hP hS rfl dX8_wordLetter_75
  · have h := (if_neg c1).symm.trans h
    by_cases c2 : x0 = (1 : Int32)
    · have h := (if_pos c2).symm.trans h
      refine lv_tableIn (pc := 1) (off := 75) (tgt := 76) hx hb dX8_wordLetter_1 (by rw [c2]; decide) (by rw [c2]; decide) (by rw [c2]; decide) (by decide) ?_
      refine lv_iload_n (pc := 76) hx hb dX8_wordLetter_76 rfl (lv_at hl 1 rfl) ?_
      refine lv_if_ne (pc := 77) (tgt := 85) hx hb dX8_wordLetter_77 (by decide) (fun c25 => ?_) (fun c25 => ?_)
      · have h := (if_neg c25).symm.trans h
        refine lv_iload_n (pc := 85) hx hb dX8_wordLetter_85 rfl (lv_at hl 1 rfl) ?_
        refine lv_iconst (pc := 86) (v := (1 : Int32)) hx hb dX8_wordLetter_86 (by decide) ?_
        refine lv_icmp_ne (pc := 87) (tgt := 95) hx hb dX8_wordLetter_87 (by decide) (fun c26 => ?_) (fun c26 => ?_)
        · have h := (if_neg c26).symm.trans h
          refine lv_bipush (pc := 95) (v := (121 : Int32)) hx hb dX8_wordLetter_95 (by decide) ?_
          obtain rfl : (121 : Int32) = v := h
          exact x_iret E hP hS rfl dX8_wordLetter_97
        · have h := (if_pos c26).symm.trans h
          refine lv_bipush (pc := 90) (v := (97 : Int32)) hx hb dX8_wordLetter_90 (by decide) ?_
          refine lv_goto (pc := 92) (tgt := 97) hx hb dX8_wordLetter_92 (by decide) ?_
          obtain rfl : (97 : Int32) = v := h
          exact x_iret E hP hS rfl dX8_wordLetter_97
      · have h := (if_pos c25).symm.trans h
        refine lv_bipush (pc := 80) (v := (108 : Int32)) hx hb dX8_wordLetter_80 (by decide) ?_
        refine lv_goto (pc := 82) (tgt := 97) hx hb dX8_wordLetter_82 (by decide) ?_
        obtain rfl : (108 : Int32) = v := h
        exact x_iret E hP hS rfl dX8_wordLetter_97
    · have h := (if_neg c2).symm.trans h
      by_cases c3 : x0 = (2 : Int32)
      · have h := (if_pos c3).symm.trans h
        refine lv_tableIn (pc := 1) (off := 97) (tgt := 98) hx hb dX8_wordLetter_1 (by rw [c3]; decide) (by rw [c3]; decide) (by rw [c3]; decide) (by decide) ?_
        refine lv_iload_n (pc := 98) hx hb dX8_wordLetter_98 rfl (lv_at hl 1 rfl) ?_
        refine lv_if_ne (pc := 99) (tgt := 107) hx hb dX8_wordLetter_99 (by decide) (fun c22 => ?_) (fun c22 => ?_)
        · have h := (if_neg c22).symm.trans h
          refine lv_iload_n (pc := 107) hx hb dX8_wordLetter_107 rfl (lv_at hl 1 rfl) ?_
          refine lv_iconst (pc := 108) (v := (1 : Int32)) hx hb dX8_wordLetter_108 (by decide) ?_
          refine lv_icmp_ne (pc := 109) (tgt := 117) hx hb dX8_wordLetter_109 (by decide) (fun c23 => ?_) (fun c23 => ?_)
          · have h := (if_neg c23).symm.trans h
            refine lv_iload_n (pc := 117) hx hb dX8_wordLetter_117 rfl (lv_at hl 1 rfl) ?_
            refine lv_iconst (pc := 118) (v := (2 : Int32)) hx hb dX8_wordLetter_118 (by decide) ?_
            refine lv_icmp_ne (pc := 119) (tgt := 127) hx hb dX8_wordLetter_119 (by decide) (fun c24 => ?_) (fun c24 => ?_)
            · have h := (if_neg c24).symm.trans h
              refine lv_bipush (pc := 127) (v := (110 : Int32)) hx hb dX8_wordLetter_127 (by decide) ?_
              obtain rfl : (110 : Int32) = v := h
              exact x_iret E hP hS rfl dX8_wordLetter_129
            · have h := (if_pos c24).symm.trans h
              refine lv_bipush (pc := 122) (v := (101 : Int32)) hx hb dX8_wordLetter_122 (by decide) ?_
              refine lv_goto (pc := 124) (tgt := 129) hx hb dX8_wordLetter_124 (by decide) ?_
              obtain rfl : (101 : Int32) = v := h
              exact x_iret E hP hS rfl dX8_wordLetter_129
          · have h := (if_pos c23).symm.trans h
            refine lv_bipush (pc := 112) (v := (112 : Int32)) hx hb dX8_wordLetter_112 (by decide) ?_
            refine lv_goto (pc := 114) (tgt := 129) hx hb dX8_wordLetter_114 (by decide) ?_
            obtain rfl : (112 : Int32) = v := h
            exact x_iret E hP hS rfl dX8_wordLetter_129
        · have h := (if_pos c22).symm.trans h
          refine lv_bipush (pc := 102) (v := (111 : Int32)) hx hb dX8_wordLetter_102 (by decide) ?_
          refine lv_goto (pc := 104) (tgt := 129) hx hb dX8_wordLetter_104 (by decide) ?_
          obtain rfl : (111 : Int32) = v := h
          exact x_iret E hP hS rfl dX8_wordLetter_129
      · have h := (if_neg c3).symm.trans h
        by_cases c4 : x0 = (3 : Int32)
        · have h := (if_pos c4).symm.trans h
          refine lv_tableIn (pc := 1) (off := 129) (tgt := 130) hx hb dX8_wordLetter_1 (by rw [c4]; decide) (by rw [c4]; decide) (by rw [c4]; decide) (by decide) ?_
          refine lv_iload_n (pc := 130) hx hb dX8_wordLetter_130 rfl (lv_at hl 1 rfl) ?_
          refine lv_if_ne (pc := 131) (tgt := 139) hx hb dX8_wordLetter_131 (by decide) (fun c19 => ?_) (fun c19 => ?_)
          · have h := (if_neg c19).symm.trans h
            refine lv_iload_n (pc := 139) hx hb dX8_wordLetter_139 rfl (lv_at hl 1 rfl) ?_
            refine lv_iconst (pc := 140) (v := (1 : Int32)) hx hb dX8_wordLetter_140 (by decide) ?_
            refine lv_icmp_ne (pc := 141) (tgt := 149) hx hb dX8_wordLetter_141 (by decide) (fun c20 => ?_) (fun c20 => ?_)
            · have h := (if_neg c20).symm.trans h
              refine lv_iload_n (pc := 149) hx hb dX8_wordLetter_149 rfl (lv_at hl 1 rfl) ?_
              refine lv_iconst (pc := 150) (v := (2 : Int32)) hx hb dX8_wordLetter_150 (by decide) ?_
              refine lv_icmp_ne (pc := 151) (tgt := 159) hx hb dX8_wordLetter_151 (by decide) (fun c21 => ?_) (fun c21 => ?_)
              · have h := (if_neg c21).symm.trans h
                refine lv_bipush (pc := 159) (v := (100 : Int32)) hx hb dX8_wordLetter_159 (by decide) ?_
                obtain rfl : (100 : Int32) = v := h
                exact x_iret E hP hS rfl dX8_wordLetter_161
              · have h := (if_pos c21).symm.trans h
                refine lv_bipush (pc := 154) (v := (97 : Int32)) hx hb dX8_wordLetter_154 (by decide) ?_
                refine lv_goto (pc := 156) (tgt := 161) hx hb dX8_wordLetter_156 (by decide) ?_
                obtain rfl : (97 : Int32) = v := h
                exact x_iret E hP hS rfl dX8_wordLetter_161
            · have h := (if_pos c20).symm.trans h
              refine lv_bipush (pc := 144) (v := (101 : Int32)) hx hb dX8_wordLetter_144 (by decide) ?_
              refine lv_goto (pc := 146) (tgt := 161) hx hb dX8_wordLetter_146 (by decide) ?_
              obtain rfl : (101 : Int32) = v := h
              exact x_iret E hP hS rfl dX8_wordLetter_161
          · have h := (if_pos c19).symm.trans h
            refine lv_bipush (pc := 134) (v := (114 : Int32)) hx hb dX8_wordLetter_134 (by decide) ?_
            refine lv_goto (pc := 136) (tgt := 161) hx hb dX8_wordLetter_136 (by decide) ?_
            obtain rfl : (114 : Int32) = v := h
            exact x_iret E hP hS rfl dX8_wordLetter_161
        · have h := (if_neg c4).symm.trans h
          by_cases c5 : x0 = (4 : Int32)
          · have h := (if_pos c5).symm.trans h
            refine lv_tableIn (pc := 1) (off := 161) (tgt := 162) hx hb dX8_wordLetter_1 (by rw [c5]; decide) (by rw [c5]; decide) (by rw [c5]; decide) (by decide) ?_
            refine lv_iload_n (pc := 162) hx hb dX8_wordLetter_162 rfl (lv_at hl 1 rfl) ?_
            refine lv_if_ne (pc := 163) (tgt := 171) hx hb dX8_wordLetter_163 (by decide) (fun c15 => ?_) (fun c15 => ?_)
            · have h := (if_neg c15).symm.trans h
              refine lv_iload_n (pc := 171) hx hb dX8_wordLetter_171 rfl (lv_at hl 1 rfl) ?_
              refine lv_iconst (pc := 172) (v := (1 : Int32)) hx hb dX8_wordLetter_172 (by decide) ?_
              refine lv_icmp_ne (pc := 173) (tgt := 181) hx hb dX8_wordLetter_173 (by decide) (fun c16 => ?_) (fun c16 => ?_)
              · have h := (if_neg c16).symm.trans h
                refine lv_iload_n (pc := 181) hx hb dX8_wordLetter_181 rfl (lv_at hl 1 rfl) ?_
                refine lv_iconst (pc := 182) (v := (2 : Int32)) hx hb dX8_wordLetter_182 (by decide) ?_
                refine lv_icmp_ne (pc := 183) (tgt := 191) hx hb dX8_wordLetter_183 (by decide) (fun c17 => ?_) (fun c17 => ?_)
                · have h := (if_neg c17).symm.trans h
                  refine lv_iload_n (pc := 191) hx hb dX8_wordLetter_191 rfl (lv_at hl 1 rfl) ?_
                  refine lv_iconst (pc := 192) (v := (3 : Int32)) hx hb dX8_wordLetter_192 (by decide) ?_
                  refine lv_icmp_ne (pc := 193) (tgt := 201) hx hb dX8_wordLetter_193 (by decide) (fun c18 => ?_) (fun c18 => ?_)
                  · have h := (if_neg c18).symm.trans h
                    refine lv_bipush (pc := 201) (v := (101 : Int32)) hx hb dX8_wordLetter_201 (by decide) ?_
                    obtain rfl : (101 : Int32) = v := h
                    exact x_iret E hP hS rfl dX8_wordLetter_203
                  · have h := (if_pos c18).symm.trans h
                    refine lv_bipush (pc := 196) (v := (103 : Int32)) hx hb dX8_wordLetter_196 (by decide) ?_
                    refine lv_goto (pc := 198) (tgt := 203) hx hb dX8_wordLetter_198 (by decide) ?_
                    obtain rfl : (103 : Int32) = v := h
                    exact x_iret E hP hS rfl dX8_wordLetter_203
                · have h := (if_pos c17).symm.trans h
                  refine lv_bipush (pc := 186) (v := (100 : Int32)) hx hb dX8_wordLetter_186 (by decide) ?_
                  refine lv_goto (pc := 188) (tgt := 203) hx hb dX8_wordLetter_188 (by decide) ?_
                  obtain rfl : (100 : Int32) = v := h
                  exact x_iret E hP hS rfl dX8_wordLetter_203
              · have h := (if_pos c16).symm.trans h
                refine lv_bipush (pc := 176) (v := (117 : Int32)) hx hb dX8_wordLetter_176 (by decide) ?_
                refine lv_goto (pc := 178) (tgt := 203) hx hb dX8_wordLetter_178 (by decide) ?_
                obtain rfl : (117 : Int32) = v := h
                exact x_iret E hP hS rfl dX8_wordLetter_203
            · have h := (if_pos c15).symm.trans h
              refine lv_bipush (pc := 166) (v := (110 : Int32)) hx hb dX8_wordLetter_166 (by decide) ?_
              refine lv_goto (pc := 168) (tgt := 203) hx hb dX8_wordLetter_168 (by decide) ?_
              obtain rfl : (110 : Int32) = v := h
              exact x_iret E hP hS rfl dX8_wordLetter_203
          · have h := (if_neg c5).symm.trans h
            by_cases c6 : x0 = (5 : Int32)
            · have h := (if_pos c6).symm.trans h
              refine lv_tableIn (pc := 1) (off := 203) (tgt := 204) hx hb dX8_wordLetter_1 (by rw [c6]; decide) (by rw [c6]; decide) (by rw [c6]; decide) (by decide) ?_
              refine lv_iload_n (pc := 204) hx hb dX8_wordLetter_204 rfl (lv_at hl 1 rfl) ?_
              refine lv_if_ne (pc := 205) (tgt := 213) hx hb dX8_wordLetter_205 (by decide) (fun c12 => ?_) (fun c12 => ?_)
              · have h := (if_neg c12).symm.trans h
                refine lv_iload_n (pc := 213) hx hb dX8_wordLetter_213 rfl (lv_at hl 1 rfl) ?_
                refine lv_iconst (pc := 214) (v := (1 : Int32)) hx hb dX8_wordLetter_214 (by decide) ?_
                refine lv_icmp_ne (pc := 215) (tgt := 223) hx hb dX8_wordLetter_215 (by decide) (fun c13 => ?_) (fun c13 => ?_)
                · have h := (if_neg c13).symm.trans h
                  refine lv_iload_n (pc := 223) hx hb dX8_wordLetter_223 rfl (lv_at hl 1 rfl) ?_
                  refine lv_iconst (pc := 224) (v := (2 : Int32)) hx hb dX8_wordLetter_224 (by decide) ?_
                  refine lv_icmp_ne (pc := 225) (tgt := 233) hx hb dX8_wordLetter_225 (by decide) (fun c14 => ?_) (fun c14 => ?_)
                  · have h := (if_neg c14).symm.trans h
                    refine lv_bipush (pc := 233) (v := (116 : Int32)) hx hb dX8_wordLetter_233 (by decide) ?_
                    obtain rfl : (116 : Int32) = v := h
                    exact x_iret E hP hS rfl dX8_wordLetter_235
                  · have h := (if_pos c14).symm.trans h
                    refine lv_bipush (pc := 228) (v := (115 : Int32)) hx hb dX8_wordLetter_228 (by decide) ?_
                    refine lv_goto (pc := 230) (tgt := 235) hx hb dX8_wordLetter_230 (by decide) ?_
                    obtain rfl : (115 : Int32) = v := h
                    exact x_iret E hP hS rfl dX8_wordLetter_235
                · have h := (if_pos c13).symm.trans h
                  refine lv_bipush (pc := 218) (v := (101 : Int32)) hx hb dX8_wordLetter_218 (by decide) ?_
                  refine lv_goto (pc := 220) (tgt := 235) hx hb dX8_wordLetter_220 (by decide) ?_
                  obtain rfl : (101 : Int32) = v := h
                  exact x_iret E hP hS rfl dX8_wordLetter_235
              · have h := (if_pos c12).symm.trans h
                refine lv_bipush (pc := 208) (v := (114 : Int32)) hx hb dX8_wordLetter_208 (by decide) ?_
                refine lv_goto (pc := 210) (tgt := 235) hx hb dX8_wordLetter_210 (by decide) ?_
                obtain rfl : (114 : Int32) = v := h
                exact x_iret E hP hS rfl dX8_wordLetter_235
            · have h := (if_neg c6).symm.trans h
              by_cases c7 : x0 = (6 : Int32)
              · have h := (if_pos c7).symm.trans h
                refine lv_tableIn (pc := 1) (off := 235) (tgt := 236) hx hb dX8_wordLetter_1 (by rw [c7]; decide) (by rw [c7]; decide) (by rw [c7]; decide) (by decide) ?_
                refine lv_iload_n (pc := 236) hx hb dX8_wordLetter_236 rfl (lv_at hl 1 rfl) ?_
                refine lv_if_ne (pc := 237) (tgt := 245) hx hb dX8_wordLetter_237 (by decide) (fun c9 => ?_) (fun c9 => ?_)
                · have h := (if_neg c9).symm.trans h
                  refine lv_iload_n (pc := 245) hx hb dX8_wordLetter_245 rfl (lv_at hl 1 rfl) ?_
                  refine lv_iconst (pc := 246) (v := (1 : Int32)) hx hb dX8_wordLetter_246 (by decide) ?_
                  refine lv_icmp_ne (pc := 247) (tgt := 255) hx hb dX8_wordLetter_247 (by decide) (fun c10 => ?_) (fun c10 => ?_)
                  · have h := (if_neg c10).symm.trans h
                    refine lv_iload_n (pc := 255) hx hb dX8_wordLetter_255 rfl (lv_at hl 1 rfl) ?_
                    refine lv_iconst (pc := 256) (v := (2 : Int32)) hx hb dX8_wordLetter_256 (by decide) ?_
                    refine lv_icmp_ne (pc := 257) (tgt := 265) hx hb dX8_wordLetter_257 (by decide) (fun c11 => ?_) (fun c11 => ?_)
                    · have h := (if_neg c11).symm.trans h
                      refine lv_bipush (pc := 265) (v := (114 : Int32)) hx hb dX8_wordLetter_265 (by decide) ?_
                      obtain rfl : (114 : Int32) = v := h
                      exact x_iret E hP hS rfl dX8_wordLetter_267
                    · have h := (if_pos c11).symm.trans h
                      refine lv_bipush (pc := 260) (v := (101 : Int32)) hx hb dX8_wordLetter_260 (by decide) ?_
                      refine lv_goto (pc := 262) (tgt := 267) hx hb dX8_wordLetter_262 (by decide) ?_
                      obtain rfl : (101 : Int32) = v := h
                      exact x_iret E hP hS rfl dX8_wordLetter_267
                  · have h := (if_pos c10).symm.trans h
                    refine lv_bipush (pc := 250) (v := (118 : Int32)) hx hb dX8_wordLetter_250 (by decide) ?_
                    refine lv_goto (pc := 252) (tgt := 267) hx hb dX8_wordLetter_252 (by decide) ?_
                    obtain rfl : (118 : Int32) = v := h
                    exact x_iret E hP hS rfl dX8_wordLetter_267
                · have h := (if_pos c9).symm.trans h
                  refine lv_bipush (pc := 240) (v := (111 : Int32)) hx hb dX8_wordLetter_240 (by decide) ?_
                  refine lv_goto (pc := 242) (tgt := 267) hx hb dX8_wordLetter_242 (by decide) ?_
                  obtain rfl : (111 : Int32) = v := h
                  exact x_iret E hP hS rfl dX8_wordLetter_267
              · have h := (if_neg c7).symm.trans h
                refine lv_tableOut (pc := 1) (tgt := 268) hx hb dX8_wordLetter_1 (by have e0 := ne_lit (k := 0) (by decide) c1; have e1 := ne_lit (k := 1) (by decide) c2; have e2 := ne_lit (k := 2) (by decide) c3; have e3 := ne_lit (k := 3) (by decide) c4; have e4 := ne_lit (k := 4) (by decide) c5; have e5 := ne_lit (k := 5) (by decide) c6; have e6 := ne_lit (k := 6) (by decide) c7; omega) (by decide) ?_
                refine lv_iload_n (pc := 268) hx hb dX8_wordLetter_268 rfl (lv_at hl 1 rfl) ?_
                refine lv_if_ne (pc := 269) (tgt := 277) hx hb dX8_wordLetter_269 (by decide) (fun c8 => ?_) (fun c8 => ?_)
                · have h := (if_neg c8).symm.trans h
                  refine lv_bipush (pc := 277) (v := (112 : Int32)) hx hb dX8_wordLetter_277 (by decide) ?_
                  obtain rfl : (112 : Int32) = v := h
                  exact x_iret E hP hS rfl dX8_wordLetter_279
                · have h := (if_pos c8).symm.trans h
                  refine lv_bipush (pc := 272) (v := (117 : Int32)) hx hb dX8_wordLetter_272 (by decide) ?_
                  refine lv_goto (pc := 274) (tgt := 279) hx hb dX8_wordLetter_274 (by decide) ?_
                  obtain rfl : (117 : Int32) = v := h
                  exact x_iret E hP hS rfl dX8_wordLetter_279
set_option maxRecDepth 100000 in
set_option maxHeartbeats 4000000 in
theorem kX8_lettersOf (hap : Apart 7 ad)   (M : Mem) (x0 : Int32) (v : Int32) (h : fX8_lettersOf M x0 = v) : RI G ad cA cZ cC yX8_lettersOf cX8_lettersOf 1 .int ({ frames := 0, cells := 0, slots := 0, locals := 0 } : Room) [.int x0] M v M := by
  refine CI.mk (own := RX8) (ls0 := [(0, .int x0)]) (by decide +kernel) rfl hap (Nat.le_of_ble_eq_true rfl) rfl ?_
  intro p l e s m args below meth c ls E hP hl
  have hx := E.1
  have hb := E.2.1
  have hown := E.2.2.2.2.2.1
  have hts := E.2.2.2.2.2.2.1
  have hEx := ExR.ok 7 ad
  have hS : va_S (AW 7 ad) s.heap s.heap [] := va_S.rf
  unfold fX8_lettersOf at h
  refine lv_iload_n (pc := 0) hx hb dX8_lettersOf_0 rfl (lv_at hl 0 rfl) ?_
  refine lv_iconst (pc := 1) (v := (1 : Int32)) hx hb dX8_lettersOf_1 (by decide) ?_
  refine lv_icmp_ne (pc := 2) (tgt := 9) hx hb dX8_lettersOf_2 (by decide) (fun c1 => ?_) (fun c1 => ?_)
  · have h := (if_neg c1).symm.trans h
    refine lv_iload_n (pc := 9) hx hb dX8_lettersOf_9 rfl (lv_at hl 0 rfl) ?_
    refine lv_iconst (pc := 10) (v := (4 : Int32)) hx hb dX8_lettersOf_10 (by decide) ?_
    refine lv_icmp_ne (pc := 11) (tgt := 18) hx hb dX8_lettersOf_11 (by decide) (fun c2 => ?_) (fun c2 => ?_)
    · have h := (if_neg c2).symm.trans h
      refine lv_iload_n (pc := 18) hx hb dX8_lettersOf_18 rfl (lv_at hl 0 rfl) ?_
      refine lv_bipush (pc := 19) (v := (7 : Int32)) hx hb dX8_lettersOf_19 (by decide) ?_
      refine lv_icmp_ne (pc := 21) (tgt := 28) hx hb dX8_lettersOf_21 (by decide) (fun c3 => ?_) (fun c3 => ?_)
      · have h := (if_neg c3).symm.trans h
        refine lv_iconst (pc := 28) (v := (4 : Int32)) hx hb dX8_lettersOf_28 (by decide) ?_
        obtain rfl : (4 : Int32) = v := h
        exact x_iret E hP hS rfl dX8_lettersOf_29
      · have h := (if_pos c3).symm.trans h
        refine lv_iconst (pc := 24) (v := (2 : Int32)) hx hb dX8_lettersOf_24 (by decide) ?_
        refine lv_goto (pc := 25) (tgt := 29) hx hb dX8_lettersOf_25 (by decide) ?_
        obtain rfl : (2 : Int32) = v := h
        exact x_iret E hP hS rfl dX8_lettersOf_29
    · have h := (if_pos c2).symm.trans h
      refine lv_iconst (pc := 14) (v := (5 : Int32)) hx hb dX8_lettersOf_14 (by decide) ?_
      refine lv_goto (pc := 15) (tgt := 29) hx hb dX8_lettersOf_15 (by decide) ?_
      obtain rfl : (5 : Int32) = v := h
      exact x_iret E hP hS rfl dX8_lettersOf_29
  · have h := (if_pos c1).symm.trans h
    refine lv_iconst (pc := 5) (v := (3 : Int32)) hx hb dX8_lettersOf_5 (by decide) ?_
    refine lv_goto (pc := 6) (tgt := 29) hx hb dX8_lettersOf_6 (by decide) ?_
    obtain rfl : (3 : Int32) = v := h
    exact x_iret E hP hS rfl dX8_lettersOf_29
set_option maxRecDepth 100000 in
set_option maxHeartbeats 4000000 in
theorem kX8_argumentsOf (hap : Apart 7 ad)   (M : Mem) (x0 : Int32) (v : Int32) (h : fX8_argumentsOf M x0 = v) : RI G ad cA cZ cC yX8_argumentsOf cX8_argumentsOf 1 .int ({ frames := 0, cells := 0, slots := 0, locals := 0 } : Room) [.int x0] M v M := by
  refine CI.mk (own := RX8) (ls0 := [(0, .int x0)]) (by decide +kernel) rfl hap (Nat.le_of_ble_eq_true rfl) rfl ?_
  intro p l e s m args below meth c ls E hP hl
  have hx := E.1
  have hb := E.2.1
  have hown := E.2.2.2.2.2.1
  have hts := E.2.2.2.2.2.2.1
  have hEx := ExR.ok 7 ad
  have hS : va_S (AW 7 ad) s.heap s.heap [] := va_S.rf
  unfold fX8_argumentsOf at h
  refine lv_iload_n (pc := 0) hx hb dX8_argumentsOf_0 rfl (lv_at hl 0 rfl) ?_
  refine lv_iconst (pc := 1) (v := (1 : Int32)) hx hb dX8_argumentsOf_1 (by decide) ?_
  refine lv_icmp_ne (pc := 2) (tgt := 9) hx hb dX8_argumentsOf_2 (by decide) (fun c1 => ?_) (fun c1 => ?_)
  · have h := (if_neg c1).symm.trans h
    refine lv_iload_n (pc := 9) hx hb dX8_argumentsOf_9 rfl (lv_at hl 0 rfl) ?_
    refine lv_bipush (pc := 10) (v := (6 : Int32)) hx hb dX8_argumentsOf_10 (by decide) ?_
    refine lv_icmp_ge (pc := 12) (tgt := 19) hx hb dX8_argumentsOf_12 (by decide) (fun c2 => ?_) (fun c2 => ?_)
    · have h := (if_pos c2).symm.trans h
      refine lv_iconst (pc := 19) (v := (0 : Int32)) hx hb dX8_argumentsOf_19 (by decide) ?_
      obtain rfl : (0 : Int32) = v := h
      exact x_iret E hP hS rfl dX8_argumentsOf_20
    · have h := (if_neg c2).symm.trans h
      refine lv_iconst (pc := 15) (v := (1 : Int32)) hx hb dX8_argumentsOf_15 (by decide) ?_
      refine lv_goto (pc := 16) (tgt := 20) hx hb dX8_argumentsOf_16 (by decide) ?_
      obtain rfl : (1 : Int32) = v := h
      exact x_iret E hP hS rfl dX8_argumentsOf_20
  · have h := (if_pos c1).symm.trans h
    refine lv_iconst (pc := 5) (v := (2 : Int32)) hx hb dX8_argumentsOf_5 (by decide) ?_
    refine lv_goto (pc := 6) (tgt := 20) hx hb dX8_argumentsOf_6 (by decide) ?_
    obtain rfl : (2 : Int32) = v := h
    exact x_iret E hP hS rfl dX8_argumentsOf_20
set_option maxRecDepth 100000 in
set_option maxHeartbeats 4000000 in
theorem kX8_put (hap : Apart 7 ad)   (M : Mem) (x1 : Int32) (M' : Mem) (h : fX8_put M x1 = some M') : RV G ad cA cZ cC yX8_put cX8_put 2 ({ frames := 0, cells := 0, slots := 0, locals := 0 } : Room) [.ref (ad 0), .int x1] M M' := by
  refine CV.mk (own := RX8) (ls0 := [(0, .ref (ad 0)), (1, .int x1)]) (by decide +kernel) rfl hap (Nat.le_of_ble_eq_true rfl) rfl ?_
  intro p l e s m args below meth c ls E hP hl
  have hx := E.1
  have hb := E.2.1
  have hown := E.2.2.2.2.2.1
  have hts := E.2.2.2.2.2.2.1
  have hEx := ExR.ok 7 ad
  have hS : va_S (AW 7 ad) s.heap s.heap [] := va_S.rf
  unfold fX8_put at h
  refine lv_aload_n (pc := 0) hx hb dX8_put_0 rfl (lv_at hl 0 rfl) ?_
  refine x_get (pc := 1) (v := .ref (ad 6)) E hP (by decide) sh8 rfl inX8 12 (by decide) q984 rfl dX8_put_1 ?_
  refine lv_aload_n (pc := 4) hx hb dX8_put_4 rfl (lv_at hl 0 rfl) ?_
  refine x_get (pc := 5) (v := .int (M 0 13)) E hP (by decide) sh8 rfl inX8 13 (by decide) q985 rfl dX8_put_5 ?_
  refine lv_iload_n (pc := 8) hx hb dX8_put_8 rfl (lv_at hl 1 rfl) ?_
  obtain ⟨c1, h⟩ := ite_some h
  obtain ⟨M2, hM2, h⟩ := thn_ex h
  refine x_iast (pc := 9) (j := (M 0 13).toNatClampNeg) E hP hS (by decide) sh8a6 0 rfl (inb_in c1) rfl dX8_put_9 (fun H locs hP hS => ?_)
  rw [hM2] at hP
  refine lv_aload_n (pc := 10) hx hb dX8_put_10 rfl (lv_at hl 0 rfl) ?_
  refine lv_dup (pc := 11) hx hb dX8_put_11 rfl ?_
  refine x_get (pc := 12) (v := .int (M2 0 13)) E hP (by decide) sh8 rfl inX8 13 (by decide) q985 rfl dX8_put_12 ?_
  refine lv_iconst (pc := 15) (v := (1 : Int32)) hx hb dX8_put_15 (by decide) ?_
  refine lv_iadd (pc := 16) hx hb dX8_put_16 ?_
  obtain ⟨M3, hM3, h⟩ := thn_ex h
  refine x_put (pc := 17) (v := ((M2 0 13) + (1 : Int32))) E hP hS (by decide) sh8 tyX8 tyX8_ok nmX8 rfl inX8 13 (by decide) q985 rfl rfl rfl (Nat.le_of_ble_eq_true rfl) rfl dX8_put_17 (fun H locs hP hS => ?_)
  rw [hM3] at hP
  obtain rfl := som1 h
  exact x_vret E hP hS dX8_put_20
set_option maxRecDepth 100000 in
set_option maxHeartbeats 4000000 in
theorem kX8_putNumber (hap : Apart 7 ad)   (M : Mem) (x1 : Int32) (M' : Mem) (h : fX8_putNumber M x1 = some M') : RV G ad cA cZ cC yX8_putNumber cX8_putNumber 3 ({ frames := 1, cells := 0, slots := 0, locals := 21 } : Room) [.ref (ad 0), .int x1] M M' := by
  refine CV.mk (own := RX8) (ls0 := [(0, .ref (ad 0)), (1, .int x1)]) (by decide +kernel) rfl hap (Nat.le_of_ble_eq_true rfl) rfl ?_
  intro p l e s m args below meth c ls E hP hl
  have hx := E.1
  have hb := E.2.1
  have hown := E.2.2.2.2.2.1
  have hts := E.2.2.2.2.2.2.1
  have hEx := ExR.ok 7 ad
  have hS : va_S (AW 7 ad) s.heap s.heap [] := va_S.rf
  have hL18 : ∀ (n : Nat) (M : Mem) (x1 x2 : Int32) (H : Heap) (locs : List Loc) (ls : Array Slot), fX8_putNumber_L18 n M x1 x2 = some M' → va_P G vwCl (WW 7 (shR cA cZ cC ad) ad M) H → va_S (AW 7 ad) s.heap H locs → lv_has ls 3 [(0, .ref (ad 0)), (1, .int x1), (2, .int x2)] → W p l e ({ frames := 1, cells := 0, slots := 0, locals := 21 } : Room) s m args below meth c H locs 0 0 (QV below G 7 (shR cA cZ cC ad) ad args s M') (F0 m 18 ls []) := by
    intro n
    induction n with
    | zero => intro M x1 x2 H locs ls h; cases h
    | succ n ih =>
      intro M x1 x2 H locs ls h hP hS hl
      rw [fX8_putNumber_L18] at h
      refine lv_iload_n (pc := 18) hx hb dX8_putNumber_18 rfl (lv_at hl 2 rfl) ?_
      refine lv_if_le (pc := 19) (tgt := 43) hx hb dX8_putNumber_19 (by decide) (fun c3 => ?_) (fun c3 => ?_)
      · have h := (if_pos c3).symm.trans h
        obtain rfl := som1 h
        exact x_vret E hP hS dX8_putNumber_43
      · have h := (if_neg c3).symm.trans h
        refine lv_aload_n (pc := 22) hx hb dX8_putNumber_22 rfl (lv_at hl 0 rfl) ?_
        refine lv_bipush (pc := 23) (v := (48 : Int32)) hx hb dX8_putNumber_23 (by decide) ?_
        refine lv_iload_n (pc := 25) hx hb dX8_putNumber_25 rfl (lv_at hl 1 rfl) ?_
        refine lv_iload_n (pc := 26) hx hb dX8_putNumber_26 rfl (lv_at hl 2 rfl) ?_
        obtain ⟨c4, h⟩ := ite_some h
        refine lv_idiv (pc := 27) hx hb dX8_putNumber_27 c4 ?_
        refine lv_bipush (pc := 28) (v := (10 : Int32)) hx hb dX8_putNumber_28 (by decide) ?_
        refine x_irem (pc := 30) hx hb dX8_putNumber_30 (by decide) ?_
        refine lv_iadd (pc := 31) hx hb dX8_putNumber_31 ?_
        obtain ⟨M5, hM5, h⟩ := bnd_ex h
        refine x_callVv (pc := 32) (st := .int ((48 : Int32) + (irm (x1 / x2) (10 : Int32))) :: .ref (ad 0) :: []) (As := [.int ((48 : Int32) + (irm (x1 / x2) (10 : Int32)))]) E hEx hl.1 hP hS (kX8_put hap  M _ _ hM5) gX8_217 hdX8_put rfl (by decide) sh8 rfl ⟨Nat.le_of_ble_eq_true rfl, Nat.le_of_ble_eq_true rfl⟩ ⟨rfl, rfl⟩ dX8_putNumber_32 rfl (Nat.le_of_ble_eq_true rfl) (fun H locs hP hS => ?_)
        refine lv_iload_n (pc := 35) hx hb dX8_putNumber_35 rfl (lv_at hl 2 rfl) ?_
        refine lv_bipush (pc := 36) (v := (10 : Int32)) hx hb dX8_putNumber_36 (by decide) ?_
        refine lv_idiv (pc := 38) hx hb dX8_putNumber_38 (by decide) ?_
        refine lv_istore_n (pc := 39) (lv' := [(2, .int (x2 / (10 : Int32))), (0, .ref (ad 0)), (1, .int x1)]) hx hb dX8_putNumber_39 rfl hl (by decide) rfl (fun ls hl => ?_)
        refine lv_goto (pc := 40) (tgt := 18) hx hb dX8_putNumber_40 (by decide) ?_
        exact ih M5 x1 (x2 / (10 : Int32)) _ _ _ h hP hS (lv_sub hl [1, 2, 0] rfl)
  have hL2 : ∀ (n : Nat) (M : Mem) (x1 x2 : Int32) (H : Heap) (locs : List Loc) (ls : Array Slot), fX8_putNumber_L2 n M x1 x2 = some M' → va_P G vwCl (WW 7 (shR cA cZ cC ad) ad M) H → va_S (AW 7 ad) s.heap H locs → lv_has ls 3 [(0, .ref (ad 0)), (1, .int x1), (2, .int x2)] → W p l e ({ frames := 1, cells := 0, slots := 0, locals := 21 } : Room) s m args below meth c H locs 0 0 (QV below G 7 (shR cA cZ cC ad) ad args s M') (F0 m 2 ls []) := by
    intro n
    induction n with
    | zero => intro M x1 x2 H locs ls h; cases h
    | succ n ih =>
      intro M x1 x2 H locs ls h hP hS hl
      rw [fX8_putNumber_L2] at h
      refine lv_iload_n (pc := 2) hx hb dX8_putNumber_2 rfl (lv_at hl 1 rfl) ?_
      refine lv_iload_n (pc := 3) hx hb dX8_putNumber_3 rfl (lv_at hl 2 rfl) ?_
      obtain ⟨c1, h⟩ := ite_some h
      refine lv_idiv (pc := 4) hx hb dX8_putNumber_4 c1 ?_
      refine lv_bipush (pc := 5) (v := (9 : Int32)) hx hb dX8_putNumber_5 (by decide) ?_
      refine lv_icmp_le (pc := 7) (tgt := 18) hx hb dX8_putNumber_7 (by decide) (fun c2 => ?_) (fun c2 => ?_)
      · have h := (if_pos c2).symm.trans h
        exact hL18 5000 M x1 x2 _ _ _ h hP hS (lv_sub hl [0, 1, 2] rfl)
      · have h := (if_neg c2).symm.trans h
        refine lv_iload_n (pc := 10) hx hb dX8_putNumber_10 rfl (lv_at hl 2 rfl) ?_
        refine lv_bipush (pc := 11) (v := (10 : Int32)) hx hb dX8_putNumber_11 (by decide) ?_
        refine lv_imul (pc := 13) hx hb dX8_putNumber_13 ?_
        refine lv_istore_n (pc := 14) (lv' := [(2, .int (x2 * (10 : Int32))), (0, .ref (ad 0)), (1, .int x1)]) hx hb dX8_putNumber_14 rfl hl (by decide) rfl (fun ls hl => ?_)
        refine lv_goto (pc := 15) (tgt := 2) hx hb dX8_putNumber_15 (by decide) ?_
        exact ih M x1 (x2 * (10 : Int32)) _ _ _ h hP hS (lv_sub hl [1, 2, 0] rfl)
  unfold fX8_putNumber at h
  refine lv_iconst (pc := 0) (v := (1 : Int32)) hx hb dX8_putNumber_0 (by decide) ?_
  refine lv_istore_n (pc := 1) (lv' := [(2, .int (1 : Int32)), (0, .ref (ad 0)), (1, .int x1)]) hx hb dX8_putNumber_1 rfl hl (by decide) rfl (fun ls hl => ?_)
  exact hL2 5000 M x1 (1 : Int32) _ _ _ h hP hS (lv_sub hl [1, 2, 0] rfl)
set_option maxRecDepth 100000 in
set_option maxHeartbeats 4000000 in
theorem kX8_spell (hap : Apart 7 ad)   (M : Mem) (x1 : Int32) (M' : Mem) (h : fX8_spell M x1 = some M') : RV G ad cA cZ cC yX8_spell cX8_spell 5 ({ frames := 2, cells := 0, slots := 0, locals := 43 } : Room) [.ref (ad 0), .int x1] M M' := by
  refine CV.mk (own := RX8) (ls0 := [(0, .ref (ad 0)), (1, .int x1)]) (by decide +kernel) rfl hap (Nat.le_of_ble_eq_true rfl) rfl ?_
  intro p l e s m args below meth c ls E hP hl
  have hx := E.1
  have hb := E.2.1
  have hown := E.2.2.2.2.2.1
  have hts := E.2.2.2.2.2.2.1
  have hEx := ExR.ok 7 ad
  have hS : va_S (AW 7 ad) s.heap s.heap [] := va_S.rf
  have hL69 : ∀ (n : Nat) (M : Mem) (x2 x3 x4 : Int32) (H : Heap) (locs : List Loc) (ls : Array Slot), fX8_spell_L69 n M x2 x3 x4 = some M' → va_P G vwCl (WW 7 (shR cA cZ cC ad) ad M) H → va_S (AW 7 ad) s.heap H locs → lv_has ls 5 [(0, .ref (ad 0)), (2, .int x2), (3, .int x3), (4, .int x4)] → W p l e ({ frames := 2, cells := 0, slots := 0, locals := 43 } : Room) s m args below meth c H locs 0 0 (QV below G 7 (shR cA cZ cC ad) ad args s M') (F0 m 69 ls []) := by
    intro n
    induction n with
    | zero => intro M x2 x3 x4 H locs ls h; cases h
    | succ n ih =>
      intro M x2 x3 x4 H locs ls h hP hS hl
      rw [fX8_spell_L69] at h
      refine lv_iload (pc := 69) hx hb dX8_spell_69 (lv_at hl 3 rfl) ?_
      refine lv_iload_n (pc := 71) hx hb dX8_spell_71 rfl (lv_at hl 2 rfl) ?_
      refine x_callSi (pc := 72) (st := .int x3 :: .int x4 :: []) (As := [.int x3]) E hEx hl.1 hP hS (kX8_argumentsOf hap  M _ _ rfl) gX8_229 hsX8_argumentsOf rfl ⟨Nat.le_of_ble_eq_true rfl, Nat.le_of_ble_eq_true rfl⟩ ⟨rfl, rfl⟩ dX8_spell_72 rfl (Nat.le_of_ble_eq_true rfl) (fun H locs hP hS n10 => ?_)
      refine lv_icmp_ge (pc := 75) (tgt := 105) hx hb dX8_spell_75 (by decide) (fun c11 => ?_) (fun c11 => ?_)
      · have h := (if_pos c11).symm.trans h
        refine lv_aload_n (pc := 105) hx hb dX8_spell_105 rfl (lv_at hl 0 rfl) ?_
        refine lv_bipush (pc := 106) (v := (47 : Int32)) hx hb dX8_spell_106 (by decide) ?_
        obtain ⟨M12, hM12, h⟩ := bnd_ex h
        refine x_callVv (pc := 108) (st := .int (47 : Int32) :: .ref (ad 0) :: []) (As := [.int (47 : Int32)]) E hEx hl.1 hP hS (kX8_put hap  M _ _ hM12) gX8_217 hdX8_put rfl (by decide) sh8 rfl ⟨Nat.le_of_ble_eq_true rfl, Nat.le_of_ble_eq_true rfl⟩ ⟨rfl, rfl⟩ dX8_spell_108 rfl (Nat.le_of_ble_eq_true rfl) (fun H locs hP hS => ?_)
        obtain rfl := som1 h
        exact x_vret E hP hS dX8_spell_111
      · have h := (if_neg c11).symm.trans h
        refine lv_aload_n (pc := 78) hx hb dX8_spell_78 rfl (lv_at hl 0 rfl) ?_
        refine lv_bipush (pc := 79) (v := (32 : Int32)) hx hb dX8_spell_79 (by decide) ?_
        obtain ⟨M13, hM13, h⟩ := bnd_ex h
        refine x_callVv (pc := 81) (st := .int (32 : Int32) :: .ref (ad 0) :: []) (As := [.int (32 : Int32)]) E hEx hl.1 hP hS (kX8_put hap  M _ _ hM13) gX8_217 hdX8_put rfl (by decide) sh8 rfl ⟨Nat.le_of_ble_eq_true rfl, Nat.le_of_ble_eq_true rfl⟩ ⟨rfl, rfl⟩ dX8_spell_81 rfl (Nat.le_of_ble_eq_true rfl) (fun H locs hP hS => ?_)
        refine lv_aload_n (pc := 84) hx hb dX8_spell_84 rfl (lv_at hl 0 rfl) ?_
        refine lv_aload_n (pc := 85) hx hb dX8_spell_85 rfl (lv_at hl 0 rfl) ?_
        refine x_get (pc := 86) (v := .ref (ad 1)) E hP (by decide) sh8 rfl inX8 0 (by decide) q972 rfl dX8_spell_86 ?_
        refine lv_iload_n (pc := 89) hx hb dX8_spell_89 rfl (lv_at hl 1 rfl) ?_
        refine lv_iconst (pc := 90) (v := (2 : Int32)) hx hb dX8_spell_90 (by decide) ?_
        refine lv_iadd (pc := 91) hx hb dX8_spell_91 ?_
        refine lv_iload (pc := 92) hx hb dX8_spell_92 (lv_at hl 3 rfl) ?_
        refine lv_iadd (pc := 94) hx hb dX8_spell_94 ?_
        obtain ⟨c14, h⟩ := ite_some h
        refine x_iald (pc := 95) (j := ((x2 + (2 : Int32)) + x4).toNatClampNeg) E hP (by decide) sh8a1 0 rfl (inb_in c14) rfl dX8_spell_95 ?_
        obtain ⟨M15, hM15, h⟩ := bnd_ex h
        refine x_callVv (pc := 96) (st := .int (M13 1 (((x2 + (2 : Int32)) + x4).toNatClampNeg)) :: .ref (ad 0) :: []) (As := [.int (M13 1 (((x2 + (2 : Int32)) + x4).toNatClampNeg))]) E hEx hl.1 hP hS (kX8_putNumber hap  M13 _ _ hM15) gX8_220 hdX8_putNumber rfl (by decide) sh8 rfl ⟨Nat.le_of_ble_eq_true rfl, Nat.le_of_ble_eq_true rfl⟩ ⟨rfl, rfl⟩ dX8_spell_96 rfl (Nat.le_of_ble_eq_true rfl) (fun H locs hP hS => ?_)
        refine lv_iinc (pc := 99) (v := (x4 + 1)) (lv' := [(4, .int (x4 + 1)), (0, .ref (ad 0)), (2, .int x2), (3, .int x3)]) hx hb dX8_spell_99 hl (k := 3) rfl rfl (by decide) rfl (fun ls hl => ?_)
        refine lv_goto (pc := 102) (tgt := 69) hx hb dX8_spell_102 (by decide) ?_
        exact ih M15 x2 x3 (x4 + 1) _ _ _ h hP hS (lv_sub hl [1, 2, 3, 0] rfl)
  have hL41 : ∀ (n : Nat) (M : Mem) (x2 x3 x4 : Int32) (H : Heap) (locs : List Loc) (ls : Array Slot), fX8_spell_L41 n M x2 x3 x4 = some M' → va_P G vwCl (WW 7 (shR cA cZ cC ad) ad M) H → va_S (AW 7 ad) s.heap H locs → lv_has ls 5 [(0, .ref (ad 0)), (2, .int x2), (3, .int x3), (4, .int x4)] → W p l e ({ frames := 2, cells := 0, slots := 0, locals := 43 } : Room) s m args below meth c H locs 0 0 (QV below G 7 (shR cA cZ cC ad) ad args s M') (F0 m 41 ls []) := by
    intro n
    induction n with
    | zero => intro M x2 x3 x4 H locs ls h; cases h
    | succ n ih =>
      intro M x2 x3 x4 H locs ls h hP hS hl
      rw [fX8_spell_L41] at h
      refine lv_iload (pc := 41) hx hb dX8_spell_41 (lv_at hl 3 rfl) ?_
      refine lv_iload_n (pc := 43) hx hb dX8_spell_43 rfl (lv_at hl 2 rfl) ?_
      refine x_callSi (pc := 44) (st := .int x3 :: .int x4 :: []) (As := [.int x3]) E hEx hl.1 hP hS (kX8_lettersOf hap  M _ _ rfl) gX8_223 hsX8_lettersOf rfl ⟨Nat.le_of_ble_eq_true rfl, Nat.le_of_ble_eq_true rfl⟩ ⟨rfl, rfl⟩ dX8_spell_44 rfl (Nat.le_of_ble_eq_true rfl) (fun H locs hP hS n8 => ?_)
      refine lv_icmp_ge (pc := 47) (tgt := 66) hx hb dX8_spell_47 (by decide) (fun c9 => ?_) (fun c9 => ?_)
      · have h := (if_pos c9).symm.trans h
        refine lv_iconst (pc := 66) (v := (0 : Int32)) hx hb dX8_spell_66 (by decide) ?_
        refine lv_istore (pc := 67) (lv' := [(4, .int (0 : Int32)), (0, .ref (ad 0)), (2, .int x2), (3, .int x3)]) hx hb dX8_spell_67 hl (by decide) rfl (fun ls hl => ?_)
        exact hL69 5000 M x2 x3 (0 : Int32) _ _ _ h hP hS (lv_sub hl [1, 2, 3, 0] rfl)
      · have h := (if_neg c9).symm.trans h
        refine lv_aload_n (pc := 50) hx hb dX8_spell_50 rfl (lv_at hl 0 rfl) ?_
        refine lv_iload_n (pc := 51) hx hb dX8_spell_51 rfl (lv_at hl 2 rfl) ?_
        refine lv_iload (pc := 52) hx hb dX8_spell_52 (lv_at hl 3 rfl) ?_
        refine x_callSi (pc := 54) (st := .int x4 :: .int x3 :: .ref (ad 0) :: []) (As := [.int x3, .int x4]) E hEx hl.1 hP hS (kX8_wordLetter hap  M _ _ _ rfl) gX8_226 hsX8_wordLetter rfl ⟨Nat.le_of_ble_eq_true rfl, Nat.le_of_ble_eq_true rfl⟩ ⟨rfl, rfl⟩ dX8_spell_54 rfl (Nat.le_of_ble_eq_true rfl) (fun H locs hP hS n16 => ?_)
        obtain ⟨M17, hM17, h⟩ := bnd_ex h
        refine x_callVv (pc := 57) (st := .int (fX8_wordLetter M x3 x4) :: .ref (ad 0) :: []) (As := [.int (fX8_wordLetter M x3 x4)]) E hEx hl.1 hP hS (kX8_put hap  M _ _ hM17) gX8_217 hdX8_put rfl (by decide) sh8 rfl ⟨Nat.le_of_ble_eq_true rfl, Nat.le_of_ble_eq_true rfl⟩ ⟨rfl, rfl⟩ dX8_spell_57 rfl (Nat.le_of_ble_eq_true rfl) (fun H locs hP hS => ?_)
        refine lv_iinc (pc := 60) (v := (x4 + 1)) (lv' := [(4, .int (x4 + 1)), (0, .ref (ad 0)), (2, .int x2), (3, .int x3)]) hx hb dX8_spell_60 hl (k := 3) rfl rfl (by decide) rfl (fun ls hl => ?_)
        refine lv_goto (pc := 63) (tgt := 41) hx hb dX8_spell_63 (by decide) ?_
        exact ih M17 x2 x3 (x4 + 1) _ _ _ h hP hS (lv_sub hl [1, 2, 3, 0] rfl)
  unfold fX8_spell at h
  refine lv_sipush (pc := 0) (v := (402 : Int32)) hx hb dX8_spell_0 (by decide) ?_
  refine lv_iconst (pc := 3) (v := (4 : Int32)) hx hb dX8_spell_3 (by decide) ?_
  refine lv_iload_n (pc := 4) hx hb dX8_spell_4 rfl (lv_at hl 1 rfl) ?_
  refine lv_imul (pc := 5) hx hb dX8_spell_5 ?_
  refine lv_iadd (pc := 6) hx hb dX8_spell_6 ?_
  obtain ⟨y1, hy1, h⟩ := thn_ex h
  refine W.eq (g2 := F0 m 7 ls (.int y1 :: [])) (by rw [← hy1]) ?_
  refine lv_istore_n (pc := 7) (lv' := [(2, .int y1), (0, .ref (ad 0)), (1, .int x1)]) hx hb dX8_spell_7 rfl hl (by decide) rfl (fun ls hl => ?_)
  refine lv_aload_n (pc := 8) hx hb dX8_spell_8 rfl (lv_at hl 1 rfl) ?_
  refine x_get (pc := 9) (v := .ref (ad 1)) E hP (by decide) sh8 rfl inX8 0 (by decide) q972 rfl dX8_spell_9 ?_
  refine lv_iload_n (pc := 12) hx hb dX8_spell_12 rfl (lv_at hl 0 rfl) ?_
  refine lv_iconst (pc := 13) (v := (1 : Int32)) hx hb dX8_spell_13 (by decide) ?_
  refine lv_iadd (pc := 14) hx hb dX8_spell_14 ?_
  obtain ⟨c2, h⟩ := ite_some h
  refine x_iald (pc := 15) (j := (y1 + (1 : Int32)).toNatClampNeg) E hP (by decide) sh8a1 0 rfl (inb_in c2) rfl dX8_spell_15 ?_
  obtain ⟨y3, hy3, h⟩ := thn_ex h
  refine W.eq (g2 := F0 m 16 ls (.int y3 :: [])) (by rw [← hy3]) ?_
  refine lv_istore_n (pc := 16) (lv' := [(3, .int y3), (2, .int y1), (0, .ref (ad 0)), (1, .int x1)]) hx hb dX8_spell_16 rfl hl (by decide) rfl (fun ls hl => ?_)
  refine lv_aload_n (pc := 17) hx hb dX8_spell_17 rfl (lv_at hl 2 rfl) ?_
  refine lv_iconst (pc := 18) (v := (0 : Int32)) hx hb dX8_spell_18 (by decide) ?_
  obtain ⟨M4, hM4, h⟩ := thn_ex h
  refine x_put (pc := 19) (v := (0 : Int32)) E hP hS (by decide) sh8 tyX8 tyX8_ok nmX8 rfl inX8 13 (by decide) q985 rfl rfl rfl (Nat.le_of_ble_eq_true rfl) rfl dX8_spell_19 (fun H locs hP hS => ?_)
  rw [hM4] at hP
  refine lv_aload_n (pc := 22) hx hb dX8_spell_22 rfl (lv_at hl 2 rfl) ?_
  refine lv_aload_n (pc := 23) hx hb dX8_spell_23 rfl (lv_at hl 2 rfl) ?_
  refine x_get (pc := 24) (v := .ref (ad 1)) E hP (by decide) sh8 rfl inX8 0 (by decide) q972 rfl dX8_spell_24 ?_
  refine lv_iload_n (pc := 27) hx hb dX8_spell_27 rfl (lv_at hl 1 rfl) ?_
  obtain ⟨c5, h⟩ := ite_some h
  refine x_iald (pc := 28) (j := y1.toNatClampNeg) E hP (by decide) sh8a1 0 rfl (inb_in c5) rfl dX8_spell_28 ?_
  obtain ⟨M6, hM6, h⟩ := bnd_ex h
  refine x_callVv (pc := 29) (st := .int (M4 1 (y1.toNatClampNeg)) :: .ref (ad 0) :: []) (As := [.int (M4 1 (y1.toNatClampNeg))]) E hEx hl.1 hP hS (kX8_putNumber hap  M4 _ _ hM6) gX8_220 hdX8_putNumber rfl (by decide) sh8 rfl ⟨Nat.le_of_ble_eq_true rfl, Nat.le_of_ble_eq_true rfl⟩ ⟨rfl, rfl⟩ dX8_spell_29 rfl (Nat.le_of_ble_eq_true rfl) (fun H locs hP hS => ?_)
  refine lv_aload_n (pc := 32) hx hb dX8_spell_32 rfl (lv_at hl 2 rfl) ?_
  refine lv_bipush (pc := 33) (v := (58 : Int32)) hx hb dX8_spell_33 (by decide) ?_
  obtain ⟨M7, hM7, h⟩ := bnd_ex h
  refine x_callVv (pc := 35) (st := .int (58 : Int32) :: .ref (ad 0) :: []) (As := [.int (58 : Int32)]) E hEx hl.1 hP hS (kX8_put hap  M6 _ _ hM7) gX8_217 hdX8_put rfl (by decide) sh8 rfl ⟨Nat.le_of_ble_eq_true rfl, Nat.le_of_ble_eq_true rfl⟩ ⟨rfl, rfl⟩ dX8_spell_35 rfl (Nat.le_of_ble_eq_true rfl) (fun H locs hP hS => ?_)
  refine lv_iconst (pc := 38) (v := (0 : Int32)) hx hb dX8_spell_38 (by decide) ?_
  refine lv_istore (pc := 39) (lv' := [(4, .int (0 : Int32)), (3, .int y3), (2, .int y1), (0, .ref (ad 0)), (1, .int x1)]) hx hb dX8_spell_39 hl (by decide) rfl (fun ls hl => ?_)
  exact hL41 5000 M7 y1 y3 (0 : Int32) _ _ _ h hP hS (lv_sub hl [3, 2, 1, 0] rfl)
set_option maxRecDepth 100000 in
set_option maxHeartbeats 4000000 in
theorem kX8_logAt (hap : Apart 7 ad)   (M : Mem) (x1 : Int32) (v : Int32) (M' : Mem) (h : fX8_logAt M x1 = some (v, M')) : RI G ad cA cZ cC yX8_logAt cX8_logAt 4 .int ({ frames := 3, cells := 0, slots := 0, locals := 67 } : Room) [.ref (ad 0), .int x1] M v M' := by
  refine CI.mk (own := RX8) (ls0 := [(0, .ref (ad 0)), (1, .int x1)]) (by decide +kernel) rfl hap (Nat.le_of_ble_eq_true rfl) rfl ?_
  intro p l e s m args below meth c ls E hP hl
  have hx := E.1
  have hb := E.2.1
  have hown := E.2.2.2.2.2.1
  have hts := E.2.2.2.2.2.2.1
  have hEx := ExR.ok 7 ad
  have hS : va_S (AW 7 ad) s.heap s.heap [] := va_S.rf
  have hL11 : ∀ (n : Nat) (M : Mem) (x2 x3 : Int32) (H : Heap) (locs : List Loc) (ls : Array Slot), fX8_logAt_L11 n M x2 x3 = some (v, M') → va_P G vwCl (WW 7 (shR cA cZ cC ad) ad M) H → va_S (AW 7 ad) s.heap H locs → lv_has ls 4 [(0, .ref (ad 0)), (2, .int x2), (3, .int x3)] → W p l e ({ frames := 3, cells := 0, slots := 0, locals := 67 } : Room) s m args below meth c H locs 0 0 (QI below G 7 (shR cA cZ cC ad) ad .int args s v M') (F0 m 11 ls []) := by
    intro n
    induction n with
    | zero => intro M x2 x3 H locs ls h; cases h
    | succ n ih =>
      intro M x2 x3 H locs ls h hP hS hl
      rw [fX8_logAt_L11] at h
      refine lv_iload_n (pc := 11) hx hb dX8_logAt_11 rfl (lv_at hl 2 rfl) ?_
      refine lv_aload_n (pc := 12) hx hb dX8_logAt_12 rfl (lv_at hl 0 rfl) ?_
      refine x_get (pc := 13) (v := .ref (ad 1)) E hP (by decide) sh8 rfl inX8 0 (by decide) q972 rfl dX8_logAt_13 ?_
      refine lv_bipush (pc := 16) (v := (17 : Int32)) hx hb dX8_logAt_16 (by decide) ?_
      refine x_iald (pc := 18) (j := 17) E hP (by decide) sh8a1 0 rfl (vp_inl (by decide)) rfl dX8_logAt_18 ?_
      refine lv_icmp_ge (pc := 19) (tgt := 55) hx hb dX8_logAt_19 (by decide) (fun c2 => ?_) (fun c2 => ?_)
      · have h := (if_pos c2).symm.trans h
        refine lv_bipush (pc := 55) (v := (-5 : Int32)) hx hb dX8_logAt_55 (by decide) ?_
        obtain ⟨rfl, rfl⟩ := som2 h
        exact x_iret E hP hS rfl dX8_logAt_57
      · have h := (if_neg c2).symm.trans h
        refine lv_aload_n (pc := 22) hx hb dX8_logAt_22 rfl (lv_at hl 0 rfl) ?_
        refine lv_iload_n (pc := 23) hx hb dX8_logAt_23 rfl (lv_at hl 2 rfl) ?_
        obtain ⟨M3, hM3, h⟩ := bnd_ex h
        refine x_callVv (pc := 24) (st := .int x3 :: .ref (ad 0) :: []) (As := [.int x3]) E hEx hl.1 hP hS (kX8_spell hap  M _ _ hM3) gX8_232 hdX8_spell rfl (by decide) sh8 rfl ⟨Nat.le_of_ble_eq_true rfl, Nat.le_of_ble_eq_true rfl⟩ ⟨rfl, rfl⟩ dX8_logAt_24 rfl (Nat.le_of_ble_eq_true rfl) (fun H locs hP hS => ?_)
        refine lv_iload_n (pc := 27) hx hb dX8_logAt_27 rfl (lv_at hl 1 rfl) ?_
        refine lv_aload_n (pc := 28) hx hb dX8_logAt_28 rfl (lv_at hl 0 rfl) ?_
        refine x_get (pc := 29) (v := .int (M3 0 13)) E hP (by decide) sh8 rfl inX8 13 (by decide) q985 rfl dX8_logAt_29 ?_
        refine lv_icmp_ge (pc := 32) (tgt := 42) hx hb dX8_logAt_32 (by decide) (fun c4 => ?_) (fun c4 => ?_)
        · have h := (if_pos c4).symm.trans h
          refine lv_iload_n (pc := 42) hx hb dX8_logAt_42 rfl (lv_at hl 1 rfl) ?_
          refine lv_aload_n (pc := 43) hx hb dX8_logAt_43 rfl (lv_at hl 0 rfl) ?_
          refine x_get (pc := 44) (v := .int (M3 0 13)) E hP (by decide) sh8 rfl inX8 13 (by decide) q985 rfl dX8_logAt_44 ?_
          refine lv_isub (pc := 47) hx hb dX8_logAt_47 ?_
          refine lv_istore_n (pc := 48) (lv' := [(2, .int (x2 - (M3 0 13))), (0, .ref (ad 0)), (3, .int x3)]) hx hb dX8_logAt_48 rfl hl (by decide) rfl (fun ls hl => ?_)
          refine lv_iinc (pc := 49) (v := (x3 + 1)) (lv' := [(3, .int (x3 + 1)), (2, .int (x2 - (M3 0 13))), (0, .ref (ad 0))]) hx hb dX8_logAt_49 hl (k := 2) rfl rfl (by decide) rfl (fun ls hl => ?_)
          refine lv_goto (pc := 52) (tgt := 11) hx hb dX8_logAt_52 (by decide) ?_
          exact ih M3 (x2 - (M3 0 13)) (x3 + 1) _ _ _ h hP hS (lv_sub hl [2, 1, 0] rfl)
        · have h := (if_neg c4).symm.trans h
          refine lv_aload_n (pc := 35) hx hb dX8_logAt_35 rfl (lv_at hl 0 rfl) ?_
          refine x_get (pc := 36) (v := .ref (ad 6)) E hP (by decide) sh8 rfl inX8 12 (by decide) q984 rfl dX8_logAt_36 ?_
          refine lv_iload_n (pc := 39) hx hb dX8_logAt_39 rfl (lv_at hl 1 rfl) ?_
          obtain ⟨c5, h⟩ := ite_some h
          refine x_iald (pc := 40) (j := x2.toNatClampNeg) E hP (by decide) sh8a6 0 rfl (inb_in c5) rfl dX8_logAt_40 ?_
          obtain ⟨rfl, rfl⟩ := som2 h
          exact x_iret E hP hS rfl dX8_logAt_41
  unfold fX8_logAt at h
  refine lv_iload_n (pc := 0) hx hb dX8_logAt_0 rfl (lv_at hl 1 rfl) ?_
  refine lv_if_ge (pc := 1) (tgt := 7) hx hb dX8_logAt_1 (by decide) (fun c1 => ?_) (fun c1 => ?_)
  · have h := (if_pos c1).symm.trans h
    refine lv_iload_n (pc := 7) hx hb dX8_logAt_7 rfl (lv_at hl 1 rfl) ?_
    refine lv_istore_n (pc := 8) (lv' := [(2, .int x1), (0, .ref (ad 0)), (1, .int x1)]) hx hb dX8_logAt_8 rfl hl (by decide) rfl (fun ls hl => ?_)
    refine lv_iconst (pc := 9) (v := (0 : Int32)) hx hb dX8_logAt_9 (by decide) ?_
    refine lv_istore_n (pc := 10) (lv' := [(3, .int (0 : Int32)), (2, .int x1), (0, .ref (ad 0)), (1, .int x1)]) hx hb dX8_logAt_10 rfl hl (by decide) rfl (fun ls hl => ?_)
    exact hL11 5000 M x1 (0 : Int32) _ _ _ h hP hS (lv_sub hl [2, 1, 0] rfl)
  · have h := (if_neg c1).symm.trans h
    refine lv_bipush (pc := 4) (v := (-2 : Int32)) hx hb dX8_logAt_4 (by decide) ?_
    obtain ⟨rfl, rfl⟩ := som2 h
    exact x_iret E hP hS rfl dX8_logAt_6
set_option maxRecDepth 100000 in
set_option maxHeartbeats 4000000 in
theorem kX8_logLength (hap : Apart 7 ad)   (M : Mem)  (v : Int32) (M' : Mem) (h : fX8_logLength M = some (v, M')) : RI G ad cA cZ cC yX8_logLength cX8_logLength 3 .int ({ frames := 3, cells := 0, slots := 0, locals := 67 } : Room) [.ref (ad 0)] M v M' := by
  refine CI.mk (own := RX8) (ls0 := [(0, .ref (ad 0))]) (by decide +kernel) rfl hap (Nat.le_of_ble_eq_true rfl) rfl ?_
  intro p l e s m args below meth c ls E hP hl
  have hx := E.1
  have hb := E.2.1
  have hown := E.2.2.2.2.2.1
  have hts := E.2.2.2.2.2.2.1
  have hEx := ExR.ok 7 ad
  have hS : va_S (AW 7 ad) s.heap s.heap [] := va_S.rf
  have hL4 : ∀ (n : Nat) (M : Mem) (x1 x2 : Int32) (H : Heap) (locs : List Loc) (ls : Array Slot), fX8_logLength_L4 n M x1 x2 = some (v, M') → va_P G vwCl (WW 7 (shR cA cZ cC ad) ad M) H → va_S (AW 7 ad) s.heap H locs → lv_has ls 3 [(0, .ref (ad 0)), (1, .int x1), (2, .int x2)] → W p l e ({ frames := 3, cells := 0, slots := 0, locals := 67 } : Room) s m args below meth c H locs 0 0 (QI below G 7 (shR cA cZ cC ad) ad .int args s v M') (F0 m 4 ls []) := by
    intro n
    induction n with
    | zero => intro M x1 x2 H locs ls h; cases h
    | succ n ih =>
      intro M x1 x2 H locs ls h hP hS hl
      rw [fX8_logLength_L4] at h
      refine lv_iload_n (pc := 4) hx hb dX8_logLength_4 rfl (lv_at hl 2 rfl) ?_
      refine lv_aload_n (pc := 5) hx hb dX8_logLength_5 rfl (lv_at hl 0 rfl) ?_
      refine x_get (pc := 6) (v := .ref (ad 1)) E hP (by decide) sh8 rfl inX8 0 (by decide) q972 rfl dX8_logLength_6 ?_
      refine lv_bipush (pc := 9) (v := (17 : Int32)) hx hb dX8_logLength_9 (by decide) ?_
      refine x_iald (pc := 11) (j := 17) E hP (by decide) sh8a1 0 rfl (vp_inl (by decide)) rfl dX8_logLength_11 ?_
      refine lv_icmp_ge (pc := 12) (tgt := 33) hx hb dX8_logLength_12 (by decide) (fun c1 => ?_) (fun c1 => ?_)
      · have h := (if_pos c1).symm.trans h
        refine lv_iload_n (pc := 33) hx hb dX8_logLength_33 rfl (lv_at hl 1 rfl) ?_
        obtain ⟨rfl, rfl⟩ := som2 h
        exact x_iret E hP hS rfl dX8_logLength_34
      · have h := (if_neg c1).symm.trans h
        refine lv_aload_n (pc := 15) hx hb dX8_logLength_15 rfl (lv_at hl 0 rfl) ?_
        refine lv_iload_n (pc := 16) hx hb dX8_logLength_16 rfl (lv_at hl 2 rfl) ?_
        obtain ⟨M2, hM2, h⟩ := bnd_ex h
        refine x_callVv (pc := 17) (st := .int x2 :: .ref (ad 0) :: []) (As := [.int x2]) E hEx hl.1 hP hS (kX8_spell hap  M _ _ hM2) gX8_232 hdX8_spell rfl (by decide) sh8 rfl ⟨Nat.le_of_ble_eq_true rfl, Nat.le_of_ble_eq_true rfl⟩ ⟨rfl, rfl⟩ dX8_logLength_17 rfl (Nat.le_of_ble_eq_true rfl) (fun H locs hP hS => ?_)
        refine lv_iload_n (pc := 20) hx hb dX8_logLength_20 rfl (lv_at hl 1 rfl) ?_
        refine lv_aload_n (pc := 21) hx hb dX8_logLength_21 rfl (lv_at hl 0 rfl) ?_
        refine x_get (pc := 22) (v := .int (M2 0 13)) E hP (by decide) sh8 rfl inX8 13 (by decide) q985 rfl dX8_logLength_22 ?_
        refine lv_iadd (pc := 25) hx hb dX8_logLength_25 ?_
        refine lv_istore_n (pc := 26) (lv' := [(1, .int (x1 + (M2 0 13))), (0, .ref (ad 0)), (2, .int x2)]) hx hb dX8_logLength_26 rfl hl (by decide) rfl (fun ls hl => ?_)
        refine lv_iinc (pc := 27) (v := (x2 + 1)) (lv' := [(2, .int (x2 + 1)), (1, .int (x1 + (M2 0 13))), (0, .ref (ad 0))]) hx hb dX8_logLength_27 hl (k := 2) rfl rfl (by decide) rfl (fun ls hl => ?_)
        refine lv_goto (pc := 30) (tgt := 4) hx hb dX8_logLength_30 (by decide) ?_
        exact ih M2 (x1 + (M2 0 13)) (x2 + 1) _ _ _ h hP hS (lv_sub hl [2, 1, 0] rfl)
  unfold fX8_logLength at h
  refine lv_iconst (pc := 0) (v := (0 : Int32)) hx hb dX8_logLength_0 (by decide) ?_
  refine lv_istore_n (pc := 1) (lv' := [(1, .int (0 : Int32)), (0, .ref (ad 0))]) hx hb dX8_logLength_1 rfl hl (by decide) rfl (fun ls hl => ?_)
  refine lv_iconst (pc := 2) (v := (0 : Int32)) hx hb dX8_logLength_2 (by decide) ?_
  refine lv_istore_n (pc := 3) (lv' := [(2, .int (0 : Int32)), (1, .int (0 : Int32)), (0, .ref (ad 0))]) hx hb dX8_logLength_3 rfl hl (by decide) rfl (fun ls hl => ?_)
  exact hL4 5000 M (0 : Int32) (0 : Int32) _ _ _ h hP hS (lv_sub hl [2, 1, 0] rfl)
set_option maxRecDepth 100000 in
set_option maxHeartbeats 4000000 in
theorem kX8_behind (hap : Apart 7 ad)   (M : Mem)  (v : Int32) (h : fX8_behind M = some v) : RI G ad cA cZ cC yX8_behind cX8_behind 3 .int ({ frames := 0, cells := 0, slots := 0, locals := 0 } : Room) [.ref (ad 0)] M v M := by
  refine CI.mk (own := RX8) (ls0 := [(0, .ref (ad 0))]) (by decide +kernel) rfl hap (Nat.le_of_ble_eq_true rfl) rfl ?_
  intro p l e s m args below meth c ls E hP hl
  have hx := E.1
  have hb := E.2.1
  have hown := E.2.2.2.2.2.1
  have hts := E.2.2.2.2.2.2.1
  have hEx := ExR.ok 7 ad
  have hS : va_S (AW 7 ad) s.heap s.heap [] := va_S.rf
  have hL4 : ∀ (n : Nat) (M : Mem) (x1 x2 : Int32) (H : Heap) (locs : List Loc) (ls : Array Slot), fX8_behind_L4 n M x1 x2 = some v → va_P G vwCl (WW 7 (shR cA cZ cC ad) ad M) H → va_S (AW 7 ad) s.heap H locs → lv_has ls 3 [(0, .ref (ad 0)), (1, .int x1), (2, .int x2)] → W p l e ({ frames := 0, cells := 0, slots := 0, locals := 0 } : Room) s m args below meth c H locs 0 0 (QI below G 7 (shR cA cZ cC ad) ad .int args s v M) (F0 m 4 ls []) := by
    intro n
    induction n with
    | zero => intro M x1 x2 H locs ls h; cases h
    | succ n ih =>
      intro M x1 x2 H locs ls h hP hS hl
      rw [fX8_behind_L4] at h
      refine lv_iload_n (pc := 4) hx hb dX8_behind_4 rfl (lv_at hl 2 rfl) ?_
      refine lv_aload_n (pc := 5) hx hb dX8_behind_5 rfl (lv_at hl 0 rfl) ?_
      refine x_get (pc := 6) (v := .ref (ad 1)) E hP (by decide) sh8 rfl inX8 0 (by decide) q972 rfl dX8_behind_6 ?_
      refine lv_iconst (pc := 9) (v := (3 : Int32)) hx hb dX8_behind_9 (by decide) ?_
      refine x_iald (pc := 10) (j := 3) E hP (by decide) sh8a1 0 rfl (vp_inl (by decide)) rfl dX8_behind_10 ?_
      refine lv_icmp_ge (pc := 11) (tgt := 48) hx hb dX8_behind_11 (by decide) (fun c1 => ?_) (fun c1 => ?_)
      · have h := (if_pos c1).symm.trans h
        refine lv_iload_n (pc := 48) hx hb dX8_behind_48 rfl (lv_at hl 1 rfl) ?_
        obtain rfl := som1 h
        exact x_iret E hP hS rfl dX8_behind_49
      · have h := (if_neg c1).symm.trans h
        refine lv_iload_n (pc := 14) hx hb dX8_behind_14 rfl (lv_at hl 1 rfl) ?_
        refine lv_aload_n (pc := 15) hx hb dX8_behind_15 rfl (lv_at hl 0 rfl) ?_
        refine x_get (pc := 16) (v := .ref (ad 1)) E hP (by decide) sh8 rfl inX8 0 (by decide) q972 rfl dX8_behind_16 ?_
        refine lv_sipush (pc := 19) (v := (184 : Int32)) hx hb dX8_behind_19 (by decide) ?_
        refine lv_iload_n (pc := 22) hx hb dX8_behind_22 rfl (lv_at hl 2 rfl) ?_
        refine lv_iadd (pc := 23) hx hb dX8_behind_23 ?_
        obtain ⟨c2, h⟩ := ite_some h
        refine x_iald (pc := 24) (j := ((184 : Int32) + x2).toNatClampNeg) E hP (by decide) sh8a1 0 rfl (inb_in c2) rfl dX8_behind_24 ?_
        refine lv_aload_n (pc := 25) hx hb dX8_behind_25 rfl (lv_at hl 0 rfl) ?_
        refine x_get (pc := 26) (v := .ref (ad 1)) E hP (by decide) sh8 rfl inX8 0 (by decide) q972 rfl dX8_behind_26 ?_
        refine lv_bipush (pc := 29) (v := (9 : Int32)) hx hb dX8_behind_29 (by decide) ?_
        refine x_iald (pc := 31) (j := 9) E hP (by decide) sh8a1 0 rfl (vp_inl (by decide)) rfl dX8_behind_31 ?_
        refine lv_icmp_ge (pc := 32) (tgt := 39) hx hb dX8_behind_32 (by decide) (fun c3 => ?_) (fun c3 => ?_)
        · have h := (if_pos c3).symm.trans h
          refine lv_iconst (pc := 39) (v := (0 : Int32)) hx hb dX8_behind_39 (by decide) ?_
          refine lv_iadd (pc := 40) hx hb dX8_behind_40 ?_
          refine lv_istore_n (pc := 41) (lv' := [(1, .int (x1 + (0 : Int32))), (0, .ref (ad 0)), (2, .int x2)]) hx hb dX8_behind_41 rfl hl (by decide) rfl (fun ls hl => ?_)
          refine lv_iinc (pc := 42) (v := (x2 + 1)) (lv' := [(2, .int (x2 + 1)), (1, .int (x1 + (0 : Int32))), (0, .ref (ad 0))]) hx hb dX8_behind_42 hl (k := 2) rfl rfl (by decide) rfl (fun ls hl => ?_)
          refine lv_goto (pc := 45) (tgt := 4) hx hb dX8_behind_45 (by decide) ?_
          exact ih M (x1 + (0 : Int32)) (x2 + 1) _ _ _ h hP hS (lv_sub hl [2, 1, 0] rfl)
        · have h := (if_neg c3).symm.trans h
          refine lv_iconst (pc := 35) (v := (1 : Int32)) hx hb dX8_behind_35 (by decide) ?_
          refine lv_goto (pc := 36) (tgt := 40) hx hb dX8_behind_36 (by decide) ?_
          refine lv_iadd (pc := 40) hx hb dX8_behind_40 ?_
          refine lv_istore_n (pc := 41) (lv' := [(1, .int (x1 + (1 : Int32))), (0, .ref (ad 0)), (2, .int x2)]) hx hb dX8_behind_41 rfl hl (by decide) rfl (fun ls hl => ?_)
          refine lv_iinc (pc := 42) (v := (x2 + 1)) (lv' := [(2, .int (x2 + 1)), (1, .int (x1 + (1 : Int32))), (0, .ref (ad 0))]) hx hb dX8_behind_42 hl (k := 2) rfl rfl (by decide) rfl (fun ls hl => ?_)
          refine lv_goto (pc := 45) (tgt := 4) hx hb dX8_behind_45 (by decide) ?_
          exact ih M (x1 + (1 : Int32)) (x2 + 1) _ _ _ h hP hS (lv_sub hl [2, 1, 0] rfl)
  unfold fX8_behind at h
  refine lv_iconst (pc := 0) (v := (0 : Int32)) hx hb dX8_behind_0 (by decide) ?_
  refine lv_istore_n (pc := 1) (lv' := [(1, .int (0 : Int32)), (0, .ref (ad 0))]) hx hb dX8_behind_1 rfl hl (by decide) rfl (fun ls hl => ?_)
  refine lv_iconst (pc := 2) (v := (0 : Int32)) hx hb dX8_behind_2 (by decide) ?_
  refine lv_istore_n (pc := 3) (lv' := [(2, .int (0 : Int32)), (1, .int (0 : Int32)), (0, .ref (ad 0))]) hx hb dX8_behind_3 rfl hl (by decide) rfl (fun ls hl => ?_)
  exact hL4 5000 M (0 : Int32) (0 : Int32) _ _ _ h hP hS (lv_sub hl [2, 1, 0] rfl)
set_option maxRecDepth 100000 in
set_option maxHeartbeats 4000000 in
theorem kX8_wins (hap : Apart 7 ad)   (M : Mem)  (v : Int32) (h : fX8_wins M = some v) : RI G ad cA cZ cC yX8_wins cX8_wins 3 .int ({ frames := 0, cells := 0, slots := 0, locals := 0 } : Room) [.ref (ad 0)] M v M := by
  refine CI.mk (own := RX8) (ls0 := [(0, .ref (ad 0))]) (by decide +kernel) rfl hap (Nat.le_of_ble_eq_true rfl) rfl ?_
  intro p l e s m args below meth c ls E hP hl
  have hx := E.1
  have hb := E.2.1
  have hown := E.2.2.2.2.2.1
  have hts := E.2.2.2.2.2.2.1
  have hEx := ExR.ok 7 ad
  have hS : va_S (AW 7 ad) s.heap s.heap [] := va_S.rf
  have hL4 : ∀ (n : Nat) (M : Mem) (x1 x2 : Int32) (H : Heap) (locs : List Loc) (ls : Array Slot), fX8_wins_L4 n M x1 x2 = some v → va_P G vwCl (WW 7 (shR cA cZ cC ad) ad M) H → va_S (AW 7 ad) s.heap H locs → lv_has ls 3 [(0, .ref (ad 0)), (1, .int x1), (2, .int x2)] → W p l e ({ frames := 0, cells := 0, slots := 0, locals := 0 } : Room) s m args below meth c H locs 0 0 (QI below G 7 (shR cA cZ cC ad) ad .int args s v M) (F0 m 4 ls []) := by
    intro n
    induction n with
    | zero => intro M x1 x2 H locs ls h; cases h
    | succ n ih =>
      intro M x1 x2 H locs ls h hP hS hl
      rw [fX8_wins_L4] at h
      refine lv_iload_n (pc := 4) hx hb dX8_wins_4 rfl (lv_at hl 2 rfl) ?_
      refine lv_aload_n (pc := 5) hx hb dX8_wins_5 rfl (lv_at hl 0 rfl) ?_
      refine x_get (pc := 6) (v := .ref (ad 1)) E hP (by decide) sh8 rfl inX8 0 (by decide) q972 rfl dX8_wins_6 ?_
      refine lv_iconst (pc := 9) (v := (4 : Int32)) hx hb dX8_wins_9 (by decide) ?_
      refine x_iald (pc := 10) (j := 4) E hP (by decide) sh8a1 0 rfl (vp_inl (by decide)) rfl dX8_wins_10 ?_
      refine lv_icmp_ge (pc := 11) (tgt := 38) hx hb dX8_wins_11 (by decide) (fun c1 => ?_) (fun c1 => ?_)
      · have h := (if_pos c1).symm.trans h
        refine lv_iload_n (pc := 38) hx hb dX8_wins_38 rfl (lv_at hl 1 rfl) ?_
        obtain rfl := som1 h
        exact x_iret E hP hS rfl dX8_wins_39
      · have h := (if_neg c1).symm.trans h
        refine lv_iload_n (pc := 14) hx hb dX8_wins_14 rfl (lv_at hl 1 rfl) ?_
        refine lv_aload_n (pc := 15) hx hb dX8_wins_15 rfl (lv_at hl 0 rfl) ?_
        refine x_get (pc := 16) (v := .ref (ad 1)) E hP (by decide) sh8 rfl inX8 0 (by decide) q972 rfl dX8_wins_16 ?_
        refine lv_sipush (pc := 19) (v := (192 : Int32)) hx hb dX8_wins_19 (by decide) ?_
        refine lv_bipush (pc := 22) (v := (7 : Int32)) hx hb dX8_wins_22 (by decide) ?_
        refine lv_iload_n (pc := 24) hx hb dX8_wins_24 rfl (lv_at hl 2 rfl) ?_
        refine lv_imul (pc := 25) hx hb dX8_wins_25 ?_
        refine lv_iadd (pc := 26) hx hb dX8_wins_26 ?_
        refine lv_iconst (pc := 27) (v := (4 : Int32)) hx hb dX8_wins_27 (by decide) ?_
        refine lv_iadd (pc := 28) hx hb dX8_wins_28 ?_
        obtain ⟨c2, h⟩ := ite_some h
        refine x_iald (pc := 29) (j := (((192 : Int32) + ((7 : Int32) * x2)) + (4 : Int32)).toNatClampNeg) E hP (by decide) sh8a1 0 rfl (inb_in c2) rfl dX8_wins_29 ?_
        refine lv_iadd (pc := 30) hx hb dX8_wins_30 ?_
        obtain ⟨y3, hy3, h⟩ := thn_ex h
        refine W.eq (g2 := F0 m 31 ls (.int y3 :: [])) (by rw [← hy3]) ?_
        refine lv_istore_n (pc := 31) (lv' := [(1, .int y3), (0, .ref (ad 0)), (2, .int x2)]) hx hb dX8_wins_31 rfl hl (by decide) rfl (fun ls hl => ?_)
        refine lv_iinc (pc := 32) (v := (x2 + 1)) (lv' := [(2, .int (x2 + 1)), (1, .int y3), (0, .ref (ad 0))]) hx hb dX8_wins_32 hl (k := 2) rfl rfl (by decide) rfl (fun ls hl => ?_)
        refine lv_goto (pc := 35) (tgt := 4) hx hb dX8_wins_35 (by decide) ?_
        exact ih M y3 (x2 + 1) _ _ _ h hP hS (lv_sub hl [2, 1, 0] rfl)
  unfold fX8_wins at h
  refine lv_iconst (pc := 0) (v := (0 : Int32)) hx hb dX8_wins_0 (by decide) ?_
  refine lv_istore_n (pc := 1) (lv' := [(1, .int (0 : Int32)), (0, .ref (ad 0))]) hx hb dX8_wins_1 rfl hl (by decide) rfl (fun ls hl => ?_)
  refine lv_iconst (pc := 2) (v := (0 : Int32)) hx hb dX8_wins_2 (by decide) ?_
  refine lv_istore_n (pc := 3) (lv' := [(2, .int (0 : Int32)), (1, .int (0 : Int32)), (0, .ref (ad 0))]) hx hb dX8_wins_3 rfl hl (by decide) rfl (fun ls hl => ?_)
  exact hL4 5000 M (0 : Int32) (0 : Int32) _ _ _ h hP hS (lv_sub hl [2, 1, 0] rfl)
set_option maxRecDepth 100000 in
set_option maxHeartbeats 4000000 in
theorem kX8_count (hap : Apart 7 ad)   (M : Mem) (x1 : Int32) (v : Int32) (M' : Mem) (h : fX8_count M x1 = some (v, M')) : RI G ad cA cZ cC yX8_count cX8_count 2 .int ({ frames := 4, cells := 0, slots := 0, locals := 89 } : Room) [.ref (ad 0), .int x1] M v M' := by
  refine CI.mk (own := RX8) (ls0 := [(0, .ref (ad 0)), (1, .int x1)]) (by decide +kernel) rfl hap (Nat.le_of_ble_eq_true rfl) rfl ?_
  intro p l e s m args below meth c ls E hP hl
  have hx := E.1
  have hb := E.2.1
  have hown := E.2.2.2.2.2.1
  have hts := E.2.2.2.2.2.2.1
  have hEx := ExR.ok 7 ad
  have hS : va_S (AW 7 ad) s.heap s.heap [] := va_S.rf
  unfold fX8_count at h
  refine lv_iload_n (pc := 0) hx hb dX8_count_0 rfl (lv_at hl 1 rfl) ?_
  by_cases c1 : x1 = (0 : Int32)
  · have h := (if_pos c1).symm.trans h
    refine lv_tableIn (pc := 1) (off := 75) (tgt := 76) hx hb dX8_count_1 (by rw [c1]; decide) (by rw [c1]; decide) (by rw [c1]; decide) (by decide) ?_
    refine lv_aload_n (pc := 76) hx hb dX8_count_76 rfl (lv_at hl 0 rfl) ?_
    refine x_get (pc := 77) (v := .ref (ad 1)) E hP (by decide) sh8 rfl inX8 0 (by decide) q972 rfl dX8_count_77 ?_
    refine lv_iconst (pc := 80) (v := (0 : Int32)) hx hb dX8_count_80 (by decide) ?_
    refine x_iald (pc := 81) (j := 0) E hP (by decide) sh8a1 0 rfl (vp_inl (by decide)) rfl dX8_count_81 ?_
    obtain ⟨rfl, rfl⟩ := som2 h
    exact x_iret E hP hS rfl dX8_count_82
  · have h := (if_neg c1).symm.trans h
    by_cases c2 : x1 = (1 : Int32)
    · have h := (if_pos c2).symm.trans h
      refine lv_tableIn (pc := 1) (off := 82) (tgt := 83) hx hb dX8_count_1 (by rw [c2]; decide) (by rw [c2]; decide) (by rw [c2]; decide) (by decide) ?_
      refine lv_aload_n (pc := 83) hx hb dX8_count_83 rfl (lv_at hl 0 rfl) ?_
      refine x_get (pc := 84) (v := .ref (ad 1)) E hP (by decide) sh8 rfl inX8 0 (by decide) q972 rfl dX8_count_84 ?_
      refine lv_iconst (pc := 87) (v := (1 : Int32)) hx hb dX8_count_87 (by decide) ?_
      refine x_iald (pc := 88) (j := 1) E hP (by decide) sh8a1 0 rfl (vp_inl (by decide)) rfl dX8_count_88 ?_
      obtain ⟨rfl, rfl⟩ := som2 h
      exact x_iret E hP hS rfl dX8_count_89
    · have h := (if_neg c2).symm.trans h
      by_cases c3 : x1 = (2 : Int32)
      · have h := (if_pos c3).symm.trans h
        refine lv_tableIn (pc := 1) (off := 89) (tgt := 90) hx hb dX8_count_1 (by rw [c3]; decide) (by rw [c3]; decide) (by rw [c3]; decide) (by decide) ?_
        refine lv_aload_n (pc := 90) hx hb dX8_count_90 rfl (lv_at hl 0 rfl) ?_
        refine x_get (pc := 91) (v := .ref (ad 1)) E hP (by decide) sh8 rfl inX8 0 (by decide) q972 rfl dX8_count_91 ?_
        refine lv_iconst (pc := 94) (v := (2 : Int32)) hx hb dX8_count_94 (by decide) ?_
        refine x_iald (pc := 95) (j := 2) E hP (by decide) sh8a1 0 rfl (vp_inl (by decide)) rfl dX8_count_95 ?_
        obtain ⟨rfl, rfl⟩ := som2 h
        exact x_iret E hP hS rfl dX8_count_96
      · have h := (if_neg c3).symm.trans h
        by_cases c4 : x1 = (3 : Int32)
        · have h := (if_pos c4).symm.trans h
          refine lv_tableIn (pc := 1) (off := 96) (tgt := 97) hx hb dX8_count_1 (by rw [c4]; decide) (by rw [c4]; decide) (by rw [c4]; decide) (by decide) ?_
          refine lv_aload_n (pc := 97) hx hb dX8_count_97 rfl (lv_at hl 0 rfl) ?_
          refine x_get (pc := 98) (v := .ref (ad 1)) E hP (by decide) sh8 rfl inX8 0 (by decide) q972 rfl dX8_count_98 ?_
          refine lv_iconst (pc := 101) (v := (3 : Int32)) hx hb dX8_count_101 (by decide) ?_
          refine x_iald (pc := 102) (j := 3) E hP (by decide) sh8a1 0 rfl (vp_inl (by decide)) rfl dX8_count_102 ?_
          obtain ⟨rfl, rfl⟩ := som2 h
          exact x_iret E hP hS rfl dX8_count_103
        · have h := (if_neg c4).symm.trans h
          by_cases c5 : x1 = (4 : Int32)
          · have h := (if_pos c5).symm.trans h
            refine lv_tableIn (pc := 1) (off := 103) (tgt := 104) hx hb dX8_count_1 (by rw [c5]; decide) (by rw [c5]; decide) (by rw [c5]; decide) (by decide) ?_
            refine lv_aload_n (pc := 104) hx hb dX8_count_104 rfl (lv_at hl 0 rfl) ?_
            obtain ⟨y21, hy21, h⟩ := bnd_ex h
            refine x_callVi (pc := 105) (st := .ref (ad 0) :: []) (As := []) E hEx hl.1 hP hS (kX8_behind hap  M  _ hy21) gX8_235 hdX8_behind rfl (by decide) sh8 rfl ⟨Nat.le_of_ble_eq_true rfl, Nat.le_of_ble_eq_true rfl⟩ ⟨rfl, rfl⟩ dX8_count_105 rfl (Nat.le_of_ble_eq_true rfl) (fun H locs hP hS n22 => ?_)
            obtain ⟨rfl, rfl⟩ := som2 h
            exact x_iret E hP hS rfl dX8_count_108
          · have h := (if_neg c5).symm.trans h
            by_cases c6 : x1 = (5 : Int32)
            · have h := (if_pos c6).symm.trans h
              refine lv_tableIn (pc := 1) (off := 108) (tgt := 109) hx hb dX8_count_1 (by rw [c6]; decide) (by rw [c6]; decide) (by rw [c6]; decide) (by decide) ?_
              refine lv_aload_n (pc := 109) hx hb dX8_count_109 rfl (lv_at hl 0 rfl) ?_
              refine x_get (pc := 110) (v := .ref (ad 1)) E hP (by decide) sh8 rfl inX8 0 (by decide) q972 rfl dX8_count_110 ?_
              refine lv_bipush (pc := 113) (v := (9 : Int32)) hx hb dX8_count_113 (by decide) ?_
              refine x_iald (pc := 115) (j := 9) E hP (by decide) sh8a1 0 rfl (vp_inl (by decide)) rfl dX8_count_115 ?_
              obtain ⟨rfl, rfl⟩ := som2 h
              exact x_iret E hP hS rfl dX8_count_116
            · have h := (if_neg c6).symm.trans h
              by_cases c7 : x1 = (6 : Int32)
              · have h := (if_pos c7).symm.trans h
                refine lv_tableIn (pc := 1) (off := 116) (tgt := 117) hx hb dX8_count_1 (by rw [c7]; decide) (by rw [c7]; decide) (by rw [c7]; decide) (by decide) ?_
                refine lv_aload_n (pc := 117) hx hb dX8_count_117 rfl (lv_at hl 0 rfl) ?_
                refine x_get (pc := 118) (v := .ref (ad 1)) E hP (by decide) sh8 rfl inX8 0 (by decide) q972 rfl dX8_count_118 ?_
                refine lv_bipush (pc := 121) (v := (8 : Int32)) hx hb dX8_count_121 (by decide) ?_
                refine x_iald (pc := 123) (j := 8) E hP (by decide) sh8a1 0 rfl (vp_inl (by decide)) rfl dX8_count_123 ?_
                obtain ⟨rfl, rfl⟩ := som2 h
                exact x_iret E hP hS rfl dX8_count_124
              · have h := (if_neg c7).symm.trans h
                by_cases c8 : x1 = (7 : Int32)
                · have h := (if_pos c8).symm.trans h
                  refine lv_tableIn (pc := 1) (off := 124) (tgt := 125) hx hb dX8_count_1 (by rw [c8]; decide) (by rw [c8]; decide) (by rw [c8]; decide) (by decide) ?_
                  refine lv_aload_n (pc := 125) hx hb dX8_count_125 rfl (lv_at hl 0 rfl) ?_
                  refine x_get (pc := 126) (v := .ref (ad 1)) E hP (by decide) sh8 rfl inX8 0 (by decide) q972 rfl dX8_count_126 ?_
                  refine lv_iconst (pc := 129) (v := (4 : Int32)) hx hb dX8_count_129 (by decide) ?_
                  refine x_iald (pc := 130) (j := 4) E hP (by decide) sh8a1 0 rfl (vp_inl (by decide)) rfl dX8_count_130 ?_
                  obtain ⟨rfl, rfl⟩ := som2 h
                  exact x_iret E hP hS rfl dX8_count_131
                · have h := (if_neg c8).symm.trans h
                  by_cases c9 : x1 = (8 : Int32)
                  · have h := (if_pos c9).symm.trans h
                    refine lv_tableIn (pc := 1) (off := 131) (tgt := 132) hx hb dX8_count_1 (by rw [c9]; decide) (by rw [c9]; decide) (by rw [c9]; decide) (by decide) ?_
                    refine lv_aload_n (pc := 132) hx hb dX8_count_132 rfl (lv_at hl 0 rfl) ?_
                    obtain ⟨y19, hy19, h⟩ := bnd_ex h
                    refine x_callVi (pc := 133) (st := .ref (ad 0) :: []) (As := []) E hEx hl.1 hP hS (kX8_wins hap  M  _ hy19) gX8_238 hdX8_wins rfl (by decide) sh8 rfl ⟨Nat.le_of_ble_eq_true rfl, Nat.le_of_ble_eq_true rfl⟩ ⟨rfl, rfl⟩ dX8_count_133 rfl (Nat.le_of_ble_eq_true rfl) (fun H locs hP hS n20 => ?_)
                    obtain ⟨rfl, rfl⟩ := som2 h
                    exact x_iret E hP hS rfl dX8_count_136
                  · have h := (if_neg c9).symm.trans h
                    by_cases c10 : x1 = (9 : Int32)
                    · have h := (if_pos c10).symm.trans h
                      refine lv_tableIn (pc := 1) (off := 136) (tgt := 137) hx hb dX8_count_1 (by rw [c10]; decide) (by rw [c10]; decide) (by rw [c10]; decide) (by decide) ?_
                      refine lv_aload_n (pc := 137) hx hb dX8_count_137 rfl (lv_at hl 0 rfl) ?_
                      refine x_get (pc := 138) (v := .ref (ad 1)) E hP (by decide) sh8 rfl inX8 0 (by decide) q972 rfl dX8_count_138 ?_
                      refine lv_iconst (pc := 141) (v := (5 : Int32)) hx hb dX8_count_141 (by decide) ?_
                      refine x_iald (pc := 142) (j := 5) E hP (by decide) sh8a1 0 rfl (vp_inl (by decide)) rfl dX8_count_142 ?_
                      refine lv_if_ne (pc := 143) (tgt := 151) hx hb dX8_count_143 (by decide) (fun c18 => ?_) (fun c18 => ?_)
                      · have h := (if_neg c18).symm.trans h
                        refine lv_aload_n (pc := 151) hx hb dX8_count_151 rfl (lv_at hl 0 rfl) ?_
                        refine x_get (pc := 152) (v := .ref (ad 1)) E hP (by decide) sh8 rfl inX8 0 (by decide) q972 rfl dX8_count_152 ?_
                        refine lv_iconst (pc := 155) (v := (5 : Int32)) hx hb dX8_count_155 (by decide) ?_
                        refine x_iald (pc := 156) (j := 5) E hP (by decide) sh8a1 0 rfl (vp_inl (by decide)) rfl dX8_count_156 ?_
                        obtain ⟨rfl, rfl⟩ := som2 h
                        exact x_iret E hP hS rfl dX8_count_157
                      · have h := (if_pos c18).symm.trans h
                        refine lv_bipush (pc := 146) (v := (-5 : Int32)) hx hb dX8_count_146 (by decide) ?_
                        refine lv_goto (pc := 148) (tgt := 157) hx hb dX8_count_148 (by decide) ?_
                        obtain ⟨rfl, rfl⟩ := som2 h
                        exact x_iret E hP hS rfl dX8_count_157
                    · have h := (if_neg c10).symm.trans h
                      by_cases c11 : x1 = (10 : Int32)
                      · have h := (if_pos c11).symm.trans h
                        refine lv_tableIn (pc := 1) (off := 157) (tgt := 158) hx hb dX8_count_1 (by rw [c11]; decide) (by rw [c11]; decide) (by rw [c11]; decide) (by decide) ?_
                        refine lv_aload_n (pc := 158) hx hb dX8_count_158 rfl (lv_at hl 0 rfl) ?_
                        obtain ⟨q16, hq16, h⟩ := bnd_ex h
                        refine x_callVi (pc := 159) (st := .ref (ad 0) :: []) (As := []) E hEx hl.1 hP hS (kX8_logLength hap  M  _ _ hq16) gX8_241 hdX8_logLength rfl (by decide) sh8 rfl ⟨Nat.le_of_ble_eq_true rfl, Nat.le_of_ble_eq_true rfl⟩ ⟨rfl, rfl⟩ dX8_count_159 rfl (Nat.le_of_ble_eq_true rfl) (fun H locs hP hS n17 => ?_)
                        obtain ⟨rfl, rfl⟩ := som2 h
                        exact x_iret E hP hS rfl dX8_count_162
                      · have h := (if_neg c11).symm.trans h
                        by_cases c12 : x1 = (11 : Int32)
                        · have h := (if_pos c12).symm.trans h
                          refine lv_tableIn (pc := 1) (off := 162) (tgt := 163) hx hb dX8_count_1 (by rw [c12]; decide) (by rw [c12]; decide) (by rw [c12]; decide) (by decide) ?_
                          refine lv_aload_n (pc := 163) hx hb dX8_count_163 rfl (lv_at hl 0 rfl) ?_
                          refine x_get (pc := 164) (v := .int (M 0 4)) E hP (by decide) sh8 rfl inX8 4 (by decide) q976 rfl dX8_count_164 ?_
                          obtain ⟨rfl, rfl⟩ := som2 h
                          exact x_iret E hP hS rfl dX8_count_167
                        · have h := (if_neg c12).symm.trans h
                          by_cases c13 : x1 = (12 : Int32)
                          · have h := (if_pos c13).symm.trans h
                            refine lv_tableIn (pc := 1) (off := 167) (tgt := 168) hx hb dX8_count_1 (by rw [c13]; decide) (by rw [c13]; decide) (by rw [c13]; decide) (by decide) ?_
                            refine lv_aload_n (pc := 168) hx hb dX8_count_168 rfl (lv_at hl 0 rfl) ?_
                            refine x_get (pc := 169) (v := .ref (ad 1)) E hP (by decide) sh8 rfl inX8 0 (by decide) q972 rfl dX8_count_169 ?_
                            refine lv_bipush (pc := 172) (v := (6 : Int32)) hx hb dX8_count_172 (by decide) ?_
                            refine x_iald (pc := 174) (j := 6) E hP (by decide) sh8a1 0 rfl (vp_inl (by decide)) rfl dX8_count_174 ?_
                            obtain ⟨rfl, rfl⟩ := som2 h
                            exact x_iret E hP hS rfl dX8_count_175
                          · have h := (if_neg c13).symm.trans h
                            by_cases c14 : x1 = (13 : Int32)
                            · have h := (if_pos c14).symm.trans h
                              refine lv_tableIn (pc := 1) (off := 175) (tgt := 176) hx hb dX8_count_1 (by rw [c14]; decide) (by rw [c14]; decide) (by rw [c14]; decide) (by decide) ?_
                              refine lv_aload_n (pc := 176) hx hb dX8_count_176 rfl (lv_at hl 0 rfl) ?_
                              refine x_get (pc := 177) (v := .ref (ad 1)) E hP (by decide) sh8 rfl inX8 0 (by decide) q972 rfl dX8_count_177 ?_
                              refine lv_bipush (pc := 180) (v := (7 : Int32)) hx hb dX8_count_180 (by decide) ?_
                              refine x_iald (pc := 182) (j := 7) E hP (by decide) sh8a1 0 rfl (vp_inl (by decide)) rfl dX8_count_182 ?_
                              obtain ⟨rfl, rfl⟩ := som2 h
                              exact x_iret E hP hS rfl dX8_count_183
                            · have h := (if_neg c14).symm.trans h
                              by_cases c15 : x1 = (14 : Int32)
                              · have h := (if_pos c15).symm.trans h
                                refine lv_tableIn (pc := 1) (off := 183) (tgt := 184) hx hb dX8_count_1 (by rw [c15]; decide) (by rw [c15]; decide) (by rw [c15]; decide) (by decide) ?_
                                refine lv_aload_n (pc := 184) hx hb dX8_count_184 rfl (lv_at hl 0 rfl) ?_
                                refine x_get (pc := 185) (v := .ref (ad 1)) E hP (by decide) sh8 rfl inX8 0 (by decide) q972 rfl dX8_count_185 ?_
                                refine lv_bipush (pc := 188) (v := (10 : Int32)) hx hb dX8_count_188 (by decide) ?_
                                refine x_iald (pc := 190) (j := 10) E hP (by decide) sh8a1 0 rfl (vp_inl (by decide)) rfl dX8_count_190 ?_
                                obtain ⟨rfl, rfl⟩ := som2 h
                                exact x_iret E hP hS rfl dX8_count_191
                              · have h := (if_neg c15).symm.trans h
                                refine lv_tableOut (pc := 1) (tgt := 192) hx hb dX8_count_1 (by have e0 := ne_lit (k := 0) (by decide) c1; have e1 := ne_lit (k := 1) (by decide) c2; have e2 := ne_lit (k := 2) (by decide) c3; have e3 := ne_lit (k := 3) (by decide) c4; have e4 := ne_lit (k := 4) (by decide) c5; have e5 := ne_lit (k := 5) (by decide) c6; have e6 := ne_lit (k := 6) (by decide) c7; have e7 := ne_lit (k := 7) (by decide) c8; have e8 := ne_lit (k := 8) (by decide) c9; have e9 := ne_lit (k := 9) (by decide) c10; have e10 := ne_lit (k := 10) (by decide) c11; have e11 := ne_lit (k := 11) (by decide) c12; have e12 := ne_lit (k := 12) (by decide) c13; have e13 := ne_lit (k := 13) (by decide) c14; have e14 := ne_lit (k := 14) (by decide) c15; omega) (by decide) ?_
                                refine lv_bipush (pc := 192) (v := (-2 : Int32)) hx hb dX8_count_192 (by decide) ?_
                                obtain ⟨rfl, rfl⟩ := som2 h
                                exact x_iret E hP hS rfl dX8_count_194
end
