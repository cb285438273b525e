section
variable {G : va_G} {ad sK sV : Nat → Nat} {cA cZ cC : ClassId}
set_option maxRecDepth 100000 in
set_option maxHeartbeats 4000000 in
theorem kX8_lowestUnknown (hap : Apart 7 ad)   (M : Mem) (x1 : Int32) (v : Int32) (h : fX8_lowestUnknown M x1 = some v) : RI G ad cA cZ cC yX8_lowestUnknown cX8_lowestUnknown 3 .int ({ frames := 0, cells := 0, slots := 0, locals := 0 } : Room) [.ref (ad 0), .int x1] M v M := by
  refine CI.mk (own := RX8) (ls0 := [(0, .ref (ad 0)), (1, .int x1)]) (by decide +kernel) rfl hap (Nat.le_of_ble_eq_true rfl) rfl ?_
  intro p l e s m args below meth c ls E hP hl
  have hx := E.1
  have hb := E.2.1
  have hown := E.2.2.2.2.2.1
  have hts := E.2.2.2.2.2.2.1
  have hEx := ExR.ok 7 ad
  have hS : va_S (AW 7 ad) s.heap s.heap [] := va_S.rf
  have hL2 : ∀ (n : Nat) (M : Mem) (x1 x2 : Int32) (H : Heap) (locs : List Loc) (ls : Array Slot), fX8_lowestUnknown_L2 n M x1 x2 = some v → va_P G vwCl (WW 7 (shR cA cZ cC ad) ad M) H → va_S (AW 7 ad) s.heap H locs → lv_has ls 3 [(0, .ref (ad 0)), (1, .int x1), (2, .int x2)] → W p l e ({ frames := 0, cells := 0, slots := 0, locals := 0 } : Room) s m args below meth c H locs 0 0 (QI below G 7 (shR cA cZ cC ad) ad .int args s v M) (F0 m 2 ls []) := by
    intro n
    induction n with
    | zero => intro M x1 x2 H locs ls h; cases h
    | succ n ih =>
      intro M x1 x2 H locs ls h hP hS hl
      rw [fX8_lowestUnknown_L2] at h
      refine lv_iload_n (pc := 2) hx hb dX8_lowestUnknown_2 rfl (lv_at hl 2 rfl) ?_
      refine lv_iconst (pc := 3) (v := (4 : Int32)) hx hb dX8_lowestUnknown_3 (by decide) ?_
      refine lv_icmp_ge (pc := 4) (tgt := 30) hx hb dX8_lowestUnknown_4 (by decide) (fun c1 => ?_) (fun c1 => ?_)
      · have h := (if_pos c1).symm.trans h
        refine lv_iload_n (pc := 30) hx hb dX8_lowestUnknown_30 rfl (lv_at hl 2 rfl) ?_
        obtain rfl := som1 h
        exact x_iret E hP hS rfl dX8_lowestUnknown_31
      · have h := (if_neg c1).symm.trans h
        refine lv_aload_n (pc := 7) hx hb dX8_lowestUnknown_7 rfl (lv_at hl 0 rfl) ?_
        refine x_get (pc := 8) (v := .ref (ad 1)) E hP (by decide) sh8 rfl inX8 0 (by decide) q972 rfl dX8_lowestUnknown_8 ?_
        refine lv_bipush (pc := 11) (v := (68 : Int32)) hx hb dX8_lowestUnknown_11 (by decide) ?_
        refine lv_iload_n (pc := 13) hx hb dX8_lowestUnknown_13 rfl (lv_at hl 1 rfl) ?_
        refine lv_iadd (pc := 14) hx hb dX8_lowestUnknown_14 ?_
        obtain ⟨c2, h⟩ := ite_some h
        refine x_iald (pc := 15) (j := ((68 : Int32) + x1).toNatClampNeg) E hP (by decide) sh8a1 0 rfl (inb_in c2) rfl dX8_lowestUnknown_15 ?_
        refine lv_iload_n (pc := 16) hx hb dX8_lowestUnknown_16 rfl (lv_at hl 2 rfl) ?_
        refine lv_ishr (pc := 17) hx hb dX8_lowestUnknown_17 ?_
        refine lv_iconst (pc := 18) (v := (1 : Int32)) hx hb dX8_lowestUnknown_18 (by decide) ?_
        refine lv_iand (pc := 19) hx hb dX8_lowestUnknown_19 ?_
        refine lv_iconst (pc := 20) (v := (1 : Int32)) hx hb dX8_lowestUnknown_20 (by decide) ?_
        refine lv_icmp_ne (pc := 21) (tgt := 30) hx hb dX8_lowestUnknown_21 (by decide) (fun c3 => ?_) (fun c3 => ?_)
        · have h := (if_neg c3).symm.trans h
          refine lv_iload_n (pc := 30) hx hb dX8_lowestUnknown_30 rfl (lv_at hl 2 rfl) ?_
          obtain rfl := som1 h
          exact x_iret E hP hS rfl dX8_lowestUnknown_31
        · have h := (if_pos c3).symm.trans h
          refine lv_iinc (pc := 24) (v := (x2 + 1)) (lv' := [(2, .int (x2 + 1)), (0, .ref (ad 0)), (1, .int x1)]) hx hb dX8_lowestUnknown_24 hl (k := 2) rfl rfl (by decide) rfl (fun ls hl => ?_)
          refine lv_goto (pc := 27) (tgt := 2) hx hb dX8_lowestUnknown_27 (by decide) ?_
          exact ih M x1 (x2 + 1) _ _ _ h hP hS (lv_sub hl [1, 2, 0] rfl)
  unfold fX8_lowestUnknown at h
  refine lv_iconst (pc := 0) (v := (0 : Int32)) hx hb dX8_lowestUnknown_0 (by decide) ?_
  refine lv_istore_n (pc := 1) (lv' := [(2, .int (0 : Int32)), (0, .ref (ad 0)), (1, .int x1)]) hx hb dX8_lowestUnknown_1 rfl hl (by decide) rfl (fun ls hl => ?_)
  exact hL2 5000 M x1 (0 : Int32) _ _ _ h hP hS (lv_sub hl [1, 2, 0] rfl)
set_option maxRecDepth 100000 in
set_option maxHeartbeats 4000000 in
theorem kX8_lowestHeld (hap : Apart 7 ad)   (M : Mem)  (v : Int32) (h : fX8_lowestHeld M = some v) : RI G ad cA cZ cC yX8_lowestHeld cX8_lowestHeld 2 .int ({ frames := 1, cells := 0, slots := 0, locals := 21 } : Room) [.ref (ad 0)] M v M := by
  refine CI.mk (own := RX8) (ls0 := [(0, .ref (ad 0))]) (by decide +kernel) rfl hap (Nat.le_of_ble_eq_true rfl) rfl ?_
  intro p l e s m args below meth c ls E hP hl
  have hx := E.1
  have hb := E.2.1
  have hown := E.2.2.2.2.2.1
  have hts := E.2.2.2.2.2.2.1
  have hEx := ExR.ok 7 ad
  have hS : va_S (AW 7 ad) s.heap s.heap [] := va_S.rf
  have hL2 : ∀ (n : Nat) (M : Mem) (x1 : Int32) (H : Heap) (locs : List Loc) (ls : Array Slot), fX8_lowestHeld_L2 n M x1 = some v → va_P G vwCl (WW 7 (shR cA cZ cC ad) ad M) H → va_S (AW 7 ad) s.heap H locs → lv_has ls 2 [(0, .ref (ad 0)), (1, .int x1)] → W p l e ({ frames := 1, cells := 0, slots := 0, locals := 21 } : Room) s m args below meth c H locs 0 0 (QI below G 7 (shR cA cZ cC ad) ad .int args s v M) (F0 m 2 ls []) := by
    intro n
    induction n with
    | zero => intro M x1 H locs ls h; cases h
    | succ n ih =>
      intro M x1 H locs ls h hP hS hl
      rw [fX8_lowestHeld_L2] at h
      refine lv_aload_n (pc := 2) hx hb dX8_lowestHeld_2 rfl (lv_at hl 0 rfl) ?_
      refine lv_iload_n (pc := 3) hx hb dX8_lowestHeld_3 rfl (lv_at hl 1 rfl) ?_
      obtain ⟨y1, hy1, h⟩ := bnd_ex h
      refine x_callVi (pc := 4) (st := .int x1 :: .ref (ad 0) :: []) (As := [.int x1]) E hEx hl.1 hP hS (kX8_isHeld hap  M _ _ hy1) gX8_45 hdX8_isHeld rfl (by decide) sh8 rfl ⟨Nat.le_of_ble_eq_true rfl, Nat.le_of_ble_eq_true rfl⟩ ⟨rfl, rfl⟩ dX8_lowestHeld_4 rfl (Nat.le_of_ble_eq_true rfl) (fun H locs hP hS n2 => ?_)
      refine lv_if_ne (pc := 7) (tgt := 16) hx hb dX8_lowestHeld_7 (by decide) (fun c3 => ?_) (fun c3 => ?_)
      · have h := (if_neg c3).symm.trans h
        refine lv_iload_n (pc := 16) hx hb dX8_lowestHeld_16 rfl (lv_at hl 1 rfl) ?_
        obtain rfl := som1 h
        exact x_iret E hP hS rfl dX8_lowestHeld_17
      · have h := (if_pos c3).symm.trans h
        refine lv_iinc (pc := 10) (v := (x1 + 1)) (lv' := [(1, .int (x1 + 1)), (0, .ref (ad 0))]) hx hb dX8_lowestHeld_10 hl (k := 1) rfl rfl (by decide) rfl (fun ls hl => ?_)
        refine lv_goto (pc := 13) (tgt := 2) hx hb dX8_lowestHeld_13 (by decide) ?_
        exact ih M (x1 + 1) _ _ _ h hP hS (lv_sub hl [1, 0] rfl)
  unfold fX8_lowestHeld at h
  refine lv_iconst (pc := 0) (v := (0 : Int32)) hx hb dX8_lowestHeld_0 (by decide) ?_
  refine lv_istore_n (pc := 1) (lv' := [(1, .int (0 : Int32)), (0, .ref (ad 0))]) hx hb dX8_lowestHeld_1 rfl hl (by decide) rfl (fun ls hl => ?_)
  exact hL2 5000 M (0 : Int32) _ _ _ h hP hS (lv_sub hl [1, 0] rfl)
set_option maxRecDepth 100000 in
set_option maxHeartbeats 4000000 in
theorem kX8_stepToHold (hap : Apart 7 ad)   (M : Mem) (x1 : Int32) (v : Int32) (h : fX8_stepToHold M x1 = some v) : RI G ad cA cZ cC yX8_stepToHold cX8_stepToHold 2 .int ({ frames := 2, cells := 0, slots := 0, locals := 43 } : Room) [.ref (ad 0), .int x1] M v M := by
  refine CI.mk (own := RX8) (ls0 := [(0, .ref (ad 0)), (1, .int x1)]) (by decide +kernel) rfl hap (Nat.le_of_ble_eq_true rfl) rfl ?_
  intro p l e s m args below meth c ls E hP hl
  have hx := E.1
  have hb := E.2.1
  have hown := E.2.2.2.2.2.1
  have hts := E.2.2.2.2.2.2.1
  have hEx := ExR.ok 7 ad
  have hS : va_S (AW 7 ad) s.heap s.heap [] := va_S.rf
  unfold fX8_stepToHold at h
  refine lv_aload_n (pc := 0) hx hb dX8_stepToHold_0 rfl (lv_at hl 0 rfl) ?_
  obtain ⟨y1, hy1, h⟩ := bnd_ex h
  refine x_callVi (pc := 1) (st := .ref (ad 0) :: []) (As := []) E hEx hl.1 hP hS (kX8_held hap  M  _ hy1) gX8_137 hdX8_held rfl (by decide) sh8 rfl ⟨Nat.le_of_ble_eq_true rfl, Nat.le_of_ble_eq_true rfl⟩ ⟨rfl, rfl⟩ dX8_stepToHold_1 rfl (Nat.le_of_ble_eq_true rfl) (fun H locs hP hS n2 => ?_)
  refine lv_aload_n (pc := 4) hx hb dX8_stepToHold_4 rfl (lv_at hl 0 rfl) ?_
  refine x_get (pc := 5) (v := .ref (ad 1)) E hP (by decide) sh8 rfl inX8 0 (by decide) q972 rfl dX8_stepToHold_5 ?_
  refine lv_bipush (pc := 8) (v := (11 : Int32)) hx hb dX8_stepToHold_8 (by decide) ?_
  refine x_iald (pc := 10) (j := 11) E hP (by decide) sh8a1 0 rfl (vp_inl (by decide)) rfl dX8_stepToHold_10 ?_
  refine lv_icmp_lt (pc := 11) (tgt := 25) hx hb dX8_stepToHold_11 (by decide) (fun c3 => ?_) (fun c3 => ?_)
  · have h := (if_pos c3).symm.trans h
    refine lv_bipush (pc := 25) (v := (100 : Int32)) hx hb dX8_stepToHold_25 (by decide) ?_
    refine lv_iload_n (pc := 27) hx hb dX8_stepToHold_27 rfl (lv_at hl 1 rfl) ?_
    refine lv_iadd (pc := 28) hx hb dX8_stepToHold_28 ?_
    obtain rfl := som1 h
    exact x_iret E hP hS rfl dX8_stepToHold_29
  · have h := (if_neg c3).symm.trans h
    refine lv_sipush (pc := 14) (v := (200 : Int32)) hx hb dX8_stepToHold_14 (by decide) ?_
    refine lv_aload_n (pc := 17) hx hb dX8_stepToHold_17 rfl (lv_at hl 0 rfl) ?_
    obtain ⟨y4, hy4, h⟩ := bnd_ex h
    refine x_callVi (pc := 18) (st := .ref (ad 0) :: .int (200 : Int32) :: []) (As := []) E hEx hl.1 hP hS (kX8_lowestHeld hap  M  _ hy4) gX8_161 hdX8_lowestHeld rfl (by decide) sh8 rfl ⟨Nat.le_of_ble_eq_true rfl, Nat.le_of_ble_eq_true rfl⟩ ⟨rfl, rfl⟩ dX8_stepToHold_18 rfl (Nat.le_of_ble_eq_true rfl) (fun H locs hP hS n5 => ?_)
    refine lv_iadd (pc := 21) hx hb dX8_stepToHold_21 ?_
    refine lv_goto (pc := 22) (tgt := 29) hx hb dX8_stepToHold_22 (by decide) ?_
    obtain rfl := som1 h
    exact x_iret E hP hS rfl dX8_stepToHold_29
set_option maxRecDepth 100000 in
set_option maxHeartbeats 4000000 in
theorem kX8_stepFor (hap : Apart 7 ad)   (M : Mem) (x1 : Int32) (v : Int32) (M' : Mem) (h : fX8_stepFor M x1 = some (v, M')) : RI G ad cA cZ cC yX8_stepFor cX8_stepFor 6 .int ({ frames := 5, cells := 0, slots := 0, locals := 112 } : Room) [.ref (ad 0), .int x1] M v M' := by
  refine CI.mk (own := RX8) (ls0 := [(0, .ref (ad 0)), (1, .int x1)]) (by decide +kernel) rfl hap (Nat.le_of_ble_eq_true rfl) rfl ?_
  intro p l e s m args below meth c ls E hP hl
  have hx := E.1
  have hb := E.2.1
  have hown := E.2.2.2.2.2.1
  have hts := E.2.2.2.2.2.2.1
  have hEx := ExR.ok 7 ad
  have hS : va_S (AW 7 ad) s.heap s.heap [] := va_S.rf
  have hB169 : ∀ (M : Mem) (x3 : Int32) (H : Heap) (locs : List Loc) (ls : Array Slot), fX8_stepFor_B169 M x3 = some (v, M') → va_P G vwCl (WW 7 (shR cA cZ cC ad) ad M) H → va_S (AW 7 ad) s.heap H locs → lv_has ls 6 [(0, .ref (ad 0)), (3, .int x3)] → W p l e ({ frames := 5, cells := 0, slots := 0, locals := 112 } : Room) s m args below meth c H locs 0 0 (QI below G 7 (shR cA cZ cC ad) ad .int args s v M') (F0 m 169 ls []) := by
    intro M x3 H locs ls h hP hS hl
    unfold fX8_stepFor_B169 at h
    refine lv_aload_n (pc := 169) hx hb dX8_stepFor_169 rfl (lv_at hl 0 rfl) ?_
    refine lv_iload_n (pc := 170) hx hb dX8_stepFor_170 rfl (lv_at hl 1 rfl) ?_
    obtain ⟨y10, hy10, h⟩ := bnd_ex h
    refine x_callVi (pc := 171) (st := .int x3 :: .ref (ad 0) :: []) (As := [.int x3]) E hEx hl.1 hP hS (kX8_propAtHand hap  M _ _ hy10) gX8_48 hdX8_propAtHand rfl (by decide) sh8 rfl ⟨Nat.le_of_ble_eq_true rfl, Nat.le_of_ble_eq_true rfl⟩ ⟨rfl, rfl⟩ dX8_stepFor_171 rfl (Nat.le_of_ble_eq_true rfl) (fun H locs hP hS n11 => ?_)
    refine lv_if_eq (pc := 174) (tgt := 185) hx hb dX8_stepFor_174 (by decide) (fun c12 => ?_) (fun c12 => ?_)
    · have h := (if_pos c12).symm.trans h
      refine lv_bipush (pc := 185) (v := (-10 : Int32)) hx hb dX8_stepFor_185 (by decide) ?_
      refine lv_aload_n (pc := 187) hx hb dX8_stepFor_187 rfl (lv_at hl 0 rfl) ?_
      refine lv_aload_n (pc := 188) hx hb dX8_stepFor_188 rfl (lv_at hl 0 rfl) ?_
      refine x_get (pc := 189) (v := .ref (ad 1)) E hP (by decide) sh8 rfl inX8 0 (by decide) q972 rfl dX8_stepFor_189 ?_
      refine lv_bipush (pc := 192) (v := (104 : Int32)) hx hb dX8_stepFor_192 (by decide) ?_
      refine lv_iload_n (pc := 194) hx hb dX8_stepFor_194 rfl (lv_at hl 1 rfl) ?_
      refine lv_iadd (pc := 195) hx hb dX8_stepFor_195 ?_
      obtain ⟨c13, h⟩ := ite_some h
      refine x_iald (pc := 196) (j := ((104 : Int32) + x3).toNatClampNeg) E hP (by decide) sh8a1 0 rfl (inb_in c13) rfl dX8_stepFor_196 ?_
      obtain ⟨y14, hy14, h⟩ := bnd_ex h
      refine x_callVi (pc := 197) (st := .int (M 1 (((104 : Int32) + x3).toNatClampNeg)) :: .ref (ad 0) :: .int (-10 : Int32) :: []) (As := [.int (M 1 (((104 : Int32) + x3).toNatClampNeg))]) E hEx hl.1 hP hS (kX8_closedFrom hap  M _ _ hy14) gX8_38 hdX8_closedFrom rfl (by decide) sh8 rfl ⟨Nat.le_of_ble_eq_true rfl, Nat.le_of_ble_eq_true rfl⟩ ⟨rfl, rfl⟩ dX8_stepFor_197 rfl (Nat.le_of_ble_eq_true rfl) (fun H locs hP hS n15 => ?_)
      refine lv_isub (pc := 200) hx hb dX8_stepFor_200 ?_
      obtain ⟨rfl, rfl⟩ := som2 h
      exact x_iret E hP hS rfl dX8_stepFor_201
    · have h := (if_neg c12).symm.trans h
      refine lv_aload_n (pc := 177) hx hb dX8_stepFor_177 rfl (lv_at hl 0 rfl) ?_
      refine lv_iload_n (pc := 178) hx hb dX8_stepFor_178 rfl (lv_at hl 1 rfl) ?_
      obtain ⟨y16, hy16, h⟩ := bnd_ex h
      refine x_callVi (pc := 179) (st := .int x3 :: .ref (ad 0) :: []) (As := [.int x3]) E hEx hl.1 hP hS (kX8_stepToHold hap  M _ _ hy16) gX8_174 hdX8_stepToHold rfl (by decide) sh8 rfl ⟨Nat.le_of_ble_eq_true rfl, Nat.le_of_ble_eq_true rfl⟩ ⟨rfl, rfl⟩ dX8_stepFor_179 rfl (Nat.le_of_ble_eq_true rfl) (fun H locs hP hS n17 => ?_)
      refine lv_goto (pc := 182) (tgt := 201) hx hb dX8_stepFor_182 (by decide) ?_
      obtain ⟨rfl, rfl⟩ := som2 h
      exact x_iret E hP hS rfl dX8_stepFor_201
  unfold fX8_stepFor at h
  refine lv_aload_n (pc := 0) hx hb dX8_stepFor_0 rfl (lv_at hl 0 rfl) ?_
  refine x_get (pc := 1) (v := .ref (ad 1)) E hP (by decide) sh8 rfl inX8 0 (by decide) q972 rfl dX8_stepFor_1 ?_
  refine lv_bipush (pc := 4) (v := (32 : Int32)) hx hb dX8_stepFor_4 (by decide) ?_
  refine lv_iload_n (pc := 6) hx hb dX8_stepFor_6 rfl (lv_at hl 1 rfl) ?_
  refine lv_iadd (pc := 7) hx hb dX8_stepFor_7 ?_
  obtain ⟨c1, h⟩ := ite_some h
  refine x_iald (pc := 8) (j := ((32 : Int32) + x1).toNatClampNeg) E hP (by decide) sh8a1 0 rfl (inb_in c1) rfl dX8_stepFor_8 ?_
  obtain ⟨y2, hy2, h⟩ := thn_ex h
  refine W.eq (g2 := F0 m 9 ls (.int y2 :: [])) (by rw [← hy2]) ?_
  refine lv_istore_n (pc := 9) (lv' := [(2, .int y2), (0, .ref (ad 0)), (1, .int x1)]) hx hb dX8_stepFor_9 rfl hl (by decide) rfl (fun ls hl => ?_)
  refine lv_aload_n (pc := 10) hx hb dX8_stepFor_10 rfl (lv_at hl 1 rfl) ?_
  refine x_get (pc := 11) (v := .ref (ad 1)) E hP (by decide) sh8 rfl inX8 0 (by decide) q972 rfl dX8_stepFor_11 ?_
  refine lv_bipush (pc := 14) (v := (44 : Int32)) hx hb dX8_stepFor_14 (by decide) ?_
  refine lv_iload_n (pc := 16) hx hb dX8_stepFor_16 rfl (lv_at hl 2 rfl) ?_
  refine lv_iadd (pc := 17) hx hb dX8_stepFor_17 ?_
  obtain ⟨c3, h⟩ := ite_some h
  refine x_iald (pc := 18) (j := ((44 : Int32) + x1).toNatClampNeg) E hP (by decide) sh8a1 0 rfl (inb_in c3) rfl dX8_stepFor_18 ?_
  obtain ⟨y4, hy4, h⟩ := thn_ex h
  refine W.eq (g2 := F0 m 19 ls (.int y4 :: [])) (by rw [← hy4]) ?_
  refine lv_istore_n (pc := 19) (lv' := [(3, .int y4), (2, .int y2), (0, .ref (ad 0)), (1, .int x1)]) hx hb dX8_stepFor_19 rfl hl (by decide) rfl (fun ls hl => ?_)
  refine lv_iload_n (pc := 20) hx hb dX8_stepFor_20 rfl (lv_at hl 1 rfl) ?_
  refine lv_iconst (pc := 21) (v := (2 : Int32)) hx hb dX8_stepFor_21 (by decide) ?_
  refine lv_icmp_ne (pc := 22) (tgt := 122) hx hb dX8_stepFor_22 (by decide) (fun c5 => ?_) (fun c5 => ?_)
  · have h := (if_neg c5).symm.trans h
    refine lv_aload_n (pc := 122) hx hb dX8_stepFor_122 rfl (lv_at hl 2 rfl) ?_
    refine lv_iload_n (pc := 123) hx hb dX8_stepFor_123 rfl (lv_at hl 3 rfl) ?_
    obtain ⟨y6, hy6, h⟩ := bnd_ex h
    refine x_callVi (pc := 124) (st := .int x1 :: .ref (ad 0) :: []) (As := [.int x1]) E hEx hl.1 hP hS (kX8_lets hap  M _ _ hy6) gX8_146 hdX8_lets rfl (by decide) sh8 rfl ⟨Nat.le_of_ble_eq_true rfl, Nat.le_of_ble_eq_true rfl⟩ ⟨rfl, rfl⟩ dX8_stepFor_124 rfl (Nat.le_of_ble_eq_true rfl) (fun H locs hP hS n7 => ?_)
    refine lv_if_eq (pc := 127) (tgt := 136) hx hb dX8_stepFor_127 (by decide) (fun c8 => ?_) (fun c8 => ?_)
    · have h := (if_pos c8).symm.trans h
      refine lv_iload_n (pc := 136) hx hb dX8_stepFor_136 rfl (lv_at hl 1 rfl) ?_
      refine lv_iconst (pc := 137) (v := (1 : Int32)) hx hb dX8_stepFor_137 (by decide) ?_
      refine lv_icmp_eq (pc := 138) (tgt := 169) hx hb dX8_stepFor_138 (by decide) (fun c9 => ?_) (fun c9 => ?_)
      · have h := (if_pos c9).symm.trans h
        exact hB169 M y4 _ _ _ h hP hS (lv_sub hl [2, 0] rfl)
      · have h := (if_neg c9).symm.trans h
        refine lv_aload_n (pc := 141) hx hb dX8_stepFor_141 rfl (lv_at hl 2 rfl) ?_
        refine lv_iload_n (pc := 142) hx hb dX8_stepFor_142 rfl (lv_at hl 0 rfl) ?_
        obtain ⟨y18, hy18, h⟩ := bnd_ex h
        refine x_callVi (pc := 143) (st := .int y4 :: .ref (ad 0) :: []) (As := [.int y4]) E hEx hl.1 hP hS (kX8_isHeld hap  M _ _ hy18) gX8_45 hdX8_isHeld rfl (by decide) sh8 rfl ⟨Nat.le_of_ble_eq_true rfl, Nat.le_of_ble_eq_true rfl⟩ ⟨rfl, rfl⟩ dX8_stepFor_143 rfl (Nat.le_of_ble_eq_true rfl) (fun H locs hP hS n19 => ?_)
        refine lv_if_eq (pc := 146) (tgt := 169) hx hb dX8_stepFor_146 (by decide) (fun c20 => ?_) (fun c20 => ?_)
        · have h := (if_pos c20).symm.trans h
          exact hB169 M y4 _ _ _ h hP hS (lv_sub hl [2, 0] rfl)
        · have h := (if_neg c20).symm.trans h
          refine lv_sipush (pc := 149) (v := (200 : Int32)) hx hb dX8_stepFor_149 (by decide) ?_
          refine lv_iload_n (pc := 152) hx hb dX8_stepFor_152 rfl (lv_at hl 0 rfl) ?_
          refine lv_iadd (pc := 153) hx hb dX8_stepFor_153 ?_
          refine lv_sipush (pc := 154) (v := (1000 : Int32)) hx hb dX8_stepFor_154 (by decide) ?_
          refine lv_aload_n (pc := 157) hx hb dX8_stepFor_157 rfl (lv_at hl 2 rfl) ?_
          refine x_get (pc := 158) (v := .ref (ad 1)) E hP (by decide) sh8 rfl inX8 0 (by decide) q972 rfl dX8_stepFor_158 ?_
          refine lv_bipush (pc := 161) (v := (20 : Int32)) hx hb dX8_stepFor_161 (by decide) ?_
          refine lv_iload_n (pc := 163) hx hb dX8_stepFor_163 rfl (lv_at hl 3 rfl) ?_
          refine lv_iadd (pc := 164) hx hb dX8_stepFor_164 ?_
          obtain ⟨c21, h⟩ := ite_some h
          refine x_iald (pc := 165) (j := ((20 : Int32) + x1).toNatClampNeg) E hP (by decide) sh8a1 0 rfl (inb_in c21) rfl dX8_stepFor_165 ?_
          refine lv_imul (pc := 166) hx hb dX8_stepFor_166 ?_
          refine lv_iadd (pc := 167) hx hb dX8_stepFor_167 ?_
          obtain ⟨rfl, rfl⟩ := som2 h
          exact x_iret E hP hS rfl dX8_stepFor_168
    · have h := (if_neg c8).symm.trans h
      refine lv_sipush (pc := 130) (v := (300 : Int32)) hx hb dX8_stepFor_130 (by decide) ?_
      refine lv_iload_n (pc := 133) hx hb dX8_stepFor_133 rfl (lv_at hl 3 rfl) ?_
      refine lv_iadd (pc := 134) hx hb dX8_stepFor_134 ?_
      obtain ⟨rfl, rfl⟩ := som2 h
      exact x_iret E hP hS rfl dX8_stepFor_135
  · have h := (if_pos c5).symm.trans h
    refine lv_aload_n (pc := 25) hx hb dX8_stepFor_25 rfl (lv_at hl 2 rfl) ?_
    refine lv_iload_n (pc := 26) hx hb dX8_stepFor_26 rfl (lv_at hl 3 rfl) ?_
    obtain ⟨y22, hy22, h⟩ := bnd_ex h
    refine x_callVi (pc := 27) (st := .int x1 :: .ref (ad 0) :: []) (As := [.int x1]) E hEx hl.1 hP hS (kX8_lowestUnknown hap  M _ _ hy22) gX8_164 hdX8_lowestUnknown rfl (by decide) sh8 rfl ⟨Nat.le_of_ble_eq_true rfl, Nat.le_of_ble_eq_true rfl⟩ ⟨rfl, rfl⟩ dX8_stepFor_27 rfl (Nat.le_of_ble_eq_true rfl) (fun H locs hP hS n23 => ?_)
    refine lv_istore (pc := 30) (lv' := [(4, .int y22), (3, .int y4), (2, .int y2), (0, .ref (ad 0)), (1, .int x1)]) hx hb dX8_stepFor_30 hl (by decide) rfl (fun ls hl => ?_)
    refine lv_iload (pc := 32) hx hb dX8_stepFor_32 (lv_at hl 0 rfl) ?_
    refine lv_iconst (pc := 34) (v := (4 : Int32)) hx hb dX8_stepFor_34 (by decide) ?_
    refine lv_icmp_ne (pc := 35) (tgt := 44) hx hb dX8_stepFor_35 (by decide) (fun c24 => ?_) (fun c24 => ?_)
    · have h := (if_neg c24).symm.trans h
      refine lv_aload_n (pc := 44) hx hb dX8_stepFor_44 rfl (lv_at hl 3 rfl) ?_
      refine lv_iload_n (pc := 45) hx hb dX8_stepFor_45 rfl (lv_at hl 4 rfl) ?_
      refine lv_iload (pc := 46) hx hb dX8_stepFor_46 (lv_at hl 0 rfl) ?_
      refine lv_iconst (pc := 48) (v := (1 : Int32)) hx hb dX8_stepFor_48 (by decide) ?_
      obtain ⟨y25, hy25, h⟩ := bnd_ex h
      refine x_callVi (pc := 49) (st := .int (1 : Int32) :: .int y22 :: .int x1 :: .ref (ad 0) :: []) (As := [.int x1, .int y22, .int (1 : Int32)]) E hEx hl.1 hP hS (kX8_clueFor hap  M _ _ _ _ hy25) gX8_167 hdX8_clueFor rfl (by decide) sh8 rfl ⟨Nat.le_of_ble_eq_true rfl, Nat.le_of_ble_eq_true rfl⟩ ⟨rfl, rfl⟩ dX8_stepFor_49 rfl (Nat.le_of_ble_eq_true rfl) (fun H locs hP hS n26 => ?_)
      refine lv_istore (pc := 52) (lv' := [(5, .int y25), (4, .int y22), (3, .int y4), (2, .int y2), (0, .ref (ad 0)), (1, .int x1)]) hx hb dX8_stepFor_52 hl (by decide) rfl (fun ls hl => ?_)
      refine lv_iload (pc := 54) hx hb dX8_stepFor_54 (lv_at hl 0 rfl) ?_
      refine lv_if_lt (pc := 56) (tgt := 66) hx hb dX8_stepFor_56 (by decide) (fun c27 => ?_) (fun c27 => ?_)
      · have h := (if_pos c27).symm.trans h
        refine lv_aload_n (pc := 66) hx hb dX8_stepFor_66 rfl (lv_at hl 4 rfl) ?_
        refine lv_iload_n (pc := 67) hx hb dX8_stepFor_67 rfl (lv_at hl 5 rfl) ?_
        refine lv_iload (pc := 68) hx hb dX8_stepFor_68 (lv_at hl 1 rfl) ?_
        refine lv_iconst (pc := 70) (v := (0 : Int32)) hx hb dX8_stepFor_70 (by decide) ?_
        obtain ⟨y28, hy28, h⟩ := bnd_ex h
        refine x_callVi (pc := 71) (st := .int (0 : Int32) :: .int y22 :: .int x1 :: .ref (ad 0) :: []) (As := [.int x1, .int y22, .int (0 : Int32)]) E hEx hl.1 hP hS (kX8_clueFor hap  M _ _ _ _ hy28) gX8_167 hdX8_clueFor rfl (by decide) sh8 rfl ⟨Nat.le_of_ble_eq_true rfl, Nat.le_of_ble_eq_true rfl⟩ ⟨rfl, rfl⟩ dX8_stepFor_71 rfl (Nat.le_of_ble_eq_true rfl) (fun H locs hP hS n29 => ?_)
        refine lv_istore (pc := 74) (lv' := [(5, .int y28), (4, .int y22), (3, .int y4), (2, .int y2), (0, .ref (ad 0)), (1, .int x1)]) hx hb dX8_stepFor_74 hl (by decide) rfl (fun ls hl => ?_)
        refine lv_aload_n (pc := 76) hx hb dX8_stepFor_76 rfl (lv_at hl 4 rfl) ?_
        refine lv_iload_n (pc := 77) hx hb dX8_stepFor_77 rfl (lv_at hl 5 rfl) ?_
        obtain ⟨M30, hM30, h⟩ := thn_ex h
        refine x_put (pc := 78) (v := x1) E hP hS (by decide) sh8 tyX8 tyX8_ok nmX8 rfl inX8 11 (by decide) q983 rfl rfl rfl (Nat.le_of_ble_eq_true rfl) rfl dX8_stepFor_78 (fun H locs hP hS => ?_)
        rw [hM30] at hP
        refine lv_iload (pc := 81) hx hb dX8_stepFor_81 (lv_at hl 0 rfl) ?_
        refine lv_if_ge (pc := 83) (tgt := 95) hx hb dX8_stepFor_83 (by decide) (fun c31 => ?_) (fun c31 => ?_)
        · have h := (if_pos c31).symm.trans h
          refine lv_bipush (pc := 95) (v := (-10 : Int32)) hx hb dX8_stepFor_95 (by decide) ?_
          refine lv_aload_n (pc := 97) hx hb dX8_stepFor_97 rfl (lv_at hl 4 rfl) ?_
          refine lv_aload_n (pc := 98) hx hb dX8_stepFor_98 rfl (lv_at hl 4 rfl) ?_
          refine x_get (pc := 99) (v := .ref (ad 1)) E hP (by decide) sh8 rfl inX8 0 (by decide) q972 rfl dX8_stepFor_99 ?_
          refine lv_bipush (pc := 102) (v := (104 : Int32)) hx hb dX8_stepFor_102 (by decide) ?_
          refine lv_aload_n (pc := 104) hx hb dX8_stepFor_104 rfl (lv_at hl 4 rfl) ?_
          refine x_get (pc := 105) (v := .ref (ad 1)) E hP (by decide) sh8 rfl inX8 0 (by decide) q972 rfl dX8_stepFor_105 ?_
          refine lv_sipush (pc := 108) (v := (128 : Int32)) hx hb dX8_stepFor_108 (by decide) ?_
          refine lv_iload (pc := 111) hx hb dX8_stepFor_111 (lv_at hl 0 rfl) ?_
          refine lv_iadd (pc := 113) hx hb dX8_stepFor_113 ?_
          obtain ⟨c32, h⟩ := ite_some h
          refine x_iald (pc := 114) (j := ((128 : Int32) + y28).toNatClampNeg) E hP (by decide) sh8a1 0 rfl (inb_in c32) rfl dX8_stepFor_114 ?_
          refine lv_iadd (pc := 115) hx hb dX8_stepFor_115 ?_
          obtain ⟨c33, h⟩ := ite_some h
          refine x_iald (pc := 116) (j := ((104 : Int32) + (M30 1 (((128 : Int32) + y28).toNatClampNeg))).toNatClampNeg) E hP (by decide) sh8a1 0 rfl (inb_in c33) rfl dX8_stepFor_116 ?_
          obtain ⟨y34, hy34, h⟩ := bnd_ex h
          refine x_callVi (pc := 117) (st := .int (M30 1 (((104 : Int32) + (M30 1 (((128 : Int32) + y28).toNatClampNeg))).toNatClampNeg)) :: .ref (ad 0) :: .int (-10 : Int32) :: []) (As := [.int (M30 1 (((104 : Int32) + (M30 1 (((128 : Int32) + y28).toNatClampNeg))).toNatClampNeg))]) E hEx hl.1 hP hS (kX8_closedFrom hap  M30 _ _ hy34) gX8_38 hdX8_closedFrom rfl (by decide) sh8 rfl ⟨Nat.le_of_ble_eq_true rfl, Nat.le_of_ble_eq_true rfl⟩ ⟨rfl, rfl⟩ dX8_stepFor_117 rfl (Nat.le_of_ble_eq_true rfl) (fun H locs hP hS n35 => ?_)
          refine lv_isub (pc := 120) hx hb dX8_stepFor_120 ?_
          obtain ⟨rfl, rfl⟩ := som2 h
          exact x_iret E hP hS rfl dX8_stepFor_121
        · have h := (if_neg c31).symm.trans h
          refine lv_sipush (pc := 86) (v := (500 : Int32)) hx hb dX8_stepFor_86 (by decide) ?_
          refine lv_iload (pc := 89) hx hb dX8_stepFor_89 (lv_at hl 1 rfl) ?_
          refine lv_iadd (pc := 91) hx hb dX8_stepFor_91 ?_
          refine lv_goto (pc := 92) (tgt := 121) hx hb dX8_stepFor_92 (by decide) ?_
          obtain ⟨rfl, rfl⟩ := som2 h
          exact x_iret E hP hS rfl dX8_stepFor_121
      · have h := (if_neg c27).symm.trans h
        refine lv_sipush (pc := 59) (v := (400 : Int32)) hx hb dX8_stepFor_59 (by decide) ?_
        refine lv_iload (pc := 62) hx hb dX8_stepFor_62 (lv_at hl 0 rfl) ?_
        refine lv_iadd (pc := 64) hx hb dX8_stepFor_64 ?_
        obtain ⟨rfl, rfl⟩ := som2 h
        exact x_iret E hP hS rfl dX8_stepFor_65
    · have h := (if_pos c24).symm.trans h
      refine lv_sipush (pc := 38) (v := (300 : Int32)) hx hb dX8_stepFor_38 (by decide) ?_
      refine lv_iload_n (pc := 41) hx hb dX8_stepFor_41 rfl (lv_at hl 4 rfl) ?_
      refine lv_iadd (pc := 42) hx hb dX8_stepFor_42 ?_
      obtain ⟨rfl, rfl⟩ := som2 h
      exact x_iret E hP hS rfl dX8_stepFor_43
set_option maxRecDepth 100000 in
set_option maxHeartbeats 4000000 in
theorem kX8_step (hap : Apart 7 ad)   (M : Mem)  (v : Int32) (M' : Mem) (h : fX8_step M = some (v, M')) : RI G ad cA cZ cC yX8_step cX8_step 5 .int ({ frames := 6, cells := 0, slots := 0, locals := 137 } : Room) [.ref (ad 0)] M v M' := by
  refine CI.mk (own := RX8) (ls0 := [(0, .ref (ad 0))]) (by decide +kernel) rfl hap (Nat.le_of_ble_eq_true rfl) rfl ?_
  intro p l e s m args below meth c ls E hP hl
  have hx := E.1
  have hb := E.2.1
  have hown := E.2.2.2.2.2.1
  have hts := E.2.2.2.2.2.2.1
  have hEx := ExR.ok 7 ad
  have hS : va_S (AW 7 ad) s.heap s.heap [] := va_S.rf
  have hL9 : ∀ (n : Nat) (M : Mem) (x1 x2 : Int32) (H : Heap) (locs : List Loc) (ls : Array Slot), fX8_step_L9 n M x1 x2 = some (v, M') → va_P G vwCl (WW 7 (shR cA cZ cC ad) ad M) H → va_S (AW 7 ad) s.heap H locs → lv_has ls 5 [(0, .ref (ad 0)), (1, .int x1), (2, .int x2)] → W p l e ({ frames := 6, cells := 0, slots := 0, locals := 137 } : Room) s m args below meth c H locs 0 0 (QI below G 7 (shR cA cZ cC ad) ad .int args s v M') (F0 m 9 ls []) := by
    intro n
    induction n with
    | zero => intro M x1 x2 H locs ls h; cases h
    | succ n ih =>
      intro M x1 x2 H locs ls h hP hS hl
      rw [fX8_step_L9] at h
      refine lv_iload_n (pc := 9) hx hb dX8_step_9 rfl (lv_at hl 1 rfl) ?_
      refine lv_iload_n (pc := 10) hx hb dX8_step_10 rfl (lv_at hl 2 rfl) ?_
      refine lv_ishr (pc := 11) hx hb dX8_step_11 ?_
      refine lv_iconst (pc := 12) (v := (1 : Int32)) hx hb dX8_step_12 (by decide) ?_
      refine lv_iand (pc := 13) hx hb dX8_step_13 ?_
      refine lv_if_ne (pc := 14) (tgt := 64) hx hb dX8_step_14 (by decide) (fun c1 => ?_) (fun c1 => ?_)
      · have h := (if_neg c1).symm.trans h
        refine lv_bipush (pc := 64) (v := (-5 : Int32)) hx hb dX8_step_64 (by decide) ?_
        obtain ⟨rfl, rfl⟩ := som2 h
        exact x_iret E hP hS rfl dX8_step_66
      · have h := (if_pos c1).symm.trans h
        refine lv_iload_n (pc := 17) hx hb dX8_step_17 rfl (lv_at hl 1 rfl) ?_
        refine lv_iconst (pc := 18) (v := (1 : Int32)) hx hb dX8_step_18 (by decide) ?_
        refine lv_iload_n (pc := 19) hx hb dX8_step_19 rfl (lv_at hl 2 rfl) ?_
        refine lv_ishl (pc := 20) hx hb dX8_step_20 ?_
        refine lv_ior (pc := 21) hx hb dX8_step_21 ?_
        obtain ⟨y2, hy2, h⟩ := thn_ex h
        refine W.eq (g2 := F0 m 22 ls (.int y2 :: [])) (by rw [← hy2]) ?_
        refine lv_istore_n (pc := 22) (lv' := [(1, .int y2), (0, .ref (ad 0)), (2, .int x2)]) hx hb dX8_step_22 rfl hl (by decide) rfl (fun ls hl => ?_)
        refine lv_aload_n (pc := 23) hx hb dX8_step_23 rfl (lv_at hl 1 rfl) ?_
        refine lv_iload_n (pc := 24) hx hb dX8_step_24 rfl (lv_at hl 2 rfl) ?_
        obtain ⟨y3, hy3, h⟩ := bnd_ex h
        refine x_callVi (pc := 25) (st := .int x2 :: .ref (ad 0) :: []) (As := [.int x2]) E hEx hl.1 hP hS (kX8_closedAround hap  M _ _ hy3) gX8_42 hdX8_closedAround rfl (by decide) sh8 rfl ⟨Nat.le_of_ble_eq_true rfl, Nat.le_of_ble_eq_true rfl⟩ ⟨rfl, rfl⟩ dX8_step_25 rfl (Nat.le_of_ble_eq_true rfl) (fun H locs hP hS n4 => ?_)
        refine lv_istore_n (pc := 28) (lv' := [(3, .int y3), (1, .int y2), (0, .ref (ad 0)), (2, .int x2)]) hx hb dX8_step_28 rfl hl (by decide) rfl (fun ls hl => ?_)
        refine lv_iload_n (pc := 29) hx hb dX8_step_29 rfl (lv_at hl 0 rfl) ?_
        refine lv_if_lt (pc := 30) (tgt := 40) hx hb dX8_step_30 (by decide) (fun c5 => ?_) (fun c5 => ?_)
        · have h := (if_pos c5).symm.trans h
          refine lv_aload_n (pc := 40) hx hb dX8_step_40 rfl (lv_at hl 2 rfl) ?_
          refine lv_iload_n (pc := 41) hx hb dX8_step_41 rfl (lv_at hl 3 rfl) ?_
          obtain ⟨q6, hq6, h⟩ := bnd_ex h
          refine x_callVi (pc := 42) (st := .int x2 :: .ref (ad 0) :: []) (As := [.int x2]) E hEx hl.1 hP hS (kX8_stepFor hap  M _ _ _ hq6) gX8_177 hdX8_stepFor rfl (by decide) sh8 rfl ⟨Nat.le_of_ble_eq_true rfl, Nat.le_of_ble_eq_true rfl⟩ ⟨rfl, rfl⟩ dX8_step_42 rfl (Nat.le_of_ble_eq_true rfl) (fun H locs hP hS n7 => ?_)
          refine lv_istore (pc := 45) (lv' := [(4, .int q6.1), (3, .int y3), (1, .int y2), (0, .ref (ad 0)), (2, .int x2)]) hx hb dX8_step_45 hl (by decide) rfl (fun ls hl => ?_)
          refine lv_iload (pc := 47) hx hb dX8_step_47 (lv_at hl 0 rfl) ?_
          refine lv_if_lt (pc := 49) (tgt := 55) hx hb dX8_step_49 (by decide) (fun c8 => ?_) (fun c8 => ?_)
          · have h := (if_pos c8).symm.trans h
            refine lv_bipush (pc := 55) (v := (-10 : Int32)) hx hb dX8_step_55 (by decide) ?_
            refine lv_iload (pc := 57) hx hb dX8_step_57 (lv_at hl 0 rfl) ?_
            refine lv_isub (pc := 59) hx hb dX8_step_59 ?_
            refine lv_istore_n (pc := 60) (lv' := [(2, .int ((-10 : Int32) - q6.1)), (4, .int q6.1), (3, .int y3), (1, .int y2), (0, .ref (ad 0))]) hx hb dX8_step_60 rfl hl (by decide) rfl (fun ls hl => ?_)
            refine lv_goto (pc := 61) (tgt := 9) hx hb dX8_step_61 (by decide) ?_
            exact ih q6.2 y2 ((-10 : Int32) - q6.1) _ _ _ h hP hS (lv_sub hl [4, 3, 0] rfl)
          · have h := (if_neg c8).symm.trans h
            refine lv_iload (pc := 52) hx hb dX8_step_52 (lv_at hl 0 rfl) ?_
            obtain ⟨rfl, rfl⟩ := som2 h
            exact x_iret E hP hS rfl dX8_step_54
        · have h := (if_neg c5).symm.trans h
          refine lv_bipush (pc := 33) (v := (-10 : Int32)) hx hb dX8_step_33 (by decide) ?_
          refine lv_iload_n (pc := 35) hx hb dX8_step_35 rfl (lv_at hl 0 rfl) ?_
          refine lv_isub (pc := 36) hx hb dX8_step_36 ?_
          refine lv_goto (pc := 37) (tgt := 45) hx hb dX8_step_37 (by decide) ?_
          refine lv_istore (pc := 45) (lv' := [(4, .int ((-10 : Int32) - y3)), (3, .int y3), (1, .int y2), (0, .ref (ad 0)), (2, .int x2)]) hx hb dX8_step_45 hl (by decide) rfl (fun ls hl => ?_)
          refine lv_iload (pc := 47) hx hb dX8_step_47 (lv_at hl 0 rfl) ?_
          refine lv_if_lt (pc := 49) (tgt := 55) hx hb dX8_step_49 (by decide) (fun c9 => ?_) (fun c9 => ?_)
          · have h := (if_pos c9).symm.trans h
            refine lv_bipush (pc := 55) (v := (-10 : Int32)) hx hb dX8_step_55 (by decide) ?_
            refine lv_iload (pc := 57) hx hb dX8_step_57 (lv_at hl 0 rfl) ?_
            refine lv_isub (pc := 59) hx hb dX8_step_59 ?_
            obtain ⟨y10, hy10, h⟩ := thn_ex h
            refine W.eq (g2 := F0 m 60 ls (.int y10 :: [])) (by rw [← hy10]) ?_
            refine lv_istore_n (pc := 60) (lv' := [(2, .int y10), (4, .int ((-10 : Int32) - y3)), (3, .int y3), (1, .int y2), (0, .ref (ad 0))]) hx hb dX8_step_60 rfl hl (by decide) rfl (fun ls hl => ?_)
            refine lv_goto (pc := 61) (tgt := 9) hx hb dX8_step_61 (by decide) ?_
            exact ih M y2 y10 _ _ _ h hP hS (lv_sub hl [4, 3, 0] rfl)
          · have h := (if_neg c9).symm.trans h
            refine lv_iload (pc := 52) hx hb dX8_step_52 (lv_at hl 0 rfl) ?_
            obtain ⟨rfl, rfl⟩ := som2 h
            exact x_iret E hP hS rfl dX8_step_54
  unfold fX8_step at h
  refine lv_iconst (pc := 0) (v := (0 : Int32)) hx hb dX8_step_0 (by decide) ?_
  refine lv_istore_n (pc := 1) (lv' := [(1, .int (0 : Int32)), (0, .ref (ad 0))]) hx hb dX8_step_1 rfl hl (by decide) rfl (fun ls hl => ?_)
  refine lv_aload_n (pc := 2) hx hb dX8_step_2 rfl (lv_at hl 1 rfl) ?_
  refine x_get (pc := 3) (v := .ref (ad 1)) E hP (by decide) sh8 rfl inX8 0 (by decide) q972 rfl dX8_step_3 ?_
  refine lv_iconst (pc := 6) (v := (5 : Int32)) hx hb dX8_step_6 (by decide) ?_
  refine x_iald (pc := 7) (j := 5) E hP (by decide) sh8a1 0 rfl (vp_inl (by decide)) rfl dX8_step_7 ?_
  refine lv_istore_n (pc := 8) (lv' := [(2, .int (M 1 5)), (1, .int (0 : Int32)), (0, .ref (ad 0))]) hx hb dX8_step_8 rfl hl (by decide) rfl (fun ls hl => ?_)
  exact hL9 5000 M (0 : Int32) (M 1 5) _ _ _ h hP hS (lv_sub hl [2, 1, 0] rfl)
set_option maxRecDepth 100000 in
set_option maxHeartbeats 4000000 in
theorem kX8_nextStep (hap : Apart 7 ad)   (M : Mem)  (v : Int32) (M' : Mem) (h : fX8_nextStep M = some (v, M')) : RI G ad cA cZ cC yX8_nextStep cX8_nextStep 1 .int ({ frames := 7, cells := 0, slots := 0, locals := 161 } : Room) [.ref (ad 0)] M v M' := by
  refine CI.mk (own := RX8) (ls0 := [(0, .ref (ad 0))]) (by decide +kernel) rfl hap (Nat.le_of_ble_eq_true rfl) rfl ?_
  intro p l e s m args below meth c ls E hP hl
  have hx := E.1
  have hb := E.2.1
  have hown := E.2.2.2.2.2.1
  have hts := E.2.2.2.2.2.2.1
  have hEx := ExR.ok 7 ad
  have hS : va_S (AW 7 ad) s.heap s.heap [] := va_S.rf
  unfold fX8_nextStep at h
  refine lv_aload_n (pc := 0) hx hb dX8_nextStep_0 rfl (lv_at hl 0 rfl) ?_
  obtain ⟨y1, hy1, h⟩ := bnd_ex h
  refine x_callVi (pc := 1) (st := .ref (ad 0) :: []) (As := []) E hEx hl.1 hP hS (kX8_plays hap  M  _ hy1) gX8_105 hdX8_plays rfl (by decide) sh8 rfl ⟨Nat.le_of_ble_eq_true rfl, Nat.le_of_ble_eq_true rfl⟩ ⟨rfl, rfl⟩ dX8_nextStep_1 rfl (Nat.le_of_ble_eq_true rfl) (fun H locs hP hS n2 => ?_)
  refine lv_if_eq (pc := 4) (tgt := 14) hx hb dX8_nextStep_4 (by decide) (fun c3 => ?_) (fun c3 => ?_)
  · have h := (if_pos c3).symm.trans h
    refine lv_bipush (pc := 14) (v := (-4 : Int32)) hx hb dX8_nextStep_14 (by decide) ?_
    obtain ⟨rfl, rfl⟩ := som2 h
    exact x_iret E hP hS rfl dX8_nextStep_16
  · have h := (if_neg c3).symm.trans h
    refine lv_aload_n (pc := 7) hx hb dX8_nextStep_7 rfl (lv_at hl 0 rfl) ?_
    obtain ⟨q4, hq4, h⟩ := bnd_ex h
    refine x_callVi (pc := 8) (st := .ref (ad 0) :: []) (As := []) E hEx hl.1 hP hS (kX8_step hap  M  _ _ hq4) gX8_180 hdX8_step rfl (by decide) sh8 rfl ⟨Nat.le_of_ble_eq_true rfl, Nat.le_of_ble_eq_true rfl⟩ ⟨rfl, rfl⟩ dX8_nextStep_8 rfl (Nat.le_of_ble_eq_true rfl) (fun H locs hP hS n5 => ?_)
    refine lv_goto (pc := 11) (tgt := 16) hx hb dX8_nextStep_11 (by decide) ?_
    obtain ⟨rfl, rfl⟩ := som2 h
    exact x_iret E hP hS rfl dX8_nextStep_16
set_option maxRecDepth 100000 in
set_option maxHeartbeats 4000000 in
theorem kX8_nudge (hap : Apart 7 ad)   (M : Mem)  (v : Int32) (M' : Mem) (h : fX8_nudge M = some (v, M')) : RI G ad cA cZ cC yX8_nudge cX8_nudge 2 .int ({ frames := 7, cells := 0, slots := 0, locals := 161 } : Room) [.ref (ad 0)] M v M' := by
  refine CI.mk (own := RX8) (ls0 := [(0, .ref (ad 0))]) (by decide +kernel) rfl hap (Nat.le_of_ble_eq_true rfl) rfl ?_
  intro p l e s m args below meth c ls E hP hl
  have hx := E.1
  have hb := E.2.1
  have hown := E.2.2.2.2.2.1
  have hts := E.2.2.2.2.2.2.1
  have hEx := ExR.ok 7 ad
  have hS : va_S (AW 7 ad) s.heap s.heap [] := va_S.rf
  have hB95 : ∀ (M : Mem) (x1 : Int32) (H : Heap) (locs : List Loc) (ls : Array Slot), fX8_nudge_B95 M x1 = some (v, M') → va_P G vwCl (WW 7 (shR cA cZ cC ad) ad M) H → va_S (AW 7 ad) s.heap H locs → lv_has ls 2 [(0, .ref (ad 0)), (1, .int x1)] → W p l e ({ frames := 7, cells := 0, slots := 0, locals := 161 } : Room) s m args below meth c H locs 0 0 (QI below G 7 (shR cA cZ cC ad) ad .int args s v M') (F0 m 95 ls []) := by
    intro M x1 H locs ls h hP hS hl
    unfold fX8_nudge_B95 at h
    refine lv_aload_n (pc := 95) hx hb dX8_nudge_95 rfl (lv_at hl 0 rfl) ?_
    refine x_get (pc := 96) (v := .ref (ad 1)) E hP (by decide) sh8 rfl inX8 0 (by decide) q972 rfl dX8_nudge_96 ?_
    refine lv_bipush (pc := 99) (v := (14 : Int32)) hx hb dX8_nudge_99 (by decide) ?_
    refine lv_dup2_11 (pc := 101) hx hb dX8_nudge_101 rfl rfl ?_
    refine x_iald (pc := 102) (j := 14) E hP (by decide) sh8a1 0 rfl (vp_inl (by decide)) rfl dX8_nudge_102 ?_
    refine lv_iconst (pc := 103) (v := (1 : Int32)) hx hb dX8_nudge_103 (by decide) ?_
    refine lv_iadd (pc := 104) hx hb dX8_nudge_104 ?_
    obtain ⟨M14, hM14, h⟩ := thn_ex h
    refine x_iast (pc := 105) (j := 14) E hP hS (by decide) sh8a1 0 rfl (vp_inl (by decide)) rfl dX8_nudge_105 (fun H locs hP hS => ?_)
    rw [hM14] at hP
    refine lv_aload_n (pc := 106) hx hb dX8_nudge_106 rfl (lv_at hl 0 rfl) ?_
    refine lv_iconst (pc := 107) (v := (2 : Int32)) hx hb dX8_nudge_107 (by decide) ?_
    obtain ⟨M15, hM15, h⟩ := bnd_ex h
    refine x_callVv (pc := 108) (st := .int (2 : Int32) :: .ref (ad 0) :: []) (As := [.int (2 : Int32)]) E hEx hl.1 hP hS (kX8_pass hap  M14 _ _ hM15) gX8_115 hdX8_pass rfl (by decide) sh8 rfl ⟨Nat.le_of_ble_eq_true rfl, Nat.le_of_ble_eq_true rfl⟩ ⟨rfl, rfl⟩ dX8_nudge_108 rfl (Nat.le_of_ble_eq_true rfl) (fun H locs hP hS => ?_)
    refine lv_iload_n (pc := 111) hx hb dX8_nudge_111 rfl (lv_at hl 1 rfl) ?_
    obtain ⟨rfl, rfl⟩ := som2 h
    exact x_iret E hP hS rfl dX8_nudge_112
  unfold fX8_nudge at h
  refine lv_aload_n (pc := 0) hx hb dX8_nudge_0 rfl (lv_at hl 0 rfl) ?_
  obtain ⟨y1, hy1, h⟩ := bnd_ex h
  refine x_callVi (pc := 1) (st := .ref (ad 0) :: []) (As := []) E hEx hl.1 hP hS (kX8_plays hap  M  _ hy1) gX8_105 hdX8_plays rfl (by decide) sh8 rfl ⟨Nat.le_of_ble_eq_true rfl, Nat.le_of_ble_eq_true rfl⟩ ⟨rfl, rfl⟩ dX8_nudge_1 rfl (Nat.le_of_ble_eq_true rfl) (fun H locs hP hS n2 => ?_)
  refine lv_if_ne (pc := 4) (tgt := 10) hx hb dX8_nudge_4 (by decide) (fun c3 => ?_) (fun c3 => ?_)
  · have h := (if_neg c3).symm.trans h
    refine lv_aload_n (pc := 10) hx hb dX8_nudge_10 rfl (lv_at hl 0 rfl) ?_
    refine x_get (pc := 11) (v := .ref (ad 1)) E hP (by decide) sh8 rfl inX8 0 (by decide) q972 rfl dX8_nudge_11 ?_
    refine lv_bipush (pc := 14) (v := (14 : Int32)) hx hb dX8_nudge_14 (by decide) ?_
    refine x_iald (pc := 16) (j := 14) E hP (by decide) sh8a1 0 rfl (vp_inl (by decide)) rfl dX8_nudge_16 ?_
    refine lv_aload_n (pc := 17) hx hb dX8_nudge_17 rfl (lv_at hl 0 rfl) ?_
    refine x_get (pc := 18) (v := .ref (ad 1)) E hP (by decide) sh8 rfl inX8 0 (by decide) q972 rfl dX8_nudge_18 ?_
    refine lv_bipush (pc := 21) (v := (7 : Int32)) hx hb dX8_nudge_21 (by decide) ?_
    refine x_iald (pc := 23) (j := 7) E hP (by decide) sh8a1 0 rfl (vp_inl (by decide)) rfl dX8_nudge_23 ?_
    refine lv_icmp_ne (pc := 24) (tgt := 30) hx hb dX8_nudge_24 (by decide) (fun c4 => ?_) (fun c4 => ?_)
    · have h := (if_neg c4).symm.trans h
      refine lv_aload_n (pc := 30) hx hb dX8_nudge_30 rfl (lv_at hl 0 rfl) ?_
      obtain ⟨q5, hq5, h⟩ := bnd_ex h
      refine x_callVi (pc := 31) (st := .ref (ad 0) :: []) (As := []) E hEx hl.1 hP hS (kX8_step hap  M  _ _ hq5) gX8_180 hdX8_step rfl (by decide) sh8 rfl ⟨Nat.le_of_ble_eq_true rfl, Nat.le_of_ble_eq_true rfl⟩ ⟨rfl, rfl⟩ dX8_nudge_31 rfl (Nat.le_of_ble_eq_true rfl) (fun H locs hP hS n6 => ?_)
      refine lv_istore_n (pc := 34) (lv' := [(1, .int q5.1), (0, .ref (ad 0))]) hx hb dX8_nudge_34 rfl hl (by decide) rfl (fun ls hl => ?_)
      refine lv_iload_n (pc := 35) hx hb dX8_nudge_35 rfl (lv_at hl 0 rfl) ?_
      refine lv_if_ge (pc := 36) (tgt := 42) hx hb dX8_nudge_36 (by decide) (fun c7 => ?_) (fun c7 => ?_)
      · have h := (if_pos c7).symm.trans h
        refine lv_aload_n (pc := 42) hx hb dX8_nudge_42 rfl (lv_at hl 1 rfl) ?_
        refine lv_iconst (pc := 43) (v := (2 : Int32)) hx hb dX8_nudge_43 (by decide) ?_
        obtain ⟨q8, hq8, h⟩ := bnd_ex h
        refine x_callVi (pc := 44) (st := .int (2 : Int32) :: .ref (ad 0) :: []) (As := [.int (2 : Int32)]) E hEx hl.1 hP hS (kX8_isOver hap  q5.2 _ _ _ hq8) gX8_140 hdX8_isOver rfl (by decide) sh8 rfl ⟨Nat.le_of_ble_eq_true rfl, Nat.le_of_ble_eq_true rfl⟩ ⟨rfl, rfl⟩ dX8_nudge_44 rfl (Nat.le_of_ble_eq_true rfl) (fun H locs hP hS n9 => ?_)
        refine lv_if_eq (pc := 47) (tgt := 53) hx hb dX8_nudge_47 (by decide) (fun c10 => ?_) (fun c10 => ?_)
        · have h := (if_pos c10).symm.trans h
          refine lv_aload_n (pc := 53) hx hb dX8_nudge_53 rfl (lv_at hl 1 rfl) ?_
          refine lv_iconst (pc := 54) (v := (4 : Int32)) hx hb dX8_nudge_54 (by decide) ?_
          refine lv_iload_n (pc := 55) hx hb dX8_nudge_55 rfl (lv_at hl 0 rfl) ?_
          refine lv_iconst (pc := 56) (v := (0 : Int32)) hx hb dX8_nudge_56 (by decide) ?_
          obtain ⟨M11, hM11, h⟩ := bnd_ex h
          refine x_callVv (pc := 57) (st := .int (0 : Int32) :: .int q5.1 :: .int (4 : Int32) :: .ref (ad 0) :: []) (As := [.int (4 : Int32), .int q5.1, .int (0 : Int32)]) E hEx hl.1 hP hS (kX8_note hap  q8.2 _ _ _ _ hM11) gX8_130 hdX8_note rfl (by decide) sh8 rfl ⟨Nat.le_of_ble_eq_true rfl, Nat.le_of_ble_eq_true rfl⟩ ⟨rfl, rfl⟩ dX8_nudge_57 rfl (Nat.le_of_ble_eq_true rfl) (fun H locs hP hS => ?_)
          refine lv_iload_n (pc := 60) hx hb dX8_nudge_60 rfl (lv_at hl 0 rfl) ?_
          refine lv_sipush (pc := 61) (v := (500 : Int32)) hx hb dX8_nudge_61 (by decide) ?_
          refine lv_sipush (pc := 64) (v := (503 : Int32)) hx hb dX8_nudge_64 (by decide) ?_
          refine x_callSi (pc := 67) (st := .int (503 : Int32) :: .int (500 : Int32) :: .int q5.1 :: []) (As := [.int q5.1, .int (500 : Int32), .int (503 : Int32)]) E hEx hl.1 hP hS (kX8_in hap  M11 _ _ _ _ rfl) gX8_30 hsX8_in rfl ⟨Nat.le_of_ble_eq_true rfl, Nat.le_of_ble_eq_true rfl⟩ ⟨rfl, rfl⟩ dX8_nudge_67 rfl (Nat.le_of_ble_eq_true rfl) (fun H locs hP hS n12 => ?_)
          refine lv_if_eq (pc := 70) (tgt := 95) hx hb dX8_nudge_70 (by decide) (fun c13 => ?_) (fun c13 => ?_)
          · have h := (if_pos c13).symm.trans h
            exact hB95 M11 q5.1 _ _ _ h hP hS (lv_sub hl [1, 0] rfl)
          · have h := (if_neg c13).symm.trans h
            refine lv_aload_n (pc := 73) hx hb dX8_nudge_73 rfl (lv_at hl 1 rfl) ?_
            refine x_get (pc := 74) (v := .ref (ad 1)) E hP (by decide) sh8 rfl inX8 0 (by decide) q972 rfl dX8_nudge_74 ?_
            refine lv_bipush (pc := 77) (v := (68 : Int32)) hx hb dX8_nudge_77 (by decide) ?_
            refine lv_aload_n (pc := 79) hx hb dX8_nudge_79 rfl (lv_at hl 1 rfl) ?_
            refine x_get (pc := 80) (v := .int (M11 0 11)) E hP (by decide) sh8 rfl inX8 11 (by decide) q983 rfl dX8_nudge_80 ?_
            refine lv_iadd (pc := 83) hx hb dX8_nudge_83 ?_
            refine lv_dup2_11 (pc := 84) hx hb dX8_nudge_84 rfl rfl ?_
            obtain ⟨c16, h⟩ := ite_some h
            refine x_iald (pc := 85) (j := ((68 : Int32) + (M11 0 11)).toNatClampNeg) E hP (by decide) sh8a1 0 rfl (inb_in c16) rfl dX8_nudge_85 ?_
            refine lv_iconst (pc := 86) (v := (1 : Int32)) hx hb dX8_nudge_86 (by decide) ?_
            refine lv_iload_n (pc := 87) hx hb dX8_nudge_87 rfl (lv_at hl 0 rfl) ?_
            refine lv_sipush (pc := 88) (v := (500 : Int32)) hx hb dX8_nudge_88 (by decide) ?_
            refine lv_isub (pc := 91) hx hb dX8_nudge_91 ?_
            refine lv_ishl (pc := 92) hx hb dX8_nudge_92 ?_
            refine lv_ior (pc := 93) hx hb dX8_nudge_93 ?_
            obtain ⟨c17, h⟩ := ite_some h
            obtain ⟨M18, hM18, h⟩ := thn_ex h
            refine x_iast (pc := 94) (j := ((68 : Int32) + (M11 0 11)).toNatClampNeg) E hP hS (by decide) sh8a1 0 rfl (inb_in c17) rfl dX8_nudge_94 (fun H locs hP hS => ?_)
            rw [hM18] at hP
            exact hB95 M18 q5.1 _ _ _ h hP hS (lv_sub hl [1, 0] rfl)
        · have h := (if_neg c10).symm.trans h
          refine lv_bipush (pc := 50) (v := (-6 : Int32)) hx hb dX8_nudge_50 (by decide) ?_
          obtain ⟨rfl, rfl⟩ := som2 h
          exact x_iret E hP hS rfl dX8_nudge_52
      · have h := (if_neg c7).symm.trans h
        refine lv_bipush (pc := 39) (v := (-5 : Int32)) hx hb dX8_nudge_39 (by decide) ?_
        obtain ⟨rfl, rfl⟩ := som2 h
        exact x_iret E hP hS rfl dX8_nudge_41
    · have h := (if_pos c4).symm.trans h
      refine lv_bipush (pc := 27) (v := (-3 : Int32)) hx hb dX8_nudge_27 (by decide) ?_
      obtain ⟨rfl, rfl⟩ := som2 h
      exact x_iret E hP hS rfl dX8_nudge_29
  · have h := (if_pos c3).symm.trans h
    refine lv_bipush (pc := 7) (v := (-4 : Int32)) hx hb dX8_nudge_7 (by decide) ?_
    obtain ⟨rfl, rfl⟩ := som2 h
    exact x_iret E hP hS rfl dX8_nudge_9
set_option maxRecDepth 100000 in
set_option maxHeartbeats 4000000 in
theorem kX8_giveUp (hap : Apart 7 ad)   (M : Mem)  (v : Int32) (M' : Mem) (h : fX8_giveUp M = some (v, M')) : RI G ad cA cZ cC yX8_giveUp cX8_giveUp 2 .int ({ frames := 2, cells := 0, slots := 0, locals := 43 } : Room) [.ref (ad 0)] M v M' := by
  refine CI.mk (own := RX8) (ls0 := [(0, .ref (ad 0))]) (by decide +kernel) rfl hap (Nat.le_of_ble_eq_true rfl) rfl ?_
  intro p l e s m args below meth c ls E hP hl
  have hx := E.1
  have hb := E.2.1
  have hown := E.2.2.2.2.2.1
  have hts := E.2.2.2.2.2.2.1
  have hEx := ExR.ok 7 ad
  have hS : va_S (AW 7 ad) s.heap s.heap [] := va_S.rf
  unfold fX8_giveUp at h
  refine lv_aload_n (pc := 0) hx hb dX8_giveUp_0 rfl (lv_at hl 0 rfl) ?_
  obtain ⟨y1, hy1, h⟩ := bnd_ex h
  refine x_callVi (pc := 1) (st := .ref (ad 0) :: []) (As := []) E hEx hl.1 hP hS (kX8_plays hap  M  _ hy1) gX8_105 hdX8_plays rfl (by decide) sh8 rfl ⟨Nat.le_of_ble_eq_true rfl, Nat.le_of_ble_eq_true rfl⟩ ⟨rfl, rfl⟩ dX8_giveUp_1 rfl (Nat.le_of_ble_eq_true rfl) (fun H locs hP hS n2 => ?_)
  refine lv_if_ne (pc := 4) (tgt := 10) hx hb dX8_giveUp_4 (by decide) (fun c3 => ?_) (fun c3 => ?_)
  · have h := (if_neg c3).symm.trans h
    refine lv_aload_n (pc := 10) hx hb dX8_giveUp_10 rfl (lv_at hl 0 rfl) ?_
    refine lv_bipush (pc := 11) (v := (7 : Int32)) hx hb dX8_giveUp_11 (by decide) ?_
    refine lv_iconst (pc := 13) (v := (0 : Int32)) hx hb dX8_giveUp_13 (by decide) ?_
    refine lv_iconst (pc := 14) (v := (0 : Int32)) hx hb dX8_giveUp_14 (by decide) ?_
    obtain ⟨M4, hM4, h⟩ := bnd_ex h
    refine x_callVv (pc := 15) (st := .int (0 : Int32) :: .int (0 : Int32) :: .int (7 : Int32) :: .ref (ad 0) :: []) (As := [.int (7 : Int32), .int (0 : Int32), .int (0 : Int32)]) E hEx hl.1 hP hS (kX8_note hap  M _ _ _ _ hM4) gX8_130 hdX8_note rfl (by decide) sh8 rfl ⟨Nat.le_of_ble_eq_true rfl, Nat.le_of_ble_eq_true rfl⟩ ⟨rfl, rfl⟩ dX8_giveUp_15 rfl (Nat.le_of_ble_eq_true rfl) (fun H locs hP hS => ?_)
    refine lv_aload_n (pc := 18) hx hb dX8_giveUp_18 rfl (lv_at hl 0 rfl) ?_
    refine x_get (pc := 19) (v := .ref (ad 1)) E hP (by decide) sh8 rfl inX8 0 (by decide) q972 rfl dX8_giveUp_19 ?_
    refine lv_bipush (pc := 22) (v := (9 : Int32)) hx hb dX8_giveUp_22 (by decide) ?_
    refine x_iald (pc := 24) (j := 9) E hP (by decide) sh8a1 0 rfl (vp_inl (by decide)) rfl dX8_giveUp_24 ?_
    refine lv_aload_n (pc := 25) hx hb dX8_giveUp_25 rfl (lv_at hl 0 rfl) ?_
    refine x_get (pc := 26) (v := .ref (ad 1)) E hP (by decide) sh8 rfl inX8 0 (by decide) q972 rfl dX8_giveUp_26 ?_
    refine lv_bipush (pc := 29) (v := (13 : Int32)) hx hb dX8_giveUp_29 (by decide) ?_
    refine x_iald (pc := 31) (j := 13) E hP (by decide) sh8a1 0 rfl (vp_inl (by decide)) rfl dX8_giveUp_31 ?_
    refine lv_isub (pc := 32) hx hb dX8_giveUp_32 ?_
    refine lv_istore_n (pc := 33) (lv' := [(1, .int ((M4 1 9) - (M4 1 13))), (0, .ref (ad 0))]) hx hb dX8_giveUp_33 rfl hl (by decide) rfl (fun ls hl => ?_)
    refine lv_aload_n (pc := 34) hx hb dX8_giveUp_34 rfl (lv_at hl 1 rfl) ?_
    refine lv_iconst (pc := 35) (v := (0 : Int32)) hx hb dX8_giveUp_35 (by decide) ?_
    obtain ⟨M5, hM5, h⟩ := bnd_ex h
    refine x_callVv (pc := 36) (st := .int (0 : Int32) :: .ref (ad 0) :: []) (As := [.int (0 : Int32)]) E hEx hl.1 hP hS (kX8_end hap  M4 _ _ hM5) gX8_134 hdX8_end rfl (by decide) sh8 rfl ⟨Nat.le_of_ble_eq_true rfl, Nat.le_of_ble_eq_true rfl⟩ ⟨rfl, rfl⟩ dX8_giveUp_36 rfl (Nat.le_of_ble_eq_true rfl) (fun H locs hP hS => ?_)
    refine lv_iload_n (pc := 39) hx hb dX8_giveUp_39 rfl (lv_at hl 0 rfl) ?_
    obtain ⟨rfl, rfl⟩ := som2 h
    exact x_iret E hP hS rfl dX8_giveUp_40
  · have h := (if_pos c3).symm.trans h
    refine lv_bipush (pc := 7) (v := (-4 : Int32)) hx hb dX8_giveUp_7 (by decide) ?_
    obtain ⟨rfl, rfl⟩ := som2 h
    exact x_iret E hP hS rfl dX8_giveUp_9
set_option maxRecDepth 100000 in
set_option maxHeartbeats 4000000 in
theorem kX8_planned (hap : Apart 7 ad)   (M : Mem) (x1 : Int32) (v : Int32) (M' : Mem) (h : fX8_planned M x1 = some (v, M')) : RI G ad cA cZ cC yX8_planned cX8_planned 5 .int ({ frames := 2, cells := 0, slots := 0, locals := 44 } : Room) [.ref (ad 0), .int x1] M v M' := by
  refine CI.mk (own := RX8) (ls0 := [(0, .ref (ad 0)), (1, .int x1)]) (by decide +kernel) rfl hap (Nat.le_of_ble_eq_true rfl) rfl ?_
  intro p l e s m args below meth c ls E hP hl
  have hx := E.1
  have hb := E.2.1
  have hown := E.2.2.2.2.2.1
  have hts := E.2.2.2.2.2.2.1
  have hEx := ExR.ok 7 ad
  have hS : va_S (AW 7 ad) s.heap s.heap [] := va_S.rf
  unfold fX8_planned at h
  refine lv_iload_n (pc := 0) hx hb dX8_planned_0 rfl (lv_at hl 1 rfl) ?_
  refine lv_sipush (pc := 1) (v := (1000 : Int32)) hx hb dX8_planned_1 (by decide) ?_
  refine x_irem (pc := 4) hx hb dX8_planned_4 (by decide) ?_
  refine lv_bipush (pc := 5) (v := (100 : Int32)) hx hb dX8_planned_5 (by decide) ?_
  refine lv_idiv (pc := 7) hx hb dX8_planned_7 (by decide) ?_
  obtain ⟨y1, hy1, h⟩ := thn_ex h
  refine W.eq (g2 := F0 m 8 ls (.int y1 :: [])) (by rw [← hy1]) ?_
  refine lv_istore_n (pc := 8) (lv' := [(2, .int y1), (0, .ref (ad 0)), (1, .int x1)]) hx hb dX8_planned_8 rfl hl (by decide) rfl (fun ls hl => ?_)
  refine lv_iload_n (pc := 9) hx hb dX8_planned_9 rfl (lv_at hl 2 rfl) ?_
  refine lv_bipush (pc := 10) (v := (100 : Int32)) hx hb dX8_planned_10 (by decide) ?_
  refine x_irem (pc := 12) hx hb dX8_planned_12 (by decide) ?_
  refine lv_istore_n (pc := 13) (lv' := [(3, .int (irm x1 (100 : Int32))), (2, .int y1), (0, .ref (ad 0)), (1, .int x1)]) hx hb dX8_planned_13 rfl hl (by decide) rfl (fun ls hl => ?_)
  refine lv_iload_n (pc := 14) hx hb dX8_planned_14 rfl (lv_at hl 1 rfl) ?_
  by_cases c2 : y1 = (1 : Int32)
  · have h := (if_pos c2).symm.trans h
    refine lv_tableIn (pc := 15) (off := 29) (tgt := 44) hx hb dX8_planned_15 (by rw [c2]; decide) (by rw [c2]; decide) (by rw [c2]; decide) (by decide) ?_
    refine lv_aload_n (pc := 44) hx hb dX8_planned_44 rfl (lv_at hl 2 rfl) ?_
    refine x_get (pc := 45) (v := .ref (ad 1)) E hP (by decide) sh8 rfl inX8 0 (by decide) q972 rfl dX8_planned_45 ?_
    refine lv_bipush (pc := 48) (v := (104 : Int32)) hx hb dX8_planned_48 (by decide) ?_
    refine lv_iload_n (pc := 50) hx hb dX8_planned_50 rfl (lv_at hl 0 rfl) ?_
    refine lv_iadd (pc := 51) hx hb dX8_planned_51 ?_
    refine lv_iconst (pc := 52) (v := (-1 : Int32)) hx hb dX8_planned_52 (by decide) ?_
    obtain ⟨c23, h⟩ := ite_some h
    obtain ⟨M24, hM24, h⟩ := thn_ex h
    refine x_iast (pc := 53) (j := ((104 : Int32) + (irm x1 (100 : Int32))).toNatClampNeg) E hP hS (by decide) sh8a1 0 rfl (inb_in c23) rfl dX8_planned_53 (fun H locs hP hS => ?_)
    rw [hM24] at hP
    refine lv_aload_n (pc := 54) hx hb dX8_planned_54 rfl (lv_at hl 2 rfl) ?_
    refine lv_iconst (pc := 55) (v := (3 : Int32)) hx hb dX8_planned_55 (by decide) ?_
    obtain ⟨y25, hy25, h⟩ := bnd_ex h
    refine x_callVi (pc := 56) (st := .int (3 : Int32) :: .ref (ad 0) :: []) (As := [.int (3 : Int32)]) E hEx hl.1 hP hS (kX8_lessHalf hap  M24 _ _ hy25) gX8_124 hdX8_lessHalf rfl (by decide) sh8 rfl ⟨Nat.le_of_ble_eq_true rfl, Nat.le_of_ble_eq_true rfl⟩ ⟨rfl, rfl⟩ dX8_planned_56 rfl (Nat.le_of_ble_eq_true rfl) (fun H locs hP hS n26 => ?_)
    obtain ⟨rfl, rfl⟩ := som2 h
    exact x_iret E hP hS rfl dX8_planned_59
  · have h := (if_neg c2).symm.trans h
    by_cases c3 : y1 = (2 : Int32)
    · have h := (if_pos c3).symm.trans h
      refine lv_tableIn (pc := 15) (off := 45) (tgt := 60) hx hb dX8_planned_15 (by rw [c3]; decide) (by rw [c3]; decide) (by rw [c3]; decide) (by decide) ?_
      refine lv_aload_n (pc := 60) hx hb dX8_planned_60 rfl (lv_at hl 2 rfl) ?_
      refine x_get (pc := 61) (v := .ref (ad 1)) E hP (by decide) sh8 rfl inX8 0 (by decide) q972 rfl dX8_planned_61 ?_
      refine lv_bipush (pc := 64) (v := (104 : Int32)) hx hb dX8_planned_64 (by decide) ?_
      refine lv_iload_n (pc := 66) hx hb dX8_planned_66 rfl (lv_at hl 0 rfl) ?_
      refine lv_iadd (pc := 67) hx hb dX8_planned_67 ?_
      refine lv_iload_n (pc := 68) hx hb dX8_planned_68 rfl (lv_at hl 3 rfl) ?_
      refine lv_sipush (pc := 69) (v := (1000 : Int32)) hx hb dX8_planned_69 (by decide) ?_
      refine lv_idiv (pc := 72) hx hb dX8_planned_72 (by decide) ?_
      obtain ⟨c19, h⟩ := ite_some h
      obtain ⟨M20, hM20, h⟩ := thn_ex h
      refine x_iast (pc := 73) (j := ((104 : Int32) + (irm x1 (100 : Int32))).toNatClampNeg) E hP hS (by decide) sh8a1 0 rfl (inb_in c19) rfl dX8_planned_73 (fun H locs hP hS => ?_)
      rw [hM20] at hP
      refine lv_aload_n (pc := 74) hx hb dX8_planned_74 rfl (lv_at hl 2 rfl) ?_
      refine lv_iconst (pc := 75) (v := (2 : Int32)) hx hb dX8_planned_75 (by decide) ?_
      obtain ⟨y21, hy21, h⟩ := bnd_ex h
      refine x_callVi (pc := 76) (st := .int (2 : Int32) :: .ref (ad 0) :: []) (As := [.int (2 : Int32)]) E hEx hl.1 hP hS (kX8_lessHalf hap  M20 _ _ hy21) gX8_124 hdX8_lessHalf rfl (by decide) sh8 rfl ⟨Nat.le_of_ble_eq_true rfl, Nat.le_of_ble_eq_true rfl⟩ ⟨rfl, rfl⟩ dX8_planned_76 rfl (Nat.le_of_ble_eq_true rfl) (fun H locs hP hS n22 => ?_)
      obtain ⟨rfl, rfl⟩ := som2 h
      exact x_iret E hP hS rfl dX8_planned_79
    · have h := (if_neg c3).symm.trans h
      by_cases c4 : y1 = (3 : Int32)
      · have h := (if_pos c4).symm.trans h
        refine lv_tableIn (pc := 15) (off := 65) (tgt := 80) hx hb dX8_planned_15 (by rw [c4]; decide) (by rw [c4]; decide) (by rw [c4]; decide) (by decide) ?_
        refine lv_aload_n (pc := 80) hx hb dX8_planned_80 rfl (lv_at hl 2 rfl) ?_
        refine x_get (pc := 81) (v := .ref (ad 1)) E hP (by decide) sh8 rfl inX8 0 (by decide) q972 rfl dX8_planned_81 ?_
        refine lv_bipush (pc := 84) (v := (56 : Int32)) hx hb dX8_planned_84 (by decide) ?_
        refine lv_iload_n (pc := 86) hx hb dX8_planned_86 rfl (lv_at hl 0 rfl) ?_
        refine lv_iadd (pc := 87) hx hb dX8_planned_87 ?_
        refine lv_iconst (pc := 88) (v := (1 : Int32)) hx hb dX8_planned_88 (by decide) ?_
        obtain ⟨c15, h⟩ := ite_some h
        obtain ⟨M16, hM16, h⟩ := thn_ex h
        refine x_iast (pc := 89) (j := ((56 : Int32) + (irm x1 (100 : Int32))).toNatClampNeg) E hP hS (by decide) sh8a1 0 rfl (inb_in c15) rfl dX8_planned_89 (fun H locs hP hS => ?_)
        rw [hM16] at hP
        refine lv_aload_n (pc := 90) hx hb dX8_planned_90 rfl (lv_at hl 2 rfl) ?_
        refine lv_iconst (pc := 91) (v := (4 : Int32)) hx hb dX8_planned_91 (by decide) ?_
        obtain ⟨y17, hy17, h⟩ := bnd_ex h
        refine x_callVi (pc := 92) (st := .int (4 : Int32) :: .ref (ad 0) :: []) (As := [.int (4 : Int32)]) E hEx hl.1 hP hS (kX8_lessHalf hap  M16 _ _ hy17) gX8_124 hdX8_lessHalf rfl (by decide) sh8 rfl ⟨Nat.le_of_ble_eq_true rfl, Nat.le_of_ble_eq_true rfl⟩ ⟨rfl, rfl⟩ dX8_planned_92 rfl (Nat.le_of_ble_eq_true rfl) (fun H locs hP hS n18 => ?_)
        obtain ⟨rfl, rfl⟩ := som2 h
        exact x_iret E hP hS rfl dX8_planned_95
      · have h := (if_neg c4).symm.trans h
        by_cases c5 : y1 = (4 : Int32)
        · have h := (if_pos c5).symm.trans h
          refine lv_tableIn (pc := 15) (off := 81) (tgt := 96) hx hb dX8_planned_15 (by rw [c5]; decide) (by rw [c5]; decide) (by rw [c5]; decide) (by decide) ?_
          refine lv_aload_n (pc := 96) hx hb dX8_planned_96 rfl (lv_at hl 2 rfl) ?_
          refine lv_iload_n (pc := 97) hx hb dX8_planned_97 rfl (lv_at hl 0 rfl) ?_
          obtain ⟨y9, hy9, h⟩ := bnd_ex h
          refine x_callVi (pc := 98) (st := .int (irm x1 (100 : Int32)) :: .ref (ad 0) :: []) (As := [.int (irm x1 (100 : Int32))]) E hEx hl.1 hP hS (kX8_readMinutes hap  M _ _ hy9) gX8_152 hdX8_readMinutes rfl (by decide) sh8 rfl ⟨Nat.le_of_ble_eq_true rfl, Nat.le_of_ble_eq_true rfl⟩ ⟨rfl, rfl⟩ dX8_planned_98 rfl (Nat.le_of_ble_eq_true rfl) (fun H locs hP hS n10 => ?_)
          refine lv_istore (pc := 101) (lv' := [(4, .int y9), (3, .int (irm x1 (100 : Int32))), (2, .int y1), (0, .ref (ad 0)), (1, .int x1)]) hx hb dX8_planned_101 hl (by decide) rfl (fun ls hl => ?_)
          refine lv_aload_n (pc := 103) hx hb dX8_planned_103 rfl (lv_at hl 3 rfl) ?_
          refine lv_iload_n (pc := 104) hx hb dX8_planned_104 rfl (lv_at hl 1 rfl) ?_
          obtain ⟨M11, hM11, h⟩ := bnd_ex h
          refine x_callVv (pc := 105) (st := .int (irm x1 (100 : Int32)) :: .ref (ad 0) :: []) (As := [.int (irm x1 (100 : Int32))]) E hEx hl.1 hP hS (kX8_learn hap  M _ _ hM11) gX8_155 hdX8_learn rfl (by decide) sh8 rfl ⟨Nat.le_of_ble_eq_true rfl, Nat.le_of_ble_eq_true rfl⟩ ⟨rfl, rfl⟩ dX8_planned_105 rfl (Nat.le_of_ble_eq_true rfl) (fun H locs hP hS => ?_)
          refine lv_aload_n (pc := 108) hx hb dX8_planned_108 rfl (lv_at hl 3 rfl) ?_
          refine x_get (pc := 109) (v := .ref (ad 1)) E hP (by decide) sh8 rfl inX8 0 (by decide) q972 rfl dX8_planned_109 ?_
          refine lv_sipush (pc := 112) (v := (164 : Int32)) hx hb dX8_planned_112 (by decide) ?_
          refine lv_iload_n (pc := 115) hx hb dX8_planned_115 rfl (lv_at hl 1 rfl) ?_
          refine lv_iadd (pc := 116) hx hb dX8_planned_116 ?_
          refine lv_dup2_11 (pc := 117) hx hb dX8_planned_117 rfl rfl ?_
          obtain ⟨c12, h⟩ := ite_some h
          refine x_iald (pc := 118) (j := ((164 : Int32) + (irm x1 (100 : Int32))).toNatClampNeg) E hP (by decide) sh8a1 0 rfl (inb_in c12) rfl dX8_planned_118 ?_
          refine lv_iconst (pc := 119) (v := (1 : Int32)) hx hb dX8_planned_119 (by decide) ?_
          refine lv_isub (pc := 120) hx hb dX8_planned_120 ?_
          obtain ⟨c13, h⟩ := ite_some h
          obtain ⟨M14, hM14, h⟩ := thn_ex h
          refine x_iast (pc := 121) (j := ((164 : Int32) + (irm x1 (100 : Int32))).toNatClampNeg) E hP hS (by decide) sh8a1 0 rfl (inb_in c13) rfl dX8_planned_121 (fun H locs hP hS => ?_)
          rw [hM14] at hP
          refine lv_iload (pc := 122) hx hb dX8_planned_122 (lv_at hl 0 rfl) ?_
          obtain ⟨rfl, rfl⟩ := som2 h
          exact x_iret E hP hS rfl dX8_planned_124
        · have h := (if_neg c5).symm.trans h
          refine lv_tableOut (pc := 15) (tgt := 125) hx hb dX8_planned_15 (by have e0 := ne_lit (k := 1) (by decide) c2; have e1 := ne_lit (k := 2) (by decide) c3; have e2 := ne_lit (k := 3) (by decide) c4; have e3 := ne_lit (k := 4) (by decide) c5; omega) (by decide) ?_
          refine lv_aload_n (pc := 125) hx hb dX8_planned_125 rfl (lv_at hl 2 rfl) ?_
          refine x_get (pc := 126) (v := .ref (ad 1)) E hP (by decide) sh8 rfl inX8 0 (by decide) q972 rfl dX8_planned_126 ?_
          refine lv_bipush (pc := 129) (v := (68 : Int32)) hx hb dX8_planned_129 (by decide) ?_
          refine lv_aload_n (pc := 131) hx hb dX8_planned_131 rfl (lv_at hl 2 rfl) ?_
          refine x_get (pc := 132) (v := .int (M 0 11)) E hP (by decide) sh8 rfl inX8 11 (by decide) q983 rfl dX8_planned_132 ?_
          refine lv_iadd (pc := 135) hx hb dX8_planned_135 ?_
          refine lv_dup2_11 (pc := 136) hx hb dX8_planned_136 rfl rfl ?_
          obtain ⟨c6, h⟩ := ite_some h
          refine x_iald (pc := 137) (j := ((68 : Int32) + (M 0 11)).toNatClampNeg) E hP (by decide) sh8a1 0 rfl (inb_in c6) rfl dX8_planned_137 ?_
          refine lv_iconst (pc := 138) (v := (1 : Int32)) hx hb dX8_planned_138 (by decide) ?_
          refine lv_iload_n (pc := 139) hx hb dX8_planned_139 rfl (lv_at hl 0 rfl) ?_
          refine lv_ishl (pc := 140) hx hb dX8_planned_140 ?_
          refine lv_ior (pc := 141) hx hb dX8_planned_141 ?_
          obtain ⟨c7, h⟩ := ite_some h
          obtain ⟨M8, hM8, h⟩ := thn_ex h
          refine x_iast (pc := 142) (j := ((68 : Int32) + (M 0 11)).toNatClampNeg) E hP hS (by decide) sh8a1 0 rfl (inb_in c7) rfl dX8_planned_142 (fun H locs hP hS => ?_)
          rw [hM8] at hP
          refine lv_iconst (pc := 143) (v := (2 : Int32)) hx hb dX8_planned_143 (by decide) ?_
          obtain ⟨rfl, rfl⟩ := som2 h
          exact x_iret E hP hS rfl dX8_planned_144
set_option maxRecDepth 100000 in
set_option maxHeartbeats 4000000 in
theorem kX8_plan (hap : Apart 7 ad)   (M : Mem) (x1 : Int32) (v : Int32) (M' : Mem) (h : fX8_plan M x1 = some (v, M')) : RI G ad cA cZ cC yX8_plan cX8_plan 4 .int ({ frames := 7, cells := 0, slots := 0, locals := 161 } : Room) [.ref (ad 0), .int x1] M v M' := by
  refine CI.mk (own := RX8) (ls0 := [(0, .ref (ad 0)), (1, .int x1)]) (by decide +kernel) rfl hap (Nat.le_of_ble_eq_true rfl) rfl ?_
  intro p l e s m args below meth c ls E hP hl
  have hx := E.1
  have hb := E.2.1
  have hown := E.2.2.2.2.2.1
  have hts := E.2.2.2.2.2.2.1
  have hEx := ExR.ok 7 ad
  have hS : va_S (AW 7 ad) s.heap s.heap [] := va_S.rf
  have hL137 : ∀ (n : Nat) (M : Mem) (x2 x3 : Int32) (H : Heap) (locs : List Loc) (ls : Array Slot), fX8_plan_L137 n M x2 x3 = some (v, M') → va_P G vwCl (WW 7 (shR cA cZ cC ad) ad M) H → va_S (AW 7 ad) s.heap H locs → lv_has ls 4 [(0, .ref (ad 0)), (2, .int x2), (3, .int x3)] → W p l e ({ frames := 7, cells := 0, slots := 0, locals := 161 } : Room) s m args below meth c H locs 0 0 (QI below G 7 (shR cA cZ cC ad) ad .int args s v M') (F0 m 137 ls []) := by
    intro n
    induction n with
    | zero => intro M x2 x3 H locs ls h; cases h
    | succ n ih =>
      intro M x2 x3 H locs ls h hP hS hl
      rw [fX8_plan_L137] at h
      refine lv_iload_n (pc := 137) hx hb dX8_plan_137 rfl (lv_at hl 2 rfl) ?_
      refine lv_sipush (pc := 138) (v := (902 : Int32)) hx hb dX8_plan_138 (by decide) ?_
      refine lv_icmp_ge (pc := 141) (tgt := 162) hx hb dX8_plan_141 (by decide) (fun c11 => ?_) (fun c11 => ?_)
      · have h := (if_pos c11).symm.trans h
        refine lv_iload_n (pc := 162) hx hb dX8_plan_162 rfl (lv_at hl 1 rfl) ?_
        obtain ⟨rfl, rfl⟩ := som2 h
        exact x_iret E hP hS rfl dX8_plan_163
      · have h := (if_neg c11).symm.trans h
        refine lv_aload_n (pc := 144) hx hb dX8_plan_144 rfl (lv_at hl 0 rfl) ?_
        refine x_get (pc := 145) (v := .ref (ad 1)) E hP (by decide) sh8 rfl inX8 0 (by decide) q972 rfl dX8_plan_145 ?_
        refine lv_iload_n (pc := 148) hx hb dX8_plan_148 rfl (lv_at hl 2 rfl) ?_
        refine lv_aload_n (pc := 149) hx hb dX8_plan_149 rfl (lv_at hl 0 rfl) ?_
        refine x_get (pc := 150) (v := .ref (ad 2)) E hP (by decide) sh8 rfl inX8 1 (by decide) q973 rfl dX8_plan_150 ?_
        refine lv_iload_n (pc := 153) hx hb dX8_plan_153 rfl (lv_at hl 2 rfl) ?_
        obtain ⟨c12, h⟩ := ite_some h
        refine x_iald (pc := 154) (j := x3.toNatClampNeg) E hP (by decide) sh8a2 0 rfl (inb_in c12) rfl dX8_plan_154 ?_
        obtain ⟨c13, h⟩ := ite_some h
        obtain ⟨M14, hM14, h⟩ := thn_ex h
        refine x_iast (pc := 155) (j := x3.toNatClampNeg) E hP hS (by decide) sh8a1 0 rfl (inb_in c13) rfl dX8_plan_155 (fun H locs hP hS => ?_)
        rw [hM14] at hP
        refine lv_iinc (pc := 156) (v := (x3 + 1)) (lv' := [(3, .int (x3 + 1)), (0, .ref (ad 0)), (2, .int x2)]) hx hb dX8_plan_156 hl (k := 2) rfl rfl (by decide) rfl (fun ls hl => ?_)
        refine lv_goto (pc := 159) (tgt := 137) hx hb dX8_plan_159 (by decide) ?_
        exact ih M14 x2 (x3 + 1) _ _ _ h hP hS (lv_sub hl [1, 2, 0] rfl)
  have hL93 : ∀ (n : Nat) (M : Mem) (x2 : Int32) (H : Heap) (locs : List Loc) (ls : Array Slot), fX8_plan_L93 n M x2 = some (v, M') → va_P G vwCl (WW 7 (shR cA cZ cC ad) ad M) H → va_S (AW 7 ad) s.heap H locs → lv_has ls 4 [(0, .ref (ad 0)), (2, .int x2)] → W p l e ({ frames := 7, cells := 0, slots := 0, locals := 161 } : Room) s m args below meth c H locs 0 0 (QI below G 7 (shR cA cZ cC ad) ad .int args s v M') (F0 m 93 ls []) := by
    intro n
    induction n with
    | zero => intro M x2 H locs ls h; cases h
    | succ n ih =>
      intro M x2 H locs ls h hP hS hl
      rw [fX8_plan_L93] at h
      refine lv_iload_n (pc := 93) hx hb dX8_plan_93 rfl (lv_at hl 1 rfl) ?_
      refine lv_if_lt (pc := 94) (tgt := 135) hx hb dX8_plan_94 (by decide) (fun c10 => ?_) (fun c10 => ?_)
      · have h := (if_pos c10).symm.trans h
        refine lv_iconst (pc := 135) (v := (0 : Int32)) hx hb dX8_plan_135 (by decide) ?_
        refine lv_istore_n (pc := 136) (lv' := [(3, .int (0 : Int32)), (0, .ref (ad 0)), (2, .int x2)]) hx hb dX8_plan_136 rfl hl (by decide) rfl (fun ls hl => ?_)
        exact hL137 5000 M x2 (0 : Int32) _ _ _ h hP hS (lv_sub hl [1, 2, 0] rfl)
      · have h := (if_neg c10).symm.trans h
        refine lv_aload_n (pc := 97) hx hb dX8_plan_97 rfl (lv_at hl 0 rfl) ?_
        refine lv_aload_n (pc := 98) hx hb dX8_plan_98 rfl (lv_at hl 0 rfl) ?_
        refine x_get (pc := 99) (v := .ref (ad 1)) E hP (by decide) sh8 rfl inX8 0 (by decide) q972 rfl dX8_plan_99 ?_
        refine lv_iconst (pc := 102) (v := (5 : Int32)) hx hb dX8_plan_102 (by decide) ?_
        refine x_iald (pc := 103) (j := 5) E hP (by decide) sh8a1 0 rfl (vp_inl (by decide)) rfl dX8_plan_103 ?_
        obtain ⟨y15, hy15, h⟩ := bnd_ex h
        refine x_callVi (pc := 104) (st := .int (M 1 5) :: .ref (ad 0) :: []) (As := [.int (M 1 5)]) E hEx hl.1 hP hS (kX8_isOpen hap  M _ _ hy15) gX8_34 hdX8_isOpen rfl (by decide) sh8 rfl ⟨Nat.le_of_ble_eq_true rfl, Nat.le_of_ble_eq_true rfl⟩ ⟨rfl, rfl⟩ dX8_plan_104 rfl (Nat.le_of_ble_eq_true rfl) (fun H locs hP hS n16 => ?_)
        refine lv_if_ne (pc := 107) (tgt := 135) hx hb dX8_plan_107 (by decide) (fun c17 => ?_) (fun c17 => ?_)
        · have h := (if_neg c17).symm.trans h
          refine lv_iconst (pc := 135) (v := (0 : Int32)) hx hb dX8_plan_135 (by decide) ?_
          refine lv_istore_n (pc := 136) (lv' := [(3, .int (0 : Int32)), (0, .ref (ad 0)), (2, .int x2)]) hx hb dX8_plan_136 rfl hl (by decide) rfl (fun ls hl => ?_)
          exact hL137 5000 M x2 (0 : Int32) _ _ _ h hP hS (lv_sub hl [1, 2, 0] rfl)
        · have h := (if_pos c17).symm.trans h
          refine lv_aload_n (pc := 110) hx hb dX8_plan_110 rfl (lv_at hl 0 rfl) ?_
          obtain ⟨q18, hq18, h⟩ := bnd_ex h
          refine x_callVi (pc := 111) (st := .ref (ad 0) :: []) (As := []) E hEx hl.1 hP hS (kX8_step hap  M  _ _ hq18) gX8_180 hdX8_step rfl (by decide) sh8 rfl ⟨Nat.le_of_ble_eq_true rfl, Nat.le_of_ble_eq_true rfl⟩ ⟨rfl, rfl⟩ dX8_plan_111 rfl (Nat.le_of_ble_eq_true rfl) (fun H locs hP hS n19 => ?_)
          refine lv_istore_n (pc := 114) (lv' := [(3, .int q18.1), (0, .ref (ad 0)), (2, .int x2)]) hx hb dX8_plan_114 rfl hl (by decide) rfl (fun ls hl => ?_)
          refine lv_iload_n (pc := 115) hx hb dX8_plan_115 rfl (lv_at hl 0 rfl) ?_
          refine lv_if_ge (pc := 116) (tgt := 124) hx hb dX8_plan_116 (by decide) (fun c20 => ?_) (fun c20 => ?_)
          · have h := (if_pos c20).symm.trans h
            refine lv_iload_n (pc := 124) hx hb dX8_plan_124 rfl (lv_at hl 2 rfl) ?_
            refine lv_aload_n (pc := 125) hx hb dX8_plan_125 rfl (lv_at hl 1 rfl) ?_
            refine lv_iload_n (pc := 126) hx hb dX8_plan_126 rfl (lv_at hl 0 rfl) ?_
            obtain ⟨q21, hq21, h⟩ := bnd_ex h
            refine x_callVi (pc := 127) (st := .int q18.1 :: .ref (ad 0) :: .int x2 :: []) (As := [.int q18.1]) E hEx hl.1 hP hS (kX8_planned hap  q18.2 _ _ _ hq21) gX8_183 hdX8_planned rfl (by decide) sh8 rfl ⟨Nat.le_of_ble_eq_true rfl, Nat.le_of_ble_eq_true rfl⟩ ⟨rfl, rfl⟩ dX8_plan_127 rfl (Nat.le_of_ble_eq_true rfl) (fun H locs hP hS n22 => ?_)
            refine lv_iadd (pc := 130) hx hb dX8_plan_130 ?_
            refine lv_istore_n (pc := 131) (lv' := [(2, .int (x2 + q21.1)), (3, .int q18.1), (0, .ref (ad 0))]) hx hb dX8_plan_131 rfl hl (by decide) rfl (fun ls hl => ?_)
            refine lv_goto (pc := 132) (tgt := 93) hx hb dX8_plan_132 (by decide) ?_
            exact ih q21.2 (x2 + q21.1) _ _ _ h hP hS (lv_sub hl [2, 0] rfl)
          · have h := (if_neg c20).symm.trans h
            refine lv_bipush (pc := 119) (v := (-5 : Int32)) hx hb dX8_plan_119 (by decide) ?_
            refine lv_goto (pc := 121) (tgt := 131) hx hb dX8_plan_121 (by decide) ?_
            refine lv_istore_n (pc := 131) (lv' := [(2, .int (-5 : Int32)), (3, .int q18.1), (0, .ref (ad 0))]) hx hb dX8_plan_131 rfl hl (by decide) rfl (fun ls hl => ?_)
            refine lv_goto (pc := 132) (tgt := 93) hx hb dX8_plan_132 (by decide) ?_
            exact ih q18.2 (-5 : Int32) _ _ _ h hP hS (lv_sub hl [2, 0] rfl)
  have hL69 : ∀ (n : Nat) (M : Mem) (x2 : Int32) (H : Heap) (locs : List Loc) (ls : Array Slot), fX8_plan_L69 n M x2 = some (v, M') → va_P G vwCl (WW 7 (shR cA cZ cC ad) ad M) H → va_S (AW 7 ad) s.heap H locs → lv_has ls 4 [(0, .ref (ad 0)), (2, .int x2)] → W p l e ({ frames := 7, cells := 0, slots := 0, locals := 161 } : Room) s m args below meth c H locs 0 0 (QI below G 7 (shR cA cZ cC ad) ad .int args s v M') (F0 m 69 ls []) := by
    intro n
    induction n with
    | zero => intro M x2 H locs ls h; cases h
    | succ n ih =>
      intro M x2 H locs ls h hP hS hl
      rw [fX8_plan_L69] at h
      refine lv_iload_n (pc := 69) hx hb dX8_plan_69 rfl (lv_at hl 1 rfl) ?_
      refine lv_bipush (pc := 70) (v := (12 : Int32)) hx hb dX8_plan_70 (by decide) ?_
      refine lv_icmp_ge (pc := 72) (tgt := 91) hx hb dX8_plan_72 (by decide) (fun c9 => ?_) (fun c9 => ?_)
      · have h := (if_pos c9).symm.trans h
        refine lv_iconst (pc := 91) (v := (0 : Int32)) hx hb dX8_plan_91 (by decide) ?_
        refine lv_istore_n (pc := 92) (lv' := [(2, .int (0 : Int32)), (0, .ref (ad 0))]) hx hb dX8_plan_92 rfl hl (by decide) rfl (fun ls hl => ?_)
        exact hL93 5000 M (0 : Int32) _ _ _ h hP hS (lv_sub hl [1, 0] rfl)
      · have h := (if_neg c9).symm.trans h
        refine lv_aload_n (pc := 75) hx hb dX8_plan_75 rfl (lv_at hl 0 rfl) ?_
        refine x_get (pc := 76) (v := .ref (ad 1)) E hP (by decide) sh8 rfl inX8 0 (by decide) q972 rfl dX8_plan_76 ?_
        refine lv_bipush (pc := 79) (v := (68 : Int32)) hx hb dX8_plan_79 (by decide) ?_
        refine lv_iload_n (pc := 81) hx hb dX8_plan_81 rfl (lv_at hl 1 rfl) ?_
        refine lv_iadd (pc := 82) hx hb dX8_plan_82 ?_
        refine lv_iconst (pc := 83) (v := (0 : Int32)) hx hb dX8_plan_83 (by decide) ?_
        obtain ⟨c23, h⟩ := ite_some h
        obtain ⟨M24, hM24, h⟩ := thn_ex h
        refine x_iast (pc := 84) (j := ((68 : Int32) + x2).toNatClampNeg) E hP hS (by decide) sh8a1 0 rfl (inb_in c23) rfl dX8_plan_84 (fun H locs hP hS => ?_)
        rw [hM24] at hP
        refine lv_iinc (pc := 85) (v := (x2 + 1)) (lv' := [(2, .int (x2 + 1)), (0, .ref (ad 0))]) hx hb dX8_plan_85 hl (k := 1) rfl rfl (by decide) rfl (fun ls hl => ?_)
        refine lv_goto (pc := 88) (tgt := 69) hx hb dX8_plan_88 (by decide) ?_
        exact ih M24 (x2 + 1) _ _ _ h hP hS (lv_sub hl [1, 0] rfl)
  have hL34 : ∀ (n : Nat) (M : Mem) (x1 x2 : Int32) (H : Heap) (locs : List Loc) (ls : Array Slot), fX8_plan_L34 n M x1 x2 = some (v, M') → va_P G vwCl (WW 7 (shR cA cZ cC ad) ad M) H → va_S (AW 7 ad) s.heap H locs → lv_has ls 4 [(0, .ref (ad 0)), (1, .int x1), (2, .int x2)] → W p l e ({ frames := 7, cells := 0, slots := 0, locals := 161 } : Room) s m args below meth c H locs 0 0 (QI below G 7 (shR cA cZ cC ad) ad .int args s v M') (F0 m 34 ls []) := by
    intro n
    induction n with
    | zero => intro M x1 x2 H locs ls h; cases h
    | succ n ih =>
      intro M x1 x2 H locs ls h hP hS hl
      rw [fX8_plan_L34] at h
      refine lv_iload_n (pc := 34) hx hb dX8_plan_34 rfl (lv_at hl 2 rfl) ?_
      refine lv_sipush (pc := 35) (v := (902 : Int32)) hx hb dX8_plan_35 (by decide) ?_
      refine lv_icmp_ge (pc := 38) (tgt := 59) hx hb dX8_plan_38 (by decide) (fun c7 => ?_) (fun c7 => ?_)
      · have h := (if_pos c7).symm.trans h
        refine lv_aload_n (pc := 59) hx hb dX8_plan_59 rfl (lv_at hl 0 rfl) ?_
        refine x_get (pc := 60) (v := .ref (ad 1)) E hP (by decide) sh8 rfl inX8 0 (by decide) q972 rfl dX8_plan_60 ?_
        refine lv_bipush (pc := 63) (v := (11 : Int32)) hx hb dX8_plan_63 (by decide) ?_
        refine lv_iload_n (pc := 65) hx hb dX8_plan_65 rfl (lv_at hl 1 rfl) ?_
        obtain ⟨M8, hM8, h⟩ := thn_ex h
        refine x_iast (pc := 66) (j := 11) E hP hS (by decide) sh8a1 0 rfl (vp_inl (by decide)) rfl dX8_plan_66 (fun H locs hP hS => ?_)
        rw [hM8] at hP
        refine lv_iconst (pc := 67) (v := (0 : Int32)) hx hb dX8_plan_67 (by decide) ?_
        refine lv_istore_n (pc := 68) (lv' := [(2, .int (0 : Int32)), (0, .ref (ad 0)), (1, .int x1)]) hx hb dX8_plan_68 rfl hl (by decide) rfl (fun ls hl => ?_)
        exact hL69 5000 M8 (0 : Int32) _ _ _ h hP hS (lv_sub hl [1, 0] rfl)
      · have h := (if_neg c7).symm.trans h
        refine lv_aload_n (pc := 41) hx hb dX8_plan_41 rfl (lv_at hl 0 rfl) ?_
        refine x_get (pc := 42) (v := .ref (ad 2)) E hP (by decide) sh8 rfl inX8 1 (by decide) q973 rfl dX8_plan_42 ?_
        refine lv_iload_n (pc := 45) hx hb dX8_plan_45 rfl (lv_at hl 2 rfl) ?_
        refine lv_aload_n (pc := 46) hx hb dX8_plan_46 rfl (lv_at hl 0 rfl) ?_
        refine x_get (pc := 47) (v := .ref (ad 1)) E hP (by decide) sh8 rfl inX8 0 (by decide) q972 rfl dX8_plan_47 ?_
        refine lv_iload_n (pc := 50) hx hb dX8_plan_50 rfl (lv_at hl 2 rfl) ?_
        obtain ⟨c25, h⟩ := ite_some h
        refine x_iald (pc := 51) (j := x2.toNatClampNeg) E hP (by decide) sh8a1 0 rfl (inb_in c25) rfl dX8_plan_51 ?_
        obtain ⟨c26, h⟩ := ite_some h
        obtain ⟨M27, hM27, h⟩ := thn_ex h
        refine x_iast (pc := 52) (j := x2.toNatClampNeg) E hP hS (by decide) sh8a2 0 rfl (inb_in c26) rfl dX8_plan_52 (fun H locs hP hS => ?_)
        rw [hM27] at hP
        refine lv_iinc (pc := 53) (v := (x2 + 1)) (lv' := [(2, .int (x2 + 1)), (0, .ref (ad 0)), (1, .int x1)]) hx hb dX8_plan_53 hl (k := 2) rfl rfl (by decide) rfl (fun ls hl => ?_)
        refine lv_goto (pc := 56) (tgt := 34) hx hb dX8_plan_56 (by decide) ?_
        exact ih M27 x1 (x2 + 1) _ _ _ h hP hS (lv_sub hl [1, 2, 0] rfl)
  unfold fX8_plan at h
  refine lv_iload_n (pc := 0) hx hb dX8_plan_0 rfl (lv_at hl 1 rfl) ?_
  refine lv_iconst (pc := 1) (v := (1 : Int32)) hx hb dX8_plan_1 (by decide) ?_
  refine lv_bipush (pc := 2) (v := (6 : Int32)) hx hb dX8_plan_2 (by decide) ?_
  refine x_callSi (pc := 4) (st := .int (6 : Int32) :: .int (1 : Int32) :: .int x1 :: []) (As := [.int x1, .int (1 : Int32), .int (6 : Int32)]) E hEx hl.1 hP hS (kX8_in hap  M _ _ _ _ rfl) gX8_30 hsX8_in rfl ⟨Nat.le_of_ble_eq_true rfl, Nat.le_of_ble_eq_true rfl⟩ ⟨rfl, rfl⟩ dX8_plan_4 rfl (Nat.le_of_ble_eq_true rfl) (fun H locs hP hS n1 => ?_)
  refine lv_if_ne (pc := 7) (tgt := 13) hx hb dX8_plan_7 (by decide) (fun c2 => ?_) (fun c2 => ?_)
  · have h := (if_neg c2).symm.trans h
    refine lv_aload_n (pc := 13) hx hb dX8_plan_13 rfl (lv_at hl 0 rfl) ?_
    obtain ⟨y3, hy3, h⟩ := bnd_ex h
    refine x_callVi (pc := 14) (st := .ref (ad 0) :: []) (As := []) E hEx hl.1 hP hS (kX8_plays hap  M  _ hy3) gX8_105 hdX8_plays rfl (by decide) sh8 rfl ⟨Nat.le_of_ble_eq_true rfl, Nat.le_of_ble_eq_true rfl⟩ ⟨rfl, rfl⟩ dX8_plan_14 rfl (Nat.le_of_ble_eq_true rfl) (fun H locs hP hS n4 => ?_)
    refine lv_if_ne (pc := 17) (tgt := 29) hx hb dX8_plan_17 (by decide) (fun c5 => ?_) (fun c5 => ?_)
    · have h := (if_neg c5).symm.trans h
      refine lv_bipush (pc := 29) (v := (-4 : Int32)) hx hb dX8_plan_29 (by decide) ?_
      obtain ⟨rfl, rfl⟩ := som2 h
      exact x_iret E hP hS rfl dX8_plan_31
    · have h := (if_pos c5).symm.trans h
      refine lv_aload_n (pc := 20) hx hb dX8_plan_20 rfl (lv_at hl 0 rfl) ?_
      refine x_get (pc := 21) (v := .ref (ad 1)) E hP (by decide) sh8 rfl inX8 0 (by decide) q972 rfl dX8_plan_21 ?_
      refine lv_iconst (pc := 24) (v := (5 : Int32)) hx hb dX8_plan_24 (by decide) ?_
      refine x_iald (pc := 25) (j := 5) E hP (by decide) sh8a1 0 rfl (vp_inl (by decide)) rfl dX8_plan_25 ?_
      refine lv_if_ne (pc := 26) (tgt := 32) hx hb dX8_plan_26 (by decide) (fun c6 => ?_) (fun c6 => ?_)
      · have h := (if_neg c6).symm.trans h
        refine lv_iconst (pc := 32) (v := (0 : Int32)) hx hb dX8_plan_32 (by decide) ?_
        refine lv_istore_n (pc := 33) (lv' := [(2, .int (0 : Int32)), (0, .ref (ad 0)), (1, .int x1)]) hx hb dX8_plan_33 rfl hl (by decide) rfl (fun ls hl => ?_)
        exact hL34 5000 M x1 (0 : Int32) _ _ _ h hP hS (lv_sub hl [1, 2, 0] rfl)
      · have h := (if_pos c6).symm.trans h
        refine lv_bipush (pc := 29) (v := (-4 : Int32)) hx hb dX8_plan_29 (by decide) ?_
        obtain ⟨rfl, rfl⟩ := som2 h
        exact x_iret E hP hS rfl dX8_plan_31
  · have h := (if_pos c2).symm.trans h
    refine lv_bipush (pc := 10) (v := (-2 : Int32)) hx hb dX8_plan_10 (by decide) ?_
    obtain ⟨rfl, rfl⟩ := som2 h
    exact x_iret E hP hS rfl dX8_plan_12
set_option maxRecDepth 100000 in
set_option maxHeartbeats 4000000 in
theorem kX8_idle (hap : Apart 7 ad)   (M : Mem) (x1 : Int32) (v : Int32) (M' : Mem) (h : fX8_idle M x1 = some (v, M')) : RI G ad cA cZ cC yX8_idle cX8_idle 2 .int ({ frames := 5, cells := 0, slots := 0, locals := 110 } : Room) [.ref (ad 0), .int x1] M v M' := by
  refine CI.mk (own := RX8) (ls0 := [(0, .ref (ad 0)), (1, .int x1)]) (by decide +kernel) rfl hap (Nat.le_of_ble_eq_true rfl) rfl ?_
  intro p l e s m args below meth c ls E hP hl
  have hx := E.1
  have hb := E.2.1
  have hown := E.2.2.2.2.2.1
  have hts := E.2.2.2.2.2.2.1
  have hEx := ExR.ok 7 ad
  have hS : va_S (AW 7 ad) s.heap s.heap [] := va_S.rf
  unfold fX8_idle at h
  refine lv_iload_n (pc := 0) hx hb dX8_idle_0 rfl (lv_at hl 1 rfl) ?_
  refine lv_iconst (pc := 1) (v := (1 : Int32)) hx hb dX8_idle_1 (by decide) ?_
  refine lv_sipush (pc := 2) (v := (1000 : Int32)) hx hb dX8_idle_2 (by decide) ?_
  refine x_callSi (pc := 5) (st := .int (1000 : Int32) :: .int (1 : Int32) :: .int x1 :: []) (As := [.int x1, .int (1 : Int32), .int (1000 : Int32)]) E hEx hl.1 hP hS (kX8_in hap  M _ _ _ _ rfl) gX8_30 hsX8_in rfl ⟨Nat.le_of_ble_eq_true rfl, Nat.le_of_ble_eq_true rfl⟩ ⟨rfl, rfl⟩ dX8_idle_5 rfl (Nat.le_of_ble_eq_true rfl) (fun H locs hP hS n1 => ?_)
  refine lv_if_ne (pc := 8) (tgt := 14) hx hb dX8_idle_8 (by decide) (fun c2 => ?_) (fun c2 => ?_)
  · have h := (if_neg c2).symm.trans h
    refine lv_aload_n (pc := 14) hx hb dX8_idle_14 rfl (lv_at hl 0 rfl) ?_
    obtain ⟨y3, hy3, h⟩ := bnd_ex h
    refine x_callVi (pc := 15) (st := .ref (ad 0) :: []) (As := []) E hEx hl.1 hP hS (kX8_plays hap  M  _ hy3) gX8_105 hdX8_plays rfl (by decide) sh8 rfl ⟨Nat.le_of_ble_eq_true rfl, Nat.le_of_ble_eq_true rfl⟩ ⟨rfl, rfl⟩ dX8_idle_15 rfl (Nat.le_of_ble_eq_true rfl) (fun H locs hP hS n4 => ?_)
    refine lv_if_eq (pc := 18) (tgt := 24) hx hb dX8_idle_18 (by decide) (fun c5 => ?_) (fun c5 => ?_)
    · have h := (if_pos c5).symm.trans h
      refine lv_aload_n (pc := 24) hx hb dX8_idle_24 rfl (lv_at hl 0 rfl) ?_
      refine lv_iload_n (pc := 25) hx hb dX8_idle_25 rfl (lv_at hl 1 rfl) ?_
      obtain ⟨M6, hM6, h⟩ := bnd_ex h
      refine x_callVv (pc := 26) (st := .int x1 :: .ref (ad 0) :: []) (As := [.int x1]) E hEx hl.1 hP hS (kX8_pass hap  M _ _ hM6) gX8_115 hdX8_pass rfl (by decide) sh8 rfl ⟨Nat.le_of_ble_eq_true rfl, Nat.le_of_ble_eq_true rfl⟩ ⟨rfl, rfl⟩ dX8_idle_26 rfl (Nat.le_of_ble_eq_true rfl) (fun H locs hP hS => ?_)
      refine lv_aload_n (pc := 29) hx hb dX8_idle_29 rfl (lv_at hl 0 rfl) ?_
      refine x_get (pc := 30) (v := .ref (ad 1)) E hP (by decide) sh8 rfl inX8 0 (by decide) q972 rfl dX8_idle_30 ?_
      refine lv_bipush (pc := 33) (v := (9 : Int32)) hx hb dX8_idle_33 (by decide) ?_
      refine x_iald (pc := 35) (j := 9) E hP (by decide) sh8a1 0 rfl (vp_inl (by decide)) rfl dX8_idle_35 ?_
      obtain ⟨rfl, rfl⟩ := som2 h
      exact x_iret E hP hS rfl dX8_idle_36
    · have h := (if_neg c5).symm.trans h
      refine lv_bipush (pc := 21) (v := (-4 : Int32)) hx hb dX8_idle_21 (by decide) ?_
      obtain ⟨rfl, rfl⟩ := som2 h
      exact x_iret E hP hS rfl dX8_idle_23
  · have h := (if_pos c2).symm.trans h
    refine lv_bipush (pc := 11) (v := (-2 : Int32)) hx hb dX8_idle_11 (by decide) ?_
    obtain ⟨rfl, rfl⟩ := som2 h
    exact x_iret E hP hS rfl dX8_idle_13
set_option maxRecDepth 100000 in
set_option maxHeartbeats 4000000 in
theorem kX8_putHome (hap : Apart 7 ad)   (M : Mem) (x1 : Int32) (v : Int32) (M' : Mem) (h : fX8_putHome M x1 = some (v, M')) : RI G ad cA cZ cC yX8_putHome cX8_putHome 3 .int ({ frames := 5, cells := 0, slots := 0, locals := 110 } : Room) [.ref (ad 0), .int x1] M v M' := by
  refine CI.mk (own := RX8) (ls0 := [(0, .ref (ad 0)), (1, .int x1)]) (by decide +kernel) rfl hap (Nat.le_of_ble_eq_true rfl) rfl ?_
  intro p l e s m args below meth c ls E hP hl
  have hx := E.1
  have hb := E.2.1
  have hown := E.2.2.2.2.2.1
  have hts := E.2.2.2.2.2.2.1
  have hEx := ExR.ok 7 ad
  have hS : va_S (AW 7 ad) s.heap s.heap [] := va_S.rf
  unfold fX8_putHome at h
  refine lv_aload_n (pc := 0) hx hb dX8_putHome_0 rfl (lv_at hl 0 rfl) ?_
  refine lv_iload_n (pc := 1) hx hb dX8_putHome_1 rfl (lv_at hl 1 rfl) ?_
  obtain ⟨y1, hy1, h⟩ := bnd_ex h
  refine x_callVi (pc := 2) (st := .int x1 :: .ref (ad 0) :: []) (As := [.int x1]) E hEx hl.1 hP hS (kX8_noProp hap  M _ _ hy1) gX8_102 hdX8_noProp rfl (by decide) sh8 rfl ⟨Nat.le_of_ble_eq_true rfl, Nat.le_of_ble_eq_true rfl⟩ ⟨rfl, rfl⟩ dX8_putHome_2 rfl (Nat.le_of_ble_eq_true rfl) (fun H locs hP hS n2 => ?_)
  refine lv_if_eq (pc := 5) (tgt := 10) hx hb dX8_putHome_5 (by decide) (fun c3 => ?_) (fun c3 => ?_)
  · have h := (if_pos c3).symm.trans h
    refine lv_aload_n (pc := 10) hx hb dX8_putHome_10 rfl (lv_at hl 0 rfl) ?_
    obtain ⟨y4, hy4, h⟩ := bnd_ex h
    refine x_callVi (pc := 11) (st := .ref (ad 0) :: []) (As := []) E hEx hl.1 hP hS (kX8_plays hap  M  _ hy4) gX8_105 hdX8_plays rfl (by decide) sh8 rfl ⟨Nat.le_of_ble_eq_true rfl, Nat.le_of_ble_eq_true rfl⟩ ⟨rfl, rfl⟩ dX8_putHome_11 rfl (Nat.le_of_ble_eq_true rfl) (fun H locs hP hS n5 => ?_)
    refine lv_if_eq (pc := 14) (tgt := 20) hx hb dX8_putHome_14 (by decide) (fun c6 => ?_) (fun c6 => ?_)
    · have h := (if_pos c6).symm.trans h
      refine lv_aload_n (pc := 20) hx hb dX8_putHome_20 rfl (lv_at hl 0 rfl) ?_
      refine x_get (pc := 21) (v := .ref (ad 1)) E hP (by decide) sh8 rfl inX8 0 (by decide) q972 rfl dX8_putHome_21 ?_
      refine lv_bipush (pc := 24) (v := (104 : Int32)) hx hb dX8_putHome_24 (by decide) ?_
      refine lv_iload_n (pc := 26) hx hb dX8_putHome_26 rfl (lv_at hl 1 rfl) ?_
      refine lv_iadd (pc := 27) hx hb dX8_putHome_27 ?_
      obtain ⟨c7, h⟩ := ite_some h
      refine x_iald (pc := 28) (j := ((104 : Int32) + x1).toNatClampNeg) E hP (by decide) sh8a1 0 rfl (inb_in c7) rfl dX8_putHome_28 ?_
      obtain ⟨y8, hy8, h⟩ := thn_ex h
      refine W.eq (g2 := F0 m 29 ls (.int y8 :: [])) (by rw [← hy8]) ?_
      refine lv_istore_n (pc := 29) (lv' := [(2, .int y8), (0, .ref (ad 0)), (1, .int x1)]) hx hb dX8_putHome_29 rfl hl (by decide) rfl (fun ls hl => ?_)
      refine lv_iload_n (pc := 30) hx hb dX8_putHome_30 rfl (lv_at hl 0 rfl) ?_
      refine lv_aload_n (pc := 31) hx hb dX8_putHome_31 rfl (lv_at hl 1 rfl) ?_
      refine x_get (pc := 32) (v := .ref (ad 1)) E hP (by decide) sh8 rfl inX8 0 (by decide) q972 rfl dX8_putHome_32 ?_
      refine lv_bipush (pc := 35) (v := (80 : Int32)) hx hb dX8_putHome_35 (by decide) ?_
      refine lv_iload_n (pc := 37) hx hb dX8_putHome_37 rfl (lv_at hl 2 rfl) ?_
      refine lv_iadd (pc := 38) hx hb dX8_putHome_38 ?_
      obtain ⟨c9, h⟩ := ite_some h
      refine x_iald (pc := 39) (j := ((80 : Int32) + x1).toNatClampNeg) E hP (by decide) sh8a1 0 rfl (inb_in c9) rfl dX8_putHome_39 ?_
      refine lv_icmp_ne (pc := 40) (tgt := 46) hx hb dX8_putHome_40 (by decide) (fun c10 => ?_) (fun c10 => ?_)
      · have h := (if_neg c10).symm.trans h
        refine lv_aload_n (pc := 46) hx hb dX8_putHome_46 rfl (lv_at hl 1 rfl) ?_
        refine x_get (pc := 47) (v := .ref (ad 1)) E hP (by decide) sh8 rfl inX8 0 (by decide) q972 rfl dX8_putHome_47 ?_
        refine lv_bipush (pc := 50) (v := (104 : Int32)) hx hb dX8_putHome_50 (by decide) ?_
        refine lv_iload_n (pc := 52) hx hb dX8_putHome_52 rfl (lv_at hl 2 rfl) ?_
        refine lv_iadd (pc := 53) hx hb dX8_putHome_53 ?_
        refine lv_aload_n (pc := 54) hx hb dX8_putHome_54 rfl (lv_at hl 1 rfl) ?_
        refine x_get (pc := 55) (v := .ref (ad 1)) E hP (by decide) sh8 rfl inX8 0 (by decide) q972 rfl dX8_putHome_55 ?_
        refine lv_bipush (pc := 58) (v := (80 : Int32)) hx hb dX8_putHome_58 (by decide) ?_
        refine lv_iload_n (pc := 60) hx hb dX8_putHome_60 rfl (lv_at hl 2 rfl) ?_
        refine lv_iadd (pc := 61) hx hb dX8_putHome_61 ?_
        obtain ⟨c11, h⟩ := ite_some h
        refine x_iald (pc := 62) (j := ((80 : Int32) + x1).toNatClampNeg) E hP (by decide) sh8a1 0 rfl (inb_in c11) rfl dX8_putHome_62 ?_
        obtain ⟨c12, h⟩ := ite_some h
        obtain ⟨M13, hM13, h⟩ := thn_ex h
        refine x_iast (pc := 63) (j := ((104 : Int32) + x1).toNatClampNeg) E hP hS (by decide) sh8a1 0 rfl (inb_in c12) rfl dX8_putHome_63 (fun H locs hP hS => ?_)
        rw [hM13] at hP
        refine lv_aload_n (pc := 64) hx hb dX8_putHome_64 rfl (lv_at hl 1 rfl) ?_
        refine lv_iconst (pc := 65) (v := (1 : Int32)) hx hb dX8_putHome_65 (by decide) ?_
        obtain ⟨M14, hM14, h⟩ := bnd_ex h
        refine x_callVv (pc := 66) (st := .int (1 : Int32) :: .ref (ad 0) :: []) (As := [.int (1 : Int32)]) E hEx hl.1 hP hS (kX8_pass hap  M13 _ _ hM14) gX8_115 hdX8_pass rfl (by decide) sh8 rfl ⟨Nat.le_of_ble_eq_true rfl, Nat.le_of_ble_eq_true rfl⟩ ⟨rfl, rfl⟩ dX8_putHome_66 rfl (Nat.le_of_ble_eq_true rfl) (fun H locs hP hS => ?_)
        refine lv_iload_n (pc := 69) hx hb dX8_putHome_69 rfl (lv_at hl 0 rfl) ?_
        obtain ⟨rfl, rfl⟩ := som2 h
        exact x_iret E hP hS rfl dX8_putHome_70
      · have h := (if_pos c10).symm.trans h
        refine lv_bipush (pc := 43) (v := (-5 : Int32)) hx hb dX8_putHome_43 (by decide) ?_
        obtain ⟨rfl, rfl⟩ := som2 h
        exact x_iret E hP hS rfl dX8_putHome_45
    · have h := (if_neg c6).symm.trans h
      refine lv_bipush (pc := 17) (v := (-4 : Int32)) hx hb dX8_putHome_17 (by decide) ?_
      obtain ⟨rfl, rfl⟩ := som2 h
      exact x_iret E hP hS rfl dX8_putHome_19
  · have h := (if_neg c3).symm.trans h
    refine lv_iconst (pc := 8) (v := (-1 : Int32)) hx hb dX8_putHome_8 (by decide) ?_
    obtain ⟨rfl, rfl⟩ := som2 h
    exact x_iret E hP hS rfl dX8_putHome_9
set_option maxRecDepth 100000 in
set_option maxHeartbeats 4000000 in
theorem kX8_close (hap : Apart 7 ad)   (M : Mem) (x1 : Int32) (v : Int32) (M' : Mem) (h : fX8_close M x1 = some (v, M')) : RI G ad cA cZ cC yX8_close cX8_close 2 .int ({ frames := 5, cells := 0, slots := 0, locals := 110 } : Room) [.ref (ad 0), .int x1] M v M' := by
  refine CI.mk (own := RX8) (ls0 := [(0, .ref (ad 0)), (1, .int x1)]) (by decide +kernel) rfl hap (Nat.le_of_ble_eq_true rfl) rfl ?_
  intro p l e s m args below meth c ls E hP hl
  have hx := E.1
  have hb := E.2.1
  have hown := E.2.2.2.2.2.1
  have hts := E.2.2.2.2.2.2.1
  have hEx := ExR.ok 7 ad
  have hS : va_S (AW 7 ad) s.heap s.heap [] := va_S.rf
  unfold fX8_close at h
  refine lv_aload_n (pc := 0) hx hb dX8_close_0 rfl (lv_at hl 0 rfl) ?_
  refine lv_iload_n (pc := 1) hx hb dX8_close_1 rfl (lv_at hl 1 rfl) ?_
  obtain ⟨y1, hy1, h⟩ := bnd_ex h
  refine x_callVi (pc := 2) (st := .int x1 :: .ref (ad 0) :: []) (As := [.int x1]) E hEx hl.1 hP hS (kX8_noBox hap  M _ _ hy1) gX8_99 hdX8_noBox rfl (by decide) sh8 rfl ⟨Nat.le_of_ble_eq_true rfl, Nat.le_of_ble_eq_true rfl⟩ ⟨rfl, rfl⟩ dX8_close_2 rfl (Nat.le_of_ble_eq_true rfl) (fun H locs hP hS n2 => ?_)
  refine lv_if_eq (pc := 5) (tgt := 10) hx hb dX8_close_5 (by decide) (fun c3 => ?_) (fun c3 => ?_)
  · have h := (if_pos c3).symm.trans h
    refine lv_iload_n (pc := 10) hx hb dX8_close_10 rfl (lv_at hl 1 rfl) ?_
    refine lv_if_ne (pc := 11) (tgt := 17) hx hb dX8_close_11 (by decide) (fun c4 => ?_) (fun c4 => ?_)
    · have h := (if_neg c4).symm.trans h
      refine lv_aload_n (pc := 17) hx hb dX8_close_17 rfl (lv_at hl 0 rfl) ?_
      obtain ⟨y5, hy5, h⟩ := bnd_ex h
      refine x_callVi (pc := 18) (st := .ref (ad 0) :: []) (As := []) E hEx hl.1 hP hS (kX8_plays hap  M  _ hy5) gX8_105 hdX8_plays rfl (by decide) sh8 rfl ⟨Nat.le_of_ble_eq_true rfl, Nat.le_of_ble_eq_true rfl⟩ ⟨rfl, rfl⟩ dX8_close_18 rfl (Nat.le_of_ble_eq_true rfl) (fun H locs hP hS n6 => ?_)
      refine lv_if_eq (pc := 21) (tgt := 27) hx hb dX8_close_21 (by decide) (fun c7 => ?_) (fun c7 => ?_)
      · have h := (if_pos c7).symm.trans h
        refine lv_aload_n (pc := 27) hx hb dX8_close_27 rfl (lv_at hl 0 rfl) ?_
        refine lv_iload_n (pc := 28) hx hb dX8_close_28 rfl (lv_at hl 1 rfl) ?_
        obtain ⟨y8, hy8, h⟩ := bnd_ex h
        refine x_callVi (pc := 29) (st := .int x1 :: .ref (ad 0) :: []) (As := [.int x1]) E hEx hl.1 hP hS (kX8_isOpen hap  M _ _ hy8) gX8_34 hdX8_isOpen rfl (by decide) sh8 rfl ⟨Nat.le_of_ble_eq_true rfl, Nat.le_of_ble_eq_true rfl⟩ ⟨rfl, rfl⟩ dX8_close_29 rfl (Nat.le_of_ble_eq_true rfl) (fun H locs hP hS n9 => ?_)
        refine lv_if_ne (pc := 32) (tgt := 38) hx hb dX8_close_32 (by decide) (fun c10 => ?_) (fun c10 => ?_)
        · have h := (if_neg c10).symm.trans h
          refine lv_aload_n (pc := 38) hx hb dX8_close_38 rfl (lv_at hl 0 rfl) ?_
          refine x_get (pc := 39) (v := .ref (ad 1)) E hP (by decide) sh8 rfl inX8 0 (by decide) q972 rfl dX8_close_39 ?_
          refine lv_bipush (pc := 42) (v := (56 : Int32)) hx hb dX8_close_42 (by decide) ?_
          refine lv_iload_n (pc := 44) hx hb dX8_close_44 rfl (lv_at hl 1 rfl) ?_
          refine lv_iadd (pc := 45) hx hb dX8_close_45 ?_
          refine lv_iconst (pc := 46) (v := (0 : Int32)) hx hb dX8_close_46 (by decide) ?_
          obtain ⟨c11, h⟩ := ite_some h
          obtain ⟨M12, hM12, h⟩ := thn_ex h
          refine x_iast (pc := 47) (j := ((56 : Int32) + x1).toNatClampNeg) E hP hS (by decide) sh8a1 0 rfl (inb_in c11) rfl dX8_close_47 (fun H locs hP hS => ?_)
          rw [hM12] at hP
          refine lv_aload_n (pc := 48) hx hb dX8_close_48 rfl (lv_at hl 0 rfl) ?_
          refine lv_iconst (pc := 49) (v := (1 : Int32)) hx hb dX8_close_49 (by decide) ?_
          obtain ⟨M13, hM13, h⟩ := bnd_ex h
          refine x_callVv (pc := 50) (st := .int (1 : Int32) :: .ref (ad 0) :: []) (As := [.int (1 : Int32)]) E hEx hl.1 hP hS (kX8_pass hap  M12 _ _ hM13) gX8_115 hdX8_pass rfl (by decide) sh8 rfl ⟨Nat.le_of_ble_eq_true rfl, Nat.le_of_ble_eq_true rfl⟩ ⟨rfl, rfl⟩ dX8_close_50 rfl (Nat.le_of_ble_eq_true rfl) (fun H locs hP hS => ?_)
          refine lv_aload_n (pc := 53) hx hb dX8_close_53 rfl (lv_at hl 0 rfl) ?_
          obtain ⟨y14, hy14, h⟩ := bnd_ex h
          refine x_callVi (pc := 54) (st := .ref (ad 0) :: []) (As := []) E hEx hl.1 hP hS (kX8_openOnes hap  M13  _ hy14) gX8_121 hdX8_openOnes rfl (by decide) sh8 rfl ⟨Nat.le_of_ble_eq_true rfl, Nat.le_of_ble_eq_true rfl⟩ ⟨rfl, rfl⟩ dX8_close_54 rfl (Nat.le_of_ble_eq_true rfl) (fun H locs hP hS n15 => ?_)
          obtain ⟨rfl, rfl⟩ := som2 h
          exact x_iret E hP hS rfl dX8_close_57
        · have h := (if_pos c10).symm.trans h
          refine lv_bipush (pc := 35) (v := (-5 : Int32)) hx hb dX8_close_35 (by decide) ?_
          obtain ⟨rfl, rfl⟩ := som2 h
          exact x_iret E hP hS rfl dX8_close_37
      · have h := (if_neg c7).symm.trans h
        refine lv_bipush (pc := 24) (v := (-4 : Int32)) hx hb dX8_close_24 (by decide) ?_
        obtain ⟨rfl, rfl⟩ := som2 h
        exact x_iret E hP hS rfl dX8_close_26
    · have h := (if_pos c4).symm.trans h
      refine lv_bipush (pc := 14) (v := (-2 : Int32)) hx hb dX8_close_14 (by decide) ?_
      obtain ⟨rfl, rfl⟩ := som2 h
      exact x_iret E hP hS rfl dX8_close_16
  · have h := (if_neg c3).symm.trans h
    refine lv_iconst (pc := 8) (v := (-1 : Int32)) hx hb dX8_close_8 (by decide) ?_
    obtain ⟨rfl, rfl⟩ := som2 h
    exact x_iret E hP hS rfl dX8_close_9
set_option maxRecDepth 100000 in
set_option maxHeartbeats 4000000 in
theorem kX8_writeOver (hap : Apart 7 ad)   (M : Mem) (x1 : Int32) (v : Int32) (M' : Mem) (h : fX8_writeOver M x1 = some (v, M')) : RI G ad cA cZ cC yX8_writeOver cX8_writeOver 3 .int ({ frames := 5, cells := 0, slots := 0, locals := 110 } : Room) [.ref (ad 0), .int x1] M v M' := by
  refine CI.mk (own := RX8) (ls0 := [(0, .ref (ad 0)), (1, .int x1)]) (by decide +kernel) rfl hap (Nat.le_of_ble_eq_true rfl) rfl ?_
  intro p l e s m args below meth c ls E hP hl
  have hx := E.1
  have hb := E.2.1
  have hown := E.2.2.2.2.2.1
  have hts := E.2.2.2.2.2.2.1
  have hEx := ExR.ok 7 ad
  have hS : va_S (AW 7 ad) s.heap s.heap [] := va_S.rf
  unfold fX8_writeOver at h
  refine lv_aload_n (pc := 0) hx hb dX8_writeOver_0 rfl (lv_at hl 0 rfl) ?_
  refine lv_iload_n (pc := 1) hx hb dX8_writeOver_1 rfl (lv_at hl 1 rfl) ?_
  obtain ⟨y1, hy1, h⟩ := bnd_ex h
  refine x_callVi (pc := 2) (st := .int x1 :: .ref (ad 0) :: []) (As := [.int x1]) E hEx hl.1 hP hS (kX8_noClue hap  M _ _ hy1) gX8_149 hdX8_noClue rfl (by decide) sh8 rfl ⟨Nat.le_of_ble_eq_true rfl, Nat.le_of_ble_eq_true rfl⟩ ⟨rfl, rfl⟩ dX8_writeOver_2 rfl (Nat.le_of_ble_eq_true rfl) (fun H locs hP hS n2 => ?_)
  refine lv_if_eq (pc := 5) (tgt := 10) hx hb dX8_writeOver_5 (by decide) (fun c3 => ?_) (fun c3 => ?_)
  · have h := (if_pos c3).symm.trans h
    refine lv_bipush (pc := 10) (v := (9 : Int32)) hx hb dX8_writeOver_10 (by decide) ?_
    refine lv_aload_n (pc := 12) hx hb dX8_writeOver_12 rfl (lv_at hl 0 rfl) ?_
    refine x_get (pc := 13) (v := .ref (ad 1)) E hP (by decide) sh8 rfl inX8 0 (by decide) q972 rfl dX8_writeOver_13 ?_
    refine lv_sipush (pc := 16) (v := (164 : Int32)) hx hb dX8_writeOver_16 (by decide) ?_
    refine lv_iload_n (pc := 19) hx hb dX8_writeOver_19 rfl (lv_at hl 1 rfl) ?_
    refine lv_iadd (pc := 20) hx hb dX8_writeOver_20 ?_
    obtain ⟨c4, h⟩ := ite_some h
    refine x_iald (pc := 21) (j := ((164 : Int32) + x1).toNatClampNeg) E hP (by decide) sh8a1 0 rfl (inb_in c4) rfl dX8_writeOver_21 ?_
    refine lv_isub (pc := 22) hx hb dX8_writeOver_22 ?_
    obtain ⟨y5, hy5, h⟩ := thn_ex h
    refine W.eq (g2 := F0 m 23 ls (.int y5 :: [])) (by rw [← hy5]) ?_
    refine lv_istore_n (pc := 23) (lv' := [(2, .int y5), (0, .ref (ad 0)), (1, .int x1)]) hx hb dX8_writeOver_23 rfl hl (by decide) rfl (fun ls hl => ?_)
    refine lv_aload_n (pc := 24) hx hb dX8_writeOver_24 rfl (lv_at hl 1 rfl) ?_
    obtain ⟨y6, hy6, h⟩ := bnd_ex h
    refine x_callVi (pc := 25) (st := .ref (ad 0) :: []) (As := []) E hEx hl.1 hP hS (kX8_plays hap  M  _ hy6) gX8_105 hdX8_plays rfl (by decide) sh8 rfl ⟨Nat.le_of_ble_eq_true rfl, Nat.le_of_ble_eq_true rfl⟩ ⟨rfl, rfl⟩ dX8_writeOver_25 rfl (Nat.le_of_ble_eq_true rfl) (fun H locs hP hS n7 => ?_)
    refine lv_if_ne (pc := 28) (tgt := 42) hx hb dX8_writeOver_28 (by decide) (fun c8 => ?_) (fun c8 => ?_)
    · have h := (if_neg c8).symm.trans h
      refine lv_bipush (pc := 42) (v := (-4 : Int32)) hx hb dX8_writeOver_42 (by decide) ?_
      obtain ⟨rfl, rfl⟩ := som2 h
      exact x_iret E hP hS rfl dX8_writeOver_44
    · have h := (if_pos c8).symm.trans h
      refine lv_iload_n (pc := 31) hx hb dX8_writeOver_31 rfl (lv_at hl 0 rfl) ?_
      refine lv_aload_n (pc := 32) hx hb dX8_writeOver_32 rfl (lv_at hl 1 rfl) ?_
      refine x_get (pc := 33) (v := .ref (ad 1)) E hP (by decide) sh8 rfl inX8 0 (by decide) q972 rfl dX8_writeOver_33 ?_
      refine lv_bipush (pc := 36) (v := (8 : Int32)) hx hb dX8_writeOver_36 (by decide) ?_
      refine x_iald (pc := 38) (j := 8) E hP (by decide) sh8a1 0 rfl (vp_inl (by decide)) rfl dX8_writeOver_38 ?_
      refine lv_icmp_le (pc := 39) (tgt := 45) hx hb dX8_writeOver_39 (by decide) (fun c9 => ?_) (fun c9 => ?_)
      · have h := (if_pos c9).symm.trans h
        refine lv_iload_n (pc := 45) hx hb dX8_writeOver_45 rfl (lv_at hl 0 rfl) ?_
        refine lv_if_ne (pc := 46) (tgt := 52) hx hb dX8_writeOver_46 (by decide) (fun c10 => ?_) (fun c10 => ?_)
        · have h := (if_neg c10).symm.trans h
          refine lv_aload_n (pc := 52) hx hb dX8_writeOver_52 rfl (lv_at hl 1 rfl) ?_
          refine x_get (pc := 53) (v := .ref (ad 1)) E hP (by decide) sh8 rfl inX8 0 (by decide) q972 rfl dX8_writeOver_53 ?_
          refine lv_sipush (pc := 56) (v := (164 : Int32)) hx hb dX8_writeOver_56 (by decide) ?_
          refine lv_iload_n (pc := 59) hx hb dX8_writeOver_59 rfl (lv_at hl 2 rfl) ?_
          refine lv_iadd (pc := 60) hx hb dX8_writeOver_60 ?_
          refine lv_bipush (pc := 61) (v := (9 : Int32)) hx hb dX8_writeOver_61 (by decide) ?_
          obtain ⟨c11, h⟩ := ite_some h
          obtain ⟨M12, hM12, h⟩ := thn_ex h
          refine x_iast (pc := 63) (j := ((164 : Int32) + x1).toNatClampNeg) E hP hS (by decide) sh8a1 0 rfl (inb_in c11) rfl dX8_writeOver_63 (fun H locs hP hS => ?_)
          rw [hM12] at hP
          refine lv_aload_n (pc := 64) hx hb dX8_writeOver_64 rfl (lv_at hl 1 rfl) ?_
          refine x_get (pc := 65) (v := .ref (ad 1)) E hP (by decide) sh8 rfl inX8 0 (by decide) q972 rfl dX8_writeOver_65 ?_
          refine lv_bipush (pc := 68) (v := (8 : Int32)) hx hb dX8_writeOver_68 (by decide) ?_
          refine lv_dup2_11 (pc := 70) hx hb dX8_writeOver_70 rfl rfl ?_
          refine x_iald (pc := 71) (j := 8) E hP (by decide) sh8a1 0 rfl (vp_inl (by decide)) rfl dX8_writeOver_71 ?_
          refine lv_iload_n (pc := 72) hx hb dX8_writeOver_72 rfl (lv_at hl 0 rfl) ?_
          refine lv_isub (pc := 73) hx hb dX8_writeOver_73 ?_
          obtain ⟨M13, hM13, h⟩ := thn_ex h
          refine x_iast (pc := 74) (j := 8) E hP hS (by decide) sh8a1 0 rfl (vp_inl (by decide)) rfl dX8_writeOver_74 (fun H locs hP hS => ?_)
          rw [hM13] at hP
          refine lv_aload_n (pc := 75) hx hb dX8_writeOver_75 rfl (lv_at hl 1 rfl) ?_
          refine lv_iconst (pc := 76) (v := (1 : Int32)) hx hb dX8_writeOver_76 (by decide) ?_
          obtain ⟨M14, hM14, h⟩ := bnd_ex h
          refine x_callVv (pc := 77) (st := .int (1 : Int32) :: .ref (ad 0) :: []) (As := [.int (1 : Int32)]) E hEx hl.1 hP hS (kX8_pass hap  M13 _ _ hM14) gX8_115 hdX8_pass rfl (by decide) sh8 rfl ⟨Nat.le_of_ble_eq_true rfl, Nat.le_of_ble_eq_true rfl⟩ ⟨rfl, rfl⟩ dX8_writeOver_77 rfl (Nat.le_of_ble_eq_true rfl) (fun H locs hP hS => ?_)
          refine lv_iload_n (pc := 80) hx hb dX8_writeOver_80 rfl (lv_at hl 0 rfl) ?_
          obtain ⟨rfl, rfl⟩ := som2 h
          exact x_iret E hP hS rfl dX8_writeOver_81
        · have h := (if_pos c10).symm.trans h
          refine lv_bipush (pc := 49) (v := (-5 : Int32)) hx hb dX8_writeOver_49 (by decide) ?_
          obtain ⟨rfl, rfl⟩ := som2 h
          exact x_iret E hP hS rfl dX8_writeOver_51
      · have h := (if_neg c9).symm.trans h
        refine lv_bipush (pc := 42) (v := (-4 : Int32)) hx hb dX8_writeOver_42 (by decide) ?_
        obtain ⟨rfl, rfl⟩ := som2 h
        exact x_iret E hP hS rfl dX8_writeOver_44
  · have h := (if_neg c3).symm.trans h
    refine lv_iconst (pc := 8) (v := (-1 : Int32)) hx hb dX8_writeOver_8 (by decide) ?_
    obtain ⟨rfl, rfl⟩ := som2 h
    exact x_iret E hP hS rfl dX8_writeOver_9
set_option maxRecDepth 100000 in
set_option maxHeartbeats 4000000 in
theorem kX8_written (hap : Apart 7 ad)   (M : Mem) (x1 x2 : Int32) (v : Int32) (M' : Mem) (h : fX8_written M x1 x2 = some (v, M')) : RI G ad cA cZ cC yX8_written cX8_written 7 .int ({ frames := 0, cells := 0, slots := 0, locals := 0 } : Room) [.ref (ad 0), .int x1, .int x2] M v M' := by
  refine CI.mk (own := RX8) (ls0 := [(0, .ref (ad 0)), (1, .int x1), (2, .int x2)]) (by decide +kernel) rfl hap (Nat.le_of_ble_eq_true rfl) rfl ?_
  intro p l e s m args below meth c ls E hP hl
  have hx := E.1
  have hb := E.2.1
  have hown := E.2.2.2.2.2.1
  have hts := E.2.2.2.2.2.2.1
  have hEx := ExR.ok 7 ad
  have hS : va_S (AW 7 ad) s.heap s.heap [] := va_S.rf
  have hB123 : ∀ (M : Mem) (x1 x3 x4 : Int32) (H : Heap) (locs : List Loc) (ls : Array Slot), fX8_written_B123 M x1 x3 x4 = some (v, M') → va_P G vwCl (WW 7 (shR cA cZ cC ad) ad M) H → va_S (AW 7 ad) s.heap H locs → lv_has ls 7 [(1, .int x1), (3, .int x3), (4, .int x4)] → W p l e ({ frames := 0, cells := 0, slots := 0, locals := 0 } : Room) s m args below meth c H locs 0 0 (QI below G 7 (shR cA cZ cC ad) ad .int args s v M') (F0 m 123 ls []) := by
    intro M x1 x3 x4 H locs ls h hP hS hl
    unfold fX8_written_B123 at h
    refine lv_iload_n (pc := 123) hx hb dX8_written_123 rfl (lv_at hl 0 rfl) ?_
    refine lv_if_eq (pc := 124) (tgt := 132) hx hb dX8_written_124 (by decide) (fun c4 => ?_) (fun c4 => ?_)
    · have h := (if_pos c4).symm.trans h
      refine lv_iload_n (pc := 132) hx hb dX8_written_132 rfl (lv_at hl 1 rfl) ?_
      obtain ⟨rfl, rfl⟩ := som2 h
      exact x_iret E hP hS rfl dX8_written_133
    · have h := (if_neg c4).symm.trans h
      refine lv_iload (pc := 127) hx hb dX8_written_127 (lv_at hl 2 rfl) ?_
      refine lv_goto (pc := 129) (tgt := 133) hx hb dX8_written_129 (by decide) ?_
      obtain ⟨rfl, rfl⟩ := som2 h
      exact x_iret E hP hS rfl dX8_written_133
  have hL8 : ∀ (n : Nat) (M : Mem) (x1 x2 x3 x4 x5 : Int32) (H : Heap) (locs : List Loc) (ls : Array Slot), fX8_written_L8 n M x1 x2 x3 x4 x5 = some (v, M') → va_P G vwCl (WW 7 (shR cA cZ cC ad) ad M) H → va_S (AW 7 ad) s.heap H locs → lv_has ls 7 [(0, .ref (ad 0)), (1, .int x1), (2, .int x2), (3, .int x3), (4, .int x4), (5, .int x5)] → W p l e ({ frames := 0, cells := 0, slots := 0, locals := 0 } : Room) s m args below meth c H locs 0 0 (QI below G 7 (shR cA cZ cC ad) ad .int args s v M') (F0 m 8 ls []) := by
    intro n
    induction n with
    | zero => intro M x1 x2 x3 x4 x5 H locs ls h; cases h
    | succ n ih =>
      intro M x1 x2 x3 x4 x5 H locs ls h hP hS hl
      rw [fX8_written_L8] at h
      refine lv_iload (pc := 8) hx hb dX8_written_8 (lv_at hl 5 rfl) ?_
      refine lv_aload_n (pc := 10) hx hb dX8_written_10 rfl (lv_at hl 0 rfl) ?_
      refine x_get (pc := 11) (v := .ref (ad 1)) E hP (by decide) sh8 rfl inX8 0 (by decide) q972 rfl dX8_written_11 ?_
      refine lv_iconst (pc := 14) (v := (2 : Int32)) hx hb dX8_written_14 (by decide) ?_
      refine x_iald (pc := 15) (j := 2) E hP (by decide) sh8a1 0 rfl (vp_inl (by decide)) rfl dX8_written_15 ?_
      refine lv_icmp_ge (pc := 16) (tgt := 103) hx hb dX8_written_16 (by decide) (fun c1 => ?_) (fun c1 => ?_)
      · have h := (if_pos c1).symm.trans h
        refine lv_aload_n (pc := 103) hx hb dX8_written_103 rfl (lv_at hl 0 rfl) ?_
        refine x_get (pc := 104) (v := .ref (ad 1)) E hP (by decide) sh8 rfl inX8 0 (by decide) q972 rfl dX8_written_104 ?_
        refine lv_bipush (pc := 107) (v := (8 : Int32)) hx hb dX8_written_107 (by decide) ?_
        refine lv_dup2_11 (pc := 109) hx hb dX8_written_109 rfl rfl ?_
        refine x_iald (pc := 110) (j := 8) E hP (by decide) sh8a1 0 rfl (vp_inl (by decide)) rfl dX8_written_110 ?_
        refine lv_iload_n (pc := 111) hx hb dX8_written_111 rfl (lv_at hl 2 rfl) ?_
        refine lv_if_eq (pc := 112) (tgt := 120) hx hb dX8_written_112 (by decide) (fun c2 => ?_) (fun c2 => ?_)
        · have h := (if_pos c2).symm.trans h
          refine lv_iconst (pc := 120) (v := (0 : Int32)) hx hb dX8_written_120 (by decide) ?_
          refine lv_isub (pc := 121) hx hb dX8_written_121 ?_
          obtain ⟨M3, hM3, h⟩ := thn_ex h
          refine x_iast (pc := 122) (j := 8) E hP hS (by decide) sh8a1 0 rfl (vp_inl (by decide)) rfl dX8_written_122 (fun H locs hP hS => ?_)
          rw [hM3] at hP
          exact hB123 M3 x1 x3 x4 _ _ _ h hP hS (lv_sub hl [1, 3, 4] rfl)
        · have h := (if_neg c2).symm.trans h
          refine lv_iload (pc := 115) hx hb dX8_written_115 (lv_at hl 4 rfl) ?_
          refine lv_goto (pc := 117) (tgt := 121) hx hb dX8_written_117 (by decide) ?_
          refine lv_isub (pc := 121) hx hb dX8_written_121 ?_
          obtain ⟨M5, hM5, h⟩ := thn_ex h
          refine x_iast (pc := 122) (j := 8) E hP hS (by decide) sh8a1 0 rfl (vp_inl (by decide)) rfl dX8_written_122 (fun H locs hP hS => ?_)
          rw [hM5] at hP
          exact hB123 M5 x1 x3 x4 _ _ _ h hP hS (lv_sub hl [1, 3, 4] rfl)
      · have h := (if_neg c1).symm.trans h
        refine lv_bipush (pc := 19) (v := (9 : Int32)) hx hb dX8_written_19 (by decide) ?_
        refine lv_aload_n (pc := 21) hx hb dX8_written_21 rfl (lv_at hl 0 rfl) ?_
        refine x_get (pc := 22) (v := .ref (ad 1)) E hP (by decide) sh8 rfl inX8 0 (by decide) q972 rfl dX8_written_22 ?_
        refine lv_sipush (pc := 25) (v := (164 : Int32)) hx hb dX8_written_25 (by decide) ?_
        refine lv_iload (pc := 28) hx hb dX8_written_28 (lv_at hl 5 rfl) ?_
        refine lv_iadd (pc := 30) hx hb dX8_written_30 ?_
        obtain ⟨c6, h⟩ := ite_some h
        refine x_iald (pc := 31) (j := ((164 : Int32) + x5).toNatClampNeg) E hP (by decide) sh8a1 0 rfl (inb_in c6) rfl dX8_written_31 ?_
        refine lv_isub (pc := 32) hx hb dX8_written_32 ?_
        obtain ⟨y7, hy7, h⟩ := thn_ex h
        refine W.eq (g2 := F0 m 33 ls (.int y7 :: [])) (by rw [← hy7]) ?_
        refine lv_istore (pc := 33) (lv' := [(6, .int y7), (0, .ref (ad 0)), (1, .int x1), (2, .int x2), (3, .int x3), (4, .int x4), (5, .int x5)]) hx hb dX8_written_33 hl (by decide) rfl (fun ls hl => ?_)
        refine lv_iload (pc := 35) hx hb dX8_written_35 (lv_at hl 0 rfl) ?_
        refine lv_iconst (pc := 37) (v := (5 : Int32)) hx hb dX8_written_37 (by decide) ?_
        refine lv_icmp_le (pc := 38) (tgt := 97) hx hb dX8_written_38 (by decide) (fun c8 => ?_) (fun c8 => ?_)
        · have h := (if_pos c8).symm.trans h
          refine lv_iinc (pc := 97) (v := (x5 + 1)) (lv' := [(5, .int (x5 + 1)), (6, .int y7), (0, .ref (ad 0)), (1, .int x1), (2, .int x2), (3, .int x3), (4, .int x4)]) hx hb dX8_written_97 hl (k := 6) rfl rfl (by decide) rfl (fun ls hl => ?_)
          refine lv_goto (pc := 100) (tgt := 8) hx hb dX8_written_100 (by decide) ?_
          exact ih M x1 x2 x3 x4 (x5 + 1) _ _ _ h hP hS (lv_sub hl [2, 3, 4, 5, 6, 0] rfl)
        · have h := (if_neg c8).symm.trans h
          refine lv_iload (pc := 41) hx hb dX8_written_41 (lv_at hl 0 rfl) ?_
          refine lv_aload_n (pc := 43) hx hb dX8_written_43 rfl (lv_at hl 1 rfl) ?_
          refine x_get (pc := 44) (v := .ref (ad 1)) E hP (by decide) sh8 rfl inX8 0 (by decide) q972 rfl dX8_written_44 ?_
          refine lv_bipush (pc := 47) (v := (8 : Int32)) hx hb dX8_written_47 (by decide) ?_
          refine x_iald (pc := 49) (j := 8) E hP (by decide) sh8a1 0 rfl (vp_inl (by decide)) rfl dX8_written_49 ?_
          refine lv_iload (pc := 50) hx hb dX8_written_50 (lv_at hl 5 rfl) ?_
          refine lv_isub (pc := 52) hx hb dX8_written_52 ?_
          refine lv_icmp_gt (pc := 53) (tgt := 97) hx hb dX8_written_53 (by decide) (fun c9 => ?_) (fun c9 => ?_)
          · have h := (if_pos c9).symm.trans h
            refine lv_iinc (pc := 97) (v := (x5 + 1)) (lv' := [(5, .int (x5 + 1)), (6, .int y7), (0, .ref (ad 0)), (1, .int x1), (2, .int x2), (3, .int x3), (4, .int x4)]) hx hb dX8_written_97 hl (k := 6) rfl rfl (by decide) rfl (fun ls hl => ?_)
            refine lv_goto (pc := 100) (tgt := 8) hx hb dX8_written_100 (by decide) ?_
            exact ih M x1 x2 x3 x4 (x5 + 1) _ _ _ h hP hS (lv_sub hl [2, 3, 4, 5, 6, 0] rfl)
          · have h := (if_neg c9).symm.trans h
            refine lv_iinc (pc := 56) (v := (x3 + 1)) (lv' := [(3, .int (x3 + 1)), (6, .int y7), (0, .ref (ad 0)), (1, .int x1), (2, .int x2), (4, .int x4), (5, .int x5)]) hx hb dX8_written_56 hl (k := 4) rfl rfl (by decide) rfl (fun ls hl => ?_)
            refine lv_iload (pc := 59) hx hb dX8_written_59 (lv_at hl 5 rfl) ?_
            refine lv_iload (pc := 61) hx hb dX8_written_61 (lv_at hl 1 rfl) ?_
            refine lv_iadd (pc := 63) hx hb dX8_written_63 ?_
            refine lv_istore (pc := 64) (lv' := [(4, .int (x4 + y7)), (3, .int (x3 + 1)), (6, .int y7), (0, .ref (ad 0)), (1, .int x1), (2, .int x2), (5, .int x5)]) hx hb dX8_written_64 hl (by decide) rfl (fun ls hl => ?_)
            refine lv_aload_n (pc := 66) hx hb dX8_written_66 rfl (lv_at hl 3 rfl) ?_
            refine x_get (pc := 67) (v := .ref (ad 1)) E hP (by decide) sh8 rfl inX8 0 (by decide) q972 rfl dX8_written_67 ?_
            refine lv_sipush (pc := 70) (v := (164 : Int32)) hx hb dX8_written_70 (by decide) ?_
            refine lv_iload (pc := 73) hx hb dX8_written_73 (lv_at hl 6 rfl) ?_
            refine lv_iadd (pc := 75) hx hb dX8_written_75 ?_
            refine lv_iload_n (pc := 76) hx hb dX8_written_76 rfl (lv_at hl 5 rfl) ?_
            refine lv_if_eq (pc := 77) (tgt := 85) hx hb dX8_written_77 (by decide) (fun c10 => ?_) (fun c10 => ?_)
            · have h := (if_pos c10).symm.trans h
              refine lv_aload_n (pc := 85) hx hb dX8_written_85 rfl (lv_at hl 3 rfl) ?_
              refine x_get (pc := 86) (v := .ref (ad 1)) E hP (by decide) sh8 rfl inX8 0 (by decide) q972 rfl dX8_written_86 ?_
              refine lv_sipush (pc := 89) (v := (164 : Int32)) hx hb dX8_written_89 (by decide) ?_
              refine lv_iload (pc := 92) hx hb dX8_written_92 (lv_at hl 6 rfl) ?_
              refine lv_iadd (pc := 94) hx hb dX8_written_94 ?_
              obtain ⟨c11, h⟩ := ite_some h
              refine x_iald (pc := 95) (j := ((164 : Int32) + x5).toNatClampNeg) E hP (by decide) sh8a1 0 rfl (inb_in c11) rfl dX8_written_95 ?_
              obtain ⟨c12, h⟩ := ite_some h
              obtain ⟨M13, hM13, h⟩ := thn_ex h
              refine x_iast (pc := 96) (j := ((164 : Int32) + x5).toNatClampNeg) E hP hS (by decide) sh8a1 0 rfl (inb_in c12) rfl dX8_written_96 (fun H locs hP hS => ?_)
              rw [hM13] at hP
              refine lv_iinc (pc := 97) (v := (x5 + 1)) (lv' := [(5, .int (x5 + 1)), (4, .int (x4 + y7)), (3, .int (x3 + 1)), (6, .int y7), (0, .ref (ad 0)), (1, .int x1), (2, .int x2)]) hx hb dX8_written_97 hl (k := 6) rfl rfl (by decide) rfl (fun ls hl => ?_)
              refine lv_goto (pc := 100) (tgt := 8) hx hb dX8_written_100 (by decide) ?_
              exact ih M13 x1 x2 (x3 + 1) (x4 + y7) (x5 + 1) _ _ _ h hP hS (lv_sub hl [4, 5, 6, 2, 1, 0] rfl)
            · have h := (if_neg c10).symm.trans h
              refine lv_bipush (pc := 80) (v := (9 : Int32)) hx hb dX8_written_80 (by decide) ?_
              refine lv_goto (pc := 82) (tgt := 96) hx hb dX8_written_82 (by decide) ?_
              obtain ⟨c14, h⟩ := ite_some h
              obtain ⟨M15, hM15, h⟩ := thn_ex h
              refine x_iast (pc := 96) (j := ((164 : Int32) + x5).toNatClampNeg) E hP hS (by decide) sh8a1 0 rfl (inb_in c14) rfl dX8_written_96 (fun H locs hP hS => ?_)
              rw [hM15] at hP
              refine lv_iinc (pc := 97) (v := (x5 + 1)) (lv' := [(5, .int (x5 + 1)), (4, .int (x4 + y7)), (3, .int (x3 + 1)), (6, .int y7), (0, .ref (ad 0)), (1, .int x1), (2, .int x2)]) hx hb dX8_written_97 hl (k := 6) rfl rfl (by decide) rfl (fun ls hl => ?_)
              refine lv_goto (pc := 100) (tgt := 8) hx hb dX8_written_100 (by decide) ?_
              exact ih M15 x1 x2 (x3 + 1) (x4 + y7) (x5 + 1) _ _ _ h hP hS (lv_sub hl [4, 5, 6, 2, 1, 0] rfl)
  unfold fX8_written at h
  refine lv_iconst (pc := 0) (v := (0 : Int32)) hx hb dX8_written_0 (by decide) ?_
  refine lv_istore_n (pc := 1) (lv' := [(3, .int (0 : Int32)), (0, .ref (ad 0)), (1, .int x1), (2, .int x2)]) hx hb dX8_written_1 rfl hl (by decide) rfl (fun ls hl => ?_)
  refine lv_iconst (pc := 2) (v := (0 : Int32)) hx hb dX8_written_2 (by decide) ?_
  refine lv_istore (pc := 3) (lv' := [(4, .int (0 : Int32)), (3, .int (0 : Int32)), (0, .ref (ad 0)), (1, .int x1), (2, .int x2)]) hx hb dX8_written_3 hl (by decide) rfl (fun ls hl => ?_)
  refine lv_iconst (pc := 5) (v := (0 : Int32)) hx hb dX8_written_5 (by decide) ?_
  refine lv_istore (pc := 6) (lv' := [(5, .int (0 : Int32)), (4, .int (0 : Int32)), (3, .int (0 : Int32)), (0, .ref (ad 0)), (1, .int x1), (2, .int x2)]) hx hb dX8_written_6 hl (by decide) rfl (fun ls hl => ?_)
  exact hL8 5000 M x1 x2 (0 : Int32) (0 : Int32) (0 : Int32) _ _ _ h hP hS (lv_sub hl [3, 4, 5, 2, 1, 0] rfl)
set_option maxRecDepth 100000 in
set_option maxHeartbeats 4000000 in
theorem kX8_resetMinutes (hap : Apart 7 ad)   (M : Mem)  (v : Int32) (M' : Mem) (h : fX8_resetMinutes M = some (v, M')) : RI G ad cA cZ cC yX8_resetMinutes cX8_resetMinutes 1 .int ({ frames := 1, cells := 0, slots := 0, locals := 26 } : Room) [.ref (ad 0)] M v M' := by
  refine CI.mk (own := RX8) (ls0 := [(0, .ref (ad 0))]) (by decide +kernel) rfl hap (Nat.le_of_ble_eq_true rfl) rfl ?_
  intro p l e s m args below meth c ls E hP hl
  have hx := E.1
  have hb := E.2.1
  have hown := E.2.2.2.2.2.1
  have hts := E.2.2.2.2.2.2.1
  have hEx := ExR.ok 7 ad
  have hS : va_S (AW 7 ad) s.heap s.heap [] := va_S.rf
  unfold fX8_resetMinutes at h
  refine lv_aload_n (pc := 0) hx hb dX8_resetMinutes_0 rfl (lv_at hl 0 rfl) ?_
  obtain ⟨y1, hy1, h⟩ := bnd_ex h
  refine x_callVi (pc := 1) (st := .ref (ad 0) :: []) (As := []) E hEx hl.1 hP hS (kX8_notAtHome hap  M  _ hy1) gX8_118 hdX8_notAtHome rfl (by decide) sh8 rfl ⟨Nat.le_of_ble_eq_true rfl, Nat.le_of_ble_eq_true rfl⟩ ⟨rfl, rfl⟩ dX8_resetMinutes_1 rfl (Nat.le_of_ble_eq_true rfl) (fun H locs hP hS n2 => ?_)
  refine lv_aload_n (pc := 4) hx hb dX8_resetMinutes_4 rfl (lv_at hl 0 rfl) ?_
  obtain ⟨y3, hy3, h⟩ := bnd_ex h
  refine x_callVi (pc := 5) (st := .ref (ad 0) :: .int y1 :: []) (As := []) E hEx hl.1 hP hS (kX8_openOnes hap  M  _ hy3) gX8_121 hdX8_openOnes rfl (by decide) sh8 rfl ⟨Nat.le_of_ble_eq_true rfl, Nat.le_of_ble_eq_true rfl⟩ ⟨rfl, rfl⟩ dX8_resetMinutes_5 rfl (Nat.le_of_ble_eq_true rfl) (fun H locs hP hS n4 => ?_)
  refine lv_iadd (pc := 8) hx hb dX8_resetMinutes_8 ?_
  refine lv_aload_n (pc := 9) hx hb dX8_resetMinutes_9 rfl (lv_at hl 0 rfl) ?_
  refine lv_iconst (pc := 10) (v := (0 : Int32)) hx hb dX8_resetMinutes_10 (by decide) ?_
  refine lv_iconst (pc := 11) (v := (0 : Int32)) hx hb dX8_resetMinutes_11 (by decide) ?_
  obtain ⟨q5, hq5, h⟩ := bnd_ex h
  refine x_callVi (pc := 12) (st := .int (0 : Int32) :: .int (0 : Int32) :: .ref (ad 0) :: .int (y1 + y3) :: []) (As := [.int (0 : Int32), .int (0 : Int32)]) E hEx hl.1 hP hS (kX8_written hap  M _ _ _ _ hq5) gX8_186 hdX8_written rfl (by decide) sh8 rfl ⟨Nat.le_of_ble_eq_true rfl, Nat.le_of_ble_eq_true rfl⟩ ⟨rfl, rfl⟩ dX8_resetMinutes_12 rfl (Nat.le_of_ble_eq_true rfl) (fun H locs hP hS n6 => ?_)
  refine lv_iadd (pc := 15) hx hb dX8_resetMinutes_15 ?_
  obtain ⟨rfl, rfl⟩ := som2 h
  exact x_iret E hP hS rfl dX8_resetMinutes_16
set_option maxRecDepth 100000 in
set_option maxHeartbeats 4000000 in
theorem kX8_reset (hap : Apart 7 ad)   (M : Mem)  (v : Int32) (M' : Mem) (h : fX8_reset M = some (v, M')) : RI G ad cA cZ cC yX8_reset cX8_reset 3 .int ({ frames := 5, cells := 0, slots := 0, locals := 110 } : Room) [.ref (ad 0)] M v M' := by
  refine CI.mk (own := RX8) (ls0 := [(0, .ref (ad 0))]) (by decide +kernel) rfl hap (Nat.le_of_ble_eq_true rfl) rfl ?_
  intro p l e s m args below meth c ls E hP hl
  have hx := E.1
  have hb := E.2.1
  have hown := E.2.2.2.2.2.1
  have hts := E.2.2.2.2.2.2.1
  have hEx := ExR.ok 7 ad
  have hS : va_S (AW 7 ad) s.heap s.heap [] := va_S.rf
  have hL60 : ∀ (n : Nat) (M : Mem) (x1 x2 : Int32) (H : Heap) (locs : List Loc) (ls : Array Slot), fX8_reset_L60 n M x1 x2 = some (v, M') → va_P G vwCl (WW 7 (shR cA cZ cC ad) ad M) H → va_S (AW 7 ad) s.heap H locs → lv_has ls 3 [(0, .ref (ad 0)), (1, .int x1), (2, .int x2)] → W p l e ({ frames := 5, cells := 0, slots := 0, locals := 110 } : Room) s m args below meth c H locs 0 0 (QI below G 7 (shR cA cZ cC ad) ad .int args s v M') (F0 m 60 ls []) := by
    intro n
    induction n with
    | zero => intro M x1 x2 H locs ls h; cases h
    | succ n ih =>
      intro M x1 x2 H locs ls h hP hS hl
      rw [fX8_reset_L60] at h
      refine lv_iload_n (pc := 60) hx hb dX8_reset_60 rfl (lv_at hl 2 rfl) ?_
      refine lv_aload_n (pc := 61) hx hb dX8_reset_61 rfl (lv_at hl 0 rfl) ?_
      refine x_get (pc := 62) (v := .ref (ad 1)) E hP (by decide) sh8 rfl inX8 0 (by decide) q972 rfl dX8_reset_62 ?_
      refine lv_iconst (pc := 65) (v := (0 : Int32)) hx hb dX8_reset_65 (by decide) ?_
      refine x_iald (pc := 66) (j := 0) E hP (by decide) sh8a1 0 rfl (vp_inl (by decide)) rfl dX8_reset_66 ?_
      refine lv_icmp_ge (pc := 67) (tgt := 86) hx hb dX8_reset_67 (by decide) (fun c8 => ?_) (fun c8 => ?_)
      · have h := (if_pos c8).symm.trans h
        refine lv_aload_n (pc := 86) hx hb dX8_reset_86 rfl (lv_at hl 0 rfl) ?_
        refine lv_iconst (pc := 87) (v := (0 : Int32)) hx hb dX8_reset_87 (by decide) ?_
        refine lv_iconst (pc := 88) (v := (1 : Int32)) hx hb dX8_reset_88 (by decide) ?_
        obtain ⟨q9, hq9, h⟩ := bnd_ex h
        refine x_callVi (pc := 89) (st := .int (1 : Int32) :: .int (0 : Int32) :: .ref (ad 0) :: []) (As := [.int (0 : Int32), .int (1 : Int32)]) E hEx hl.1 hP hS (kX8_written hap  M _ _ _ _ hq9) gX8_186 hdX8_written rfl (by decide) sh8 rfl ⟨Nat.le_of_ble_eq_true rfl, Nat.le_of_ble_eq_true rfl⟩ ⟨rfl, rfl⟩ dX8_reset_89 rfl (Nat.le_of_ble_eq_true rfl) (fun H locs hP hS n10 => ?_)
        refine lv_pop (pc := 92) hx hb dX8_reset_92 rfl ?_
        refine lv_aload_n (pc := 93) hx hb dX8_reset_93 rfl (lv_at hl 0 rfl) ?_
        refine lv_iload_n (pc := 94) hx hb dX8_reset_94 rfl (lv_at hl 1 rfl) ?_
        obtain ⟨M11, hM11, h⟩ := bnd_ex h
        refine x_callVv (pc := 95) (st := .int x1 :: .ref (ad 0) :: []) (As := [.int x1]) E hEx hl.1 hP hS (kX8_pass hap  q9.2 _ _ hM11) gX8_115 hdX8_pass rfl (by decide) sh8 rfl ⟨Nat.le_of_ble_eq_true rfl, Nat.le_of_ble_eq_true rfl⟩ ⟨rfl, rfl⟩ dX8_reset_95 rfl (Nat.le_of_ble_eq_true rfl) (fun H locs hP hS => ?_)
        refine lv_iload_n (pc := 98) hx hb dX8_reset_98 rfl (lv_at hl 1 rfl) ?_
        obtain ⟨rfl, rfl⟩ := som2 h
        exact x_iret E hP hS rfl dX8_reset_99
      · have h := (if_neg c8).symm.trans h
        refine lv_aload_n (pc := 70) hx hb dX8_reset_70 rfl (lv_at hl 0 rfl) ?_
        refine x_get (pc := 71) (v := .ref (ad 1)) E hP (by decide) sh8 rfl inX8 0 (by decide) q972 rfl dX8_reset_71 ?_
        refine lv_bipush (pc := 74) (v := (56 : Int32)) hx hb dX8_reset_74 (by decide) ?_
        refine lv_iload_n (pc := 76) hx hb dX8_reset_76 rfl (lv_at hl 2 rfl) ?_
        refine lv_iadd (pc := 77) hx hb dX8_reset_77 ?_
        refine lv_iconst (pc := 78) (v := (0 : Int32)) hx hb dX8_reset_78 (by decide) ?_
        obtain ⟨c12, h⟩ := ite_some h
        obtain ⟨M13, hM13, h⟩ := thn_ex h
        refine x_iast (pc := 79) (j := ((56 : Int32) + x2).toNatClampNeg) E hP hS (by decide) sh8a1 0 rfl (inb_in c12) rfl dX8_reset_79 (fun H locs hP hS => ?_)
        rw [hM13] at hP
        refine lv_iinc (pc := 80) (v := (x2 + 1)) (lv' := [(2, .int (x2 + 1)), (0, .ref (ad 0)), (1, .int x1)]) hx hb dX8_reset_80 hl (k := 2) rfl rfl (by decide) rfl (fun ls hl => ?_)
        refine lv_goto (pc := 83) (tgt := 60) hx hb dX8_reset_83 (by decide) ?_
        exact ih M13 x1 (x2 + 1) _ _ _ h hP hS (lv_sub hl [1, 2, 0] rfl)
  have hL24 : ∀ (n : Nat) (M : Mem) (x1 x2 : Int32) (H : Heap) (locs : List Loc) (ls : Array Slot), fX8_reset_L24 n M x1 x2 = some (v, M') → va_P G vwCl (WW 7 (shR cA cZ cC ad) ad M) H → va_S (AW 7 ad) s.heap H locs → lv_has ls 3 [(0, .ref (ad 0)), (1, .int x1), (2, .int x2)] → W p l e ({ frames := 5, cells := 0, slots := 0, locals := 110 } : Room) s m args below meth c H locs 0 0 (QI below G 7 (shR cA cZ cC ad) ad .int args s v M') (F0 m 24 ls []) := by
    intro n
    induction n with
    | zero => intro M x1 x2 H locs ls h; cases h
    | succ n ih =>
      intro M x1 x2 H locs ls h hP hS hl
      rw [fX8_reset_L24] at h
      refine lv_iload_n (pc := 24) hx hb dX8_reset_24 rfl (lv_at hl 2 rfl) ?_
      refine lv_aload_n (pc := 25) hx hb dX8_reset_25 rfl (lv_at hl 0 rfl) ?_
      refine x_get (pc := 26) (v := .ref (ad 1)) E hP (by decide) sh8 rfl inX8 0 (by decide) q972 rfl dX8_reset_26 ?_
      refine lv_iconst (pc := 29) (v := (1 : Int32)) hx hb dX8_reset_29 (by decide) ?_
      refine x_iald (pc := 30) (j := 1) E hP (by decide) sh8a1 0 rfl (vp_inl (by decide)) rfl dX8_reset_30 ?_
      refine lv_icmp_ge (pc := 31) (tgt := 58) hx hb dX8_reset_31 (by decide) (fun c7 => ?_) (fun c7 => ?_)
      · have h := (if_pos c7).symm.trans h
        refine lv_iconst (pc := 58) (v := (1 : Int32)) hx hb dX8_reset_58 (by decide) ?_
        refine lv_istore_n (pc := 59) (lv' := [(2, .int (1 : Int32)), (0, .ref (ad 0)), (1, .int x1)]) hx hb dX8_reset_59 rfl hl (by decide) rfl (fun ls hl => ?_)
        exact hL60 5000 M x1 (1 : Int32) _ _ _ h hP hS (lv_sub hl [1, 2, 0] rfl)
      · have h := (if_neg c7).symm.trans h
        refine lv_aload_n (pc := 34) hx hb dX8_reset_34 rfl (lv_at hl 0 rfl) ?_
        refine x_get (pc := 35) (v := .ref (ad 1)) E hP (by decide) sh8 rfl inX8 0 (by decide) q972 rfl dX8_reset_35 ?_
        refine lv_bipush (pc := 38) (v := (104 : Int32)) hx hb dX8_reset_38 (by decide) ?_
        refine lv_iload_n (pc := 40) hx hb dX8_reset_40 rfl (lv_at hl 2 rfl) ?_
        refine lv_iadd (pc := 41) hx hb dX8_reset_41 ?_
        refine lv_aload_n (pc := 42) hx hb dX8_reset_42 rfl (lv_at hl 0 rfl) ?_
        refine x_get (pc := 43) (v := .ref (ad 1)) E hP (by decide) sh8 rfl inX8 0 (by decide) q972 rfl dX8_reset_43 ?_
        refine lv_bipush (pc := 46) (v := (80 : Int32)) hx hb dX8_reset_46 (by decide) ?_
        refine lv_iload_n (pc := 48) hx hb dX8_reset_48 rfl (lv_at hl 2 rfl) ?_
        refine lv_iadd (pc := 49) hx hb dX8_reset_49 ?_
        obtain ⟨c14, h⟩ := ite_some h
        refine x_iald (pc := 50) (j := ((80 : Int32) + x2).toNatClampNeg) E hP (by decide) sh8a1 0 rfl (inb_in c14) rfl dX8_reset_50 ?_
        obtain ⟨c15, h⟩ := ite_some h
        obtain ⟨M16, hM16, h⟩ := thn_ex h
        refine x_iast (pc := 51) (j := ((104 : Int32) + x2).toNatClampNeg) E hP hS (by decide) sh8a1 0 rfl (inb_in c15) rfl dX8_reset_51 (fun H locs hP hS => ?_)
        rw [hM16] at hP
        refine lv_iinc (pc := 52) (v := (x2 + 1)) (lv' := [(2, .int (x2 + 1)), (0, .ref (ad 0)), (1, .int x1)]) hx hb dX8_reset_52 hl (k := 2) rfl rfl (by decide) rfl (fun ls hl => ?_)
        refine lv_goto (pc := 55) (tgt := 24) hx hb dX8_reset_55 (by decide) ?_
        exact ih M16 x1 (x2 + 1) _ _ _ h hP hS (lv_sub hl [1, 2, 0] rfl)
  unfold fX8_reset at h
  refine lv_aload_n (pc := 0) hx hb dX8_reset_0 rfl (lv_at hl 0 rfl) ?_
  obtain ⟨y1, hy1, h⟩ := bnd_ex h
  refine x_callVi (pc := 1) (st := .ref (ad 0) :: []) (As := []) E hEx hl.1 hP hS (kX8_plays hap  M  _ hy1) gX8_105 hdX8_plays rfl (by decide) sh8 rfl ⟨Nat.le_of_ble_eq_true rfl, Nat.le_of_ble_eq_true rfl⟩ ⟨rfl, rfl⟩ dX8_reset_1 rfl (Nat.le_of_ble_eq_true rfl) (fun H locs hP hS n2 => ?_)
  refine lv_if_eq (pc := 4) (tgt := 10) hx hb dX8_reset_4 (by decide) (fun c3 => ?_) (fun c3 => ?_)
  · have h := (if_pos c3).symm.trans h
    refine lv_aload_n (pc := 10) hx hb dX8_reset_10 rfl (lv_at hl 0 rfl) ?_
    obtain ⟨q4, hq4, h⟩ := bnd_ex h
    refine x_callVi (pc := 11) (st := .ref (ad 0) :: []) (As := []) E hEx hl.1 hP hS (kX8_resetMinutes hap  M  _ _ hq4) gX8_190 hdX8_resetMinutes rfl (by decide) sh8 rfl ⟨Nat.le_of_ble_eq_true rfl, Nat.le_of_ble_eq_true rfl⟩ ⟨rfl, rfl⟩ dX8_reset_11 rfl (Nat.le_of_ble_eq_true rfl) (fun H locs hP hS n5 => ?_)
    refine lv_istore_n (pc := 14) (lv' := [(1, .int q4.1), (0, .ref (ad 0))]) hx hb dX8_reset_14 rfl hl (by decide) rfl (fun ls hl => ?_)
    refine lv_iload_n (pc := 15) hx hb dX8_reset_15 rfl (lv_at hl 0 rfl) ?_
    refine lv_if_ne (pc := 16) (tgt := 22) hx hb dX8_reset_16 (by decide) (fun c6 => ?_) (fun c6 => ?_)
    · have h := (if_neg c6).symm.trans h
      refine lv_iconst (pc := 22) (v := (0 : Int32)) hx hb dX8_reset_22 (by decide) ?_
      refine lv_istore_n (pc := 23) (lv' := [(2, .int (0 : Int32)), (1, .int q4.1), (0, .ref (ad 0))]) hx hb dX8_reset_23 rfl hl (by decide) rfl (fun ls hl => ?_)
      exact hL24 5000 q4.2 q4.1 (0 : Int32) _ _ _ h hP hS (lv_sub hl [2, 1, 0] rfl)
    · have h := (if_pos c6).symm.trans h
      refine lv_bipush (pc := 19) (v := (-5 : Int32)) hx hb dX8_reset_19 (by decide) ?_
      obtain ⟨rfl, rfl⟩ := som2 h
      exact x_iret E hP hS rfl dX8_reset_21
  · have h := (if_neg c3).symm.trans h
    refine lv_bipush (pc := 7) (v := (-4 : Int32)) hx hb dX8_reset_7 (by decide) ?_
    obtain ⟨rfl, rfl⟩ := som2 h
    exact x_iret E hP hS rfl dX8_reset_9
set_option maxRecDepth 100000 in
set_option maxHeartbeats 4000000 in
theorem kX8_propsIn (hap : Apart 7 ad)   (M : Mem) (x1 : Int32) (v : Int32) (h : fX8_propsIn M x1 = some v) : RI G ad cA cZ cC yX8_propsIn cX8_propsIn 4 .int ({ frames := 0, cells := 0, slots := 0, locals := 0 } : Room) [.ref (ad 0), .int x1] M v M := by
  refine CI.mk (own := RX8) (ls0 := [(0, .ref (ad 0)), (1, .int x1)]) (by decide +kernel) rfl hap (Nat.le_of_ble_eq_true rfl) rfl ?_
  intro p l e s m args below meth c ls E hP hl
  have hx := E.1
  have hb := E.2.1
  have hown := E.2.2.2.2.2.1
  have hts := E.2.2.2.2.2.2.1
  have hEx := ExR.ok 7 ad
  have hS : va_S (AW 7 ad) s.heap s.heap [] := va_S.rf
  have hL4 : ∀ (n : Nat) (M : Mem) (x1 x2 x3 : Int32) (H : Heap) (locs : List Loc) (ls : Array Slot), fX8_propsIn_L4 n M x1 x2 x3 = some v → va_P G vwCl (WW 7 (shR cA cZ cC ad) ad M) H → va_S (AW 7 ad) s.heap H locs → lv_has ls 4 [(0, .ref (ad 0)), (1, .int x1), (2, .int x2), (3, .int x3)] → W p l e ({ frames := 0, cells := 0, slots := 0, locals := 0 } : Room) s m args below meth c H locs 0 0 (QI below G 7 (shR cA cZ cC ad) ad .int args s v M) (F0 m 4 ls []) := by
    intro n
    induction n with
    | zero => intro M x1 x2 x3 H locs ls h; cases h
    | succ n ih =>
      intro M x1 x2 x3 H locs ls h hP hS hl
      rw [fX8_propsIn_L4] at h
      refine lv_iload_n (pc := 4) hx hb dX8_propsIn_4 rfl (lv_at hl 3 rfl) ?_
      refine lv_aload_n (pc := 5) hx hb dX8_propsIn_5 rfl (lv_at hl 0 rfl) ?_
      refine x_get (pc := 6) (v := .ref (ad 1)) E hP (by decide) sh8 rfl inX8 0 (by decide) q972 rfl dX8_propsIn_6 ?_
      refine lv_iconst (pc := 9) (v := (1 : Int32)) hx hb dX8_propsIn_9 (by decide) ?_
      refine x_iald (pc := 10) (j := 1) E hP (by decide) sh8a1 0 rfl (vp_inl (by decide)) rfl dX8_propsIn_10 ?_
      refine lv_icmp_ge (pc := 11) (tgt := 41) hx hb dX8_propsIn_11 (by decide) (fun c1 => ?_) (fun c1 => ?_)
      · have h := (if_pos c1).symm.trans h
        refine lv_iload_n (pc := 41) hx hb dX8_propsIn_41 rfl (lv_at hl 2 rfl) ?_
        obtain rfl := som1 h
        exact x_iret E hP hS rfl dX8_propsIn_42
      · have h := (if_neg c1).symm.trans h
        refine lv_iload_n (pc := 14) hx hb dX8_propsIn_14 rfl (lv_at hl 2 rfl) ?_
        refine lv_aload_n (pc := 15) hx hb dX8_propsIn_15 rfl (lv_at hl 0 rfl) ?_
        refine x_get (pc := 16) (v := .ref (ad 1)) E hP (by decide) sh8 rfl inX8 0 (by decide) q972 rfl dX8_propsIn_16 ?_
        refine lv_bipush (pc := 19) (v := (104 : Int32)) hx hb dX8_propsIn_19 (by decide) ?_
        refine lv_iload_n (pc := 21) hx hb dX8_propsIn_21 rfl (lv_at hl 3 rfl) ?_
        refine lv_iadd (pc := 22) hx hb dX8_propsIn_22 ?_
        obtain ⟨c2, h⟩ := ite_some h
        refine x_iald (pc := 23) (j := ((104 : Int32) + x3).toNatClampNeg) E hP (by decide) sh8a1 0 rfl (inb_in c2) rfl dX8_propsIn_23 ?_
        refine lv_iload_n (pc := 24) hx hb dX8_propsIn_24 rfl (lv_at hl 1 rfl) ?_
        refine lv_icmp_ne (pc := 25) (tgt := 32) hx hb dX8_propsIn_25 (by decide) (fun c3 => ?_) (fun c3 => ?_)
        · have h := (if_neg c3).symm.trans h
          refine lv_iconst (pc := 32) (v := (0 : Int32)) hx hb dX8_propsIn_32 (by decide) ?_
          refine lv_iadd (pc := 33) hx hb dX8_propsIn_33 ?_
          refine lv_istore_n (pc := 34) (lv' := [(2, .int (x2 + (0 : Int32))), (0, .ref (ad 0)), (1, .int x1), (3, .int x3)]) hx hb dX8_propsIn_34 rfl hl (by decide) rfl (fun ls hl => ?_)
          refine lv_iinc (pc := 35) (v := (x3 + 1)) (lv' := [(3, .int (x3 + 1)), (2, .int (x2 + (0 : Int32))), (0, .ref (ad 0)), (1, .int x1)]) hx hb dX8_propsIn_35 hl (k := 3) rfl rfl (by decide) rfl (fun ls hl => ?_)
          refine lv_goto (pc := 38) (tgt := 4) hx hb dX8_propsIn_38 (by decide) ?_
          exact ih M x1 (x2 + (0 : Int32)) (x3 + 1) _ _ _ h hP hS (lv_sub hl [2, 3, 1, 0] rfl)
        · have h := (if_pos c3).symm.trans h
          refine lv_iconst (pc := 28) (v := (1 : Int32)) hx hb dX8_propsIn_28 (by decide) ?_
          refine lv_goto (pc := 29) (tgt := 33) hx hb dX8_propsIn_29 (by decide) ?_
          refine lv_iadd (pc := 33) hx hb dX8_propsIn_33 ?_
          refine lv_istore_n (pc := 34) (lv' := [(2, .int (x2 + (1 : Int32))), (0, .ref (ad 0)), (1, .int x1), (3, .int x3)]) hx hb dX8_propsIn_34 rfl hl (by decide) rfl (fun ls hl => ?_)
          refine lv_iinc (pc := 35) (v := (x3 + 1)) (lv' := [(3, .int (x3 + 1)), (2, .int (x2 + (1 : Int32))), (0, .ref (ad 0)), (1, .int x1)]) hx hb dX8_propsIn_35 hl (k := 3) rfl rfl (by decide) rfl (fun ls hl => ?_)
          refine lv_goto (pc := 38) (tgt := 4) hx hb dX8_propsIn_38 (by decide) ?_
          exact ih M x1 (x2 + (1 : Int32)) (x3 + 1) _ _ _ h hP hS (lv_sub hl [2, 3, 1, 0] rfl)
  unfold fX8_propsIn at h
  refine lv_iconst (pc := 0) (v := (0 : Int32)) hx hb dX8_propsIn_0 (by decide) ?_
  refine lv_istore_n (pc := 1) (lv' := [(2, .int (0 : Int32)), (0, .ref (ad 0)), (1, .int x1)]) hx hb dX8_propsIn_1 rfl hl (by decide) rfl (fun ls hl => ?_)
  refine lv_iconst (pc := 2) (v := (0 : Int32)) hx hb dX8_propsIn_2 (by decide) ?_
  refine lv_istore_n (pc := 3) (lv' := [(3, .int (0 : Int32)), (2, .int (0 : Int32)), (0, .ref (ad 0)), (1, .int x1)]) hx hb dX8_propsIn_3 rfl hl (by decide) rfl (fun ls hl => ?_)
  exact hL4 5000 M x1 (0 : Int32) (0 : Int32) _ _ _ h hP hS (lv_sub hl [2, 3, 1, 0] rfl)
set_option maxRecDepth 100000 in
set_option maxHeartbeats 4000000 in
theorem kX8_boxesIn (hap : Apart 7 ad)   (M : Mem) (x1 : Int32) (v : Int32) (h : fX8_boxesIn M x1 = some v) : RI G ad cA cZ cC yX8_boxesIn cX8_boxesIn 4 .int ({ frames := 0, cells := 0, slots := 0, locals := 0 } : Room) [.ref (ad 0), .int x1] M v M := by
  refine CI.mk (own := RX8) (ls0 := [(0, .ref (ad 0)), (1, .int x1)]) (by decide +kernel) rfl hap (Nat.le_of_ble_eq_true rfl) rfl ?_
  intro p l e s m args below meth c ls E hP hl
  have hx := E.1
  have hb := E.2.1
  have hown := E.2.2.2.2.2.1
  have hts := E.2.2.2.2.2.2.1
  have hEx := ExR.ok 7 ad
  have hS : va_S (AW 7 ad) s.heap s.heap [] := va_S.rf
  have hL4 : ∀ (n : Nat) (M : Mem) (x1 x2 x3 : Int32) (H : Heap) (locs : List Loc) (ls : Array Slot), fX8_boxesIn_L4 n M x1 x2 x3 = some v → va_P G vwCl (WW 7 (shR cA cZ cC ad) ad M) H → va_S (AW 7 ad) s.heap H locs → lv_has ls 4 [(0, .ref (ad 0)), (1, .int x1), (2, .int x2), (3, .int x3)] → W p l e ({ frames := 0, cells := 0, slots := 0, locals := 0 } : Room) s m args below meth c H locs 0 0 (QI below G 7 (shR cA cZ cC ad) ad .int args s v M) (F0 m 4 ls []) := by
    intro n
    induction n with
    | zero => intro M x1 x2 x3 H locs ls h; cases h
    | succ n ih =>
      intro M x1 x2 x3 H locs ls h hP hS hl
      rw [fX8_boxesIn_L4] at h
      refine lv_iload_n (pc := 4) hx hb dX8_boxesIn_4 rfl (lv_at hl 3 rfl) ?_
      refine lv_aload_n (pc := 5) hx hb dX8_boxesIn_5 rfl (lv_at hl 0 rfl) ?_
      refine x_get (pc := 6) (v := .ref (ad 1)) E hP (by decide) sh8 rfl inX8 0 (by decide) q972 rfl dX8_boxesIn_6 ?_
      refine lv_iconst (pc := 9) (v := (0 : Int32)) hx hb dX8_boxesIn_9 (by decide) ?_
      refine x_iald (pc := 10) (j := 0) E hP (by decide) sh8a1 0 rfl (vp_inl (by decide)) rfl dX8_boxesIn_10 ?_
      refine lv_icmp_ge (pc := 11) (tgt := 41) hx hb dX8_boxesIn_11 (by decide) (fun c1 => ?_) (fun c1 => ?_)
      · have h := (if_pos c1).symm.trans h
        refine lv_iload_n (pc := 41) hx hb dX8_boxesIn_41 rfl (lv_at hl 2 rfl) ?_
        obtain rfl := som1 h
        exact x_iret E hP hS rfl dX8_boxesIn_42
      · have h := (if_neg c1).symm.trans h
        refine lv_iload_n (pc := 14) hx hb dX8_boxesIn_14 rfl (lv_at hl 2 rfl) ?_
        refine lv_aload_n (pc := 15) hx hb dX8_boxesIn_15 rfl (lv_at hl 0 rfl) ?_
        refine x_get (pc := 16) (v := .ref (ad 1)) E hP (by decide) sh8 rfl inX8 0 (by decide) q972 rfl dX8_boxesIn_16 ?_
        refine lv_bipush (pc := 19) (v := (20 : Int32)) hx hb dX8_boxesIn_19 (by decide) ?_
        refine lv_iload_n (pc := 21) hx hb dX8_boxesIn_21 rfl (lv_at hl 3 rfl) ?_
        refine lv_iadd (pc := 22) hx hb dX8_boxesIn_22 ?_
        obtain ⟨c2, h⟩ := ite_some h
        refine x_iald (pc := 23) (j := ((20 : Int32) + x3).toNatClampNeg) E hP (by decide) sh8a1 0 rfl (inb_in c2) rfl dX8_boxesIn_23 ?_
        refine lv_iload_n (pc := 24) hx hb dX8_boxesIn_24 rfl (lv_at hl 1 rfl) ?_
        refine lv_icmp_ne (pc := 25) (tgt := 32) hx hb dX8_boxesIn_25 (by decide) (fun c3 => ?_) (fun c3 => ?_)
        · have h := (if_neg c3).symm.trans h
          refine lv_iconst (pc := 32) (v := (0 : Int32)) hx hb dX8_boxesIn_32 (by decide) ?_
          refine lv_iadd (pc := 33) hx hb dX8_boxesIn_33 ?_
          refine lv_istore_n (pc := 34) (lv' := [(2, .int (x2 + (0 : Int32))), (0, .ref (ad 0)), (1, .int x1), (3, .int x3)]) hx hb dX8_boxesIn_34 rfl hl (by decide) rfl (fun ls hl => ?_)
          refine lv_iinc (pc := 35) (v := (x3 + 1)) (lv' := [(3, .int (x3 + 1)), (2, .int (x2 + (0 : Int32))), (0, .ref (ad 0)), (1, .int x1)]) hx hb dX8_boxesIn_35 hl (k := 3) rfl rfl (by decide) rfl (fun ls hl => ?_)
          refine lv_goto (pc := 38) (tgt := 4) hx hb dX8_boxesIn_38 (by decide) ?_
          exact ih M x1 (x2 + (0 : Int32)) (x3 + 1) _ _ _ h hP hS (lv_sub hl [2, 3, 1, 0] rfl)
        · have h := (if_pos c3).symm.trans h
          refine lv_iconst (pc := 28) (v := (1 : Int32)) hx hb dX8_boxesIn_28 (by decide) ?_
          refine lv_goto (pc := 29) (tgt := 33) hx hb dX8_boxesIn_29 (by decide) ?_
          refine lv_iadd (pc := 33) hx hb dX8_boxesIn_33 ?_
          refine lv_istore_n (pc := 34) (lv' := [(2, .int (x2 + (1 : Int32))), (0, .ref (ad 0)), (1, .int x1), (3, .int x3)]) hx hb dX8_boxesIn_34 rfl hl (by decide) rfl (fun ls hl => ?_)
          refine lv_iinc (pc := 35) (v := (x3 + 1)) (lv' := [(3, .int (x3 + 1)), (2, .int (x2 + (1 : Int32))), (0, .ref (ad 0)), (1, .int x1)]) hx hb dX8_boxesIn_35 hl (k := 3) rfl rfl (by decide) rfl (fun ls hl => ?_)
          refine lv_goto (pc := 38) (tgt := 4) hx hb dX8_boxesIn_38 (by decide) ?_
          exact ih M x1 (x2 + (1 : Int32)) (x3 + 1) _ _ _ h hP hS (lv_sub hl [2, 3, 1, 0] rfl)
  unfold fX8_boxesIn at h
  refine lv_iconst (pc := 0) (v := (0 : Int32)) hx hb dX8_boxesIn_0 (by decide) ?_
  refine lv_istore_n (pc := 1) (lv' := [(2, .int (0 : Int32)), (0, .ref (ad 0)), (1, .int x1)]) hx hb dX8_boxesIn_1 rfl hl (by decide) rfl (fun ls hl => ?_)
  refine lv_iconst (pc := 2) (v := (1 : Int32)) hx hb dX8_boxesIn_2 (by decide) ?_
  refine lv_istore_n (pc := 3) (lv' := [(3, .int (1 : Int32)), (2, .int (0 : Int32)), (0, .ref (ad 0)), (1, .int x1)]) hx hb dX8_boxesIn_3 rfl hl (by decide) rfl (fun ls hl => ?_)
  exact hL4 5000 M x1 (0 : Int32) (1 : Int32) _ _ _ h hP hS (lv_sub hl [2, 3, 1, 0] rfl)
set_option maxRecDepth 100000 in
set_option maxHeartbeats 4000000 in
theorem kX8_box (hap : Apart 7 ad)   (M : Mem) (x1 x2 : Int32) (v : Int32) (h : fX8_box M x1 x2 = some v) : RI G ad cA cZ cC yX8_box cX8_box 3 .int ({ frames := 4, cells := 0, slots := 0, locals := 86 } : Room) [.ref (ad 0), .int x1, .int x2] M v M := by
  refine CI.mk (own := RX8) (ls0 := [(0, .ref (ad 0)), (1, .int x1), (2, .int x2)]) (by decide +kernel) rfl hap (Nat.le_of_ble_eq_true rfl) rfl ?_
  intro p l e s m args below meth c ls E hP hl
  have hx := E.1
  have hb := E.2.1
  have hown := E.2.2.2.2.2.1
  have hts := E.2.2.2.2.2.2.1
  have hEx := ExR.ok 7 ad
  have hS : va_S (AW 7 ad) s.heap s.heap [] := va_S.rf
  unfold fX8_box at h
  refine lv_aload_n (pc := 0) hx hb dX8_box_0 rfl (lv_at hl 0 rfl) ?_
  refine lv_iload_n (pc := 1) hx hb dX8_box_1 rfl (lv_at hl 1 rfl) ?_
  obtain ⟨y1, hy1, h⟩ := bnd_ex h
  refine x_callVi (pc := 2) (st := .int x1 :: .ref (ad 0) :: []) (As := [.int x1]) E hEx hl.1 hP hS (kX8_noBox hap  M _ _ hy1) gX8_99 hdX8_noBox rfl (by decide) sh8 rfl ⟨Nat.le_of_ble_eq_true rfl, Nat.le_of_ble_eq_true rfl⟩ ⟨rfl, rfl⟩ dX8_box_2 rfl (Nat.le_of_ble_eq_true rfl) (fun H locs hP hS n2 => ?_)
  refine lv_if_eq (pc := 5) (tgt := 10) hx hb dX8_box_5 (by decide) (fun c3 => ?_) (fun c3 => ?_)
  · have h := (if_pos c3).symm.trans h
    refine lv_iload_n (pc := 10) hx hb dX8_box_10 rfl (lv_at hl 2 rfl) ?_
    by_cases c4 : x2 = (0 : Int32)
    · have h := (if_pos c4).symm.trans h
      refine lv_tableIn (pc := 11) (off := 45) (tgt := 56) hx hb dX8_box_11 (by rw [c4]; decide) (by rw [c4]; decide) (by rw [c4]; decide) (by decide) ?_
      refine lv_iload_n (pc := 56) hx hb dX8_box_56 rfl (lv_at hl 1 rfl) ?_
      refine lv_if_ne (pc := 57) (tgt := 65) hx hb dX8_box_57 (by decide) (fun c28 => ?_) (fun c28 => ?_)
      · have h := (if_neg c28).symm.trans h
        refine lv_aload_n (pc := 65) hx hb dX8_box_65 rfl (lv_at hl 0 rfl) ?_
        refine x_get (pc := 66) (v := .ref (ad 1)) E hP (by decide) sh8 rfl inX8 0 (by decide) q972 rfl dX8_box_66 ?_
        refine lv_bipush (pc := 69) (v := (20 : Int32)) hx hb dX8_box_69 (by decide) ?_
        refine lv_iload_n (pc := 71) hx hb dX8_box_71 rfl (lv_at hl 1 rfl) ?_
        refine lv_iadd (pc := 72) hx hb dX8_box_72 ?_
        obtain ⟨c29, h⟩ := ite_some h
        refine x_iald (pc := 73) (j := ((20 : Int32) + x1).toNatClampNeg) E hP (by decide) sh8a1 0 rfl (inb_in c29) rfl dX8_box_73 ?_
        obtain rfl := som1 h
        exact x_iret E hP hS rfl dX8_box_74
      · have h := (if_pos c28).symm.trans h
        refine lv_bipush (pc := 60) (v := (-5 : Int32)) hx hb dX8_box_60 (by decide) ?_
        refine lv_goto (pc := 62) (tgt := 74) hx hb dX8_box_62 (by decide) ?_
        obtain rfl := som1 h
        exact x_iret E hP hS rfl dX8_box_74
    · have h := (if_neg c4).symm.trans h
      by_cases c5 : x2 = (1 : Int32)
      · have h := (if_pos c5).symm.trans h
        refine lv_tableIn (pc := 11) (off := 64) (tgt := 75) hx hb dX8_box_11 (by rw [c5]; decide) (by rw [c5]; decide) (by rw [c5]; decide) (by decide) ?_
        refine lv_iload_n (pc := 75) hx hb dX8_box_75 rfl (lv_at hl 1 rfl) ?_
        refine lv_if_ne (pc := 76) (tgt := 84) hx hb dX8_box_76 (by decide) (fun c26 => ?_) (fun c26 => ?_)
        · have h := (if_neg c26).symm.trans h
          refine lv_aload_n (pc := 84) hx hb dX8_box_84 rfl (lv_at hl 0 rfl) ?_
          refine x_get (pc := 85) (v := .ref (ad 1)) E hP (by decide) sh8 rfl inX8 0 (by decide) q972 rfl dX8_box_85 ?_
          refine lv_bipush (pc := 88) (v := (32 : Int32)) hx hb dX8_box_88 (by decide) ?_
          refine lv_iload_n (pc := 90) hx hb dX8_box_90 rfl (lv_at hl 1 rfl) ?_
          refine lv_iadd (pc := 91) hx hb dX8_box_91 ?_
          obtain ⟨c27, h⟩ := ite_some h
          refine x_iald (pc := 92) (j := ((32 : Int32) + x1).toNatClampNeg) E hP (by decide) sh8a1 0 rfl (inb_in c27) rfl dX8_box_92 ?_
          obtain rfl := som1 h
          exact x_iret E hP hS rfl dX8_box_93
        · have h := (if_pos c26).symm.trans h
          refine lv_bipush (pc := 79) (v := (-5 : Int32)) hx hb dX8_box_79 (by decide) ?_
          refine lv_goto (pc := 81) (tgt := 93) hx hb dX8_box_81 (by decide) ?_
          obtain rfl := som1 h
          exact x_iret E hP hS rfl dX8_box_93
      · have h := (if_neg c5).symm.trans h
        by_cases c6 : x2 = (2 : Int32)
        · have h := (if_pos c6).symm.trans h
          refine lv_tableIn (pc := 11) (off := 83) (tgt := 94) hx hb dX8_box_11 (by rw [c6]; decide) (by rw [c6]; decide) (by rw [c6]; decide) (by decide) ?_
          refine lv_aload_n (pc := 94) hx hb dX8_box_94 rfl (lv_at hl 0 rfl) ?_
          refine x_get (pc := 95) (v := .ref (ad 1)) E hP (by decide) sh8 rfl inX8 0 (by decide) q972 rfl dX8_box_95 ?_
          refine lv_bipush (pc := 98) (v := (56 : Int32)) hx hb dX8_box_98 (by decide) ?_
          refine lv_iload_n (pc := 100) hx hb dX8_box_100 rfl (lv_at hl 1 rfl) ?_
          refine lv_iadd (pc := 101) hx hb dX8_box_101 ?_
          obtain ⟨c25, h⟩ := ite_some h
          refine x_iald (pc := 102) (j := ((56 : Int32) + x1).toNatClampNeg) E hP (by decide) sh8a1 0 rfl (inb_in c25) rfl dX8_box_102 ?_
          obtain rfl := som1 h
          exact x_iret E hP hS rfl dX8_box_103
        · have h := (if_neg c6).symm.trans h
          by_cases c7 : x2 = (3 : Int32)
          · have h := (if_pos c7).symm.trans h
            refine lv_tableIn (pc := 11) (off := 93) (tgt := 104) hx hb dX8_box_11 (by rw [c7]; decide) (by rw [c7]; decide) (by rw [c7]; decide) (by decide) ?_
            refine lv_aload_n (pc := 104) hx hb dX8_box_104 rfl (lv_at hl 0 rfl) ?_
            refine lv_iload_n (pc := 105) hx hb dX8_box_105 rfl (lv_at hl 1 rfl) ?_
            obtain ⟨y22, hy22, h⟩ := bnd_ex h
            refine x_callVi (pc := 106) (st := .int x1 :: .ref (ad 0) :: []) (As := [.int x1]) E hEx hl.1 hP hS (kX8_boxAtHand hap  M _ _ hy22) gX8_143 hdX8_boxAtHand rfl (by decide) sh8 rfl ⟨Nat.le_of_ble_eq_true rfl, Nat.le_of_ble_eq_true rfl⟩ ⟨rfl, rfl⟩ dX8_box_106 rfl (Nat.le_of_ble_eq_true rfl) (fun H locs hP hS n23 => ?_)
            refine lv_if_eq (pc := 109) (tgt := 116) hx hb dX8_box_109 (by decide) (fun c24 => ?_) (fun c24 => ?_)
            · have h := (if_pos c24).symm.trans h
              refine lv_iconst (pc := 116) (v := (0 : Int32)) hx hb dX8_box_116 (by decide) ?_
              obtain rfl := som1 h
              exact x_iret E hP hS rfl dX8_box_117
            · have h := (if_neg c24).symm.trans h
              refine lv_iconst (pc := 112) (v := (1 : Int32)) hx hb dX8_box_112 (by decide) ?_
              refine lv_goto (pc := 113) (tgt := 117) hx hb dX8_box_113 (by decide) ?_
              obtain rfl := som1 h
              exact x_iret E hP hS rfl dX8_box_117
          · have h := (if_neg c7).symm.trans h
            by_cases c8 : x2 = (4 : Int32)
            · have h := (if_pos c8).symm.trans h
              refine lv_tableIn (pc := 11) (off := 107) (tgt := 118) hx hb dX8_box_11 (by rw [c8]; decide) (by rw [c8]; decide) (by rw [c8]; decide) (by decide) ?_
              refine lv_aload_n (pc := 118) hx hb dX8_box_118 rfl (lv_at hl 0 rfl) ?_
              refine lv_iload_n (pc := 119) hx hb dX8_box_119 rfl (lv_at hl 1 rfl) ?_
              obtain ⟨y20, hy20, h⟩ := bnd_ex h
              refine x_callVi (pc := 120) (st := .int x1 :: .ref (ad 0) :: []) (As := [.int x1]) E hEx hl.1 hP hS (kX8_propsIn hap  M _ _ hy20) gX8_193 hdX8_propsIn rfl (by decide) sh8 rfl ⟨Nat.le_of_ble_eq_true rfl, Nat.le_of_ble_eq_true rfl⟩ ⟨rfl, rfl⟩ dX8_box_120 rfl (Nat.le_of_ble_eq_true rfl) (fun H locs hP hS n21 => ?_)
              obtain rfl := som1 h
              exact x_iret E hP hS rfl dX8_box_123
            · have h := (if_neg c8).symm.trans h
              by_cases c9 : x2 = (5 : Int32)
              · have h := (if_pos c9).symm.trans h
                refine lv_tableIn (pc := 11) (off := 113) (tgt := 124) hx hb dX8_box_11 (by rw [c9]; decide) (by rw [c9]; decide) (by rw [c9]; decide) (by decide) ?_
                refine lv_aload_n (pc := 124) hx hb dX8_box_124 rfl (lv_at hl 0 rfl) ?_
                refine lv_iload_n (pc := 125) hx hb dX8_box_125 rfl (lv_at hl 1 rfl) ?_
                obtain ⟨y18, hy18, h⟩ := bnd_ex h
                refine x_callVi (pc := 126) (st := .int x1 :: .ref (ad 0) :: []) (As := [.int x1]) E hEx hl.1 hP hS (kX8_boxesIn hap  M _ _ hy18) gX8_196 hdX8_boxesIn rfl (by decide) sh8 rfl ⟨Nat.le_of_ble_eq_true rfl, Nat.le_of_ble_eq_true rfl⟩ ⟨rfl, rfl⟩ dX8_box_126 rfl (Nat.le_of_ble_eq_true rfl) (fun H locs hP hS n19 => ?_)
                obtain rfl := som1 h
                exact x_iret E hP hS rfl dX8_box_129
              · have h := (if_neg c9).symm.trans h
                by_cases c10 : x2 = (6 : Int32)
                · have h := (if_pos c10).symm.trans h
                  refine lv_tableIn (pc := 11) (off := 119) (tgt := 130) hx hb dX8_box_11 (by rw [c10]; decide) (by rw [c10]; decide) (by rw [c10]; decide) (by decide) ?_
                  refine lv_iload_n (pc := 130) hx hb dX8_box_130 rfl (lv_at hl 1 rfl) ?_
                  refine lv_if_ne (pc := 131) (tgt := 139) hx hb dX8_box_131 (by decide) (fun c16 => ?_) (fun c16 => ?_)
                  · have h := (if_neg c16).symm.trans h
                    refine lv_aload_n (pc := 139) hx hb dX8_box_139 rfl (lv_at hl 0 rfl) ?_
                    refine x_get (pc := 140) (v := .ref (ad 1)) E hP (by decide) sh8 rfl inX8 0 (by decide) q972 rfl dX8_box_140 ?_
                    refine lv_bipush (pc := 143) (v := (44 : Int32)) hx hb dX8_box_143 (by decide) ?_
                    refine lv_iload_n (pc := 145) hx hb dX8_box_145 rfl (lv_at hl 1 rfl) ?_
                    refine lv_iadd (pc := 146) hx hb dX8_box_146 ?_
                    obtain ⟨c17, h⟩ := ite_some h
                    refine x_iald (pc := 147) (j := ((44 : Int32) + x1).toNatClampNeg) E hP (by decide) sh8a1 0 rfl (inb_in c17) rfl dX8_box_147 ?_
                    obtain rfl := som1 h
                    exact x_iret E hP hS rfl dX8_box_148
                  · have h := (if_pos c16).symm.trans h
                    refine lv_bipush (pc := 134) (v := (-5 : Int32)) hx hb dX8_box_134 (by decide) ?_
                    refine lv_goto (pc := 136) (tgt := 148) hx hb dX8_box_136 (by decide) ?_
                    obtain rfl := som1 h
                    exact x_iret E hP hS rfl dX8_box_148
                · have h := (if_neg c10).symm.trans h
                  by_cases c11 : x2 = (7 : Int32)
                  · have h := (if_pos c11).symm.trans h
                    refine lv_tableIn (pc := 11) (off := 138) (tgt := 149) hx hb dX8_box_11 (by rw [c11]; decide) (by rw [c11]; decide) (by rw [c11]; decide) (by decide) ?_
                    refine lv_aload_n (pc := 149) hx hb dX8_box_149 rfl (lv_at hl 0 rfl) ?_
                    obtain ⟨y12, hy12, h⟩ := bnd_ex h
                    refine x_callVi (pc := 150) (st := .ref (ad 0) :: []) (As := []) E hEx hl.1 hP hS (kX8_plays hap  M  _ hy12) gX8_105 hdX8_plays rfl (by decide) sh8 rfl ⟨Nat.le_of_ble_eq_true rfl, Nat.le_of_ble_eq_true rfl⟩ ⟨rfl, rfl⟩ dX8_box_150 rfl (Nat.le_of_ble_eq_true rfl) (fun H locs hP hS n13 => ?_)
                    refine lv_if_eq (pc := 153) (tgt := 168) hx hb dX8_box_153 (by decide) (fun c14 => ?_) (fun c14 => ?_)
                    · have h := (if_pos c14).symm.trans h
                      refine lv_iconst (pc := 168) (v := (0 : Int32)) hx hb dX8_box_168 (by decide) ?_
                      obtain rfl := som1 h
                      exact x_iret E hP hS rfl dX8_box_169
                    · have h := (if_neg c14).symm.trans h
                      refine lv_aload_n (pc := 156) hx hb dX8_box_156 rfl (lv_at hl 0 rfl) ?_
                      refine x_get (pc := 157) (v := .ref (ad 1)) E hP (by decide) sh8 rfl inX8 0 (by decide) q972 rfl dX8_box_157 ?_
                      refine lv_bipush (pc := 160) (v := (68 : Int32)) hx hb dX8_box_160 (by decide) ?_
                      refine lv_iload_n (pc := 162) hx hb dX8_box_162 rfl (lv_at hl 1 rfl) ?_
                      refine lv_iadd (pc := 163) hx hb dX8_box_163 ?_
                      obtain ⟨c15, h⟩ := ite_some h
                      refine x_iald (pc := 164) (j := ((68 : Int32) + x1).toNatClampNeg) E hP (by decide) sh8a1 0 rfl (inb_in c15) rfl dX8_box_164 ?_
                      refine lv_goto (pc := 165) (tgt := 169) hx hb dX8_box_165 (by decide) ?_
                      obtain rfl := som1 h
                      exact x_iret E hP hS rfl dX8_box_169
                  · have h := (if_neg c11).symm.trans h
                    refine lv_tableOut (pc := 11) (tgt := 170) hx hb dX8_box_11 (by have e0 := ne_lit (k := 0) (by decide) c4; have e1 := ne_lit (k := 1) (by decide) c5; have e2 := ne_lit (k := 2) (by decide) c6; have e3 := ne_lit (k := 3) (by decide) c7; have e4 := ne_lit (k := 4) (by decide) c8; have e5 := ne_lit (k := 5) (by decide) c9; have e6 := ne_lit (k := 6) (by decide) c10; have e7 := ne_lit (k := 7) (by decide) c11; omega) (by decide) ?_
                    refine lv_bipush (pc := 170) (v := (-2 : Int32)) hx hb dX8_box_170 (by decide) ?_
                    obtain rfl := som1 h
                    exact x_iret E hP hS rfl dX8_box_172
  · have h := (if_neg c3).symm.trans h
    refine lv_iconst (pc := 8) (v := (-1 : Int32)) hx hb dX8_box_8 (by decide) ?_
    obtain rfl := som1 h
    exact x_iret E hP hS rfl dX8_box_9
set_option maxRecDepth 100000 in
set_option maxHeartbeats 4000000 in
theorem kX8_cluesOn (hap : Apart 7 ad)   (M : Mem) (x1 : Int32) (v : Int32) (h : fX8_cluesOn M x1 = some v) : RI G ad cA cZ cC yX8_cluesOn cX8_cluesOn 4 .int ({ frames := 0, cells := 0, slots := 0, locals := 0 } : Room) [.ref (ad 0), .int x1] M v M := by
  refine CI.mk (own := RX8) (ls0 := [(0, .ref (ad 0)), (1, .int x1)]) (by decide +kernel) rfl hap (Nat.le_of_ble_eq_true rfl) rfl ?_
  intro p l e s m args below meth c ls E hP hl
  have hx := E.1
  have hb := E.2.1
  have hown := E.2.2.2.2.2.1
  have hts := E.2.2.2.2.2.2.1
  have hEx := ExR.ok 7 ad
  have hS : va_S (AW 7 ad) s.heap s.heap [] := va_S.rf
  have hL4 : ∀ (n : Nat) (M : Mem) (x1 x2 x3 : Int32) (H : Heap) (locs : List Loc) (ls : Array Slot), fX8_cluesOn_L4 n M x1 x2 x3 = some v → va_P G vwCl (WW 7 (shR cA cZ cC ad) ad M) H → va_S (AW 7 ad) s.heap H locs → lv_has ls 4 [(0, .ref (ad 0)), (1, .int x1), (2, .int x2), (3, .int x3)] → W p l e ({ frames := 0, cells := 0, slots := 0, locals := 0 } : Room) s m args below meth c H locs 0 0 (QI below G 7 (shR cA cZ cC ad) ad .int args s v M) (F0 m 4 ls []) := by
    intro n
    induction n with
    | zero => intro M x1 x2 x3 H locs ls h; cases h
    | succ n ih =>
      intro M x1 x2 x3 H locs ls h hP hS hl
      rw [fX8_cluesOn_L4] at h
      refine lv_iload_n (pc := 4) hx hb dX8_cluesOn_4 rfl (lv_at hl 3 rfl) ?_
      refine lv_aload_n (pc := 5) hx hb dX8_cluesOn_5 rfl (lv_at hl 0 rfl) ?_
      refine x_get (pc := 6) (v := .ref (ad 1)) E hP (by decide) sh8 rfl inX8 0 (by decide) q972 rfl dX8_cluesOn_6 ?_
      refine lv_iconst (pc := 9) (v := (2 : Int32)) hx hb dX8_cluesOn_9 (by decide) ?_
      refine x_iald (pc := 10) (j := 2) E hP (by decide) sh8a1 0 rfl (vp_inl (by decide)) rfl dX8_cluesOn_10 ?_
      refine lv_icmp_ge (pc := 11) (tgt := 42) hx hb dX8_cluesOn_11 (by decide) (fun c1 => ?_) (fun c1 => ?_)
      · have h := (if_pos c1).symm.trans h
        refine lv_iload_n (pc := 42) hx hb dX8_cluesOn_42 rfl (lv_at hl 2 rfl) ?_
        obtain rfl := som1 h
        exact x_iret E hP hS rfl dX8_cluesOn_43
      · have h := (if_neg c1).symm.trans h
        refine lv_iload_n (pc := 14) hx hb dX8_cluesOn_14 rfl (lv_at hl 2 rfl) ?_
        refine lv_aload_n (pc := 15) hx hb dX8_cluesOn_15 rfl (lv_at hl 0 rfl) ?_
        refine x_get (pc := 16) (v := .ref (ad 1)) E hP (by decide) sh8 rfl inX8 0 (by decide) q972 rfl dX8_cluesOn_16 ?_
        refine lv_sipush (pc := 19) (v := (128 : Int32)) hx hb dX8_cluesOn_19 (by decide) ?_
        refine lv_iload_n (pc := 22) hx hb dX8_cluesOn_22 rfl (lv_at hl 3 rfl) ?_
        refine lv_iadd (pc := 23) hx hb dX8_cluesOn_23 ?_
        obtain ⟨c2, h⟩ := ite_some h
        refine x_iald (pc := 24) (j := ((128 : Int32) + x3).toNatClampNeg) E hP (by decide) sh8a1 0 rfl (inb_in c2) rfl dX8_cluesOn_24 ?_
        refine lv_iload_n (pc := 25) hx hb dX8_cluesOn_25 rfl (lv_at hl 1 rfl) ?_
        refine lv_icmp_ne (pc := 26) (tgt := 33) hx hb dX8_cluesOn_26 (by decide) (fun c3 => ?_) (fun c3 => ?_)
        · have h := (if_neg c3).symm.trans h
          refine lv_iconst (pc := 33) (v := (0 : Int32)) hx hb dX8_cluesOn_33 (by decide) ?_
          refine lv_iadd (pc := 34) hx hb dX8_cluesOn_34 ?_
          refine lv_istore_n (pc := 35) (lv' := [(2, .int (x2 + (0 : Int32))), (0, .ref (ad 0)), (1, .int x1), (3, .int x3)]) hx hb dX8_cluesOn_35 rfl hl (by decide) rfl (fun ls hl => ?_)
          refine lv_iinc (pc := 36) (v := (x3 + 1)) (lv' := [(3, .int (x3 + 1)), (2, .int (x2 + (0 : Int32))), (0, .ref (ad 0)), (1, .int x1)]) hx hb dX8_cluesOn_36 hl (k := 3) rfl rfl (by decide) rfl (fun ls hl => ?_)
          refine lv_goto (pc := 39) (tgt := 4) hx hb dX8_cluesOn_39 (by decide) ?_
          exact ih M x1 (x2 + (0 : Int32)) (x3 + 1) _ _ _ h hP hS (lv_sub hl [2, 3, 1, 0] rfl)
        · have h := (if_pos c3).symm.trans h
          refine lv_iconst (pc := 29) (v := (1 : Int32)) hx hb dX8_cluesOn_29 (by decide) ?_
          refine lv_goto (pc := 30) (tgt := 34) hx hb dX8_cluesOn_30 (by decide) ?_
          refine lv_iadd (pc := 34) hx hb dX8_cluesOn_34 ?_
          refine lv_istore_n (pc := 35) (lv' := [(2, .int (x2 + (1 : Int32))), (0, .ref (ad 0)), (1, .int x1), (3, .int x3)]) hx hb dX8_cluesOn_35 rfl hl (by decide) rfl (fun ls hl => ?_)
          refine lv_iinc (pc := 36) (v := (x3 + 1)) (lv' := [(3, .int (x3 + 1)), (2, .int (x2 + (1 : Int32))), (0, .ref (ad 0)), (1, .int x1)]) hx hb dX8_cluesOn_36 hl (k := 3) rfl rfl (by decide) rfl (fun ls hl => ?_)
          refine lv_goto (pc := 39) (tgt := 4) hx hb dX8_cluesOn_39 (by decide) ?_
          exact ih M x1 (x2 + (1 : Int32)) (x3 + 1) _ _ _ h hP hS (lv_sub hl [2, 3, 1, 0] rfl)
  unfold fX8_cluesOn at h
  refine lv_iconst (pc := 0) (v := (0 : Int32)) hx hb dX8_cluesOn_0 (by decide) ?_
  refine lv_istore_n (pc := 1) (lv' := [(2, .int (0 : Int32)), (0, .ref (ad 0)), (1, .int x1)]) hx hb dX8_cluesOn_1 rfl hl (by decide) rfl (fun ls hl => ?_)
  refine lv_iconst (pc := 2) (v := (0 : Int32)) hx hb dX8_cluesOn_2 (by decide) ?_
  refine lv_istore_n (pc := 3) (lv' := [(3, .int (0 : Int32)), (2, .int (0 : Int32)), (0, .ref (ad 0)), (1, .int x1)]) hx hb dX8_cluesOn_3 rfl hl (by decide) rfl (fun ls hl => ?_)
  exact hL4 5000 M x1 (0 : Int32) (0 : Int32) _ _ _ h hP hS (lv_sub hl [2, 3, 1, 0] rfl)
set_option maxRecDepth 100000 in
set_option maxHeartbeats 4000000 in
theorem kX8_locksWith (hap : Apart 7 ad)   (M : Mem) (x1 : Int32) (v : Int32) (h : fX8_locksWith M x1 = some v) : RI G ad cA cZ cC yX8_locksWith cX8_locksWith 5 .int ({ frames := 0, cells := 0, slots := 0, locals := 0 } : Room) [.ref (ad 0), .int x1] M v M := by
  refine CI.mk (own := RX8) (ls0 := [(0, .ref (ad 0)), (1, .int x1)]) (by decide +kernel) rfl hap (Nat.le_of_ble_eq_true rfl) rfl ?_
  intro p l e s m args below meth c ls E hP hl
  have hx := E.1
  have hb := E.2.1
  have hown := E.2.2.2.2.2.1
  have hts := E.2.2.2.2.2.2.1
  have hEx := ExR.ok 7 ad
  have hS : va_S (AW 7 ad) s.heap s.heap [] := va_S.rf
  have hL4 : ∀ (n : Nat) (M : Mem) (x1 x2 x3 : Int32) (H : Heap) (locs : List Loc) (ls : Array Slot), fX8_locksWith_L4 n M x1 x2 x3 = some v → va_P G vwCl (WW 7 (shR cA cZ cC ad) ad M) H → va_S (AW 7 ad) s.heap H locs → lv_has ls 5 [(0, .ref (ad 0)), (1, .int x1), (2, .int x2), (3, .int x3)] → W p l e ({ frames := 0, cells := 0, slots := 0, locals := 0 } : Room) s m args below meth c H locs 0 0 (QI below G 7 (shR cA cZ cC ad) ad .int args s v M) (F0 m 4 ls []) := by
    intro n
    induction n with
    | zero => intro M x1 x2 x3 H locs ls h; cases h
    | succ n ih =>
      intro M x1 x2 x3 H locs ls h hP hS hl
      rw [fX8_locksWith_L4] at h
      refine lv_iload_n (pc := 4) hx hb dX8_locksWith_4 rfl (lv_at hl 3 rfl) ?_
      refine lv_aload_n (pc := 5) hx hb dX8_locksWith_5 rfl (lv_at hl 0 rfl) ?_
      refine x_get (pc := 6) (v := .ref (ad 1)) E hP (by decide) sh8 rfl inX8 0 (by decide) q972 rfl dX8_locksWith_6 ?_
      refine lv_iconst (pc := 9) (v := (0 : Int32)) hx hb dX8_locksWith_9 (by decide) ?_
      refine x_iald (pc := 10) (j := 0) E hP (by decide) sh8a1 0 rfl (vp_inl (by decide)) rfl dX8_locksWith_10 ?_
      refine lv_icmp_ge (pc := 11) (tgt := 79) hx hb dX8_locksWith_11 (by decide) (fun c1 => ?_) (fun c1 => ?_)
      · have h := (if_pos c1).symm.trans h
        refine lv_iload_n (pc := 79) hx hb dX8_locksWith_79 rfl (lv_at hl 2 rfl) ?_
        obtain rfl := som1 h
        exact x_iret E hP hS rfl dX8_locksWith_80
      · have h := (if_neg c1).symm.trans h
        refine lv_aload_n (pc := 14) hx hb dX8_locksWith_14 rfl (lv_at hl 0 rfl) ?_
        refine x_get (pc := 15) (v := .ref (ad 1)) E hP (by decide) sh8 rfl inX8 0 (by decide) q972 rfl dX8_locksWith_15 ?_
        refine lv_bipush (pc := 18) (v := (32 : Int32)) hx hb dX8_locksWith_18 (by decide) ?_
        refine lv_iload_n (pc := 20) hx hb dX8_locksWith_20 rfl (lv_at hl 3 rfl) ?_
        refine lv_iadd (pc := 21) hx hb dX8_locksWith_21 ?_
        obtain ⟨c2, h⟩ := ite_some h
        refine x_iald (pc := 22) (j := ((32 : Int32) + x3).toNatClampNeg) E hP (by decide) sh8a1 0 rfl (inb_in c2) rfl dX8_locksWith_22 ?_
        refine lv_iconst (pc := 23) (v := (1 : Int32)) hx hb dX8_locksWith_23 (by decide) ?_
        refine lv_icmp_eq (pc := 24) (tgt := 40) hx hb dX8_locksWith_24 (by decide) (fun c3 => ?_) (fun c3 => ?_)
        · have h := (if_pos c3).symm.trans h
          refine lv_iconst (pc := 40) (v := (1 : Int32)) hx hb dX8_locksWith_40 (by decide) ?_
          refine lv_goto (pc := 41) (tgt := 45) hx hb dX8_locksWith_41 (by decide) ?_
          refine lv_istore (pc := 45) (lv' := [(4, .int (1 : Int32)), (0, .ref (ad 0)), (1, .int x1), (2, .int x2), (3, .int x3)]) hx hb dX8_locksWith_45 hl (by decide) rfl (fun ls hl => ?_)
          refine lv_iload_n (pc := 47) hx hb dX8_locksWith_47 rfl (lv_at hl 3 rfl) ?_
          refine lv_iload (pc := 48) hx hb dX8_locksWith_48 (lv_at hl 0 rfl) ?_
          refine lv_if_eq (pc := 50) (tgt := 70) hx hb dX8_locksWith_50 (by decide) (fun c4 => ?_) (fun c4 => ?_)
          · exact absurd c4 (by decide)
          · refine lv_aload_n (pc := 53) hx hb dX8_locksWith_53 rfl (lv_at hl 1 rfl) ?_
            refine x_get (pc := 54) (v := .ref (ad 1)) E hP (by decide) sh8 rfl inX8 0 (by decide) q972 rfl dX8_locksWith_54 ?_
            refine lv_bipush (pc := 57) (v := (44 : Int32)) hx hb dX8_locksWith_57 (by decide) ?_
            refine lv_iload_n (pc := 59) hx hb dX8_locksWith_59 rfl (lv_at hl 4 rfl) ?_
            refine lv_iadd (pc := 60) hx hb dX8_locksWith_60 ?_
            obtain ⟨c5, h⟩ := ite_some h
            refine x_iald (pc := 61) (j := ((44 : Int32) + x3).toNatClampNeg) E hP (by decide) sh8a1 0 rfl (inb_in c5) rfl dX8_locksWith_61 ?_
            refine lv_iload_n (pc := 62) hx hb dX8_locksWith_62 rfl (lv_at hl 2 rfl) ?_
            refine lv_icmp_ne (pc := 63) (tgt := 70) hx hb dX8_locksWith_63 (by decide) (fun c6 => ?_) (fun c6 => ?_)
            · have h := (if_neg c6).symm.trans h
              refine lv_iconst (pc := 70) (v := (0 : Int32)) hx hb dX8_locksWith_70 (by decide) ?_
              refine lv_iadd (pc := 71) hx hb dX8_locksWith_71 ?_
              refine lv_istore_n (pc := 72) (lv' := [(2, .int (x2 + (0 : Int32))), (4, .int (1 : Int32)), (0, .ref (ad 0)), (1, .int x1), (3, .int x3)]) hx hb dX8_locksWith_72 rfl hl (by decide) rfl (fun ls hl => ?_)
              refine lv_iinc (pc := 73) (v := (x3 + 1)) (lv' := [(3, .int (x3 + 1)), (2, .int (x2 + (0 : Int32))), (4, .int (1 : Int32)), (0, .ref (ad 0)), (1, .int x1)]) hx hb dX8_locksWith_73 hl (k := 4) rfl rfl (by decide) rfl (fun ls hl => ?_)
              refine lv_goto (pc := 76) (tgt := 4) hx hb dX8_locksWith_76 (by decide) ?_
              exact ih M x1 (x2 + (0 : Int32)) (x3 + 1) _ _ _ h hP hS (lv_sub hl [3, 4, 1, 0] rfl)
            · have h := (if_pos c6).symm.trans h
              refine lv_iconst (pc := 66) (v := (1 : Int32)) hx hb dX8_locksWith_66 (by decide) ?_
              refine lv_goto (pc := 67) (tgt := 71) hx hb dX8_locksWith_67 (by decide) ?_
              refine lv_iadd (pc := 71) hx hb dX8_locksWith_71 ?_
              refine lv_istore_n (pc := 72) (lv' := [(2, .int (x2 + (1 : Int32))), (4, .int (1 : Int32)), (0, .ref (ad 0)), (1, .int x1), (3, .int x3)]) hx hb dX8_locksWith_72 rfl hl (by decide) rfl (fun ls hl => ?_)
              refine lv_iinc (pc := 73) (v := (x3 + 1)) (lv' := [(3, .int (x3 + 1)), (2, .int (x2 + (1 : Int32))), (4, .int (1 : Int32)), (0, .ref (ad 0)), (1, .int x1)]) hx hb dX8_locksWith_73 hl (k := 4) rfl rfl (by decide) rfl (fun ls hl => ?_)
              refine lv_goto (pc := 76) (tgt := 4) hx hb dX8_locksWith_76 (by decide) ?_
              exact ih M x1 (x2 + (1 : Int32)) (x3 + 1) _ _ _ h hP hS (lv_sub hl [3, 4, 1, 0] rfl)
        · have h := (if_neg c3).symm.trans h
          refine lv_aload_n (pc := 27) hx hb dX8_locksWith_27 rfl (lv_at hl 0 rfl) ?_
          refine x_get (pc := 28) (v := .ref (ad 1)) E hP (by decide) sh8 rfl inX8 0 (by decide) q972 rfl dX8_locksWith_28 ?_
          refine lv_bipush (pc := 31) (v := (32 : Int32)) hx hb dX8_locksWith_31 (by decide) ?_
          refine lv_iload_n (pc := 33) hx hb dX8_locksWith_33 rfl (lv_at hl 3 rfl) ?_
          refine lv_iadd (pc := 34) hx hb dX8_locksWith_34 ?_
          obtain ⟨c7, h⟩ := ite_some h
          refine x_iald (pc := 35) (j := ((32 : Int32) + x3).toNatClampNeg) E hP (by decide) sh8a1 0 rfl (inb_in c7) rfl dX8_locksWith_35 ?_
          refine lv_iconst (pc := 36) (v := (2 : Int32)) hx hb dX8_locksWith_36 (by decide) ?_
          refine lv_icmp_le (pc := 37) (tgt := 44) hx hb dX8_locksWith_37 (by decide) (fun c8 => ?_) (fun c8 => ?_)
          · have h := (if_pos c8).symm.trans h
            refine lv_iconst (pc := 44) (v := (0 : Int32)) hx hb dX8_locksWith_44 (by decide) ?_
            refine lv_istore (pc := 45) (lv' := [(4, .int (0 : Int32)), (0, .ref (ad 0)), (1, .int x1), (2, .int x2), (3, .int x3)]) hx hb dX8_locksWith_45 hl (by decide) rfl (fun ls hl => ?_)
            refine lv_iload_n (pc := 47) hx hb dX8_locksWith_47 rfl (lv_at hl 3 rfl) ?_
            refine lv_iload (pc := 48) hx hb dX8_locksWith_48 (lv_at hl 0 rfl) ?_
            refine lv_if_eq (pc := 50) (tgt := 70) hx hb dX8_locksWith_50 (by decide) (fun c9 => ?_) (fun c9 => ?_)
            · refine lv_iconst (pc := 70) (v := (0 : Int32)) hx hb dX8_locksWith_70 (by decide) ?_
              refine lv_iadd (pc := 71) hx hb dX8_locksWith_71 ?_
              refine lv_istore_n (pc := 72) (lv' := [(2, .int (x2 + (0 : Int32))), (4, .int (0 : Int32)), (0, .ref (ad 0)), (1, .int x1), (3, .int x3)]) hx hb dX8_locksWith_72 rfl hl (by decide) rfl (fun ls hl => ?_)
              refine lv_iinc (pc := 73) (v := (x3 + 1)) (lv' := [(3, .int (x3 + 1)), (2, .int (x2 + (0 : Int32))), (4, .int (0 : Int32)), (0, .ref (ad 0)), (1, .int x1)]) hx hb dX8_locksWith_73 hl (k := 4) rfl rfl (by decide) rfl (fun ls hl => ?_)
              refine lv_goto (pc := 76) (tgt := 4) hx hb dX8_locksWith_76 (by decide) ?_
              exact ih M x1 (x2 + (0 : Int32)) (x3 + 1) _ _ _ h hP hS (lv_sub hl [3, 4, 1, 0] rfl)
            · exact absurd c9 (by decide)
          · have h := (if_neg c8).symm.trans h
            refine lv_iconst (pc := 40) (v := (1 : Int32)) hx hb dX8_locksWith_40 (by decide) ?_
            refine lv_goto (pc := 41) (tgt := 45) hx hb dX8_locksWith_41 (by decide) ?_
            refine lv_istore (pc := 45) (lv' := [(4, .int (1 : Int32)), (0, .ref (ad 0)), (1, .int x1), (2, .int x2), (3, .int x3)]) hx hb dX8_locksWith_45 hl (by decide) rfl (fun ls hl => ?_)
            refine lv_iload_n (pc := 47) hx hb dX8_locksWith_47 rfl (lv_at hl 3 rfl) ?_
            refine lv_iload (pc := 48) hx hb dX8_locksWith_48 (lv_at hl 0 rfl) ?_
            refine lv_if_eq (pc := 50) (tgt := 70) hx hb dX8_locksWith_50 (by decide) (fun c10 => ?_) (fun c10 => ?_)
            · exact absurd c10 (by decide)
            · refine lv_aload_n (pc := 53) hx hb dX8_locksWith_53 rfl (lv_at hl 1 rfl) ?_
              refine x_get (pc := 54) (v := .ref (ad 1)) E hP (by decide) sh8 rfl inX8 0 (by decide) q972 rfl dX8_locksWith_54 ?_
              refine lv_bipush (pc := 57) (v := (44 : Int32)) hx hb dX8_locksWith_57 (by decide) ?_
              refine lv_iload_n (pc := 59) hx hb dX8_locksWith_59 rfl (lv_at hl 4 rfl) ?_
              refine lv_iadd (pc := 60) hx hb dX8_locksWith_60 ?_
              obtain ⟨c11, h⟩ := ite_some h
              refine x_iald (pc := 61) (j := ((44 : Int32) + x3).toNatClampNeg) E hP (by decide) sh8a1 0 rfl (inb_in c11) rfl dX8_locksWith_61 ?_
              refine lv_iload_n (pc := 62) hx hb dX8_locksWith_62 rfl (lv_at hl 2 rfl) ?_
              refine lv_icmp_ne (pc := 63) (tgt := 70) hx hb dX8_locksWith_63 (by decide) (fun c12 => ?_) (fun c12 => ?_)
              · have h := (if_neg c12).symm.trans h
                refine lv_iconst (pc := 70) (v := (0 : Int32)) hx hb dX8_locksWith_70 (by decide) ?_
                refine lv_iadd (pc := 71) hx hb dX8_locksWith_71 ?_
                refine lv_istore_n (pc := 72) (lv' := [(2, .int (x2 + (0 : Int32))), (4, .int (1 : Int32)), (0, .ref (ad 0)), (1, .int x1), (3, .int x3)]) hx hb dX8_locksWith_72 rfl hl (by decide) rfl (fun ls hl => ?_)
                refine lv_iinc (pc := 73) (v := (x3 + 1)) (lv' := [(3, .int (x3 + 1)), (2, .int (x2 + (0 : Int32))), (4, .int (1 : Int32)), (0, .ref (ad 0)), (1, .int x1)]) hx hb dX8_locksWith_73 hl (k := 4) rfl rfl (by decide) rfl (fun ls hl => ?_)
                refine lv_goto (pc := 76) (tgt := 4) hx hb dX8_locksWith_76 (by decide) ?_
                exact ih M x1 (x2 + (0 : Int32)) (x3 + 1) _ _ _ h hP hS (lv_sub hl [3, 4, 1, 0] rfl)
              · have h := (if_pos c12).symm.trans h
                refine lv_iconst (pc := 66) (v := (1 : Int32)) hx hb dX8_locksWith_66 (by decide) ?_
                refine lv_goto (pc := 67) (tgt := 71) hx hb dX8_locksWith_67 (by decide) ?_
                refine lv_iadd (pc := 71) hx hb dX8_locksWith_71 ?_
                refine lv_istore_n (pc := 72) (lv' := [(2, .int (x2 + (1 : Int32))), (4, .int (1 : Int32)), (0, .ref (ad 0)), (1, .int x1), (3, .int x3)]) hx hb dX8_locksWith_72 rfl hl (by decide) rfl (fun ls hl => ?_)
                refine lv_iinc (pc := 73) (v := (x3 + 1)) (lv' := [(3, .int (x3 + 1)), (2, .int (x2 + (1 : Int32))), (4, .int (1 : Int32)), (0, .ref (ad 0)), (1, .int x1)]) hx hb dX8_locksWith_73 hl (k := 4) rfl rfl (by decide) rfl (fun ls hl => ?_)
                refine lv_goto (pc := 76) (tgt := 4) hx hb dX8_locksWith_76 (by decide) ?_
                exact ih M x1 (x2 + (1 : Int32)) (x3 + 1) _ _ _ h hP hS (lv_sub hl [3, 4, 1, 0] rfl)
  unfold fX8_locksWith at h
  refine lv_iconst (pc := 0) (v := (0 : Int32)) hx hb dX8_locksWith_0 (by decide) ?_
  refine lv_istore_n (pc := 1) (lv' := [(2, .int (0 : Int32)), (0, .ref (ad 0)), (1, .int x1)]) hx hb dX8_locksWith_1 rfl hl (by decide) rfl (fun ls hl => ?_)
  refine lv_iconst (pc := 2) (v := (1 : Int32)) hx hb dX8_locksWith_2 (by decide) ?_
  refine lv_istore_n (pc := 3) (lv' := [(3, .int (1 : Int32)), (2, .int (0 : Int32)), (0, .ref (ad 0)), (1, .int x1)]) hx hb dX8_locksWith_3 rfl hl (by decide) rfl (fun ls hl => ?_)
  exact hL4 5000 M x1 (0 : Int32) (1 : Int32) _ _ _ h hP hS (lv_sub hl [2, 3, 1, 0] rfl)
set_option maxRecDepth 100000 in
set_option maxHeartbeats 4000000 in
theorem kX8_prop (hap : Apart 7 ad)   (M : Mem) (x1 x2 : Int32) (v : Int32) (h : fX8_prop M x1 x2 = some v) : RI G ad cA cZ cC yX8_prop cX8_prop 3 .int ({ frames := 3, cells := 0, slots := 0, locals := 65 } : Room) [.ref (ad 0), .int x1, .int x2] M v M := by
  refine CI.mk (own := RX8) (ls0 := [(0, .ref (ad 0)), (1, .int x1), (2, .int x2)]) (by decide +kernel) rfl hap (Nat.le_of_ble_eq_true rfl) rfl ?_
  intro p l e s m args below meth c ls E hP hl
  have hx := E.1
  have hb := E.2.1
  have hown := E.2.2.2.2.2.1
  have hts := E.2.2.2.2.2.2.1
  have hEx := ExR.ok 7 ad
  have hS : va_S (AW 7 ad) s.heap s.heap [] := va_S.rf
  unfold fX8_prop at h
  refine lv_aload_n (pc := 0) hx hb dX8_prop_0 rfl (lv_at hl 0 rfl) ?_
  refine lv_iload_n (pc := 1) hx hb dX8_prop_1 rfl (lv_at hl 1 rfl) ?_
  obtain ⟨y1, hy1, h⟩ := bnd_ex h
  refine x_callVi (pc := 2) (st := .int x1 :: .ref (ad 0) :: []) (As := [.int x1]) E hEx hl.1 hP hS (kX8_noProp hap  M _ _ hy1) gX8_102 hdX8_noProp rfl (by decide) sh8 rfl ⟨Nat.le_of_ble_eq_true rfl, Nat.le_of_ble_eq_true rfl⟩ ⟨rfl, rfl⟩ dX8_prop_2 rfl (Nat.le_of_ble_eq_true rfl) (fun H locs hP hS n2 => ?_)
  refine lv_if_eq (pc := 5) (tgt := 10) hx hb dX8_prop_5 (by decide) (fun c3 => ?_) (fun c3 => ?_)
  · have h := (if_pos c3).symm.trans h
    refine lv_iload_n (pc := 10) hx hb dX8_prop_10 rfl (lv_at hl 2 rfl) ?_
    by_cases c4 : x2 = (0 : Int32)
    · have h := (if_pos c4).symm.trans h
      refine lv_tableIn (pc := 11) (off := 33) (tgt := 44) hx hb dX8_prop_11 (by rw [c4]; decide) (by rw [c4]; decide) (by rw [c4]; decide) (by decide) ?_
      refine lv_aload_n (pc := 44) hx hb dX8_prop_44 rfl (lv_at hl 0 rfl) ?_
      refine x_get (pc := 45) (v := .ref (ad 1)) E hP (by decide) sh8 rfl inX8 0 (by decide) q972 rfl dX8_prop_45 ?_
      refine lv_bipush (pc := 48) (v := (80 : Int32)) hx hb dX8_prop_48 (by decide) ?_
      refine lv_iload_n (pc := 50) hx hb dX8_prop_50 rfl (lv_at hl 1 rfl) ?_
      refine lv_iadd (pc := 51) hx hb dX8_prop_51 ?_
      obtain ⟨c20, h⟩ := ite_some h
      refine x_iald (pc := 52) (j := ((80 : Int32) + x1).toNatClampNeg) E hP (by decide) sh8a1 0 rfl (inb_in c20) rfl dX8_prop_52 ?_
      obtain rfl := som1 h
      exact x_iret E hP hS rfl dX8_prop_53
    · have h := (if_neg c4).symm.trans h
      by_cases c5 : x2 = (1 : Int32)
      · have h := (if_pos c5).symm.trans h
        refine lv_tableIn (pc := 11) (off := 43) (tgt := 54) hx hb dX8_prop_11 (by rw [c5]; decide) (by rw [c5]; decide) (by rw [c5]; decide) (by decide) ?_
        refine lv_aload_n (pc := 54) hx hb dX8_prop_54 rfl (lv_at hl 0 rfl) ?_
        refine lv_iload_n (pc := 55) hx hb dX8_prop_55 rfl (lv_at hl 1 rfl) ?_
        obtain ⟨y16, hy16, h⟩ := bnd_ex h
        refine x_callVi (pc := 56) (st := .int x1 :: .ref (ad 0) :: []) (As := [.int x1]) E hEx hl.1 hP hS (kX8_isHeld hap  M _ _ hy16) gX8_45 hdX8_isHeld rfl (by decide) sh8 rfl ⟨Nat.le_of_ble_eq_true rfl, Nat.le_of_ble_eq_true rfl⟩ ⟨rfl, rfl⟩ dX8_prop_56 rfl (Nat.le_of_ble_eq_true rfl) (fun H locs hP hS n17 => ?_)
        refine lv_if_eq (pc := 59) (tgt := 67) hx hb dX8_prop_59 (by decide) (fun c18 => ?_) (fun c18 => ?_)
        · have h := (if_pos c18).symm.trans h
          refine lv_aload_n (pc := 67) hx hb dX8_prop_67 rfl (lv_at hl 0 rfl) ?_
          refine x_get (pc := 68) (v := .ref (ad 1)) E hP (by decide) sh8 rfl inX8 0 (by decide) q972 rfl dX8_prop_68 ?_
          refine lv_bipush (pc := 71) (v := (104 : Int32)) hx hb dX8_prop_71 (by decide) ?_
          refine lv_iload_n (pc := 73) hx hb dX8_prop_73 rfl (lv_at hl 1 rfl) ?_
          refine lv_iadd (pc := 74) hx hb dX8_prop_74 ?_
          obtain ⟨c19, h⟩ := ite_some h
          refine x_iald (pc := 75) (j := ((104 : Int32) + x1).toNatClampNeg) E hP (by decide) sh8a1 0 rfl (inb_in c19) rfl dX8_prop_75 ?_
          obtain rfl := som1 h
          exact x_iret E hP hS rfl dX8_prop_76
        · have h := (if_neg c18).symm.trans h
          refine lv_bipush (pc := 62) (v := (-5 : Int32)) hx hb dX8_prop_62 (by decide) ?_
          refine lv_goto (pc := 64) (tgt := 76) hx hb dX8_prop_64 (by decide) ?_
          obtain rfl := som1 h
          exact x_iret E hP hS rfl dX8_prop_76
      · have h := (if_neg c5).symm.trans h
        by_cases c6 : x2 = (2 : Int32)
        · have h := (if_pos c6).symm.trans h
          refine lv_tableIn (pc := 11) (off := 66) (tgt := 77) hx hb dX8_prop_11 (by rw [c6]; decide) (by rw [c6]; decide) (by rw [c6]; decide) (by decide) ?_
          refine lv_aload_n (pc := 77) hx hb dX8_prop_77 rfl (lv_at hl 0 rfl) ?_
          refine lv_iload_n (pc := 78) hx hb dX8_prop_78 rfl (lv_at hl 1 rfl) ?_
          obtain ⟨y13, hy13, h⟩ := bnd_ex h
          refine x_callVi (pc := 79) (st := .int x1 :: .ref (ad 0) :: []) (As := [.int x1]) E hEx hl.1 hP hS (kX8_propAtHand hap  M _ _ hy13) gX8_48 hdX8_propAtHand rfl (by decide) sh8 rfl ⟨Nat.le_of_ble_eq_true rfl, Nat.le_of_ble_eq_true rfl⟩ ⟨rfl, rfl⟩ dX8_prop_79 rfl (Nat.le_of_ble_eq_true rfl) (fun H locs hP hS n14 => ?_)
          refine lv_if_eq (pc := 82) (tgt := 89) hx hb dX8_prop_82 (by decide) (fun c15 => ?_) (fun c15 => ?_)
          · have h := (if_pos c15).symm.trans h
            refine lv_iconst (pc := 89) (v := (0 : Int32)) hx hb dX8_prop_89 (by decide) ?_
            obtain rfl := som1 h
            exact x_iret E hP hS rfl dX8_prop_90
          · have h := (if_neg c15).symm.trans h
            refine lv_iconst (pc := 85) (v := (1 : Int32)) hx hb dX8_prop_85 (by decide) ?_
            refine lv_goto (pc := 86) (tgt := 90) hx hb dX8_prop_86 (by decide) ?_
            obtain rfl := som1 h
            exact x_iret E hP hS rfl dX8_prop_90
        · have h := (if_neg c6).symm.trans h
          by_cases c7 : x2 = (3 : Int32)
          · have h := (if_pos c7).symm.trans h
            refine lv_tableIn (pc := 11) (off := 80) (tgt := 91) hx hb dX8_prop_11 (by rw [c7]; decide) (by rw [c7]; decide) (by rw [c7]; decide) (by decide) ?_
            refine lv_aload_n (pc := 91) hx hb dX8_prop_91 rfl (lv_at hl 0 rfl) ?_
            refine lv_iload_n (pc := 92) hx hb dX8_prop_92 rfl (lv_at hl 1 rfl) ?_
            obtain ⟨y11, hy11, h⟩ := bnd_ex h
            refine x_callVi (pc := 93) (st := .int x1 :: .ref (ad 0) :: []) (As := [.int x1]) E hEx hl.1 hP hS (kX8_cluesOn hap  M _ _ hy11) gX8_199 hdX8_cluesOn rfl (by decide) sh8 rfl ⟨Nat.le_of_ble_eq_true rfl, Nat.le_of_ble_eq_true rfl⟩ ⟨rfl, rfl⟩ dX8_prop_93 rfl (Nat.le_of_ble_eq_true rfl) (fun H locs hP hS n12 => ?_)
            obtain rfl := som1 h
            exact x_iret E hP hS rfl dX8_prop_96
          · have h := (if_neg c7).symm.trans h
            by_cases c8 : x2 = (4 : Int32)
            · have h := (if_pos c8).symm.trans h
              refine lv_tableIn (pc := 11) (off := 86) (tgt := 97) hx hb dX8_prop_11 (by rw [c8]; decide) (by rw [c8]; decide) (by rw [c8]; decide) (by decide) ?_
              refine lv_aload_n (pc := 97) hx hb dX8_prop_97 rfl (lv_at hl 0 rfl) ?_
              refine lv_iload_n (pc := 98) hx hb dX8_prop_98 rfl (lv_at hl 1 rfl) ?_
              obtain ⟨y9, hy9, h⟩ := bnd_ex h
              refine x_callVi (pc := 99) (st := .int x1 :: .ref (ad 0) :: []) (As := [.int x1]) E hEx hl.1 hP hS (kX8_locksWith hap  M _ _ hy9) gX8_202 hdX8_locksWith rfl (by decide) sh8 rfl ⟨Nat.le_of_ble_eq_true rfl, Nat.le_of_ble_eq_true rfl⟩ ⟨rfl, rfl⟩ dX8_prop_99 rfl (Nat.le_of_ble_eq_true rfl) (fun H locs hP hS n10 => ?_)
              obtain rfl := som1 h
              exact x_iret E hP hS rfl dX8_prop_102
            · have h := (if_neg c8).symm.trans h
              refine lv_tableOut (pc := 11) (tgt := 103) hx hb dX8_prop_11 (by have e0 := ne_lit (k := 0) (by decide) c4; have e1 := ne_lit (k := 1) (by decide) c5; have e2 := ne_lit (k := 2) (by decide) c6; have e3 := ne_lit (k := 3) (by decide) c7; have e4 := ne_lit (k := 4) (by decide) c8; omega) (by decide) ?_
              refine lv_bipush (pc := 103) (v := (-2 : Int32)) hx hb dX8_prop_103 (by decide) ?_
              obtain rfl := som1 h
              exact x_iret E hP hS rfl dX8_prop_105
  · have h := (if_neg c3).symm.trans h
    refine lv_iconst (pc := 8) (v := (-1 : Int32)) hx hb dX8_prop_8 (by decide) ?_
    obtain rfl := som1 h
    exact x_iret E hP hS rfl dX8_prop_9
end
