section
variable {G : va_G} {ad sK sV : Nat → Nat} {cA cZ cC : ClassId}
set_option maxRecDepth 100000 in
set_option maxHeartbeats 4000000 in
theorem kX6_copyFrom (hap : Apart 78 ad) {k : Nat} {k2 : Nat} (hk : StA k) (hk2 : StA k2) (M : Mem)  (M' : Mem) (h : fX6_copyFrom k k2 M = some M') : XV G ad sK sV cA cZ cC yX6_copyFrom cX6_copyFrom 2 ({ frames := 2, cells := 0, slots := 0, locals := 44 } : Room) [.ref (ad k), .ref (ad k2)] M M' := by
  refine CV.mk (own := RX6) (ls0 := [(0, .ref (ad k)), (1, .ref (ad k2))]) (by decide +kernel) rfl hap (Nat.le_of_ble_eq_true rfl) rfl ?_
  intro p l e s m args below meth c ls E hP hl
  have hx := E.1
  have hb := E.2.1
  have hown := E.2.2.2.2.2.1
  have hts := E.2.2.2.2.2.2.1
  have hNe := E.2.2.2.2.2.2.2.2.1.1
  have hEx := ExX.ok ad sK sV
  have hS : va_S (AW 78 ad) s.heap s.heap [] := va_S.rf
  unfold fX6_copyFrom at h
  refine lv_aload_n (pc := 0) hx hb dX6_copyFrom_0 rfl (lv_at hl 0 rfl) ?_
  refine x_get (pc := 1) (v := .ref (ad (k + 1))) E hP (StA.lt hk) (sh6 hk) rfl inX6 0 (by decide) q253 rfl dX6_copyFrom_1 ?_
  refine lv_aload_n (pc := 4) hx hb dX6_copyFrom_4 rfl (lv_at hl 1 rfl) ?_
  refine x_get (pc := 5) (v := .ref (ad (k2 + 1))) E hP (StA.lt hk2) (sh6 hk2) rfl inX6 0 (by decide) q253 rfl dX6_copyFrom_5 ?_
  obtain ⟨M1, hM1, h⟩ := bnd_ex h
  refine x_callVv (pc := 8) (st := .ref (ad (k2 + 1)) :: .ref (ad (k + 1)) :: []) (As := [.ref (ad (k2 + 1))]) E hEx hl.1 hP hS (kX5_copyFrom hap (StA.RoA hk) (StA.RoA hk2) M  _ hM1) gX6_53 hdX5_copyFrom rfl (RoA.lt (StA.RoA hk)) (sh5 (StA.RoA hk)) rfl ⟨Nat.le_of_ble_eq_true rfl, Nat.le_of_ble_eq_true rfl⟩ ⟨rfl, rfl⟩ dX6_copyFrom_8 rfl (Nat.le_of_ble_eq_true rfl) (fun H locs hP hS => ?_)
  refine lv_aload_n (pc := 11) hx hb dX6_copyFrom_11 rfl (lv_at hl 0 rfl) ?_
  refine x_get (pc := 12) (v := .ref (ad (k + 13))) E hP (StA.lt hk) (sh6 hk) rfl inX6 1 (by decide) q255 rfl dX6_copyFrom_12 ?_
  refine lv_aload_n (pc := 15) hx hb dX6_copyFrom_15 rfl (lv_at hl 1 rfl) ?_
  refine x_get (pc := 16) (v := .ref (ad (k2 + 13))) E hP (StA.lt hk2) (sh6 hk2) rfl inX6 1 (by decide) q255 rfl dX6_copyFrom_16 ?_
  obtain ⟨M2, hM2, h⟩ := bnd_ex h
  refine x_callVv (pc := 19) (st := .ref (ad (k2 + 13)) :: .ref (ad (k + 13)) :: []) (As := [.ref (ad (k2 + 13))]) E hEx hl.1 hP hS (kX3_copyFrom hap (StA.QuA hk) (StA.QuA hk2) M1  _ hM2) gX6_57 hdX3_copyFrom rfl (QuA.lt (StA.QuA hk)) (sh3 (StA.QuA hk)) rfl ⟨Nat.le_of_ble_eq_true rfl, Nat.le_of_ble_eq_true rfl⟩ ⟨rfl, rfl⟩ dX6_copyFrom_19 rfl (Nat.le_of_ble_eq_true rfl) (fun H locs hP hS => ?_)
  refine lv_aload_n (pc := 22) hx hb dX6_copyFrom_22 rfl (lv_at hl 0 rfl) ?_
  refine x_get (pc := 23) (v := .ref (ad (k + 16))) E hP (StA.lt hk) (sh6 hk) rfl inX6 2 (by decide) q257 rfl dX6_copyFrom_23 ?_
  refine lv_aload_n (pc := 26) hx hb dX6_copyFrom_26 rfl (lv_at hl 1 rfl) ?_
  refine x_get (pc := 27) (v := .ref (ad (k2 + 16))) E hP (StA.lt hk2) (sh6 hk2) rfl inX6 2 (by decide) q257 rfl dX6_copyFrom_27 ?_
  obtain ⟨M3, hM3, h⟩ := bnd_ex h
  refine x_callVv (pc := 30) (st := .ref (ad (k2 + 16)) :: .ref (ad (k + 16)) :: []) (As := [.ref (ad (k2 + 16))]) E hEx hl.1 hP hS (kX1_copyFrom hap (StA.GaA hk) (StA.GaA hk2) M2  _ hM3) gX6_60 hdX1_copyFrom rfl (GaA.lt (StA.GaA hk)) (sh1 (StA.GaA hk)) rfl ⟨Nat.le_of_ble_eq_true rfl, Nat.le_of_ble_eq_true rfl⟩ ⟨rfl, rfl⟩ dX6_copyFrom_30 rfl (Nat.le_of_ble_eq_true rfl) (fun H locs hP hS => ?_)
  refine lv_aload_n (pc := 33) hx hb dX6_copyFrom_33 rfl (lv_at hl 0 rfl) ?_
  refine x_get (pc := 34) (v := .ref (ad (k + 17))) E hP (StA.lt hk) (sh6 hk) rfl inX6 3 (by decide) q259 rfl dX6_copyFrom_34 ?_
  refine lv_aload_n (pc := 37) hx hb dX6_copyFrom_37 rfl (lv_at hl 1 rfl) ?_
  refine x_get (pc := 38) (v := .ref (ad (k2 + 17))) E hP (StA.lt hk2) (sh6 hk2) rfl inX6 3 (by decide) q259 rfl dX6_copyFrom_38 ?_
  obtain ⟨M4, hM4, h⟩ := bnd_ex h
  refine x_callVv (pc := 41) (st := .ref (ad (k2 + 17)) :: .ref (ad (k + 17)) :: []) (As := [.ref (ad (k2 + 17))]) E hEx hl.1 hP hS (kX4_copyFrom hap (StA.ReA hk) (StA.ReA hk2) M3  _ hM4) gX6_63 hdX4_copyFrom rfl (ReA.lt (StA.ReA hk)) (sh4 (StA.ReA hk)) rfl ⟨Nat.le_of_ble_eq_true rfl, Nat.le_of_ble_eq_true rfl⟩ ⟨rfl, rfl⟩ dX6_copyFrom_41 rfl (Nat.le_of_ble_eq_true rfl) (fun H locs hP hS => ?_)
  refine lv_aload_n (pc := 44) hx hb dX6_copyFrom_44 rfl (lv_at hl 0 rfl) ?_
  refine x_get (pc := 45) (v := .ref (ad (k + 19))) E hP (StA.lt hk) (sh6 hk) rfl inX6 4 (by decide) q261 rfl dX6_copyFrom_45 ?_
  refine lv_aload_n (pc := 48) hx hb dX6_copyFrom_48 rfl (lv_at hl 1 rfl) ?_
  refine x_get (pc := 49) (v := .ref (ad (k2 + 19))) E hP (StA.lt hk2) (sh6 hk2) rfl inX6 4 (by decide) q261 rfl dX6_copyFrom_49 ?_
  obtain ⟨M5, hM5, h⟩ := bnd_ex h
  refine x_callVv (pc := 52) (st := .ref (ad (k2 + 19)) :: .ref (ad (k + 19)) :: []) (As := [.ref (ad (k2 + 19))]) E hEx hl.1 hP hS (kX2_copyFrom hap (StA.LoA hk) (StA.LoA hk2) M4  _ hM5) gX6_66 hdX2_copyFrom rfl (LoA.lt (StA.LoA hk)) (sh2 (StA.LoA hk)) rfl ⟨Nat.le_of_ble_eq_true rfl, Nat.le_of_ble_eq_true rfl⟩ ⟨rfl, rfl⟩ dX6_copyFrom_52 rfl (Nat.le_of_ble_eq_true rfl) (fun H locs hP hS => ?_)
  refine lv_aload_n (pc := 55) hx hb dX6_copyFrom_55 rfl (lv_at hl 0 rfl) ?_
  refine lv_aload_n (pc := 56) hx hb dX6_copyFrom_56 rfl (lv_at hl 1 rfl) ?_
  refine x_get (pc := 57) (v := .int (M5 k2 5)) E hP (StA.lt hk2) (sh6 hk2) rfl inX6 5 (by decide) q263 rfl dX6_copyFrom_57 ?_
  obtain ⟨M6, hM6, h⟩ := thn_ex h
  refine x_put (pc := 60) (v := (M5 k2 5)) E hP hS (StA.lt hk) (sh6 hk) tyX6 tyX6_ok nmX6 rfl inX6 5 (by decide) q263 rfl rfl rfl (Nat.le_of_ble_eq_true rfl) rfl dX6_copyFrom_60 (fun H locs hP hS => ?_)
  rw [hM6] at hP
  refine lv_aload_n (pc := 63) hx hb dX6_copyFrom_63 rfl (lv_at hl 0 rfl) ?_
  refine lv_aload_n (pc := 64) hx hb dX6_copyFrom_64 rfl (lv_at hl 1 rfl) ?_
  refine x_get (pc := 65) (v := .int (M6 k2 6)) E hP (StA.lt hk2) (sh6 hk2) rfl inX6 6 (by decide) q265 rfl dX6_copyFrom_65 ?_
  obtain ⟨M7, hM7, h⟩ := thn_ex h
  refine x_put (pc := 68) (v := (M6 k2 6)) E hP hS (StA.lt hk) (sh6 hk) tyX6 tyX6_ok nmX6 rfl inX6 6 (by decide) q265 rfl rfl rfl (Nat.le_of_ble_eq_true rfl) rfl dX6_copyFrom_68 (fun H locs hP hS => ?_)
  rw [hM7] at hP
  refine lv_aload_n (pc := 71) hx hb dX6_copyFrom_71 rfl (lv_at hl 0 rfl) ?_
  refine lv_aload_n (pc := 72) hx hb dX6_copyFrom_72 rfl (lv_at hl 1 rfl) ?_
  refine x_get (pc := 73) (v := .int (M7 k2 7)) E hP (StA.lt hk2) (sh6 hk2) rfl inX6 7 (by decide) q267 rfl dX6_copyFrom_73 ?_
  obtain ⟨M8, hM8, h⟩ := thn_ex h
  refine x_put (pc := 76) (v := (M7 k2 7)) E hP hS (StA.lt hk) (sh6 hk) tyX6 tyX6_ok nmX6 rfl inX6 7 (by decide) q267 rfl rfl rfl (Nat.le_of_ble_eq_true rfl) rfl dX6_copyFrom_76 (fun H locs hP hS => ?_)
  rw [hM8] at hP
  refine lv_aload_n (pc := 79) hx hb dX6_copyFrom_79 rfl (lv_at hl 0 rfl) ?_
  refine lv_aload_n (pc := 80) hx hb dX6_copyFrom_80 rfl (lv_at hl 1 rfl) ?_
  refine x_get (pc := 81) (v := .int (M8 k2 8)) E hP (StA.lt hk2) (sh6 hk2) rfl inX6 8 (by decide) q269 rfl dX6_copyFrom_81 ?_
  obtain ⟨M9, hM9, h⟩ := thn_ex h
  refine x_put (pc := 84) (v := (M8 k2 8)) E hP hS (StA.lt hk) (sh6 hk) tyX6 tyX6_ok nmX6 rfl inX6 8 (by decide) q269 rfl rfl rfl (Nat.le_of_ble_eq_true rfl) rfl dX6_copyFrom_84 (fun H locs hP hS => ?_)
  rw [hM9] at hP
  obtain rfl := som1 h
  exact x_vret E hP hS dX6_copyFrom_87
set_option maxRecDepth 100000 in
set_option maxHeartbeats 4000000 in
theorem kX6_pass (hap : Apart 78 ad) {k : Nat} (hk : StA k) (M : Mem) (x1 : Int32) (M' : Mem) (h : fX6_pass k M x1 = some M') : XV G ad sK sV cA cZ cC yX6_pass cX6_pass 3 ({ frames := 4, cells := 0, slots := 0, locals := 88 } : Room) [.ref (ad k), .int x1] M M' := by
  refine CV.mk (own := RX6) (ls0 := [(0, .ref (ad k)), (1, .int x1)]) (by decide +kernel) rfl hap (Nat.le_of_ble_eq_true rfl) rfl ?_
  intro p l e s m args below meth c ls E hP hl
  have hx := E.1
  have hb := E.2.1
  have hown := E.2.2.2.2.2.1
  have hts := E.2.2.2.2.2.2.1
  have hNe := E.2.2.2.2.2.2.2.2.1.1
  have hEx := ExX.ok ad sK sV
  have hS : va_S (AW 78 ad) s.heap s.heap [] := va_S.rf
  unfold fX6_pass at h
  refine lv_aload_n (pc := 0) hx hb dX6_pass_0 rfl (lv_at hl 0 rfl) ?_
  refine x_get (pc := 1) (v := .int (M k 5)) E hP (StA.lt hk) (sh6 hk) rfl inX6 5 (by decide) q263 rfl dX6_pass_1 ?_
  refine lv_iload_n (pc := 4) hx hb dX6_pass_4 rfl (lv_at hl 1 rfl) ?_
  refine lv_iadd (pc := 5) hx hb dX6_pass_5 ?_
  refine lv_bipush (pc := 6) (v := (60 : Int32)) hx hb dX6_pass_6 (by decide) ?_
  refine lv_idiv (pc := 8) hx hb dX6_pass_8 (by decide) ?_
  refine lv_aload_n (pc := 9) hx hb dX6_pass_9 rfl (lv_at hl 0 rfl) ?_
  refine x_get (pc := 10) (v := .int (M k 5)) E hP (StA.lt hk) (sh6 hk) rfl inX6 5 (by decide) q263 rfl dX6_pass_10 ?_
  refine lv_bipush (pc := 13) (v := (60 : Int32)) hx hb dX6_pass_13 (by decide) ?_
  refine lv_idiv (pc := 15) hx hb dX6_pass_15 (by decide) ?_
  refine lv_isub (pc := 16) hx hb dX6_pass_16 ?_
  obtain ⟨y1, hy1, h⟩ := thn_ex h
  refine W.eq (g2 := F0 m 17 ls (.int y1 :: [])) (by rw [← hy1]) ?_
  refine lv_istore_n (pc := 17) (lv' := [(2, .int y1), (0, .ref (ad k)), (1, .int x1)]) hx hb dX6_pass_17 rfl hl (by decide) rfl (fun ls hl => ?_)
  refine lv_aload_n (pc := 18) hx hb dX6_pass_18 rfl (lv_at hl 1 rfl) ?_
  refine lv_dup (pc := 19) hx hb dX6_pass_19 rfl ?_
  refine x_get (pc := 20) (v := .int (M k 5)) E hP (StA.lt hk) (sh6 hk) rfl inX6 5 (by decide) q263 rfl dX6_pass_20 ?_
  refine lv_iload_n (pc := 23) hx hb dX6_pass_23 rfl (lv_at hl 2 rfl) ?_
  refine lv_iadd (pc := 24) hx hb dX6_pass_24 ?_
  obtain ⟨M2, hM2, h⟩ := thn_ex h
  refine x_put (pc := 25) (v := ((M k 5) + x1)) E hP hS (StA.lt hk) (sh6 hk) tyX6 tyX6_ok nmX6 rfl inX6 5 (by decide) q263 rfl rfl rfl (Nat.le_of_ble_eq_true rfl) rfl dX6_pass_25 (fun H locs hP hS => ?_)
  rw [hM2] at hP
  refine lv_iload_n (pc := 28) hx hb dX6_pass_28 rfl (lv_at hl 0 rfl) ?_
  refine lv_if_le (pc := 29) (tgt := 40) hx hb dX6_pass_29 (by decide) (fun c3 => ?_) (fun c3 => ?_)
  · have h := (if_pos c3).symm.trans h
    obtain rfl := som1 h
    exact x_vret E hP hS dX6_pass_40
  · have h := (if_neg c3).symm.trans h
    refine lv_aload_n (pc := 32) hx hb dX6_pass_32 rfl (lv_at hl 1 rfl) ?_
    refine x_get (pc := 33) (v := .ref (ad (k + 1))) E hP (StA.lt hk) (sh6 hk) rfl inX6 0 (by decide) q253 rfl dX6_pass_33 ?_
    refine lv_iload_n (pc := 36) hx hb dX6_pass_36 rfl (lv_at hl 0 rfl) ?_
    obtain ⟨M4, hM4, h⟩ := bnd_ex h
    refine x_callVv (pc := 37) (st := .int y1 :: .ref (ad (k + 1)) :: []) (As := [.int y1]) E hEx hl.1 hP hS (kX5_fade hap (StA.RoA hk) M2 _ _ hM4) gX6_75 hdX5_fade rfl (RoA.lt (StA.RoA hk)) (sh5 (StA.RoA hk)) rfl ⟨Nat.le_of_ble_eq_true rfl, Nat.le_of_ble_eq_true rfl⟩ ⟨rfl, rfl⟩ dX6_pass_37 rfl (Nat.le_of_ble_eq_true rfl) (fun H locs hP hS => ?_)
    obtain rfl := som1 h
    exact x_vret E hP hS dX6_pass_40
set_option maxRecDepth 100000 in
set_option maxHeartbeats 4000000 in
theorem kX6_gameMinute (hap : Apart 78 ad) {k : Nat} (hk : StA k) (M : Mem)  (v : Int32) (h : fX6_gameMinute k M = v) : XI G ad sK sV cA cZ cC yX6_gameMinute cX6_gameMinute 1 .int ({ frames := 0, cells := 0, slots := 0, locals := 0 } : Room) [.ref (ad k)] M v M := by
  refine CI.mk (own := RX6) (ls0 := [(0, .ref (ad k))]) (by decide +kernel) rfl hap (Nat.le_of_ble_eq_true rfl) rfl ?_
  intro p l e s m args below meth c ls E hP hl
  have hx := E.1
  have hb := E.2.1
  have hown := E.2.2.2.2.2.1
  have hts := E.2.2.2.2.2.2.1
  have hNe := E.2.2.2.2.2.2.2.2.1.1
  have hEx := ExX.ok ad sK sV
  have hS : va_S (AW 78 ad) s.heap s.heap [] := va_S.rf
  unfold fX6_gameMinute at h
  refine lv_aload_n (pc := 0) hx hb dX6_gameMinute_0 rfl (lv_at hl 0 rfl) ?_
  refine x_get (pc := 1) (v := .int (M k 5)) E hP (StA.lt hk) (sh6 hk) rfl inX6 5 (by decide) q263 rfl dX6_gameMinute_1 ?_
  refine lv_aload_n (pc := 4) hx hb dX6_gameMinute_4 rfl (lv_at hl 0 rfl) ?_
  refine x_get (pc := 5) (v := .ref (ad (k + 16))) E hP (StA.lt hk) (sh6 hk) rfl inX6 2 (by decide) q257 rfl dX6_gameMinute_5 ?_
  refine x_get (pc := 8) (v := .int (M (k + 16) 3)) E hP (GaA.lt (StA.GaA hk)) (sh1 (StA.GaA hk)) rfl inX1 3 (by decide) q195 rfl dX6_gameMinute_8 ?_
  refine lv_isub (pc := 11) hx hb dX6_gameMinute_11 ?_
  obtain rfl : ((M k 5) - (M (k + 16) 3)) = v := h
  exact x_iret E hP hS rfl dX6_gameMinute_12
set_option maxRecDepth 100000 in
set_option maxHeartbeats 4000000 in
theorem kX6_minutesLeft (hap : Apart 78 ad) {k : Nat} (hk : StA k) (M : Mem)  (v : Int32) (h : fX6_minutesLeft k M = v) : XI G ad sK sV cA cZ cC yX6_minutesLeft cX6_minutesLeft 1 .int ({ frames := 0, cells := 0, slots := 0, locals := 0 } : Room) [.ref (ad k)] M v M := by
  refine CI.mk (own := RX6) (ls0 := [(0, .ref (ad k))]) (by decide +kernel) rfl hap (Nat.le_of_ble_eq_true rfl) rfl ?_
  intro p l e s m args below meth c ls E hP hl
  have hx := E.1
  have hb := E.2.1
  have hown := E.2.2.2.2.2.1
  have hts := E.2.2.2.2.2.2.1
  have hNe := E.2.2.2.2.2.2.2.2.1.1
  have hEx := ExX.ok ad sK sV
  have hS : va_S (AW 78 ad) s.heap s.heap [] := va_S.rf
  unfold fX6_minutesLeft at h
  refine lv_aload_n (pc := 0) hx hb dX6_minutesLeft_0 rfl (lv_at hl 0 rfl) ?_
  refine x_get (pc := 1) (v := .ref (ad (k + 16))) E hP (StA.lt hk) (sh6 hk) rfl inX6 2 (by decide) q257 rfl dX6_minutesLeft_1 ?_
  refine x_get (pc := 4) (v := .int (M (k + 16) 3)) E hP (GaA.lt (StA.GaA hk)) (sh1 (StA.GaA hk)) rfl inX1 3 (by decide) q195 rfl dX6_minutesLeft_4 ?_
  refine lv_aload_n (pc := 7) hx hb dX6_minutesLeft_7 rfl (lv_at hl 0 rfl) ?_
  refine x_get (pc := 8) (v := .int (M k 7)) E hP (StA.lt hk) (sh6 hk) rfl inX6 7 (by decide) q267 rfl dX6_minutesLeft_8 ?_
  refine lv_iadd (pc := 11) hx hb dX6_minutesLeft_11 ?_
  refine lv_aload_n (pc := 12) hx hb dX6_minutesLeft_12 rfl (lv_at hl 0 rfl) ?_
  refine x_get (pc := 13) (v := .int (M k 5)) E hP (StA.lt hk) (sh6 hk) rfl inX6 5 (by decide) q263 rfl dX6_minutesLeft_13 ?_
  refine lv_isub (pc := 16) hx hb dX6_minutesLeft_16 ?_
  obtain rfl : (((M (k + 16) 3) + (M k 7)) - (M k 5)) = v := h
  exact x_iret E hP hS rfl dX6_minutesLeft_17
set_option maxRecDepth 100000 in
set_option maxHeartbeats 4000000 in
theorem kX6_hasTimeFor (hap : Apart 78 ad) {k : Nat} (hk : StA k) (M : Mem) (x1 : Int32) (v : Int32) (h : fX6_hasTimeFor k M x1 = v) : XI G ad sK sV cA cZ cC yX6_hasTimeFor cX6_hasTimeFor 2 .boolean ({ frames := 1, cells := 0, slots := 0, locals := 20 } : Room) [.ref (ad k), .int x1] M v M := by
  refine CI.mk (own := RX6) (ls0 := [(0, .ref (ad k)), (1, .int x1)]) (by decide +kernel) rfl hap (Nat.le_of_ble_eq_true rfl) rfl ?_
  intro p l e s m args below meth c ls E hP hl
  have hx := E.1
  have hb := E.2.1
  have hown := E.2.2.2.2.2.1
  have hts := E.2.2.2.2.2.2.1
  have hNe := E.2.2.2.2.2.2.2.2.1.1
  have hEx := ExX.ok ad sK sV
  have hS : va_S (AW 78 ad) s.heap s.heap [] := va_S.rf
  unfold fX6_hasTimeFor at h
  refine lv_iload_n (pc := 0) hx hb dX6_hasTimeFor_0 rfl (lv_at hl 1 rfl) ?_
  refine lv_aload_n (pc := 1) hx hb dX6_hasTimeFor_1 rfl (lv_at hl 0 rfl) ?_
  refine x_callVi (pc := 2) (st := .ref (ad k) :: .int x1 :: []) (As := []) E hEx hl.1 hP hS (kX6_minutesLeft hap hk M  _ rfl) gX6_82 hdX6_minutesLeft rfl (StA.lt hk) (sh6 hk) rfl ⟨Nat.le_of_ble_eq_true rfl, Nat.le_of_ble_eq_true rfl⟩ ⟨rfl, rfl⟩ dX6_hasTimeFor_2 rfl (Nat.le_of_ble_eq_true rfl) (fun H locs hP hS n1 => ?_)
  refine lv_icmp_gt (pc := 5) (tgt := 12) hx hb dX6_hasTimeFor_5 (by decide) (fun c2 => ?_) (fun c2 => ?_)
  · have h := (if_pos c2).symm.trans h
    refine lv_iconst (pc := 12) (v := (0 : Int32)) hx hb dX6_hasTimeFor_12 (by decide) ?_
    obtain rfl : (0 : Int32) = v := h
    exact x_iret E hP hS rfl dX6_hasTimeFor_13
  · have h := (if_neg c2).symm.trans h
    refine lv_iconst (pc := 8) (v := (1 : Int32)) hx hb dX6_hasTimeFor_8 (by decide) ?_
    refine lv_goto (pc := 9) (tgt := 13) hx hb dX6_hasTimeFor_9 (by decide) ?_
    obtain rfl : (1 : Int32) = v := h
    exact x_iret E hP hS rfl dX6_hasTimeFor_13
set_option maxRecDepth 100000 in
set_option maxHeartbeats 4000000 in
theorem kX6_note (hap : Apart 78 ad) {k : Nat} {j : Nat} (hk : StA k) (hj : j < 13) (M : Mem) (x2 x3 : Int32) (M' : Mem) (h : fX6_note k j M x2 x3 = some M') : XV G ad sK sV cA cZ cC yX6_note cX6_note 4 ({ frames := 6, cells := 0, slots := 0, locals := 186 } : Room) [.ref (ad k), .ref (sK j), .int x2, .int x3] M M' := by
  refine CV.mk (own := RX6) (ls0 := [(0, .ref (ad k)), (1, .ref (sK j)), (2, .int x2), (3, .int x3)]) (by decide +kernel) rfl hap (Nat.le_of_ble_eq_true rfl) rfl ?_
  intro p l e s m args below meth c ls E hP hl
  have hx := E.1
  have hb := E.2.1
  have hown := E.2.2.2.2.2.1
  have hts := E.2.2.2.2.2.2.1
  have hNe := E.2.2.2.2.2.2.2.2.1.1
  have hEx := ExX.ok ad sK sV
  have hS : va_S (AW 78 ad) s.heap s.heap [] := va_S.rf
  unfold fX6_note at h
  refine lv_aload_n (pc := 0) hx hb dX6_note_0 rfl (lv_at hl 0 rfl) ?_
  refine x_get (pc := 1) (v := .ref (ad (k + 19))) E hP (StA.lt hk) (sh6 hk) rfl inX6 4 (by decide) q261 rfl dX6_note_1 ?_
  refine lv_aload_n (pc := 4) hx hb dX6_note_4 rfl (lv_at hl 0 rfl) ?_
  refine x_callVi (pc := 5) (st := .ref (ad k) :: .ref (ad (k + 19)) :: []) (As := []) E hEx hl.1 hP hS (kX6_gameMinute hap hk M  _ rfl) gX6_86 hdX6_gameMinute rfl (StA.lt hk) (sh6 hk) rfl ⟨Nat.le_of_ble_eq_true rfl, Nat.le_of_ble_eq_true rfl⟩ ⟨rfl, rfl⟩ dX6_note_5 rfl (Nat.le_of_ble_eq_true rfl) (fun H locs hP hS n1 => ?_)
  refine lv_aload_n (pc := 8) hx hb dX6_note_8 rfl (lv_at hl 1 rfl) ?_
  refine lv_iload_n (pc := 9) hx hb dX6_note_9 rfl (lv_at hl 2 rfl) ?_
  refine lv_iload_n (pc := 10) hx hb dX6_note_10 rfl (lv_at hl 3 rfl) ?_
  obtain ⟨M2, hM2, h⟩ := bnd_ex h
  refine x_callVv (pc := 11) (st := .int x3 :: .int x2 :: .ref (sK j) :: .int (fX6_gameMinute k M) :: .ref (ad (k + 19)) :: []) (As := [.int (fX6_gameMinute k M), .ref (sK j), .int x2, .int x3]) E hEx hl.1 hP hS (kX2_append hap (StA.LoA hk) hj M _ _ _ _ hM2) gX6_89 hdX2_append rfl (LoA.lt (StA.LoA hk)) (sh2 (StA.LoA hk)) rfl ⟨Nat.le_of_ble_eq_true rfl, Nat.le_of_ble_eq_true rfl⟩ ⟨rfl, rfl⟩ dX6_note_11 rfl (Nat.le_of_ble_eq_true rfl) (fun H locs hP hS => ?_)
  obtain rfl := som1 h
  exact x_vret E hP hS dX6_note_14
set_option maxRecDepth 100000 in
set_option maxHeartbeats 4000000 in
theorem kX6_beginGame (hap : Apart 78 ad) {k : Nat} (hk : StA k) (M : Mem)  (v : Int32) (M' : Mem) (h : fX6_beginGame k M = some (v, M')) : XI G ad sK sV cA cZ cC yX6_beginGame cX6_beginGame 1 .int ({ frames := 5, cells := 0, slots := 0, locals := 110 } : Room) [.ref (ad k)] M v M' := by
  refine CI.mk (own := RX6) (ls0 := [(0, .ref (ad k))]) (by decide +kernel) rfl hap (Nat.le_of_ble_eq_true rfl) rfl ?_
  intro p l e s m args below meth c ls E hP hl
  have hx := E.1
  have hb := E.2.1
  have hown := E.2.2.2.2.2.1
  have hts := E.2.2.2.2.2.2.1
  have hNe := E.2.2.2.2.2.2.2.2.1.1
  have hEx := ExX.ok ad sK sV
  have hS : va_S (AW 78 ad) s.heap s.heap [] := va_S.rf
  unfold fX6_beginGame at h
  refine lv_aload_n (pc := 0) hx hb dX6_beginGame_0 rfl (lv_at hl 0 rfl) ?_
  refine x_get (pc := 1) (v := .ref (ad (k + 16))) E hP (StA.lt hk) (sh6 hk) rfl inX6 2 (by decide) q257 rfl dX6_beginGame_1 ?_
  refine lv_aload_n (pc := 4) hx hb dX6_beginGame_4 rfl (lv_at hl 0 rfl) ?_
  refine x_get (pc := 5) (v := .ref (ad (k + 13))) E hP (StA.lt hk) (sh6 hk) rfl inX6 1 (by decide) q255 rfl dX6_beginGame_5 ?_
  refine x_get (pc := 8) (v := .ref (ad (k + 14))) E hP (QuA.lt (StA.QuA hk)) (sh3 (StA.QuA hk)) rfl inX3 1 (by decide) q165 rfl dX6_beginGame_8 ?_
  refine lv_iconst (pc := 11) (v := (0 : Int32)) hx hb dX6_beginGame_11 (by decide) ?_
  refine x_callNi (pc := 12) (st := .int (0 : Int32) :: .ref (ad (k + 14)) :: .ref (ad (k + 16)) :: []) (As := [.ref (ad (k + 14)), .int (0 : Int32)]) E hEx hl.1 hP hS (c_at hap M (lt3a1 (StA.QuA hk)) (sh3a1 (StA.QuA hk)) (by decide) _ _ rfl) gcX7_at (hNe _ nw13) q17 q320 hsX7_at rfl ⟨Nat.le_of_ble_eq_true rfl, Nat.le_of_ble_eq_true rfl⟩ ⟨rfl, rfl⟩ dX6_beginGame_12 rfl (Nat.le_of_ble_eq_true rfl) (fun H locs hP hS n1 => ?_)
  obtain ⟨M2, hM2, h⟩ := thn_ex h
  refine x_put (pc := 15) (v := (atX M (k + 14) 8 (0 : Int32))) E hP hS (GaA.lt (StA.GaA hk)) (sh1 (StA.GaA hk)) tyX1 tyX1_ok nmX1 rfl inX1 1 (by decide) q188 rfl rfl rfl (Nat.le_of_ble_eq_true rfl) rfl dX6_beginGame_15 (fun H locs hP hS => ?_)
  rw [hM2] at hP
  refine lv_aload_n (pc := 18) hx hb dX6_beginGame_18 rfl (lv_at hl 0 rfl) ?_
  refine x_get (pc := 19) (v := .ref (ad (k + 16))) E hP (StA.lt hk) (sh6 hk) rfl inX6 2 (by decide) q257 rfl dX6_beginGame_19 ?_
  refine lv_aload_n (pc := 22) hx hb dX6_beginGame_22 rfl (lv_at hl 0 rfl) ?_
  refine x_get (pc := 23) (v := .ref (ad (k + 13))) E hP (StA.lt hk) (sh6 hk) rfl inX6 1 (by decide) q255 rfl dX6_beginGame_23 ?_
  refine x_get (pc := 26) (v := .ref (ad (k + 15))) E hP (QuA.lt (StA.QuA hk)) (sh3 (StA.QuA hk)) rfl inX3 2 (by decide) q168 rfl dX6_beginGame_26 ?_
  refine lv_iconst (pc := 29) (v := (0 : Int32)) hx hb dX6_beginGame_29 (by decide) ?_
  refine x_callNi (pc := 30) (st := .int (0 : Int32) :: .ref (ad (k + 15)) :: .ref (ad (k + 16)) :: []) (As := [.ref (ad (k + 15)), .int (0 : Int32)]) E hEx hl.1 hP hS (c_at hap M2 (lt3a2 (StA.QuA hk)) (sh3a2 (StA.QuA hk)) (by decide) _ _ rfl) gcX7_at (hNe _ nw13) q17 q320 hsX7_at rfl ⟨Nat.le_of_ble_eq_true rfl, Nat.le_of_ble_eq_true rfl⟩ ⟨rfl, rfl⟩ dX6_beginGame_30 rfl (Nat.le_of_ble_eq_true rfl) (fun H locs hP hS n3 => ?_)
  obtain ⟨M4, hM4, h⟩ := thn_ex h
  refine x_put (pc := 33) (v := (atX M2 (k + 15) 8 (0 : Int32))) E hP hS (GaA.lt (StA.GaA hk)) (sh1 (StA.GaA hk)) tyX1 tyX1_ok nmX1 rfl inX1 2 (by decide) q192 rfl rfl rfl (Nat.le_of_ble_eq_true rfl) rfl dX6_beginGame_33 (fun H locs hP hS => ?_)
  rw [hM4] at hP
  refine lv_aload_n (pc := 36) hx hb dX6_beginGame_36 rfl (lv_at hl 0 rfl) ?_
  refine x_get (pc := 37) (v := .ref (ad (k + 13))) E hP (StA.lt hk) (sh6 hk) rfl inX6 1 (by decide) q255 rfl dX6_beginGame_37 ?_
  refine lv_iconst (pc := 40) (v := (0 : Int32)) hx hb dX6_beginGame_40 (by decide) ?_
  obtain ⟨M5, hM5, h⟩ := bnd_ex h
  refine x_callVv (pc := 41) (st := .int (0 : Int32) :: .ref (ad (k + 13)) :: []) (As := [.int (0 : Int32)]) E hEx hl.1 hP hS (kX3_remove hap (StA.QuA hk) M4 _ _ hM5) gX6_109 hdX3_remove rfl (QuA.lt (StA.QuA hk)) (sh3 (StA.QuA hk)) rfl ⟨Nat.le_of_ble_eq_true rfl, Nat.le_of_ble_eq_true rfl⟩ ⟨rfl, rfl⟩ dX6_beginGame_41 rfl (Nat.le_of_ble_eq_true rfl) (fun H locs hP hS => ?_)
  refine lv_aload_n (pc := 44) hx hb dX6_beginGame_44 rfl (lv_at hl 0 rfl) ?_
  refine x_get (pc := 45) (v := .ref (ad (k + 16))) E hP (StA.lt hk) (sh6 hk) rfl inX6 2 (by decide) q257 rfl dX6_beginGame_45 ?_
  refine lv_aload_n (pc := 48) hx hb dX6_beginGame_48 rfl (lv_at hl 0 rfl) ?_
  refine x_get (pc := 49) (v := .int (M5 k 5)) E hP (StA.lt hk) (sh6 hk) rfl inX6 5 (by decide) q263 rfl dX6_beginGame_49 ?_
  refine lv_aload_n (pc := 52) hx hb dX6_beginGame_52 rfl (lv_at hl 0 rfl) ?_
  refine x_get (pc := 53) (v := .ref (ad (k + 16))) E hP (StA.lt hk) (sh6 hk) rfl inX6 2 (by decide) q257 rfl dX6_beginGame_53 ?_
  refine x_get (pc := 56) (v := .int (M5 (k + 16) 2)) E hP (GaA.lt (StA.GaA hk)) (sh1 (StA.GaA hk)) rfl inX1 2 (by decide) q192 rfl dX6_beginGame_56 ?_
  refine x_mmax (pc := 59) (own := RX6) (index := 112) hx hb (E.2.2.1.trans hl.1.symm) hown (hts _ q575) hts (Nat.le_of_ble_eq_true rfl) (Nat.le_of_ble_eq_true rfl) dX6_beginGame_59 ?_
  obtain ⟨M6, hM6, h⟩ := thn_ex h
  refine x_put (pc := 62) (v := (mxi (M5 k 5) (M5 (k + 16) 2))) E hP hS (GaA.lt (StA.GaA hk)) (sh1 (StA.GaA hk)) tyX1 tyX1_ok nmX1 rfl inX1 3 (by decide) q195 rfl rfl rfl (Nat.le_of_ble_eq_true rfl) rfl dX6_beginGame_62 (fun H locs hP hS => ?_)
  rw [hM6] at hP
  refine lv_aload_n (pc := 65) hx hb dX6_beginGame_65 rfl (lv_at hl 0 rfl) ?_
  refine lv_aload_n (pc := 66) hx hb dX6_beginGame_66 rfl (lv_at hl 0 rfl) ?_
  refine x_get (pc := 67) (v := .ref (ad (k + 16))) E hP (StA.lt hk) (sh6 hk) rfl inX6 2 (by decide) q257 rfl dX6_beginGame_67 ?_
  refine x_get (pc := 70) (v := .int (M6 (k + 16) 3)) E hP (GaA.lt (StA.GaA hk)) (sh1 (StA.GaA hk)) rfl inX1 3 (by decide) q195 rfl dX6_beginGame_70 ?_
  refine lv_aload_n (pc := 73) hx hb dX6_beginGame_73 rfl (lv_at hl 0 rfl) ?_
  refine x_get (pc := 74) (v := .int (M6 k 5)) E hP (StA.lt hk) (sh6 hk) rfl inX6 5 (by decide) q263 rfl dX6_beginGame_74 ?_
  refine lv_isub (pc := 77) hx hb dX6_beginGame_77 ?_
  obtain ⟨M7, hM7, h⟩ := bnd_ex h
  refine x_callVv (pc := 78) (st := .int ((M6 (k + 16) 3) - (M6 k 5)) :: .ref (ad k) :: []) (As := [.int ((M6 (k + 16) 3) - (M6 k 5))]) E hEx hl.1 hP hS (kX6_pass hap hk M6 _ _ hM7) gX6_118 hdX6_pass rfl (StA.lt hk) (sh6 hk) rfl ⟨Nat.le_of_ble_eq_true rfl, Nat.le_of_ble_eq_true rfl⟩ ⟨rfl, rfl⟩ dX6_beginGame_78 rfl (Nat.le_of_ble_eq_true rfl) (fun H locs hP hS => ?_)
  refine lv_aload_n (pc := 81) hx hb dX6_beginGame_81 rfl (lv_at hl 0 rfl) ?_
  refine x_get (pc := 82) (v := .ref (ad (k + 16))) E hP (StA.lt hk) (sh6 hk) rfl inX6 2 (by decide) q257 rfl dX6_beginGame_82 ?_
  refine lv_iconst (pc := 85) (v := (0 : Int32)) hx hb dX6_beginGame_85 (by decide) ?_
  obtain ⟨M8, hM8, h⟩ := thn_ex h
  refine x_put (pc := 86) (v := (0 : Int32)) E hP hS (GaA.lt (StA.GaA hk)) (sh1 (StA.GaA hk)) tyX1 tyX1_ok nmX1 rfl inX1 4 (by decide) q199 rfl rfl rfl (Nat.le_of_ble_eq_true rfl) rfl dX6_beginGame_86 (fun H locs hP hS => ?_)
  rw [hM8] at hP
  refine lv_aload_n (pc := 89) hx hb dX6_beginGame_89 rfl (lv_at hl 0 rfl) ?_
  refine x_get (pc := 90) (v := .ref (ad (k + 16))) E hP (StA.lt hk) (sh6 hk) rfl inX6 2 (by decide) q257 rfl dX6_beginGame_90 ?_
  refine lv_iconst (pc := 93) (v := (0 : Int32)) hx hb dX6_beginGame_93 (by decide) ?_
  obtain ⟨M9, hM9, h⟩ := thn_ex h
  refine x_put (pc := 94) (v := (0 : Int32)) E hP hS (GaA.lt (StA.GaA hk)) (sh1 (StA.GaA hk)) tyX1 tyX1_ok nmX1 rfl inX1 5 (by decide) q202 rfl rfl rfl (Nat.le_of_ble_eq_true rfl) rfl dX6_beginGame_94 (fun H locs hP hS => ?_)
  rw [hM9] at hP
  refine lv_aload_n (pc := 97) hx hb dX6_beginGame_97 rfl (lv_at hl 0 rfl) ?_
  refine x_get (pc := 98) (v := .ref (ad (k + 16))) E hP (StA.lt hk) (sh6 hk) rfl inX6 2 (by decide) q257 rfl dX6_beginGame_98 ?_
  refine lv_aload_n (pc := 101) hx hb dX6_beginGame_101 rfl (lv_at hl 0 rfl) ?_
  refine x_get (pc := 102) (v := .ref (ad (k + 1))) E hP (StA.lt hk) (sh6 hk) rfl inX6 0 (by decide) q253 rfl dX6_beginGame_102 ?_
  obtain ⟨y10, hy10, h⟩ := bnd_ex h
  refine x_callVi (pc := 105) (st := .ref (ad (k + 1)) :: .ref (ad (k + 16)) :: []) (As := []) E hEx hl.1 hP hS (kX5_propsAway hap (StA.RoA hk) M9  _ hy10) gX6_127 hdX5_propsAway rfl (RoA.lt (StA.RoA hk)) (sh5 (StA.RoA hk)) rfl ⟨Nat.le_of_ble_eq_true rfl, Nat.le_of_ble_eq_true rfl⟩ ⟨rfl, rfl⟩ dX6_beginGame_105 rfl (Nat.le_of_ble_eq_true rfl) (fun H locs hP hS n11 => ?_)
  refine lv_aload_n (pc := 108) hx hb dX6_beginGame_108 rfl (lv_at hl 0 rfl) ?_
  refine x_get (pc := 109) (v := .ref (ad (k + 1))) E hP (StA.lt hk) (sh6 hk) rfl inX6 0 (by decide) q253 rfl dX6_beginGame_109 ?_
  obtain ⟨y12, hy12, h⟩ := bnd_ex h
  refine x_callVi (pc := 112) (st := .ref (ad (k + 1)) :: .int y10 :: .ref (ad (k + 16)) :: []) (As := []) E hEx hl.1 hP hS (kX5_openBoxes hap (StA.RoA hk) M9  _ hy12) gX6_130 hdX5_openBoxes rfl (RoA.lt (StA.RoA hk)) (sh5 (StA.RoA hk)) rfl ⟨Nat.le_of_ble_eq_true rfl, Nat.le_of_ble_eq_true rfl⟩ ⟨rfl, rfl⟩ dX6_beginGame_112 rfl (Nat.le_of_ble_eq_true rfl) (fun H locs hP hS n13 => ?_)
  refine lv_iadd (pc := 115) hx hb dX6_beginGame_115 ?_
  obtain ⟨M14, hM14, h⟩ := thn_ex h
  refine x_put (pc := 116) (v := (y10 + y12)) E hP hS (GaA.lt (StA.GaA hk)) (sh1 (StA.GaA hk)) tyX1 tyX1_ok nmX1 rfl inX1 6 (by decide) q206 rfl rfl rfl (Nat.le_of_ble_eq_true rfl) rfl dX6_beginGame_116 (fun H locs hP hS => ?_)
  rw [hM14] at hP
  refine lv_aload_n (pc := 119) hx hb dX6_beginGame_119 rfl (lv_at hl 0 rfl) ?_
  refine x_get (pc := 120) (v := .ref (ad (k + 16))) E hP (StA.lt hk) (sh6 hk) rfl inX6 2 (by decide) q257 rfl dX6_beginGame_120 ?_
  refine lv_iconst (pc := 123) (v := (1 : Int32)) hx hb dX6_beginGame_123 (by decide) ?_
  obtain ⟨M15, hM15, h⟩ := thn_ex h
  refine x_put (pc := 124) (v := (1 : Int32)) E hP hS (GaA.lt (StA.GaA hk)) (sh1 (StA.GaA hk)) tyX1 tyX1_ok nmX1 rfl inX1 0 (by decide) q185 rfl rfl rfl (Nat.le_of_ble_eq_true rfl) (by simp [upd, bz0, bz1]) dX6_beginGame_124 (fun H locs hP hS => ?_)
  rw [hM15] at hP
  refine lv_aload_n (pc := 127) hx hb dX6_beginGame_127 rfl (lv_at hl 0 rfl) ?_
  refine x_get (pc := 128) (v := .ref (ad (k + 1))) E hP (StA.lt hk) (sh6 hk) rfl inX6 0 (by decide) q253 rfl dX6_beginGame_128 ?_
  refine lv_aload_n (pc := 131) hx hb dX6_beginGame_131 rfl (lv_at hl 0 rfl) ?_
  refine x_get (pc := 132) (v := .ref (ad (k + 16))) E hP (StA.lt hk) (sh6 hk) rfl inX6 2 (by decide) q257 rfl dX6_beginGame_132 ?_
  refine x_get (pc := 135) (v := .int (M15 (k + 16) 1)) E hP (GaA.lt (StA.GaA hk)) (sh1 (StA.GaA hk)) rfl inX1 1 (by decide) q188 rfl dX6_beginGame_135 ?_
  obtain ⟨M16, hM16, h⟩ := thn_ex h
  refine x_put (pc := 138) (v := (M15 (k + 16) 1)) E hP hS (RoA.lt (StA.RoA hk)) (sh5 (StA.RoA hk)) tyX5 tyX5_ok nmX5 rfl inX5 15 (by decide) q121 rfl rfl rfl (Nat.le_of_ble_eq_true rfl) rfl dX6_beginGame_138 (fun H locs hP hS => ?_)
  rw [hM16] at hP
  refine lv_aload_n (pc := 141) hx hb dX6_beginGame_141 rfl (lv_at hl 0 rfl) ?_
  refine x_get (pc := 142) (v := .ref (ad (k + 19))) E hP (StA.lt hk) (sh6 hk) rfl inX6 4 (by decide) q261 rfl dX6_beginGame_142 ?_
  refine lv_iconst (pc := 145) (v := (0 : Int32)) hx hb dX6_beginGame_145 (by decide) ?_
  obtain ⟨M17, hM17, h⟩ := thn_ex h
  refine x_put (pc := 146) (v := (0 : Int32)) E hP hS (LoA.lt (StA.LoA hk)) (sh2 (StA.LoA hk)) tyX2 tyX2_ok nmX2 rfl inX2 0 (by decide) q244 rfl rfl rfl (Nat.le_of_ble_eq_true rfl) rfl dX6_beginGame_146 (fun H locs hP hS => ?_)
  rw [hM17] at hP
  refine lv_aload_n (pc := 149) hx hb dX6_beginGame_149 rfl (lv_at hl 0 rfl) ?_
  refine x_get (pc := 150) (v := .ref (ad (k + 16))) E hP (StA.lt hk) (sh6 hk) rfl inX6 2 (by decide) q257 rfl dX6_beginGame_150 ?_
  refine x_get (pc := 153) (v := .int (M17 (k + 16) 3)) E hP (GaA.lt (StA.GaA hk)) (sh1 (StA.GaA hk)) rfl inX1 3 (by decide) q195 rfl dX6_beginGame_153 ?_
  refine lv_aload_n (pc := 156) hx hb dX6_beginGame_156 rfl (lv_at hl 0 rfl) ?_
  refine x_get (pc := 157) (v := .ref (ad (k + 16))) E hP (StA.lt hk) (sh6 hk) rfl inX6 2 (by decide) q257 rfl dX6_beginGame_157 ?_
  refine x_get (pc := 160) (v := .int (M17 (k + 16) 2)) E hP (GaA.lt (StA.GaA hk)) (sh1 (StA.GaA hk)) rfl inX1 2 (by decide) q192 rfl dX6_beginGame_160 ?_
  refine lv_isub (pc := 163) hx hb dX6_beginGame_163 ?_
  obtain ⟨rfl, rfl⟩ := som2 h
  exact x_iret E hP hS rfl dX6_beginGame_164
set_option maxRecDepth 100000 in
set_option maxHeartbeats 4000000 in
theorem kX6_endGame (hap : Apart 78 ad) {k : Nat} (hk : StA k) (M : Mem) (x1 : Int32) (M' : Mem) (h : fX6_endGame k M x1 = some M') : XV G ad sK sV cA cZ cC yX6_endGame cX6_endGame 2 ({ frames := 3, cells := 0, slots := 0, locals := 63 } : Room) [.ref (ad k), .int x1] M M' := by
  refine CV.mk (own := RX6) (ls0 := [(0, .ref (ad k)), (1, .int x1)]) (by decide +kernel) rfl hap (Nat.le_of_ble_eq_true rfl) rfl ?_
  intro p l e s m args below meth c ls E hP hl
  have hx := E.1
  have hb := E.2.1
  have hown := E.2.2.2.2.2.1
  have hts := E.2.2.2.2.2.2.1
  have hNe := E.2.2.2.2.2.2.2.2.1.1
  have hEx := ExX.ok ad sK sV
  have hS : va_S (AW 78 ad) s.heap s.heap [] := va_S.rf
  unfold fX6_endGame at h
  refine lv_aload_n (pc := 0) hx hb dX6_endGame_0 rfl (lv_at hl 0 rfl) ?_
  refine x_get (pc := 1) (v := .ref (ad (k + 17))) E hP (StA.lt hk) (sh6 hk) rfl inX6 3 (by decide) q259 rfl dX6_endGame_1 ?_
  refine lv_aload_n (pc := 4) hx hb dX6_endGame_4 rfl (lv_at hl 0 rfl) ?_
  refine x_get (pc := 5) (v := .ref (ad (k + 16))) E hP (StA.lt hk) (sh6 hk) rfl inX6 2 (by decide) q257 rfl dX6_endGame_5 ?_
  refine lv_aload_n (pc := 8) hx hb dX6_endGame_8 rfl (lv_at hl 0 rfl) ?_
  refine x_callVi (pc := 9) (st := .ref (ad k) :: .ref (ad (k + 16)) :: .ref (ad (k + 17)) :: []) (As := []) E hEx hl.1 hP hS (kX6_gameMinute hap hk M  _ rfl) gX6_86 hdX6_gameMinute rfl (StA.lt hk) (sh6 hk) rfl ⟨Nat.le_of_ble_eq_true rfl, Nat.le_of_ble_eq_true rfl⟩ ⟨rfl, rfl⟩ dX6_endGame_9 rfl (Nat.le_of_ble_eq_true rfl) (fun H locs hP hS n1 => ?_)
  refine lv_iload_n (pc := 12) hx hb dX6_endGame_12 rfl (lv_at hl 1 rfl) ?_
  refine x_callNi (pc := 13) (st := .int x1 :: .int (fX6_gameMinute k M) :: .ref (ad (k + 16)) :: .ref (ad (k + 17)) :: []) (As := [.int x1]) E hEx hl.1 hP hS (kX7_asNumber hap  M _ _ rfl) gcX7_asNumber (hNe _ nw16) q17 q438 hsX7_asNumber rfl ⟨Nat.le_of_ble_eq_true rfl, Nat.le_of_ble_eq_true rfl⟩ ⟨rfl, rfl⟩ dX6_endGame_13 rfl (Nat.le_of_ble_eq_true rfl) (fun H locs hP hS n2 => ?_)
  obtain ⟨M3, hM3, h⟩ := bnd_ex h
  refine x_callVv (pc := 16) (st := .int (fX7_asNumber M x1) :: .int (fX6_gameMinute k M) :: .ref (ad (k + 16)) :: .ref (ad (k + 17)) :: []) (As := [.ref (ad (k + 16)), .int (fX6_gameMinute k M), .int (fX7_asNumber M x1)]) E hEx hl.1 hP hS (kX4_append hap (StA.ReA hk) (StA.GaA hk) M _ _ _ hM3) gX6_150 hdX4_append rfl (ReA.lt (StA.ReA hk)) (sh4 (StA.ReA hk)) rfl ⟨Nat.le_of_ble_eq_true rfl, Nat.le_of_ble_eq_true rfl⟩ ⟨rfl, rfl⟩ dX6_endGame_16 rfl (Nat.le_of_ble_eq_true rfl) (fun H locs hP hS => ?_)
  refine lv_aload_n (pc := 19) hx hb dX6_endGame_19 rfl (lv_at hl 0 rfl) ?_
  refine x_get (pc := 20) (v := .ref (ad (k + 16))) E hP (StA.lt hk) (sh6 hk) rfl inX6 2 (by decide) q257 rfl dX6_endGame_20 ?_
  refine lv_iconst (pc := 23) (v := (0 : Int32)) hx hb dX6_endGame_23 (by decide) ?_
  obtain ⟨M4, hM4, h⟩ := thn_ex h
  refine x_put (pc := 24) (v := (0 : Int32)) E hP hS (GaA.lt (StA.GaA hk)) (sh1 (StA.GaA hk)) tyX1 tyX1_ok nmX1 rfl inX1 0 (by decide) q185 rfl rfl rfl (Nat.le_of_ble_eq_true rfl) (by simp [upd, bz0, bz1]) dX6_endGame_24 (fun H locs hP hS => ?_)
  rw [hM4] at hP
  refine lv_aload_n (pc := 27) hx hb dX6_endGame_27 rfl (lv_at hl 0 rfl) ?_
  refine x_get (pc := 28) (v := .ref (ad (k + 1))) E hP (StA.lt hk) (sh6 hk) rfl inX6 0 (by decide) q253 rfl dX6_endGame_28 ?_
  obtain ⟨M5, hM5, h⟩ := bnd_ex h
  refine x_callVv (pc := 31) (st := .ref (ad (k + 1)) :: []) (As := []) E hEx hl.1 hP hS (kX5_dropHeldProps hap (StA.RoA hk) M4  _ hM5) gX6_153 hdX5_dropHeldProps rfl (RoA.lt (StA.RoA hk)) (sh5 (StA.RoA hk)) rfl ⟨Nat.le_of_ble_eq_true rfl, Nat.le_of_ble_eq_true rfl⟩ ⟨rfl, rfl⟩ dX6_endGame_31 rfl (Nat.le_of_ble_eq_true rfl) (fun H locs hP hS => ?_)
  refine lv_aload_n (pc := 34) hx hb dX6_endGame_34 rfl (lv_at hl 0 rfl) ?_
  refine x_get (pc := 35) (v := .ref (ad (k + 1))) E hP (StA.lt hk) (sh6 hk) rfl inX6 0 (by decide) q253 rfl dX6_endGame_35 ?_
  obtain ⟨M6, hM6, h⟩ := bnd_ex h
  refine x_callVv (pc := 38) (st := .ref (ad (k + 1)) :: []) (As := []) E hEx hl.1 hP hS (kX5_forgetDigits hap (StA.RoA hk) M5  _ hM6) gX6_156 hdX5_forgetDigits rfl (RoA.lt (StA.RoA hk)) (sh5 (StA.RoA hk)) rfl ⟨Nat.le_of_ble_eq_true rfl, Nat.le_of_ble_eq_true rfl⟩ ⟨rfl, rfl⟩ dX6_endGame_38 rfl (Nat.le_of_ble_eq_true rfl) (fun H locs hP hS => ?_)
  obtain rfl := som1 h
  exact x_vret E hP hS dX6_endGame_41
set_option maxRecDepth 100000 in
set_option maxHeartbeats 4000000 in
theorem kX6_runOutOfTime (hap : Apart 78 ad) {k : Nat} (hk : StA k) (M : Mem)  (v : Int32) (M' : Mem) (h : fX6_runOutOfTime k M = some (v, M')) : XI G ad sK sV cA cZ cC yX6_runOutOfTime cX6_runOutOfTime 1 .int ({ frames := 6, cells := 0, slots := 0, locals := 186 } : Room) [.ref (ad k)] M v M' := by
  refine CI.mk (own := RX6) (ls0 := [(0, .ref (ad k))]) (by decide +kernel) rfl hap (Nat.le_of_ble_eq_true rfl) rfl ?_
  intro p l e s m args below meth c ls E hP hl
  have hx := E.1
  have hb := E.2.1
  have hown := E.2.2.2.2.2.1
  have hts := E.2.2.2.2.2.2.1
  have hNe := E.2.2.2.2.2.2.2.2.1.1
  have hEx := ExX.ok ad sK sV
  have hS : va_S (AW 78 ad) s.heap s.heap [] := va_S.rf
  unfold fX6_runOutOfTime at h
  refine lv_aload_n (pc := 0) hx hb dX6_runOutOfTime_0 rfl (lv_at hl 0 rfl) ?_
  refine x_get (pc := 1) (v := .ref (ad (k + 19))) E hP (StA.lt hk) (sh6 hk) rfl inX6 4 (by decide) q261 rfl dX6_runOutOfTime_1 ?_
  refine lv_aload_n (pc := 4) hx hb dX6_runOutOfTime_4 rfl (lv_at hl 0 rfl) ?_
  refine x_callVi (pc := 5) (st := .ref (ad k) :: .ref (ad (k + 19)) :: []) (As := []) E hEx hl.1 hP hS (kX6_gameMinute hap hk M  _ rfl) gX6_86 hdX6_gameMinute rfl (StA.lt hk) (sh6 hk) rfl ⟨Nat.le_of_ble_eq_true rfl, Nat.le_of_ble_eq_true rfl⟩ ⟨rfl, rfl⟩ dX6_runOutOfTime_5 rfl (Nat.le_of_ble_eq_true rfl) (fun H locs hP hS n1 => ?_)
  refine x_ldcs (pc := 8) (j := 5) E (by decide) rfl rfl dX6_runOutOfTime_8 ?_
  refine lv_iconst (pc := 10) (v := (-1 : Int32)) hx hb dX6_runOutOfTime_10 (by decide) ?_
  refine lv_iconst (pc := 11) (v := (-1 : Int32)) hx hb dX6_runOutOfTime_11 (by decide) ?_
  obtain ⟨M2, hM2, h⟩ := bnd_ex h
  refine x_callVv (pc := 12) (st := .int (-1 : Int32) :: .int (-1 : Int32) :: .ref (sK 5) :: .int (fX6_gameMinute k M) :: .ref (ad (k + 19)) :: []) (As := [.int (fX6_gameMinute k M), .ref (sK 5), .int (-1 : Int32), .int (-1 : Int32)]) E hEx hl.1 hP hS (kX2_append hap (StA.LoA hk) (by decide) M _ _ _ _ hM2) gX6_89 hdX2_append rfl (LoA.lt (StA.LoA hk)) (sh2 (StA.LoA hk)) rfl ⟨Nat.le_of_ble_eq_true rfl, Nat.le_of_ble_eq_true rfl⟩ ⟨rfl, rfl⟩ dX6_runOutOfTime_12 rfl (Nat.le_of_ble_eq_true rfl) (fun H locs hP hS => ?_)
  refine lv_aload_n (pc := 15) hx hb dX6_runOutOfTime_15 rfl (lv_at hl 0 rfl) ?_
  refine lv_aload_n (pc := 16) hx hb dX6_runOutOfTime_16 rfl (lv_at hl 0 rfl) ?_
  refine x_callVi (pc := 17) (st := .ref (ad k) :: .ref (ad k) :: []) (As := []) E hEx hl.1 hP hS (kX6_minutesLeft hap hk M2  _ rfl) gX6_82 hdX6_minutesLeft rfl (StA.lt hk) (sh6 hk) rfl ⟨Nat.le_of_ble_eq_true rfl, Nat.le_of_ble_eq_true rfl⟩ ⟨rfl, rfl⟩ dX6_runOutOfTime_17 rfl (Nat.le_of_ble_eq_true rfl) (fun H locs hP hS n3 => ?_)
  obtain ⟨M4, hM4, h⟩ := bnd_ex h
  refine x_callVv (pc := 20) (st := .int (fX6_minutesLeft k M2) :: .ref (ad k) :: []) (As := [.int (fX6_minutesLeft k M2)]) E hEx hl.1 hP hS (kX6_pass hap hk M2 _ _ hM4) gX6_118 hdX6_pass rfl (StA.lt hk) (sh6 hk) rfl ⟨Nat.le_of_ble_eq_true rfl, Nat.le_of_ble_eq_true rfl⟩ ⟨rfl, rfl⟩ dX6_runOutOfTime_20 rfl (Nat.le_of_ble_eq_true rfl) (fun H locs hP hS => ?_)
  refine lv_aload_n (pc := 23) hx hb dX6_runOutOfTime_23 rfl (lv_at hl 0 rfl) ?_
  refine lv_iconst (pc := 24) (v := (0 : Int32)) hx hb dX6_runOutOfTime_24 (by decide) ?_
  obtain ⟨M5, hM5, h⟩ := bnd_ex h
  refine x_callVv (pc := 25) (st := .int (0 : Int32) :: .ref (ad k) :: []) (As := [.int (0 : Int32)]) E hEx hl.1 hP hS (kX6_endGame hap hk M4 _ _ hM5) gX6_161 hdX6_endGame rfl (StA.lt hk) (sh6 hk) rfl ⟨Nat.le_of_ble_eq_true rfl, Nat.le_of_ble_eq_true rfl⟩ ⟨rfl, rfl⟩ dX6_runOutOfTime_25 rfl (Nat.le_of_ble_eq_true rfl) (fun H locs hP hS => ?_)
  refine lv_bipush (pc := 28) (v := (-6 : Int32)) hx hb dX6_runOutOfTime_28 (by decide) ?_
  obtain ⟨rfl, rfl⟩ := som2 h
  exact x_iret E hP hS rfl dX6_runOutOfTime_30
set_option maxRecDepth 100000 in
set_option maxHeartbeats 4000000 in
theorem kX6_latestStart (hap : Apart 78 ad) {k : Nat} (hk : StA k) (M : Mem) (x1 : Int32) (v : Int32) (h : fX6_latestStart k M x1 = some v) : XI G ad sK sV cA cZ cC yX6_latestStart cX6_latestStart 4 .int ({ frames := 1, cells := 0, slots := 0, locals := 21 } : Room) [.ref (ad k), .int x1] M v M := by
  refine CI.mk (own := RX6) (ls0 := [(0, .ref (ad k)), (1, .int x1)]) (by decide +kernel) rfl hap (Nat.le_of_ble_eq_true rfl) rfl ?_
  intro p l e s m args below meth c ls E hP hl
  have hx := E.1
  have hb := E.2.1
  have hown := E.2.2.2.2.2.1
  have hts := E.2.2.2.2.2.2.1
  have hNe := E.2.2.2.2.2.2.2.2.1.1
  have hEx := ExX.ok ad sK sV
  have hS : va_S (AW 78 ad) s.heap s.heap [] := va_S.rf
  have hL35 : ∀ (n : Nat) (M : Mem) (x1 x2 x3 : Int32) (H : Heap) (locs : List Loc) (ls : Array Slot), fX6_latestStart_L35 k n M x1 x2 x3 = some v → va_P G vwCl (WW 78 (shX cA ad) ad M) H → va_S (AW 78 ad) s.heap H locs → lv_has ls 4 [(0, .ref (ad k)), (1, .int x1), (2, .int x2), (3, .int x3)] → W p l e ({ frames := 1, cells := 0, slots := 0, locals := 21 } : Room) s m args below meth c H locs 0 0 (QI below G 78 (shX cA ad) ad .int args s v M) (F0 m 35 ls []) := by
    intro n
    induction n with
    | zero => intro M x1 x2 x3 H locs ls h; cases h
    | succ n ih =>
      intro M x1 x2 x3 H locs ls h hP hS hl
      rw [fX6_latestStart_L35] at h
      refine lv_iload_n (pc := 35) hx hb dX6_latestStart_35 rfl (lv_at hl 3 rfl) ?_
      refine lv_iload_n (pc := 36) hx hb dX6_latestStart_36 rfl (lv_at hl 1 rfl) ?_
      refine lv_icmp_ge (pc := 37) (tgt := 70) hx hb dX6_latestStart_37 (by decide) (fun c2 => ?_) (fun c2 => ?_)
      · have h := (if_pos c2).symm.trans h
        refine lv_iload_n (pc := 70) hx hb dX6_latestStart_70 rfl (lv_at hl 2 rfl) ?_
        refine lv_aload_n (pc := 71) hx hb dX6_latestStart_71 rfl (lv_at hl 0 rfl) ?_
        refine x_get (pc := 72) (v := .ref (ad (k + 13))) E hP (StA.lt hk) (sh6 hk) rfl inX6 1 (by decide) q255 rfl dX6_latestStart_72 ?_
        refine x_get (pc := 75) (v := .ref (ad (k + 15))) E hP (QuA.lt (StA.QuA hk)) (sh3 (StA.QuA hk)) rfl inX3 2 (by decide) q168 rfl dX6_latestStart_75 ?_
        refine lv_iload_n (pc := 78) hx hb dX6_latestStart_78 rfl (lv_at hl 1 rfl) ?_
        refine x_callNi (pc := 79) (st := .int x1 :: .ref (ad (k + 15)) :: .int x2 :: []) (As := [.ref (ad (k + 15)), .int x1]) E hEx hl.1 hP hS (c_at hap M (lt3a2 (StA.QuA hk)) (sh3a2 (StA.QuA hk)) (by decide) _ _ rfl) gcX7_at (hNe _ nw13) q17 q320 hsX7_at rfl ⟨Nat.le_of_ble_eq_true rfl, Nat.le_of_ble_eq_true rfl⟩ ⟨rfl, rfl⟩ dX6_latestStart_79 rfl (Nat.le_of_ble_eq_true rfl) (fun H locs hP hS n3 => ?_)
        refine x_mmax (pc := 82) (own := RX6) (index := 112) hx hb (E.2.2.1.trans hl.1.symm) hown (hts _ q575) hts (Nat.le_of_ble_eq_true rfl) (Nat.le_of_ble_eq_true rfl) dX6_latestStart_82 ?_
        obtain rfl := som1 h
        exact x_iret E hP hS rfl dX6_latestStart_85
      · have h := (if_neg c2).symm.trans h
        refine lv_iload_n (pc := 40) hx hb dX6_latestStart_40 rfl (lv_at hl 2 rfl) ?_
        refine lv_aload_n (pc := 41) hx hb dX6_latestStart_41 rfl (lv_at hl 0 rfl) ?_
        refine x_get (pc := 42) (v := .ref (ad (k + 13))) E hP (StA.lt hk) (sh6 hk) rfl inX6 1 (by decide) q255 rfl dX6_latestStart_42 ?_
        refine x_get (pc := 45) (v := .ref (ad (k + 15))) E hP (QuA.lt (StA.QuA hk)) (sh3 (StA.QuA hk)) rfl inX3 2 (by decide) q168 rfl dX6_latestStart_45 ?_
        refine lv_iload_n (pc := 48) hx hb dX6_latestStart_48 rfl (lv_at hl 3 rfl) ?_
        refine x_callNi (pc := 49) (st := .int x3 :: .ref (ad (k + 15)) :: .int x2 :: []) (As := [.ref (ad (k + 15)), .int x3]) E hEx hl.1 hP hS (c_at hap M (lt3a2 (StA.QuA hk)) (sh3a2 (StA.QuA hk)) (by decide) _ _ rfl) gcX7_at (hNe _ nw13) q17 q320 hsX7_at rfl ⟨Nat.le_of_ble_eq_true rfl, Nat.le_of_ble_eq_true rfl⟩ ⟨rfl, rfl⟩ dX6_latestStart_49 rfl (Nat.le_of_ble_eq_true rfl) (fun H locs hP hS n4 => ?_)
        refine x_mmax (pc := 52) (own := RX6) (index := 112) hx hb (E.2.2.1.trans hl.1.symm) hown (hts _ q575) hts (Nat.le_of_ble_eq_true rfl) (Nat.le_of_ble_eq_true rfl) dX6_latestStart_52 ?_
        refine lv_aload_n (pc := 55) hx hb dX6_latestStart_55 rfl (lv_at hl 0 rfl) ?_
        refine x_get (pc := 56) (v := .int (M k 7)) E hP (StA.lt hk) (sh6 hk) rfl inX6 7 (by decide) q267 rfl dX6_latestStart_56 ?_
        refine lv_iadd (pc := 59) hx hb dX6_latestStart_59 ?_
        refine lv_bipush (pc := 60) (v := (10 : Int32)) hx hb dX6_latestStart_60 (by decide) ?_
        refine lv_iadd (pc := 62) hx hb dX6_latestStart_62 ?_
        obtain ⟨y5, hy5, h⟩ := thn_ex h
        refine W.eq (g2 := F0 m 63 ls (.int y5 :: [])) (by rw [← hy5]) ?_
        refine lv_istore_n (pc := 63) (lv' := [(2, .int y5), (0, .ref (ad k)), (1, .int x1), (3, .int x3)]) hx hb dX6_latestStart_63 rfl hl (by decide) rfl (fun ls hl => ?_)
        refine lv_iinc (pc := 64) (v := (x3 + 1)) (lv' := [(3, .int (x3 + 1)), (2, .int y5), (0, .ref (ad k)), (1, .int x1)]) hx hb dX6_latestStart_64 hl (k := 3) rfl rfl (by decide) rfl (fun ls hl => ?_)
        refine lv_goto (pc := 67) (tgt := 35) hx hb dX6_latestStart_67 (by decide) ?_
        exact ih M x1 y5 (x3 + 1) _ _ _ h hP hS (lv_sub hl [2, 3, 1, 0] rfl)
  unfold fX6_latestStart at h
  refine lv_aload_n (pc := 0) hx hb dX6_latestStart_0 rfl (lv_at hl 0 rfl) ?_
  refine x_get (pc := 1) (v := .ref (ad (k + 16))) E hP (StA.lt hk) (sh6 hk) rfl inX6 2 (by decide) q257 rfl dX6_latestStart_1 ?_
  refine x_get (pc := 4) (v := .int (bz (M (k + 16) 0))) E hP (GaA.lt (StA.GaA hk)) (sh1 (StA.GaA hk)) rfl inX1 0 (by decide) q185 rfl dX6_latestStart_4 ?_
  refine lv_if_eq (pc := 7) (tgt := 28) hx hb dX6_latestStart_7 (by decide) (fun c1 => ?_) (fun c1 => ?_)
  · have h := (if_pos c1).symm.trans h
    refine lv_aload_n (pc := 28) hx hb dX6_latestStart_28 rfl (lv_at hl 0 rfl) ?_
    refine x_get (pc := 29) (v := .int (M k 5)) E hP (StA.lt hk) (sh6 hk) rfl inX6 5 (by decide) q263 rfl dX6_latestStart_29 ?_
    refine lv_istore_n (pc := 32) (lv' := [(2, .int (M k 5)), (0, .ref (ad k)), (1, .int x1)]) hx hb dX6_latestStart_32 rfl hl (by decide) rfl (fun ls hl => ?_)
    refine lv_iconst (pc := 33) (v := (0 : Int32)) hx hb dX6_latestStart_33 (by decide) ?_
    refine lv_istore_n (pc := 34) (lv' := [(3, .int (0 : Int32)), (2, .int (M k 5)), (0, .ref (ad k)), (1, .int x1)]) hx hb dX6_latestStart_34 rfl hl (by decide) rfl (fun ls hl => ?_)
    exact hL35 5000 M x1 (M k 5) (0 : Int32) _ _ _ h hP hS (lv_sub hl [2, 3, 1, 0] rfl)
  · have h := (if_neg c1).symm.trans h
    refine lv_aload_n (pc := 10) hx hb dX6_latestStart_10 rfl (lv_at hl 0 rfl) ?_
    refine x_get (pc := 11) (v := .ref (ad (k + 16))) E hP (StA.lt hk) (sh6 hk) rfl inX6 2 (by decide) q257 rfl dX6_latestStart_11 ?_
    refine x_get (pc := 14) (v := .int (M (k + 16) 3)) E hP (GaA.lt (StA.GaA hk)) (sh1 (StA.GaA hk)) rfl inX1 3 (by decide) q195 rfl dX6_latestStart_14 ?_
    refine lv_aload_n (pc := 17) hx hb dX6_latestStart_17 rfl (lv_at hl 0 rfl) ?_
    refine x_get (pc := 18) (v := .int (M k 7)) E hP (StA.lt hk) (sh6 hk) rfl inX6 7 (by decide) q267 rfl dX6_latestStart_18 ?_
    refine lv_iadd (pc := 21) hx hb dX6_latestStart_21 ?_
    refine lv_bipush (pc := 22) (v := (10 : Int32)) hx hb dX6_latestStart_22 (by decide) ?_
    refine lv_iadd (pc := 24) hx hb dX6_latestStart_24 ?_
    refine lv_goto (pc := 25) (tgt := 32) hx hb dX6_latestStart_25 (by decide) ?_
    obtain ⟨y6, hy6, h⟩ := thn_ex h
    refine W.eq (g2 := F0 m 32 ls (.int y6 :: [])) (by rw [← hy6]) ?_
    refine lv_istore_n (pc := 32) (lv' := [(2, .int y6), (0, .ref (ad k)), (1, .int x1)]) hx hb dX6_latestStart_32 rfl hl (by decide) rfl (fun ls hl => ?_)
    refine lv_iconst (pc := 33) (v := (0 : Int32)) hx hb dX6_latestStart_33 (by decide) ?_
    refine lv_istore_n (pc := 34) (lv' := [(3, .int (0 : Int32)), (2, .int y6), (0, .ref (ad k)), (1, .int x1)]) hx hb dX6_latestStart_34 rfl hl (by decide) rfl (fun ls hl => ?_)
    exact hL35 5000 M x1 y6 (0 : Int32) _ _ _ h hP hS (lv_sub hl [2, 3, 1, 0] rfl)
set_option maxRecDepth 100000 in
set_option maxHeartbeats 4000000 in
theorem kX6_refill (hap : Apart 78 ad) {k : Nat} (hk : StA k) (M : Mem) (x1 : Int32) (M' : Mem) (h : fX6_refill k M x1 = some M') : XV G ad sK sV cA cZ cC yX6_refill cX6_refill 2 ({ frames := 2, cells := 0, slots := 0, locals := 42 } : Room) [.ref (ad k), .int x1] M M' := by
  refine CV.mk (own := RX6) (ls0 := [(0, .ref (ad k)), (1, .int x1)]) (by decide +kernel) rfl hap (Nat.le_of_ble_eq_true rfl) rfl ?_
  intro p l e s m args below meth c ls E hP hl
  have hx := E.1
  have hb := E.2.1
  have hown := E.2.2.2.2.2.1
  have hts := E.2.2.2.2.2.2.1
  have hNe := E.2.2.2.2.2.2.2.2.1.1
  have hEx := ExX.ok ad sK sV
  have hS : va_S (AW 78 ad) s.heap s.heap [] := va_S.rf
  unfold fX6_refill at h
  refine lv_aload_n (pc := 0) hx hb dX6_refill_0 rfl (lv_at hl 0 rfl) ?_
  refine lv_dup (pc := 1) hx hb dX6_refill_1 rfl ?_
  refine x_get (pc := 2) (v := .int (M k 6)) E hP (StA.lt hk) (sh6 hk) rfl inX6 6 (by decide) q265 rfl dX6_refill_2 ?_
  refine lv_aload_n (pc := 5) hx hb dX6_refill_5 rfl (lv_at hl 0 rfl) ?_
  refine x_get (pc := 6) (v := .ref (ad (k + 1))) E hP (StA.lt hk) (sh6 hk) rfl inX6 0 (by decide) q253 rfl dX6_refill_6 ?_
  refine lv_iload_n (pc := 9) hx hb dX6_refill_9 rfl (lv_at hl 1 rfl) ?_
  refine x_callVi (pc := 10) (st := .int x1 :: .ref (ad (k + 1)) :: .int (M k 6) :: .ref (ad k) :: []) (As := [.int x1]) E hEx hl.1 hP hS (kX5_inkLack hap (StA.RoA hk) M _ _ rfl) gX6_165 hdX5_inkLack rfl (RoA.lt (StA.RoA hk)) (sh5 (StA.RoA hk)) rfl ⟨Nat.le_of_ble_eq_true rfl, Nat.le_of_ble_eq_true rfl⟩ ⟨rfl, rfl⟩ dX6_refill_10 rfl (Nat.le_of_ble_eq_true rfl) (fun H locs hP hS n1 => ?_)
  refine lv_isub (pc := 13) hx hb dX6_refill_13 ?_
  obtain ⟨M2, hM2, h⟩ := thn_ex h
  refine x_put (pc := 14) (v := ((M k 6) - (fX5_inkLack (k + 1) M x1))) E hP hS (StA.lt hk) (sh6 hk) tyX6 tyX6_ok nmX6 rfl inX6 6 (by decide) q265 rfl rfl rfl (Nat.le_of_ble_eq_true rfl) rfl dX6_refill_14 (fun H locs hP hS => ?_)
  rw [hM2] at hP
  refine lv_aload_n (pc := 17) hx hb dX6_refill_17 rfl (lv_at hl 0 rfl) ?_
  refine x_get (pc := 18) (v := .ref (ad (k + 1))) E hP (StA.lt hk) (sh6 hk) rfl inX6 0 (by decide) q253 rfl dX6_refill_18 ?_
  refine x_get (pc := 21) (v := .ref (ad (k + 12))) E hP (RoA.lt (StA.RoA hk)) (sh5 (StA.RoA hk)) rfl inX5 13 (by decide) q116 rfl dX6_refill_21 ?_
  refine lv_iload_n (pc := 24) hx hb dX6_refill_24 rfl (lv_at hl 1 rfl) ?_
  refine lv_bipush (pc := 25) (v := (9 : Int32)) hx hb dX6_refill_25 (by decide) ?_
  obtain ⟨M3, hM3, h⟩ := thn_ex h
  refine x_callNv (pc := 27) (st := .int (9 : Int32) :: .int x1 :: .ref (ad (k + 12)) :: []) (As := [.ref (ad (k + 12)), .int x1, .int (9 : Int32)]) E hEx hl.1 hP hS (c_put hap M2 (lt5a11 (StA.RoA hk)) (sh5a11 (StA.RoA hk)) (by decide) _ _ _ hM3) gcX7_put (hNe _ nw18) q17 q86 hsX7_put rfl ⟨Nat.le_of_ble_eq_true rfl, Nat.le_of_ble_eq_true rfl⟩ ⟨rfl, rfl⟩ dX6_refill_27 rfl (Nat.le_of_ble_eq_true rfl) (fun H locs hP hS => ?_)
  obtain rfl := som1 h
  exact x_vret E hP hS dX6_refill_30
set_option maxRecDepth 100000 in
set_option maxHeartbeats 4000000 in
theorem kX6_cluesOfReset (hap : Apart 78 ad) {k : Nat} (hk : StA k) (M : Mem)  (v : Int32) (h : fX6_cluesOfReset k M = some v) : XI G ad sK sV cA cZ cC yX6_cluesOfReset cX6_cluesOfReset 4 .int ({ frames := 2, cells := 0, slots := 0, locals := 42 } : Room) [.ref (ad k)] M v M := by
  refine CI.mk (own := RX6) (ls0 := [(0, .ref (ad k))]) (by decide +kernel) rfl hap (Nat.le_of_ble_eq_true rfl) rfl ?_
  intro p l e s m args below meth c ls E hP hl
  have hx := E.1
  have hb := E.2.1
  have hown := E.2.2.2.2.2.1
  have hts := E.2.2.2.2.2.2.1
  have hNe := E.2.2.2.2.2.2.2.2.1.1
  have hEx := ExX.ok ad sK sV
  have hS : va_S (AW 78 ad) s.heap s.heap [] := va_S.rf
  have hL9 : ∀ (n : Nat) (M : Mem) (x1 x2 x3 : Int32) (H : Heap) (locs : List Loc) (ls : Array Slot), fX6_cluesOfReset_L9 k n M x1 x2 x3 = some v → va_P G vwCl (WW 78 (shX cA ad) ad M) H → va_S (AW 78 ad) s.heap H locs → lv_has ls 4 [(0, .ref (ad k)), (1, .int x1), (2, .int x2), (3, .int x3)] → W p l e ({ frames := 2, cells := 0, slots := 0, locals := 42 } : Room) s m args below meth c H locs 0 0 (QI below G 78 (shX cA ad) ad .int args s v M) (F0 m 9 ls []) := by
    intro n
    induction n with
    | zero => intro M x1 x2 x3 H locs ls h; cases h
    | succ n ih =>
      intro M x1 x2 x3 H locs ls h hP hS hl
      rw [fX6_cluesOfReset_L9] at h
      refine lv_iload_n (pc := 9) hx hb dX6_cluesOfReset_9 rfl (lv_at hl 3 rfl) ?_
      refine lv_aload_n (pc := 10) hx hb dX6_cluesOfReset_10 rfl (lv_at hl 0 rfl) ?_
      refine x_get (pc := 11) (v := .ref (ad (k + 1))) E hP (StA.lt hk) (sh6 hk) rfl inX6 0 (by decide) q253 rfl dX6_cluesOfReset_11 ?_
      refine x_get (pc := 14) (v := .int (M (k + 1) 9)) E hP (RoA.lt (StA.RoA hk)) (sh5 (StA.RoA hk)) rfl inX5 9 (by decide) q108 rfl dX6_cluesOfReset_14 ?_
      refine lv_icmp_ge (pc := 17) (tgt := 66) hx hb dX6_cluesOfReset_17 (by decide) (fun c1 => ?_) (fun c1 => ?_)
      · have h := (if_pos c1).symm.trans h
        refine lv_iload_n (pc := 66) hx hb dX6_cluesOfReset_66 rfl (lv_at hl 1 rfl) ?_
        obtain rfl := som1 h
        exact x_iret E hP hS rfl dX6_cluesOfReset_67
      · have h := (if_neg c1).symm.trans h
        refine lv_aload_n (pc := 20) hx hb dX6_cluesOfReset_20 rfl (lv_at hl 0 rfl) ?_
        refine x_get (pc := 21) (v := .ref (ad (k + 1))) E hP (StA.lt hk) (sh6 hk) rfl inX6 0 (by decide) q253 rfl dX6_cluesOfReset_21 ?_
        refine lv_iload_n (pc := 24) hx hb dX6_cluesOfReset_24 rfl (lv_at hl 3 rfl) ?_
        refine x_callVi (pc := 25) (st := .int x3 :: .ref (ad (k + 1)) :: []) (As := [.int x3]) E hEx hl.1 hP hS (kX5_isPale hap (StA.RoA hk) M _ _ rfl) gX6_179 hdX5_isPale rfl (RoA.lt (StA.RoA hk)) (sh5 (StA.RoA hk)) rfl ⟨Nat.le_of_ble_eq_true rfl, Nat.le_of_ble_eq_true rfl⟩ ⟨rfl, rfl⟩ dX6_cluesOfReset_25 rfl (Nat.le_of_ble_eq_true rfl) (fun H locs hP hS n2 => ?_)
        refine lv_if_eq (pc := 28) (tgt := 60) hx hb dX6_cluesOfReset_28 (by decide) (fun c3 => ?_) (fun c3 => ?_)
        · have h := (if_pos c3).symm.trans h
          refine lv_iinc (pc := 60) (v := (x3 + 1)) (lv' := [(3, .int (x3 + 1)), (0, .ref (ad k)), (1, .int x1), (2, .int x2)]) hx hb dX6_cluesOfReset_60 hl (k := 3) rfl rfl (by decide) rfl (fun ls hl => ?_)
          refine lv_goto (pc := 63) (tgt := 9) hx hb dX6_cluesOfReset_63 (by decide) ?_
          exact ih M x1 x2 (x3 + 1) _ _ _ h hP hS (lv_sub hl [1, 2, 3, 0] rfl)
        · have h := (if_neg c3).symm.trans h
          refine lv_aload_n (pc := 31) hx hb dX6_cluesOfReset_31 rfl (lv_at hl 0 rfl) ?_
          refine x_get (pc := 32) (v := .ref (ad (k + 1))) E hP (StA.lt hk) (sh6 hk) rfl inX6 0 (by decide) q253 rfl dX6_cluesOfReset_32 ?_
          refine lv_iload_n (pc := 35) hx hb dX6_cluesOfReset_35 rfl (lv_at hl 3 rfl) ?_
          refine x_callVi (pc := 36) (st := .int x3 :: .ref (ad (k + 1)) :: []) (As := [.int x3]) E hEx hl.1 hP hS (kX5_inkLack hap (StA.RoA hk) M _ _ rfl) gX6_165 hdX5_inkLack rfl (RoA.lt (StA.RoA hk)) (sh5 (StA.RoA hk)) rfl ⟨Nat.le_of_ble_eq_true rfl, Nat.le_of_ble_eq_true rfl⟩ ⟨rfl, rfl⟩ dX6_cluesOfReset_36 rfl (Nat.le_of_ble_eq_true rfl) (fun H locs hP hS n4 => ?_)
          refine lv_iload_n (pc := 39) hx hb dX6_cluesOfReset_39 rfl (lv_at hl 2 rfl) ?_
          refine lv_icmp_gt (pc := 40) (tgt := 60) hx hb dX6_cluesOfReset_40 (by decide) (fun c5 => ?_) (fun c5 => ?_)
          · have h := (if_pos c5).symm.trans h
            refine lv_iinc (pc := 60) (v := (x3 + 1)) (lv' := [(3, .int (x3 + 1)), (0, .ref (ad k)), (1, .int x1), (2, .int x2)]) hx hb dX6_cluesOfReset_60 hl (k := 3) rfl rfl (by decide) rfl (fun ls hl => ?_)
            refine lv_goto (pc := 63) (tgt := 9) hx hb dX6_cluesOfReset_63 (by decide) ?_
            exact ih M x1 x2 (x3 + 1) _ _ _ h hP hS (lv_sub hl [1, 2, 3, 0] rfl)
          · have h := (if_neg c5).symm.trans h
            refine lv_iload_n (pc := 43) hx hb dX6_cluesOfReset_43 rfl (lv_at hl 2 rfl) ?_
            refine lv_aload_n (pc := 44) hx hb dX6_cluesOfReset_44 rfl (lv_at hl 0 rfl) ?_
            refine x_get (pc := 45) (v := .ref (ad (k + 1))) E hP (StA.lt hk) (sh6 hk) rfl inX6 0 (by decide) q253 rfl dX6_cluesOfReset_45 ?_
            refine lv_iload_n (pc := 48) hx hb dX6_cluesOfReset_48 rfl (lv_at hl 3 rfl) ?_
            refine x_callVi (pc := 49) (st := .int x3 :: .ref (ad (k + 1)) :: .int x2 :: []) (As := [.int x3]) E hEx hl.1 hP hS (kX5_inkLack hap (StA.RoA hk) M _ _ rfl) gX6_165 hdX5_inkLack rfl (RoA.lt (StA.RoA hk)) (sh5 (StA.RoA hk)) rfl ⟨Nat.le_of_ble_eq_true rfl, Nat.le_of_ble_eq_true rfl⟩ ⟨rfl, rfl⟩ dX6_cluesOfReset_49 rfl (Nat.le_of_ble_eq_true rfl) (fun H locs hP hS n6 => ?_)
            refine lv_isub (pc := 52) hx hb dX6_cluesOfReset_52 ?_
            obtain ⟨y7, hy7, h⟩ := thn_ex h
            refine W.eq (g2 := F0 m 53 ls (.int y7 :: [])) (by rw [← hy7]) ?_
            refine lv_istore_n (pc := 53) (lv' := [(2, .int y7), (0, .ref (ad k)), (1, .int x1), (3, .int x3)]) hx hb dX6_cluesOfReset_53 rfl hl (by decide) rfl (fun ls hl => ?_)
            refine lv_iload_n (pc := 54) hx hb dX6_cluesOfReset_54 rfl (lv_at hl 2 rfl) ?_
            refine lv_iconst (pc := 55) (v := (1 : Int32)) hx hb dX6_cluesOfReset_55 (by decide) ?_
            refine lv_iload_n (pc := 56) hx hb dX6_cluesOfReset_56 rfl (lv_at hl 3 rfl) ?_
            refine lv_ishl (pc := 57) hx hb dX6_cluesOfReset_57 ?_
            refine lv_ior (pc := 58) hx hb dX6_cluesOfReset_58 ?_
            obtain ⟨y8, hy8, h⟩ := thn_ex h
            refine W.eq (g2 := F0 m 59 ls (.int y8 :: [])) (by rw [← hy8]) ?_
            refine lv_istore_n (pc := 59) (lv' := [(1, .int y8), (2, .int y7), (0, .ref (ad k)), (3, .int x3)]) hx hb dX6_cluesOfReset_59 rfl hl (by decide) rfl (fun ls hl => ?_)
            refine lv_iinc (pc := 60) (v := (x3 + 1)) (lv' := [(3, .int (x3 + 1)), (1, .int y8), (2, .int y7), (0, .ref (ad k))]) hx hb dX6_cluesOfReset_60 hl (k := 3) rfl rfl (by decide) rfl (fun ls hl => ?_)
            refine lv_goto (pc := 63) (tgt := 9) hx hb dX6_cluesOfReset_63 (by decide) ?_
            exact ih M y8 y7 (x3 + 1) _ _ _ h hP hS (lv_sub hl [3, 1, 2, 0] rfl)
  unfold fX6_cluesOfReset at h
  refine lv_iconst (pc := 0) (v := (0 : Int32)) hx hb dX6_cluesOfReset_0 (by decide) ?_
  refine lv_istore_n (pc := 1) (lv' := [(1, .int (0 : Int32)), (0, .ref (ad k))]) hx hb dX6_cluesOfReset_1 rfl hl (by decide) rfl (fun ls hl => ?_)
  refine lv_aload_n (pc := 2) hx hb dX6_cluesOfReset_2 rfl (lv_at hl 1 rfl) ?_
  refine x_get (pc := 3) (v := .int (M k 6)) E hP (StA.lt hk) (sh6 hk) rfl inX6 6 (by decide) q265 rfl dX6_cluesOfReset_3 ?_
  refine lv_istore_n (pc := 6) (lv' := [(2, .int (M k 6)), (1, .int (0 : Int32)), (0, .ref (ad k))]) hx hb dX6_cluesOfReset_6 rfl hl (by decide) rfl (fun ls hl => ?_)
  refine lv_iconst (pc := 7) (v := (0 : Int32)) hx hb dX6_cluesOfReset_7 (by decide) ?_
  refine lv_istore_n (pc := 8) (lv' := [(3, .int (0 : Int32)), (2, .int (M k 6)), (1, .int (0 : Int32)), (0, .ref (ad k))]) hx hb dX6_cluesOfReset_8 rfl hl (by decide) rfl (fun ls hl => ?_)
  exact hL9 5000 M (0 : Int32) (M k 6) (0 : Int32) _ _ _ h hP hS (lv_sub hl [3, 2, 1, 0] rfl)
set_option maxRecDepth 100000 in
set_option maxHeartbeats 4000000 in
theorem kX6_resetMinutes (hap : Apart 78 ad) {k : Nat} (hk : StA k) (M : Mem)  (v : Int32) (h : fX6_resetMinutes k M = some v) : XI G ad sK sV cA cZ cC yX6_resetMinutes cX6_resetMinutes 1 .int ({ frames := 3, cells := 0, slots := 0, locals := 65 } : Room) [.ref (ad k)] M v M := by
  refine CI.mk (own := RX6) (ls0 := [(0, .ref (ad k))]) (by decide +kernel) rfl hap (Nat.le_of_ble_eq_true rfl) rfl ?_
  intro p l e s m args below meth c ls E hP hl
  have hx := E.1
  have hb := E.2.1
  have hown := E.2.2.2.2.2.1
  have hts := E.2.2.2.2.2.2.1
  have hNe := E.2.2.2.2.2.2.2.2.1.1
  have hEx := ExX.ok ad sK sV
  have hS : va_S (AW 78 ad) s.heap s.heap [] := va_S.rf
  unfold fX6_resetMinutes at h
  refine lv_aload_n (pc := 0) hx hb dX6_resetMinutes_0 rfl (lv_at hl 0 rfl) ?_
  refine x_get (pc := 1) (v := .ref (ad (k + 1))) E hP (StA.lt hk) (sh6 hk) rfl inX6 0 (by decide) q253 rfl dX6_resetMinutes_1 ?_
  obtain ⟨y1, hy1, h⟩ := bnd_ex h
  refine x_callVi (pc := 4) (st := .ref (ad (k + 1)) :: []) (As := []) E hEx hl.1 hP hS (kX5_propsAway hap (StA.RoA hk) M  _ hy1) gX6_127 hdX5_propsAway rfl (RoA.lt (StA.RoA hk)) (sh5 (StA.RoA hk)) rfl ⟨Nat.le_of_ble_eq_true rfl, Nat.le_of_ble_eq_true rfl⟩ ⟨rfl, rfl⟩ dX6_resetMinutes_4 rfl (Nat.le_of_ble_eq_true rfl) (fun H locs hP hS n2 => ?_)
  refine lv_aload_n (pc := 7) hx hb dX6_resetMinutes_7 rfl (lv_at hl 0 rfl) ?_
  refine x_get (pc := 8) (v := .ref (ad (k + 1))) E hP (StA.lt hk) (sh6 hk) rfl inX6 0 (by decide) q253 rfl dX6_resetMinutes_8 ?_
  obtain ⟨y3, hy3, h⟩ := bnd_ex h
  refine x_callVi (pc := 11) (st := .ref (ad (k + 1)) :: .int y1 :: []) (As := []) E hEx hl.1 hP hS (kX5_openBoxes hap (StA.RoA hk) M  _ hy3) gX6_130 hdX5_openBoxes rfl (RoA.lt (StA.RoA hk)) (sh5 (StA.RoA hk)) rfl ⟨Nat.le_of_ble_eq_true rfl, Nat.le_of_ble_eq_true rfl⟩ ⟨rfl, rfl⟩ dX6_resetMinutes_11 rfl (Nat.le_of_ble_eq_true rfl) (fun H locs hP hS n4 => ?_)
  refine lv_iadd (pc := 14) hx hb dX6_resetMinutes_14 ?_
  refine lv_aload_n (pc := 15) hx hb dX6_resetMinutes_15 rfl (lv_at hl 0 rfl) ?_
  obtain ⟨y5, hy5, h⟩ := bnd_ex h
  refine x_callVi (pc := 16) (st := .ref (ad k) :: .int (y1 + y3) :: []) (As := []) E hEx hl.1 hP hS (kX6_cluesOfReset hap hk M  _ hy5) gX6_183 hdX6_cluesOfReset rfl (StA.lt hk) (sh6 hk) rfl ⟨Nat.le_of_ble_eq_true rfl, Nat.le_of_ble_eq_true rfl⟩ ⟨rfl, rfl⟩ dX6_resetMinutes_16 rfl (Nat.le_of_ble_eq_true rfl) (fun H locs hP hS n6 => ?_)
  refine x_callSi (pc := 19) (st := .int y5 :: .int (y1 + y3) :: []) (As := [.int y5]) E hEx hl.1 hP hS (kJ6_bitCount_0f7a4 hap  M _ _ rfl) gX6_186 hsJ6_bitCount_0f7a4 rfl ⟨Nat.le_of_ble_eq_true rfl, Nat.le_of_ble_eq_true rfl⟩ ⟨rfl, rfl⟩ dX6_resetMinutes_19 rfl (Nat.le_of_ble_eq_true rfl) (fun H locs hP hS n7 => ?_)
  refine lv_iadd (pc := 22) hx hb dX6_resetMinutes_22 ?_
  obtain rfl := som1 h
  exact x_iret E hP hS rfl dX6_resetMinutes_23
set_option maxRecDepth 100000 in
set_option maxHeartbeats 4000000 in
theorem kX6_resetPaint (hap : Apart 78 ad) {k : Nat} (hk : StA k) (M : Mem)  (v : Int32) (h : fX6_resetPaint k M = some v) : XI G ad sK sV cA cZ cC yX6_resetPaint cX6_resetPaint 4 .int ({ frames := 3, cells := 0, slots := 0, locals := 65 } : Room) [.ref (ad k)] M v M := by
  refine CI.mk (own := RX6) (ls0 := [(0, .ref (ad k))]) (by decide +kernel) rfl hap (Nat.le_of_ble_eq_true rfl) rfl ?_
  intro p l e s m args below meth c ls E hP hl
  have hx := E.1
  have hb := E.2.1
  have hown := E.2.2.2.2.2.1
  have hts := E.2.2.2.2.2.2.1
  have hNe := E.2.2.2.2.2.2.2.2.1.1
  have hEx := ExX.ok ad sK sV
  have hS : va_S (AW 78 ad) s.heap s.heap [] := va_S.rf
  have hL9 : ∀ (n : Nat) (M : Mem) (x1 x2 x3 : Int32) (H : Heap) (locs : List Loc) (ls : Array Slot), fX6_resetPaint_L9 k n M x1 x2 x3 = some v → va_P G vwCl (WW 78 (shX cA ad) ad M) H → va_S (AW 78 ad) s.heap H locs → lv_has ls 4 [(0, .ref (ad k)), (1, .int x1), (2, .int x2), (3, .int x3)] → W p l e ({ frames := 3, cells := 0, slots := 0, locals := 65 } : Room) s m args below meth c H locs 0 0 (QI below G 78 (shX cA ad) ad .int args s v M) (F0 m 9 ls []) := by
    intro n
    induction n with
    | zero => intro M x1 x2 x3 H locs ls h; cases h
    | succ n ih =>
      intro M x1 x2 x3 H locs ls h hP hS hl
      rw [fX6_resetPaint_L9] at h
      refine lv_iload_n (pc := 9) hx hb dX6_resetPaint_9 rfl (lv_at hl 3 rfl) ?_
      refine lv_aload_n (pc := 10) hx hb dX6_resetPaint_10 rfl (lv_at hl 0 rfl) ?_
      refine x_get (pc := 11) (v := .ref (ad (k + 1))) E hP (StA.lt hk) (sh6 hk) rfl inX6 0 (by decide) q253 rfl dX6_resetPaint_11 ?_
      refine x_get (pc := 14) (v := .int (M (k + 1) 9)) E hP (RoA.lt (StA.RoA hk)) (sh5 (StA.RoA hk)) rfl inX5 9 (by decide) q108 rfl dX6_resetPaint_14 ?_
      refine lv_icmp_ge (pc := 17) (tgt := 43) hx hb dX6_resetPaint_17 (by decide) (fun c3 => ?_) (fun c3 => ?_)
      · have h := (if_pos c3).symm.trans h
        refine lv_iload_n (pc := 43) hx hb dX6_resetPaint_43 rfl (lv_at hl 2 rfl) ?_
        obtain rfl := som1 h
        exact x_iret E hP hS rfl dX6_resetPaint_44
      · have h := (if_neg c3).symm.trans h
        refine lv_iload_n (pc := 20) hx hb dX6_resetPaint_20 rfl (lv_at hl 2 rfl) ?_
        refine lv_iload_n (pc := 21) hx hb dX6_resetPaint_21 rfl (lv_at hl 1 rfl) ?_
        refine lv_iload_n (pc := 22) hx hb dX6_resetPaint_22 rfl (lv_at hl 3 rfl) ?_
        refine lv_ishr (pc := 23) hx hb dX6_resetPaint_23 ?_
        refine lv_iconst (pc := 24) (v := (1 : Int32)) hx hb dX6_resetPaint_24 (by decide) ?_
        refine lv_iand (pc := 25) hx hb dX6_resetPaint_25 ?_
        refine lv_aload_n (pc := 26) hx hb dX6_resetPaint_26 rfl (lv_at hl 0 rfl) ?_
        refine x_get (pc := 27) (v := .ref (ad (k + 1))) E hP (StA.lt hk) (sh6 hk) rfl inX6 0 (by decide) q253 rfl dX6_resetPaint_27 ?_
        refine lv_iload_n (pc := 30) hx hb dX6_resetPaint_30 rfl (lv_at hl 3 rfl) ?_
        refine x_callVi (pc := 31) (st := .int x3 :: .ref (ad (k + 1)) :: .int ((x1 >>> (x3 &&& 31)) &&& (1 : Int32)) :: .int x2 :: []) (As := [.int x3]) E hEx hl.1 hP hS (kX5_inkLack hap (StA.RoA hk) M _ _ rfl) gX6_165 hdX5_inkLack rfl (RoA.lt (StA.RoA hk)) (sh5 (StA.RoA hk)) rfl ⟨Nat.le_of_ble_eq_true rfl, Nat.le_of_ble_eq_true rfl⟩ ⟨rfl, rfl⟩ dX6_resetPaint_31 rfl (Nat.le_of_ble_eq_true rfl) (fun H locs hP hS n4 => ?_)
        refine lv_imul (pc := 34) hx hb dX6_resetPaint_34 ?_
        refine lv_iadd (pc := 35) hx hb dX6_resetPaint_35 ?_
        obtain ⟨y5, hy5, h⟩ := thn_ex h
        refine W.eq (g2 := F0 m 36 ls (.int y5 :: [])) (by rw [← hy5]) ?_
        refine lv_istore_n (pc := 36) (lv' := [(2, .int y5), (0, .ref (ad k)), (1, .int x1), (3, .int x3)]) hx hb dX6_resetPaint_36 rfl hl (by decide) rfl (fun ls hl => ?_)
        refine lv_iinc (pc := 37) (v := (x3 + 1)) (lv' := [(3, .int (x3 + 1)), (2, .int y5), (0, .ref (ad k)), (1, .int x1)]) hx hb dX6_resetPaint_37 hl (k := 3) rfl rfl (by decide) rfl (fun ls hl => ?_)
        refine lv_goto (pc := 40) (tgt := 9) hx hb dX6_resetPaint_40 (by decide) ?_
        exact ih M x1 y5 (x3 + 1) _ _ _ h hP hS (lv_sub hl [2, 3, 1, 0] rfl)
  unfold fX6_resetPaint at h
  refine lv_aload_n (pc := 0) hx hb dX6_resetPaint_0 rfl (lv_at hl 0 rfl) ?_
  obtain ⟨y1, hy1, h⟩ := bnd_ex h
  refine x_callVi (pc := 1) (st := .ref (ad k) :: []) (As := []) E hEx hl.1 hP hS (kX6_cluesOfReset hap hk M  _ hy1) gX6_183 hdX6_cluesOfReset rfl (StA.lt hk) (sh6 hk) rfl ⟨Nat.le_of_ble_eq_true rfl, Nat.le_of_ble_eq_true rfl⟩ ⟨rfl, rfl⟩ dX6_resetPaint_1 rfl (Nat.le_of_ble_eq_true rfl) (fun H locs hP hS n2 => ?_)
  refine lv_istore_n (pc := 4) (lv' := [(1, .int y1), (0, .ref (ad k))]) hx hb dX6_resetPaint_4 rfl hl (by decide) rfl (fun ls hl => ?_)
  refine lv_iconst (pc := 5) (v := (0 : Int32)) hx hb dX6_resetPaint_5 (by decide) ?_
  refine lv_istore_n (pc := 6) (lv' := [(2, .int (0 : Int32)), (1, .int y1), (0, .ref (ad k))]) hx hb dX6_resetPaint_6 rfl hl (by decide) rfl (fun ls hl => ?_)
  refine lv_iconst (pc := 7) (v := (0 : Int32)) hx hb dX6_resetPaint_7 (by decide) ?_
  refine lv_istore_n (pc := 8) (lv' := [(3, .int (0 : Int32)), (2, .int (0 : Int32)), (1, .int y1), (0, .ref (ad k))]) hx hb dX6_resetPaint_8 rfl hl (by decide) rfl (fun ls hl => ?_)
  exact hL9 5000 M y1 (0 : Int32) (0 : Int32) _ _ _ h hP hS (lv_sub hl [3, 2, 1, 0] rfl)
set_option maxRecDepth 100000 in
set_option maxHeartbeats 4000000 in
theorem kX6_bringToOrder (hap : Apart 78 ad) {k : Nat} (hk : StA k) (M : Mem)  (M' : Mem) (h : fX6_bringToOrder k M = some M') : XV G ad sK sV cA cZ cC yX6_bringToOrder cX6_bringToOrder 3 ({ frames := 3, cells := 0, slots := 0, locals := 65 } : Room) [.ref (ad k)] M M' := by
  refine CV.mk (own := RX6) (ls0 := [(0, .ref (ad k))]) (by decide +kernel) rfl hap (Nat.le_of_ble_eq_true rfl) rfl ?_
  intro p l e s m args below meth c ls E hP hl
  have hx := E.1
  have hb := E.2.1
  have hown := E.2.2.2.2.2.1
  have hts := E.2.2.2.2.2.2.1
  have hNe := E.2.2.2.2.2.2.2.2.1.1
  have hEx := ExX.ok ad sK sV
  have hS : va_S (AW 78 ad) s.heap s.heap [] := va_S.rf
  have hL21 : ∀ (n : Nat) (M : Mem) (x1 x2 : Int32) (H : Heap) (locs : List Loc) (ls : Array Slot), fX6_bringToOrder_L21 k n M x1 x2 = some M' → va_P G vwCl (WW 78 (shX cA ad) ad M) H → va_S (AW 78 ad) s.heap H locs → lv_has ls 3 [(0, .ref (ad k)), (1, .int x1), (2, .int x2)] → W p l e ({ frames := 3, cells := 0, slots := 0, locals := 65 } : Room) s m args below meth c H locs 0 0 (QV below G 78 (shX cA ad) ad args s M') (F0 m 21 ls []) := by
    intro n
    induction n with
    | zero => intro M x1 x2 H locs ls h; cases h
    | succ n ih =>
      intro M x1 x2 H locs ls h hP hS hl
      rw [fX6_bringToOrder_L21] at h
      refine lv_iload_n (pc := 21) hx hb dX6_bringToOrder_21 rfl (lv_at hl 2 rfl) ?_
      refine lv_aload_n (pc := 22) hx hb dX6_bringToOrder_22 rfl (lv_at hl 0 rfl) ?_
      refine x_get (pc := 23) (v := .ref (ad (k + 1))) E hP (StA.lt hk) (sh6 hk) rfl inX6 0 (by decide) q253 rfl dX6_bringToOrder_23 ?_
      refine x_get (pc := 26) (v := .int (M (k + 1) 9)) E hP (RoA.lt (StA.RoA hk)) (sh5 (StA.RoA hk)) rfl inX5 9 (by decide) q108 rfl dX6_bringToOrder_26 ?_
      refine lv_icmp_ge (pc := 29) (tgt := 52) hx hb dX6_bringToOrder_29 (by decide) (fun c5 => ?_) (fun c5 => ?_)
      · have h := (if_pos c5).symm.trans h
        obtain rfl := som1 h
        exact x_vret E hP hS dX6_bringToOrder_52
      · have h := (if_neg c5).symm.trans h
        refine lv_iload_n (pc := 32) hx hb dX6_bringToOrder_32 rfl (lv_at hl 1 rfl) ?_
        refine lv_iload_n (pc := 33) hx hb dX6_bringToOrder_33 rfl (lv_at hl 2 rfl) ?_
        refine lv_ishr (pc := 34) hx hb dX6_bringToOrder_34 ?_
        refine lv_iconst (pc := 35) (v := (1 : Int32)) hx hb dX6_bringToOrder_35 (by decide) ?_
        refine lv_iand (pc := 36) hx hb dX6_bringToOrder_36 ?_
        refine lv_iconst (pc := 37) (v := (1 : Int32)) hx hb dX6_bringToOrder_37 (by decide) ?_
        refine lv_icmp_ne (pc := 38) (tgt := 46) hx hb dX6_bringToOrder_38 (by decide) (fun c6 => ?_) (fun c6 => ?_)
        · have h := (if_neg c6).symm.trans h
          refine lv_iinc (pc := 46) (v := (x2 + 1)) (lv' := [(2, .int (x2 + 1)), (0, .ref (ad k)), (1, .int x1)]) hx hb dX6_bringToOrder_46 hl (k := 2) rfl rfl (by decide) rfl (fun ls hl => ?_)
          refine lv_goto (pc := 49) (tgt := 21) hx hb dX6_bringToOrder_49 (by decide) ?_
          exact ih M x1 (x2 + 1) _ _ _ h hP hS (lv_sub hl [1, 2, 0] rfl)
        · have h := (if_pos c6).symm.trans h
          refine lv_aload_n (pc := 41) hx hb dX6_bringToOrder_41 rfl (lv_at hl 0 rfl) ?_
          refine lv_iload_n (pc := 42) hx hb dX6_bringToOrder_42 rfl (lv_at hl 2 rfl) ?_
          obtain ⟨M7, hM7, h⟩ := bnd_ex h
          refine x_callVv (pc := 43) (st := .int x2 :: .ref (ad k) :: []) (As := [.int x2]) E hEx hl.1 hP hS (kX6_refill hap hk M _ _ hM7) gX6_197 hdX6_refill rfl (StA.lt hk) (sh6 hk) rfl ⟨Nat.le_of_ble_eq_true rfl, Nat.le_of_ble_eq_true rfl⟩ ⟨rfl, rfl⟩ dX6_bringToOrder_43 rfl (Nat.le_of_ble_eq_true rfl) (fun H locs hP hS => ?_)
          refine lv_iinc (pc := 46) (v := (x2 + 1)) (lv' := [(2, .int (x2 + 1)), (0, .ref (ad k)), (1, .int x1)]) hx hb dX6_bringToOrder_46 hl (k := 2) rfl rfl (by decide) rfl (fun ls hl => ?_)
          refine lv_goto (pc := 49) (tgt := 21) hx hb dX6_bringToOrder_49 (by decide) ?_
          exact ih M7 x1 (x2 + 1) _ _ _ h hP hS (lv_sub hl [1, 2, 0] rfl)
  unfold fX6_bringToOrder at h
  refine lv_aload_n (pc := 0) hx hb dX6_bringToOrder_0 rfl (lv_at hl 0 rfl) ?_
  obtain ⟨y1, hy1, h⟩ := bnd_ex h
  refine x_callVi (pc := 1) (st := .ref (ad k) :: []) (As := []) E hEx hl.1 hP hS (kX6_cluesOfReset hap hk M  _ hy1) gX6_183 hdX6_cluesOfReset rfl (StA.lt hk) (sh6 hk) rfl ⟨Nat.le_of_ble_eq_true rfl, Nat.le_of_ble_eq_true rfl⟩ ⟨rfl, rfl⟩ dX6_bringToOrder_1 rfl (Nat.le_of_ble_eq_true rfl) (fun H locs hP hS n2 => ?_)
  refine lv_istore_n (pc := 4) (lv' := [(1, .int y1), (0, .ref (ad k))]) hx hb dX6_bringToOrder_4 rfl hl (by decide) rfl (fun ls hl => ?_)
  refine lv_aload_n (pc := 5) hx hb dX6_bringToOrder_5 rfl (lv_at hl 1 rfl) ?_
  refine x_get (pc := 6) (v := .ref (ad (k + 1))) E hP (StA.lt hk) (sh6 hk) rfl inX6 0 (by decide) q253 rfl dX6_bringToOrder_6 ?_
  obtain ⟨M3, hM3, h⟩ := bnd_ex h
  refine x_callVv (pc := 9) (st := .ref (ad (k + 1)) :: []) (As := []) E hEx hl.1 hP hS (kX5_bringPropsHome hap (StA.RoA hk) M  _ hM3) gX6_191 hdX5_bringPropsHome rfl (RoA.lt (StA.RoA hk)) (sh5 (StA.RoA hk)) rfl ⟨Nat.le_of_ble_eq_true rfl, Nat.le_of_ble_eq_true rfl⟩ ⟨rfl, rfl⟩ dX6_bringToOrder_9 rfl (Nat.le_of_ble_eq_true rfl) (fun H locs hP hS => ?_)
  refine lv_aload_n (pc := 12) hx hb dX6_bringToOrder_12 rfl (lv_at hl 1 rfl) ?_
  refine x_get (pc := 13) (v := .ref (ad (k + 1))) E hP (StA.lt hk) (sh6 hk) rfl inX6 0 (by decide) q253 rfl dX6_bringToOrder_13 ?_
  obtain ⟨M4, hM4, h⟩ := bnd_ex h
  refine x_callVv (pc := 16) (st := .ref (ad (k + 1)) :: []) (As := []) E hEx hl.1 hP hS (kX5_closeBoxes hap (StA.RoA hk) M3  _ hM4) gX6_194 hdX5_closeBoxes rfl (RoA.lt (StA.RoA hk)) (sh5 (StA.RoA hk)) rfl ⟨Nat.le_of_ble_eq_true rfl, Nat.le_of_ble_eq_true rfl⟩ ⟨rfl, rfl⟩ dX6_bringToOrder_16 rfl (Nat.le_of_ble_eq_true rfl) (fun H locs hP hS => ?_)
  refine lv_iconst (pc := 19) (v := (0 : Int32)) hx hb dX6_bringToOrder_19 (by decide) ?_
  refine lv_istore_n (pc := 20) (lv' := [(2, .int (0 : Int32)), (1, .int y1), (0, .ref (ad k))]) hx hb dX6_bringToOrder_20 rfl hl (by decide) rfl (fun ls hl => ?_)
  exact hL21 5000 M4 y1 (0 : Int32) _ _ _ h hP hS (lv_sub hl [2, 1, 0] rfl)
end
