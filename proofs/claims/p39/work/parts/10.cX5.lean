section
variable {G : va_G} {ad sK sV : Nat → Nat} {cA cZ cC : ClassId}
set_option maxRecDepth 100000 in
set_option maxHeartbeats 4000000 in
theorem kX5_copyFrom (hap : Apart 78 ad) {k : Nat} {k2 : Nat} (hk : RoA k) (hk2 : RoA k2) (M : Mem)  (M' : Mem) (h : fX5_copyFrom k k2 M = some M') : XV G ad sK sV cA cZ cC yX5_copyFrom cX5_copyFrom 2 ({ frames := 1, cells := 0, slots := 0, locals := 22 } : Room) [.ref (ad k), .ref (ad k2)] M M' := by
  refine CV.mk (own := RX5) (ls0 := [(0, .ref (ad k)), (1, .ref (ad k2))]) (by decide +kernel) rfl hap (Nat.le_of_ble_eq_true rfl) rfl ?_
  intro p l e s m args below meth c ls E hP hl
  have hx := E.1
  have hb := E.2.1
  have hown := E.2.2.2.2.2.1
  have hts := E.2.2.2.2.2.2.1
  have hNe := E.2.2.2.2.2.2.2.2.1.1
  have hEx := ExX.ok ad sK sV
  have hS : va_S (AW 78 ad) s.heap s.heap [] := va_S.rf
  unfold fX5_copyFrom at h
  refine lv_aload_n (pc := 0) hx hb dX5_copyFrom_0 rfl (lv_at hl 0 rfl) ?_
  refine lv_aload_n (pc := 1) hx hb dX5_copyFrom_1 rfl (lv_at hl 1 rfl) ?_
  refine x_get (pc := 2) (v := .int (M k2 0)) E hP (RoA.lt hk2) (sh5 hk2) rfl inX5 0 (by decide) q88 rfl dX5_copyFrom_2 ?_
  obtain ⟨M1, hM1, h⟩ := thn_ex h
  refine x_put (pc := 5) (v := (M k2 0)) E hP hS (RoA.lt hk) (sh5 hk) tyX5 tyX5_ok nmX5 rfl inX5 0 (by decide) q88 rfl rfl rfl (Nat.le_of_ble_eq_true rfl) rfl dX5_copyFrom_5 (fun H locs hP hS => ?_)
  rw [hM1] at hP
  refine lv_aload_n (pc := 8) hx hb dX5_copyFrom_8 rfl (lv_at hl 1 rfl) ?_
  refine x_get (pc := 9) (v := .ref (ad (k2 + 1))) E hP (RoA.lt hk2) (sh5 hk2) rfl inX5 1 (by decide) q90 rfl dX5_copyFrom_9 ?_
  refine lv_aload_n (pc := 12) hx hb dX5_copyFrom_12 rfl (lv_at hl 0 rfl) ?_
  refine x_get (pc := 13) (v := .ref (ad (k + 1))) E hP (RoA.lt hk) (sh5 hk) rfl inX5 1 (by decide) q90 rfl dX5_copyFrom_13 ?_
  obtain ⟨M2, hM2, h⟩ := thn_ex h
  refine x_callNv (pc := 16) (st := .ref (ad (k + 1)) :: .ref (ad (k2 + 1)) :: []) (As := [.ref (ad (k2 + 1)), .ref (ad (k + 1))]) E hEx hl.1 hP hS (c_copyRow hap M1 (lt5a1 hk2) (sh5a1 hk2) (lt5a1 hk) (sh5a1 hk) (by decide) _ hM2) gcX7_copyRow (hNe _ nw8) q17 q384 hsX7_copyRow rfl ⟨Nat.le_of_ble_eq_true rfl, Nat.le_of_ble_eq_true rfl⟩ ⟨rfl, rfl⟩ dX5_copyFrom_16 rfl (Nat.le_of_ble_eq_true rfl) (fun H locs hP hS => ?_)
  refine lv_aload_n (pc := 19) hx hb dX5_copyFrom_19 rfl (lv_at hl 1 rfl) ?_
  refine x_get (pc := 20) (v := .ref (ad (k2 + 2))) E hP (RoA.lt hk2) (sh5 hk2) rfl inX5 2 (by decide) q92 rfl dX5_copyFrom_20 ?_
  refine lv_aload_n (pc := 23) hx hb dX5_copyFrom_23 rfl (lv_at hl 0 rfl) ?_
  refine x_get (pc := 24) (v := .ref (ad (k + 2))) E hP (RoA.lt hk) (sh5 hk) rfl inX5 2 (by decide) q92 rfl dX5_copyFrom_24 ?_
  obtain ⟨M3, hM3, h⟩ := thn_ex h
  refine x_callNv (pc := 27) (st := .ref (ad (k + 2)) :: .ref (ad (k2 + 2)) :: []) (As := [.ref (ad (k2 + 2)), .ref (ad (k + 2))]) E hEx hl.1 hP hS (c_copyRow hap M2 (lt5a2 hk2) (sh5a2 hk2) (lt5a2 hk) (sh5a2 hk) (by decide) _ hM3) gcX7_copyRow (hNe _ nw8) q17 q384 hsX7_copyRow rfl ⟨Nat.le_of_ble_eq_true rfl, Nat.le_of_ble_eq_true rfl⟩ ⟨rfl, rfl⟩ dX5_copyFrom_27 rfl (Nat.le_of_ble_eq_true rfl) (fun H locs hP hS => ?_)
  refine lv_aload_n (pc := 30) hx hb dX5_copyFrom_30 rfl (lv_at hl 1 rfl) ?_
  refine x_get (pc := 31) (v := .ref (ad (k2 + 3))) E hP (RoA.lt hk2) (sh5 hk2) rfl inX5 3 (by decide) q94 rfl dX5_copyFrom_31 ?_
  refine lv_aload_n (pc := 34) hx hb dX5_copyFrom_34 rfl (lv_at hl 0 rfl) ?_
  refine x_get (pc := 35) (v := .ref (ad (k + 3))) E hP (RoA.lt hk) (sh5 hk) rfl inX5 3 (by decide) q94 rfl dX5_copyFrom_35 ?_
  obtain ⟨M4, hM4, h⟩ := thn_ex h
  refine x_callNv (pc := 38) (st := .ref (ad (k + 3)) :: .ref (ad (k2 + 3)) :: []) (As := [.ref (ad (k2 + 3)), .ref (ad (k + 3))]) E hEx hl.1 hP hS (c_copyRow hap M3 (lt5a3 hk2) (sh5a3 hk2) (lt5a3 hk) (sh5a3 hk) (by decide) _ hM4) gcX7_copyRow (hNe _ nw8) q17 q384 hsX7_copyRow rfl ⟨Nat.le_of_ble_eq_true rfl, Nat.le_of_ble_eq_true rfl⟩ ⟨rfl, rfl⟩ dX5_copyFrom_38 rfl (Nat.le_of_ble_eq_true rfl) (fun H locs hP hS => ?_)
  refine lv_aload_n (pc := 41) hx hb dX5_copyFrom_41 rfl (lv_at hl 1 rfl) ?_
  refine x_get (pc := 42) (v := .ref (ad (k2 + 4))) E hP (RoA.lt hk2) (sh5 hk2) rfl inX5 4 (by decide) q96 rfl dX5_copyFrom_42 ?_
  refine lv_aload_n (pc := 45) hx hb dX5_copyFrom_45 rfl (lv_at hl 0 rfl) ?_
  refine x_get (pc := 46) (v := .ref (ad (k + 4))) E hP (RoA.lt hk) (sh5 hk) rfl inX5 4 (by decide) q96 rfl dX5_copyFrom_46 ?_
  obtain ⟨M5, hM5, h⟩ := thn_ex h
  refine x_callNv (pc := 49) (st := .ref (ad (k + 4)) :: .ref (ad (k2 + 4)) :: []) (As := [.ref (ad (k2 + 4)), .ref (ad (k + 4))]) E hEx hl.1 hP hS (c_copyRow hap M4 (lt5a4 hk2) (sh5a4 hk2) (lt5a4 hk) (sh5a4 hk) (by decide) _ hM5) gcX7_copyRow (hNe _ nw8) q17 q384 hsX7_copyRow rfl ⟨Nat.le_of_ble_eq_true rfl, Nat.le_of_ble_eq_true rfl⟩ ⟨rfl, rfl⟩ dX5_copyFrom_49 rfl (Nat.le_of_ble_eq_true rfl) (fun H locs hP hS => ?_)
  refine lv_aload_n (pc := 52) hx hb dX5_copyFrom_52 rfl (lv_at hl 1 rfl) ?_
  refine x_get (pc := 53) (v := .ref (ad (k2 + 5))) E hP (RoA.lt hk2) (sh5 hk2) rfl inX5 5 (by decide) q98 rfl dX5_copyFrom_53 ?_
  refine lv_aload_n (pc := 56) hx hb dX5_copyFrom_56 rfl (lv_at hl 0 rfl) ?_
  refine x_get (pc := 57) (v := .ref (ad (k + 5))) E hP (RoA.lt hk) (sh5 hk) rfl inX5 5 (by decide) q98 rfl dX5_copyFrom_57 ?_
  obtain ⟨M6, hM6, h⟩ := thn_ex h
  refine x_callNv (pc := 60) (st := .ref (ad (k + 5)) :: .ref (ad (k2 + 5)) :: []) (As := [.ref (ad (k2 + 5)), .ref (ad (k + 5))]) E hEx hl.1 hP hS (c_copyRow hap M5 (lt5a5 hk2) (sh5a5 hk2) (lt5a5 hk) (sh5a5 hk) (by decide) _ hM6) gcX7_copyRow (hNe _ nw8) q17 q384 hsX7_copyRow rfl ⟨Nat.le_of_ble_eq_true rfl, Nat.le_of_ble_eq_true rfl⟩ ⟨rfl, rfl⟩ dX5_copyFrom_60 rfl (Nat.le_of_ble_eq_true rfl) (fun H locs hP hS => ?_)
  refine lv_aload_n (pc := 63) hx hb dX5_copyFrom_63 rfl (lv_at hl 0 rfl) ?_
  refine lv_aload_n (pc := 64) hx hb dX5_copyFrom_64 rfl (lv_at hl 1 rfl) ?_
  refine x_get (pc := 65) (v := .int (M6 k2 6)) E hP (RoA.lt hk2) (sh5 hk2) rfl inX5 6 (by decide) q100 rfl dX5_copyFrom_65 ?_
  obtain ⟨M7, hM7, h⟩ := thn_ex h
  refine x_put (pc := 68) (v := (M6 k2 6)) E hP hS (RoA.lt hk) (sh5 hk) tyX5 tyX5_ok nmX5 rfl inX5 6 (by decide) q100 rfl rfl rfl (Nat.le_of_ble_eq_true rfl) rfl dX5_copyFrom_68 (fun H locs hP hS => ?_)
  rw [hM7] at hP
  refine lv_aload_n (pc := 71) hx hb dX5_copyFrom_71 rfl (lv_at hl 1 rfl) ?_
  refine x_get (pc := 72) (v := .ref (ad (k2 + 6))) E hP (RoA.lt hk2) (sh5 hk2) rfl inX5 7 (by decide) q102 rfl dX5_copyFrom_72 ?_
  refine lv_aload_n (pc := 75) hx hb dX5_copyFrom_75 rfl (lv_at hl 0 rfl) ?_
  refine x_get (pc := 76) (v := .ref (ad (k + 6))) E hP (RoA.lt hk) (sh5 hk) rfl inX5 7 (by decide) q102 rfl dX5_copyFrom_76 ?_
  obtain ⟨M8, hM8, h⟩ := thn_ex h
  refine x_callNv (pc := 79) (st := .ref (ad (k + 6)) :: .ref (ad (k2 + 6)) :: []) (As := [.ref (ad (k2 + 6)), .ref (ad (k + 6))]) E hEx hl.1 hP hS (c_copyRow hap M7 (lt5a6 hk2) (sh5a6 hk2) (lt5a6 hk) (sh5a6 hk) (by decide) _ hM8) gcX7_copyRow (hNe _ nw8) q17 q384 hsX7_copyRow rfl ⟨Nat.le_of_ble_eq_true rfl, Nat.le_of_ble_eq_true rfl⟩ ⟨rfl, rfl⟩ dX5_copyFrom_79 rfl (Nat.le_of_ble_eq_true rfl) (fun H locs hP hS => ?_)
  refine lv_aload_n (pc := 82) hx hb dX5_copyFrom_82 rfl (lv_at hl 1 rfl) ?_
  refine x_get (pc := 83) (v := .ref (ad (k2 + 7))) E hP (RoA.lt hk2) (sh5 hk2) rfl inX5 8 (by decide) q104 rfl dX5_copyFrom_83 ?_
  refine lv_aload_n (pc := 86) hx hb dX5_copyFrom_86 rfl (lv_at hl 0 rfl) ?_
  refine x_get (pc := 87) (v := .ref (ad (k + 7))) E hP (RoA.lt hk) (sh5 hk) rfl inX5 8 (by decide) q104 rfl dX5_copyFrom_87 ?_
  obtain ⟨M9, hM9, h⟩ := thn_ex h
  refine x_callNv (pc := 90) (st := .ref (ad (k + 7)) :: .ref (ad (k2 + 7)) :: []) (As := [.ref (ad (k2 + 7)), .ref (ad (k + 7))]) E hEx hl.1 hP hS (c_copyRow hap M8 (lt5a7 hk2) (sh5a7 hk2) (lt5a7 hk) (sh5a7 hk) (by decide) _ hM9) gcX7_copyRow (hNe _ nw8) q17 q384 hsX7_copyRow rfl ⟨Nat.le_of_ble_eq_true rfl, Nat.le_of_ble_eq_true rfl⟩ ⟨rfl, rfl⟩ dX5_copyFrom_90 rfl (Nat.le_of_ble_eq_true rfl) (fun H locs hP hS => ?_)
  refine lv_aload_n (pc := 93) hx hb dX5_copyFrom_93 rfl (lv_at hl 0 rfl) ?_
  refine lv_aload_n (pc := 94) hx hb dX5_copyFrom_94 rfl (lv_at hl 1 rfl) ?_
  refine x_get (pc := 95) (v := .int (M9 k2 9)) E hP (RoA.lt hk2) (sh5 hk2) rfl inX5 9 (by decide) q106 rfl dX5_copyFrom_95 ?_
  obtain ⟨M10, hM10, h⟩ := thn_ex h
  refine x_put (pc := 98) (v := (M9 k2 9)) E hP hS (RoA.lt hk) (sh5 hk) tyX5 tyX5_ok nmX5 rfl inX5 9 (by decide) q106 rfl rfl rfl (Nat.le_of_ble_eq_true rfl) rfl dX5_copyFrom_98 (fun H locs hP hS => ?_)
  rw [hM10] at hP
  refine lv_aload_n (pc := 101) hx hb dX5_copyFrom_101 rfl (lv_at hl 1 rfl) ?_
  refine x_get (pc := 102) (v := .ref (ad (k2 + 8))) E hP (RoA.lt hk2) (sh5 hk2) rfl inX5 10 (by decide) q109 rfl dX5_copyFrom_102 ?_
  refine lv_aload_n (pc := 105) hx hb dX5_copyFrom_105 rfl (lv_at hl 0 rfl) ?_
  refine x_get (pc := 106) (v := .ref (ad (k + 8))) E hP (RoA.lt hk) (sh5 hk) rfl inX5 10 (by decide) q109 rfl dX5_copyFrom_106 ?_
  obtain ⟨M11, hM11, h⟩ := thn_ex h
  refine x_callNv (pc := 109) (st := .ref (ad (k + 8)) :: .ref (ad (k2 + 8)) :: []) (As := [.ref (ad (k2 + 8)), .ref (ad (k + 8))]) E hEx hl.1 hP hS (c_copyRow hap M10 (lt5a8 hk2) (sh5a8 hk2) (lt5a8 hk) (sh5a8 hk) (by decide) _ hM11) gcX7_copyRow (hNe _ nw8) q17 q384 hsX7_copyRow rfl ⟨Nat.le_of_ble_eq_true rfl, Nat.le_of_ble_eq_true rfl⟩ ⟨rfl, rfl⟩ dX5_copyFrom_109 rfl (Nat.le_of_ble_eq_true rfl) (fun H locs hP hS => ?_)
  refine lv_aload_n (pc := 112) hx hb dX5_copyFrom_112 rfl (lv_at hl 1 rfl) ?_
  refine x_get (pc := 113) (v := .ref (ad (k2 + 9))) E hP (RoA.lt hk2) (sh5 hk2) rfl inX5 11 (by decide) q111 rfl dX5_copyFrom_113 ?_
  refine lv_aload_n (pc := 116) hx hb dX5_copyFrom_116 rfl (lv_at hl 0 rfl) ?_
  refine x_get (pc := 117) (v := .ref (ad (k + 9))) E hP (RoA.lt hk) (sh5 hk) rfl inX5 11 (by decide) q111 rfl dX5_copyFrom_117 ?_
  obtain ⟨M12, hM12, h⟩ := thn_ex h
  refine x_callNv (pc := 120) (st := .ref (ad (k + 9)) :: .ref (ad (k2 + 9)) :: []) (As := [.ref (ad (k2 + 9)), .ref (ad (k + 9))]) E hEx hl.1 hP hS (c_copyRow hap M11 (lt5a9 hk2) (sh5a9 hk2) (lt5a9 hk) (sh5a9 hk) (by decide) _ hM12) gcX7_copyRow (hNe _ nw8) q17 q384 hsX7_copyRow rfl ⟨Nat.le_of_ble_eq_true rfl, Nat.le_of_ble_eq_true rfl⟩ ⟨rfl, rfl⟩ dX5_copyFrom_120 rfl (Nat.le_of_ble_eq_true rfl) (fun H locs hP hS => ?_)
  refine lv_aload_n (pc := 123) hx hb dX5_copyFrom_123 rfl (lv_at hl 1 rfl) ?_
  refine x_get (pc := 124) (v := .ref (ad (k2 + 10))) E hP (RoA.lt hk2) (sh5 hk2) rfl inX5 12 (by decide) q113 rfl dX5_copyFrom_124 ?_
  refine lv_aload_n (pc := 127) hx hb dX5_copyFrom_127 rfl (lv_at hl 0 rfl) ?_
  refine x_get (pc := 128) (v := .ref (ad (k + 10))) E hP (RoA.lt hk) (sh5 hk) rfl inX5 12 (by decide) q113 rfl dX5_copyFrom_128 ?_
  obtain ⟨M13, hM13, h⟩ := thn_ex h
  refine x_callNv (pc := 131) (st := .ref (ad (k + 10)) :: .ref (ad (k2 + 10)) :: []) (As := [.ref (ad (k2 + 10)), .ref (ad (k + 10))]) E hEx hl.1 hP hS (c_copyRow hap M12 (lt5a10 hk2) (sh5a10 hk2) (lt5a10 hk) (sh5a10 hk) (by decide) _ hM13) gcX7_copyRow (hNe _ nw8) q17 q384 hsX7_copyRow rfl ⟨Nat.le_of_ble_eq_true rfl, Nat.le_of_ble_eq_true rfl⟩ ⟨rfl, rfl⟩ dX5_copyFrom_131 rfl (Nat.le_of_ble_eq_true rfl) (fun H locs hP hS => ?_)
  refine lv_aload_n (pc := 134) hx hb dX5_copyFrom_134 rfl (lv_at hl 1 rfl) ?_
  refine x_get (pc := 135) (v := .ref (ad (k2 + 11))) E hP (RoA.lt hk2) (sh5 hk2) rfl inX5 13 (by decide) q115 rfl dX5_copyFrom_135 ?_
  refine lv_aload_n (pc := 138) hx hb dX5_copyFrom_138 rfl (lv_at hl 0 rfl) ?_
  refine x_get (pc := 139) (v := .ref (ad (k + 11))) E hP (RoA.lt hk) (sh5 hk) rfl inX5 13 (by decide) q115 rfl dX5_copyFrom_139 ?_
  obtain ⟨M14, hM14, h⟩ := thn_ex h
  refine x_callNv (pc := 142) (st := .ref (ad (k + 11)) :: .ref (ad (k2 + 11)) :: []) (As := [.ref (ad (k2 + 11)), .ref (ad (k + 11))]) E hEx hl.1 hP hS (c_copyRow hap M13 (lt5a11 hk2) (sh5a11 hk2) (lt5a11 hk) (sh5a11 hk) (by decide) _ hM14) gcX7_copyRow (hNe _ nw8) q17 q384 hsX7_copyRow rfl ⟨Nat.le_of_ble_eq_true rfl, Nat.le_of_ble_eq_true rfl⟩ ⟨rfl, rfl⟩ dX5_copyFrom_142 rfl (Nat.le_of_ble_eq_true rfl) (fun H locs hP hS => ?_)
  refine lv_aload_n (pc := 145) hx hb dX5_copyFrom_145 rfl (lv_at hl 0 rfl) ?_
  refine lv_aload_n (pc := 146) hx hb dX5_copyFrom_146 rfl (lv_at hl 1 rfl) ?_
  refine x_get (pc := 147) (v := .int (M14 k2 14)) E hP (RoA.lt hk2) (sh5 hk2) rfl inX5 14 (by decide) q118 rfl dX5_copyFrom_147 ?_
  obtain ⟨M15, hM15, h⟩ := thn_ex h
  refine x_put (pc := 150) (v := (M14 k2 14)) E hP hS (RoA.lt hk) (sh5 hk) tyX5 tyX5_ok nmX5 rfl inX5 14 (by decide) q118 rfl rfl rfl (Nat.le_of_ble_eq_true rfl) rfl dX5_copyFrom_150 (fun H locs hP hS => ?_)
  rw [hM15] at hP
  refine lv_aload_n (pc := 153) hx hb dX5_copyFrom_153 rfl (lv_at hl 0 rfl) ?_
  refine lv_aload_n (pc := 154) hx hb dX5_copyFrom_154 rfl (lv_at hl 1 rfl) ?_
  refine x_get (pc := 155) (v := .int (M15 k2 15)) E hP (RoA.lt hk2) (sh5 hk2) rfl inX5 15 (by decide) q120 rfl dX5_copyFrom_155 ?_
  obtain ⟨M16, hM16, h⟩ := thn_ex h
  refine x_put (pc := 158) (v := (M15 k2 15)) E hP hS (RoA.lt hk) (sh5 hk) tyX5 tyX5_ok nmX5 rfl inX5 15 (by decide) q120 rfl rfl rfl (Nat.le_of_ble_eq_true rfl) rfl dX5_copyFrom_158 (fun H locs hP hS => ?_)
  rw [hM16] at hP
  obtain rfl := som1 h
  exact x_vret E hP hS dX5_copyFrom_161
set_option maxRecDepth 100000 in
set_option maxHeartbeats 4000000 in
theorem kX5_appendBox (hap : Apart 78 ad) {k : Nat} (hk : RoA k) (M : Mem) (x1 x2 x3 : Int32) (v : Int32) (M' : Mem) (h : fX5_appendBox k M x1 x2 x3 = some (v, M')) : XI G ad sK sV cA cZ cC yX5_appendBox cX5_appendBox 5 .int ({ frames := 1, cells := 0, slots := 0, locals := 22 } : Room) [.ref (ad k), .int x1, .int x2, .int x3] M v M' := by
  refine CI.mk (own := RX5) (ls0 := [(0, .ref (ad k)), (1, .int x1), (2, .int x2), (3, .int x3)]) (by decide +kernel) rfl hap (Nat.le_of_ble_eq_true rfl) rfl ?_
  intro p l e s m args below meth c ls E hP hl
  have hx := E.1
  have hb := E.2.1
  have hown := E.2.2.2.2.2.1
  have hts := E.2.2.2.2.2.2.1
  have hNe := E.2.2.2.2.2.2.2.2.1.1
  have hEx := ExX.ok ad sK sV
  have hS : va_S (AW 78 ad) s.heap s.heap [] := va_S.rf
  unfold fX5_appendBox at h
  refine lv_aload_n (pc := 0) hx hb dX5_appendBox_0 rfl (lv_at hl 0 rfl) ?_
  refine x_get (pc := 1) (v := .int (M k 0)) E hP (RoA.lt hk) (sh5 hk) rfl inX5 0 (by decide) q88 rfl dX5_appendBox_1 ?_
  refine lv_istore (pc := 4) (lv' := [(4, .int (M k 0)), (0, .ref (ad k)), (1, .int x1), (2, .int x2), (3, .int x3)]) hx hb dX5_appendBox_4 hl (by decide) rfl (fun ls hl => ?_)
  refine lv_aload_n (pc := 6) hx hb dX5_appendBox_6 rfl (lv_at hl 1 rfl) ?_
  refine x_get (pc := 7) (v := .ref (ad (k + 1))) E hP (RoA.lt hk) (sh5 hk) rfl inX5 1 (by decide) q90 rfl dX5_appendBox_7 ?_
  refine lv_iload (pc := 10) hx hb dX5_appendBox_10 (lv_at hl 0 rfl) ?_
  refine lv_iload_n (pc := 12) hx hb dX5_appendBox_12 rfl (lv_at hl 2 rfl) ?_
  obtain ⟨M1, hM1, h⟩ := thn_ex h
  refine x_callNv (pc := 13) (st := .int x1 :: .int (M k 0) :: .ref (ad (k + 1)) :: []) (As := [.ref (ad (k + 1)), .int (M k 0), .int x1]) E hEx hl.1 hP hS (c_put hap M (lt5a1 hk) (sh5a1 hk) (by decide) _ _ _ hM1) gcX7_put (hNe _ nw2) q17 q86 hsX7_put rfl ⟨Nat.le_of_ble_eq_true rfl, Nat.le_of_ble_eq_true rfl⟩ ⟨rfl, rfl⟩ dX5_appendBox_13 rfl (Nat.le_of_ble_eq_true rfl) (fun H locs hP hS => ?_)
  refine lv_aload_n (pc := 16) hx hb dX5_appendBox_16 rfl (lv_at hl 1 rfl) ?_
  refine x_get (pc := 17) (v := .ref (ad (k + 2))) E hP (RoA.lt hk) (sh5 hk) rfl inX5 2 (by decide) q92 rfl dX5_appendBox_17 ?_
  refine lv_iload (pc := 20) hx hb dX5_appendBox_20 (lv_at hl 0 rfl) ?_
  refine lv_iload_n (pc := 22) hx hb dX5_appendBox_22 rfl (lv_at hl 3 rfl) ?_
  obtain ⟨M2, hM2, h⟩ := thn_ex h
  refine x_callNv (pc := 23) (st := .int x2 :: .int (M k 0) :: .ref (ad (k + 2)) :: []) (As := [.ref (ad (k + 2)), .int (M k 0), .int x2]) E hEx hl.1 hP hS (c_put hap M1 (lt5a2 hk) (sh5a2 hk) (by decide) _ _ _ hM2) gcX7_put (hNe _ nw2) q17 q86 hsX7_put rfl ⟨Nat.le_of_ble_eq_true rfl, Nat.le_of_ble_eq_true rfl⟩ ⟨rfl, rfl⟩ dX5_appendBox_23 rfl (Nat.le_of_ble_eq_true rfl) (fun H locs hP hS => ?_)
  refine lv_aload_n (pc := 26) hx hb dX5_appendBox_26 rfl (lv_at hl 1 rfl) ?_
  refine x_get (pc := 27) (v := .ref (ad (k + 3))) E hP (RoA.lt hk) (sh5 hk) rfl inX5 3 (by decide) q94 rfl dX5_appendBox_27 ?_
  refine lv_iload (pc := 30) hx hb dX5_appendBox_30 (lv_at hl 0 rfl) ?_
  refine lv_iload_n (pc := 32) hx hb dX5_appendBox_32 rfl (lv_at hl 4 rfl) ?_
  obtain ⟨M3, hM3, h⟩ := thn_ex h
  refine x_callNv (pc := 33) (st := .int x3 :: .int (M k 0) :: .ref (ad (k + 3)) :: []) (As := [.ref (ad (k + 3)), .int (M k 0), .int x3]) E hEx hl.1 hP hS (c_put hap M2 (lt5a3 hk) (sh5a3 hk) (by decide) _ _ _ hM3) gcX7_put (hNe _ nw2) q17 q86 hsX7_put rfl ⟨Nat.le_of_ble_eq_true rfl, Nat.le_of_ble_eq_true rfl⟩ ⟨rfl, rfl⟩ dX5_appendBox_33 rfl (Nat.le_of_ble_eq_true rfl) (fun H locs hP hS => ?_)
  refine lv_aload_n (pc := 36) hx hb dX5_appendBox_36 rfl (lv_at hl 1 rfl) ?_
  refine x_get (pc := 37) (v := .ref (ad (k + 4))) E hP (RoA.lt hk) (sh5 hk) rfl inX5 4 (by decide) q96 rfl dX5_appendBox_37 ?_
  refine lv_iload (pc := 40) hx hb dX5_appendBox_40 (lv_at hl 0 rfl) ?_
  refine lv_iconst (pc := 42) (v := (0 : Int32)) hx hb dX5_appendBox_42 (by decide) ?_
  obtain ⟨M4, hM4, h⟩ := thn_ex h
  refine x_callNv (pc := 43) (st := .int (0 : Int32) :: .int (M k 0) :: .ref (ad (k + 4)) :: []) (As := [.ref (ad (k + 4)), .int (M k 0), .int (0 : Int32)]) E hEx hl.1 hP hS (c_put hap M3 (lt5a4 hk) (sh5a4 hk) (by decide) _ _ _ hM4) gcX7_put (hNe _ nw2) q17 q86 hsX7_put rfl ⟨Nat.le_of_ble_eq_true rfl, Nat.le_of_ble_eq_true rfl⟩ ⟨rfl, rfl⟩ dX5_appendBox_43 rfl (Nat.le_of_ble_eq_true rfl) (fun H locs hP hS => ?_)
  refine lv_aload_n (pc := 46) hx hb dX5_appendBox_46 rfl (lv_at hl 1 rfl) ?_
  refine x_get (pc := 47) (v := .ref (ad (k + 5))) E hP (RoA.lt hk) (sh5 hk) rfl inX5 5 (by decide) q98 rfl dX5_appendBox_47 ?_
  refine lv_iload (pc := 50) hx hb dX5_appendBox_50 (lv_at hl 0 rfl) ?_
  refine lv_iconst (pc := 52) (v := (0 : Int32)) hx hb dX5_appendBox_52 (by decide) ?_
  obtain ⟨M5, hM5, h⟩ := thn_ex h
  refine x_callNv (pc := 53) (st := .int (0 : Int32) :: .int (M k 0) :: .ref (ad (k + 5)) :: []) (As := [.ref (ad (k + 5)), .int (M k 0), .int (0 : Int32)]) E hEx hl.1 hP hS (c_put hap M4 (lt5a5 hk) (sh5a5 hk) (by decide) _ _ _ hM5) gcX7_put (hNe _ nw2) q17 q86 hsX7_put rfl ⟨Nat.le_of_ble_eq_true rfl, Nat.le_of_ble_eq_true rfl⟩ ⟨rfl, rfl⟩ dX5_appendBox_53 rfl (Nat.le_of_ble_eq_true rfl) (fun H locs hP hS => ?_)
  refine lv_aload_n (pc := 56) hx hb dX5_appendBox_56 rfl (lv_at hl 1 rfl) ?_
  refine lv_dup (pc := 57) hx hb dX5_appendBox_57 rfl ?_
  refine x_get (pc := 58) (v := .int (M5 k 0)) E hP (RoA.lt hk) (sh5 hk) rfl inX5 0 (by decide) q88 rfl dX5_appendBox_58 ?_
  refine lv_iconst (pc := 61) (v := (1 : Int32)) hx hb dX5_appendBox_61 (by decide) ?_
  refine lv_iadd (pc := 62) hx hb dX5_appendBox_62 ?_
  obtain ⟨M6, hM6, h⟩ := thn_ex h
  refine x_put (pc := 63) (v := ((M5 k 0) + (1 : Int32))) E hP hS (RoA.lt hk) (sh5 hk) tyX5 tyX5_ok nmX5 rfl inX5 0 (by decide) q88 rfl rfl rfl (Nat.le_of_ble_eq_true rfl) rfl dX5_appendBox_63 (fun H locs hP hS => ?_)
  rw [hM6] at hP
  refine lv_iload (pc := 66) hx hb dX5_appendBox_66 (lv_at hl 0 rfl) ?_
  obtain ⟨rfl, rfl⟩ := som2 h
  exact x_iret E hP hS rfl dX5_appendBox_68
set_option maxRecDepth 100000 in
set_option maxHeartbeats 4000000 in
theorem kX5_appendProp (hap : Apart 78 ad) {k : Nat} (hk : RoA k) (M : Mem) (x1 : Int32) (v : Int32) (M' : Mem) (h : fX5_appendProp k M x1 = some (v, M')) : XI G ad sK sV cA cZ cC yX5_appendProp cX5_appendProp 3 .int ({ frames := 1, cells := 0, slots := 0, locals := 22 } : Room) [.ref (ad k), .int x1] M v M' := by
  refine CI.mk (own := RX5) (ls0 := [(0, .ref (ad k)), (1, .int x1)]) (by decide +kernel) rfl hap (Nat.le_of_ble_eq_true rfl) rfl ?_
  intro p l e s m args below meth c ls E hP hl
  have hx := E.1
  have hb := E.2.1
  have hown := E.2.2.2.2.2.1
  have hts := E.2.2.2.2.2.2.1
  have hNe := E.2.2.2.2.2.2.2.2.1.1
  have hEx := ExX.ok ad sK sV
  have hS : va_S (AW 78 ad) s.heap s.heap [] := va_S.rf
  unfold fX5_appendProp at h
  refine lv_aload_n (pc := 0) hx hb dX5_appendProp_0 rfl (lv_at hl 0 rfl) ?_
  refine x_get (pc := 1) (v := .int (M k 6)) E hP (RoA.lt hk) (sh5 hk) rfl inX5 6 (by decide) q100 rfl dX5_appendProp_1 ?_
  refine lv_istore_n (pc := 4) (lv' := [(2, .int (M k 6)), (0, .ref (ad k)), (1, .int x1)]) hx hb dX5_appendProp_4 rfl hl (by decide) rfl (fun ls hl => ?_)
  refine lv_aload_n (pc := 5) hx hb dX5_appendProp_5 rfl (lv_at hl 1 rfl) ?_
  refine x_get (pc := 6) (v := .ref (ad (k + 6))) E hP (RoA.lt hk) (sh5 hk) rfl inX5 7 (by decide) q102 rfl dX5_appendProp_6 ?_
  refine lv_iload_n (pc := 9) hx hb dX5_appendProp_9 rfl (lv_at hl 0 rfl) ?_
  refine lv_iload_n (pc := 10) hx hb dX5_appendProp_10 rfl (lv_at hl 2 rfl) ?_
  obtain ⟨M1, hM1, h⟩ := thn_ex h
  refine x_callNv (pc := 11) (st := .int x1 :: .int (M k 6) :: .ref (ad (k + 6)) :: []) (As := [.ref (ad (k + 6)), .int (M k 6), .int x1]) E hEx hl.1 hP hS (c_put hap M (lt5a6 hk) (sh5a6 hk) (by decide) _ _ _ hM1) gcX7_put (hNe _ nw2) q17 q86 hsX7_put rfl ⟨Nat.le_of_ble_eq_true rfl, Nat.le_of_ble_eq_true rfl⟩ ⟨rfl, rfl⟩ dX5_appendProp_11 rfl (Nat.le_of_ble_eq_true rfl) (fun H locs hP hS => ?_)
  refine lv_aload_n (pc := 14) hx hb dX5_appendProp_14 rfl (lv_at hl 1 rfl) ?_
  refine x_get (pc := 15) (v := .ref (ad (k + 7))) E hP (RoA.lt hk) (sh5 hk) rfl inX5 8 (by decide) q104 rfl dX5_appendProp_15 ?_
  refine lv_iload_n (pc := 18) hx hb dX5_appendProp_18 rfl (lv_at hl 0 rfl) ?_
  refine lv_iload_n (pc := 19) hx hb dX5_appendProp_19 rfl (lv_at hl 2 rfl) ?_
  obtain ⟨M2, hM2, h⟩ := thn_ex h
  refine x_callNv (pc := 20) (st := .int x1 :: .int (M k 6) :: .ref (ad (k + 7)) :: []) (As := [.ref (ad (k + 7)), .int (M k 6), .int x1]) E hEx hl.1 hP hS (c_put hap M1 (lt5a7 hk) (sh5a7 hk) (by decide) _ _ _ hM2) gcX7_put (hNe _ nw2) q17 q86 hsX7_put rfl ⟨Nat.le_of_ble_eq_true rfl, Nat.le_of_ble_eq_true rfl⟩ ⟨rfl, rfl⟩ dX5_appendProp_20 rfl (Nat.le_of_ble_eq_true rfl) (fun H locs hP hS => ?_)
  refine lv_aload_n (pc := 23) hx hb dX5_appendProp_23 rfl (lv_at hl 1 rfl) ?_
  refine lv_dup (pc := 24) hx hb dX5_appendProp_24 rfl ?_
  refine x_get (pc := 25) (v := .int (M2 k 6)) E hP (RoA.lt hk) (sh5 hk) rfl inX5 6 (by decide) q100 rfl dX5_appendProp_25 ?_
  refine lv_iconst (pc := 28) (v := (1 : Int32)) hx hb dX5_appendProp_28 (by decide) ?_
  refine lv_iadd (pc := 29) hx hb dX5_appendProp_29 ?_
  obtain ⟨M3, hM3, h⟩ := thn_ex h
  refine x_put (pc := 30) (v := ((M2 k 6) + (1 : Int32))) E hP hS (RoA.lt hk) (sh5 hk) tyX5 tyX5_ok nmX5 rfl inX5 6 (by decide) q100 rfl rfl rfl (Nat.le_of_ble_eq_true rfl) rfl dX5_appendProp_30 (fun H locs hP hS => ?_)
  rw [hM3] at hP
  refine lv_iload_n (pc := 33) hx hb dX5_appendProp_33 rfl (lv_at hl 0 rfl) ?_
  obtain ⟨rfl, rfl⟩ := som2 h
  exact x_iret E hP hS rfl dX5_appendProp_34
set_option maxRecDepth 100000 in
set_option maxHeartbeats 4000000 in
theorem kX5_appendClue (hap : Apart 78 ad) {k : Nat} (hk : RoA k) (M : Mem) (x1 x2 x3 : Int32) (v : Int32) (M' : Mem) (h : fX5_appendClue k M x1 x2 x3 = some (v, M')) : XI G ad sK sV cA cZ cC yX5_appendClue cX5_appendClue 5 .int ({ frames := 1, cells := 0, slots := 0, locals := 22 } : Room) [.ref (ad k), .int x1, .int x2, .int x3] M v M' := by
  refine CI.mk (own := RX5) (ls0 := [(0, .ref (ad k)), (1, .int x1), (2, .int x2), (3, .int x3)]) (by decide +kernel) rfl hap (Nat.le_of_ble_eq_true rfl) rfl ?_
  intro p l e s m args below meth c ls E hP hl
  have hx := E.1
  have hb := E.2.1
  have hown := E.2.2.2.2.2.1
  have hts := E.2.2.2.2.2.2.1
  have hNe := E.2.2.2.2.2.2.2.2.1.1
  have hEx := ExX.ok ad sK sV
  have hS : va_S (AW 78 ad) s.heap s.heap [] := va_S.rf
  unfold fX5_appendClue at h
  refine lv_aload_n (pc := 0) hx hb dX5_appendClue_0 rfl (lv_at hl 0 rfl) ?_
  refine x_get (pc := 1) (v := .int (M k 9)) E hP (RoA.lt hk) (sh5 hk) rfl inX5 9 (by decide) q106 rfl dX5_appendClue_1 ?_
  refine lv_istore (pc := 4) (lv' := [(4, .int (M k 9)), (0, .ref (ad k)), (1, .int x1), (2, .int x2), (3, .int x3)]) hx hb dX5_appendClue_4 hl (by decide) rfl (fun ls hl => ?_)
  refine lv_aload_n (pc := 6) hx hb dX5_appendClue_6 rfl (lv_at hl 1 rfl) ?_
  refine x_get (pc := 7) (v := .ref (ad (k + 8))) E hP (RoA.lt hk) (sh5 hk) rfl inX5 10 (by decide) q109 rfl dX5_appendClue_7 ?_
  refine lv_iload (pc := 10) hx hb dX5_appendClue_10 (lv_at hl 0 rfl) ?_
  refine lv_iload_n (pc := 12) hx hb dX5_appendClue_12 rfl (lv_at hl 2 rfl) ?_
  obtain ⟨M1, hM1, h⟩ := thn_ex h
  refine x_callNv (pc := 13) (st := .int x1 :: .int (M k 9) :: .ref (ad (k + 8)) :: []) (As := [.ref (ad (k + 8)), .int (M k 9), .int x1]) E hEx hl.1 hP hS (c_put hap M (lt5a8 hk) (sh5a8 hk) (by decide) _ _ _ hM1) gcX7_put (hNe _ nw2) q17 q86 hsX7_put rfl ⟨Nat.le_of_ble_eq_true rfl, Nat.le_of_ble_eq_true rfl⟩ ⟨rfl, rfl⟩ dX5_appendClue_13 rfl (Nat.le_of_ble_eq_true rfl) (fun H locs hP hS => ?_)
  refine lv_aload_n (pc := 16) hx hb dX5_appendClue_16 rfl (lv_at hl 1 rfl) ?_
  refine x_get (pc := 17) (v := .ref (ad (k + 9))) E hP (RoA.lt hk) (sh5 hk) rfl inX5 11 (by decide) q111 rfl dX5_appendClue_17 ?_
  refine lv_iload (pc := 20) hx hb dX5_appendClue_20 (lv_at hl 0 rfl) ?_
  refine lv_iload_n (pc := 22) hx hb dX5_appendClue_22 rfl (lv_at hl 3 rfl) ?_
  obtain ⟨M2, hM2, h⟩ := thn_ex h
  refine x_callNv (pc := 23) (st := .int x2 :: .int (M k 9) :: .ref (ad (k + 9)) :: []) (As := [.ref (ad (k + 9)), .int (M k 9), .int x2]) E hEx hl.1 hP hS (c_put hap M1 (lt5a9 hk) (sh5a9 hk) (by decide) _ _ _ hM2) gcX7_put (hNe _ nw2) q17 q86 hsX7_put rfl ⟨Nat.le_of_ble_eq_true rfl, Nat.le_of_ble_eq_true rfl⟩ ⟨rfl, rfl⟩ dX5_appendClue_23 rfl (Nat.le_of_ble_eq_true rfl) (fun H locs hP hS => ?_)
  refine lv_aload_n (pc := 26) hx hb dX5_appendClue_26 rfl (lv_at hl 1 rfl) ?_
  refine x_get (pc := 27) (v := .ref (ad (k + 10))) E hP (RoA.lt hk) (sh5 hk) rfl inX5 12 (by decide) q113 rfl dX5_appendClue_27 ?_
  refine lv_iload (pc := 30) hx hb dX5_appendClue_30 (lv_at hl 0 rfl) ?_
  refine lv_iload_n (pc := 32) hx hb dX5_appendClue_32 rfl (lv_at hl 4 rfl) ?_
  obtain ⟨M3, hM3, h⟩ := thn_ex h
  refine x_callNv (pc := 33) (st := .int x3 :: .int (M k 9) :: .ref (ad (k + 10)) :: []) (As := [.ref (ad (k + 10)), .int (M k 9), .int x3]) E hEx hl.1 hP hS (c_put hap M2 (lt5a10 hk) (sh5a10 hk) (by decide) _ _ _ hM3) gcX7_put (hNe _ nw2) q17 q86 hsX7_put rfl ⟨Nat.le_of_ble_eq_true rfl, Nat.le_of_ble_eq_true rfl⟩ ⟨rfl, rfl⟩ dX5_appendClue_33 rfl (Nat.le_of_ble_eq_true rfl) (fun H locs hP hS => ?_)
  refine lv_aload_n (pc := 36) hx hb dX5_appendClue_36 rfl (lv_at hl 1 rfl) ?_
  refine x_get (pc := 37) (v := .ref (ad (k + 11))) E hP (RoA.lt hk) (sh5 hk) rfl inX5 13 (by decide) q115 rfl dX5_appendClue_37 ?_
  refine lv_iload (pc := 40) hx hb dX5_appendClue_40 (lv_at hl 0 rfl) ?_
  refine lv_bipush (pc := 42) (v := (9 : Int32)) hx hb dX5_appendClue_42 (by decide) ?_
  obtain ⟨M4, hM4, h⟩ := thn_ex h
  refine x_callNv (pc := 44) (st := .int (9 : Int32) :: .int (M k 9) :: .ref (ad (k + 11)) :: []) (As := [.ref (ad (k + 11)), .int (M k 9), .int (9 : Int32)]) E hEx hl.1 hP hS (c_put hap M3 (lt5a11 hk) (sh5a11 hk) (by decide) _ _ _ hM4) gcX7_put (hNe _ nw2) q17 q86 hsX7_put rfl ⟨Nat.le_of_ble_eq_true rfl, Nat.le_of_ble_eq_true rfl⟩ ⟨rfl, rfl⟩ dX5_appendClue_44 rfl (Nat.le_of_ble_eq_true rfl) (fun H locs hP hS => ?_)
  refine lv_aload_n (pc := 47) hx hb dX5_appendClue_47 rfl (lv_at hl 1 rfl) ?_
  refine lv_dup (pc := 48) hx hb dX5_appendClue_48 rfl ?_
  refine x_get (pc := 49) (v := .int (M4 k 9)) E hP (RoA.lt hk) (sh5 hk) rfl inX5 9 (by decide) q106 rfl dX5_appendClue_49 ?_
  refine lv_iconst (pc := 52) (v := (1 : Int32)) hx hb dX5_appendClue_52 (by decide) ?_
  refine lv_iadd (pc := 53) hx hb dX5_appendClue_53 ?_
  obtain ⟨M5, hM5, h⟩ := thn_ex h
  refine x_put (pc := 54) (v := ((M4 k 9) + (1 : Int32))) E hP hS (RoA.lt hk) (sh5 hk) tyX5 tyX5_ok nmX5 rfl inX5 9 (by decide) q106 rfl rfl rfl (Nat.le_of_ble_eq_true rfl) rfl dX5_appendClue_54 (fun H locs hP hS => ?_)
  rw [hM5] at hP
  refine lv_iload (pc := 57) hx hb dX5_appendClue_57 (lv_at hl 0 rfl) ?_
  obtain ⟨rfl, rfl⟩ := som2 h
  exact x_iret E hP hS rfl dX5_appendClue_59
set_option maxRecDepth 100000 in
set_option maxHeartbeats 4000000 in
theorem kX5_hasBox (hap : Apart 78 ad) {k : Nat} (hk : RoA k) (M : Mem) (x1 : Int32) (v : Int32) (h : fX5_hasBox k M x1 = v) : XI G ad sK sV cA cZ cC yX5_hasBox cX5_hasBox 2 .boolean ({ frames := 0, cells := 0, slots := 0, locals := 0 } : Room) [.ref (ad k), .int x1] M v M := by
  refine CI.mk (own := RX5) (ls0 := [(0, .ref (ad k)), (1, .int x1)]) (by decide +kernel) rfl hap (Nat.le_of_ble_eq_true rfl) rfl ?_
  intro p l e s m args below meth c ls E hP hl
  have hx := E.1
  have hb := E.2.1
  have hown := E.2.2.2.2.2.1
  have hts := E.2.2.2.2.2.2.1
  have hNe := E.2.2.2.2.2.2.2.2.1.1
  have hEx := ExX.ok ad sK sV
  have hS : va_S (AW 78 ad) s.heap s.heap [] := va_S.rf
  unfold fX5_hasBox at h
  refine lv_iload_n (pc := 0) hx hb dX5_hasBox_0 rfl (lv_at hl 1 rfl) ?_
  refine lv_if_lt (pc := 1) (tgt := 16) hx hb dX5_hasBox_1 (by decide) (fun c1 => ?_) (fun c1 => ?_)
  · have h := (if_pos c1).symm.trans h
    refine lv_iconst (pc := 16) (v := (0 : Int32)) hx hb dX5_hasBox_16 (by decide) ?_
    obtain rfl : (0 : Int32) = v := h
    exact x_iret E hP hS rfl dX5_hasBox_17
  · have h := (if_neg c1).symm.trans h
    refine lv_iload_n (pc := 4) hx hb dX5_hasBox_4 rfl (lv_at hl 1 rfl) ?_
    refine lv_aload_n (pc := 5) hx hb dX5_hasBox_5 rfl (lv_at hl 0 rfl) ?_
    refine x_get (pc := 6) (v := .int (M k 0)) E hP (RoA.lt hk) (sh5 hk) rfl inX5 0 (by decide) q88 rfl dX5_hasBox_6 ?_
    refine lv_icmp_ge (pc := 9) (tgt := 16) hx hb dX5_hasBox_9 (by decide) (fun c2 => ?_) (fun c2 => ?_)
    · have h := (if_pos c2).symm.trans h
      refine lv_iconst (pc := 16) (v := (0 : Int32)) hx hb dX5_hasBox_16 (by decide) ?_
      obtain rfl : (0 : Int32) = v := h
      exact x_iret E hP hS rfl dX5_hasBox_17
    · have h := (if_neg c2).symm.trans h
      refine lv_iconst (pc := 12) (v := (1 : Int32)) hx hb dX5_hasBox_12 (by decide) ?_
      refine lv_goto (pc := 13) (tgt := 17) hx hb dX5_hasBox_13 (by decide) ?_
      obtain rfl : (1 : Int32) = v := h
      exact x_iret E hP hS rfl dX5_hasBox_17
set_option maxRecDepth 100000 in
set_option maxHeartbeats 4000000 in
theorem kX5_hasProp (hap : Apart 78 ad) {k : Nat} (hk : RoA k) (M : Mem) (x1 : Int32) (v : Int32) (h : fX5_hasProp k M x1 = v) : XI G ad sK sV cA cZ cC yX5_hasProp cX5_hasProp 2 .boolean ({ frames := 0, cells := 0, slots := 0, locals := 0 } : Room) [.ref (ad k), .int x1] M v M := by
  refine CI.mk (own := RX5) (ls0 := [(0, .ref (ad k)), (1, .int x1)]) (by decide +kernel) rfl hap (Nat.le_of_ble_eq_true rfl) rfl ?_
  intro p l e s m args below meth c ls E hP hl
  have hx := E.1
  have hb := E.2.1
  have hown := E.2.2.2.2.2.1
  have hts := E.2.2.2.2.2.2.1
  have hNe := E.2.2.2.2.2.2.2.2.1.1
  have hEx := ExX.ok ad sK sV
  have hS : va_S (AW 78 ad) s.heap s.heap [] := va_S.rf
  unfold fX5_hasProp at h
  refine lv_iload_n (pc := 0) hx hb dX5_hasProp_0 rfl (lv_at hl 1 rfl) ?_
  refine lv_if_lt (pc := 1) (tgt := 16) hx hb dX5_hasProp_1 (by decide) (fun c1 => ?_) (fun c1 => ?_)
  · have h := (if_pos c1).symm.trans h
    refine lv_iconst (pc := 16) (v := (0 : Int32)) hx hb dX5_hasProp_16 (by decide) ?_
    obtain rfl : (0 : Int32) = v := h
    exact x_iret E hP hS rfl dX5_hasProp_17
  · have h := (if_neg c1).symm.trans h
    refine lv_iload_n (pc := 4) hx hb dX5_hasProp_4 rfl (lv_at hl 1 rfl) ?_
    refine lv_aload_n (pc := 5) hx hb dX5_hasProp_5 rfl (lv_at hl 0 rfl) ?_
    refine x_get (pc := 6) (v := .int (M k 6)) E hP (RoA.lt hk) (sh5 hk) rfl inX5 6 (by decide) q100 rfl dX5_hasProp_6 ?_
    refine lv_icmp_ge (pc := 9) (tgt := 16) hx hb dX5_hasProp_9 (by decide) (fun c2 => ?_) (fun c2 => ?_)
    · have h := (if_pos c2).symm.trans h
      refine lv_iconst (pc := 16) (v := (0 : Int32)) hx hb dX5_hasProp_16 (by decide) ?_
      obtain rfl : (0 : Int32) = v := h
      exact x_iret E hP hS rfl dX5_hasProp_17
    · have h := (if_neg c2).symm.trans h
      refine lv_iconst (pc := 12) (v := (1 : Int32)) hx hb dX5_hasProp_12 (by decide) ?_
      refine lv_goto (pc := 13) (tgt := 17) hx hb dX5_hasProp_13 (by decide) ?_
      obtain rfl : (1 : Int32) = v := h
      exact x_iret E hP hS rfl dX5_hasProp_17
set_option maxRecDepth 100000 in
set_option maxHeartbeats 4000000 in
theorem kX5_hasClue (hap : Apart 78 ad) {k : Nat} (hk : RoA k) (M : Mem) (x1 : Int32) (v : Int32) (h : fX5_hasClue k M x1 = v) : XI G ad sK sV cA cZ cC yX5_hasClue cX5_hasClue 2 .boolean ({ frames := 0, cells := 0, slots := 0, locals := 0 } : Room) [.ref (ad k), .int x1] M v M := by
  refine CI.mk (own := RX5) (ls0 := [(0, .ref (ad k)), (1, .int x1)]) (by decide +kernel) rfl hap (Nat.le_of_ble_eq_true rfl) rfl ?_
  intro p l e s m args below meth c ls E hP hl
  have hx := E.1
  have hb := E.2.1
  have hown := E.2.2.2.2.2.1
  have hts := E.2.2.2.2.2.2.1
  have hNe := E.2.2.2.2.2.2.2.2.1.1
  have hEx := ExX.ok ad sK sV
  have hS : va_S (AW 78 ad) s.heap s.heap [] := va_S.rf
  unfold fX5_hasClue at h
  refine lv_iload_n (pc := 0) hx hb dX5_hasClue_0 rfl (lv_at hl 1 rfl) ?_
  refine lv_if_lt (pc := 1) (tgt := 16) hx hb dX5_hasClue_1 (by decide) (fun c1 => ?_) (fun c1 => ?_)
  · have h := (if_pos c1).symm.trans h
    refine lv_iconst (pc := 16) (v := (0 : Int32)) hx hb dX5_hasClue_16 (by decide) ?_
    obtain rfl : (0 : Int32) = v := h
    exact x_iret E hP hS rfl dX5_hasClue_17
  · have h := (if_neg c1).symm.trans h
    refine lv_iload_n (pc := 4) hx hb dX5_hasClue_4 rfl (lv_at hl 1 rfl) ?_
    refine lv_aload_n (pc := 5) hx hb dX5_hasClue_5 rfl (lv_at hl 0 rfl) ?_
    refine x_get (pc := 6) (v := .int (M k 9)) E hP (RoA.lt hk) (sh5 hk) rfl inX5 9 (by decide) q106 rfl dX5_hasClue_6 ?_
    refine lv_icmp_ge (pc := 9) (tgt := 16) hx hb dX5_hasClue_9 (by decide) (fun c2 => ?_) (fun c2 => ?_)
    · have h := (if_pos c2).symm.trans h
      refine lv_iconst (pc := 16) (v := (0 : Int32)) hx hb dX5_hasClue_16 (by decide) ?_
      obtain rfl : (0 : Int32) = v := h
      exact x_iret E hP hS rfl dX5_hasClue_17
    · have h := (if_neg c2).symm.trans h
      refine lv_iconst (pc := 12) (v := (1 : Int32)) hx hb dX5_hasClue_12 (by decide) ?_
      refine lv_goto (pc := 13) (tgt := 17) hx hb dX5_hasClue_13 (by decide) ?_
      obtain rfl : (1 : Int32) = v := h
      exact x_iret E hP hS rfl dX5_hasClue_17
set_option maxRecDepth 100000 in
set_option maxHeartbeats 4000000 in
theorem kX5_hasLock (hap : Apart 78 ad) {k : Nat} (hk : RoA k) (M : Mem) (x1 x2 : Int32) (v : Int32) (h : fX5_hasLock k M x1 x2 = v) : XI G ad sK sV cA cZ cC yX5_hasLock cX5_hasLock 3 .boolean ({ frames := 1, cells := 0, slots := 0, locals := 21 } : Room) [.ref (ad k), .int x1, .int x2] M v M := by
  refine CI.mk (own := RX5) (ls0 := [(0, .ref (ad k)), (1, .int x1), (2, .int x2)]) (by decide +kernel) rfl hap (Nat.le_of_ble_eq_true rfl) rfl ?_
  intro p l e s m args below meth c ls E hP hl
  have hx := E.1
  have hb := E.2.1
  have hown := E.2.2.2.2.2.1
  have hts := E.2.2.2.2.2.2.1
  have hNe := E.2.2.2.2.2.2.2.2.1.1
  have hEx := ExX.ok ad sK sV
  have hS : va_S (AW 78 ad) s.heap s.heap [] := va_S.rf
  unfold fX5_hasLock at h
  refine lv_iload_n (pc := 0) hx hb dX5_hasLock_0 rfl (lv_at hl 1 rfl) ?_
  refine lv_if_le (pc := 1) (tgt := 20) hx hb dX5_hasLock_1 (by decide) (fun c1 => ?_) (fun c1 => ?_)
  · have h := (if_pos c1).symm.trans h
    refine lv_iconst (pc := 20) (v := (0 : Int32)) hx hb dX5_hasLock_20 (by decide) ?_
    obtain rfl : (0 : Int32) = v := h
    exact x_iret E hP hS rfl dX5_hasLock_21
  · have h := (if_neg c1).symm.trans h
    refine lv_aload_n (pc := 4) hx hb dX5_hasLock_4 rfl (lv_at hl 0 rfl) ?_
    refine x_get (pc := 5) (v := .ref (ad (k + 2))) E hP (RoA.lt hk) (sh5 hk) rfl inX5 2 (by decide) q92 rfl dX5_hasLock_5 ?_
    refine lv_iload_n (pc := 8) hx hb dX5_hasLock_8 rfl (lv_at hl 1 rfl) ?_
    refine x_callNi (pc := 9) (st := .int x1 :: .ref (ad (k + 2)) :: []) (As := [.ref (ad (k + 2)), .int x1]) E hEx hl.1 hP hS (c_at hap M (lt5a2 hk) (sh5a2 hk) (by decide) _ _ rfl) gcX7_at (hNe _ nw7) q17 q320 hsX7_at rfl ⟨Nat.le_of_ble_eq_true rfl, Nat.le_of_ble_eq_true rfl⟩ ⟨rfl, rfl⟩ dX5_hasLock_9 rfl (Nat.le_of_ble_eq_true rfl) (fun H locs hP hS n2 => ?_)
    refine lv_iload_n (pc := 12) hx hb dX5_hasLock_12 rfl (lv_at hl 2 rfl) ?_
    refine lv_icmp_ne (pc := 13) (tgt := 20) hx hb dX5_hasLock_13 (by decide) (fun c3 => ?_) (fun c3 => ?_)
    · have h := (if_neg c3).symm.trans h
      refine lv_iconst (pc := 20) (v := (0 : Int32)) hx hb dX5_hasLock_20 (by decide) ?_
      obtain rfl : (0 : Int32) = v := h
      exact x_iret E hP hS rfl dX5_hasLock_21
    · have h := (if_pos c3).symm.trans h
      refine lv_iconst (pc := 16) (v := (1 : Int32)) hx hb dX5_hasLock_16 (by decide) ?_
      refine lv_goto (pc := 17) (tgt := 21) hx hb dX5_hasLock_17 (by decide) ?_
      obtain rfl : (1 : Int32) = v := h
      exact x_iret E hP hS rfl dX5_hasLock_21
set_option maxRecDepth 100000 in
set_option maxHeartbeats 4000000 in
theorem kX5_isOpen (hap : Apart 78 ad) {k : Nat} (hk : RoA k) (M : Mem) (x1 : Int32) (v : Int32) (h : fX5_isOpen k M x1 = v) : XI G ad sK sV cA cZ cC yX5_isOpen cX5_isOpen 2 .boolean ({ frames := 1, cells := 0, slots := 0, locals := 21 } : Room) [.ref (ad k), .int x1] M v M := by
  refine CI.mk (own := RX5) (ls0 := [(0, .ref (ad k)), (1, .int x1)]) (by decide +kernel) rfl hap (Nat.le_of_ble_eq_true rfl) rfl ?_
  intro p l e s m args below meth c ls E hP hl
  have hx := E.1
  have hb := E.2.1
  have hown := E.2.2.2.2.2.1
  have hts := E.2.2.2.2.2.2.1
  have hNe := E.2.2.2.2.2.2.2.2.1.1
  have hEx := ExX.ok ad sK sV
  have hS : va_S (AW 78 ad) s.heap s.heap [] := va_S.rf
  unfold fX5_isOpen at h
  refine lv_aload_n (pc := 0) hx hb dX5_isOpen_0 rfl (lv_at hl 0 rfl) ?_
  refine x_get (pc := 1) (v := .ref (ad (k + 4))) E hP (RoA.lt hk) (sh5 hk) rfl inX5 4 (by decide) q96 rfl dX5_isOpen_1 ?_
  refine lv_iload_n (pc := 4) hx hb dX5_isOpen_4 rfl (lv_at hl 1 rfl) ?_
  refine x_callNi (pc := 5) (st := .int x1 :: .ref (ad (k + 4)) :: []) (As := [.ref (ad (k + 4)), .int x1]) E hEx hl.1 hP hS (c_at hap M (lt5a4 hk) (sh5a4 hk) (by decide) _ _ rfl) gcX7_at (hNe _ nw7) q17 q320 hsX7_at rfl ⟨Nat.le_of_ble_eq_true rfl, Nat.le_of_ble_eq_true rfl⟩ ⟨rfl, rfl⟩ dX5_isOpen_5 rfl (Nat.le_of_ble_eq_true rfl) (fun H locs hP hS n1 => ?_)
  refine lv_iconst (pc := 8) (v := (1 : Int32)) hx hb dX5_isOpen_8 (by decide) ?_
  refine lv_icmp_ne (pc := 9) (tgt := 16) hx hb dX5_isOpen_9 (by decide) (fun c2 => ?_) (fun c2 => ?_)
  · have h := (if_neg c2).symm.trans h
    refine lv_iconst (pc := 16) (v := (0 : Int32)) hx hb dX5_isOpen_16 (by decide) ?_
    obtain rfl : (0 : Int32) = v := h
    exact x_iret E hP hS rfl dX5_isOpen_17
  · have h := (if_pos c2).symm.trans h
    refine lv_iconst (pc := 12) (v := (1 : Int32)) hx hb dX5_isOpen_12 (by decide) ?_
    refine lv_goto (pc := 13) (tgt := 17) hx hb dX5_isOpen_13 (by decide) ?_
    obtain rfl : (1 : Int32) = v := h
    exact x_iret E hP hS rfl dX5_isOpen_17
set_option maxRecDepth 100000 in
set_option maxHeartbeats 4000000 in
theorem kX5_isHeld (hap : Apart 78 ad) {k : Nat} (hk : RoA k) (M : Mem) (x1 : Int32) (v : Int32) (h : fX5_isHeld k M x1 = v) : XI G ad sK sV cA cZ cC yX5_isHeld cX5_isHeld 2 .boolean ({ frames := 1, cells := 0, slots := 0, locals := 21 } : Room) [.ref (ad k), .int x1] M v M := by
  refine CI.mk (own := RX5) (ls0 := [(0, .ref (ad k)), (1, .int x1)]) (by decide +kernel) rfl hap (Nat.le_of_ble_eq_true rfl) rfl ?_
  intro p l e s m args below meth c ls E hP hl
  have hx := E.1
  have hb := E.2.1
  have hown := E.2.2.2.2.2.1
  have hts := E.2.2.2.2.2.2.1
  have hNe := E.2.2.2.2.2.2.2.2.1.1
  have hEx := ExX.ok ad sK sV
  have hS : va_S (AW 78 ad) s.heap s.heap [] := va_S.rf
  unfold fX5_isHeld at h
  refine lv_aload_n (pc := 0) hx hb dX5_isHeld_0 rfl (lv_at hl 0 rfl) ?_
  refine x_get (pc := 1) (v := .ref (ad (k + 7))) E hP (RoA.lt hk) (sh5 hk) rfl inX5 8 (by decide) q104 rfl dX5_isHeld_1 ?_
  refine lv_iload_n (pc := 4) hx hb dX5_isHeld_4 rfl (lv_at hl 1 rfl) ?_
  refine x_callNi (pc := 5) (st := .int x1 :: .ref (ad (k + 7)) :: []) (As := [.ref (ad (k + 7)), .int x1]) E hEx hl.1 hP hS (c_at hap M (lt5a7 hk) (sh5a7 hk) (by decide) _ _ rfl) gcX7_at (hNe _ nw7) q17 q320 hsX7_at rfl ⟨Nat.le_of_ble_eq_true rfl, Nat.le_of_ble_eq_true rfl⟩ ⟨rfl, rfl⟩ dX5_isHeld_5 rfl (Nat.le_of_ble_eq_true rfl) (fun H locs hP hS n1 => ?_)
  refine lv_iconst (pc := 8) (v := (-1 : Int32)) hx hb dX5_isHeld_8 (by decide) ?_
  refine lv_icmp_ne (pc := 9) (tgt := 16) hx hb dX5_isHeld_9 (by decide) (fun c2 => ?_) (fun c2 => ?_)
  · have h := (if_neg c2).symm.trans h
    refine lv_iconst (pc := 16) (v := (0 : Int32)) hx hb dX5_isHeld_16 (by decide) ?_
    obtain rfl : (0 : Int32) = v := h
    exact x_iret E hP hS rfl dX5_isHeld_17
  · have h := (if_pos c2).symm.trans h
    refine lv_iconst (pc := 12) (v := (1 : Int32)) hx hb dX5_isHeld_12 (by decide) ?_
    refine lv_goto (pc := 13) (tgt := 17) hx hb dX5_isHeld_13 (by decide) ?_
    obtain rfl : (1 : Int32) = v := h
    exact x_iret E hP hS rfl dX5_isHeld_17
set_option maxRecDepth 100000 in
set_option maxHeartbeats 4000000 in
theorem kX5_outermostClosed (hap : Apart 78 ad) {k : Nat} (hk : RoA k) (M : Mem) (x1 : Int32) (v : Int32) (h : fX5_outermostClosed k M x1 = some v) : XI G ad sK sV cA cZ cC yX5_outermostClosed cX5_outermostClosed 5 .int ({ frames := 1, cells := 0, slots := 0, locals := 21 } : Room) [.ref (ad k), .int x1] M v M := by
  refine CI.mk (own := RX5) (ls0 := [(0, .ref (ad k)), (1, .int x1)]) (by decide +kernel) rfl hap (Nat.le_of_ble_eq_true rfl) rfl ?_
  intro p l e s m args below meth c ls E hP hl
  have hx := E.1
  have hb := E.2.1
  have hown := E.2.2.2.2.2.1
  have hts := E.2.2.2.2.2.2.1
  have hNe := E.2.2.2.2.2.2.2.2.1.1
  have hEx := ExX.ok ad sK sV
  have hS : va_S (AW 78 ad) s.heap s.heap [] := va_S.rf
  have hL7 : ∀ (n : Nat) (M : Mem) (x2 x3 x4 : Int32) (H : Heap) (locs : List Loc) (ls : Array Slot), fX5_outermostClosed_L7 k n M x2 x3 x4 = some v → va_P G vwCl (WW 78 (shX cA ad) ad M) H → va_S (AW 78 ad) s.heap H locs → lv_has ls 5 [(0, .ref (ad k)), (2, .int x2), (3, .int x3), (4, .int x4)] → W p l e ({ frames := 1, cells := 0, slots := 0, locals := 21 } : Room) s m args below meth c H locs 0 0 (QI below G 78 (shX cA ad) ad .int args s v M) (F0 m 7 ls []) := by
    intro n
    induction n with
    | zero => intro M x2 x3 x4 H locs ls h; cases h
    | succ n ih =>
      intro M x2 x3 x4 H locs ls h hP hS hl
      rw [fX5_outermostClosed_L7] at h
      refine lv_iload (pc := 7) hx hb dX5_outermostClosed_7 (lv_at hl 3 rfl) ?_
      refine lv_bipush (pc := 9) (v := (12 : Int32)) hx hb dX5_outermostClosed_9 (by decide) ?_
      refine lv_icmp_ge (pc := 11) (tgt := 46) hx hb dX5_outermostClosed_11 (by decide) (fun c1 => ?_) (fun c1 => ?_)
      · have h := (if_pos c1).symm.trans h
        refine lv_iload_n (pc := 46) hx hb dX5_outermostClosed_46 rfl (lv_at hl 1 rfl) ?_
        obtain rfl := som1 h
        exact x_iret E hP hS rfl dX5_outermostClosed_47
      · have h := (if_neg c1).symm.trans h
        refine lv_iload_n (pc := 14) hx hb dX5_outermostClosed_14 rfl (lv_at hl 2 rfl) ?_
        refine lv_if_le (pc := 15) (tgt := 46) hx hb dX5_outermostClosed_15 (by decide) (fun c2 => ?_) (fun c2 => ?_)
        · have h := (if_pos c2).symm.trans h
          refine lv_iload_n (pc := 46) hx hb dX5_outermostClosed_46 rfl (lv_at hl 1 rfl) ?_
          obtain rfl := som1 h
          exact x_iret E hP hS rfl dX5_outermostClosed_47
        · have h := (if_neg c2).symm.trans h
          refine lv_aload_n (pc := 18) hx hb dX5_outermostClosed_18 rfl (lv_at hl 0 rfl) ?_
          refine x_get (pc := 19) (v := .ref (ad (k + 4))) E hP (RoA.lt hk) (sh5 hk) rfl inX5 4 (by decide) q96 rfl dX5_outermostClosed_19 ?_
          refine lv_iload_n (pc := 22) hx hb dX5_outermostClosed_22 rfl (lv_at hl 2 rfl) ?_
          refine x_callNi (pc := 23) (st := .int x3 :: .ref (ad (k + 4)) :: []) (As := [.ref (ad (k + 4)), .int x3]) E hEx hl.1 hP hS (c_at hap M (lt5a4 hk) (sh5a4 hk) (by decide) _ _ rfl) gcX7_at (hNe _ nw7) q17 q320 hsX7_at rfl ⟨Nat.le_of_ble_eq_true rfl, Nat.le_of_ble_eq_true rfl⟩ ⟨rfl, rfl⟩ dX5_outermostClosed_23 rfl (Nat.le_of_ble_eq_true rfl) (fun H locs hP hS n3 => ?_)
          refine lv_if_ne (pc := 26) (tgt := 31) hx hb dX5_outermostClosed_26 (by decide) (fun c4 => ?_) (fun c4 => ?_)
          · have h := (if_neg c4).symm.trans h
            refine lv_aload_n (pc := 31) hx hb dX5_outermostClosed_31 rfl (lv_at hl 0 rfl) ?_
            refine x_get (pc := 32) (v := .ref (ad (k + 1))) E hP (RoA.lt hk) (sh5 hk) rfl inX5 1 (by decide) q90 rfl dX5_outermostClosed_32 ?_
            refine lv_iload_n (pc := 35) hx hb dX5_outermostClosed_35 rfl (lv_at hl 2 rfl) ?_
            refine x_callNi (pc := 36) (st := .int x3 :: .ref (ad (k + 1)) :: []) (As := [.ref (ad (k + 1)), .int x3]) E hEx hl.1 hP hS (c_at hap M (lt5a1 hk) (sh5a1 hk) (by decide) _ _ rfl) gcX7_at (hNe _ nw7) q17 q320 hsX7_at rfl ⟨Nat.le_of_ble_eq_true rfl, Nat.le_of_ble_eq_true rfl⟩ ⟨rfl, rfl⟩ dX5_outermostClosed_36 rfl (Nat.le_of_ble_eq_true rfl) (fun H locs hP hS n5 => ?_)
            refine lv_istore_n (pc := 39) (lv' := [(3, .int (atX M (k + 1) 12 x3)), (0, .ref (ad k)), (2, .int x2), (4, .int x4)]) hx hb dX5_outermostClosed_39 rfl hl (by decide) rfl (fun ls hl => ?_)
            refine lv_iinc (pc := 40) (v := (x4 + 1)) (lv' := [(4, .int (x4 + 1)), (3, .int (atX M (k + 1) 12 x3)), (0, .ref (ad k)), (2, .int x2)]) hx hb dX5_outermostClosed_40 hl (k := 3) rfl rfl (by decide) rfl (fun ls hl => ?_)
            refine lv_goto (pc := 43) (tgt := 7) hx hb dX5_outermostClosed_43 (by decide) ?_
            exact ih M x2 (atX M (k + 1) 12 x3) (x4 + 1) _ _ _ h hP hS (lv_sub hl [2, 3, 1, 0] rfl)
          · have h := (if_pos c4).symm.trans h
            refine lv_iload_n (pc := 29) hx hb dX5_outermostClosed_29 rfl (lv_at hl 2 rfl) ?_
            refine lv_istore_n (pc := 30) (lv' := [(2, .int x3), (0, .ref (ad k)), (3, .int x3), (4, .int x4)]) hx hb dX5_outermostClosed_30 rfl hl (by decide) rfl (fun ls hl => ?_)
            refine lv_aload_n (pc := 31) hx hb dX5_outermostClosed_31 rfl (lv_at hl 1 rfl) ?_
            refine x_get (pc := 32) (v := .ref (ad (k + 1))) E hP (RoA.lt hk) (sh5 hk) rfl inX5 1 (by decide) q90 rfl dX5_outermostClosed_32 ?_
            refine lv_iload_n (pc := 35) hx hb dX5_outermostClosed_35 rfl (lv_at hl 2 rfl) ?_
            refine x_callNi (pc := 36) (st := .int x3 :: .ref (ad (k + 1)) :: []) (As := [.ref (ad (k + 1)), .int x3]) E hEx hl.1 hP hS (c_at hap M (lt5a1 hk) (sh5a1 hk) (by decide) _ _ rfl) gcX7_at (hNe _ nw7) q17 q320 hsX7_at rfl ⟨Nat.le_of_ble_eq_true rfl, Nat.le_of_ble_eq_true rfl⟩ ⟨rfl, rfl⟩ dX5_outermostClosed_36 rfl (Nat.le_of_ble_eq_true rfl) (fun H locs hP hS n6 => ?_)
            refine lv_istore_n (pc := 39) (lv' := [(3, .int (atX M (k + 1) 12 x3)), (2, .int x3), (0, .ref (ad k)), (4, .int x4)]) hx hb dX5_outermostClosed_39 rfl hl (by decide) rfl (fun ls hl => ?_)
            refine lv_iinc (pc := 40) (v := (x4 + 1)) (lv' := [(4, .int (x4 + 1)), (3, .int (atX M (k + 1) 12 x3)), (2, .int x3), (0, .ref (ad k))]) hx hb dX5_outermostClosed_40 hl (k := 3) rfl rfl (by decide) rfl (fun ls hl => ?_)
            refine lv_goto (pc := 43) (tgt := 7) hx hb dX5_outermostClosed_43 (by decide) ?_
            exact ih M x3 (atX M (k + 1) 12 x3) (x4 + 1) _ _ _ h hP hS (lv_sub hl [3, 2, 1, 0] rfl)
  unfold fX5_outermostClosed at h
  refine lv_iconst (pc := 0) (v := (0 : Int32)) hx hb dX5_outermostClosed_0 (by decide) ?_
  refine lv_istore_n (pc := 1) (lv' := [(2, .int (0 : Int32)), (0, .ref (ad k)), (1, .int x1)]) hx hb dX5_outermostClosed_1 rfl hl (by decide) rfl (fun ls hl => ?_)
  refine lv_iload_n (pc := 2) hx hb dX5_outermostClosed_2 rfl (lv_at hl 2 rfl) ?_
  refine lv_istore_n (pc := 3) (lv' := [(3, .int x1), (2, .int (0 : Int32)), (0, .ref (ad k)), (1, .int x1)]) hx hb dX5_outermostClosed_3 rfl hl (by decide) rfl (fun ls hl => ?_)
  refine lv_iconst (pc := 4) (v := (0 : Int32)) hx hb dX5_outermostClosed_4 (by decide) ?_
  refine lv_istore (pc := 5) (lv' := [(4, .int (0 : Int32)), (3, .int x1), (2, .int (0 : Int32)), (0, .ref (ad k)), (1, .int x1)]) hx hb dX5_outermostClosed_5 hl (by decide) rfl (fun ls hl => ?_)
  exact hL7 5000 M (0 : Int32) x1 (0 : Int32) _ _ _ h hP hS (lv_sub hl [3, 2, 1, 0] rfl)
set_option maxRecDepth 100000 in
set_option maxHeartbeats 4000000 in
theorem kX5_boxAtHand (hap : Apart 78 ad) {k : Nat} (hk : RoA k) (M : Mem) (x1 : Int32) (v : Int32) (h : fX5_boxAtHand k M x1 = some v) : XI G ad sK sV cA cZ cC yX5_boxAtHand cX5_boxAtHand 2 .boolean ({ frames := 2, cells := 0, slots := 0, locals := 45 } : Room) [.ref (ad k), .int x1] M v M := by
  refine CI.mk (own := RX5) (ls0 := [(0, .ref (ad k)), (1, .int x1)]) (by decide +kernel) rfl hap (Nat.le_of_ble_eq_true rfl) rfl ?_
  intro p l e s m args below meth c ls E hP hl
  have hx := E.1
  have hb := E.2.1
  have hown := E.2.2.2.2.2.1
  have hts := E.2.2.2.2.2.2.1
  have hNe := E.2.2.2.2.2.2.2.2.1.1
  have hEx := ExX.ok ad sK sV
  have hS : va_S (AW 78 ad) s.heap s.heap [] := va_S.rf
  unfold fX5_boxAtHand at h
  refine lv_iload_n (pc := 0) hx hb dX5_boxAtHand_0 rfl (lv_at hl 1 rfl) ?_
  refine lv_if_eq (pc := 1) (tgt := 19) hx hb dX5_boxAtHand_1 (by decide) (fun c1 => ?_) (fun c1 => ?_)
  · have h := (if_pos c1).symm.trans h
    refine lv_iconst (pc := 19) (v := (1 : Int32)) hx hb dX5_boxAtHand_19 (by decide) ?_
    refine lv_goto (pc := 20) (tgt := 24) hx hb dX5_boxAtHand_20 (by decide) ?_
    obtain rfl := som1 h
    exact x_iret E hP hS rfl dX5_boxAtHand_24
  · have h := (if_neg c1).symm.trans h
    refine lv_aload_n (pc := 4) hx hb dX5_boxAtHand_4 rfl (lv_at hl 0 rfl) ?_
    refine lv_aload_n (pc := 5) hx hb dX5_boxAtHand_5 rfl (lv_at hl 0 rfl) ?_
    refine x_get (pc := 6) (v := .ref (ad (k + 1))) E hP (RoA.lt hk) (sh5 hk) rfl inX5 1 (by decide) q90 rfl dX5_boxAtHand_6 ?_
    refine lv_iload_n (pc := 9) hx hb dX5_boxAtHand_9 rfl (lv_at hl 1 rfl) ?_
    refine x_callNi (pc := 10) (st := .int x1 :: .ref (ad (k + 1)) :: .ref (ad k) :: []) (As := [.ref (ad (k + 1)), .int x1]) E hEx hl.1 hP hS (c_at hap M (lt5a1 hk) (sh5a1 hk) (by decide) _ _ rfl) gcX7_at (hNe _ nw7) q17 q320 hsX7_at rfl ⟨Nat.le_of_ble_eq_true rfl, Nat.le_of_ble_eq_true rfl⟩ ⟨rfl, rfl⟩ dX5_boxAtHand_10 rfl (Nat.le_of_ble_eq_true rfl) (fun H locs hP hS n2 => ?_)
    obtain ⟨y3, hy3, h⟩ := bnd_ex h
    refine x_callVi (pc := 13) (st := .int (atX M (k + 1) 12 x1) :: .ref (ad k) :: []) (As := [.int (atX M (k + 1) 12 x1)]) E hEx hl.1 hP hS (kX5_outermostClosed hap hk M _ _ hy3) gX5_73 hdX5_outermostClosed rfl (RoA.lt hk) (sh5 hk) rfl ⟨Nat.le_of_ble_eq_true rfl, Nat.le_of_ble_eq_true rfl⟩ ⟨rfl, rfl⟩ dX5_boxAtHand_13 rfl (Nat.le_of_ble_eq_true rfl) (fun H locs hP hS n4 => ?_)
    refine lv_if_ne (pc := 16) (tgt := 23) hx hb dX5_boxAtHand_16 (by decide) (fun c5 => ?_) (fun c5 => ?_)
    · have h := (if_neg c5).symm.trans h
      refine lv_iconst (pc := 23) (v := (0 : Int32)) hx hb dX5_boxAtHand_23 (by decide) ?_
      obtain rfl := som1 h
      exact x_iret E hP hS rfl dX5_boxAtHand_24
    · have h := (if_pos c5).symm.trans h
      refine lv_iconst (pc := 19) (v := (1 : Int32)) hx hb dX5_boxAtHand_19 (by decide) ?_
      refine lv_goto (pc := 20) (tgt := 24) hx hb dX5_boxAtHand_20 (by decide) ?_
      obtain rfl := som1 h
      exact x_iret E hP hS rfl dX5_boxAtHand_24
set_option maxRecDepth 100000 in
set_option maxHeartbeats 4000000 in
theorem kX5_propAtHand (hap : Apart 78 ad) {k : Nat} (hk : RoA k) (M : Mem) (x1 : Int32) (v : Int32) (h : fX5_propAtHand k M x1 = some v) : XI G ad sK sV cA cZ cC yX5_propAtHand cX5_propAtHand 2 .boolean ({ frames := 2, cells := 0, slots := 0, locals := 45 } : Room) [.ref (ad k), .int x1] M v M := by
  refine CI.mk (own := RX5) (ls0 := [(0, .ref (ad k)), (1, .int x1)]) (by decide +kernel) rfl hap (Nat.le_of_ble_eq_true rfl) rfl ?_
  intro p l e s m args below meth c ls E hP hl
  have hx := E.1
  have hb := E.2.1
  have hown := E.2.2.2.2.2.1
  have hts := E.2.2.2.2.2.2.1
  have hNe := E.2.2.2.2.2.2.2.2.1.1
  have hEx := ExX.ok ad sK sV
  have hS : va_S (AW 78 ad) s.heap s.heap [] := va_S.rf
  unfold fX5_propAtHand at h
  refine lv_aload_n (pc := 0) hx hb dX5_propAtHand_0 rfl (lv_at hl 0 rfl) ?_
  refine lv_aload_n (pc := 1) hx hb dX5_propAtHand_1 rfl (lv_at hl 0 rfl) ?_
  refine x_get (pc := 2) (v := .ref (ad (k + 7))) E hP (RoA.lt hk) (sh5 hk) rfl inX5 8 (by decide) q104 rfl dX5_propAtHand_2 ?_
  refine lv_iload_n (pc := 5) hx hb dX5_propAtHand_5 rfl (lv_at hl 1 rfl) ?_
  refine x_callNi (pc := 6) (st := .int x1 :: .ref (ad (k + 7)) :: .ref (ad k) :: []) (As := [.ref (ad (k + 7)), .int x1]) E hEx hl.1 hP hS (c_at hap M (lt5a7 hk) (sh5a7 hk) (by decide) _ _ rfl) gcX7_at (hNe _ nw7) q17 q320 hsX7_at rfl ⟨Nat.le_of_ble_eq_true rfl, Nat.le_of_ble_eq_true rfl⟩ ⟨rfl, rfl⟩ dX5_propAtHand_6 rfl (Nat.le_of_ble_eq_true rfl) (fun H locs hP hS n1 => ?_)
  obtain ⟨y2, hy2, h⟩ := bnd_ex h
  refine x_callVi (pc := 9) (st := .int (atX M (k + 7) 24 x1) :: .ref (ad k) :: []) (As := [.int (atX M (k + 7) 24 x1)]) E hEx hl.1 hP hS (kX5_outermostClosed hap hk M _ _ hy2) gX5_73 hdX5_outermostClosed rfl (RoA.lt hk) (sh5 hk) rfl ⟨Nat.le_of_ble_eq_true rfl, Nat.le_of_ble_eq_true rfl⟩ ⟨rfl, rfl⟩ dX5_propAtHand_9 rfl (Nat.le_of_ble_eq_true rfl) (fun H locs hP hS n3 => ?_)
  refine lv_if_ne (pc := 12) (tgt := 19) hx hb dX5_propAtHand_12 (by decide) (fun c4 => ?_) (fun c4 => ?_)
  · have h := (if_neg c4).symm.trans h
    refine lv_iconst (pc := 19) (v := (0 : Int32)) hx hb dX5_propAtHand_19 (by decide) ?_
    obtain rfl := som1 h
    exact x_iret E hP hS rfl dX5_propAtHand_20
  · have h := (if_pos c4).symm.trans h
    refine lv_iconst (pc := 15) (v := (1 : Int32)) hx hb dX5_propAtHand_15 (by decide) ?_
    refine lv_goto (pc := 16) (tgt := 20) hx hb dX5_propAtHand_16 (by decide) ?_
    obtain rfl := som1 h
    exact x_iret E hP hS rfl dX5_propAtHand_20
set_option maxRecDepth 100000 in
set_option maxHeartbeats 4000000 in
theorem kX5_clueAtHand (hap : Apart 78 ad) {k : Nat} (hk : RoA k) (M : Mem) (x1 : Int32) (v : Int32) (h : fX5_clueAtHand k M x1 = some v) : XI G ad sK sV cA cZ cC yX5_clueAtHand cX5_clueAtHand 2 .boolean ({ frames := 2, cells := 0, slots := 0, locals := 45 } : Room) [.ref (ad k), .int x1] M v M := by
  refine CI.mk (own := RX5) (ls0 := [(0, .ref (ad k)), (1, .int x1)]) (by decide +kernel) rfl hap (Nat.le_of_ble_eq_true rfl) rfl ?_
  intro p l e s m args below meth c ls E hP hl
  have hx := E.1
  have hb := E.2.1
  have hown := E.2.2.2.2.2.1
  have hts := E.2.2.2.2.2.2.1
  have hNe := E.2.2.2.2.2.2.2.2.1.1
  have hEx := ExX.ok ad sK sV
  have hS : va_S (AW 78 ad) s.heap s.heap [] := va_S.rf
  unfold fX5_clueAtHand at h
  refine lv_aload_n (pc := 0) hx hb dX5_clueAtHand_0 rfl (lv_at hl 0 rfl) ?_
  refine lv_aload_n (pc := 1) hx hb dX5_clueAtHand_1 rfl (lv_at hl 0 rfl) ?_
  refine x_get (pc := 2) (v := .ref (ad (k + 7))) E hP (RoA.lt hk) (sh5 hk) rfl inX5 8 (by decide) q104 rfl dX5_clueAtHand_2 ?_
  refine lv_aload_n (pc := 5) hx hb dX5_clueAtHand_5 rfl (lv_at hl 0 rfl) ?_
  refine x_get (pc := 6) (v := .ref (ad (k + 8))) E hP (RoA.lt hk) (sh5 hk) rfl inX5 10 (by decide) q109 rfl dX5_clueAtHand_6 ?_
  refine lv_iload_n (pc := 9) hx hb dX5_clueAtHand_9 rfl (lv_at hl 1 rfl) ?_
  refine x_callNi (pc := 10) (st := .int x1 :: .ref (ad (k + 8)) :: .ref (ad (k + 7)) :: .ref (ad k) :: []) (As := [.ref (ad (k + 8)), .int x1]) E hEx hl.1 hP hS (c_at hap M (lt5a8 hk) (sh5a8 hk) (by decide) _ _ rfl) gcX7_at (hNe _ nw7) q17 q320 hsX7_at rfl ⟨Nat.le_of_ble_eq_true rfl, Nat.le_of_ble_eq_true rfl⟩ ⟨rfl, rfl⟩ dX5_clueAtHand_10 rfl (Nat.le_of_ble_eq_true rfl) (fun H locs hP hS n1 => ?_)
  refine x_callNi (pc := 13) (st := .int (atX M (k + 8) 12 x1) :: .ref (ad (k + 7)) :: .ref (ad k) :: []) (As := [.ref (ad (k + 7)), .int (atX M (k + 8) 12 x1)]) E hEx hl.1 hP hS (c_at hap M (lt5a7 hk) (sh5a7 hk) (by decide) _ _ rfl) gcX7_at (hNe _ nw7) q17 q320 hsX7_at rfl ⟨Nat.le_of_ble_eq_true rfl, Nat.le_of_ble_eq_true rfl⟩ ⟨rfl, rfl⟩ dX5_clueAtHand_13 rfl (Nat.le_of_ble_eq_true rfl) (fun H locs hP hS n2 => ?_)
  obtain ⟨y3, hy3, h⟩ := bnd_ex h
  refine x_callVi (pc := 16) (st := .int (atX M (k + 7) 24 (atX M (k + 8) 12 x1)) :: .ref (ad k) :: []) (As := [.int (atX M (k + 7) 24 (atX M (k + 8) 12 x1))]) E hEx hl.1 hP hS (kX5_outermostClosed hap hk M _ _ hy3) gX5_73 hdX5_outermostClosed rfl (RoA.lt hk) (sh5 hk) rfl ⟨Nat.le_of_ble_eq_true rfl, Nat.le_of_ble_eq_true rfl⟩ ⟨rfl, rfl⟩ dX5_clueAtHand_16 rfl (Nat.le_of_ble_eq_true rfl) (fun H locs hP hS n4 => ?_)
  refine lv_if_ne (pc := 19) (tgt := 26) hx hb dX5_clueAtHand_19 (by decide) (fun c5 => ?_) (fun c5 => ?_)
  · have h := (if_neg c5).symm.trans h
    refine lv_iconst (pc := 26) (v := (0 : Int32)) hx hb dX5_clueAtHand_26 (by decide) ?_
    obtain rfl := som1 h
    exact x_iret E hP hS rfl dX5_clueAtHand_27
  · have h := (if_pos c5).symm.trans h
    refine lv_iconst (pc := 22) (v := (1 : Int32)) hx hb dX5_clueAtHand_22 (by decide) ?_
    refine lv_goto (pc := 23) (tgt := 27) hx hb dX5_clueAtHand_23 (by decide) ?_
    obtain rfl := som1 h
    exact x_iret E hP hS rfl dX5_clueAtHand_27
set_option maxRecDepth 100000 in
set_option maxHeartbeats 4000000 in
theorem kX5_canBeOpened (hap : Apart 78 ad) {k : Nat} (hk : RoA k) (M : Mem) (x1 : Int32) (v : Int32) (h : fX5_canBeOpened k M x1 = some v) : XI G ad sK sV cA cZ cC yX5_canBeOpened cX5_canBeOpened 2 .boolean ({ frames := 3, cells := 0, slots := 0, locals := 66 } : Room) [.ref (ad k), .int x1] M v M := by
  refine CI.mk (own := RX5) (ls0 := [(0, .ref (ad k)), (1, .int x1)]) (by decide +kernel) rfl hap (Nat.le_of_ble_eq_true rfl) rfl ?_
  intro p l e s m args below meth c ls E hP hl
  have hx := E.1
  have hb := E.2.1
  have hown := E.2.2.2.2.2.1
  have hts := E.2.2.2.2.2.2.1
  have hNe := E.2.2.2.2.2.2.2.2.1.1
  have hEx := ExX.ok ad sK sV
  have hS : va_S (AW 78 ad) s.heap s.heap [] := va_S.rf
  unfold fX5_canBeOpened at h
  refine lv_aload_n (pc := 0) hx hb dX5_canBeOpened_0 rfl (lv_at hl 0 rfl) ?_
  refine lv_iload_n (pc := 1) hx hb dX5_canBeOpened_1 rfl (lv_at hl 1 rfl) ?_
  refine x_callVi (pc := 2) (st := .int x1 :: .ref (ad k) :: []) (As := [.int x1]) E hEx hl.1 hP hS (kX5_isOpen hap hk M _ _ rfl) gX5_77 hdX5_isOpen rfl (RoA.lt hk) (sh5 hk) rfl ⟨Nat.le_of_ble_eq_true rfl, Nat.le_of_ble_eq_true rfl⟩ ⟨rfl, rfl⟩ dX5_canBeOpened_2 rfl (Nat.le_of_ble_eq_true rfl) (fun H locs hP hS n1 => ?_)
  refine lv_if_ne (pc := 5) (tgt := 16) hx hb dX5_canBeOpened_5 (by decide) (fun c2 => ?_) (fun c2 => ?_)
  · have h := (if_neg c2).symm.trans h
    refine lv_iconst (pc := 16) (v := (0 : Int32)) hx hb dX5_canBeOpened_16 (by decide) ?_
    obtain rfl := som1 h
    exact x_iret E hP hS rfl dX5_canBeOpened_17
  · have h := (if_pos c2).symm.trans h
    refine lv_aload_n (pc := 8) hx hb dX5_canBeOpened_8 rfl (lv_at hl 0 rfl) ?_
    refine lv_iload_n (pc := 9) hx hb dX5_canBeOpened_9 rfl (lv_at hl 1 rfl) ?_
    obtain ⟨y3, hy3, h⟩ := bnd_ex h
    refine x_callVi (pc := 10) (st := .int x1 :: .ref (ad k) :: []) (As := [.int x1]) E hEx hl.1 hP hS (kX5_boxAtHand hap hk M _ _ hy3) gX5_81 hdX5_boxAtHand rfl (RoA.lt hk) (sh5 hk) rfl ⟨Nat.le_of_ble_eq_true rfl, Nat.le_of_ble_eq_true rfl⟩ ⟨rfl, rfl⟩ dX5_canBeOpened_10 rfl (Nat.le_of_ble_eq_true rfl) (fun H locs hP hS n4 => ?_)
    refine lv_if_ne (pc := 13) (tgt := 18) hx hb dX5_canBeOpened_13 (by decide) (fun c5 => ?_) (fun c5 => ?_)
    · have h := (if_neg c5).symm.trans h
      refine lv_aload_n (pc := 18) hx hb dX5_canBeOpened_18 rfl (lv_at hl 0 rfl) ?_
      refine lv_iload_n (pc := 19) hx hb dX5_canBeOpened_19 rfl (lv_at hl 1 rfl) ?_
      refine lv_iconst (pc := 20) (v := (1 : Int32)) hx hb dX5_canBeOpened_20 (by decide) ?_
      refine x_callVi (pc := 21) (st := .int (1 : Int32) :: .int x1 :: .ref (ad k) :: []) (As := [.int x1, .int (1 : Int32)]) E hEx hl.1 hP hS (kX5_hasLock hap hk M _ _ _ rfl) gX5_84 hdX5_hasLock rfl (RoA.lt hk) (sh5 hk) rfl ⟨Nat.le_of_ble_eq_true rfl, Nat.le_of_ble_eq_true rfl⟩ ⟨rfl, rfl⟩ dX5_canBeOpened_21 rfl (Nat.le_of_ble_eq_true rfl) (fun H locs hP hS n6 => ?_)
      refine lv_if_eq (pc := 24) (tgt := 40) hx hb dX5_canBeOpened_24 (by decide) (fun c7 => ?_) (fun c7 => ?_)
      · have h := (if_pos c7).symm.trans h
        refine lv_aload_n (pc := 40) hx hb dX5_canBeOpened_40 rfl (lv_at hl 0 rfl) ?_
        refine lv_iload_n (pc := 41) hx hb dX5_canBeOpened_41 rfl (lv_at hl 1 rfl) ?_
        refine lv_iconst (pc := 42) (v := (3 : Int32)) hx hb dX5_canBeOpened_42 (by decide) ?_
        refine x_callVi (pc := 43) (st := .int (3 : Int32) :: .int x1 :: .ref (ad k) :: []) (As := [.int x1, .int (3 : Int32)]) E hEx hl.1 hP hS (kX5_hasLock hap hk M _ _ _ rfl) gX5_84 hdX5_hasLock rfl (RoA.lt hk) (sh5 hk) rfl ⟨Nat.le_of_ble_eq_true rfl, Nat.le_of_ble_eq_true rfl⟩ ⟨rfl, rfl⟩ dX5_canBeOpened_43 rfl (Nat.le_of_ble_eq_true rfl) (fun H locs hP hS n8 => ?_)
        refine lv_if_eq (pc := 46) (tgt := 75) hx hb dX5_canBeOpened_46 (by decide) (fun c9 => ?_) (fun c9 => ?_)
        · have h := (if_pos c9).symm.trans h
          refine lv_iconst (pc := 75) (v := (1 : Int32)) hx hb dX5_canBeOpened_75 (by decide) ?_
          refine lv_goto (pc := 76) (tgt := 80) hx hb dX5_canBeOpened_76 (by decide) ?_
          obtain rfl := som1 h
          exact x_iret E hP hS rfl dX5_canBeOpened_80
        · have h := (if_neg c9).symm.trans h
          refine lv_aload_n (pc := 49) hx hb dX5_canBeOpened_49 rfl (lv_at hl 0 rfl) ?_
          refine x_get (pc := 50) (v := .ref (ad (k + 7))) E hP (RoA.lt hk) (sh5 hk) rfl inX5 8 (by decide) q104 rfl dX5_canBeOpened_50 ?_
          refine lv_aload_n (pc := 53) hx hb dX5_canBeOpened_53 rfl (lv_at hl 0 rfl) ?_
          refine x_get (pc := 54) (v := .ref (ad (k + 3))) E hP (RoA.lt hk) (sh5 hk) rfl inX5 3 (by decide) q94 rfl dX5_canBeOpened_54 ?_
          refine lv_iload_n (pc := 57) hx hb dX5_canBeOpened_57 rfl (lv_at hl 1 rfl) ?_
          refine x_callNi (pc := 58) (st := .int x1 :: .ref (ad (k + 3)) :: .ref (ad (k + 7)) :: []) (As := [.ref (ad (k + 3)), .int x1]) E hEx hl.1 hP hS (c_at hap M (lt5a3 hk) (sh5a3 hk) (by decide) _ _ rfl) gcX7_at (hNe _ nw7) q17 q320 hsX7_at rfl ⟨Nat.le_of_ble_eq_true rfl, Nat.le_of_ble_eq_true rfl⟩ ⟨rfl, rfl⟩ dX5_canBeOpened_58 rfl (Nat.le_of_ble_eq_true rfl) (fun H locs hP hS n10 => ?_)
          refine x_callNi (pc := 61) (st := .int (atX M (k + 3) 12 x1) :: .ref (ad (k + 7)) :: []) (As := [.ref (ad (k + 7)), .int (atX M (k + 3) 12 x1)]) E hEx hl.1 hP hS (c_at hap M (lt5a7 hk) (sh5a7 hk) (by decide) _ _ rfl) gcX7_at (hNe _ nw7) q17 q320 hsX7_at rfl ⟨Nat.le_of_ble_eq_true rfl, Nat.le_of_ble_eq_true rfl⟩ ⟨rfl, rfl⟩ dX5_canBeOpened_61 rfl (Nat.le_of_ble_eq_true rfl) (fun H locs hP hS n11 => ?_)
          refine lv_aload_n (pc := 64) hx hb dX5_canBeOpened_64 rfl (lv_at hl 0 rfl) ?_
          refine x_get (pc := 65) (v := .ref (ad (k + 1))) E hP (RoA.lt hk) (sh5 hk) rfl inX5 1 (by decide) q90 rfl dX5_canBeOpened_65 ?_
          refine lv_iload_n (pc := 68) hx hb dX5_canBeOpened_68 rfl (lv_at hl 1 rfl) ?_
          refine x_callNi (pc := 69) (st := .int x1 :: .ref (ad (k + 1)) :: .int (atX M (k + 7) 24 (atX M (k + 3) 12 x1)) :: []) (As := [.ref (ad (k + 1)), .int x1]) E hEx hl.1 hP hS (c_at hap M (lt5a1 hk) (sh5a1 hk) (by decide) _ _ rfl) gcX7_at (hNe _ nw7) q17 q320 hsX7_at rfl ⟨Nat.le_of_ble_eq_true rfl, Nat.le_of_ble_eq_true rfl⟩ ⟨rfl, rfl⟩ dX5_canBeOpened_69 rfl (Nat.le_of_ble_eq_true rfl) (fun H locs hP hS n12 => ?_)
          refine lv_icmp_ne (pc := 72) (tgt := 79) hx hb dX5_canBeOpened_72 (by decide) (fun c13 => ?_) (fun c13 => ?_)
          · have h := (if_neg c13).symm.trans h
            refine lv_iconst (pc := 79) (v := (0 : Int32)) hx hb dX5_canBeOpened_79 (by decide) ?_
            obtain rfl := som1 h
            exact x_iret E hP hS rfl dX5_canBeOpened_80
          · have h := (if_pos c13).symm.trans h
            refine lv_iconst (pc := 75) (v := (1 : Int32)) hx hb dX5_canBeOpened_75 (by decide) ?_
            refine lv_goto (pc := 76) (tgt := 80) hx hb dX5_canBeOpened_76 (by decide) ?_
            obtain rfl := som1 h
            exact x_iret E hP hS rfl dX5_canBeOpened_80
      · have h := (if_neg c7).symm.trans h
        refine lv_aload_n (pc := 27) hx hb dX5_canBeOpened_27 rfl (lv_at hl 0 rfl) ?_
        refine lv_aload_n (pc := 28) hx hb dX5_canBeOpened_28 rfl (lv_at hl 0 rfl) ?_
        refine x_get (pc := 29) (v := .ref (ad (k + 3))) E hP (RoA.lt hk) (sh5 hk) rfl inX5 3 (by decide) q94 rfl dX5_canBeOpened_29 ?_
        refine lv_iload_n (pc := 32) hx hb dX5_canBeOpened_32 rfl (lv_at hl 1 rfl) ?_
        refine x_callNi (pc := 33) (st := .int x1 :: .ref (ad (k + 3)) :: .ref (ad k) :: []) (As := [.ref (ad (k + 3)), .int x1]) E hEx hl.1 hP hS (c_at hap M (lt5a3 hk) (sh5a3 hk) (by decide) _ _ rfl) gcX7_at (hNe _ nw7) q17 q320 hsX7_at rfl ⟨Nat.le_of_ble_eq_true rfl, Nat.le_of_ble_eq_true rfl⟩ ⟨rfl, rfl⟩ dX5_canBeOpened_33 rfl (Nat.le_of_ble_eq_true rfl) (fun H locs hP hS n14 => ?_)
        refine x_callVi (pc := 36) (st := .int (atX M (k + 3) 12 x1) :: .ref (ad k) :: []) (As := [.int (atX M (k + 3) 12 x1)]) E hEx hl.1 hP hS (kX5_isHeld hap hk M _ _ rfl) gX5_88 hdX5_isHeld rfl (RoA.lt hk) (sh5 hk) rfl ⟨Nat.le_of_ble_eq_true rfl, Nat.le_of_ble_eq_true rfl⟩ ⟨rfl, rfl⟩ dX5_canBeOpened_36 rfl (Nat.le_of_ble_eq_true rfl) (fun H locs hP hS n15 => ?_)
        obtain rfl := som1 h
        exact x_iret E hP hS n15 dX5_canBeOpened_39
    · have h := (if_pos c5).symm.trans h
      refine lv_iconst (pc := 16) (v := (0 : Int32)) hx hb dX5_canBeOpened_16 (by decide) ?_
      obtain rfl := som1 h
      exact x_iret E hP hS rfl dX5_canBeOpened_17
set_option maxRecDepth 100000 in
set_option maxHeartbeats 4000000 in
theorem kX5_propsIn (hap : Apart 78 ad) {k : Nat} (hk : RoA k) (M : Mem) (x1 : Int32) (v : Int32) (h : fX5_propsIn k M x1 = some v) : XI G ad sK sV cA cZ cC yX5_propsIn cX5_propsIn 4 .int ({ frames := 1, cells := 0, slots := 0, locals := 21 } : Room) [.ref (ad k), .int x1] M v M := by
  refine CI.mk (own := RX5) (ls0 := [(0, .ref (ad k)), (1, .int x1)]) (by decide +kernel) rfl hap (Nat.le_of_ble_eq_true rfl) rfl ?_
  intro p l e s m args below meth c ls E hP hl
  have hx := E.1
  have hb := E.2.1
  have hown := E.2.2.2.2.2.1
  have hts := E.2.2.2.2.2.2.1
  have hNe := E.2.2.2.2.2.2.2.2.1.1
  have hEx := ExX.ok ad sK sV
  have hS : va_S (AW 78 ad) s.heap s.heap [] := va_S.rf
  have hL4 : ∀ (n : Nat) (M : Mem) (x1 x2 x3 : Int32) (H : Heap) (locs : List Loc) (ls : Array Slot), fX5_propsIn_L4 k n M x1 x2 x3 = some v → va_P G vwCl (WW 78 (shX cA ad) ad M) H → va_S (AW 78 ad) s.heap H locs → lv_has ls 4 [(0, .ref (ad k)), (1, .int x1), (2, .int x2), (3, .int x3)] → W p l e ({ frames := 1, cells := 0, slots := 0, locals := 21 } : Room) s m args below meth c H locs 0 0 (QI below G 78 (shX cA ad) ad .int args s v M) (F0 m 4 ls []) := by
    intro n
    induction n with
    | zero => intro M x1 x2 x3 H locs ls h; cases h
    | succ n ih =>
      intro M x1 x2 x3 H locs ls h hP hS hl
      rw [fX5_propsIn_L4] at h
      refine lv_iload_n (pc := 4) hx hb dX5_propsIn_4 rfl (lv_at hl 3 rfl) ?_
      refine lv_aload_n (pc := 5) hx hb dX5_propsIn_5 rfl (lv_at hl 0 rfl) ?_
      refine x_get (pc := 6) (v := .int (M k 6)) E hP (RoA.lt hk) (sh5 hk) rfl inX5 6 (by decide) q100 rfl dX5_propsIn_6 ?_
      refine lv_icmp_ge (pc := 9) (tgt := 33) hx hb dX5_propsIn_9 (by decide) (fun c1 => ?_) (fun c1 => ?_)
      · have h := (if_pos c1).symm.trans h
        refine lv_iload_n (pc := 33) hx hb dX5_propsIn_33 rfl (lv_at hl 2 rfl) ?_
        obtain rfl := som1 h
        exact x_iret E hP hS rfl dX5_propsIn_34
      · have h := (if_neg c1).symm.trans h
        refine lv_aload_n (pc := 12) hx hb dX5_propsIn_12 rfl (lv_at hl 0 rfl) ?_
        refine x_get (pc := 13) (v := .ref (ad (k + 7))) E hP (RoA.lt hk) (sh5 hk) rfl inX5 8 (by decide) q104 rfl dX5_propsIn_13 ?_
        refine lv_iload_n (pc := 16) hx hb dX5_propsIn_16 rfl (lv_at hl 3 rfl) ?_
        refine x_callNi (pc := 17) (st := .int x3 :: .ref (ad (k + 7)) :: []) (As := [.ref (ad (k + 7)), .int x3]) E hEx hl.1 hP hS (c_at hap M (lt5a7 hk) (sh5a7 hk) (by decide) _ _ rfl) gcX7_at (hNe _ nw7) q17 q320 hsX7_at rfl ⟨Nat.le_of_ble_eq_true rfl, Nat.le_of_ble_eq_true rfl⟩ ⟨rfl, rfl⟩ dX5_propsIn_17 rfl (Nat.le_of_ble_eq_true rfl) (fun H locs hP hS n2 => ?_)
        refine lv_iload_n (pc := 20) hx hb dX5_propsIn_20 rfl (lv_at hl 1 rfl) ?_
        refine lv_icmp_ne (pc := 21) (tgt := 27) hx hb dX5_propsIn_21 (by decide) (fun c3 => ?_) (fun c3 => ?_)
        · have h := (if_neg c3).symm.trans h
          refine lv_iinc (pc := 27) (v := (x3 + 1)) (lv' := [(3, .int (x3 + 1)), (0, .ref (ad k)), (1, .int x1), (2, .int x2)]) hx hb dX5_propsIn_27 hl (k := 3) rfl rfl (by decide) rfl (fun ls hl => ?_)
          refine lv_goto (pc := 30) (tgt := 4) hx hb dX5_propsIn_30 (by decide) ?_
          exact ih M x1 x2 (x3 + 1) _ _ _ h hP hS (lv_sub hl [1, 2, 3, 0] rfl)
        · have h := (if_pos c3).symm.trans h
          refine lv_iinc (pc := 24) (v := (x2 + 1)) (lv' := [(2, .int (x2 + 1)), (0, .ref (ad k)), (1, .int x1), (3, .int x3)]) hx hb dX5_propsIn_24 hl (k := 2) rfl rfl (by decide) rfl (fun ls hl => ?_)
          refine lv_iinc (pc := 27) (v := (x3 + 1)) (lv' := [(3, .int (x3 + 1)), (2, .int (x2 + 1)), (0, .ref (ad k)), (1, .int x1)]) hx hb dX5_propsIn_27 hl (k := 3) rfl rfl (by decide) rfl (fun ls hl => ?_)
          refine lv_goto (pc := 30) (tgt := 4) hx hb dX5_propsIn_30 (by decide) ?_
          exact ih M x1 (x2 + 1) (x3 + 1) _ _ _ h hP hS (lv_sub hl [2, 3, 1, 0] rfl)
  unfold fX5_propsIn at h
  refine lv_iconst (pc := 0) (v := (0 : Int32)) hx hb dX5_propsIn_0 (by decide) ?_
  refine lv_istore_n (pc := 1) (lv' := [(2, .int (0 : Int32)), (0, .ref (ad k)), (1, .int x1)]) hx hb dX5_propsIn_1 rfl hl (by decide) rfl (fun ls hl => ?_)
  refine lv_iconst (pc := 2) (v := (0 : Int32)) hx hb dX5_propsIn_2 (by decide) ?_
  refine lv_istore_n (pc := 3) (lv' := [(3, .int (0 : Int32)), (2, .int (0 : Int32)), (0, .ref (ad k)), (1, .int x1)]) hx hb dX5_propsIn_3 rfl hl (by decide) rfl (fun ls hl => ?_)
  exact hL4 5000 M x1 (0 : Int32) (0 : Int32) _ _ _ h hP hS (lv_sub hl [2, 3, 1, 0] rfl)
set_option maxRecDepth 100000 in
set_option maxHeartbeats 4000000 in
theorem kX5_heldProps (hap : Apart 78 ad) {k : Nat} (hk : RoA k) (M : Mem)  (v : Int32) (h : fX5_heldProps k M = some v) : XI G ad sK sV cA cZ cC yX5_heldProps cX5_heldProps 1 .int ({ frames := 2, cells := 0, slots := 0, locals := 44 } : Room) [.ref (ad k)] M v M := by
  refine CI.mk (own := RX5) (ls0 := [(0, .ref (ad k))]) (by decide +kernel) rfl hap (Nat.le_of_ble_eq_true rfl) rfl ?_
  intro p l e s m args below meth c ls E hP hl
  have hx := E.1
  have hb := E.2.1
  have hown := E.2.2.2.2.2.1
  have hts := E.2.2.2.2.2.2.1
  have hNe := E.2.2.2.2.2.2.2.2.1.1
  have hEx := ExX.ok ad sK sV
  have hS : va_S (AW 78 ad) s.heap s.heap [] := va_S.rf
  unfold fX5_heldProps at h
  refine lv_aload_n (pc := 0) hx hb dX5_heldProps_0 rfl (lv_at hl 0 rfl) ?_
  refine lv_iconst (pc := 1) (v := (-1 : Int32)) hx hb dX5_heldProps_1 (by decide) ?_
  obtain ⟨y1, hy1, h⟩ := bnd_ex h
  refine x_callVi (pc := 2) (st := .int (-1 : Int32) :: .ref (ad k) :: []) (As := [.int (-1 : Int32)]) E hEx hl.1 hP hS (kX5_propsIn hap hk M _ _ hy1) gX5_91 hdX5_propsIn rfl (RoA.lt hk) (sh5 hk) rfl ⟨Nat.le_of_ble_eq_true rfl, Nat.le_of_ble_eq_true rfl⟩ ⟨rfl, rfl⟩ dX5_heldProps_2 rfl (Nat.le_of_ble_eq_true rfl) (fun H locs hP hS n2 => ?_)
  obtain rfl := som1 h
  exact x_iret E hP hS rfl dX5_heldProps_5
set_option maxRecDepth 100000 in
set_option maxHeartbeats 4000000 in
theorem kX5_heldBits (hap : Apart 78 ad) {k : Nat} (hk : RoA k) (M : Mem)  (v : Int32) (h : fX5_heldBits k M = some v) : XI G ad sK sV cA cZ cC yX5_heldBits cX5_heldBits 3 .int ({ frames := 2, cells := 0, slots := 0, locals := 42 } : Room) [.ref (ad k)] M v M := by
  refine CI.mk (own := RX5) (ls0 := [(0, .ref (ad k))]) (by decide +kernel) rfl hap (Nat.le_of_ble_eq_true rfl) rfl ?_
  intro p l e s m args below meth c ls E hP hl
  have hx := E.1
  have hb := E.2.1
  have hown := E.2.2.2.2.2.1
  have hts := E.2.2.2.2.2.2.1
  have hNe := E.2.2.2.2.2.2.2.2.1.1
  have hEx := ExX.ok ad sK sV
  have hS : va_S (AW 78 ad) s.heap s.heap [] := va_S.rf
  have hL4 : ∀ (n : Nat) (M : Mem) (x1 x2 : Int32) (H : Heap) (locs : List Loc) (ls : Array Slot), fX5_heldBits_L4 k n M x1 x2 = some v → va_P G vwCl (WW 78 (shX cA ad) ad M) H → va_S (AW 78 ad) s.heap H locs → lv_has ls 3 [(0, .ref (ad k)), (1, .int x1), (2, .int x2)] → W p l e ({ frames := 2, cells := 0, slots := 0, locals := 42 } : Room) s m args below meth c H locs 0 0 (QI below G 78 (shX cA ad) ad .int args s v M) (F0 m 4 ls []) := by
    intro n
    induction n with
    | zero => intro M x1 x2 H locs ls h; cases h
    | succ n ih =>
      intro M x1 x2 H locs ls h hP hS hl
      rw [fX5_heldBits_L4] at h
      refine lv_iload_n (pc := 4) hx hb dX5_heldBits_4 rfl (lv_at hl 2 rfl) ?_
      refine lv_aload_n (pc := 5) hx hb dX5_heldBits_5 rfl (lv_at hl 0 rfl) ?_
      refine x_get (pc := 6) (v := .int (M k 6)) E hP (RoA.lt hk) (sh5 hk) rfl inX5 6 (by decide) q100 rfl dX5_heldBits_6 ?_
      refine lv_icmp_ge (pc := 9) (tgt := 32) hx hb dX5_heldBits_9 (by decide) (fun c1 => ?_) (fun c1 => ?_)
      · have h := (if_pos c1).symm.trans h
        refine lv_iload_n (pc := 32) hx hb dX5_heldBits_32 rfl (lv_at hl 1 rfl) ?_
        obtain rfl := som1 h
        exact x_iret E hP hS rfl dX5_heldBits_33
      · have h := (if_neg c1).symm.trans h
        refine lv_aload_n (pc := 12) hx hb dX5_heldBits_12 rfl (lv_at hl 0 rfl) ?_
        refine lv_iload_n (pc := 13) hx hb dX5_heldBits_13 rfl (lv_at hl 2 rfl) ?_
        refine x_callVi (pc := 14) (st := .int x2 :: .ref (ad k) :: []) (As := [.int x2]) E hEx hl.1 hP hS (kX5_isHeld hap hk M _ _ rfl) gX5_88 hdX5_isHeld rfl (RoA.lt hk) (sh5 hk) rfl ⟨Nat.le_of_ble_eq_true rfl, Nat.le_of_ble_eq_true rfl⟩ ⟨rfl, rfl⟩ dX5_heldBits_14 rfl (Nat.le_of_ble_eq_true rfl) (fun H locs hP hS n2 => ?_)
        refine lv_if_eq (pc := 17) (tgt := 26) hx hb dX5_heldBits_17 (by decide) (fun c3 => ?_) (fun c3 => ?_)
        · have h := (if_pos c3).symm.trans h
          refine lv_iinc (pc := 26) (v := (x2 + 1)) (lv' := [(2, .int (x2 + 1)), (0, .ref (ad k)), (1, .int x1)]) hx hb dX5_heldBits_26 hl (k := 2) rfl rfl (by decide) rfl (fun ls hl => ?_)
          refine lv_goto (pc := 29) (tgt := 4) hx hb dX5_heldBits_29 (by decide) ?_
          exact ih M x1 (x2 + 1) _ _ _ h hP hS (lv_sub hl [1, 2, 0] rfl)
        · have h := (if_neg c3).symm.trans h
          refine lv_iload_n (pc := 20) hx hb dX5_heldBits_20 rfl (lv_at hl 1 rfl) ?_
          refine lv_iconst (pc := 21) (v := (1 : Int32)) hx hb dX5_heldBits_21 (by decide) ?_
          refine lv_iload_n (pc := 22) hx hb dX5_heldBits_22 rfl (lv_at hl 2 rfl) ?_
          refine lv_ishl (pc := 23) hx hb dX5_heldBits_23 ?_
          refine lv_ior (pc := 24) hx hb dX5_heldBits_24 ?_
          obtain ⟨y4, hy4, h⟩ := thn_ex h
          refine W.eq (g2 := F0 m 25 ls (.int y4 :: [])) (by rw [← hy4]) ?_
          refine lv_istore_n (pc := 25) (lv' := [(1, .int y4), (0, .ref (ad k)), (2, .int x2)]) hx hb dX5_heldBits_25 rfl hl (by decide) rfl (fun ls hl => ?_)
          refine lv_iinc (pc := 26) (v := (x2 + 1)) (lv' := [(2, .int (x2 + 1)), (1, .int y4), (0, .ref (ad k))]) hx hb dX5_heldBits_26 hl (k := 2) rfl rfl (by decide) rfl (fun ls hl => ?_)
          refine lv_goto (pc := 29) (tgt := 4) hx hb dX5_heldBits_29 (by decide) ?_
          exact ih M y4 (x2 + 1) _ _ _ h hP hS (lv_sub hl [2, 1, 0] rfl)
  unfold fX5_heldBits at h
  refine lv_iconst (pc := 0) (v := (0 : Int32)) hx hb dX5_heldBits_0 (by decide) ?_
  refine lv_istore_n (pc := 1) (lv' := [(1, .int (0 : Int32)), (0, .ref (ad k))]) hx hb dX5_heldBits_1 rfl hl (by decide) rfl (fun ls hl => ?_)
  refine lv_iconst (pc := 2) (v := (0 : Int32)) hx hb dX5_heldBits_2 (by decide) ?_
  refine lv_istore_n (pc := 3) (lv' := [(2, .int (0 : Int32)), (1, .int (0 : Int32)), (0, .ref (ad k))]) hx hb dX5_heldBits_3 rfl hl (by decide) rfl (fun ls hl => ?_)
  exact hL4 5000 M (0 : Int32) (0 : Int32) _ _ _ h hP hS (lv_sub hl [2, 1, 0] rfl)
set_option maxRecDepth 100000 in
set_option maxHeartbeats 4000000 in
theorem kX5_boxesIn (hap : Apart 78 ad) {k : Nat} (hk : RoA k) (M : Mem) (x1 : Int32) (v : Int32) (h : fX5_boxesIn k M x1 = some v) : XI G ad sK sV cA cZ cC yX5_boxesIn cX5_boxesIn 4 .int ({ frames := 1, cells := 0, slots := 0, locals := 21 } : Room) [.ref (ad k), .int x1] M v M := by
  refine CI.mk (own := RX5) (ls0 := [(0, .ref (ad k)), (1, .int x1)]) (by decide +kernel) rfl hap (Nat.le_of_ble_eq_true rfl) rfl ?_
  intro p l e s m args below meth c ls E hP hl
  have hx := E.1
  have hb := E.2.1
  have hown := E.2.2.2.2.2.1
  have hts := E.2.2.2.2.2.2.1
  have hNe := E.2.2.2.2.2.2.2.2.1.1
  have hEx := ExX.ok ad sK sV
  have hS : va_S (AW 78 ad) s.heap s.heap [] := va_S.rf
  have hL4 : ∀ (n : Nat) (M : Mem) (x1 x2 x3 : Int32) (H : Heap) (locs : List Loc) (ls : Array Slot), fX5_boxesIn_L4 k n M x1 x2 x3 = some v → va_P G vwCl (WW 78 (shX cA ad) ad M) H → va_S (AW 78 ad) s.heap H locs → lv_has ls 4 [(0, .ref (ad k)), (1, .int x1), (2, .int x2), (3, .int x3)] → W p l e ({ frames := 1, cells := 0, slots := 0, locals := 21 } : Room) s m args below meth c H locs 0 0 (QI below G 78 (shX cA ad) ad .int args s v M) (F0 m 4 ls []) := by
    intro n
    induction n with
    | zero => intro M x1 x2 x3 H locs ls h; cases h
    | succ n ih =>
      intro M x1 x2 x3 H locs ls h hP hS hl
      rw [fX5_boxesIn_L4] at h
      refine lv_iload_n (pc := 4) hx hb dX5_boxesIn_4 rfl (lv_at hl 3 rfl) ?_
      refine lv_aload_n (pc := 5) hx hb dX5_boxesIn_5 rfl (lv_at hl 0 rfl) ?_
      refine x_get (pc := 6) (v := .int (M k 0)) E hP (RoA.lt hk) (sh5 hk) rfl inX5 0 (by decide) q88 rfl dX5_boxesIn_6 ?_
      refine lv_icmp_ge (pc := 9) (tgt := 33) hx hb dX5_boxesIn_9 (by decide) (fun c1 => ?_) (fun c1 => ?_)
      · have h := (if_pos c1).symm.trans h
        refine lv_iload_n (pc := 33) hx hb dX5_boxesIn_33 rfl (lv_at hl 2 rfl) ?_
        obtain rfl := som1 h
        exact x_iret E hP hS rfl dX5_boxesIn_34
      · have h := (if_neg c1).symm.trans h
        refine lv_aload_n (pc := 12) hx hb dX5_boxesIn_12 rfl (lv_at hl 0 rfl) ?_
        refine x_get (pc := 13) (v := .ref (ad (k + 1))) E hP (RoA.lt hk) (sh5 hk) rfl inX5 1 (by decide) q90 rfl dX5_boxesIn_13 ?_
        refine lv_iload_n (pc := 16) hx hb dX5_boxesIn_16 rfl (lv_at hl 3 rfl) ?_
        refine x_callNi (pc := 17) (st := .int x3 :: .ref (ad (k + 1)) :: []) (As := [.ref (ad (k + 1)), .int x3]) E hEx hl.1 hP hS (c_at hap M (lt5a1 hk) (sh5a1 hk) (by decide) _ _ rfl) gcX7_at (hNe _ nw7) q17 q320 hsX7_at rfl ⟨Nat.le_of_ble_eq_true rfl, Nat.le_of_ble_eq_true rfl⟩ ⟨rfl, rfl⟩ dX5_boxesIn_17 rfl (Nat.le_of_ble_eq_true rfl) (fun H locs hP hS n2 => ?_)
        refine lv_iload_n (pc := 20) hx hb dX5_boxesIn_20 rfl (lv_at hl 1 rfl) ?_
        refine lv_icmp_ne (pc := 21) (tgt := 27) hx hb dX5_boxesIn_21 (by decide) (fun c3 => ?_) (fun c3 => ?_)
        · have h := (if_neg c3).symm.trans h
          refine lv_iinc (pc := 27) (v := (x3 + 1)) (lv' := [(3, .int (x3 + 1)), (0, .ref (ad k)), (1, .int x1), (2, .int x2)]) hx hb dX5_boxesIn_27 hl (k := 3) rfl rfl (by decide) rfl (fun ls hl => ?_)
          refine lv_goto (pc := 30) (tgt := 4) hx hb dX5_boxesIn_30 (by decide) ?_
          exact ih M x1 x2 (x3 + 1) _ _ _ h hP hS (lv_sub hl [1, 2, 3, 0] rfl)
        · have h := (if_pos c3).symm.trans h
          refine lv_iinc (pc := 24) (v := (x2 + 1)) (lv' := [(2, .int (x2 + 1)), (0, .ref (ad k)), (1, .int x1), (3, .int x3)]) hx hb dX5_boxesIn_24 hl (k := 2) rfl rfl (by decide) rfl (fun ls hl => ?_)
          refine lv_iinc (pc := 27) (v := (x3 + 1)) (lv' := [(3, .int (x3 + 1)), (2, .int (x2 + 1)), (0, .ref (ad k)), (1, .int x1)]) hx hb dX5_boxesIn_27 hl (k := 3) rfl rfl (by decide) rfl (fun ls hl => ?_)
          refine lv_goto (pc := 30) (tgt := 4) hx hb dX5_boxesIn_30 (by decide) ?_
          exact ih M x1 (x2 + 1) (x3 + 1) _ _ _ h hP hS (lv_sub hl [2, 3, 1, 0] rfl)
  unfold fX5_boxesIn at h
  refine lv_iconst (pc := 0) (v := (0 : Int32)) hx hb dX5_boxesIn_0 (by decide) ?_
  refine lv_istore_n (pc := 1) (lv' := [(2, .int (0 : Int32)), (0, .ref (ad k)), (1, .int x1)]) hx hb dX5_boxesIn_1 rfl hl (by decide) rfl (fun ls hl => ?_)
  refine lv_iconst (pc := 2) (v := (1 : Int32)) hx hb dX5_boxesIn_2 (by decide) ?_
  refine lv_istore_n (pc := 3) (lv' := [(3, .int (1 : Int32)), (2, .int (0 : Int32)), (0, .ref (ad k)), (1, .int x1)]) hx hb dX5_boxesIn_3 rfl hl (by decide) rfl (fun ls hl => ?_)
  exact hL4 5000 M x1 (0 : Int32) (1 : Int32) _ _ _ h hP hS (lv_sub hl [2, 3, 1, 0] rfl)
set_option maxRecDepth 100000 in
set_option maxHeartbeats 4000000 in
theorem kX5_cluesOn (hap : Apart 78 ad) {k : Nat} (hk : RoA k) (M : Mem) (x1 : Int32) (v : Int32) (h : fX5_cluesOn k M x1 = some v) : XI G ad sK sV cA cZ cC yX5_cluesOn cX5_cluesOn 4 .int ({ frames := 1, cells := 0, slots := 0, locals := 21 } : Room) [.ref (ad k), .int x1] M v M := by
  refine CI.mk (own := RX5) (ls0 := [(0, .ref (ad k)), (1, .int x1)]) (by decide +kernel) rfl hap (Nat.le_of_ble_eq_true rfl) rfl ?_
  intro p l e s m args below meth c ls E hP hl
  have hx := E.1
  have hb := E.2.1
  have hown := E.2.2.2.2.2.1
  have hts := E.2.2.2.2.2.2.1
  have hNe := E.2.2.2.2.2.2.2.2.1.1
  have hEx := ExX.ok ad sK sV
  have hS : va_S (AW 78 ad) s.heap s.heap [] := va_S.rf
  have hL4 : ∀ (n : Nat) (M : Mem) (x1 x2 x3 : Int32) (H : Heap) (locs : List Loc) (ls : Array Slot), fX5_cluesOn_L4 k n M x1 x2 x3 = some v → va_P G vwCl (WW 78 (shX cA ad) ad M) H → va_S (AW 78 ad) s.heap H locs → lv_has ls 4 [(0, .ref (ad k)), (1, .int x1), (2, .int x2), (3, .int x3)] → W p l e ({ frames := 1, cells := 0, slots := 0, locals := 21 } : Room) s m args below meth c H locs 0 0 (QI below G 78 (shX cA ad) ad .int args s v M) (F0 m 4 ls []) := by
    intro n
    induction n with
    | zero => intro M x1 x2 x3 H locs ls h; cases h
    | succ n ih =>
      intro M x1 x2 x3 H locs ls h hP hS hl
      rw [fX5_cluesOn_L4] at h
      refine lv_iload_n (pc := 4) hx hb dX5_cluesOn_4 rfl (lv_at hl 3 rfl) ?_
      refine lv_aload_n (pc := 5) hx hb dX5_cluesOn_5 rfl (lv_at hl 0 rfl) ?_
      refine x_get (pc := 6) (v := .int (M k 9)) E hP (RoA.lt hk) (sh5 hk) rfl inX5 9 (by decide) q106 rfl dX5_cluesOn_6 ?_
      refine lv_icmp_ge (pc := 9) (tgt := 33) hx hb dX5_cluesOn_9 (by decide) (fun c1 => ?_) (fun c1 => ?_)
      · have h := (if_pos c1).symm.trans h
        refine lv_iload_n (pc := 33) hx hb dX5_cluesOn_33 rfl (lv_at hl 2 rfl) ?_
        obtain rfl := som1 h
        exact x_iret E hP hS rfl dX5_cluesOn_34
      · have h := (if_neg c1).symm.trans h
        refine lv_aload_n (pc := 12) hx hb dX5_cluesOn_12 rfl (lv_at hl 0 rfl) ?_
        refine x_get (pc := 13) (v := .ref (ad (k + 8))) E hP (RoA.lt hk) (sh5 hk) rfl inX5 10 (by decide) q109 rfl dX5_cluesOn_13 ?_
        refine lv_iload_n (pc := 16) hx hb dX5_cluesOn_16 rfl (lv_at hl 3 rfl) ?_
        refine x_callNi (pc := 17) (st := .int x3 :: .ref (ad (k + 8)) :: []) (As := [.ref (ad (k + 8)), .int x3]) E hEx hl.1 hP hS (c_at hap M (lt5a8 hk) (sh5a8 hk) (by decide) _ _ rfl) gcX7_at (hNe _ nw7) q17 q320 hsX7_at rfl ⟨Nat.le_of_ble_eq_true rfl, Nat.le_of_ble_eq_true rfl⟩ ⟨rfl, rfl⟩ dX5_cluesOn_17 rfl (Nat.le_of_ble_eq_true rfl) (fun H locs hP hS n2 => ?_)
        refine lv_iload_n (pc := 20) hx hb dX5_cluesOn_20 rfl (lv_at hl 1 rfl) ?_
        refine lv_icmp_ne (pc := 21) (tgt := 27) hx hb dX5_cluesOn_21 (by decide) (fun c3 => ?_) (fun c3 => ?_)
        · have h := (if_neg c3).symm.trans h
          refine lv_iinc (pc := 27) (v := (x3 + 1)) (lv' := [(3, .int (x3 + 1)), (0, .ref (ad k)), (1, .int x1), (2, .int x2)]) hx hb dX5_cluesOn_27 hl (k := 3) rfl rfl (by decide) rfl (fun ls hl => ?_)
          refine lv_goto (pc := 30) (tgt := 4) hx hb dX5_cluesOn_30 (by decide) ?_
          exact ih M x1 x2 (x3 + 1) _ _ _ h hP hS (lv_sub hl [1, 2, 3, 0] rfl)
        · have h := (if_pos c3).symm.trans h
          refine lv_iinc (pc := 24) (v := (x2 + 1)) (lv' := [(2, .int (x2 + 1)), (0, .ref (ad k)), (1, .int x1), (3, .int x3)]) hx hb dX5_cluesOn_24 hl (k := 2) rfl rfl (by decide) rfl (fun ls hl => ?_)
          refine lv_iinc (pc := 27) (v := (x3 + 1)) (lv' := [(3, .int (x3 + 1)), (2, .int (x2 + 1)), (0, .ref (ad k)), (1, .int x1)]) hx hb dX5_cluesOn_27 hl (k := 3) rfl rfl (by decide) rfl (fun ls hl => ?_)
          refine lv_goto (pc := 30) (tgt := 4) hx hb dX5_cluesOn_30 (by decide) ?_
          exact ih M x1 (x2 + 1) (x3 + 1) _ _ _ h hP hS (lv_sub hl [2, 3, 1, 0] rfl)
  unfold fX5_cluesOn at h
  refine lv_iconst (pc := 0) (v := (0 : Int32)) hx hb dX5_cluesOn_0 (by decide) ?_
  refine lv_istore_n (pc := 1) (lv' := [(2, .int (0 : Int32)), (0, .ref (ad k)), (1, .int x1)]) hx hb dX5_cluesOn_1 rfl hl (by decide) rfl (fun ls hl => ?_)
  refine lv_iconst (pc := 2) (v := (0 : Int32)) hx hb dX5_cluesOn_2 (by decide) ?_
  refine lv_istore_n (pc := 3) (lv' := [(3, .int (0 : Int32)), (2, .int (0 : Int32)), (0, .ref (ad k)), (1, .int x1)]) hx hb dX5_cluesOn_3 rfl hl (by decide) rfl (fun ls hl => ?_)
  exact hL4 5000 M x1 (0 : Int32) (0 : Int32) _ _ _ h hP hS (lv_sub hl [2, 3, 1, 0] rfl)
set_option maxRecDepth 100000 in
set_option maxHeartbeats 4000000 in
theorem kX5_locksWith (hap : Apart 78 ad) {k : Nat} (hk : RoA k) (M : Mem) (x1 : Int32) (v : Int32) (h : fX5_locksWith k M x1 = some v) : XI G ad sK sV cA cZ cC yX5_locksWith cX5_locksWith 4 .int ({ frames := 2, cells := 0, slots := 0, locals := 43 } : Room) [.ref (ad k), .int x1] M v M := by
  refine CI.mk (own := RX5) (ls0 := [(0, .ref (ad k)), (1, .int x1)]) (by decide +kernel) rfl hap (Nat.le_of_ble_eq_true rfl) rfl ?_
  intro p l e s m args below meth c ls E hP hl
  have hx := E.1
  have hb := E.2.1
  have hown := E.2.2.2.2.2.1
  have hts := E.2.2.2.2.2.2.1
  have hNe := E.2.2.2.2.2.2.2.2.1.1
  have hEx := ExX.ok ad sK sV
  have hS : va_S (AW 78 ad) s.heap s.heap [] := va_S.rf
  have hL4 : ∀ (n : Nat) (M : Mem) (x1 x2 x3 : Int32) (H : Heap) (locs : List Loc) (ls : Array Slot), fX5_locksWith_L4 k n M x1 x2 x3 = some v → va_P G vwCl (WW 78 (shX cA ad) ad M) H → va_S (AW 78 ad) s.heap H locs → lv_has ls 4 [(0, .ref (ad k)), (1, .int x1), (2, .int x2), (3, .int x3)] → W p l e ({ frames := 2, cells := 0, slots := 0, locals := 43 } : Room) s m args below meth c H locs 0 0 (QI below G 78 (shX cA ad) ad .int args s v M) (F0 m 4 ls []) := by
    intro n
    induction n with
    | zero => intro M x1 x2 x3 H locs ls h; cases h
    | succ n ih =>
      intro M x1 x2 x3 H locs ls h hP hS hl
      rw [fX5_locksWith_L4] at h
      refine lv_iload_n (pc := 4) hx hb dX5_locksWith_4 rfl (lv_at hl 3 rfl) ?_
      refine lv_aload_n (pc := 5) hx hb dX5_locksWith_5 rfl (lv_at hl 0 rfl) ?_
      refine x_get (pc := 6) (v := .int (M k 0)) E hP (RoA.lt hk) (sh5 hk) rfl inX5 0 (by decide) q88 rfl dX5_locksWith_6 ?_
      refine lv_icmp_ge (pc := 9) (tgt := 51) hx hb dX5_locksWith_9 (by decide) (fun c1 => ?_) (fun c1 => ?_)
      · have h := (if_pos c1).symm.trans h
        refine lv_iload_n (pc := 51) hx hb dX5_locksWith_51 rfl (lv_at hl 2 rfl) ?_
        obtain rfl := som1 h
        exact x_iret E hP hS rfl dX5_locksWith_52
      · have h := (if_neg c1).symm.trans h
        refine lv_aload_n (pc := 12) hx hb dX5_locksWith_12 rfl (lv_at hl 0 rfl) ?_
        refine lv_iload_n (pc := 13) hx hb dX5_locksWith_13 rfl (lv_at hl 3 rfl) ?_
        refine lv_iconst (pc := 14) (v := (1 : Int32)) hx hb dX5_locksWith_14 (by decide) ?_
        refine x_callVi (pc := 15) (st := .int (1 : Int32) :: .int x3 :: .ref (ad k) :: []) (As := [.int x3, .int (1 : Int32)]) E hEx hl.1 hP hS (kX5_hasLock hap hk M _ _ _ rfl) gX5_84 hdX5_hasLock rfl (RoA.lt hk) (sh5 hk) rfl ⟨Nat.le_of_ble_eq_true rfl, Nat.le_of_ble_eq_true rfl⟩ ⟨rfl, rfl⟩ dX5_locksWith_15 rfl (Nat.le_of_ble_eq_true rfl) (fun H locs hP hS n2 => ?_)
        refine lv_if_ne (pc := 18) (tgt := 30) hx hb dX5_locksWith_18 (by decide) (fun c3 => ?_) (fun c3 => ?_)
        · have h := (if_neg c3).symm.trans h
          refine lv_aload_n (pc := 30) hx hb dX5_locksWith_30 rfl (lv_at hl 0 rfl) ?_
          refine x_get (pc := 31) (v := .ref (ad (k + 3))) E hP (RoA.lt hk) (sh5 hk) rfl inX5 3 (by decide) q94 rfl dX5_locksWith_31 ?_
          refine lv_iload_n (pc := 34) hx hb dX5_locksWith_34 rfl (lv_at hl 3 rfl) ?_
          refine x_callNi (pc := 35) (st := .int x3 :: .ref (ad (k + 3)) :: []) (As := [.ref (ad (k + 3)), .int x3]) E hEx hl.1 hP hS (c_at hap M (lt5a3 hk) (sh5a3 hk) (by decide) _ _ rfl) gcX7_at (hNe _ nw7) q17 q320 hsX7_at rfl ⟨Nat.le_of_ble_eq_true rfl, Nat.le_of_ble_eq_true rfl⟩ ⟨rfl, rfl⟩ dX5_locksWith_35 rfl (Nat.le_of_ble_eq_true rfl) (fun H locs hP hS n4 => ?_)
          refine lv_iload_n (pc := 38) hx hb dX5_locksWith_38 rfl (lv_at hl 1 rfl) ?_
          refine lv_icmp_ne (pc := 39) (tgt := 45) hx hb dX5_locksWith_39 (by decide) (fun c5 => ?_) (fun c5 => ?_)
          · have h := (if_neg c5).symm.trans h
            refine lv_iinc (pc := 45) (v := (x3 + 1)) (lv' := [(3, .int (x3 + 1)), (0, .ref (ad k)), (1, .int x1), (2, .int x2)]) hx hb dX5_locksWith_45 hl (k := 3) rfl rfl (by decide) rfl (fun ls hl => ?_)
            refine lv_goto (pc := 48) (tgt := 4) hx hb dX5_locksWith_48 (by decide) ?_
            exact ih M x1 x2 (x3 + 1) _ _ _ h hP hS (lv_sub hl [1, 2, 3, 0] rfl)
          · have h := (if_pos c5).symm.trans h
            refine lv_iinc (pc := 42) (v := (x2 + 1)) (lv' := [(2, .int (x2 + 1)), (0, .ref (ad k)), (1, .int x1), (3, .int x3)]) hx hb dX5_locksWith_42 hl (k := 2) rfl rfl (by decide) rfl (fun ls hl => ?_)
            refine lv_iinc (pc := 45) (v := (x3 + 1)) (lv' := [(3, .int (x3 + 1)), (2, .int (x2 + 1)), (0, .ref (ad k)), (1, .int x1)]) hx hb dX5_locksWith_45 hl (k := 3) rfl rfl (by decide) rfl (fun ls hl => ?_)
            refine lv_goto (pc := 48) (tgt := 4) hx hb dX5_locksWith_48 (by decide) ?_
            exact ih M x1 (x2 + 1) (x3 + 1) _ _ _ h hP hS (lv_sub hl [2, 3, 1, 0] rfl)
        · have h := (if_pos c3).symm.trans h
          refine lv_aload_n (pc := 21) hx hb dX5_locksWith_21 rfl (lv_at hl 0 rfl) ?_
          refine lv_iload_n (pc := 22) hx hb dX5_locksWith_22 rfl (lv_at hl 3 rfl) ?_
          refine lv_iconst (pc := 23) (v := (3 : Int32)) hx hb dX5_locksWith_23 (by decide) ?_
          refine x_callVi (pc := 24) (st := .int (3 : Int32) :: .int x3 :: .ref (ad k) :: []) (As := [.int x3, .int (3 : Int32)]) E hEx hl.1 hP hS (kX5_hasLock hap hk M _ _ _ rfl) gX5_84 hdX5_hasLock rfl (RoA.lt hk) (sh5 hk) rfl ⟨Nat.le_of_ble_eq_true rfl, Nat.le_of_ble_eq_true rfl⟩ ⟨rfl, rfl⟩ dX5_locksWith_24 rfl (Nat.le_of_ble_eq_true rfl) (fun H locs hP hS n6 => ?_)
          refine lv_if_eq (pc := 27) (tgt := 45) hx hb dX5_locksWith_27 (by decide) (fun c7 => ?_) (fun c7 => ?_)
          · have h := (if_pos c7).symm.trans h
            refine lv_iinc (pc := 45) (v := (x3 + 1)) (lv' := [(3, .int (x3 + 1)), (0, .ref (ad k)), (1, .int x1), (2, .int x2)]) hx hb dX5_locksWith_45 hl (k := 3) rfl rfl (by decide) rfl (fun ls hl => ?_)
            refine lv_goto (pc := 48) (tgt := 4) hx hb dX5_locksWith_48 (by decide) ?_
            exact ih M x1 x2 (x3 + 1) _ _ _ h hP hS (lv_sub hl [1, 2, 3, 0] rfl)
          · have h := (if_neg c7).symm.trans h
            refine lv_aload_n (pc := 30) hx hb dX5_locksWith_30 rfl (lv_at hl 0 rfl) ?_
            refine x_get (pc := 31) (v := .ref (ad (k + 3))) E hP (RoA.lt hk) (sh5 hk) rfl inX5 3 (by decide) q94 rfl dX5_locksWith_31 ?_
            refine lv_iload_n (pc := 34) hx hb dX5_locksWith_34 rfl (lv_at hl 3 rfl) ?_
            refine x_callNi (pc := 35) (st := .int x3 :: .ref (ad (k + 3)) :: []) (As := [.ref (ad (k + 3)), .int x3]) E hEx hl.1 hP hS (c_at hap M (lt5a3 hk) (sh5a3 hk) (by decide) _ _ rfl) gcX7_at (hNe _ nw7) q17 q320 hsX7_at rfl ⟨Nat.le_of_ble_eq_true rfl, Nat.le_of_ble_eq_true rfl⟩ ⟨rfl, rfl⟩ dX5_locksWith_35 rfl (Nat.le_of_ble_eq_true rfl) (fun H locs hP hS n8 => ?_)
            refine lv_iload_n (pc := 38) hx hb dX5_locksWith_38 rfl (lv_at hl 1 rfl) ?_
            refine lv_icmp_ne (pc := 39) (tgt := 45) hx hb dX5_locksWith_39 (by decide) (fun c9 => ?_) (fun c9 => ?_)
            · have h := (if_neg c9).symm.trans h
              refine lv_iinc (pc := 45) (v := (x3 + 1)) (lv' := [(3, .int (x3 + 1)), (0, .ref (ad k)), (1, .int x1), (2, .int x2)]) hx hb dX5_locksWith_45 hl (k := 3) rfl rfl (by decide) rfl (fun ls hl => ?_)
              refine lv_goto (pc := 48) (tgt := 4) hx hb dX5_locksWith_48 (by decide) ?_
              exact ih M x1 x2 (x3 + 1) _ _ _ h hP hS (lv_sub hl [1, 2, 3, 0] rfl)
            · have h := (if_pos c9).symm.trans h
              refine lv_iinc (pc := 42) (v := (x2 + 1)) (lv' := [(2, .int (x2 + 1)), (0, .ref (ad k)), (1, .int x1), (3, .int x3)]) hx hb dX5_locksWith_42 hl (k := 2) rfl rfl (by decide) rfl (fun ls hl => ?_)
              refine lv_iinc (pc := 45) (v := (x3 + 1)) (lv' := [(3, .int (x3 + 1)), (2, .int (x2 + 1)), (0, .ref (ad k)), (1, .int x1)]) hx hb dX5_locksWith_45 hl (k := 3) rfl rfl (by decide) rfl (fun ls hl => ?_)
              refine lv_goto (pc := 48) (tgt := 4) hx hb dX5_locksWith_48 (by decide) ?_
              exact ih M x1 (x2 + 1) (x3 + 1) _ _ _ h hP hS (lv_sub hl [2, 3, 1, 0] rfl)
  unfold fX5_locksWith at h
  refine lv_iconst (pc := 0) (v := (0 : Int32)) hx hb dX5_locksWith_0 (by decide) ?_
  refine lv_istore_n (pc := 1) (lv' := [(2, .int (0 : Int32)), (0, .ref (ad k)), (1, .int x1)]) hx hb dX5_locksWith_1 rfl hl (by decide) rfl (fun ls hl => ?_)
  refine lv_iconst (pc := 2) (v := (1 : Int32)) hx hb dX5_locksWith_2 (by decide) ?_
  refine lv_istore_n (pc := 3) (lv' := [(3, .int (1 : Int32)), (2, .int (0 : Int32)), (0, .ref (ad k)), (1, .int x1)]) hx hb dX5_locksWith_3 rfl hl (by decide) rfl (fun ls hl => ?_)
  exact hL4 5000 M x1 (0 : Int32) (1 : Int32) _ _ _ h hP hS (lv_sub hl [2, 3, 1, 0] rfl)
set_option maxRecDepth 100000 in
set_option maxHeartbeats 4000000 in
theorem kX5_propsAway (hap : Apart 78 ad) {k : Nat} (hk : RoA k) (M : Mem)  (v : Int32) (h : fX5_propsAway k M = some v) : XI G ad sK sV cA cZ cC yX5_propsAway cX5_propsAway 3 .int ({ frames := 1, cells := 0, slots := 0, locals := 21 } : Room) [.ref (ad k)] M v M := by
  refine CI.mk (own := RX5) (ls0 := [(0, .ref (ad k))]) (by decide +kernel) rfl hap (Nat.le_of_ble_eq_true rfl) rfl ?_
  intro p l e s m args below meth c ls E hP hl
  have hx := E.1
  have hb := E.2.1
  have hown := E.2.2.2.2.2.1
  have hts := E.2.2.2.2.2.2.1
  have hNe := E.2.2.2.2.2.2.2.2.1.1
  have hEx := ExX.ok ad sK sV
  have hS : va_S (AW 78 ad) s.heap s.heap [] := va_S.rf
  have hL4 : ∀ (n : Nat) (M : Mem) (x1 x2 : Int32) (H : Heap) (locs : List Loc) (ls : Array Slot), fX5_propsAway_L4 k n M x1 x2 = some v → va_P G vwCl (WW 78 (shX cA ad) ad M) H → va_S (AW 78 ad) s.heap H locs → lv_has ls 3 [(0, .ref (ad k)), (1, .int x1), (2, .int x2)] → W p l e ({ frames := 1, cells := 0, slots := 0, locals := 21 } : Room) s m args below meth c H locs 0 0 (QI below G 78 (shX cA ad) ad .int args s v M) (F0 m 4 ls []) := by
    intro n
    induction n with
    | zero => intro M x1 x2 H locs ls h; cases h
    | succ n ih =>
      intro M x1 x2 H locs ls h hP hS hl
      rw [fX5_propsAway_L4] at h
      refine lv_iload_n (pc := 4) hx hb dX5_propsAway_4 rfl (lv_at hl 2 rfl) ?_
      refine lv_aload_n (pc := 5) hx hb dX5_propsAway_5 rfl (lv_at hl 0 rfl) ?_
      refine x_get (pc := 6) (v := .int (M k 6)) E hP (RoA.lt hk) (sh5 hk) rfl inX5 6 (by decide) q100 rfl dX5_propsAway_6 ?_
      refine lv_icmp_ge (pc := 9) (tgt := 40) hx hb dX5_propsAway_9 (by decide) (fun c1 => ?_) (fun c1 => ?_)
      · have h := (if_pos c1).symm.trans h
        refine lv_iload_n (pc := 40) hx hb dX5_propsAway_40 rfl (lv_at hl 1 rfl) ?_
        obtain rfl := som1 h
        exact x_iret E hP hS rfl dX5_propsAway_41
      · have h := (if_neg c1).symm.trans h
        refine lv_aload_n (pc := 12) hx hb dX5_propsAway_12 rfl (lv_at hl 0 rfl) ?_
        refine x_get (pc := 13) (v := .ref (ad (k + 7))) E hP (RoA.lt hk) (sh5 hk) rfl inX5 8 (by decide) q104 rfl dX5_propsAway_13 ?_
        refine lv_iload_n (pc := 16) hx hb dX5_propsAway_16 rfl (lv_at hl 2 rfl) ?_
        refine x_callNi (pc := 17) (st := .int x2 :: .ref (ad (k + 7)) :: []) (As := [.ref (ad (k + 7)), .int x2]) E hEx hl.1 hP hS (c_at hap M (lt5a7 hk) (sh5a7 hk) (by decide) _ _ rfl) gcX7_at (hNe _ nw7) q17 q320 hsX7_at rfl ⟨Nat.le_of_ble_eq_true rfl, Nat.le_of_ble_eq_true rfl⟩ ⟨rfl, rfl⟩ dX5_propsAway_17 rfl (Nat.le_of_ble_eq_true rfl) (fun H locs hP hS n2 => ?_)
        refine lv_aload_n (pc := 20) hx hb dX5_propsAway_20 rfl (lv_at hl 0 rfl) ?_
        refine x_get (pc := 21) (v := .ref (ad (k + 6))) E hP (RoA.lt hk) (sh5 hk) rfl inX5 7 (by decide) q102 rfl dX5_propsAway_21 ?_
        refine lv_iload_n (pc := 24) hx hb dX5_propsAway_24 rfl (lv_at hl 2 rfl) ?_
        refine x_callNi (pc := 25) (st := .int x2 :: .ref (ad (k + 6)) :: .int (atX M (k + 7) 24 x2) :: []) (As := [.ref (ad (k + 6)), .int x2]) E hEx hl.1 hP hS (c_at hap M (lt5a6 hk) (sh5a6 hk) (by decide) _ _ rfl) gcX7_at (hNe _ nw7) q17 q320 hsX7_at rfl ⟨Nat.le_of_ble_eq_true rfl, Nat.le_of_ble_eq_true rfl⟩ ⟨rfl, rfl⟩ dX5_propsAway_25 rfl (Nat.le_of_ble_eq_true rfl) (fun H locs hP hS n3 => ?_)
        refine lv_icmp_eq (pc := 28) (tgt := 34) hx hb dX5_propsAway_28 (by decide) (fun c4 => ?_) (fun c4 => ?_)
        · have h := (if_pos c4).symm.trans h
          refine lv_iinc (pc := 34) (v := (x2 + 1)) (lv' := [(2, .int (x2 + 1)), (0, .ref (ad k)), (1, .int x1)]) hx hb dX5_propsAway_34 hl (k := 2) rfl rfl (by decide) rfl (fun ls hl => ?_)
          refine lv_goto (pc := 37) (tgt := 4) hx hb dX5_propsAway_37 (by decide) ?_
          exact ih M x1 (x2 + 1) _ _ _ h hP hS (lv_sub hl [1, 2, 0] rfl)
        · have h := (if_neg c4).symm.trans h
          refine lv_iinc (pc := 31) (v := (x1 + 1)) (lv' := [(1, .int (x1 + 1)), (0, .ref (ad k)), (2, .int x2)]) hx hb dX5_propsAway_31 hl (k := 1) rfl rfl (by decide) rfl (fun ls hl => ?_)
          refine lv_iinc (pc := 34) (v := (x2 + 1)) (lv' := [(2, .int (x2 + 1)), (1, .int (x1 + 1)), (0, .ref (ad k))]) hx hb dX5_propsAway_34 hl (k := 2) rfl rfl (by decide) rfl (fun ls hl => ?_)
          refine lv_goto (pc := 37) (tgt := 4) hx hb dX5_propsAway_37 (by decide) ?_
          exact ih M (x1 + 1) (x2 + 1) _ _ _ h hP hS (lv_sub hl [2, 1, 0] rfl)
  unfold fX5_propsAway at h
  refine lv_iconst (pc := 0) (v := (0 : Int32)) hx hb dX5_propsAway_0 (by decide) ?_
  refine lv_istore_n (pc := 1) (lv' := [(1, .int (0 : Int32)), (0, .ref (ad k))]) hx hb dX5_propsAway_1 rfl hl (by decide) rfl (fun ls hl => ?_)
  refine lv_iconst (pc := 2) (v := (0 : Int32)) hx hb dX5_propsAway_2 (by decide) ?_
  refine lv_istore_n (pc := 3) (lv' := [(2, .int (0 : Int32)), (1, .int (0 : Int32)), (0, .ref (ad k))]) hx hb dX5_propsAway_3 rfl hl (by decide) rfl (fun ls hl => ?_)
  exact hL4 5000 M (0 : Int32) (0 : Int32) _ _ _ h hP hS (lv_sub hl [2, 1, 0] rfl)
set_option maxRecDepth 100000 in
set_option maxHeartbeats 4000000 in
theorem kX5_openBoxes (hap : Apart 78 ad) {k : Nat} (hk : RoA k) (M : Mem)  (v : Int32) (h : fX5_openBoxes k M = some v) : XI G ad sK sV cA cZ cC yX5_openBoxes cX5_openBoxes 3 .int ({ frames := 2, cells := 0, slots := 0, locals := 42 } : Room) [.ref (ad k)] M v M := by
  refine CI.mk (own := RX5) (ls0 := [(0, .ref (ad k))]) (by decide +kernel) rfl hap (Nat.le_of_ble_eq_true rfl) rfl ?_
  intro p l e s m args below meth c ls E hP hl
  have hx := E.1
  have hb := E.2.1
  have hown := E.2.2.2.2.2.1
  have hts := E.2.2.2.2.2.2.1
  have hNe := E.2.2.2.2.2.2.2.2.1.1
  have hEx := ExX.ok ad sK sV
  have hS : va_S (AW 78 ad) s.heap s.heap [] := va_S.rf
  have hL4 : ∀ (n : Nat) (M : Mem) (x1 x2 : Int32) (H : Heap) (locs : List Loc) (ls : Array Slot), fX5_openBoxes_L4 k n M x1 x2 = some v → va_P G vwCl (WW 78 (shX cA ad) ad M) H → va_S (AW 78 ad) s.heap H locs → lv_has ls 3 [(0, .ref (ad k)), (1, .int x1), (2, .int x2)] → W p l e ({ frames := 2, cells := 0, slots := 0, locals := 42 } : Room) s m args below meth c H locs 0 0 (QI below G 78 (shX cA ad) ad .int args s v M) (F0 m 4 ls []) := by
    intro n
    induction n with
    | zero => intro M x1 x2 H locs ls h; cases h
    | succ n ih =>
      intro M x1 x2 H locs ls h hP hS hl
      rw [fX5_openBoxes_L4] at h
      refine lv_iload_n (pc := 4) hx hb dX5_openBoxes_4 rfl (lv_at hl 2 rfl) ?_
      refine lv_aload_n (pc := 5) hx hb dX5_openBoxes_5 rfl (lv_at hl 0 rfl) ?_
      refine x_get (pc := 6) (v := .int (M k 0)) E hP (RoA.lt hk) (sh5 hk) rfl inX5 0 (by decide) q88 rfl dX5_openBoxes_6 ?_
      refine lv_icmp_ge (pc := 9) (tgt := 29) hx hb dX5_openBoxes_9 (by decide) (fun c1 => ?_) (fun c1 => ?_)
      · have h := (if_pos c1).symm.trans h
        refine lv_iload_n (pc := 29) hx hb dX5_openBoxes_29 rfl (lv_at hl 1 rfl) ?_
        obtain rfl := som1 h
        exact x_iret E hP hS rfl dX5_openBoxes_30
      · have h := (if_neg c1).symm.trans h
        refine lv_aload_n (pc := 12) hx hb dX5_openBoxes_12 rfl (lv_at hl 0 rfl) ?_
        refine lv_iload_n (pc := 13) hx hb dX5_openBoxes_13 rfl (lv_at hl 2 rfl) ?_
        refine x_callVi (pc := 14) (st := .int x2 :: .ref (ad k) :: []) (As := [.int x2]) E hEx hl.1 hP hS (kX5_isOpen hap hk M _ _ rfl) gX5_77 hdX5_isOpen rfl (RoA.lt hk) (sh5 hk) rfl ⟨Nat.le_of_ble_eq_true rfl, Nat.le_of_ble_eq_true rfl⟩ ⟨rfl, rfl⟩ dX5_openBoxes_14 rfl (Nat.le_of_ble_eq_true rfl) (fun H locs hP hS n2 => ?_)
        refine lv_if_eq (pc := 17) (tgt := 23) hx hb dX5_openBoxes_17 (by decide) (fun c3 => ?_) (fun c3 => ?_)
        · have h := (if_pos c3).symm.trans h
          refine lv_iinc (pc := 23) (v := (x2 + 1)) (lv' := [(2, .int (x2 + 1)), (0, .ref (ad k)), (1, .int x1)]) hx hb dX5_openBoxes_23 hl (k := 2) rfl rfl (by decide) rfl (fun ls hl => ?_)
          refine lv_goto (pc := 26) (tgt := 4) hx hb dX5_openBoxes_26 (by decide) ?_
          exact ih M x1 (x2 + 1) _ _ _ h hP hS (lv_sub hl [1, 2, 0] rfl)
        · have h := (if_neg c3).symm.trans h
          refine lv_iinc (pc := 20) (v := (x1 + 1)) (lv' := [(1, .int (x1 + 1)), (0, .ref (ad k)), (2, .int x2)]) hx hb dX5_openBoxes_20 hl (k := 1) rfl rfl (by decide) rfl (fun ls hl => ?_)
          refine lv_iinc (pc := 23) (v := (x2 + 1)) (lv' := [(2, .int (x2 + 1)), (1, .int (x1 + 1)), (0, .ref (ad k))]) hx hb dX5_openBoxes_23 hl (k := 2) rfl rfl (by decide) rfl (fun ls hl => ?_)
          refine lv_goto (pc := 26) (tgt := 4) hx hb dX5_openBoxes_26 (by decide) ?_
          exact ih M (x1 + 1) (x2 + 1) _ _ _ h hP hS (lv_sub hl [2, 1, 0] rfl)
  unfold fX5_openBoxes at h
  refine lv_iconst (pc := 0) (v := (0 : Int32)) hx hb dX5_openBoxes_0 (by decide) ?_
  refine lv_istore_n (pc := 1) (lv' := [(1, .int (0 : Int32)), (0, .ref (ad k))]) hx hb dX5_openBoxes_1 rfl hl (by decide) rfl (fun ls hl => ?_)
  refine lv_iconst (pc := 2) (v := (1 : Int32)) hx hb dX5_openBoxes_2 (by decide) ?_
  refine lv_istore_n (pc := 3) (lv' := [(2, .int (1 : Int32)), (1, .int (0 : Int32)), (0, .ref (ad k))]) hx hb dX5_openBoxes_3 rfl hl (by decide) rfl (fun ls hl => ?_)
  exact hL4 5000 M (0 : Int32) (1 : Int32) _ _ _ h hP hS (lv_sub hl [2, 1, 0] rfl)
set_option maxRecDepth 100000 in
set_option maxHeartbeats 4000000 in
theorem kX5_isPale (hap : Apart 78 ad) {k : Nat} (hk : RoA k) (M : Mem) (x1 : Int32) (v : Int32) (h : fX5_isPale k M x1 = v) : XI G ad sK sV cA cZ cC yX5_isPale cX5_isPale 2 .boolean ({ frames := 1, cells := 0, slots := 0, locals := 21 } : Room) [.ref (ad k), .int x1] M v M := by
  refine CI.mk (own := RX5) (ls0 := [(0, .ref (ad k)), (1, .int x1)]) (by decide +kernel) rfl hap (Nat.le_of_ble_eq_true rfl) rfl ?_
  intro p l e s m args below meth c ls E hP hl
  have hx := E.1
  have hb := E.2.1
  have hown := E.2.2.2.2.2.1
  have hts := E.2.2.2.2.2.2.1
  have hNe := E.2.2.2.2.2.2.2.2.1.1
  have hEx := ExX.ok ad sK sV
  have hS : va_S (AW 78 ad) s.heap s.heap [] := va_S.rf
  unfold fX5_isPale at h
  refine lv_aload_n (pc := 0) hx hb dX5_isPale_0 rfl (lv_at hl 0 rfl) ?_
  refine x_get (pc := 1) (v := .ref (ad (k + 11))) E hP (RoA.lt hk) (sh5 hk) rfl inX5 13 (by decide) q115 rfl dX5_isPale_1 ?_
  refine lv_iload_n (pc := 4) hx hb dX5_isPale_4 rfl (lv_at hl 1 rfl) ?_
  refine x_callNi (pc := 5) (st := .int x1 :: .ref (ad (k + 11)) :: []) (As := [.ref (ad (k + 11)), .int x1]) E hEx hl.1 hP hS (c_at hap M (lt5a11 hk) (sh5a11 hk) (by decide) _ _ rfl) gcX7_at (hNe _ nw7) q17 q320 hsX7_at rfl ⟨Nat.le_of_ble_eq_true rfl, Nat.le_of_ble_eq_true rfl⟩ ⟨rfl, rfl⟩ dX5_isPale_5 rfl (Nat.le_of_ble_eq_true rfl) (fun H locs hP hS n1 => ?_)
  refine lv_iconst (pc := 8) (v := (3 : Int32)) hx hb dX5_isPale_8 (by decide) ?_
  refine lv_icmp_gt (pc := 9) (tgt := 16) hx hb dX5_isPale_9 (by decide) (fun c2 => ?_) (fun c2 => ?_)
  · have h := (if_pos c2).symm.trans h
    refine lv_iconst (pc := 16) (v := (0 : Int32)) hx hb dX5_isPale_16 (by decide) ?_
    obtain rfl : (0 : Int32) = v := h
    exact x_iret E hP hS rfl dX5_isPale_17
  · have h := (if_neg c2).symm.trans h
    refine lv_iconst (pc := 12) (v := (1 : Int32)) hx hb dX5_isPale_12 (by decide) ?_
    refine lv_goto (pc := 13) (tgt := 17) hx hb dX5_isPale_13 (by decide) ?_
    obtain rfl : (1 : Int32) = v := h
    exact x_iret E hP hS rfl dX5_isPale_17
set_option maxRecDepth 100000 in
set_option maxHeartbeats 4000000 in
theorem kX5_paleClues (hap : Apart 78 ad) {k : Nat} (hk : RoA k) (M : Mem)  (v : Int32) (h : fX5_paleClues k M = some v) : XI G ad sK sV cA cZ cC yX5_paleClues cX5_paleClues 3 .int ({ frames := 2, cells := 0, slots := 0, locals := 42 } : Room) [.ref (ad k)] M v M := by
  refine CI.mk (own := RX5) (ls0 := [(0, .ref (ad k))]) (by decide +kernel) rfl hap (Nat.le_of_ble_eq_true rfl) rfl ?_
  intro p l e s m args below meth c ls E hP hl
  have hx := E.1
  have hb := E.2.1
  have hown := E.2.2.2.2.2.1
  have hts := E.2.2.2.2.2.2.1
  have hNe := E.2.2.2.2.2.2.2.2.1.1
  have hEx := ExX.ok ad sK sV
  have hS : va_S (AW 78 ad) s.heap s.heap [] := va_S.rf
  have hL4 : ∀ (n : Nat) (M : Mem) (x1 x2 : Int32) (H : Heap) (locs : List Loc) (ls : Array Slot), fX5_paleClues_L4 k n M x1 x2 = some v → va_P G vwCl (WW 78 (shX cA ad) ad M) H → va_S (AW 78 ad) s.heap H locs → lv_has ls 3 [(0, .ref (ad k)), (1, .int x1), (2, .int x2)] → W p l e ({ frames := 2, cells := 0, slots := 0, locals := 42 } : Room) s m args below meth c H locs 0 0 (QI below G 78 (shX cA ad) ad .int args s v M) (F0 m 4 ls []) := by
    intro n
    induction n with
    | zero => intro M x1 x2 H locs ls h; cases h
    | succ n ih =>
      intro M x1 x2 H locs ls h hP hS hl
      rw [fX5_paleClues_L4] at h
      refine lv_iload_n (pc := 4) hx hb dX5_paleClues_4 rfl (lv_at hl 2 rfl) ?_
      refine lv_aload_n (pc := 5) hx hb dX5_paleClues_5 rfl (lv_at hl 0 rfl) ?_
      refine x_get (pc := 6) (v := .int (M k 9)) E hP (RoA.lt hk) (sh5 hk) rfl inX5 9 (by decide) q106 rfl dX5_paleClues_6 ?_
      refine lv_icmp_ge (pc := 9) (tgt := 29) hx hb dX5_paleClues_9 (by decide) (fun c1 => ?_) (fun c1 => ?_)
      · have h := (if_pos c1).symm.trans h
        refine lv_iload_n (pc := 29) hx hb dX5_paleClues_29 rfl (lv_at hl 1 rfl) ?_
        obtain rfl := som1 h
        exact x_iret E hP hS rfl dX5_paleClues_30
      · have h := (if_neg c1).symm.trans h
        refine lv_aload_n (pc := 12) hx hb dX5_paleClues_12 rfl (lv_at hl 0 rfl) ?_
        refine lv_iload_n (pc := 13) hx hb dX5_paleClues_13 rfl (lv_at hl 2 rfl) ?_
        refine x_callVi (pc := 14) (st := .int x2 :: .ref (ad k) :: []) (As := [.int x2]) E hEx hl.1 hP hS (kX5_isPale hap hk M _ _ rfl) gX5_94 hdX5_isPale rfl (RoA.lt hk) (sh5 hk) rfl ⟨Nat.le_of_ble_eq_true rfl, Nat.le_of_ble_eq_true rfl⟩ ⟨rfl, rfl⟩ dX5_paleClues_14 rfl (Nat.le_of_ble_eq_true rfl) (fun H locs hP hS n2 => ?_)
        refine lv_if_eq (pc := 17) (tgt := 23) hx hb dX5_paleClues_17 (by decide) (fun c3 => ?_) (fun c3 => ?_)
        · have h := (if_pos c3).symm.trans h
          refine lv_iinc (pc := 23) (v := (x2 + 1)) (lv' := [(2, .int (x2 + 1)), (0, .ref (ad k)), (1, .int x1)]) hx hb dX5_paleClues_23 hl (k := 2) rfl rfl (by decide) rfl (fun ls hl => ?_)
          refine lv_goto (pc := 26) (tgt := 4) hx hb dX5_paleClues_26 (by decide) ?_
          exact ih M x1 (x2 + 1) _ _ _ h hP hS (lv_sub hl [1, 2, 0] rfl)
        · have h := (if_neg c3).symm.trans h
          refine lv_iinc (pc := 20) (v := (x1 + 1)) (lv' := [(1, .int (x1 + 1)), (0, .ref (ad k)), (2, .int x2)]) hx hb dX5_paleClues_20 hl (k := 1) rfl rfl (by decide) rfl (fun ls hl => ?_)
          refine lv_iinc (pc := 23) (v := (x2 + 1)) (lv' := [(2, .int (x2 + 1)), (1, .int (x1 + 1)), (0, .ref (ad k))]) hx hb dX5_paleClues_23 hl (k := 2) rfl rfl (by decide) rfl (fun ls hl => ?_)
          refine lv_goto (pc := 26) (tgt := 4) hx hb dX5_paleClues_26 (by decide) ?_
          exact ih M (x1 + 1) (x2 + 1) _ _ _ h hP hS (lv_sub hl [2, 1, 0] rfl)
  unfold fX5_paleClues at h
  refine lv_iconst (pc := 0) (v := (0 : Int32)) hx hb dX5_paleClues_0 (by decide) ?_
  refine lv_istore_n (pc := 1) (lv' := [(1, .int (0 : Int32)), (0, .ref (ad k))]) hx hb dX5_paleClues_1 rfl hl (by decide) rfl (fun ls hl => ?_)
  refine lv_iconst (pc := 2) (v := (0 : Int32)) hx hb dX5_paleClues_2 (by decide) ?_
  refine lv_istore_n (pc := 3) (lv' := [(2, .int (0 : Int32)), (1, .int (0 : Int32)), (0, .ref (ad k))]) hx hb dX5_paleClues_3 rfl hl (by decide) rfl (fun ls hl => ?_)
  exact hL4 5000 M (0 : Int32) (0 : Int32) _ _ _ h hP hS (lv_sub hl [2, 1, 0] rfl)
set_option maxRecDepth 100000 in
set_option maxHeartbeats 4000000 in
theorem kX5_inkLack (hap : Apart 78 ad) {k : Nat} (hk : RoA k) (M : Mem) (x1 : Int32) (v : Int32) (h : fX5_inkLack k M x1 = v) : XI G ad sK sV cA cZ cC yX5_inkLack cX5_inkLack 2 .int ({ frames := 1, cells := 0, slots := 0, locals := 21 } : Room) [.ref (ad k), .int x1] M v M := by
  refine CI.mk (own := RX5) (ls0 := [(0, .ref (ad k)), (1, .int x1)]) (by decide +kernel) rfl hap (Nat.le_of_ble_eq_true rfl) rfl ?_
  intro p l e s m args below meth c ls E hP hl
  have hx := E.1
  have hb := E.2.1
  have hown := E.2.2.2.2.2.1
  have hts := E.2.2.2.2.2.2.1
  have hNe := E.2.2.2.2.2.2.2.2.1.1
  have hEx := ExX.ok ad sK sV
  have hS : va_S (AW 78 ad) s.heap s.heap [] := va_S.rf
  unfold fX5_inkLack at h
  refine lv_bipush (pc := 0) (v := (9 : Int32)) hx hb dX5_inkLack_0 (by decide) ?_
  refine lv_aload_n (pc := 2) hx hb dX5_inkLack_2 rfl (lv_at hl 0 rfl) ?_
  refine x_get (pc := 3) (v := .ref (ad (k + 11))) E hP (RoA.lt hk) (sh5 hk) rfl inX5 13 (by decide) q115 rfl dX5_inkLack_3 ?_
  refine lv_iload_n (pc := 6) hx hb dX5_inkLack_6 rfl (lv_at hl 1 rfl) ?_
  refine x_callNi (pc := 7) (st := .int x1 :: .ref (ad (k + 11)) :: .int (9 : Int32) :: []) (As := [.ref (ad (k + 11)), .int x1]) E hEx hl.1 hP hS (c_at hap M (lt5a11 hk) (sh5a11 hk) (by decide) _ _ rfl) gcX7_at (hNe _ nw7) q17 q320 hsX7_at rfl ⟨Nat.le_of_ble_eq_true rfl, Nat.le_of_ble_eq_true rfl⟩ ⟨rfl, rfl⟩ dX5_inkLack_7 rfl (Nat.le_of_ble_eq_true rfl) (fun H locs hP hS n1 => ?_)
  refine lv_isub (pc := 10) hx hb dX5_inkLack_10 ?_
  obtain rfl : ((9 : Int32) - (atX M (k + 11) 12 x1)) = v := h
  exact x_iret E hP hS rfl dX5_inkLack_11
set_option maxRecDepth 100000 in
set_option maxHeartbeats 4000000 in
theorem kX5_fade (hap : Apart 78 ad) {k : Nat} (hk : RoA k) (M : Mem) (x1 : Int32) (M' : Mem) (h : fX5_fade k M x1 = some M') : XV G ad sK sV cA cZ cC yX5_fade cX5_fade 3 ({ frames := 3, cells := 0, slots := 0, locals := 66 } : Room) [.ref (ad k), .int x1] M M' := by
  refine CV.mk (own := RX5) (ls0 := [(0, .ref (ad k)), (1, .int x1)]) (by decide +kernel) rfl hap (Nat.le_of_ble_eq_true rfl) rfl ?_
  intro p l e s m args below meth c ls E hP hl
  have hx := E.1
  have hb := E.2.1
  have hown := E.2.2.2.2.2.1
  have hts := E.2.2.2.2.2.2.1
  have hNe := E.2.2.2.2.2.2.2.2.1.1
  have hEx := ExX.ok ad sK sV
  have hS : va_S (AW 78 ad) s.heap s.heap [] := va_S.rf
  have hL2 : ∀ (n : Nat) (M : Mem) (x1 x2 : Int32) (H : Heap) (locs : List Loc) (ls : Array Slot), fX5_fade_L2 k n M x1 x2 = some M' → va_P G vwCl (WW 78 (shX cA ad) ad M) H → va_S (AW 78 ad) s.heap H locs → lv_has ls 3 [(0, .ref (ad k)), (1, .int x1), (2, .int x2)] → W p l e ({ frames := 3, cells := 0, slots := 0, locals := 66 } : Room) s m args below meth c H locs 0 0 (QV below G 78 (shX cA ad) ad args s M') (F0 m 2 ls []) := by
    intro n
    induction n with
    | zero => intro M x1 x2 H locs ls h; cases h
    | succ n ih =>
      intro M x1 x2 H locs ls h hP hS hl
      rw [fX5_fade_L2] at h
      refine lv_iload_n (pc := 2) hx hb dX5_fade_2 rfl (lv_at hl 2 rfl) ?_
      refine lv_aload_n (pc := 3) hx hb dX5_fade_3 rfl (lv_at hl 0 rfl) ?_
      refine x_get (pc := 4) (v := .int (M k 9)) E hP (RoA.lt hk) (sh5 hk) rfl inX5 9 (by decide) q106 rfl dX5_fade_4 ?_
      refine lv_icmp_ge (pc := 7) (tgt := 46) hx hb dX5_fade_7 (by decide) (fun c1 => ?_) (fun c1 => ?_)
      · have h := (if_pos c1).symm.trans h
        obtain rfl := som1 h
        exact x_vret E hP hS dX5_fade_46
      · have h := (if_neg c1).symm.trans h
        refine lv_aload_n (pc := 10) hx hb dX5_fade_10 rfl (lv_at hl 0 rfl) ?_
        refine lv_iload_n (pc := 11) hx hb dX5_fade_11 rfl (lv_at hl 2 rfl) ?_
        obtain ⟨y2, hy2, h⟩ := bnd_ex h
        refine x_callVi (pc := 12) (st := .int x2 :: .ref (ad k) :: []) (As := [.int x2]) E hEx hl.1 hP hS (kX5_clueAtHand hap hk M _ _ hy2) gX5_97 hdX5_clueAtHand rfl (RoA.lt hk) (sh5 hk) rfl ⟨Nat.le_of_ble_eq_true rfl, Nat.le_of_ble_eq_true rfl⟩ ⟨rfl, rfl⟩ dX5_fade_12 rfl (Nat.le_of_ble_eq_true rfl) (fun H locs hP hS n3 => ?_)
        refine lv_if_eq (pc := 15) (tgt := 40) hx hb dX5_fade_15 (by decide) (fun c4 => ?_) (fun c4 => ?_)
        · have h := (if_pos c4).symm.trans h
          refine lv_iinc (pc := 40) (v := (x2 + 1)) (lv' := [(2, .int (x2 + 1)), (0, .ref (ad k)), (1, .int x1)]) hx hb dX5_fade_40 hl (k := 2) rfl rfl (by decide) rfl (fun ls hl => ?_)
          refine lv_goto (pc := 43) (tgt := 2) hx hb dX5_fade_43 (by decide) ?_
          exact ih M x1 (x2 + 1) _ _ _ h hP hS (lv_sub hl [1, 2, 0] rfl)
        · have h := (if_neg c4).symm.trans h
          refine lv_aload_n (pc := 18) hx hb dX5_fade_18 rfl (lv_at hl 0 rfl) ?_
          refine x_get (pc := 19) (v := .ref (ad (k + 11))) E hP (RoA.lt hk) (sh5 hk) rfl inX5 13 (by decide) q115 rfl dX5_fade_19 ?_
          refine lv_iload_n (pc := 22) hx hb dX5_fade_22 rfl (lv_at hl 2 rfl) ?_
          refine lv_iconst (pc := 23) (v := (0 : Int32)) hx hb dX5_fade_23 (by decide) ?_
          refine lv_aload_n (pc := 24) hx hb dX5_fade_24 rfl (lv_at hl 0 rfl) ?_
          refine x_get (pc := 25) (v := .ref (ad (k + 11))) E hP (RoA.lt hk) (sh5 hk) rfl inX5 13 (by decide) q115 rfl dX5_fade_25 ?_
          refine lv_iload_n (pc := 28) hx hb dX5_fade_28 rfl (lv_at hl 2 rfl) ?_
          refine x_callNi (pc := 29) (st := .int x2 :: .ref (ad (k + 11)) :: .int (0 : Int32) :: .int x2 :: .ref (ad (k + 11)) :: []) (As := [.ref (ad (k + 11)), .int x2]) E hEx hl.1 hP hS (c_at hap M (lt5a11 hk) (sh5a11 hk) (by decide) _ _ rfl) gcX7_at (hNe _ nw7) q17 q320 hsX7_at rfl ⟨Nat.le_of_ble_eq_true rfl, Nat.le_of_ble_eq_true rfl⟩ ⟨rfl, rfl⟩ dX5_fade_29 rfl (Nat.le_of_ble_eq_true rfl) (fun H locs hP hS n5 => ?_)
          refine lv_iload_n (pc := 32) hx hb dX5_fade_32 rfl (lv_at hl 1 rfl) ?_
          refine lv_isub (pc := 33) hx hb dX5_fade_33 ?_
          refine x_mmax (pc := 34) (own := RX5) (index := 100) hx hb (E.2.2.1.trans hl.1.symm) hown (hts _ q422) hts (Nat.le_of_ble_eq_true rfl) (Nat.le_of_ble_eq_true rfl) dX5_fade_34 ?_
          obtain ⟨M6, hM6, h⟩ := thn_ex h
          refine x_callNv (pc := 37) (st := .int (mxi (0 : Int32) ((atX M (k + 11) 12 x2) - x1)) :: .int x2 :: .ref (ad (k + 11)) :: []) (As := [.ref (ad (k + 11)), .int x2, .int (mxi (0 : Int32) ((atX M (k + 11) 12 x2) - x1))]) E hEx hl.1 hP hS (c_put hap M (lt5a11 hk) (sh5a11 hk) (by decide) _ _ _ hM6) gcX7_put (hNe _ nw2) q17 q86 hsX7_put rfl ⟨Nat.le_of_ble_eq_true rfl, Nat.le_of_ble_eq_true rfl⟩ ⟨rfl, rfl⟩ dX5_fade_37 rfl (Nat.le_of_ble_eq_true rfl) (fun H locs hP hS => ?_)
          refine lv_iinc (pc := 40) (v := (x2 + 1)) (lv' := [(2, .int (x2 + 1)), (0, .ref (ad k)), (1, .int x1)]) hx hb dX5_fade_40 hl (k := 2) rfl rfl (by decide) rfl (fun ls hl => ?_)
          refine lv_goto (pc := 43) (tgt := 2) hx hb dX5_fade_43 (by decide) ?_
          exact ih M6 x1 (x2 + 1) _ _ _ h hP hS (lv_sub hl [1, 2, 0] rfl)
  unfold fX5_fade at h
  refine lv_iconst (pc := 0) (v := (0 : Int32)) hx hb dX5_fade_0 (by decide) ?_
  refine lv_istore_n (pc := 1) (lv' := [(2, .int (0 : Int32)), (0, .ref (ad k)), (1, .int x1)]) hx hb dX5_fade_1 rfl hl (by decide) rfl (fun ls hl => ?_)
  exact hL2 5000 M x1 (0 : Int32) _ _ _ h hP hS (lv_sub hl [1, 2, 0] rfl)
set_option maxRecDepth 100000 in
set_option maxHeartbeats 4000000 in
theorem kX5_clueDigit (hap : Apart 78 ad) {k : Nat} (hk : RoA k) (M : Mem) (x1 : Int32) (v : Int32) (h : fX5_clueDigit k M x1 = v) : XI G ad sK sV cA cZ cC yX5_clueDigit cX5_clueDigit 3 .int ({ frames := 1, cells := 0, slots := 0, locals := 21 } : Room) [.ref (ad k), .int x1] M v M := by
  refine CI.mk (own := RX5) (ls0 := [(0, .ref (ad k)), (1, .int x1)]) (by decide +kernel) rfl hap (Nat.le_of_ble_eq_true rfl) rfl ?_
  intro p l e s m args below meth c ls E hP hl
  have hx := E.1
  have hb := E.2.1
  have hown := E.2.2.2.2.2.1
  have hts := E.2.2.2.2.2.2.1
  have hNe := E.2.2.2.2.2.2.2.2.1.1
  have hEx := ExX.ok ad sK sV
  have hS : va_S (AW 78 ad) s.heap s.heap [] := va_S.rf
  unfold fX5_clueDigit at h
  refine lv_aload_n (pc := 0) hx hb dX5_clueDigit_0 rfl (lv_at hl 0 rfl) ?_
  refine x_get (pc := 1) (v := .ref (ad (k + 3))) E hP (RoA.lt hk) (sh5 hk) rfl inX5 3 (by decide) q94 rfl dX5_clueDigit_1 ?_
  refine lv_aload_n (pc := 4) hx hb dX5_clueDigit_4 rfl (lv_at hl 0 rfl) ?_
  refine x_get (pc := 5) (v := .ref (ad (k + 9))) E hP (RoA.lt hk) (sh5 hk) rfl inX5 11 (by decide) q111 rfl dX5_clueDigit_5 ?_
  refine lv_iload_n (pc := 8) hx hb dX5_clueDigit_8 rfl (lv_at hl 1 rfl) ?_
  refine x_callNi (pc := 9) (st := .int x1 :: .ref (ad (k + 9)) :: .ref (ad (k + 3)) :: []) (As := [.ref (ad (k + 9)), .int x1]) E hEx hl.1 hP hS (c_at hap M (lt5a9 hk) (sh5a9 hk) (by decide) _ _ rfl) gcX7_at (hNe _ nw7) q17 q320 hsX7_at rfl ⟨Nat.le_of_ble_eq_true rfl, Nat.le_of_ble_eq_true rfl⟩ ⟨rfl, rfl⟩ dX5_clueDigit_9 rfl (Nat.le_of_ble_eq_true rfl) (fun H locs hP hS n1 => ?_)
  refine x_callNi (pc := 12) (st := .int (atX M (k + 9) 12 x1) :: .ref (ad (k + 3)) :: []) (As := [.ref (ad (k + 3)), .int (atX M (k + 9) 12 x1)]) E hEx hl.1 hP hS (c_at hap M (lt5a3 hk) (sh5a3 hk) (by decide) _ _ rfl) gcX7_at (hNe _ nw7) q17 q320 hsX7_at rfl ⟨Nat.le_of_ble_eq_true rfl, Nat.le_of_ble_eq_true rfl⟩ ⟨rfl, rfl⟩ dX5_clueDigit_12 rfl (Nat.le_of_ble_eq_true rfl) (fun H locs hP hS n2 => ?_)
  obtain ⟨y3, hy3, h⟩ := thn_ex h
  refine W.eq (g2 := F0 m 15 ls (.int y3 :: [])) (by rw [← hy3]) ?_
  refine lv_istore_n (pc := 15) (lv' := [(2, .int y3), (0, .ref (ad k)), (1, .int x1)]) hx hb dX5_clueDigit_15 rfl hl (by decide) rfl (fun ls hl => ?_)
  refine lv_aload_n (pc := 16) hx hb dX5_clueDigit_16 rfl (lv_at hl 1 rfl) ?_
  refine x_get (pc := 17) (v := .ref (ad (k + 10))) E hP (RoA.lt hk) (sh5 hk) rfl inX5 12 (by decide) q113 rfl dX5_clueDigit_17 ?_
  refine lv_iload_n (pc := 20) hx hb dX5_clueDigit_20 rfl (lv_at hl 2 rfl) ?_
  refine x_callNi (pc := 21) (st := .int x1 :: .ref (ad (k + 10)) :: []) (As := [.ref (ad (k + 10)), .int x1]) E hEx hl.1 hP hS (c_at hap M (lt5a10 hk) (sh5a10 hk) (by decide) _ _ rfl) gcX7_at (hNe _ nw7) q17 q320 hsX7_at rfl ⟨Nat.le_of_ble_eq_true rfl, Nat.le_of_ble_eq_true rfl⟩ ⟨rfl, rfl⟩ dX5_clueDigit_21 rfl (Nat.le_of_ble_eq_true rfl) (fun H locs hP hS n4 => ?_)
  by_cases c5 : (atX M (k + 10) 12 x1) = (0 : Int32)
  · have h := (if_pos c5).symm.trans h
    refine lv_tableIn (pc := 24) (off := 28) (tgt := 52) hx hb dX5_clueDigit_24 (by rw [c5]; decide) (by rw [c5]; decide) (by rw [c5]; decide) (by decide) ?_
    refine lv_iload_n (pc := 52) hx hb dX5_clueDigit_52 rfl (lv_at hl 0 rfl) ?_
    refine lv_sipush (pc := 53) (v := (1000 : Int32)) hx hb dX5_clueDigit_53 (by decide) ?_
    refine lv_idiv (pc := 56) hx hb dX5_clueDigit_56 (by decide) ?_
    refine lv_bipush (pc := 57) (v := (10 : Int32)) hx hb dX5_clueDigit_57 (by decide) ?_
    refine x_irem (pc := 59) hx hb dX5_clueDigit_59 (by decide) ?_
    obtain rfl : (irm (y3 / (1000 : Int32)) (10 : Int32)) = v := h
    exact x_iret E hP hS rfl dX5_clueDigit_60
  · have h := (if_neg c5).symm.trans h
    by_cases c6 : (atX M (k + 10) 12 x1) = (1 : Int32)
    · have h := (if_pos c6).symm.trans h
      refine lv_tableIn (pc := 24) (off := 37) (tgt := 61) hx hb dX5_clueDigit_24 (by rw [c6]; decide) (by rw [c6]; decide) (by rw [c6]; decide) (by decide) ?_
      refine lv_iload_n (pc := 61) hx hb dX5_clueDigit_61 rfl (lv_at hl 0 rfl) ?_
      refine lv_bipush (pc := 62) (v := (100 : Int32)) hx hb dX5_clueDigit_62 (by decide) ?_
      refine lv_idiv (pc := 64) hx hb dX5_clueDigit_64 (by decide) ?_
      refine lv_bipush (pc := 65) (v := (10 : Int32)) hx hb dX5_clueDigit_65 (by decide) ?_
      refine x_irem (pc := 67) hx hb dX5_clueDigit_67 (by decide) ?_
      obtain rfl : (irm (y3 / (100 : Int32)) (10 : Int32)) = v := h
      exact x_iret E hP hS rfl dX5_clueDigit_68
    · have h := (if_neg c6).symm.trans h
      by_cases c7 : (atX M (k + 10) 12 x1) = (2 : Int32)
      · have h := (if_pos c7).symm.trans h
        refine lv_tableIn (pc := 24) (off := 45) (tgt := 69) hx hb dX5_clueDigit_24 (by rw [c7]; decide) (by rw [c7]; decide) (by rw [c7]; decide) (by decide) ?_
        refine lv_iload_n (pc := 69) hx hb dX5_clueDigit_69 rfl (lv_at hl 0 rfl) ?_
        refine lv_bipush (pc := 70) (v := (10 : Int32)) hx hb dX5_clueDigit_70 (by decide) ?_
        refine lv_idiv (pc := 72) hx hb dX5_clueDigit_72 (by decide) ?_
        refine lv_bipush (pc := 73) (v := (10 : Int32)) hx hb dX5_clueDigit_73 (by decide) ?_
        refine x_irem (pc := 75) hx hb dX5_clueDigit_75 (by decide) ?_
        obtain rfl : (irm (y3 / (10 : Int32)) (10 : Int32)) = v := h
        exact x_iret E hP hS rfl dX5_clueDigit_76
      · have h := (if_neg c7).symm.trans h
        refine lv_tableOut (pc := 24) (tgt := 77) hx hb dX5_clueDigit_24 (by have e0 := ne_lit (k := 0) (by decide) c5; have e1 := ne_lit (k := 1) (by decide) c6; have e2 := ne_lit (k := 2) (by decide) c7; omega) (by decide) ?_
        refine lv_iload_n (pc := 77) hx hb dX5_clueDigit_77 rfl (lv_at hl 0 rfl) ?_
        refine lv_bipush (pc := 78) (v := (10 : Int32)) hx hb dX5_clueDigit_78 (by decide) ?_
        refine x_irem (pc := 80) hx hb dX5_clueDigit_80 (by decide) ?_
        obtain rfl : (irm y3 (10 : Int32)) = v := h
        exact x_iret E hP hS rfl dX5_clueDigit_81
set_option maxRecDepth 100000 in
set_option maxHeartbeats 4000000 in
theorem kX7_actMinutes (hap : Apart 78 ad)   (M : Mem) (x0 x1 : Int32) (v : Int32) (h : fX7_actMinutes M x0 x1 = v) : XI G ad sK sV cA cZ cC yX7_actMinutes cX7_actMinutes 2 .int ({ frames := 1, cells := 0, slots := 0, locals := 21 } : Room) [.int x0, .int x1] M v M := by
  refine CI.mk (own := RX7) (ls0 := [(0, .int x0), (1, .int x1)]) (by decide +kernel) rfl hap (Nat.le_of_ble_eq_true rfl) rfl ?_
  intro p l e s m args below meth c ls E hP hl
  have hx := E.1
  have hb := E.2.1
  have hown := E.2.2.2.2.2.1
  have hts := E.2.2.2.2.2.2.1
  have hNe := E.2.2.2.2.2.2.2.2.1.1
  have hEx := ExX.ok ad sK sV
  have hS : va_S (AW 78 ad) s.heap s.heap [] := va_S.rf
  unfold fX7_actMinutes at h
  refine lv_iconst (pc := 0) (v := (1 : Int32)) hx hb dX7_actMinutes_0 (by decide) ?_
  refine lv_iload_n (pc := 1) hx hb dX7_actMinutes_1 rfl (lv_at hl 0 rfl) ?_
  refine lv_iload_n (pc := 2) hx hb dX7_actMinutes_2 rfl (lv_at hl 1 rfl) ?_
  refine lv_iconst (pc := 3) (v := (2 : Int32)) hx hb dX7_actMinutes_3 (by decide) ?_
  refine lv_idiv (pc := 4) hx hb dX7_actMinutes_4 (by decide) ?_
  refine lv_isub (pc := 5) hx hb dX7_actMinutes_5 ?_
  refine x_mmax (pc := 6) (own := RX7) (index := 382) hx hb (E.2.2.1.trans hl.1.symm) hown (hts _ q403) hts (Nat.le_of_ble_eq_true rfl) (Nat.le_of_ble_eq_true rfl) dX7_actMinutes_6 ?_
  obtain rfl : (mxi (1 : Int32) (x0 - (x1 / (2 : Int32)))) = v := h
  exact x_iret E hP hS rfl dX7_actMinutes_9
set_option maxRecDepth 100000 in
set_option maxHeartbeats 4000000 in
theorem kX5_readingMinutes (hap : Apart 78 ad) {k : Nat} (hk : RoA k) (M : Mem) (x1 : Int32) (v : Int32) (h : fX5_readingMinutes k M x1 = v) : XI G ad sK sV cA cZ cC yX5_readingMinutes cX5_readingMinutes 2 .int ({ frames := 2, cells := 0, slots := 0, locals := 42 } : Room) [.ref (ad k), .int x1] M v M := by
  refine CI.mk (own := RX5) (ls0 := [(0, .ref (ad k)), (1, .int x1)]) (by decide +kernel) rfl hap (Nat.le_of_ble_eq_true rfl) rfl ?_
  intro p l e s m args below meth c ls E hP hl
  have hx := E.1
  have hb := E.2.1
  have hown := E.2.2.2.2.2.1
  have hts := E.2.2.2.2.2.2.1
  have hNe := E.2.2.2.2.2.2.2.2.1.1
  have hEx := ExX.ok ad sK sV
  have hS : va_S (AW 78 ad) s.heap s.heap [] := va_S.rf
  unfold fX5_readingMinutes at h
  refine lv_iconst (pc := 0) (v := (3 : Int32)) hx hb dX5_readingMinutes_0 (by decide) ?_
  refine lv_aload_n (pc := 1) hx hb dX5_readingMinutes_1 rfl (lv_at hl 0 rfl) ?_
  refine x_get (pc := 2) (v := .int (M k 15)) E hP (RoA.lt hk) (sh5 hk) rfl inX5 15 (by decide) q120 rfl dX5_readingMinutes_2 ?_
  refine x_callNi (pc := 5) (st := .int (M k 15) :: .int (3 : Int32) :: []) (As := [.int (3 : Int32), .int (M k 15)]) E hEx hl.1 hP hS (kX7_actMinutes hap  M _ _ _ rfl) gcX7_actMinutes (hNe _ nw10) q17 q401 hsX7_actMinutes rfl ⟨Nat.le_of_ble_eq_true rfl, Nat.le_of_ble_eq_true rfl⟩ ⟨rfl, rfl⟩ dX5_readingMinutes_5 rfl (Nat.le_of_ble_eq_true rfl) (fun H locs hP hS n1 => ?_)
  refine lv_aload_n (pc := 8) hx hb dX5_readingMinutes_8 rfl (lv_at hl 0 rfl) ?_
  refine lv_iload_n (pc := 9) hx hb dX5_readingMinutes_9 rfl (lv_at hl 1 rfl) ?_
  refine x_callVi (pc := 10) (st := .int x1 :: .ref (ad k) :: .int (fX7_actMinutes M (3 : Int32) (M k 15)) :: []) (As := [.int x1]) E hEx hl.1 hP hS (kX5_isPale hap hk M _ _ rfl) gX5_94 hdX5_isPale rfl (RoA.lt hk) (sh5 hk) rfl ⟨Nat.le_of_ble_eq_true rfl, Nat.le_of_ble_eq_true rfl⟩ ⟨rfl, rfl⟩ dX5_readingMinutes_10 rfl (Nat.le_of_ble_eq_true rfl) (fun H locs hP hS n2 => ?_)
  refine lv_if_eq (pc := 13) (tgt := 20) hx hb dX5_readingMinutes_13 (by decide) (fun c3 => ?_) (fun c3 => ?_)
  · have h := (if_pos c3).symm.trans h
    refine lv_iconst (pc := 20) (v := (1 : Int32)) hx hb dX5_readingMinutes_20 (by decide) ?_
    refine lv_imul (pc := 21) hx hb dX5_readingMinutes_21 ?_
    obtain rfl : ((fX7_actMinutes M (3 : Int32) (M k 15)) * (1 : Int32)) = v := h
    exact x_iret E hP hS rfl dX5_readingMinutes_22
  · have h := (if_neg c3).symm.trans h
    refine lv_iconst (pc := 16) (v := (2 : Int32)) hx hb dX5_readingMinutes_16 (by decide) ?_
    refine lv_goto (pc := 17) (tgt := 21) hx hb dX5_readingMinutes_17 (by decide) ?_
    refine lv_imul (pc := 21) hx hb dX5_readingMinutes_21 ?_
    obtain rfl : ((fX7_actMinutes M (3 : Int32) (M k 15)) * (2 : Int32)) = v := h
    exact x_iret E hP hS rfl dX5_readingMinutes_22
set_option maxRecDepth 100000 in
set_option maxHeartbeats 4000000 in
theorem kX5_learnDigit (hap : Apart 78 ad) {k : Nat} (hk : RoA k) (M : Mem) (x1 x2 : Int32) (M' : Mem) (h : fX5_learnDigit k M x1 x2 = some M') : XV G ad sK sV cA cZ cC yX5_learnDigit cX5_learnDigit 3 ({ frames := 1, cells := 0, slots := 0, locals := 22 } : Room) [.ref (ad k), .int x1, .int x2] M M' := by
  refine CV.mk (own := RX5) (ls0 := [(0, .ref (ad k)), (1, .int x1), (2, .int x2)]) (by decide +kernel) rfl hap (Nat.le_of_ble_eq_true rfl) rfl ?_
  intro p l e s m args below meth c ls E hP hl
  have hx := E.1
  have hb := E.2.1
  have hown := E.2.2.2.2.2.1
  have hts := E.2.2.2.2.2.2.1
  have hNe := E.2.2.2.2.2.2.2.2.1.1
  have hEx := ExX.ok ad sK sV
  have hS : va_S (AW 78 ad) s.heap s.heap [] := va_S.rf
  unfold fX5_learnDigit at h
  refine lv_aload_n (pc := 0) hx hb dX5_learnDigit_0 rfl (lv_at hl 0 rfl) ?_
  refine x_get (pc := 1) (v := .ref (ad (k + 5))) E hP (RoA.lt hk) (sh5 hk) rfl inX5 5 (by decide) q98 rfl dX5_learnDigit_1 ?_
  refine lv_iload_n (pc := 4) hx hb dX5_learnDigit_4 rfl (lv_at hl 1 rfl) ?_
  refine lv_aload_n (pc := 5) hx hb dX5_learnDigit_5 rfl (lv_at hl 0 rfl) ?_
  refine x_get (pc := 6) (v := .ref (ad (k + 5))) E hP (RoA.lt hk) (sh5 hk) rfl inX5 5 (by decide) q98 rfl dX5_learnDigit_6 ?_
  refine lv_iload_n (pc := 9) hx hb dX5_learnDigit_9 rfl (lv_at hl 1 rfl) ?_
  refine x_callNi (pc := 10) (st := .int x1 :: .ref (ad (k + 5)) :: .int x1 :: .ref (ad (k + 5)) :: []) (As := [.ref (ad (k + 5)), .int x1]) E hEx hl.1 hP hS (c_at hap M (lt5a5 hk) (sh5a5 hk) (by decide) _ _ rfl) gcX7_at (hNe _ nw7) q17 q320 hsX7_at rfl ⟨Nat.le_of_ble_eq_true rfl, Nat.le_of_ble_eq_true rfl⟩ ⟨rfl, rfl⟩ dX5_learnDigit_10 rfl (Nat.le_of_ble_eq_true rfl) (fun H locs hP hS n1 => ?_)
  refine lv_iconst (pc := 13) (v := (1 : Int32)) hx hb dX5_learnDigit_13 (by decide) ?_
  refine lv_iload_n (pc := 14) hx hb dX5_learnDigit_14 rfl (lv_at hl 2 rfl) ?_
  refine lv_ishl (pc := 15) hx hb dX5_learnDigit_15 ?_
  refine lv_ior (pc := 16) hx hb dX5_learnDigit_16 ?_
  obtain ⟨M2, hM2, h⟩ := thn_ex h
  refine x_callNv (pc := 17) (st := .int ((atX M (k + 5) 12 x1) ||| ((1 : Int32) <<< (x2 &&& 31))) :: .int x1 :: .ref (ad (k + 5)) :: []) (As := [.ref (ad (k + 5)), .int x1, .int ((atX M (k + 5) 12 x1) ||| ((1 : Int32) <<< (x2 &&& 31)))]) E hEx hl.1 hP hS (c_put hap M (lt5a5 hk) (sh5a5 hk) (by decide) _ _ _ hM2) gcX7_put (hNe _ nw2) q17 q86 hsX7_put rfl ⟨Nat.le_of_ble_eq_true rfl, Nat.le_of_ble_eq_true rfl⟩ ⟨rfl, rfl⟩ dX5_learnDigit_17 rfl (Nat.le_of_ble_eq_true rfl) (fun H locs hP hS => ?_)
  obtain rfl := som1 h
  exact x_vret E hP hS dX5_learnDigit_20
set_option maxRecDepth 100000 in
set_option maxHeartbeats 4000000 in
theorem kX5_learnFromClue (hap : Apart 78 ad) {k : Nat} (hk : RoA k) (M : Mem) (x1 : Int32) (M' : Mem) (h : fX5_learnFromClue k M x1 = some M') : XV G ad sK sV cA cZ cC yX5_learnFromClue cX5_learnFromClue 2 ({ frames := 2, cells := 0, slots := 0, locals := 44 } : Room) [.ref (ad k), .int x1] M M' := by
  refine CV.mk (own := RX5) (ls0 := [(0, .ref (ad k)), (1, .int x1)]) (by decide +kernel) rfl hap (Nat.le_of_ble_eq_true rfl) rfl ?_
  intro p l e s m args below meth c ls E hP hl
  have hx := E.1
  have hb := E.2.1
  have hown := E.2.2.2.2.2.1
  have hts := E.2.2.2.2.2.2.1
  have hNe := E.2.2.2.2.2.2.2.2.1.1
  have hEx := ExX.ok ad sK sV
  have hS : va_S (AW 78 ad) s.heap s.heap [] := va_S.rf
  unfold fX5_learnFromClue at h
  refine lv_aload_n (pc := 0) hx hb dX5_learnFromClue_0 rfl (lv_at hl 0 rfl) ?_
  refine lv_aload_n (pc := 1) hx hb dX5_learnFromClue_1 rfl (lv_at hl 0 rfl) ?_
  refine x_get (pc := 2) (v := .ref (ad (k + 9))) E hP (RoA.lt hk) (sh5 hk) rfl inX5 11 (by decide) q111 rfl dX5_learnFromClue_2 ?_
  refine lv_iload_n (pc := 5) hx hb dX5_learnFromClue_5 rfl (lv_at hl 1 rfl) ?_
  refine x_callNi (pc := 6) (st := .int x1 :: .ref (ad (k + 9)) :: .ref (ad k) :: []) (As := [.ref (ad (k + 9)), .int x1]) E hEx hl.1 hP hS (c_at hap M (lt5a9 hk) (sh5a9 hk) (by decide) _ _ rfl) gcX7_at (hNe _ nw7) q17 q320 hsX7_at rfl ⟨Nat.le_of_ble_eq_true rfl, Nat.le_of_ble_eq_true rfl⟩ ⟨rfl, rfl⟩ dX5_learnFromClue_6 rfl (Nat.le_of_ble_eq_true rfl) (fun H locs hP hS n1 => ?_)
  refine lv_aload_n (pc := 9) hx hb dX5_learnFromClue_9 rfl (lv_at hl 0 rfl) ?_
  refine x_get (pc := 10) (v := .ref (ad (k + 10))) E hP (RoA.lt hk) (sh5 hk) rfl inX5 12 (by decide) q113 rfl dX5_learnFromClue_10 ?_
  refine lv_iload_n (pc := 13) hx hb dX5_learnFromClue_13 rfl (lv_at hl 1 rfl) ?_
  refine x_callNi (pc := 14) (st := .int x1 :: .ref (ad (k + 10)) :: .int (atX M (k + 9) 12 x1) :: .ref (ad k) :: []) (As := [.ref (ad (k + 10)), .int x1]) E hEx hl.1 hP hS (c_at hap M (lt5a10 hk) (sh5a10 hk) (by decide) _ _ rfl) gcX7_at (hNe _ nw7) q17 q320 hsX7_at rfl ⟨Nat.le_of_ble_eq_true rfl, Nat.le_of_ble_eq_true rfl⟩ ⟨rfl, rfl⟩ dX5_learnFromClue_14 rfl (Nat.le_of_ble_eq_true rfl) (fun H locs hP hS n2 => ?_)
  obtain ⟨M3, hM3, h⟩ := bnd_ex h
  refine x_callVv (pc := 17) (st := .int (atX M (k + 10) 12 x1) :: .int (atX M (k + 9) 12 x1) :: .ref (ad k) :: []) (As := [.int (atX M (k + 9) 12 x1), .int (atX M (k + 10) 12 x1)]) E hEx hl.1 hP hS (kX5_learnDigit hap hk M _ _ _ hM3) gX5_109 hdX5_learnDigit rfl (RoA.lt hk) (sh5 hk) rfl ⟨Nat.le_of_ble_eq_true rfl, Nat.le_of_ble_eq_true rfl⟩ ⟨rfl, rfl⟩ dX5_learnFromClue_17 rfl (Nat.le_of_ble_eq_true rfl) (fun H locs hP hS => ?_)
  refine lv_aload_n (pc := 20) hx hb dX5_learnFromClue_20 rfl (lv_at hl 0 rfl) ?_
  refine x_get (pc := 21) (v := .ref (ad (k + 11))) E hP (RoA.lt hk) (sh5 hk) rfl inX5 13 (by decide) q115 rfl dX5_learnFromClue_21 ?_
  refine lv_iload_n (pc := 24) hx hb dX5_learnFromClue_24 rfl (lv_at hl 1 rfl) ?_
  refine lv_iconst (pc := 25) (v := (0 : Int32)) hx hb dX5_learnFromClue_25 (by decide) ?_
  refine lv_aload_n (pc := 26) hx hb dX5_learnFromClue_26 rfl (lv_at hl 0 rfl) ?_
  refine x_get (pc := 27) (v := .ref (ad (k + 11))) E hP (RoA.lt hk) (sh5 hk) rfl inX5 13 (by decide) q115 rfl dX5_learnFromClue_27 ?_
  refine lv_iload_n (pc := 30) hx hb dX5_learnFromClue_30 rfl (lv_at hl 1 rfl) ?_
  refine x_callNi (pc := 31) (st := .int x1 :: .ref (ad (k + 11)) :: .int (0 : Int32) :: .int x1 :: .ref (ad (k + 11)) :: []) (As := [.ref (ad (k + 11)), .int x1]) E hEx hl.1 hP hS (c_at hap M3 (lt5a11 hk) (sh5a11 hk) (by decide) _ _ rfl) gcX7_at (hNe _ nw7) q17 q320 hsX7_at rfl ⟨Nat.le_of_ble_eq_true rfl, Nat.le_of_ble_eq_true rfl⟩ ⟨rfl, rfl⟩ dX5_learnFromClue_31 rfl (Nat.le_of_ble_eq_true rfl) (fun H locs hP hS n4 => ?_)
  refine lv_iconst (pc := 34) (v := (1 : Int32)) hx hb dX5_learnFromClue_34 (by decide) ?_
  refine lv_isub (pc := 35) hx hb dX5_learnFromClue_35 ?_
  refine x_mmax (pc := 36) (own := RX5) (index := 100) hx hb (E.2.2.1.trans hl.1.symm) hown (hts _ q422) hts (Nat.le_of_ble_eq_true rfl) (Nat.le_of_ble_eq_true rfl) dX5_learnFromClue_36 ?_
  obtain ⟨M5, hM5, h⟩ := thn_ex h
  refine x_callNv (pc := 39) (st := .int (mxi (0 : Int32) ((atX M3 (k + 11) 12 x1) - (1 : Int32))) :: .int x1 :: .ref (ad (k + 11)) :: []) (As := [.ref (ad (k + 11)), .int x1, .int (mxi (0 : Int32) ((atX M3 (k + 11) 12 x1) - (1 : Int32)))]) E hEx hl.1 hP hS (c_put hap M3 (lt5a11 hk) (sh5a11 hk) (by decide) _ _ _ hM5) gcX7_put (hNe _ nw2) q17 q86 hsX7_put rfl ⟨Nat.le_of_ble_eq_true rfl, Nat.le_of_ble_eq_true rfl⟩ ⟨rfl, rfl⟩ dX5_learnFromClue_39 rfl (Nat.le_of_ble_eq_true rfl) (fun H locs hP hS => ?_)
  obtain rfl := som1 h
  exact x_vret E hP hS dX5_learnFromClue_42
set_option maxRecDepth 100000 in
set_option maxHeartbeats 4000000 in
theorem kX5_forgetDigits (hap : Apart 78 ad) {k : Nat} (hk : RoA k) (M : Mem)  (M' : Mem) (h : fX5_forgetDigits k M = some M') : XV G ad sK sV cA cZ cC yX5_forgetDigits cX5_forgetDigits 2 ({ frames := 1, cells := 0, slots := 0, locals := 22 } : Room) [.ref (ad k)] M M' := by
  refine CV.mk (own := RX5) (ls0 := [(0, .ref (ad k))]) (by decide +kernel) rfl hap (Nat.le_of_ble_eq_true rfl) rfl ?_
  intro p l e s m args below meth c ls E hP hl
  have hx := E.1
  have hb := E.2.1
  have hown := E.2.2.2.2.2.1
  have hts := E.2.2.2.2.2.2.1
  have hNe := E.2.2.2.2.2.2.2.2.1.1
  have hEx := ExX.ok ad sK sV
  have hS : va_S (AW 78 ad) s.heap s.heap [] := va_S.rf
  have hL2 : ∀ (n : Nat) (M : Mem) (x1 : Int32) (H : Heap) (locs : List Loc) (ls : Array Slot), fX5_forgetDigits_L2 k n M x1 = some M' → va_P G vwCl (WW 78 (shX cA ad) ad M) H → va_S (AW 78 ad) s.heap H locs → lv_has ls 2 [(0, .ref (ad k)), (1, .int x1)] → W p l e ({ frames := 1, cells := 0, slots := 0, locals := 22 } : Room) s m args below meth c H locs 0 0 (QV below G 78 (shX cA ad) ad args s M') (F0 m 2 ls []) := by
    intro n
    induction n with
    | zero => intro M x1 H locs ls h; cases h
    | succ n ih =>
      intro M x1 H locs ls h hP hS hl
      rw [fX5_forgetDigits_L2] at h
      refine lv_iload_n (pc := 2) hx hb dX5_forgetDigits_2 rfl (lv_at hl 1 rfl) ?_
      refine lv_aload_n (pc := 3) hx hb dX5_forgetDigits_3 rfl (lv_at hl 0 rfl) ?_
      refine x_get (pc := 4) (v := .int (M k 0)) E hP (RoA.lt hk) (sh5 hk) rfl inX5 0 (by decide) q88 rfl dX5_forgetDigits_4 ?_
      refine lv_icmp_ge (pc := 7) (tgt := 25) hx hb dX5_forgetDigits_7 (by decide) (fun c1 => ?_) (fun c1 => ?_)
      · have h := (if_pos c1).symm.trans h
        obtain rfl := som1 h
        exact x_vret E hP hS dX5_forgetDigits_25
      · have h := (if_neg c1).symm.trans h
        refine lv_aload_n (pc := 10) hx hb dX5_forgetDigits_10 rfl (lv_at hl 0 rfl) ?_
        refine x_get (pc := 11) (v := .ref (ad (k + 5))) E hP (RoA.lt hk) (sh5 hk) rfl inX5 5 (by decide) q98 rfl dX5_forgetDigits_11 ?_
        refine lv_iload_n (pc := 14) hx hb dX5_forgetDigits_14 rfl (lv_at hl 1 rfl) ?_
        refine lv_iconst (pc := 15) (v := (0 : Int32)) hx hb dX5_forgetDigits_15 (by decide) ?_
        obtain ⟨M2, hM2, h⟩ := thn_ex h
        refine x_callNv (pc := 16) (st := .int (0 : Int32) :: .int x1 :: .ref (ad (k + 5)) :: []) (As := [.ref (ad (k + 5)), .int x1, .int (0 : Int32)]) E hEx hl.1 hP hS (c_put hap M (lt5a5 hk) (sh5a5 hk) (by decide) _ _ _ hM2) gcX7_put (hNe _ nw2) q17 q86 hsX7_put rfl ⟨Nat.le_of_ble_eq_true rfl, Nat.le_of_ble_eq_true rfl⟩ ⟨rfl, rfl⟩ dX5_forgetDigits_16 rfl (Nat.le_of_ble_eq_true rfl) (fun H locs hP hS => ?_)
        refine lv_iinc (pc := 19) (v := (x1 + 1)) (lv' := [(1, .int (x1 + 1)), (0, .ref (ad k))]) hx hb dX5_forgetDigits_19 hl (k := 1) rfl rfl (by decide) rfl (fun ls hl => ?_)
        refine lv_goto (pc := 22) (tgt := 2) hx hb dX5_forgetDigits_22 (by decide) ?_
        exact ih M2 (x1 + 1) _ _ _ h hP hS (lv_sub hl [1, 0] rfl)
  unfold fX5_forgetDigits at h
  refine lv_iconst (pc := 0) (v := (0 : Int32)) hx hb dX5_forgetDigits_0 (by decide) ?_
  refine lv_istore_n (pc := 1) (lv' := [(1, .int (0 : Int32)), (0, .ref (ad k))]) hx hb dX5_forgetDigits_1 rfl hl (by decide) rfl (fun ls hl => ?_)
  exact hL2 5000 M (0 : Int32) _ _ _ h hP hS (lv_sub hl [1, 0] rfl)
set_option maxRecDepth 100000 in
set_option maxHeartbeats 4000000 in
theorem kX5_dropHeldProps (hap : Apart 78 ad) {k : Nat} (hk : RoA k) (M : Mem)  (M' : Mem) (h : fX5_dropHeldProps k M = some M') : XV G ad sK sV cA cZ cC yX5_dropHeldProps cX5_dropHeldProps 2 ({ frames := 2, cells := 0, slots := 0, locals := 42 } : Room) [.ref (ad k)] M M' := by
  refine CV.mk (own := RX5) (ls0 := [(0, .ref (ad k))]) (by decide +kernel) rfl hap (Nat.le_of_ble_eq_true rfl) rfl ?_
  intro p l e s m args below meth c ls E hP hl
  have hx := E.1
  have hb := E.2.1
  have hown := E.2.2.2.2.2.1
  have hts := E.2.2.2.2.2.2.1
  have hNe := E.2.2.2.2.2.2.2.2.1.1
  have hEx := ExX.ok ad sK sV
  have hS : va_S (AW 78 ad) s.heap s.heap [] := va_S.rf
  have hL2 : ∀ (n : Nat) (M : Mem) (x1 : Int32) (H : Heap) (locs : List Loc) (ls : Array Slot), fX5_dropHeldProps_L2 k n M x1 = some M' → va_P G vwCl (WW 78 (shX cA ad) ad M) H → va_S (AW 78 ad) s.heap H locs → lv_has ls 2 [(0, .ref (ad k)), (1, .int x1)] → W p l e ({ frames := 2, cells := 0, slots := 0, locals := 42 } : Room) s m args below meth c H locs 0 0 (QV below G 78 (shX cA ad) ad args s M') (F0 m 2 ls []) := by
    intro n
    induction n with
    | zero => intro M x1 H locs ls h; cases h
    | succ n ih =>
      intro M x1 H locs ls h hP hS hl
      rw [fX5_dropHeldProps_L2] at h
      refine lv_iload_n (pc := 2) hx hb dX5_dropHeldProps_2 rfl (lv_at hl 1 rfl) ?_
      refine lv_aload_n (pc := 3) hx hb dX5_dropHeldProps_3 rfl (lv_at hl 0 rfl) ?_
      refine x_get (pc := 4) (v := .int (M k 6)) E hP (RoA.lt hk) (sh5 hk) rfl inX5 6 (by decide) q100 rfl dX5_dropHeldProps_4 ?_
      refine lv_icmp_ge (pc := 7) (tgt := 33) hx hb dX5_dropHeldProps_7 (by decide) (fun c1 => ?_) (fun c1 => ?_)
      · have h := (if_pos c1).symm.trans h
        obtain rfl := som1 h
        exact x_vret E hP hS dX5_dropHeldProps_33
      · have h := (if_neg c1).symm.trans h
        refine lv_aload_n (pc := 10) hx hb dX5_dropHeldProps_10 rfl (lv_at hl 0 rfl) ?_
        refine lv_iload_n (pc := 11) hx hb dX5_dropHeldProps_11 rfl (lv_at hl 1 rfl) ?_
        refine x_callVi (pc := 12) (st := .int x1 :: .ref (ad k) :: []) (As := [.int x1]) E hEx hl.1 hP hS (kX5_isHeld hap hk M _ _ rfl) gX5_88 hdX5_isHeld rfl (RoA.lt hk) (sh5 hk) rfl ⟨Nat.le_of_ble_eq_true rfl, Nat.le_of_ble_eq_true rfl⟩ ⟨rfl, rfl⟩ dX5_dropHeldProps_12 rfl (Nat.le_of_ble_eq_true rfl) (fun H locs hP hS n2 => ?_)
        refine lv_if_eq (pc := 15) (tgt := 27) hx hb dX5_dropHeldProps_15 (by decide) (fun c3 => ?_) (fun c3 => ?_)
        · have h := (if_pos c3).symm.trans h
          refine lv_iinc (pc := 27) (v := (x1 + 1)) (lv' := [(1, .int (x1 + 1)), (0, .ref (ad k))]) hx hb dX5_dropHeldProps_27 hl (k := 1) rfl rfl (by decide) rfl (fun ls hl => ?_)
          refine lv_goto (pc := 30) (tgt := 2) hx hb dX5_dropHeldProps_30 (by decide) ?_
          exact ih M (x1 + 1) _ _ _ h hP hS (lv_sub hl [1, 0] rfl)
        · have h := (if_neg c3).symm.trans h
          refine lv_aload_n (pc := 18) hx hb dX5_dropHeldProps_18 rfl (lv_at hl 0 rfl) ?_
          refine x_get (pc := 19) (v := .ref (ad (k + 7))) E hP (RoA.lt hk) (sh5 hk) rfl inX5 8 (by decide) q104 rfl dX5_dropHeldProps_19 ?_
          refine lv_iload_n (pc := 22) hx hb dX5_dropHeldProps_22 rfl (lv_at hl 1 rfl) ?_
          refine lv_iconst (pc := 23) (v := (0 : Int32)) hx hb dX5_dropHeldProps_23 (by decide) ?_
          obtain ⟨M4, hM4, h⟩ := thn_ex h
          refine x_callNv (pc := 24) (st := .int (0 : Int32) :: .int x1 :: .ref (ad (k + 7)) :: []) (As := [.ref (ad (k + 7)), .int x1, .int (0 : Int32)]) E hEx hl.1 hP hS (c_put hap M (lt5a7 hk) (sh5a7 hk) (by decide) _ _ _ hM4) gcX7_put (hNe _ nw2) q17 q86 hsX7_put rfl ⟨Nat.le_of_ble_eq_true rfl, Nat.le_of_ble_eq_true rfl⟩ ⟨rfl, rfl⟩ dX5_dropHeldProps_24 rfl (Nat.le_of_ble_eq_true rfl) (fun H locs hP hS => ?_)
          refine lv_iinc (pc := 27) (v := (x1 + 1)) (lv' := [(1, .int (x1 + 1)), (0, .ref (ad k))]) hx hb dX5_dropHeldProps_27 hl (k := 1) rfl rfl (by decide) rfl (fun ls hl => ?_)
          refine lv_goto (pc := 30) (tgt := 2) hx hb dX5_dropHeldProps_30 (by decide) ?_
          exact ih M4 (x1 + 1) _ _ _ h hP hS (lv_sub hl [1, 0] rfl)
  unfold fX5_dropHeldProps at h
  refine lv_iconst (pc := 0) (v := (0 : Int32)) hx hb dX5_dropHeldProps_0 (by decide) ?_
  refine lv_istore_n (pc := 1) (lv' := [(1, .int (0 : Int32)), (0, .ref (ad k))]) hx hb dX5_dropHeldProps_1 rfl hl (by decide) rfl (fun ls hl => ?_)
  exact hL2 5000 M (0 : Int32) _ _ _ h hP hS (lv_sub hl [1, 0] rfl)
set_option maxRecDepth 100000 in
set_option maxHeartbeats 4000000 in
theorem kX5_bringPropsHome (hap : Apart 78 ad) {k : Nat} (hk : RoA k) (M : Mem)  (M' : Mem) (h : fX5_bringPropsHome k M = some M') : XV G ad sK sV cA cZ cC yX5_bringPropsHome cX5_bringPropsHome 2 ({ frames := 1, cells := 0, slots := 0, locals := 22 } : Room) [.ref (ad k)] M M' := by
  refine CV.mk (own := RX5) (ls0 := [(0, .ref (ad k))]) (by decide +kernel) rfl hap (Nat.le_of_ble_eq_true rfl) rfl ?_
  intro p l e s m args below meth c ls E hP hl
  have hx := E.1
  have hb := E.2.1
  have hown := E.2.2.2.2.2.1
  have hts := E.2.2.2.2.2.2.1
  have hNe := E.2.2.2.2.2.2.2.2.1.1
  have hEx := ExX.ok ad sK sV
  have hS : va_S (AW 78 ad) s.heap s.heap [] := va_S.rf
  have hL2 : ∀ (n : Nat) (M : Mem) (x1 : Int32) (H : Heap) (locs : List Loc) (ls : Array Slot), fX5_bringPropsHome_L2 k n M x1 = some M' → va_P G vwCl (WW 78 (shX cA ad) ad M) H → va_S (AW 78 ad) s.heap H locs → lv_has ls 2 [(0, .ref (ad k)), (1, .int x1)] → W p l e ({ frames := 1, cells := 0, slots := 0, locals := 22 } : Room) s m args below meth c H locs 0 0 (QV below G 78 (shX cA ad) ad args s M') (F0 m 2 ls []) := by
    intro n
    induction n with
    | zero => intro M x1 H locs ls h; cases h
    | succ n ih =>
      intro M x1 H locs ls h hP hS hl
      rw [fX5_bringPropsHome_L2] at h
      refine lv_iload_n (pc := 2) hx hb dX5_bringPropsHome_2 rfl (lv_at hl 1 rfl) ?_
      refine lv_aload_n (pc := 3) hx hb dX5_bringPropsHome_3 rfl (lv_at hl 0 rfl) ?_
      refine x_get (pc := 4) (v := .int (M k 6)) E hP (RoA.lt hk) (sh5 hk) rfl inX5 6 (by decide) q100 rfl dX5_bringPropsHome_4 ?_
      refine lv_icmp_ge (pc := 7) (tgt := 32) hx hb dX5_bringPropsHome_7 (by decide) (fun c1 => ?_) (fun c1 => ?_)
      · have h := (if_pos c1).symm.trans h
        obtain rfl := som1 h
        exact x_vret E hP hS dX5_bringPropsHome_32
      · have h := (if_neg c1).symm.trans h
        refine lv_aload_n (pc := 10) hx hb dX5_bringPropsHome_10 rfl (lv_at hl 0 rfl) ?_
        refine x_get (pc := 11) (v := .ref (ad (k + 7))) E hP (RoA.lt hk) (sh5 hk) rfl inX5 8 (by decide) q104 rfl dX5_bringPropsHome_11 ?_
        refine lv_iload_n (pc := 14) hx hb dX5_bringPropsHome_14 rfl (lv_at hl 1 rfl) ?_
        refine lv_aload_n (pc := 15) hx hb dX5_bringPropsHome_15 rfl (lv_at hl 0 rfl) ?_
        refine x_get (pc := 16) (v := .ref (ad (k + 6))) E hP (RoA.lt hk) (sh5 hk) rfl inX5 7 (by decide) q102 rfl dX5_bringPropsHome_16 ?_
        refine lv_iload_n (pc := 19) hx hb dX5_bringPropsHome_19 rfl (lv_at hl 1 rfl) ?_
        refine x_callNi (pc := 20) (st := .int x1 :: .ref (ad (k + 6)) :: .int x1 :: .ref (ad (k + 7)) :: []) (As := [.ref (ad (k + 6)), .int x1]) E hEx hl.1 hP hS (c_at hap M (lt5a6 hk) (sh5a6 hk) (by decide) _ _ rfl) gcX7_at (hNe _ nw7) q17 q320 hsX7_at rfl ⟨Nat.le_of_ble_eq_true rfl, Nat.le_of_ble_eq_true rfl⟩ ⟨rfl, rfl⟩ dX5_bringPropsHome_20 rfl (Nat.le_of_ble_eq_true rfl) (fun H locs hP hS n2 => ?_)
        obtain ⟨M3, hM3, h⟩ := thn_ex h
        refine x_callNv (pc := 23) (st := .int (atX M (k + 6) 24 x1) :: .int x1 :: .ref (ad (k + 7)) :: []) (As := [.ref (ad (k + 7)), .int x1, .int (atX M (k + 6) 24 x1)]) E hEx hl.1 hP hS (c_put hap M (lt5a7 hk) (sh5a7 hk) (by decide) _ _ _ hM3) gcX7_put (hNe _ nw2) q17 q86 hsX7_put rfl ⟨Nat.le_of_ble_eq_true rfl, Nat.le_of_ble_eq_true rfl⟩ ⟨rfl, rfl⟩ dX5_bringPropsHome_23 rfl (Nat.le_of_ble_eq_true rfl) (fun H locs hP hS => ?_)
        refine lv_iinc (pc := 26) (v := (x1 + 1)) (lv' := [(1, .int (x1 + 1)), (0, .ref (ad k))]) hx hb dX5_bringPropsHome_26 hl (k := 1) rfl rfl (by decide) rfl (fun ls hl => ?_)
        refine lv_goto (pc := 29) (tgt := 2) hx hb dX5_bringPropsHome_29 (by decide) ?_
        exact ih M3 (x1 + 1) _ _ _ h hP hS (lv_sub hl [1, 0] rfl)
  unfold fX5_bringPropsHome at h
  refine lv_iconst (pc := 0) (v := (0 : Int32)) hx hb dX5_bringPropsHome_0 (by decide) ?_
  refine lv_istore_n (pc := 1) (lv' := [(1, .int (0 : Int32)), (0, .ref (ad k))]) hx hb dX5_bringPropsHome_1 rfl hl (by decide) rfl (fun ls hl => ?_)
  exact hL2 5000 M (0 : Int32) _ _ _ h hP hS (lv_sub hl [1, 0] rfl)
set_option maxRecDepth 100000 in
set_option maxHeartbeats 4000000 in
theorem kX5_closeBoxes (hap : Apart 78 ad) {k : Nat} (hk : RoA k) (M : Mem)  (M' : Mem) (h : fX5_closeBoxes k M = some M') : XV G ad sK sV cA cZ cC yX5_closeBoxes cX5_closeBoxes 2 ({ frames := 1, cells := 0, slots := 0, locals := 22 } : Room) [.ref (ad k)] M M' := by
  refine CV.mk (own := RX5) (ls0 := [(0, .ref (ad k))]) (by decide +kernel) rfl hap (Nat.le_of_ble_eq_true rfl) rfl ?_
  intro p l e s m args below meth c ls E hP hl
  have hx := E.1
  have hb := E.2.1
  have hown := E.2.2.2.2.2.1
  have hts := E.2.2.2.2.2.2.1
  have hNe := E.2.2.2.2.2.2.2.2.1.1
  have hEx := ExX.ok ad sK sV
  have hS : va_S (AW 78 ad) s.heap s.heap [] := va_S.rf
  have hL2 : ∀ (n : Nat) (M : Mem) (x1 : Int32) (H : Heap) (locs : List Loc) (ls : Array Slot), fX5_closeBoxes_L2 k n M x1 = some M' → va_P G vwCl (WW 78 (shX cA ad) ad M) H → va_S (AW 78 ad) s.heap H locs → lv_has ls 2 [(0, .ref (ad k)), (1, .int x1)] → W p l e ({ frames := 1, cells := 0, slots := 0, locals := 22 } : Room) s m args below meth c H locs 0 0 (QV below G 78 (shX cA ad) ad args s M') (F0 m 2 ls []) := by
    intro n
    induction n with
    | zero => intro M x1 H locs ls h; cases h
    | succ n ih =>
      intro M x1 H locs ls h hP hS hl
      rw [fX5_closeBoxes_L2] at h
      refine lv_iload_n (pc := 2) hx hb dX5_closeBoxes_2 rfl (lv_at hl 1 rfl) ?_
      refine lv_aload_n (pc := 3) hx hb dX5_closeBoxes_3 rfl (lv_at hl 0 rfl) ?_
      refine x_get (pc := 4) (v := .int (M k 0)) E hP (RoA.lt hk) (sh5 hk) rfl inX5 0 (by decide) q88 rfl dX5_closeBoxes_4 ?_
      refine lv_icmp_ge (pc := 7) (tgt := 25) hx hb dX5_closeBoxes_7 (by decide) (fun c1 => ?_) (fun c1 => ?_)
      · have h := (if_pos c1).symm.trans h
        obtain rfl := som1 h
        exact x_vret E hP hS dX5_closeBoxes_25
      · have h := (if_neg c1).symm.trans h
        refine lv_aload_n (pc := 10) hx hb dX5_closeBoxes_10 rfl (lv_at hl 0 rfl) ?_
        refine x_get (pc := 11) (v := .ref (ad (k + 4))) E hP (RoA.lt hk) (sh5 hk) rfl inX5 4 (by decide) q96 rfl dX5_closeBoxes_11 ?_
        refine lv_iload_n (pc := 14) hx hb dX5_closeBoxes_14 rfl (lv_at hl 1 rfl) ?_
        refine lv_iconst (pc := 15) (v := (0 : Int32)) hx hb dX5_closeBoxes_15 (by decide) ?_
        obtain ⟨M2, hM2, h⟩ := thn_ex h
        refine x_callNv (pc := 16) (st := .int (0 : Int32) :: .int x1 :: .ref (ad (k + 4)) :: []) (As := [.ref (ad (k + 4)), .int x1, .int (0 : Int32)]) E hEx hl.1 hP hS (c_put hap M (lt5a4 hk) (sh5a4 hk) (by decide) _ _ _ hM2) gcX7_put (hNe _ nw2) q17 q86 hsX7_put rfl ⟨Nat.le_of_ble_eq_true rfl, Nat.le_of_ble_eq_true rfl⟩ ⟨rfl, rfl⟩ dX5_closeBoxes_16 rfl (Nat.le_of_ble_eq_true rfl) (fun H locs hP hS => ?_)
        refine lv_iinc (pc := 19) (v := (x1 + 1)) (lv' := [(1, .int (x1 + 1)), (0, .ref (ad k))]) hx hb dX5_closeBoxes_19 hl (k := 1) rfl rfl (by decide) rfl (fun ls hl => ?_)
        refine lv_goto (pc := 22) (tgt := 2) hx hb dX5_closeBoxes_22 (by decide) ?_
        exact ih M2 (x1 + 1) _ _ _ h hP hS (lv_sub hl [1, 0] rfl)
  unfold fX5_closeBoxes at h
  refine lv_iconst (pc := 0) (v := (1 : Int32)) hx hb dX5_closeBoxes_0 (by decide) ?_
  refine lv_istore_n (pc := 1) (lv' := [(1, .int (1 : Int32)), (0, .ref (ad k))]) hx hb dX5_closeBoxes_1 rfl hl (by decide) rfl (fun ls hl => ?_)
  exact hL2 5000 M (1 : Int32) _ _ _ h hP hS (lv_sub hl [1, 0] rfl)
set_option maxRecDepth 100000 in
set_option maxHeartbeats 4000000 in
theorem kX5_lowestUnknownPlace (hap : Apart 78 ad) {k : Nat} (hk : RoA k) (M : Mem) (x1 : Int32) (v : Int32) (h : fX5_lowestUnknownPlace k M x1 = some v) : XI G ad sK sV cA cZ cC yX5_lowestUnknownPlace cX5_lowestUnknownPlace 3 .int ({ frames := 1, cells := 0, slots := 0, locals := 21 } : Room) [.ref (ad k), .int x1] M v M := by
  refine CI.mk (own := RX5) (ls0 := [(0, .ref (ad k)), (1, .int x1)]) (by decide +kernel) rfl hap (Nat.le_of_ble_eq_true rfl) rfl ?_
  intro p l e s m args below meth c ls E hP hl
  have hx := E.1
  have hb := E.2.1
  have hown := E.2.2.2.2.2.1
  have hts := E.2.2.2.2.2.2.1
  have hNe := E.2.2.2.2.2.2.2.2.1.1
  have hEx := ExX.ok ad sK sV
  have hS : va_S (AW 78 ad) s.heap s.heap [] := va_S.rf
  have hL2 : ∀ (n : Nat) (M : Mem) (x1 x2 : Int32) (H : Heap) (locs : List Loc) (ls : Array Slot), fX5_lowestUnknownPlace_L2 k n M x1 x2 = some v → va_P G vwCl (WW 78 (shX cA ad) ad M) H → va_S (AW 78 ad) s.heap H locs → lv_has ls 3 [(0, .ref (ad k)), (1, .int x1), (2, .int x2)] → W p l e ({ frames := 1, cells := 0, slots := 0, locals := 21 } : Room) s m args below meth c H locs 0 0 (QI below G 78 (shX cA ad) ad .int args s v M) (F0 m 2 ls []) := by
    intro n
    induction n with
    | zero => intro M x1 x2 H locs ls h; cases h
    | succ n ih =>
      intro M x1 x2 H locs ls h hP hS hl
      rw [fX5_lowestUnknownPlace_L2] at h
      refine lv_iload_n (pc := 2) hx hb dX5_lowestUnknownPlace_2 rfl (lv_at hl 2 rfl) ?_
      refine lv_iconst (pc := 3) (v := (4 : Int32)) hx hb dX5_lowestUnknownPlace_3 (by decide) ?_
      refine lv_icmp_ge (pc := 4) (tgt := 29) hx hb dX5_lowestUnknownPlace_4 (by decide) (fun c1 => ?_) (fun c1 => ?_)
      · have h := (if_pos c1).symm.trans h
        refine lv_iload_n (pc := 29) hx hb dX5_lowestUnknownPlace_29 rfl (lv_at hl 2 rfl) ?_
        obtain rfl := som1 h
        exact x_iret E hP hS rfl dX5_lowestUnknownPlace_30
      · have h := (if_neg c1).symm.trans h
        refine lv_aload_n (pc := 7) hx hb dX5_lowestUnknownPlace_7 rfl (lv_at hl 0 rfl) ?_
        refine x_get (pc := 8) (v := .ref (ad (k + 5))) E hP (RoA.lt hk) (sh5 hk) rfl inX5 5 (by decide) q98 rfl dX5_lowestUnknownPlace_8 ?_
        refine lv_iload_n (pc := 11) hx hb dX5_lowestUnknownPlace_11 rfl (lv_at hl 1 rfl) ?_
        refine x_callNi (pc := 12) (st := .int x1 :: .ref (ad (k + 5)) :: []) (As := [.ref (ad (k + 5)), .int x1]) E hEx hl.1 hP hS (c_at hap M (lt5a5 hk) (sh5a5 hk) (by decide) _ _ rfl) gcX7_at (hNe _ nw7) q17 q320 hsX7_at rfl ⟨Nat.le_of_ble_eq_true rfl, Nat.le_of_ble_eq_true rfl⟩ ⟨rfl, rfl⟩ dX5_lowestUnknownPlace_12 rfl (Nat.le_of_ble_eq_true rfl) (fun H locs hP hS n2 => ?_)
        refine lv_iload_n (pc := 15) hx hb dX5_lowestUnknownPlace_15 rfl (lv_at hl 2 rfl) ?_
        refine lv_ishr (pc := 16) hx hb dX5_lowestUnknownPlace_16 ?_
        refine lv_iconst (pc := 17) (v := (1 : Int32)) hx hb dX5_lowestUnknownPlace_17 (by decide) ?_
        refine lv_iand (pc := 18) hx hb dX5_lowestUnknownPlace_18 ?_
        refine lv_iconst (pc := 19) (v := (1 : Int32)) hx hb dX5_lowestUnknownPlace_19 (by decide) ?_
        refine lv_icmp_ne (pc := 20) (tgt := 29) hx hb dX5_lowestUnknownPlace_20 (by decide) (fun c3 => ?_) (fun c3 => ?_)
        · have h := (if_neg c3).symm.trans h
          refine lv_iload_n (pc := 29) hx hb dX5_lowestUnknownPlace_29 rfl (lv_at hl 2 rfl) ?_
          obtain rfl := som1 h
          exact x_iret E hP hS rfl dX5_lowestUnknownPlace_30
        · have h := (if_pos c3).symm.trans h
          refine lv_iinc (pc := 23) (v := (x2 + 1)) (lv' := [(2, .int (x2 + 1)), (0, .ref (ad k)), (1, .int x1)]) hx hb dX5_lowestUnknownPlace_23 hl (k := 2) rfl rfl (by decide) rfl (fun ls hl => ?_)
          refine lv_goto (pc := 26) (tgt := 2) hx hb dX5_lowestUnknownPlace_26 (by decide) ?_
          exact ih M x1 (x2 + 1) _ _ _ h hP hS (lv_sub hl [1, 2, 0] rfl)
  unfold fX5_lowestUnknownPlace at h
  refine lv_iconst (pc := 0) (v := (0 : Int32)) hx hb dX5_lowestUnknownPlace_0 (by decide) ?_
  refine lv_istore_n (pc := 1) (lv' := [(2, .int (0 : Int32)), (0, .ref (ad k)), (1, .int x1)]) hx hb dX5_lowestUnknownPlace_1 rfl hl (by decide) rfl (fun ls hl => ?_)
  exact hL2 5000 M x1 (0 : Int32) _ _ _ h hP hS (lv_sub hl [1, 2, 0] rfl)
set_option maxRecDepth 100000 in
set_option maxHeartbeats 4000000 in
theorem kX5_stepForCode (hap : Apart 78 ad) {k : Nat} (hk : RoA k) (M : Mem) (x1 : Int32) (v : Int32) (h : fX5_stepForCode k M x1 = some v) : XI G ad sK sV cA cZ cC yX5_stepForCode cX5_stepForCode 6 .int ({ frames := 3, cells := 0, slots := 0, locals := 66 } : Room) [.ref (ad k), .int x1] M v M := by
  refine CI.mk (own := RX5) (ls0 := [(0, .ref (ad k)), (1, .int x1)]) (by decide +kernel) rfl hap (Nat.le_of_ble_eq_true rfl) rfl ?_
  intro p l e s m args below meth c ls E hP hl
  have hx := E.1
  have hb := E.2.1
  have hown := E.2.2.2.2.2.1
  have hts := E.2.2.2.2.2.2.1
  have hNe := E.2.2.2.2.2.2.2.2.1.1
  have hEx := ExX.ok ad sK sV
  have hS : va_S (AW 78 ad) s.heap s.heap [] := va_S.rf
  have hL30 : ∀ (n : Nat) (M : Mem) (x1 x2 x3 x4 x5 : Int32) (H : Heap) (locs : List Loc) (ls : Array Slot), fX5_stepForCode_L30 k n M x1 x2 x3 x4 x5 = some v → va_P G vwCl (WW 78 (shX cA ad) ad M) H → va_S (AW 78 ad) s.heap H locs → lv_has ls 6 [(0, .ref (ad k)), (1, .int x1), (2, .int x2), (3, .int x3), (4, .int x4), (5, .int x5)] → W p l e ({ frames := 3, cells := 0, slots := 0, locals := 66 } : Room) s m args below meth c H locs 0 0 (QI below G 78 (shX cA ad) ad .int args s v M) (F0 m 30 ls []) := by
    intro n
    induction n with
    | zero => intro M x1 x2 x3 x4 x5 H locs ls h; cases h
    | succ n ih =>
      intro M x1 x2 x3 x4 x5 H locs ls h hP hS hl
      rw [fX5_stepForCode_L30] at h
      refine lv_iload (pc := 30) hx hb dX5_stepForCode_30 (lv_at hl 5 rfl) ?_
      refine lv_if_lt (pc := 32) (tgt := 119) hx hb dX5_stepForCode_32 (by decide) (fun c4 => ?_) (fun c4 => ?_)
      · have h := (if_pos c4).symm.trans h
        refine lv_iload_n (pc := 119) hx hb dX5_stepForCode_119 rfl (lv_at hl 3 rfl) ?_
        refine lv_if_lt (pc := 120) (tgt := 129) hx hb dX5_stepForCode_120 (by decide) (fun c5 => ?_) (fun c5 => ?_)
        · have h := (if_pos c5).symm.trans h
          refine lv_iload (pc := 129) hx hb dX5_stepForCode_129 (lv_at hl 4 rfl) ?_
          refine lv_if_lt (pc := 131) (tgt := 157) hx hb dX5_stepForCode_131 (by decide) (fun c6 => ?_) (fun c6 => ?_)
          · have h := (if_pos c6).symm.trans h
            refine lv_sipush (pc := 157) (v := (500 : Int32)) hx hb dX5_stepForCode_157 (by decide) ?_
            refine lv_iload_n (pc := 160) hx hb dX5_stepForCode_160 rfl (lv_at hl 2 rfl) ?_
            refine lv_iadd (pc := 161) hx hb dX5_stepForCode_161 ?_
            refine lv_sipush (pc := 162) (v := (1000 : Int32)) hx hb dX5_stepForCode_162 (by decide) ?_
            refine lv_iload_n (pc := 165) hx hb dX5_stepForCode_165 rfl (lv_at hl 1 rfl) ?_
            refine lv_imul (pc := 166) hx hb dX5_stepForCode_166 ?_
            refine lv_iadd (pc := 167) hx hb dX5_stepForCode_167 ?_
            obtain rfl := som1 h
            exact x_iret E hP hS rfl dX5_stepForCode_168
          · have h := (if_neg c6).symm.trans h
            refine lv_aload_n (pc := 134) hx hb dX5_stepForCode_134 rfl (lv_at hl 0 rfl) ?_
            refine lv_aload_n (pc := 135) hx hb dX5_stepForCode_135 rfl (lv_at hl 0 rfl) ?_
            refine x_get (pc := 136) (v := .ref (ad (k + 7))) E hP (RoA.lt hk) (sh5 hk) rfl inX5 8 (by decide) q104 rfl dX5_stepForCode_136 ?_
            refine lv_aload_n (pc := 139) hx hb dX5_stepForCode_139 rfl (lv_at hl 0 rfl) ?_
            refine x_get (pc := 140) (v := .ref (ad (k + 8))) E hP (RoA.lt hk) (sh5 hk) rfl inX5 10 (by decide) q109 rfl dX5_stepForCode_140 ?_
            refine lv_iload (pc := 143) hx hb dX5_stepForCode_143 (lv_at hl 4 rfl) ?_
            refine x_callNi (pc := 145) (st := .int x4 :: .ref (ad (k + 8)) :: .ref (ad (k + 7)) :: .ref (ad k) :: []) (As := [.ref (ad (k + 8)), .int x4]) E hEx hl.1 hP hS (c_at hap M (lt5a8 hk) (sh5a8 hk) (by decide) _ _ rfl) gcX7_at (hNe _ nw7) q17 q320 hsX7_at rfl ⟨Nat.le_of_ble_eq_true rfl, Nat.le_of_ble_eq_true rfl⟩ ⟨rfl, rfl⟩ dX5_stepForCode_145 rfl (Nat.le_of_ble_eq_true rfl) (fun H locs hP hS n7 => ?_)
            refine x_callNi (pc := 148) (st := .int (atX M (k + 8) 12 x4) :: .ref (ad (k + 7)) :: .ref (ad k) :: []) (As := [.ref (ad (k + 7)), .int (atX M (k + 8) 12 x4)]) E hEx hl.1 hP hS (c_at hap M (lt5a7 hk) (sh5a7 hk) (by decide) _ _ rfl) gcX7_at (hNe _ nw7) q17 q320 hsX7_at rfl ⟨Nat.le_of_ble_eq_true rfl, Nat.le_of_ble_eq_true rfl⟩ ⟨rfl, rfl⟩ dX5_stepForCode_148 rfl (Nat.le_of_ble_eq_true rfl) (fun H locs hP hS n8 => ?_)
            obtain ⟨y9, hy9, h⟩ := bnd_ex h
            refine x_callVi (pc := 151) (st := .int (atX M (k + 7) 24 (atX M (k + 8) 12 x4)) :: .ref (ad k) :: []) (As := [.int (atX M (k + 7) 24 (atX M (k + 8) 12 x4))]) E hEx hl.1 hP hS (kX5_outermostClosed hap hk M _ _ hy9) gX5_73 hdX5_outermostClosed rfl (RoA.lt hk) (sh5 hk) rfl ⟨Nat.le_of_ble_eq_true rfl, Nat.le_of_ble_eq_true rfl⟩ ⟨rfl, rfl⟩ dX5_stepForCode_151 rfl (Nat.le_of_ble_eq_true rfl) (fun H locs hP hS n10 => ?_)
            refine lv_goto (pc := 154) (tgt := 168) hx hb dX5_stepForCode_154 (by decide) ?_
            obtain rfl := som1 h
            exact x_iret E hP hS rfl dX5_stepForCode_168
        · have h := (if_neg c5).symm.trans h
          refine lv_sipush (pc := 123) (v := (400 : Int32)) hx hb dX5_stepForCode_123 (by decide) ?_
          refine lv_iload_n (pc := 126) hx hb dX5_stepForCode_126 rfl (lv_at hl 3 rfl) ?_
          refine lv_iadd (pc := 127) hx hb dX5_stepForCode_127 ?_
          obtain rfl := som1 h
          exact x_iret E hP hS rfl dX5_stepForCode_128
      · have h := (if_neg c4).symm.trans h
        refine lv_aload_n (pc := 35) hx hb dX5_stepForCode_35 rfl (lv_at hl 0 rfl) ?_
        refine x_get (pc := 36) (v := .ref (ad (k + 9))) E hP (RoA.lt hk) (sh5 hk) rfl inX5 11 (by decide) q111 rfl dX5_stepForCode_36 ?_
        refine lv_iload (pc := 39) hx hb dX5_stepForCode_39 (lv_at hl 5 rfl) ?_
        refine x_callNi (pc := 41) (st := .int x5 :: .ref (ad (k + 9)) :: []) (As := [.ref (ad (k + 9)), .int x5]) E hEx hl.1 hP hS (c_at hap M (lt5a9 hk) (sh5a9 hk) (by decide) _ _ rfl) gcX7_at (hNe _ nw7) q17 q320 hsX7_at rfl ⟨Nat.le_of_ble_eq_true rfl, Nat.le_of_ble_eq_true rfl⟩ ⟨rfl, rfl⟩ dX5_stepForCode_41 rfl (Nat.le_of_ble_eq_true rfl) (fun H locs hP hS n11 => ?_)
        refine lv_iload_n (pc := 44) hx hb dX5_stepForCode_44 rfl (lv_at hl 1 rfl) ?_
        refine lv_icmp_ne (pc := 45) (tgt := 113) hx hb dX5_stepForCode_45 (by decide) (fun c12 => ?_) (fun c12 => ?_)
        · have h := (if_neg c12).symm.trans h
          refine lv_iinc (pc := 113) (v := (x5 + (-1))) (lv' := [(5, .int (x5 + (-1))), (0, .ref (ad k)), (1, .int x1), (2, .int x2), (3, .int x3), (4, .int x4)]) hx hb dX5_stepForCode_113 hl (k := 5) rfl rfl (by decide) rfl (fun ls hl => ?_)
          refine lv_goto (pc := 116) (tgt := 30) hx hb dX5_stepForCode_116 (by decide) ?_
          exact ih M x1 x2 x3 x4 (x5 + (-1)) _ _ _ h hP hS (lv_sub hl [1, 2, 3, 4, 5, 0] rfl)
        · have h := (if_pos c12).symm.trans h
          refine lv_aload_n (pc := 48) hx hb dX5_stepForCode_48 rfl (lv_at hl 0 rfl) ?_
          refine x_get (pc := 49) (v := .ref (ad (k + 10))) E hP (RoA.lt hk) (sh5 hk) rfl inX5 12 (by decide) q113 rfl dX5_stepForCode_49 ?_
          refine lv_iload (pc := 52) hx hb dX5_stepForCode_52 (lv_at hl 5 rfl) ?_
          refine x_callNi (pc := 54) (st := .int x5 :: .ref (ad (k + 10)) :: []) (As := [.ref (ad (k + 10)), .int x5]) E hEx hl.1 hP hS (c_at hap M (lt5a10 hk) (sh5a10 hk) (by decide) _ _ rfl) gcX7_at (hNe _ nw7) q17 q320 hsX7_at rfl ⟨Nat.le_of_ble_eq_true rfl, Nat.le_of_ble_eq_true rfl⟩ ⟨rfl, rfl⟩ dX5_stepForCode_54 rfl (Nat.le_of_ble_eq_true rfl) (fun H locs hP hS n13 => ?_)
          refine lv_iload_n (pc := 57) hx hb dX5_stepForCode_57 rfl (lv_at hl 2 rfl) ?_
          refine lv_icmp_ne (pc := 58) (tgt := 113) hx hb dX5_stepForCode_58 (by decide) (fun c14 => ?_) (fun c14 => ?_)
          · have h := (if_neg c14).symm.trans h
            refine lv_iinc (pc := 113) (v := (x5 + (-1))) (lv' := [(5, .int (x5 + (-1))), (0, .ref (ad k)), (1, .int x1), (2, .int x2), (3, .int x3), (4, .int x4)]) hx hb dX5_stepForCode_113 hl (k := 5) rfl rfl (by decide) rfl (fun ls hl => ?_)
            refine lv_goto (pc := 116) (tgt := 30) hx hb dX5_stepForCode_116 (by decide) ?_
            exact ih M x1 x2 x3 x4 (x5 + (-1)) _ _ _ h hP hS (lv_sub hl [1, 2, 3, 4, 5, 0] rfl)
          · have h := (if_pos c14).symm.trans h
            refine lv_aload_n (pc := 61) hx hb dX5_stepForCode_61 rfl (lv_at hl 0 rfl) ?_
            refine x_get (pc := 62) (v := .ref (ad (k + 11))) E hP (RoA.lt hk) (sh5 hk) rfl inX5 13 (by decide) q115 rfl dX5_stepForCode_62 ?_
            refine lv_iload (pc := 65) hx hb dX5_stepForCode_65 (lv_at hl 5 rfl) ?_
            refine x_callNi (pc := 67) (st := .int x5 :: .ref (ad (k + 11)) :: []) (As := [.ref (ad (k + 11)), .int x5]) E hEx hl.1 hP hS (c_at hap M (lt5a11 hk) (sh5a11 hk) (by decide) _ _ rfl) gcX7_at (hNe _ nw7) q17 q320 hsX7_at rfl ⟨Nat.le_of_ble_eq_true rfl, Nat.le_of_ble_eq_true rfl⟩ ⟨rfl, rfl⟩ dX5_stepForCode_67 rfl (Nat.le_of_ble_eq_true rfl) (fun H locs hP hS n15 => ?_)
            refine lv_if_le (pc := 70) (tgt := 113) hx hb dX5_stepForCode_70 (by decide) (fun c16 => ?_) (fun c16 => ?_)
            · have h := (if_pos c16).symm.trans h
              refine lv_iinc (pc := 113) (v := (x5 + (-1))) (lv' := [(5, .int (x5 + (-1))), (0, .ref (ad k)), (1, .int x1), (2, .int x2), (3, .int x3), (4, .int x4)]) hx hb dX5_stepForCode_113 hl (k := 5) rfl rfl (by decide) rfl (fun ls hl => ?_)
              refine lv_goto (pc := 116) (tgt := 30) hx hb dX5_stepForCode_116 (by decide) ?_
              exact ih M x1 x2 x3 x4 (x5 + (-1)) _ _ _ h hP hS (lv_sub hl [1, 2, 3, 4, 5, 0] rfl)
            · have h := (if_neg c16).symm.trans h
              refine lv_iload (pc := 73) hx hb dX5_stepForCode_73 (lv_at hl 5 rfl) ?_
              refine lv_istore (pc := 75) (lv' := [(4, .int x5), (0, .ref (ad k)), (1, .int x1), (2, .int x2), (3, .int x3), (5, .int x5)]) hx hb dX5_stepForCode_75 hl (by decide) rfl (fun ls hl => ?_)
              refine lv_aload_n (pc := 77) hx hb dX5_stepForCode_77 rfl (lv_at hl 1 rfl) ?_
              refine lv_iload (pc := 78) hx hb dX5_stepForCode_78 (lv_at hl 5 rfl) ?_
              obtain ⟨y17, hy17, h⟩ := bnd_ex h
              refine x_callVi (pc := 80) (st := .int x5 :: .ref (ad k) :: []) (As := [.int x5]) E hEx hl.1 hP hS (kX5_clueAtHand hap hk M _ _ hy17) gX5_97 hdX5_clueAtHand rfl (RoA.lt hk) (sh5 hk) rfl ⟨Nat.le_of_ble_eq_true rfl, Nat.le_of_ble_eq_true rfl⟩ ⟨rfl, rfl⟩ dX5_stepForCode_80 rfl (Nat.le_of_ble_eq_true rfl) (fun H locs hP hS n18 => ?_)
              refine lv_if_eq (pc := 83) (tgt := 113) hx hb dX5_stepForCode_83 (by decide) (fun c19 => ?_) (fun c19 => ?_)
              · have h := (if_pos c19).symm.trans h
                refine lv_iinc (pc := 113) (v := (x5 + (-1))) (lv' := [(5, .int (x5 + (-1))), (4, .int x5), (0, .ref (ad k)), (1, .int x1), (2, .int x2), (3, .int x3)]) hx hb dX5_stepForCode_113 hl (k := 5) rfl rfl (by decide) rfl (fun ls hl => ?_)
                refine lv_goto (pc := 116) (tgt := 30) hx hb dX5_stepForCode_116 (by decide) ?_
                exact ih M x1 x2 x3 x5 (x5 + (-1)) _ _ _ h hP hS (lv_sub hl [2, 3, 4, 5, 1, 0] rfl)
              · have h := (if_neg c19).symm.trans h
                refine lv_iload_n (pc := 86) hx hb dX5_stepForCode_86 rfl (lv_at hl 4 rfl) ?_
                refine lv_if_lt (pc := 87) (tgt := 110) hx hb dX5_stepForCode_87 (by decide) (fun c20 => ?_) (fun c20 => ?_)
                · have h := (if_pos c20).symm.trans h
                  refine lv_iload (pc := 110) hx hb dX5_stepForCode_110 (lv_at hl 5 rfl) ?_
                  refine lv_istore_n (pc := 112) (lv' := [(3, .int x5), (4, .int x5), (0, .ref (ad k)), (1, .int x1), (2, .int x2), (5, .int x5)]) hx hb dX5_stepForCode_112 rfl hl (by decide) rfl (fun ls hl => ?_)
                  refine lv_iinc (pc := 113) (v := (x5 + (-1))) (lv' := [(5, .int (x5 + (-1))), (3, .int x5), (4, .int x5), (0, .ref (ad k)), (1, .int x1), (2, .int x2)]) hx hb dX5_stepForCode_113 hl (k := 5) rfl rfl (by decide) rfl (fun ls hl => ?_)
                  refine lv_goto (pc := 116) (tgt := 30) hx hb dX5_stepForCode_116 (by decide) ?_
                  exact ih M x1 x2 x5 x5 (x5 + (-1)) _ _ _ h hP hS (lv_sub hl [3, 4, 5, 1, 2, 0] rfl)
                · have h := (if_neg c20).symm.trans h
                  refine lv_aload_n (pc := 90) hx hb dX5_stepForCode_90 rfl (lv_at hl 1 rfl) ?_
                  refine x_get (pc := 91) (v := .ref (ad (k + 11))) E hP (RoA.lt hk) (sh5 hk) rfl inX5 13 (by decide) q115 rfl dX5_stepForCode_91 ?_
                  refine lv_iload (pc := 94) hx hb dX5_stepForCode_94 (lv_at hl 5 rfl) ?_
                  refine x_callNi (pc := 96) (st := .int x5 :: .ref (ad (k + 11)) :: []) (As := [.ref (ad (k + 11)), .int x5]) E hEx hl.1 hP hS (c_at hap M (lt5a11 hk) (sh5a11 hk) (by decide) _ _ rfl) gcX7_at (hNe _ nw7) q17 q320 hsX7_at rfl ⟨Nat.le_of_ble_eq_true rfl, Nat.le_of_ble_eq_true rfl⟩ ⟨rfl, rfl⟩ dX5_stepForCode_96 rfl (Nat.le_of_ble_eq_true rfl) (fun H locs hP hS n21 => ?_)
                  refine lv_aload_n (pc := 99) hx hb dX5_stepForCode_99 rfl (lv_at hl 1 rfl) ?_
                  refine x_get (pc := 100) (v := .ref (ad (k + 11))) E hP (RoA.lt hk) (sh5 hk) rfl inX5 13 (by decide) q115 rfl dX5_stepForCode_100 ?_
                  refine lv_iload_n (pc := 103) hx hb dX5_stepForCode_103 rfl (lv_at hl 4 rfl) ?_
                  refine x_callNi (pc := 104) (st := .int x3 :: .ref (ad (k + 11)) :: .int (atX M (k + 11) 12 x5) :: []) (As := [.ref (ad (k + 11)), .int x3]) E hEx hl.1 hP hS (c_at hap M (lt5a11 hk) (sh5a11 hk) (by decide) _ _ rfl) gcX7_at (hNe _ nw7) q17 q320 hsX7_at rfl ⟨Nat.le_of_ble_eq_true rfl, Nat.le_of_ble_eq_true rfl⟩ ⟨rfl, rfl⟩ dX5_stepForCode_104 rfl (Nat.le_of_ble_eq_true rfl) (fun H locs hP hS n22 => ?_)
                  refine lv_icmp_lt (pc := 107) (tgt := 113) hx hb dX5_stepForCode_107 (by decide) (fun c23 => ?_) (fun c23 => ?_)
                  · have h := (if_pos c23).symm.trans h
                    refine lv_iinc (pc := 113) (v := (x5 + (-1))) (lv' := [(5, .int (x5 + (-1))), (4, .int x5), (0, .ref (ad k)), (1, .int x1), (2, .int x2), (3, .int x3)]) hx hb dX5_stepForCode_113 hl (k := 5) rfl rfl (by decide) rfl (fun ls hl => ?_)
                    refine lv_goto (pc := 116) (tgt := 30) hx hb dX5_stepForCode_116 (by decide) ?_
                    exact ih M x1 x2 x3 x5 (x5 + (-1)) _ _ _ h hP hS (lv_sub hl [2, 3, 4, 5, 1, 0] rfl)
                  · have h := (if_neg c23).symm.trans h
                    refine lv_iload (pc := 110) hx hb dX5_stepForCode_110 (lv_at hl 5 rfl) ?_
                    refine lv_istore_n (pc := 112) (lv' := [(3, .int x5), (4, .int x5), (0, .ref (ad k)), (1, .int x1), (2, .int x2), (5, .int x5)]) hx hb dX5_stepForCode_112 rfl hl (by decide) rfl (fun ls hl => ?_)
                    refine lv_iinc (pc := 113) (v := (x5 + (-1))) (lv' := [(5, .int (x5 + (-1))), (3, .int x5), (4, .int x5), (0, .ref (ad k)), (1, .int x1), (2, .int x2)]) hx hb dX5_stepForCode_113 hl (k := 5) rfl rfl (by decide) rfl (fun ls hl => ?_)
                    refine lv_goto (pc := 116) (tgt := 30) hx hb dX5_stepForCode_116 (by decide) ?_
                    exact ih M x1 x2 x5 x5 (x5 + (-1)) _ _ _ h hP hS (lv_sub hl [3, 4, 5, 1, 2, 0] rfl)
  unfold fX5_stepForCode at h
  refine lv_aload_n (pc := 0) hx hb dX5_stepForCode_0 rfl (lv_at hl 0 rfl) ?_
  refine lv_iload_n (pc := 1) hx hb dX5_stepForCode_1 rfl (lv_at hl 1 rfl) ?_
  obtain ⟨y1, hy1, h⟩ := bnd_ex h
  refine x_callVi (pc := 2) (st := .int x1 :: .ref (ad k) :: []) (As := [.int x1]) E hEx hl.1 hP hS (kX5_lowestUnknownPlace hap hk M _ _ hy1) gX5_129 hdX5_lowestUnknownPlace rfl (RoA.lt hk) (sh5 hk) rfl ⟨Nat.le_of_ble_eq_true rfl, Nat.le_of_ble_eq_true rfl⟩ ⟨rfl, rfl⟩ dX5_stepForCode_2 rfl (Nat.le_of_ble_eq_true rfl) (fun H locs hP hS n2 => ?_)
  refine lv_istore_n (pc := 5) (lv' := [(2, .int y1), (0, .ref (ad k)), (1, .int x1)]) hx hb dX5_stepForCode_5 rfl hl (by decide) rfl (fun ls hl => ?_)
  refine lv_iload_n (pc := 6) hx hb dX5_stepForCode_6 rfl (lv_at hl 0 rfl) ?_
  refine lv_iconst (pc := 7) (v := (4 : Int32)) hx hb dX5_stepForCode_7 (by decide) ?_
  refine lv_icmp_ne (pc := 8) (tgt := 17) hx hb dX5_stepForCode_8 (by decide) (fun c3 => ?_) (fun c3 => ?_)
  · have h := (if_neg c3).symm.trans h
    refine lv_iconst (pc := 17) (v := (-1 : Int32)) hx hb dX5_stepForCode_17 (by decide) ?_
    refine lv_istore_n (pc := 18) (lv' := [(3, .int (-1 : Int32)), (2, .int y1), (0, .ref (ad k)), (1, .int x1)]) hx hb dX5_stepForCode_18 rfl hl (by decide) rfl (fun ls hl => ?_)
    refine lv_iconst (pc := 19) (v := (-1 : Int32)) hx hb dX5_stepForCode_19 (by decide) ?_
    refine lv_istore (pc := 20) (lv' := [(4, .int (-1 : Int32)), (3, .int (-1 : Int32)), (2, .int y1), (0, .ref (ad k)), (1, .int x1)]) hx hb dX5_stepForCode_20 hl (by decide) rfl (fun ls hl => ?_)
    refine lv_aload_n (pc := 22) hx hb dX5_stepForCode_22 rfl (lv_at hl 3 rfl) ?_
    refine x_get (pc := 23) (v := .int (M k 9)) E hP (RoA.lt hk) (sh5 hk) rfl inX5 9 (by decide) q106 rfl dX5_stepForCode_23 ?_
    refine lv_iconst (pc := 26) (v := (1 : Int32)) hx hb dX5_stepForCode_26 (by decide) ?_
    refine lv_isub (pc := 27) hx hb dX5_stepForCode_27 ?_
    refine lv_istore (pc := 28) (lv' := [(5, .int ((M k 9) - (1 : Int32))), (4, .int (-1 : Int32)), (3, .int (-1 : Int32)), (2, .int y1), (0, .ref (ad k)), (1, .int x1)]) hx hb dX5_stepForCode_28 hl (by decide) rfl (fun ls hl => ?_)
    exact hL30 5000 M x1 y1 (-1 : Int32) (-1 : Int32) ((M k 9) - (1 : Int32)) _ _ _ h hP hS (lv_sub hl [4, 5, 3, 2, 1, 0] rfl)
  · have h := (if_pos c3).symm.trans h
    refine lv_sipush (pc := 11) (v := (300 : Int32)) hx hb dX5_stepForCode_11 (by decide) ?_
    refine lv_iload_n (pc := 14) hx hb dX5_stepForCode_14 rfl (lv_at hl 2 rfl) ?_
    refine lv_iadd (pc := 15) hx hb dX5_stepForCode_15 ?_
    obtain rfl := som1 h
    exact x_iret E hP hS rfl dX5_stepForCode_16
set_option maxRecDepth 100000 in
set_option maxHeartbeats 4000000 in
theorem kX5_lowestHeld (hap : Apart 78 ad) {k : Nat} (hk : RoA k) (M : Mem)  (v : Int32) (h : fX5_lowestHeld k M = some v) : XI G ad sK sV cA cZ cC yX5_lowestHeld cX5_lowestHeld 2 .int ({ frames := 2, cells := 0, slots := 0, locals := 42 } : Room) [.ref (ad k)] M v M := by
  refine CI.mk (own := RX5) (ls0 := [(0, .ref (ad k))]) (by decide +kernel) rfl hap (Nat.le_of_ble_eq_true rfl) rfl ?_
  intro p l e s m args below meth c ls E hP hl
  have hx := E.1
  have hb := E.2.1
  have hown := E.2.2.2.2.2.1
  have hts := E.2.2.2.2.2.2.1
  have hNe := E.2.2.2.2.2.2.2.2.1.1
  have hEx := ExX.ok ad sK sV
  have hS : va_S (AW 78 ad) s.heap s.heap [] := va_S.rf
  have hL2 : ∀ (n : Nat) (M : Mem) (x1 : Int32) (H : Heap) (locs : List Loc) (ls : Array Slot), fX5_lowestHeld_L2 k n M x1 = some v → va_P G vwCl (WW 78 (shX cA ad) ad M) H → va_S (AW 78 ad) s.heap H locs → lv_has ls 2 [(0, .ref (ad k)), (1, .int x1)] → W p l e ({ frames := 2, cells := 0, slots := 0, locals := 42 } : Room) s m args below meth c H locs 0 0 (QI below G 78 (shX cA ad) ad .int args s v M) (F0 m 2 ls []) := by
    intro n
    induction n with
    | zero => intro M x1 H locs ls h; cases h
    | succ n ih =>
      intro M x1 H locs ls h hP hS hl
      rw [fX5_lowestHeld_L2] at h
      refine lv_iload_n (pc := 2) hx hb dX5_lowestHeld_2 rfl (lv_at hl 1 rfl) ?_
      refine lv_aload_n (pc := 3) hx hb dX5_lowestHeld_3 rfl (lv_at hl 0 rfl) ?_
      refine x_get (pc := 4) (v := .int (M k 6)) E hP (RoA.lt hk) (sh5 hk) rfl inX5 6 (by decide) q100 rfl dX5_lowestHeld_4 ?_
      refine lv_icmp_ge (pc := 7) (tgt := 24) hx hb dX5_lowestHeld_7 (by decide) (fun c1 => ?_) (fun c1 => ?_)
      · have h := (if_pos c1).symm.trans h
        refine lv_iload_n (pc := 24) hx hb dX5_lowestHeld_24 rfl (lv_at hl 1 rfl) ?_
        obtain rfl := som1 h
        exact x_iret E hP hS rfl dX5_lowestHeld_25
      · have h := (if_neg c1).symm.trans h
        refine lv_aload_n (pc := 10) hx hb dX5_lowestHeld_10 rfl (lv_at hl 0 rfl) ?_
        refine lv_iload_n (pc := 11) hx hb dX5_lowestHeld_11 rfl (lv_at hl 1 rfl) ?_
        refine x_callVi (pc := 12) (st := .int x1 :: .ref (ad k) :: []) (As := [.int x1]) E hEx hl.1 hP hS (kX5_isHeld hap hk M _ _ rfl) gX5_88 hdX5_isHeld rfl (RoA.lt hk) (sh5 hk) rfl ⟨Nat.le_of_ble_eq_true rfl, Nat.le_of_ble_eq_true rfl⟩ ⟨rfl, rfl⟩ dX5_lowestHeld_12 rfl (Nat.le_of_ble_eq_true rfl) (fun H locs hP hS n2 => ?_)
        refine lv_if_ne (pc := 15) (tgt := 24) hx hb dX5_lowestHeld_15 (by decide) (fun c3 => ?_) (fun c3 => ?_)
        · have h := (if_neg c3).symm.trans h
          refine lv_iload_n (pc := 24) hx hb dX5_lowestHeld_24 rfl (lv_at hl 1 rfl) ?_
          obtain rfl := som1 h
          exact x_iret E hP hS rfl dX5_lowestHeld_25
        · have h := (if_pos c3).symm.trans h
          refine lv_iinc (pc := 18) (v := (x1 + 1)) (lv' := [(1, .int (x1 + 1)), (0, .ref (ad k))]) hx hb dX5_lowestHeld_18 hl (k := 1) rfl rfl (by decide) rfl (fun ls hl => ?_)
          refine lv_goto (pc := 21) (tgt := 2) hx hb dX5_lowestHeld_21 (by decide) ?_
          exact ih M (x1 + 1) _ _ _ h hP hS (lv_sub hl [1, 0] rfl)
  unfold fX5_lowestHeld at h
  refine lv_iconst (pc := 0) (v := (0 : Int32)) hx hb dX5_lowestHeld_0 (by decide) ?_
  refine lv_istore_n (pc := 1) (lv' := [(1, .int (0 : Int32)), (0, .ref (ad k))]) hx hb dX5_lowestHeld_1 rfl hl (by decide) rfl (fun ls hl => ?_)
  exact hL2 5000 M (0 : Int32) _ _ _ h hP hS (lv_sub hl [1, 0] rfl)
set_option maxRecDepth 100000 in
set_option maxHeartbeats 4000000 in
theorem kX5_stepToHold (hap : Apart 78 ad) {k : Nat} (hk : RoA k) (M : Mem) (x1 : Int32) (v : Int32) (h : fX5_stepToHold k M x1 = some v) : XI G ad sK sV cA cZ cC yX5_stepToHold cX5_stepToHold 3 .int ({ frames := 3, cells := 0, slots := 0, locals := 64 } : Room) [.ref (ad k), .int x1] M v M := by
  refine CI.mk (own := RX5) (ls0 := [(0, .ref (ad k)), (1, .int x1)]) (by decide +kernel) rfl hap (Nat.le_of_ble_eq_true rfl) rfl ?_
  intro p l e s m args below meth c ls E hP hl
  have hx := E.1
  have hb := E.2.1
  have hown := E.2.2.2.2.2.1
  have hts := E.2.2.2.2.2.2.1
  have hNe := E.2.2.2.2.2.2.2.2.1.1
  have hEx := ExX.ok ad sK sV
  have hS : va_S (AW 78 ad) s.heap s.heap [] := va_S.rf
  unfold fX5_stepToHold at h
  refine lv_aload_n (pc := 0) hx hb dX5_stepToHold_0 rfl (lv_at hl 0 rfl) ?_
  refine lv_aload_n (pc := 1) hx hb dX5_stepToHold_1 rfl (lv_at hl 0 rfl) ?_
  refine x_get (pc := 2) (v := .ref (ad (k + 7))) E hP (RoA.lt hk) (sh5 hk) rfl inX5 8 (by decide) q104 rfl dX5_stepToHold_2 ?_
  refine lv_iload_n (pc := 5) hx hb dX5_stepToHold_5 rfl (lv_at hl 1 rfl) ?_
  refine x_callNi (pc := 6) (st := .int x1 :: .ref (ad (k + 7)) :: .ref (ad k) :: []) (As := [.ref (ad (k + 7)), .int x1]) E hEx hl.1 hP hS (c_at hap M (lt5a7 hk) (sh5a7 hk) (by decide) _ _ rfl) gcX7_at (hNe _ nw7) q17 q320 hsX7_at rfl ⟨Nat.le_of_ble_eq_true rfl, Nat.le_of_ble_eq_true rfl⟩ ⟨rfl, rfl⟩ dX5_stepToHold_6 rfl (Nat.le_of_ble_eq_true rfl) (fun H locs hP hS n1 => ?_)
  obtain ⟨y2, hy2, h⟩ := bnd_ex h
  refine x_callVi (pc := 9) (st := .int (atX M (k + 7) 24 x1) :: .ref (ad k) :: []) (As := [.int (atX M (k + 7) 24 x1)]) E hEx hl.1 hP hS (kX5_outermostClosed hap hk M _ _ hy2) gX5_73 hdX5_outermostClosed rfl (RoA.lt hk) (sh5 hk) rfl ⟨Nat.le_of_ble_eq_true rfl, Nat.le_of_ble_eq_true rfl⟩ ⟨rfl, rfl⟩ dX5_stepToHold_9 rfl (Nat.le_of_ble_eq_true rfl) (fun H locs hP hS n3 => ?_)
  refine lv_istore_n (pc := 12) (lv' := [(2, .int y2), (0, .ref (ad k)), (1, .int x1)]) hx hb dX5_stepToHold_12 rfl hl (by decide) rfl (fun ls hl => ?_)
  refine lv_iload_n (pc := 13) hx hb dX5_stepToHold_13 rfl (lv_at hl 0 rfl) ?_
  refine lv_if_le (pc := 14) (tgt := 19) hx hb dX5_stepToHold_14 (by decide) (fun c4 => ?_) (fun c4 => ?_)
  · have h := (if_pos c4).symm.trans h
    refine lv_aload_n (pc := 19) hx hb dX5_stepToHold_19 rfl (lv_at hl 1 rfl) ?_
    obtain ⟨y5, hy5, h⟩ := bnd_ex h
    refine x_callVi (pc := 20) (st := .ref (ad k) :: []) (As := []) E hEx hl.1 hP hS (kX5_heldProps hap hk M  _ hy5) gX5_122 hdX5_heldProps rfl (RoA.lt hk) (sh5 hk) rfl ⟨Nat.le_of_ble_eq_true rfl, Nat.le_of_ble_eq_true rfl⟩ ⟨rfl, rfl⟩ dX5_stepToHold_20 rfl (Nat.le_of_ble_eq_true rfl) (fun H locs hP hS n6 => ?_)
    refine lv_aload_n (pc := 23) hx hb dX5_stepToHold_23 rfl (lv_at hl 1 rfl) ?_
    refine x_get (pc := 24) (v := .int (M k 15)) E hP (RoA.lt hk) (sh5 hk) rfl inX5 15 (by decide) q120 rfl dX5_stepToHold_24 ?_
    refine lv_icmp_ge (pc := 27) (tgt := 37) hx hb dX5_stepToHold_27 (by decide) (fun c7 => ?_) (fun c7 => ?_)
    · have h := (if_pos c7).symm.trans h
      refine lv_sipush (pc := 37) (v := (200 : Int32)) hx hb dX5_stepToHold_37 (by decide) ?_
      refine lv_aload_n (pc := 40) hx hb dX5_stepToHold_40 rfl (lv_at hl 1 rfl) ?_
      obtain ⟨y8, hy8, h⟩ := bnd_ex h
      refine x_callVi (pc := 41) (st := .ref (ad k) :: .int (200 : Int32) :: []) (As := []) E hEx hl.1 hP hS (kX5_lowestHeld hap hk M  _ hy8) gX5_126 hdX5_lowestHeld rfl (RoA.lt hk) (sh5 hk) rfl ⟨Nat.le_of_ble_eq_true rfl, Nat.le_of_ble_eq_true rfl⟩ ⟨rfl, rfl⟩ dX5_stepToHold_41 rfl (Nat.le_of_ble_eq_true rfl) (fun H locs hP hS n9 => ?_)
      refine lv_iadd (pc := 44) hx hb dX5_stepToHold_44 ?_
      obtain rfl := som1 h
      exact x_iret E hP hS rfl dX5_stepToHold_45
    · have h := (if_neg c7).symm.trans h
      refine lv_bipush (pc := 30) (v := (100 : Int32)) hx hb dX5_stepToHold_30 (by decide) ?_
      refine lv_iload_n (pc := 32) hx hb dX5_stepToHold_32 rfl (lv_at hl 2 rfl) ?_
      refine lv_iadd (pc := 33) hx hb dX5_stepToHold_33 ?_
      refine lv_goto (pc := 34) (tgt := 45) hx hb dX5_stepToHold_34 (by decide) ?_
      obtain rfl := som1 h
      exact x_iret E hP hS rfl dX5_stepToHold_45
  · have h := (if_neg c4).symm.trans h
    refine lv_iload_n (pc := 17) hx hb dX5_stepToHold_17 rfl (lv_at hl 0 rfl) ?_
    obtain rfl := som1 h
    exact x_iret E hP hS rfl dX5_stepToHold_18
set_option maxRecDepth 100000 in
set_option maxHeartbeats 4000000 in
theorem kX5_stepForThing (hap : Apart 78 ad) {k : Nat} (hk : RoA k) (M : Mem) (x1 : Int32) (v : Int32) (h : fX5_stepForThing k M x1 = some v) : XI G ad sK sV cA cZ cC yX5_stepForThing cX5_stepForThing 4 .int ({ frames := 4, cells := 0, slots := 0, locals := 86 } : Room) [.ref (ad k), .int x1] M v M := by
  refine CI.mk (own := RX5) (ls0 := [(0, .ref (ad k)), (1, .int x1)]) (by decide +kernel) rfl hap (Nat.le_of_ble_eq_true rfl) rfl ?_
  intro p l e s m args below meth c ls E hP hl
  have hx := E.1
  have hb := E.2.1
  have hown := E.2.2.2.2.2.1
  have hts := E.2.2.2.2.2.2.1
  have hNe := E.2.2.2.2.2.2.2.2.1.1
  have hEx := ExX.ok ad sK sV
  have hS : va_S (AW 78 ad) s.heap s.heap [] := va_S.rf
  have hB68 : ∀ (M : Mem) (x1 x2 x3 : Int32) (H : Heap) (locs : List Loc) (ls : Array Slot), fX5_stepForThing_B68 k M x1 x2 x3 = some v → va_P G vwCl (WW 78 (shX cA ad) ad M) H → va_S (AW 78 ad) s.heap H locs → lv_has ls 4 [(0, .ref (ad k)), (1, .int x1), (2, .int x2), (3, .int x3)] → W p l e ({ frames := 4, cells := 0, slots := 0, locals := 86 } : Room) s m args below meth c H locs 0 0 (QI below G 78 (shX cA ad) ad .int args s v M) (F0 m 68 ls []) := by
    intro M x1 x2 x3 H locs ls h hP hS hl
    unfold fX5_stepForThing_B68 at h
    refine lv_iload_n (pc := 68) hx hb dX5_stepForThing_68 rfl (lv_at hl 3 rfl) ?_
    refine lv_iconst (pc := 69) (v := (-1 : Int32)) hx hb dX5_stepForThing_69 (by decide) ?_
    refine lv_icmp_ne (pc := 70) (tgt := 92) hx hb dX5_stepForThing_70 (by decide) (fun c10 => ?_) (fun c10 => ?_)
    · have h := (if_neg c10).symm.trans h
      refine lv_aload_n (pc := 92) hx hb dX5_stepForThing_92 rfl (lv_at hl 0 rfl) ?_
      refine lv_iload_n (pc := 93) hx hb dX5_stepForThing_93 rfl (lv_at hl 2 rfl) ?_
      obtain ⟨y11, hy11, h⟩ := bnd_ex h
      refine x_callVi (pc := 94) (st := .int x2 :: .ref (ad k) :: []) (As := [.int x2]) E hEx hl.1 hP hS (kX5_stepToHold hap hk M _ _ hy11) gX5_119 hdX5_stepToHold rfl (RoA.lt hk) (sh5 hk) rfl ⟨Nat.le_of_ble_eq_true rfl, Nat.le_of_ble_eq_true rfl⟩ ⟨rfl, rfl⟩ dX5_stepForThing_94 rfl (Nat.le_of_ble_eq_true rfl) (fun H locs hP hS n12 => ?_)
      obtain rfl := som1 h
      exact x_iret E hP hS rfl dX5_stepForThing_97
    · have h := (if_pos c10).symm.trans h
      refine lv_sipush (pc := 73) (v := (200 : Int32)) hx hb dX5_stepForThing_73 (by decide) ?_
      refine lv_iload_n (pc := 76) hx hb dX5_stepForThing_76 rfl (lv_at hl 2 rfl) ?_
      refine lv_iadd (pc := 77) hx hb dX5_stepForThing_77 ?_
      refine lv_sipush (pc := 78) (v := (1000 : Int32)) hx hb dX5_stepForThing_78 (by decide) ?_
      refine lv_aload_n (pc := 81) hx hb dX5_stepForThing_81 rfl (lv_at hl 0 rfl) ?_
      refine x_get (pc := 82) (v := .ref (ad (k + 1))) E hP (RoA.lt hk) (sh5 hk) rfl inX5 1 (by decide) q90 rfl dX5_stepForThing_82 ?_
      refine lv_iload_n (pc := 85) hx hb dX5_stepForThing_85 rfl (lv_at hl 1 rfl) ?_
      refine x_callNi (pc := 86) (st := .int x1 :: .ref (ad (k + 1)) :: .int (1000 : Int32) :: .int ((200 : Int32) + x2) :: []) (As := [.ref (ad (k + 1)), .int x1]) E hEx hl.1 hP hS (c_at hap M (lt5a1 hk) (sh5a1 hk) (by decide) _ _ rfl) gcX7_at (hNe _ nw7) q17 q320 hsX7_at rfl ⟨Nat.le_of_ble_eq_true rfl, Nat.le_of_ble_eq_true rfl⟩ ⟨rfl, rfl⟩ dX5_stepForThing_86 rfl (Nat.le_of_ble_eq_true rfl) (fun H locs hP hS n13 => ?_)
      refine lv_imul (pc := 89) hx hb dX5_stepForThing_89 ?_
      refine lv_iadd (pc := 90) hx hb dX5_stepForThing_90 ?_
      obtain rfl := som1 h
      exact x_iret E hP hS rfl dX5_stepForThing_91
  have hB41 : ∀ (M : Mem) (x1 x2 x3 : Int32) (H : Heap) (locs : List Loc) (ls : Array Slot), fX5_stepForThing_B41 k M x1 x2 x3 = some v → va_P G vwCl (WW 78 (shX cA ad) ad M) H → va_S (AW 78 ad) s.heap H locs → lv_has ls 4 [(0, .ref (ad k)), (1, .int x1), (2, .int x2), (3, .int x3)] → W p l e ({ frames := 4, cells := 0, slots := 0, locals := 86 } : Room) s m args below meth c H locs 0 0 (QI below G 78 (shX cA ad) ad .int args s v M) (F0 m 41 ls []) := by
    intro M x1 x2 x3 H locs ls h hP hS hl
    unfold fX5_stepForThing_B41 at h
    refine lv_aload_n (pc := 41) hx hb dX5_stepForThing_41 rfl (lv_at hl 0 rfl) ?_
    refine lv_iload_n (pc := 42) hx hb dX5_stepForThing_42 rfl (lv_at hl 1 rfl) ?_
    refine lv_iconst (pc := 43) (v := (3 : Int32)) hx hb dX5_stepForThing_43 (by decide) ?_
    refine x_callVi (pc := 44) (st := .int (3 : Int32) :: .int x1 :: .ref (ad k) :: []) (As := [.int x1, .int (3 : Int32)]) E hEx hl.1 hP hS (kX5_hasLock hap hk M _ _ _ rfl) gX5_84 hdX5_hasLock rfl (RoA.lt hk) (sh5 hk) rfl ⟨Nat.le_of_ble_eq_true rfl, Nat.le_of_ble_eq_true rfl⟩ ⟨rfl, rfl⟩ dX5_stepForThing_44 rfl (Nat.le_of_ble_eq_true rfl) (fun H locs hP hS n8 => ?_)
    refine lv_if_eq (pc := 47) (tgt := 68) hx hb dX5_stepForThing_47 (by decide) (fun c9 => ?_) (fun c9 => ?_)
    · have h := (if_pos c9).symm.trans h
      exact hB68 M x1 x2 x3 _ _ _ h hP hS (lv_sub hl [0, 1, 2, 3] rfl)
    · have h := (if_neg c9).symm.trans h
      refine lv_iload_n (pc := 50) hx hb dX5_stepForThing_50 rfl (lv_at hl 3 rfl) ?_
      refine lv_aload_n (pc := 51) hx hb dX5_stepForThing_51 rfl (lv_at hl 0 rfl) ?_
      refine x_get (pc := 52) (v := .ref (ad (k + 1))) E hP (RoA.lt hk) (sh5 hk) rfl inX5 1 (by decide) q90 rfl dX5_stepForThing_52 ?_
      refine lv_iload_n (pc := 55) hx hb dX5_stepForThing_55 rfl (lv_at hl 1 rfl) ?_
      refine x_callNi (pc := 56) (st := .int x1 :: .ref (ad (k + 1)) :: .int x3 :: []) (As := [.ref (ad (k + 1)), .int x1]) E hEx hl.1 hP hS (c_at hap M (lt5a1 hk) (sh5a1 hk) (by decide) _ _ rfl) gcX7_at (hNe _ nw7) q17 q320 hsX7_at rfl ⟨Nat.le_of_ble_eq_true rfl, Nat.le_of_ble_eq_true rfl⟩ ⟨rfl, rfl⟩ dX5_stepForThing_56 rfl (Nat.le_of_ble_eq_true rfl) (fun H locs hP hS n14 => ?_)
      refine lv_icmp_ne (pc := 59) (tgt := 68) hx hb dX5_stepForThing_59 (by decide) (fun c15 => ?_) (fun c15 => ?_)
      · have h := (if_neg c15).symm.trans h
        exact hB68 M x1 x2 x3 _ _ _ h hP hS (lv_sub hl [0, 1, 2, 3] rfl)
      · have h := (if_pos c15).symm.trans h
        refine lv_sipush (pc := 62) (v := (300 : Int32)) hx hb dX5_stepForThing_62 (by decide) ?_
        refine lv_iload_n (pc := 65) hx hb dX5_stepForThing_65 rfl (lv_at hl 1 rfl) ?_
        refine lv_iadd (pc := 66) hx hb dX5_stepForThing_66 ?_
        obtain rfl := som1 h
        exact x_iret E hP hS rfl dX5_stepForThing_67
  unfold fX5_stepForThing at h
  refine lv_aload_n (pc := 0) hx hb dX5_stepForThing_0 rfl (lv_at hl 0 rfl) ?_
  refine x_get (pc := 1) (v := .ref (ad (k + 3))) E hP (RoA.lt hk) (sh5 hk) rfl inX5 3 (by decide) q94 rfl dX5_stepForThing_1 ?_
  refine lv_iload_n (pc := 4) hx hb dX5_stepForThing_4 rfl (lv_at hl 1 rfl) ?_
  refine x_callNi (pc := 5) (st := .int x1 :: .ref (ad (k + 3)) :: []) (As := [.ref (ad (k + 3)), .int x1]) E hEx hl.1 hP hS (c_at hap M (lt5a3 hk) (sh5a3 hk) (by decide) _ _ rfl) gcX7_at (hNe _ nw7) q17 q320 hsX7_at rfl ⟨Nat.le_of_ble_eq_true rfl, Nat.le_of_ble_eq_true rfl⟩ ⟨rfl, rfl⟩ dX5_stepForThing_5 rfl (Nat.le_of_ble_eq_true rfl) (fun H locs hP hS n1 => ?_)
  refine lv_istore_n (pc := 8) (lv' := [(2, .int (atX M (k + 3) 12 x1)), (0, .ref (ad k)), (1, .int x1)]) hx hb dX5_stepForThing_8 rfl hl (by decide) rfl (fun ls hl => ?_)
  refine lv_aload_n (pc := 9) hx hb dX5_stepForThing_9 rfl (lv_at hl 1 rfl) ?_
  refine x_get (pc := 10) (v := .ref (ad (k + 7))) E hP (RoA.lt hk) (sh5 hk) rfl inX5 8 (by decide) q104 rfl dX5_stepForThing_10 ?_
  refine lv_iload_n (pc := 13) hx hb dX5_stepForThing_13 rfl (lv_at hl 0 rfl) ?_
  refine x_callNi (pc := 14) (st := .int (atX M (k + 3) 12 x1) :: .ref (ad (k + 7)) :: []) (As := [.ref (ad (k + 7)), .int (atX M (k + 3) 12 x1)]) E hEx hl.1 hP hS (c_at hap M (lt5a7 hk) (sh5a7 hk) (by decide) _ _ rfl) gcX7_at (hNe _ nw7) q17 q320 hsX7_at rfl ⟨Nat.le_of_ble_eq_true rfl, Nat.le_of_ble_eq_true rfl⟩ ⟨rfl, rfl⟩ dX5_stepForThing_14 rfl (Nat.le_of_ble_eq_true rfl) (fun H locs hP hS n2 => ?_)
  obtain ⟨y3, hy3, h⟩ := thn_ex h
  refine W.eq (g2 := F0 m 17 ls (.int y3 :: [])) (by rw [← hy3]) ?_
  refine lv_istore_n (pc := 17) (lv' := [(3, .int y3), (2, .int (atX M (k + 3) 12 x1)), (0, .ref (ad k)), (1, .int x1)]) hx hb dX5_stepForThing_17 rfl hl (by decide) rfl (fun ls hl => ?_)
  refine lv_aload_n (pc := 18) hx hb dX5_stepForThing_18 rfl (lv_at hl 2 rfl) ?_
  refine lv_iload_n (pc := 19) hx hb dX5_stepForThing_19 rfl (lv_at hl 3 rfl) ?_
  refine lv_iconst (pc := 20) (v := (0 : Int32)) hx hb dX5_stepForThing_20 (by decide) ?_
  refine x_callVi (pc := 21) (st := .int (0 : Int32) :: .int x1 :: .ref (ad k) :: []) (As := [.int x1, .int (0 : Int32)]) E hEx hl.1 hP hS (kX5_hasLock hap hk M _ _ _ rfl) gX5_84 hdX5_hasLock rfl (RoA.lt hk) (sh5 hk) rfl ⟨Nat.le_of_ble_eq_true rfl, Nat.le_of_ble_eq_true rfl⟩ ⟨rfl, rfl⟩ dX5_stepForThing_21 rfl (Nat.le_of_ble_eq_true rfl) (fun H locs hP hS n4 => ?_)
  refine lv_if_ne (pc := 24) (tgt := 62) hx hb dX5_stepForThing_24 (by decide) (fun c5 => ?_) (fun c5 => ?_)
  · have h := (if_neg c5).symm.trans h
    refine lv_sipush (pc := 62) (v := (300 : Int32)) hx hb dX5_stepForThing_62 (by decide) ?_
    refine lv_iload_n (pc := 65) hx hb dX5_stepForThing_65 rfl (lv_at hl 3 rfl) ?_
    refine lv_iadd (pc := 66) hx hb dX5_stepForThing_66 ?_
    obtain rfl := som1 h
    exact x_iret E hP hS rfl dX5_stepForThing_67
  · have h := (if_pos c5).symm.trans h
    refine lv_aload_n (pc := 27) hx hb dX5_stepForThing_27 rfl (lv_at hl 2 rfl) ?_
    refine lv_iload_n (pc := 28) hx hb dX5_stepForThing_28 rfl (lv_at hl 3 rfl) ?_
    refine lv_iconst (pc := 29) (v := (1 : Int32)) hx hb dX5_stepForThing_29 (by decide) ?_
    refine x_callVi (pc := 30) (st := .int (1 : Int32) :: .int x1 :: .ref (ad k) :: []) (As := [.int x1, .int (1 : Int32)]) E hEx hl.1 hP hS (kX5_hasLock hap hk M _ _ _ rfl) gX5_84 hdX5_hasLock rfl (RoA.lt hk) (sh5 hk) rfl ⟨Nat.le_of_ble_eq_true rfl, Nat.le_of_ble_eq_true rfl⟩ ⟨rfl, rfl⟩ dX5_stepForThing_30 rfl (Nat.le_of_ble_eq_true rfl) (fun H locs hP hS n6 => ?_)
    refine lv_if_eq (pc := 33) (tgt := 41) hx hb dX5_stepForThing_33 (by decide) (fun c7 => ?_) (fun c7 => ?_)
    · have h := (if_pos c7).symm.trans h
      exact hB41 M x1 (atX M (k + 3) 12 x1) y3 _ _ _ h hP hS (lv_sub hl [2, 3, 1, 0] rfl)
    · have h := (if_neg c7).symm.trans h
      refine lv_iload_n (pc := 36) hx hb dX5_stepForThing_36 rfl (lv_at hl 0 rfl) ?_
      refine lv_iconst (pc := 37) (v := (-1 : Int32)) hx hb dX5_stepForThing_37 (by decide) ?_
      refine lv_icmp_eq (pc := 38) (tgt := 62) hx hb dX5_stepForThing_38 (by decide) (fun c16 => ?_) (fun c16 => ?_)
      · have h := (if_pos c16).symm.trans h
        refine lv_sipush (pc := 62) (v := (300 : Int32)) hx hb dX5_stepForThing_62 (by decide) ?_
        refine lv_iload_n (pc := 65) hx hb dX5_stepForThing_65 rfl (lv_at hl 3 rfl) ?_
        refine lv_iadd (pc := 66) hx hb dX5_stepForThing_66 ?_
        obtain rfl := som1 h
        exact x_iret E hP hS rfl dX5_stepForThing_67
      · have h := (if_neg c16).symm.trans h
        exact hB41 M x1 (atX M (k + 3) 12 x1) y3 _ _ _ h hP hS (lv_sub hl [2, 3, 1, 0] rfl)
set_option maxRecDepth 100000 in
set_option maxHeartbeats 4000000 in
theorem kX5_stepFor (hap : Apart 78 ad) {k : Nat} (hk : RoA k) (M : Mem) (x1 : Int32) (v : Int32) (h : fX5_stepFor k M x1 = some v) : XI G ad sK sV cA cZ cC yX5_stepFor cX5_stepFor 6 .int ({ frames := 5, cells := 0, slots := 0, locals := 109 } : Room) [.ref (ad k), .int x1] M v M := by
  refine CI.mk (own := RX5) (ls0 := [(0, .ref (ad k)), (1, .int x1)]) (by decide +kernel) rfl hap (Nat.le_of_ble_eq_true rfl) rfl ?_
  intro p l e s m args below meth c ls E hP hl
  have hx := E.1
  have hb := E.2.1
  have hown := E.2.2.2.2.2.1
  have hts := E.2.2.2.2.2.2.1
  have hNe := E.2.2.2.2.2.2.2.2.1.1
  have hEx := ExX.ok ad sK sV
  have hS : va_S (AW 78 ad) s.heap s.heap [] := va_S.rf
  have hL7 : ∀ (n : Nat) (M : Mem) (x2 x3 x4 : Int32) (H : Heap) (locs : List Loc) (ls : Array Slot), fX5_stepFor_L7 k n M x2 x3 x4 = some v → va_P G vwCl (WW 78 (shX cA ad) ad M) H → va_S (AW 78 ad) s.heap H locs → lv_has ls 6 [(0, .ref (ad k)), (2, .int x2), (3, .int x3), (4, .int x4)] → W p l e ({ frames := 5, cells := 0, slots := 0, locals := 109 } : Room) s m args below meth c H locs 0 0 (QI below G 78 (shX cA ad) ad .int args s v M) (F0 m 7 ls []) := by
    intro n
    induction n with
    | zero => intro M x2 x3 x4 H locs ls h; cases h
    | succ n ih =>
      intro M x2 x3 x4 H locs ls h hP hS hl
      rw [fX5_stepFor_L7] at h
      refine lv_iload (pc := 7) hx hb dX5_stepFor_7 (lv_at hl 3 rfl) ?_
      refine lv_bipush (pc := 9) (v := (12 : Int32)) hx hb dX5_stepFor_9 (by decide) ?_
      refine lv_icmp_ge (pc := 11) (tgt := 98) hx hb dX5_stepFor_11 (by decide) (fun c1 => ?_) (fun c1 => ?_)
      · have h := (if_pos c1).symm.trans h
        refine lv_bipush (pc := 98) (v := (-5 : Int32)) hx hb dX5_stepFor_98 (by decide) ?_
        obtain rfl := som1 h
        exact x_iret E hP hS rfl dX5_stepFor_100
      · have h := (if_neg c1).symm.trans h
        refine lv_iload_n (pc := 14) hx hb dX5_stepFor_14 rfl (lv_at hl 2 rfl) ?_
        refine lv_if_le (pc := 15) (tgt := 27) hx hb dX5_stepFor_15 (by decide) (fun c2 => ?_) (fun c2 => ?_)
        · have h := (if_pos c2).symm.trans h
          refine lv_bipush (pc := 27) (v := (-5 : Int32)) hx hb dX5_stepFor_27 (by decide) ?_
          obtain rfl := som1 h
          exact x_iret E hP hS rfl dX5_stepFor_29
        · have h := (if_neg c2).symm.trans h
          refine lv_iload_n (pc := 18) hx hb dX5_stepFor_18 rfl (lv_at hl 1 rfl) ?_
          refine lv_iload_n (pc := 19) hx hb dX5_stepFor_19 rfl (lv_at hl 2 rfl) ?_
          refine lv_ishr (pc := 20) hx hb dX5_stepFor_20 ?_
          refine lv_iconst (pc := 21) (v := (1 : Int32)) hx hb dX5_stepFor_21 (by decide) ?_
          refine lv_iand (pc := 22) hx hb dX5_stepFor_22 ?_
          refine lv_iconst (pc := 23) (v := (1 : Int32)) hx hb dX5_stepFor_23 (by decide) ?_
          refine lv_icmp_ne (pc := 24) (tgt := 30) hx hb dX5_stepFor_24 (by decide) (fun c3 => ?_) (fun c3 => ?_)
          · have h := (if_neg c3).symm.trans h
            refine lv_iload_n (pc := 30) hx hb dX5_stepFor_30 rfl (lv_at hl 1 rfl) ?_
            refine lv_iconst (pc := 31) (v := (1 : Int32)) hx hb dX5_stepFor_31 (by decide) ?_
            refine lv_iload_n (pc := 32) hx hb dX5_stepFor_32 rfl (lv_at hl 2 rfl) ?_
            refine lv_ishl (pc := 33) hx hb dX5_stepFor_33 ?_
            refine lv_ior (pc := 34) hx hb dX5_stepFor_34 ?_
            obtain ⟨y4, hy4, h⟩ := thn_ex h
            refine W.eq (g2 := F0 m 35 ls (.int y4 :: [])) (by rw [← hy4]) ?_
            refine lv_istore_n (pc := 35) (lv' := [(2, .int y4), (0, .ref (ad k)), (3, .int x3), (4, .int x4)]) hx hb dX5_stepFor_35 rfl hl (by decide) rfl (fun ls hl => ?_)
            refine lv_aload_n (pc := 36) hx hb dX5_stepFor_36 rfl (lv_at hl 1 rfl) ?_
            refine lv_aload_n (pc := 37) hx hb dX5_stepFor_37 rfl (lv_at hl 1 rfl) ?_
            refine x_get (pc := 38) (v := .ref (ad (k + 1))) E hP (RoA.lt hk) (sh5 hk) rfl inX5 1 (by decide) q90 rfl dX5_stepFor_38 ?_
            refine lv_iload_n (pc := 41) hx hb dX5_stepFor_41 rfl (lv_at hl 2 rfl) ?_
            refine x_callNi (pc := 42) (st := .int x3 :: .ref (ad (k + 1)) :: .ref (ad k) :: []) (As := [.ref (ad (k + 1)), .int x3]) E hEx hl.1 hP hS (c_at hap M (lt5a1 hk) (sh5a1 hk) (by decide) _ _ rfl) gcX7_at (hNe _ nw7) q17 q320 hsX7_at rfl ⟨Nat.le_of_ble_eq_true rfl, Nat.le_of_ble_eq_true rfl⟩ ⟨rfl, rfl⟩ dX5_stepFor_42 rfl (Nat.le_of_ble_eq_true rfl) (fun H locs hP hS n5 => ?_)
            obtain ⟨y6, hy6, h⟩ := bnd_ex h
            refine x_callVi (pc := 45) (st := .int (atX M (k + 1) 12 x3) :: .ref (ad k) :: []) (As := [.int (atX M (k + 1) 12 x3)]) E hEx hl.1 hP hS (kX5_outermostClosed hap hk M _ _ hy6) gX5_73 hdX5_outermostClosed rfl (RoA.lt hk) (sh5 hk) rfl ⟨Nat.le_of_ble_eq_true rfl, Nat.le_of_ble_eq_true rfl⟩ ⟨rfl, rfl⟩ dX5_stepFor_45 rfl (Nat.le_of_ble_eq_true rfl) (fun H locs hP hS n7 => ?_)
            refine lv_istore (pc := 48) (lv' := [(5, .int y6), (2, .int y4), (0, .ref (ad k)), (3, .int x3), (4, .int x4)]) hx hb dX5_stepFor_48 hl (by decide) rfl (fun ls hl => ?_)
            refine lv_iload (pc := 50) hx hb dX5_stepFor_50 (lv_at hl 0 rfl) ?_
            refine lv_if_ne (pc := 52) (tgt := 79) hx hb dX5_stepFor_52 (by decide) (fun c8 => ?_) (fun c8 => ?_)
            · have h := (if_neg c8).symm.trans h
              refine lv_iload (pc := 79) hx hb dX5_stepFor_79 (lv_at hl 0 rfl) ?_
              refine lv_bipush (pc := 81) (v := (100 : Int32)) hx hb dX5_stepFor_81 (by decide) ?_
              refine lv_icmp_lt (pc := 83) (tgt := 89) hx hb dX5_stepFor_83 (by decide) (fun c9 => ?_) (fun c9 => ?_)
              · have h := (if_pos c9).symm.trans h
                refine lv_iload (pc := 89) hx hb dX5_stepFor_89 (lv_at hl 0 rfl) ?_
                refine lv_istore_n (pc := 91) (lv' := [(3, .int y6), (5, .int y6), (2, .int y4), (0, .ref (ad k)), (4, .int x4)]) hx hb dX5_stepFor_91 rfl hl (by decide) rfl (fun ls hl => ?_)
                refine lv_iinc (pc := 92) (v := (x4 + 1)) (lv' := [(4, .int (x4 + 1)), (3, .int y6), (5, .int y6), (2, .int y4), (0, .ref (ad k))]) hx hb dX5_stepFor_92 hl (k := 4) rfl rfl (by decide) rfl (fun ls hl => ?_)
                refine lv_goto (pc := 95) (tgt := 7) hx hb dX5_stepFor_95 (by decide) ?_
                exact ih M y4 y6 (x4 + 1) _ _ _ h hP hS (lv_sub hl [4, 3, 1, 0] rfl)
              · have h := (if_neg c9).symm.trans h
                refine lv_iload (pc := 86) hx hb dX5_stepFor_86 (lv_at hl 0 rfl) ?_
                obtain rfl := som1 h
                exact x_iret E hP hS rfl dX5_stepFor_88
            · have h := (if_pos c8).symm.trans h
              refine lv_aload_n (pc := 55) hx hb dX5_stepFor_55 rfl (lv_at hl 2 rfl) ?_
              refine lv_iload_n (pc := 56) hx hb dX5_stepFor_56 rfl (lv_at hl 3 rfl) ?_
              refine lv_iconst (pc := 57) (v := (2 : Int32)) hx hb dX5_stepFor_57 (by decide) ?_
              refine x_callVi (pc := 58) (st := .int (2 : Int32) :: .int x3 :: .ref (ad k) :: []) (As := [.int x3, .int (2 : Int32)]) E hEx hl.1 hP hS (kX5_hasLock hap hk M _ _ _ rfl) gX5_84 hdX5_hasLock rfl (RoA.lt hk) (sh5 hk) rfl ⟨Nat.le_of_ble_eq_true rfl, Nat.le_of_ble_eq_true rfl⟩ ⟨rfl, rfl⟩ dX5_stepFor_58 rfl (Nat.le_of_ble_eq_true rfl) (fun H locs hP hS n10 => ?_)
              refine lv_if_eq (pc := 61) (tgt := 72) hx hb dX5_stepFor_61 (by decide) (fun c11 => ?_) (fun c11 => ?_)
              · have h := (if_pos c11).symm.trans h
                refine lv_aload_n (pc := 72) hx hb dX5_stepFor_72 rfl (lv_at hl 2 rfl) ?_
                refine lv_iload_n (pc := 73) hx hb dX5_stepFor_73 rfl (lv_at hl 3 rfl) ?_
                obtain ⟨y12, hy12, h⟩ := bnd_ex h
                refine x_callVi (pc := 74) (st := .int x3 :: .ref (ad k) :: []) (As := [.int x3]) E hEx hl.1 hP hS (kX5_stepForThing hap hk M _ _ hy12) gX5_116 hdX5_stepForThing rfl (RoA.lt hk) (sh5 hk) rfl ⟨Nat.le_of_ble_eq_true rfl, Nat.le_of_ble_eq_true rfl⟩ ⟨rfl, rfl⟩ dX5_stepFor_74 rfl (Nat.le_of_ble_eq_true rfl) (fun H locs hP hS n13 => ?_)
                refine lv_istore (pc := 77) (lv' := [(5, .int y12), (2, .int y4), (0, .ref (ad k)), (3, .int x3), (4, .int x4)]) hx hb dX5_stepFor_77 hl (by decide) rfl (fun ls hl => ?_)
                refine lv_iload (pc := 79) hx hb dX5_stepFor_79 (lv_at hl 0 rfl) ?_
                refine lv_bipush (pc := 81) (v := (100 : Int32)) hx hb dX5_stepFor_81 (by decide) ?_
                refine lv_icmp_lt (pc := 83) (tgt := 89) hx hb dX5_stepFor_83 (by decide) (fun c14 => ?_) (fun c14 => ?_)
                · have h := (if_pos c14).symm.trans h
                  refine lv_iload (pc := 89) hx hb dX5_stepFor_89 (lv_at hl 0 rfl) ?_
                  refine lv_istore_n (pc := 91) (lv' := [(3, .int y12), (5, .int y12), (2, .int y4), (0, .ref (ad k)), (4, .int x4)]) hx hb dX5_stepFor_91 rfl hl (by decide) rfl (fun ls hl => ?_)
                  refine lv_iinc (pc := 92) (v := (x4 + 1)) (lv' := [(4, .int (x4 + 1)), (3, .int y12), (5, .int y12), (2, .int y4), (0, .ref (ad k))]) hx hb dX5_stepFor_92 hl (k := 4) rfl rfl (by decide) rfl (fun ls hl => ?_)
                  refine lv_goto (pc := 95) (tgt := 7) hx hb dX5_stepFor_95 (by decide) ?_
                  exact ih M y4 y12 (x4 + 1) _ _ _ h hP hS (lv_sub hl [4, 3, 1, 0] rfl)
                · have h := (if_neg c14).symm.trans h
                  refine lv_iload (pc := 86) hx hb dX5_stepFor_86 (lv_at hl 0 rfl) ?_
                  obtain rfl := som1 h
                  exact x_iret E hP hS rfl dX5_stepFor_88
              · have h := (if_neg c11).symm.trans h
                refine lv_aload_n (pc := 64) hx hb dX5_stepFor_64 rfl (lv_at hl 2 rfl) ?_
                refine lv_iload_n (pc := 65) hx hb dX5_stepFor_65 rfl (lv_at hl 3 rfl) ?_
                obtain ⟨y15, hy15, h⟩ := bnd_ex h
                refine x_callVi (pc := 66) (st := .int x3 :: .ref (ad k) :: []) (As := [.int x3]) E hEx hl.1 hP hS (kX5_stepForCode hap hk M _ _ hy15) gX5_113 hdX5_stepForCode rfl (RoA.lt hk) (sh5 hk) rfl ⟨Nat.le_of_ble_eq_true rfl, Nat.le_of_ble_eq_true rfl⟩ ⟨rfl, rfl⟩ dX5_stepFor_66 rfl (Nat.le_of_ble_eq_true rfl) (fun H locs hP hS n16 => ?_)
                refine lv_goto (pc := 69) (tgt := 77) hx hb dX5_stepFor_69 (by decide) ?_
                refine lv_istore (pc := 77) (lv' := [(5, .int y15), (2, .int y4), (0, .ref (ad k)), (3, .int x3), (4, .int x4)]) hx hb dX5_stepFor_77 hl (by decide) rfl (fun ls hl => ?_)
                refine lv_iload (pc := 79) hx hb dX5_stepFor_79 (lv_at hl 0 rfl) ?_
                refine lv_bipush (pc := 81) (v := (100 : Int32)) hx hb dX5_stepFor_81 (by decide) ?_
                refine lv_icmp_lt (pc := 83) (tgt := 89) hx hb dX5_stepFor_83 (by decide) (fun c17 => ?_) (fun c17 => ?_)
                · have h := (if_pos c17).symm.trans h
                  refine lv_iload (pc := 89) hx hb dX5_stepFor_89 (lv_at hl 0 rfl) ?_
                  refine lv_istore_n (pc := 91) (lv' := [(3, .int y15), (5, .int y15), (2, .int y4), (0, .ref (ad k)), (4, .int x4)]) hx hb dX5_stepFor_91 rfl hl (by decide) rfl (fun ls hl => ?_)
                  refine lv_iinc (pc := 92) (v := (x4 + 1)) (lv' := [(4, .int (x4 + 1)), (3, .int y15), (5, .int y15), (2, .int y4), (0, .ref (ad k))]) hx hb dX5_stepFor_92 hl (k := 4) rfl rfl (by decide) rfl (fun ls hl => ?_)
                  refine lv_goto (pc := 95) (tgt := 7) hx hb dX5_stepFor_95 (by decide) ?_
                  exact ih M y4 y15 (x4 + 1) _ _ _ h hP hS (lv_sub hl [4, 3, 1, 0] rfl)
                · have h := (if_neg c17).symm.trans h
                  refine lv_iload (pc := 86) hx hb dX5_stepFor_86 (lv_at hl 0 rfl) ?_
                  obtain rfl := som1 h
                  exact x_iret E hP hS rfl dX5_stepFor_88
          · have h := (if_pos c3).symm.trans h
            refine lv_bipush (pc := 27) (v := (-5 : Int32)) hx hb dX5_stepFor_27 (by decide) ?_
            obtain rfl := som1 h
            exact x_iret E hP hS rfl dX5_stepFor_29
  unfold fX5_stepFor at h
  refine lv_iconst (pc := 0) (v := (0 : Int32)) hx hb dX5_stepFor_0 (by decide) ?_
  refine lv_istore_n (pc := 1) (lv' := [(2, .int (0 : Int32)), (0, .ref (ad k)), (1, .int x1)]) hx hb dX5_stepFor_1 rfl hl (by decide) rfl (fun ls hl => ?_)
  refine lv_iload_n (pc := 2) hx hb dX5_stepFor_2 rfl (lv_at hl 2 rfl) ?_
  refine lv_istore_n (pc := 3) (lv' := [(3, .int x1), (2, .int (0 : Int32)), (0, .ref (ad k)), (1, .int x1)]) hx hb dX5_stepFor_3 rfl hl (by decide) rfl (fun ls hl => ?_)
  refine lv_iconst (pc := 4) (v := (0 : Int32)) hx hb dX5_stepFor_4 (by decide) ?_
  refine lv_istore (pc := 5) (lv' := [(4, .int (0 : Int32)), (3, .int x1), (2, .int (0 : Int32)), (0, .ref (ad k)), (1, .int x1)]) hx hb dX5_stepFor_5 hl (by decide) rfl (fun ls hl => ?_)
  exact hL7 5000 M (0 : Int32) x1 (0 : Int32) _ _ _ h hP hS (lv_sub hl [3, 2, 1, 0] rfl)
set_option maxRecDepth 100000 in
set_option maxHeartbeats 4000000 in
theorem kX7_stepKind (hap : Apart 78 ad)   (M : Mem) (x0 : Int32) (v : Int32) (h : fX7_stepKind M x0 = v) : XI G ad sK sV cA cZ cC yX7_stepKind cX7_stepKind 1 .int ({ frames := 0, cells := 0, slots := 0, locals := 0 } : Room) [.int x0] M v M := by
  refine CI.mk (own := RX7) (ls0 := [(0, .int x0)]) (by decide +kernel) rfl hap (Nat.le_of_ble_eq_true rfl) rfl ?_
  intro p l e s m args below meth c ls E hP hl
  have hx := E.1
  have hb := E.2.1
  have hown := E.2.2.2.2.2.1
  have hts := E.2.2.2.2.2.2.1
  have hNe := E.2.2.2.2.2.2.2.2.1.1
  have hEx := ExX.ok ad sK sV
  have hS : va_S (AW 78 ad) s.heap s.heap [] := va_S.rf
  unfold fX7_stepKind at h
  refine lv_iload_n (pc := 0) hx hb dX7_stepKind_0 rfl (lv_at hl 0 rfl) ?_
  refine lv_sipush (pc := 1) (v := (1000 : Int32)) hx hb dX7_stepKind_1 (by decide) ?_
  refine x_irem (pc := 4) hx hb dX7_stepKind_4 (by decide) ?_
  refine lv_bipush (pc := 5) (v := (100 : Int32)) hx hb dX7_stepKind_5 (by decide) ?_
  refine lv_idiv (pc := 7) hx hb dX7_stepKind_7 (by decide) ?_
  refine lv_bipush (pc := 8) (v := (100 : Int32)) hx hb dX7_stepKind_8 (by decide) ?_
  refine lv_imul (pc := 10) hx hb dX7_stepKind_10 ?_
  obtain rfl : (((irm x0 (1000 : Int32)) / (100 : Int32)) * (100 : Int32)) = v := h
  exact x_iret E hP hS rfl dX7_stepKind_11
set_option maxRecDepth 100000 in
set_option maxHeartbeats 4000000 in
theorem kX5_follow (hap : Apart 78 ad) {k : Nat} (hk : RoA k) (M : Mem) (x1 x2 x3 : Int32) (v : Int32) (M' : Mem) (h : fX5_follow k M x1 x2 x3 = some (v, M')) : XI G ad sK sV cA cZ cC yX5_follow cX5_follow 5 .int ({ frames := 3, cells := 0, slots := 0, locals := 65 } : Room) [.ref (ad k), .int x1, .int x2, .int x3] M v M' := by
  refine CI.mk (own := RX5) (ls0 := [(0, .ref (ad k)), (1, .int x1), (2, .int x2), (3, .int x3)]) (by decide +kernel) rfl hap (Nat.le_of_ble_eq_true rfl) rfl ?_
  intro p l e s m args below meth c ls E hP hl
  have hx := E.1
  have hb := E.2.1
  have hown := E.2.2.2.2.2.1
  have hts := E.2.2.2.2.2.2.1
  have hNe := E.2.2.2.2.2.2.2.2.1.1
  have hEx := ExX.ok ad sK sV
  have hS : va_S (AW 78 ad) s.heap s.heap [] := va_S.rf
  unfold fX5_follow at h
  refine lv_iload_n (pc := 0) hx hb dX5_follow_0 rfl (lv_at hl 1 rfl) ?_
  by_cases c1 : x1 = (100 : Int32)
  · have h := (if_pos c1).symm.trans h
    refine lv_lookup (pc := 1) (off := 43) (tgt := 44) hx hb dX5_follow_1 (by decide) (by rw [c1]; decide) (by decide) ?_
    refine lv_aload_n (pc := 44) hx hb dX5_follow_44 rfl (lv_at hl 0 rfl) ?_
    refine x_get (pc := 45) (v := .ref (ad (k + 7))) E hP (RoA.lt hk) (sh5 hk) rfl inX5 8 (by decide) q104 rfl dX5_follow_45 ?_
    refine lv_iload_n (pc := 48) hx hb dX5_follow_48 rfl (lv_at hl 2 rfl) ?_
    refine lv_iconst (pc := 49) (v := (-1 : Int32)) hx hb dX5_follow_49 (by decide) ?_
    obtain ⟨M13, hM13, h⟩ := thn_ex h
    refine x_callNv (pc := 50) (st := .int (-1 : Int32) :: .int x2 :: .ref (ad (k + 7)) :: []) (As := [.ref (ad (k + 7)), .int x2, .int (-1 : Int32)]) E hEx hl.1 hP hS (c_put hap M (lt5a7 hk) (sh5a7 hk) (by decide) _ _ _ hM13) gcX7_put (hNe _ nw2) q17 q86 hsX7_put rfl ⟨Nat.le_of_ble_eq_true rfl, Nat.le_of_ble_eq_true rfl⟩ ⟨rfl, rfl⟩ dX5_follow_50 rfl (Nat.le_of_ble_eq_true rfl) (fun H locs hP hS => ?_)
    refine lv_iconst (pc := 53) (v := (3 : Int32)) hx hb dX5_follow_53 (by decide) ?_
    refine lv_aload_n (pc := 54) hx hb dX5_follow_54 rfl (lv_at hl 0 rfl) ?_
    refine x_get (pc := 55) (v := .int (M13 k 15)) E hP (RoA.lt hk) (sh5 hk) rfl inX5 15 (by decide) q120 rfl dX5_follow_55 ?_
    refine x_callNi (pc := 58) (st := .int (M13 k 15) :: .int (3 : Int32) :: []) (As := [.int (3 : Int32), .int (M13 k 15)]) E hEx hl.1 hP hS (kX7_actMinutes hap  M13 _ _ _ rfl) gcX7_actMinutes (hNe _ nw10) q17 q401 hsX7_actMinutes rfl ⟨Nat.le_of_ble_eq_true rfl, Nat.le_of_ble_eq_true rfl⟩ ⟨rfl, rfl⟩ dX5_follow_58 rfl (Nat.le_of_ble_eq_true rfl) (fun H locs hP hS n14 => ?_)
    obtain ⟨rfl, rfl⟩ := som2 h
    exact x_iret E hP hS rfl dX5_follow_61
  · have h := (if_neg c1).symm.trans h
    by_cases c2 : x1 = (200 : Int32)
    · have h := (if_pos c2).symm.trans h
      refine lv_lookup (pc := 1) (off := 61) (tgt := 62) hx hb dX5_follow_1 (by decide) (by rw [c2]; decide) (by decide) ?_
      refine lv_aload_n (pc := 62) hx hb dX5_follow_62 rfl (lv_at hl 0 rfl) ?_
      refine x_get (pc := 63) (v := .ref (ad (k + 7))) E hP (RoA.lt hk) (sh5 hk) rfl inX5 8 (by decide) q104 rfl dX5_follow_63 ?_
      refine lv_iload_n (pc := 66) hx hb dX5_follow_66 rfl (lv_at hl 2 rfl) ?_
      refine lv_iload_n (pc := 67) hx hb dX5_follow_67 rfl (lv_at hl 3 rfl) ?_
      obtain ⟨M11, hM11, h⟩ := thn_ex h
      refine x_callNv (pc := 68) (st := .int x3 :: .int x2 :: .ref (ad (k + 7)) :: []) (As := [.ref (ad (k + 7)), .int x2, .int x3]) E hEx hl.1 hP hS (c_put hap M (lt5a7 hk) (sh5a7 hk) (by decide) _ _ _ hM11) gcX7_put (hNe _ nw2) q17 q86 hsX7_put rfl ⟨Nat.le_of_ble_eq_true rfl, Nat.le_of_ble_eq_true rfl⟩ ⟨rfl, rfl⟩ dX5_follow_68 rfl (Nat.le_of_ble_eq_true rfl) (fun H locs hP hS => ?_)
      refine lv_iconst (pc := 71) (v := (2 : Int32)) hx hb dX5_follow_71 (by decide) ?_
      refine lv_aload_n (pc := 72) hx hb dX5_follow_72 rfl (lv_at hl 0 rfl) ?_
      refine x_get (pc := 73) (v := .int (M11 k 15)) E hP (RoA.lt hk) (sh5 hk) rfl inX5 15 (by decide) q120 rfl dX5_follow_73 ?_
      refine x_callNi (pc := 76) (st := .int (M11 k 15) :: .int (2 : Int32) :: []) (As := [.int (2 : Int32), .int (M11 k 15)]) E hEx hl.1 hP hS (kX7_actMinutes hap  M11 _ _ _ rfl) gcX7_actMinutes (hNe _ nw10) q17 q401 hsX7_actMinutes rfl ⟨Nat.le_of_ble_eq_true rfl, Nat.le_of_ble_eq_true rfl⟩ ⟨rfl, rfl⟩ dX5_follow_76 rfl (Nat.le_of_ble_eq_true rfl) (fun H locs hP hS n12 => ?_)
      obtain ⟨rfl, rfl⟩ := som2 h
      exact x_iret E hP hS rfl dX5_follow_79
    · have h := (if_neg c2).symm.trans h
      by_cases c3 : x1 = (300 : Int32)
      · have h := (if_pos c3).symm.trans h
        refine lv_lookup (pc := 1) (off := 79) (tgt := 80) hx hb dX5_follow_1 (by decide) (by rw [c3]; decide) (by decide) ?_
        refine lv_aload_n (pc := 80) hx hb dX5_follow_80 rfl (lv_at hl 0 rfl) ?_
        refine x_get (pc := 81) (v := .ref (ad (k + 4))) E hP (RoA.lt hk) (sh5 hk) rfl inX5 4 (by decide) q96 rfl dX5_follow_81 ?_
        refine lv_iload_n (pc := 84) hx hb dX5_follow_84 rfl (lv_at hl 2 rfl) ?_
        refine lv_iconst (pc := 85) (v := (1 : Int32)) hx hb dX5_follow_85 (by decide) ?_
        obtain ⟨M9, hM9, h⟩ := thn_ex h
        refine x_callNv (pc := 86) (st := .int (1 : Int32) :: .int x2 :: .ref (ad (k + 4)) :: []) (As := [.ref (ad (k + 4)), .int x2, .int (1 : Int32)]) E hEx hl.1 hP hS (c_put hap M (lt5a4 hk) (sh5a4 hk) (by decide) _ _ _ hM9) gcX7_put (hNe _ nw2) q17 q86 hsX7_put rfl ⟨Nat.le_of_ble_eq_true rfl, Nat.le_of_ble_eq_true rfl⟩ ⟨rfl, rfl⟩ dX5_follow_86 rfl (Nat.le_of_ble_eq_true rfl) (fun H locs hP hS => ?_)
        refine lv_iconst (pc := 89) (v := (4 : Int32)) hx hb dX5_follow_89 (by decide) ?_
        refine lv_aload_n (pc := 90) hx hb dX5_follow_90 rfl (lv_at hl 0 rfl) ?_
        refine x_get (pc := 91) (v := .int (M9 k 15)) E hP (RoA.lt hk) (sh5 hk) rfl inX5 15 (by decide) q120 rfl dX5_follow_91 ?_
        refine x_callNi (pc := 94) (st := .int (M9 k 15) :: .int (4 : Int32) :: []) (As := [.int (4 : Int32), .int (M9 k 15)]) E hEx hl.1 hP hS (kX7_actMinutes hap  M9 _ _ _ rfl) gcX7_actMinutes (hNe _ nw10) q17 q401 hsX7_actMinutes rfl ⟨Nat.le_of_ble_eq_true rfl, Nat.le_of_ble_eq_true rfl⟩ ⟨rfl, rfl⟩ dX5_follow_94 rfl (Nat.le_of_ble_eq_true rfl) (fun H locs hP hS n10 => ?_)
        obtain ⟨rfl, rfl⟩ := som2 h
        exact x_iret E hP hS rfl dX5_follow_97
      · have h := (if_neg c3).symm.trans h
        by_cases c4 : x1 = (400 : Int32)
        · have h := (if_pos c4).symm.trans h
          refine lv_lookup (pc := 1) (off := 97) (tgt := 98) hx hb dX5_follow_1 (by decide) (by rw [c4]; decide) (by decide) ?_
          refine lv_aload_n (pc := 98) hx hb dX5_follow_98 rfl (lv_at hl 0 rfl) ?_
          refine lv_iload_n (pc := 99) hx hb dX5_follow_99 rfl (lv_at hl 2 rfl) ?_
          refine x_callVi (pc := 100) (st := .int x2 :: .ref (ad k) :: []) (As := [.int x2]) E hEx hl.1 hP hS (kX5_readingMinutes hap hk M _ _ rfl) gX5_142 hdX5_readingMinutes rfl (RoA.lt hk) (sh5 hk) rfl ⟨Nat.le_of_ble_eq_true rfl, Nat.le_of_ble_eq_true rfl⟩ ⟨rfl, rfl⟩ dX5_follow_100 rfl (Nat.le_of_ble_eq_true rfl) (fun H locs hP hS n6 => ?_)
          obtain ⟨y7, hy7, h⟩ := thn_ex h
          refine W.eq (g2 := F0 m 103 ls (.int y7 :: [])) (by rw [← hy7]) ?_
          refine lv_istore (pc := 103) (lv' := [(4, .int y7), (0, .ref (ad k)), (1, .int x1), (2, .int x2), (3, .int x3)]) hx hb dX5_follow_103 hl (by decide) rfl (fun ls hl => ?_)
          refine lv_aload_n (pc := 105) hx hb dX5_follow_105 rfl (lv_at hl 1 rfl) ?_
          refine lv_iload_n (pc := 106) hx hb dX5_follow_106 rfl (lv_at hl 3 rfl) ?_
          obtain ⟨M8, hM8, h⟩ := bnd_ex h
          refine x_callVv (pc := 107) (st := .int x2 :: .ref (ad k) :: []) (As := [.int x2]) E hEx hl.1 hP hS (kX5_learnFromClue hap hk M _ _ hM8) gX5_145 hdX5_learnFromClue rfl (RoA.lt hk) (sh5 hk) rfl ⟨Nat.le_of_ble_eq_true rfl, Nat.le_of_ble_eq_true rfl⟩ ⟨rfl, rfl⟩ dX5_follow_107 rfl (Nat.le_of_ble_eq_true rfl) (fun H locs hP hS => ?_)
          refine lv_iload (pc := 110) hx hb dX5_follow_110 (lv_at hl 0 rfl) ?_
          obtain ⟨rfl, rfl⟩ := som2 h
          exact x_iret E hP hS rfl dX5_follow_112
        · have h := (if_neg c4).symm.trans h
          refine lv_lookup (pc := 1) (off := 112) (tgt := 113) hx hb dX5_follow_1 (by decide) (by have e0 := ne_lit (k := 100) (by decide) c1; have e1 := ne_lit (k := 200) (by decide) c2; have e2 := ne_lit (k := 300) (by decide) c3; have e3 := ne_lit (k := 400) (by decide) c4; simp [Op.lookupswitch.offset, Ne.symm e0, e0, Ne.symm e1, e1, Ne.symm e2, e2, Ne.symm e3, e3]) (by decide) ?_
          refine lv_aload_n (pc := 113) hx hb dX5_follow_113 rfl (lv_at hl 0 rfl) ?_
          refine lv_iload_n (pc := 114) hx hb dX5_follow_114 rfl (lv_at hl 3 rfl) ?_
          refine lv_iload_n (pc := 115) hx hb dX5_follow_115 rfl (lv_at hl 2 rfl) ?_
          obtain ⟨M5, hM5, h⟩ := bnd_ex h
          refine x_callVv (pc := 116) (st := .int x2 :: .int x3 :: .ref (ad k) :: []) (As := [.int x3, .int x2]) E hEx hl.1 hP hS (kX5_learnDigit hap hk M _ _ _ hM5) gX5_109 hdX5_learnDigit rfl (RoA.lt hk) (sh5 hk) rfl ⟨Nat.le_of_ble_eq_true rfl, Nat.le_of_ble_eq_true rfl⟩ ⟨rfl, rfl⟩ dX5_follow_116 rfl (Nat.le_of_ble_eq_true rfl) (fun H locs hP hS => ?_)
          refine lv_iconst (pc := 119) (v := (2 : Int32)) hx hb dX5_follow_119 (by decide) ?_
          obtain ⟨rfl, rfl⟩ := som2 h
          exact x_iret E hP hS rfl dX5_follow_120
set_option maxRecDepth 100000 in
set_option maxHeartbeats 4000000 in
theorem kX5_minutesToExit (hap : Apart 78 ad) {k : Nat} (hk : RoA k) (M : Mem)  (v : Int32) (M' : Mem) (h : fX5_minutesToExit k M = some (v, M')) : XI G ad sK sV cA cZ cC yX5_minutesToExit cX5_minutesToExit 4 .int ({ frames := 6, cells := 0, slots := 0, locals := 134 } : Room) [.ref (ad k)] M v M' := by
  refine CI.mk (own := RX5) (ls0 := [(0, .ref (ad k))]) (by decide +kernel) rfl hap (Nat.le_of_ble_eq_true rfl) rfl ?_
  intro p l e s m args below meth c ls E hP hl
  have hx := E.1
  have hb := E.2.1
  have hown := E.2.2.2.2.2.1
  have hts := E.2.2.2.2.2.2.1
  have hNe := E.2.2.2.2.2.2.2.2.1.1
  have hEx := ExX.ok ad sK sV
  have hS : va_S (AW 78 ad) s.heap s.heap [] := va_S.rf
  have hB66 : ∀ (M : Mem) (x1 : Int32) (H : Heap) (locs : List Loc) (ls : Array Slot), fX5_minutesToExit_B66 k M x1 = some (v, M') → va_P G vwCl (WW 78 (shX cA ad) ad M) H → va_S (AW 78 ad) s.heap H locs → lv_has ls 4 [(0, .ref (ad k)), (1, .int x1)] → W p l e ({ frames := 6, cells := 0, slots := 0, locals := 134 } : Room) s m args below meth c H locs 0 0 (QI below G 78 (shX cA ad) ad .int args s v M') (F0 m 66 ls []) := by
    intro M x1 H locs ls h hP hS hl
    unfold fX5_minutesToExit_B66 at h
    refine lv_aload_n (pc := 66) hx hb dX5_minutesToExit_66 rfl (lv_at hl 0 rfl) ?_
    refine lv_aload_n (pc := 67) hx hb dX5_minutesToExit_67 rfl (lv_at hl 0 rfl) ?_
    refine x_get (pc := 68) (v := .int (M k 14)) E hP (RoA.lt hk) (sh5 hk) rfl inX5 14 (by decide) q118 rfl dX5_minutesToExit_68 ?_
    refine x_callVi (pc := 71) (st := .int (M k 14) :: .ref (ad k) :: []) (As := [.int (M k 14)]) E hEx hl.1 hP hS (kX5_isOpen hap hk M _ _ rfl) gX5_77 hdX5_isOpen rfl (RoA.lt hk) (sh5 hk) rfl ⟨Nat.le_of_ble_eq_true rfl, Nat.le_of_ble_eq_true rfl⟩ ⟨rfl, rfl⟩ dX5_minutesToExit_71 rfl (Nat.le_of_ble_eq_true rfl) (fun H locs hP hS n2 => ?_)
    refine lv_if_eq (pc := 74) (tgt := 81) hx hb dX5_minutesToExit_74 (by decide) (fun c3 => ?_) (fun c3 => ?_)
    · have h := (if_pos c3).symm.trans h
      refine lv_bipush (pc := 81) (v := (-5 : Int32)) hx hb dX5_minutesToExit_81 (by decide) ?_
      obtain ⟨rfl, rfl⟩ := som2 h
      exact x_iret E hP hS rfl dX5_minutesToExit_83
    · have h := (if_neg c3).symm.trans h
      refine lv_iload_n (pc := 77) hx hb dX5_minutesToExit_77 rfl (lv_at hl 1 rfl) ?_
      refine lv_goto (pc := 78) (tgt := 83) hx hb dX5_minutesToExit_78 (by decide) ?_
      obtain ⟨rfl, rfl⟩ := som2 h
      exact x_iret E hP hS rfl dX5_minutesToExit_83
  have hL4 : ∀ (n : Nat) (M : Mem) (x1 x2 : Int32) (H : Heap) (locs : List Loc) (ls : Array Slot), fX5_minutesToExit_L4 k n M x1 x2 = some (v, M') → va_P G vwCl (WW 78 (shX cA ad) ad M) H → va_S (AW 78 ad) s.heap H locs → lv_has ls 4 [(0, .ref (ad k)), (1, .int x1), (2, .int x2)] → W p l e ({ frames := 6, cells := 0, slots := 0, locals := 134 } : Room) s m args below meth c H locs 0 0 (QI below G 78 (shX cA ad) ad .int args s v M') (F0 m 4 ls []) := by
    intro n
    induction n with
    | zero => intro M x1 x2 H locs ls h; cases h
    | succ n ih =>
      intro M x1 x2 H locs ls h hP hS hl
      rw [fX5_minutesToExit_L4] at h
      refine lv_iload_n (pc := 4) hx hb dX5_minutesToExit_4 rfl (lv_at hl 2 rfl) ?_
      refine lv_sipush (pc := 5) (v := (1000 : Int32)) hx hb dX5_minutesToExit_5 (by decide) ?_
      refine lv_icmp_ge (pc := 8) (tgt := 66) hx hb dX5_minutesToExit_8 (by decide) (fun c1 => ?_) (fun c1 => ?_)
      · have h := (if_pos c1).symm.trans h
        exact hB66 M x1 _ _ _ h hP hS (lv_sub hl [0, 1] rfl)
      · have h := (if_neg c1).symm.trans h
        refine lv_aload_n (pc := 11) hx hb dX5_minutesToExit_11 rfl (lv_at hl 0 rfl) ?_
        refine lv_aload_n (pc := 12) hx hb dX5_minutesToExit_12 rfl (lv_at hl 0 rfl) ?_
        refine x_get (pc := 13) (v := .int (M k 14)) E hP (RoA.lt hk) (sh5 hk) rfl inX5 14 (by decide) q118 rfl dX5_minutesToExit_13 ?_
        refine x_callVi (pc := 16) (st := .int (M k 14) :: .ref (ad k) :: []) (As := [.int (M k 14)]) E hEx hl.1 hP hS (kX5_isOpen hap hk M _ _ rfl) gX5_77 hdX5_isOpen rfl (RoA.lt hk) (sh5 hk) rfl ⟨Nat.le_of_ble_eq_true rfl, Nat.le_of_ble_eq_true rfl⟩ ⟨rfl, rfl⟩ dX5_minutesToExit_16 rfl (Nat.le_of_ble_eq_true rfl) (fun H locs hP hS n4 => ?_)
        refine lv_if_ne (pc := 19) (tgt := 66) hx hb dX5_minutesToExit_19 (by decide) (fun c5 => ?_) (fun c5 => ?_)
        · have h := (if_neg c5).symm.trans h
          exact hB66 M x1 _ _ _ h hP hS (lv_sub hl [0, 1] rfl)
        · have h := (if_pos c5).symm.trans h
          refine lv_aload_n (pc := 22) hx hb dX5_minutesToExit_22 rfl (lv_at hl 0 rfl) ?_
          refine lv_aload_n (pc := 23) hx hb dX5_minutesToExit_23 rfl (lv_at hl 0 rfl) ?_
          refine x_get (pc := 24) (v := .int (M k 14)) E hP (RoA.lt hk) (sh5 hk) rfl inX5 14 (by decide) q118 rfl dX5_minutesToExit_24 ?_
          obtain ⟨y6, hy6, h⟩ := bnd_ex h
          refine x_callVi (pc := 27) (st := .int (M k 14) :: .ref (ad k) :: []) (As := [.int (M k 14)]) E hEx hl.1 hP hS (kX5_stepFor hap hk M _ _ hy6) gX5_132 hdX5_stepFor rfl (RoA.lt hk) (sh5 hk) rfl ⟨Nat.le_of_ble_eq_true rfl, Nat.le_of_ble_eq_true rfl⟩ ⟨rfl, rfl⟩ dX5_minutesToExit_27 rfl (Nat.le_of_ble_eq_true rfl) (fun H locs hP hS n7 => ?_)
          refine lv_istore_n (pc := 30) (lv' := [(3, .int y6), (0, .ref (ad k)), (1, .int x1), (2, .int x2)]) hx hb dX5_minutesToExit_30 rfl hl (by decide) rfl (fun ls hl => ?_)
          refine lv_iload_n (pc := 31) hx hb dX5_minutesToExit_31 rfl (lv_at hl 0 rfl) ?_
          refine lv_bipush (pc := 32) (v := (-5 : Int32)) hx hb dX5_minutesToExit_32 (by decide) ?_
          refine lv_icmp_ne (pc := 34) (tgt := 40) hx hb dX5_minutesToExit_34 (by decide) (fun c8 => ?_) (fun c8 => ?_)
          · have h := (if_neg c8).symm.trans h
            refine lv_iload_n (pc := 40) hx hb dX5_minutesToExit_40 rfl (lv_at hl 2 rfl) ?_
            refine lv_aload_n (pc := 41) hx hb dX5_minutesToExit_41 rfl (lv_at hl 1 rfl) ?_
            refine lv_iload_n (pc := 42) hx hb dX5_minutesToExit_42 rfl (lv_at hl 0 rfl) ?_
            refine x_callNi (pc := 43) (st := .int y6 :: .ref (ad k) :: .int x1 :: []) (As := [.int y6]) E hEx hl.1 hP hS (kX7_stepKind hap  M _ _ rfl) gcX7_stepKind (hNe _ nw9) q17 q370 hsX7_stepKind rfl ⟨Nat.le_of_ble_eq_true rfl, Nat.le_of_ble_eq_true rfl⟩ ⟨rfl, rfl⟩ dX5_minutesToExit_43 rfl (Nat.le_of_ble_eq_true rfl) (fun H locs hP hS n9 => ?_)
            refine lv_iload_n (pc := 46) hx hb dX5_minutesToExit_46 rfl (lv_at hl 0 rfl) ?_
            refine lv_bipush (pc := 47) (v := (100 : Int32)) hx hb dX5_minutesToExit_47 (by decide) ?_
            refine x_irem (pc := 49) hx hb dX5_minutesToExit_49 (by decide) ?_
            refine lv_iload_n (pc := 50) hx hb dX5_minutesToExit_50 rfl (lv_at hl 0 rfl) ?_
            refine lv_sipush (pc := 51) (v := (1000 : Int32)) hx hb dX5_minutesToExit_51 (by decide) ?_
            refine lv_idiv (pc := 54) hx hb dX5_minutesToExit_54 (by decide) ?_
            obtain ⟨q10, hq10, h⟩ := bnd_ex h
            refine x_callVi (pc := 55) (st := .int (y6 / (1000 : Int32)) :: .int (irm y6 (100 : Int32)) :: .int (fX7_stepKind M y6) :: .ref (ad k) :: .int x1 :: []) (As := [.int (fX7_stepKind M y6), .int (irm y6 (100 : Int32)), .int (y6 / (1000 : Int32))]) E hEx hl.1 hP hS (kX5_follow hap hk M _ _ _ _ _ hq10) gX5_138 hdX5_follow rfl (RoA.lt hk) (sh5 hk) rfl ⟨Nat.le_of_ble_eq_true rfl, Nat.le_of_ble_eq_true rfl⟩ ⟨rfl, rfl⟩ dX5_minutesToExit_55 rfl (Nat.le_of_ble_eq_true rfl) (fun H locs hP hS n11 => ?_)
            refine lv_iadd (pc := 58) hx hb dX5_minutesToExit_58 ?_
            refine lv_istore_n (pc := 59) (lv' := [(1, .int (x1 + q10.1)), (3, .int y6), (0, .ref (ad k)), (2, .int x2)]) hx hb dX5_minutesToExit_59 rfl hl (by decide) rfl (fun ls hl => ?_)
            refine lv_iinc (pc := 60) (v := (x2 + 1)) (lv' := [(2, .int (x2 + 1)), (1, .int (x1 + q10.1)), (3, .int y6), (0, .ref (ad k))]) hx hb dX5_minutesToExit_60 hl (k := 3) rfl rfl (by decide) rfl (fun ls hl => ?_)
            refine lv_goto (pc := 63) (tgt := 4) hx hb dX5_minutesToExit_63 (by decide) ?_
            exact ih q10.2 (x1 + q10.1) (x2 + 1) _ _ _ h hP hS (lv_sub hl [3, 1, 0] rfl)
          · have h := (if_pos c8).symm.trans h
            refine lv_bipush (pc := 37) (v := (-5 : Int32)) hx hb dX5_minutesToExit_37 (by decide) ?_
            obtain ⟨rfl, rfl⟩ := som2 h
            exact x_iret E hP hS rfl dX5_minutesToExit_39
  unfold fX5_minutesToExit at h
  refine lv_iconst (pc := 0) (v := (0 : Int32)) hx hb dX5_minutesToExit_0 (by decide) ?_
  refine lv_istore_n (pc := 1) (lv' := [(1, .int (0 : Int32)), (0, .ref (ad k))]) hx hb dX5_minutesToExit_1 rfl hl (by decide) rfl (fun ls hl => ?_)
  refine lv_iconst (pc := 2) (v := (0 : Int32)) hx hb dX5_minutesToExit_2 (by decide) ?_
  refine lv_istore_n (pc := 3) (lv' := [(2, .int (0 : Int32)), (1, .int (0 : Int32)), (0, .ref (ad k))]) hx hb dX5_minutesToExit_3 rfl hl (by decide) rfl (fun ls hl => ?_)
  exact hL4 5000 M (0 : Int32) (0 : Int32) _ _ _ h hP hS (lv_sub hl [2, 1, 0] rfl)
set_option maxRecDepth 100000 in
set_option maxHeartbeats 4000000 in
theorem kX7_asNumber (hap : Apart 78 ad)   (M : Mem) (x0 : Int32) (v : Int32) (h : fX7_asNumber M x0 = v) : XI G ad sK sV cA cZ cC yX7_asNumber cX7_asNumber 1 .int ({ frames := 0, cells := 0, slots := 0, locals := 0 } : Room) [.int x0] M v M := by
  refine CI.mk (own := RX7) (ls0 := [(0, .int x0)]) (by decide +kernel) rfl hap (Nat.le_of_ble_eq_true rfl) rfl ?_
  intro p l e s m args below meth c ls E hP hl
  have hx := E.1
  have hb := E.2.1
  have hown := E.2.2.2.2.2.1
  have hts := E.2.2.2.2.2.2.1
  have hNe := E.2.2.2.2.2.2.2.2.1.1
  have hEx := ExX.ok ad sK sV
  have hS : va_S (AW 78 ad) s.heap s.heap [] := va_S.rf
  unfold fX7_asNumber at h
  refine lv_iload_n (pc := 0) hx hb dX7_asNumber_0 rfl (lv_at hl 0 rfl) ?_
  refine lv_if_eq (pc := 1) (tgt := 8) hx hb dX7_asNumber_1 (by decide) (fun c1 => ?_) (fun c1 => ?_)
  · have h := (if_pos c1).symm.trans h
    refine lv_iconst (pc := 8) (v := (0 : Int32)) hx hb dX7_asNumber_8 (by decide) ?_
    obtain rfl : (0 : Int32) = v := h
    exact x_iret E hP hS rfl dX7_asNumber_9
  · have h := (if_neg c1).symm.trans h
    refine lv_iconst (pc := 4) (v := (1 : Int32)) hx hb dX7_asNumber_4 (by decide) ?_
    refine lv_goto (pc := 5) (tgt := 9) hx hb dX7_asNumber_5 (by decide) ?_
    obtain rfl : (1 : Int32) = v := h
    exact x_iret E hP hS rfl dX7_asNumber_9
set_option maxRecDepth 100000 in
set_option maxHeartbeats 4000000 in
theorem kX7_isGroupSize (hap : Apart 78 ad)   (M : Mem) (x0 : Int32) (v : Int32) (h : fX7_isGroupSize M x0 = v) : XI G ad sK sV cA cZ cC yX7_isGroupSize cX7_isGroupSize 1 .boolean ({ frames := 0, cells := 0, slots := 0, locals := 0 } : Room) [.int x0] M v M := by
  refine CI.mk (own := RX7) (ls0 := [(0, .int x0)]) (by decide +kernel) rfl hap (Nat.le_of_ble_eq_true rfl) rfl ?_
  intro p l e s m args below meth c ls E hP hl
  have hx := E.1
  have hb := E.2.1
  have hown := E.2.2.2.2.2.1
  have hts := E.2.2.2.2.2.2.1
  have hNe := E.2.2.2.2.2.2.2.2.1.1
  have hEx := ExX.ok ad sK sV
  have hS : va_S (AW 78 ad) s.heap s.heap [] := va_S.rf
  unfold fX7_isGroupSize at h
  refine lv_iload_n (pc := 0) hx hb dX7_isGroupSize_0 rfl (lv_at hl 0 rfl) ?_
  refine lv_iconst (pc := 1) (v := (1 : Int32)) hx hb dX7_isGroupSize_1 (by decide) ?_
  refine lv_icmp_lt (pc := 2) (tgt := 15) hx hb dX7_isGroupSize_2 (by decide) (fun c1 => ?_) (fun c1 => ?_)
  · have h := (if_pos c1).symm.trans h
    refine lv_iconst (pc := 15) (v := (0 : Int32)) hx hb dX7_isGroupSize_15 (by decide) ?_
    obtain rfl : (0 : Int32) = v := h
    exact x_iret E hP hS rfl dX7_isGroupSize_16
  · have h := (if_neg c1).symm.trans h
    refine lv_iload_n (pc := 5) hx hb dX7_isGroupSize_5 rfl (lv_at hl 0 rfl) ?_
    refine lv_bipush (pc := 6) (v := (6 : Int32)) hx hb dX7_isGroupSize_6 (by decide) ?_
    refine lv_icmp_gt (pc := 8) (tgt := 15) hx hb dX7_isGroupSize_8 (by decide) (fun c2 => ?_) (fun c2 => ?_)
    · have h := (if_pos c2).symm.trans h
      refine lv_iconst (pc := 15) (v := (0 : Int32)) hx hb dX7_isGroupSize_15 (by decide) ?_
      obtain rfl : (0 : Int32) = v := h
      exact x_iret E hP hS rfl dX7_isGroupSize_16
    · have h := (if_neg c2).symm.trans h
      refine lv_iconst (pc := 11) (v := (1 : Int32)) hx hb dX7_isGroupSize_11 (by decide) ?_
      refine lv_goto (pc := 12) (tgt := 16) hx hb dX7_isGroupSize_12 (by decide) ?_
      obtain rfl : (1 : Int32) = v := h
      exact x_iret E hP hS rfl dX7_isGroupSize_16
set_option maxRecDepth 100000 in
set_option maxHeartbeats 4000000 in
theorem kX7_toldStep (hap : Apart 78 ad)   (M : Mem) (x0 : Int32) (v : Int32) (h : fX7_toldStep M x0 = v) : XI G ad sK sV cA cZ cC yX7_toldStep cX7_toldStep 1 .int ({ frames := 1, cells := 0, slots := 0, locals := 20 } : Room) [.int x0] M v M := by
  refine CI.mk (own := RX7) (ls0 := [(0, .int x0)]) (by decide +kernel) rfl hap (Nat.le_of_ble_eq_true rfl) rfl ?_
  intro p l e s m args below meth c ls E hP hl
  have hx := E.1
  have hb := E.2.1
  have hown := E.2.2.2.2.2.1
  have hts := E.2.2.2.2.2.2.1
  have hNe := E.2.2.2.2.2.2.2.2.1.1
  have hEx := ExX.ok ad sK sV
  have hS : va_S (AW 78 ad) s.heap s.heap [] := va_S.rf
  unfold fX7_toldStep at h
  refine lv_iload_n (pc := 0) hx hb dX7_toldStep_0 rfl (lv_at hl 0 rfl) ?_
  refine x_callSi (pc := 1) (st := .int x0 :: []) (As := [.int x0]) E hEx hl.1 hP hS (kX7_stepKind hap  M _ _ rfl) gX7_258 hsX7_stepKind rfl ⟨Nat.le_of_ble_eq_true rfl, Nat.le_of_ble_eq_true rfl⟩ ⟨rfl, rfl⟩ dX7_toldStep_1 rfl (Nat.le_of_ble_eq_true rfl) (fun H locs hP hS n1 => ?_)
  refine lv_sipush (pc := 4) (v := (500 : Int32)) hx hb dX7_toldStep_4 (by decide) ?_
  refine lv_icmp_ne (pc := 7) (tgt := 18) hx hb dX7_toldStep_7 (by decide) (fun c2 => ?_) (fun c2 => ?_)
  · have h := (if_neg c2).symm.trans h
    refine lv_iload_n (pc := 18) hx hb dX7_toldStep_18 rfl (lv_at hl 0 rfl) ?_
    obtain rfl : x0 = v := h
    exact x_iret E hP hS rfl dX7_toldStep_19
  · have h := (if_pos c2).symm.trans h
    refine lv_iload_n (pc := 10) hx hb dX7_toldStep_10 rfl (lv_at hl 0 rfl) ?_
    refine lv_sipush (pc := 11) (v := (1000 : Int32)) hx hb dX7_toldStep_11 (by decide) ?_
    refine x_irem (pc := 14) hx hb dX7_toldStep_14 (by decide) ?_
    refine lv_goto (pc := 15) (tgt := 19) hx hb dX7_toldStep_15 (by decide) ?_
    obtain rfl : (irm x0 (1000 : Int32)) = v := h
    exact x_iret E hP hS rfl dX7_toldStep_19
set_option maxRecDepth 100000 in
set_option maxHeartbeats 4000000 in
theorem kX7_isSlot (hap : Apart 78 ad)   (M : Mem) (x0 : Int32) (v : Int32) (h : fX7_isSlot M x0 = v) : XI G ad sK sV cA cZ cC yX7_isSlot cX7_isSlot 1 .boolean ({ frames := 0, cells := 0, slots := 0, locals := 0 } : Room) [.int x0] M v M := by
  refine CI.mk (own := RX7) (ls0 := [(0, .int x0)]) (by decide +kernel) rfl hap (Nat.le_of_ble_eq_true rfl) rfl ?_
  intro p l e s m args below meth c ls E hP hl
  have hx := E.1
  have hb := E.2.1
  have hown := E.2.2.2.2.2.1
  have hts := E.2.2.2.2.2.2.1
  have hNe := E.2.2.2.2.2.2.2.2.1.1
  have hEx := ExX.ok ad sK sV
  have hS : va_S (AW 78 ad) s.heap s.heap [] := va_S.rf
  unfold fX7_isSlot at h
  refine lv_iload_n (pc := 0) hx hb dX7_isSlot_0 rfl (lv_at hl 0 rfl) ?_
  refine lv_if_eq (pc := 1) (tgt := 9) hx hb dX7_isSlot_1 (by decide) (fun c1 => ?_) (fun c1 => ?_)
  · have h := (if_pos c1).symm.trans h
    refine lv_iconst (pc := 9) (v := (1 : Int32)) hx hb dX7_isSlot_9 (by decide) ?_
    refine lv_goto (pc := 10) (tgt := 14) hx hb dX7_isSlot_10 (by decide) ?_
    obtain rfl : (1 : Int32) = v := h
    exact x_iret E hP hS rfl dX7_isSlot_14
  · have h := (if_neg c1).symm.trans h
    refine lv_iload_n (pc := 4) hx hb dX7_isSlot_4 rfl (lv_at hl 0 rfl) ?_
    refine lv_iconst (pc := 5) (v := (1 : Int32)) hx hb dX7_isSlot_5 (by decide) ?_
    refine lv_icmp_ne (pc := 6) (tgt := 13) hx hb dX7_isSlot_6 (by decide) (fun c2 => ?_) (fun c2 => ?_)
    · have h := (if_neg c2).symm.trans h
      refine lv_iconst (pc := 13) (v := (0 : Int32)) hx hb dX7_isSlot_13 (by decide) ?_
      obtain rfl : (0 : Int32) = v := h
      exact x_iret E hP hS rfl dX7_isSlot_14
    · have h := (if_pos c2).symm.trans h
      refine lv_iconst (pc := 9) (v := (1 : Int32)) hx hb dX7_isSlot_9 (by decide) ?_
      refine lv_goto (pc := 10) (tgt := 14) hx hb dX7_isSlot_10 (by decide) ?_
      obtain rfl : (1 : Int32) = v := h
      exact x_iret E hP hS rfl dX7_isSlot_14
end
