section
variable {G : va_G} {ad sK sV : Nat → Nat} {cA cZ cC : ClassId}
set_option maxRecDepth 100000 in
set_option maxHeartbeats 4000000 in
theorem kL_clues (hap : Apart 78 ad)   (M : Mem)  (v : Int32) (h : fL_clues M = some v) : XI G ad sK sV cA cZ cC yL_clues cL_clues 10 .boolean ({ frames := 5, cells := 0, slots := 0, locals := 109 } : Room) [.ref (ad 0)] M v M := by
  refine CI.mk (own := RL) (ls0 := [(0, .ref (ad 0))]) (by decide +kernel) rfl hap (Nat.le_of_ble_eq_true rfl) rfl ?_
  intro p l e s m args below meth c ls E hP hl
  have hx := E.1
  have hb := E.2.1
  have hown := E.2.2.2.2.2.1
  have hts := E.2.2.2.2.2.2.1
  have hNe := E.2.2.2.2.2.2.2.2.1.1
  have hEx := ExX.ok ad sK sV
  have hS : va_S (AW 78 ad) s.heap s.heap [] := va_S.rf
  have hI63 : ∀ (M : Mem) (K : Int32 → Int32 → Int32 → Int32 → Int32 → Int32 → Int32 → Int32 → Option Int32) (H : Heap) (locs : List Loc), (∀ (x1 x2 x3 x4 x5 x6 x7 x8 : Int32) (ls : Array Slot), K x1 x2 x3 x4 x5 x6 x7 x8 = some v → va_P G vwCl (WW 78 (shX cA ad) ad M) H → va_S (AW 78 ad) s.heap H locs → lv_has ls 10 [(0, .ref (ad 0)), (1, .int x1), (2, .int x2), (3, .int x3), (4, .int x4), (5, .int x5), (6, .int x6), (7, .int x7), (8, .int x8)] → W p l e ({ frames := 5, cells := 0, slots := 0, locals := 109 } : Room) s m args below meth c H locs 0 0 (QI below G 78 (shX cA ad) ad .boolean args s v M) (F0 m 82 ls [])) → ∀ (n : Nat) (x1 x2 x3 x4 x5 x6 x7 x8 x9 : Int32) (ls : Array Slot), fL_clues_I63 K n x1 x2 x3 x4 x5 x6 x7 x8 x9 = some v → va_P G vwCl (WW 78 (shX cA ad) ad M) H → va_S (AW 78 ad) s.heap H locs → lv_has ls 10 [(0, .ref (ad 0)), (1, .int x1), (2, .int x2), (3, .int x3), (4, .int x4), (5, .int x5), (6, .int x6), (7, .int x7), (8, .int x8), (9, .int x9)] → W p l e ({ frames := 5, cells := 0, slots := 0, locals := 109 } : Room) s m args below meth c H locs 0 0 (QI below G 78 (shX cA ad) ad .boolean args s v M) (F0 m 63 ls []) := by
    intro M K H locs kk n
    induction n with
    | zero => intro x1 x2 x3 x4 x5 x6 x7 x8 x9 ls h; cases h
    | succ n ih =>
      intro x1 x2 x3 x4 x5 x6 x7 x8 x9 ls h hP hS hl
      rw [fL_clues_I63] at h
      refine lv_iload (pc := 63) hx hb dL_clues_63 (lv_at hl 9 rfl) ?_
      refine lv_iconst (pc := 65) (v := (3 : Int32)) hx hb dL_clues_65 (by decide) ?_
      refine lv_icmp_ge (pc := 66) (tgt := 82) hx hb dL_clues_66 (by decide) (fun c30 => ?_) (fun c30 => ?_)
      · have h := (if_pos c30).symm.trans h
        exact kk x1 x2 x3 x4 x5 x6 x7 x8 _ h hP hS (lv_sub hl [0, 1, 2, 3, 4, 5, 6, 7, 8] rfl)
      · have h := (if_neg c30).symm.trans h
        refine lv_iload (pc := 69) hx hb dL_clues_69 (lv_at hl 8 rfl) ?_
        refine lv_bipush (pc := 71) (v := (10 : Int32)) hx hb dL_clues_71 (by decide) ?_
        refine lv_imul (pc := 73) hx hb dL_clues_73 ?_
        refine lv_istore (pc := 74) (lv' := [(8, .int (x8 * (10 : Int32))), (0, .ref (ad 0)), (1, .int x1), (2, .int x2), (3, .int x3), (4, .int x4), (5, .int x5), (6, .int x6), (7, .int x7), (9, .int x9)]) hx hb dL_clues_74 hl (by decide) rfl (fun ls hl => ?_)
        refine lv_iinc (pc := 76) (v := (x9 + 1)) (lv' := [(9, .int (x9 + 1)), (8, .int (x8 * (10 : Int32))), (0, .ref (ad 0)), (1, .int x1), (2, .int x2), (3, .int x3), (4, .int x4), (5, .int x5), (6, .int x6), (7, .int x7)]) hx hb dL_clues_76 hl (k := 9) rfl rfl (by decide) rfl (fun ls hl => ?_)
        refine lv_goto (pc := 79) (tgt := 63) hx hb dL_clues_79 (by decide) ?_
        exact ih x1 x2 x3 x4 x5 x6 x7 (x8 * (10 : Int32)) (x9 + 1) _ h hP hS (lv_sub hl [2, 3, 4, 5, 6, 7, 8, 9, 1, 0] rfl)
  have hL17 : ∀ (n : Nat) (M : Mem) (x1 x2 x3 x4 x5 : Int32) (H : Heap) (locs : List Loc) (ls : Array Slot), fL_clues_L17 n M x1 x2 x3 x4 x5 = some v → va_P G vwCl (WW 78 (shX cA ad) ad M) H → va_S (AW 78 ad) s.heap H locs → lv_has ls 10 [(0, .ref (ad 0)), (1, .int x1), (2, .int x2), (3, .int x3), (4, .int x4), (5, .int x5)] → W p l e ({ frames := 5, cells := 0, slots := 0, locals := 109 } : Room) s m args below meth c H locs 0 0 (QI below G 78 (shX cA ad) ad .boolean args s v M) (F0 m 17 ls []) := by
    intro n
    induction n with
    | zero => intro M x1 x2 x3 x4 x5 H locs ls h; cases h
    | succ n ih =>
      intro M x1 x2 x3 x4 x5 H locs ls h hP hS hl
      rw [fL_clues_L17] at h
      refine lv_iload (pc := 17) hx hb dL_clues_17 (lv_at hl 5 rfl) ?_
      refine lv_aload_n (pc := 19) hx hb dL_clues_19 rfl (lv_at hl 0 rfl) ?_
      refine lv_iconst (pc := 20) (v := (2 : Int32)) hx hb dL_clues_20 (by decide) ?_
      obtain ⟨y3, hy3, h⟩ := bnd_ex h
      refine x_callVi (pc := 21) (st := .int (2 : Int32) :: .ref (ad 0) :: .int x5 :: []) (As := [.int (2 : Int32)]) E hEx hl.1 hP hS (kX7_count hap  M _ _ hy3) gL_15 hdX7_count rfl (by decide) sh7 rfl ⟨Nat.le_of_ble_eq_true rfl, Nat.le_of_ble_eq_true rfl⟩ ⟨rfl, rfl⟩ dL_clues_21 rfl (Nat.le_of_ble_eq_true rfl) (fun H locs hP hS n4 => ?_)
      refine lv_icmp_ge (pc := 24) (tgt := 200) hx hb dL_clues_24 (by decide) (fun c5 => ?_) (fun c5 => ?_)
      · have h := (if_pos c5).symm.trans h
        refine lv_aload_n (pc := 200) hx hb dL_clues_200 rfl (lv_at hl 0 rfl) ?_
        refine lv_iconst (pc := 201) (v := (2 : Int32)) hx hb dL_clues_201 (by decide) ?_
        obtain ⟨y6, hy6, h⟩ := bnd_ex h
        refine x_callVi (pc := 202) (st := .int (2 : Int32) :: .ref (ad 0) :: []) (As := [.int (2 : Int32)]) E hEx hl.1 hP hS (kX7_differences hap  M _ _ hy6) gL_31 hdX7_differences rfl (by decide) sh7 rfl ⟨Nat.le_of_ble_eq_true rfl, Nat.le_of_ble_eq_true rfl⟩ ⟨rfl, rfl⟩ dL_clues_202 rfl (Nat.le_of_ble_eq_true rfl) (fun H locs hP hS n7 => ?_)
        refine lv_iload_n (pc := 205) hx hb dL_clues_205 rfl (lv_at hl 1 rfl) ?_
        refine lv_icmp_ne (pc := 206) (tgt := 254) hx hb dL_clues_206 (by decide) (fun c8 => ?_) (fun c8 => ?_)
        · have h := (if_neg c8).symm.trans h
          refine lv_iconst (pc := 254) (v := (0 : Int32)) hx hb dL_clues_254 (by decide) ?_
          obtain rfl := som1 h
          exact x_iret E hP hS rfl dL_clues_255
        · have h := (if_pos c8).symm.trans h
          refine lv_aload_n (pc := 209) hx hb dL_clues_209 rfl (lv_at hl 0 rfl) ?_
          refine lv_iconst (pc := 210) (v := (4 : Int32)) hx hb dL_clues_210 (by decide) ?_
          obtain ⟨y9, hy9, h⟩ := bnd_ex h
          refine x_callVi (pc := 211) (st := .int (4 : Int32) :: .ref (ad 0) :: []) (As := [.int (4 : Int32)]) E hEx hl.1 hP hS (kX7_differences hap  M _ _ hy9) gL_31 hdX7_differences rfl (by decide) sh7 rfl ⟨Nat.le_of_ble_eq_true rfl, Nat.le_of_ble_eq_true rfl⟩ ⟨rfl, rfl⟩ dL_clues_211 rfl (Nat.le_of_ble_eq_true rfl) (fun H locs hP hS n10 => ?_)
          refine lv_iload_n (pc := 214) hx hb dL_clues_214 rfl (lv_at hl 3 rfl) ?_
          refine lv_icmp_ne (pc := 215) (tgt := 254) hx hb dL_clues_215 (by decide) (fun c11 => ?_) (fun c11 => ?_)
          · have h := (if_neg c11).symm.trans h
            refine lv_iconst (pc := 254) (v := (0 : Int32)) hx hb dL_clues_254 (by decide) ?_
            obtain rfl := som1 h
            exact x_iret E hP hS rfl dL_clues_255
          · have h := (if_pos c11).symm.trans h
            refine lv_aload_n (pc := 218) hx hb dL_clues_218 rfl (lv_at hl 0 rfl) ?_
            refine lv_iconst (pc := 219) (v := (3 : Int32)) hx hb dL_clues_219 (by decide) ?_
            obtain ⟨y12, hy12, h⟩ := bnd_ex h
            refine x_callVi (pc := 220) (st := .int (3 : Int32) :: .ref (ad 0) :: []) (As := [.int (3 : Int32)]) E hEx hl.1 hP hS (kX7_differences hap  M _ _ hy12) gL_31 hdX7_differences rfl (by decide) sh7 rfl ⟨Nat.le_of_ble_eq_true rfl, Nat.le_of_ble_eq_true rfl⟩ ⟨rfl, rfl⟩ dL_clues_220 rfl (Nat.le_of_ble_eq_true rfl) (fun H locs hP hS n13 => ?_)
            refine lv_aload_n (pc := 223) hx hb dL_clues_223 rfl (lv_at hl 0 rfl) ?_
            refine lv_iconst (pc := 224) (v := (0 : Int32)) hx hb dL_clues_224 (by decide) ?_
            obtain ⟨y14, hy14, h⟩ := bnd_ex h
            refine x_callVi (pc := 225) (st := .int (0 : Int32) :: .ref (ad 0) :: .int y12 :: []) (As := [.int (0 : Int32)]) E hEx hl.1 hP hS (kX7_differences hap  M _ _ hy14) gL_31 hdX7_differences rfl (by decide) sh7 rfl ⟨Nat.le_of_ble_eq_true rfl, Nat.le_of_ble_eq_true rfl⟩ ⟨rfl, rfl⟩ dL_clues_225 rfl (Nat.le_of_ble_eq_true rfl) (fun H locs hP hS n15 => ?_)
            refine lv_aload_n (pc := 228) hx hb dL_clues_228 rfl (lv_at hl 0 rfl) ?_
            refine lv_iconst (pc := 229) (v := (1 : Int32)) hx hb dL_clues_229 (by decide) ?_
            obtain ⟨y16, hy16, h⟩ := bnd_ex h
            refine x_callVi (pc := 230) (st := .int (1 : Int32) :: .ref (ad 0) :: .int y14 :: .int y12 :: []) (As := [.int (1 : Int32)]) E hEx hl.1 hP hS (kX7_differences hap  M _ _ hy16) gL_31 hdX7_differences rfl (by decide) sh7 rfl ⟨Nat.le_of_ble_eq_true rfl, Nat.le_of_ble_eq_true rfl⟩ ⟨rfl, rfl⟩ dL_clues_230 rfl (Nat.le_of_ble_eq_true rfl) (fun H locs hP hS n17 => ?_)
            refine lv_iadd (pc := 233) hx hb dL_clues_233 ?_
            refine lv_iload (pc := 234) hx hb dL_clues_234 (lv_at hl 4 rfl) ?_
            refine lv_iadd (pc := 236) hx hb dL_clues_236 ?_
            refine lv_icmp_ne (pc := 237) (tgt := 254) hx hb dL_clues_237 (by decide) (fun c18 => ?_) (fun c18 => ?_)
            · have h := (if_neg c18).symm.trans h
              refine lv_iconst (pc := 254) (v := (0 : Int32)) hx hb dL_clues_254 (by decide) ?_
              obtain rfl := som1 h
              exact x_iret E hP hS rfl dL_clues_255
            · have h := (if_pos c18).symm.trans h
              refine lv_aload_n (pc := 240) hx hb dL_clues_240 rfl (lv_at hl 0 rfl) ?_
              refine lv_iconst (pc := 241) (v := (5 : Int32)) hx hb dL_clues_241 (by decide) ?_
              obtain ⟨y19, hy19, h⟩ := bnd_ex h
              refine x_callVi (pc := 242) (st := .int (5 : Int32) :: .ref (ad 0) :: []) (As := [.int (5 : Int32)]) E hEx hl.1 hP hS (kX7_differences hap  M _ _ hy19) gL_31 hdX7_differences rfl (by decide) sh7 rfl ⟨Nat.le_of_ble_eq_true rfl, Nat.le_of_ble_eq_true rfl⟩ ⟨rfl, rfl⟩ dL_clues_242 rfl (Nat.le_of_ble_eq_true rfl) (fun H locs hP hS n20 => ?_)
              refine lv_bipush (pc := 245) (v := (-2 : Int32)) hx hb dL_clues_245 (by decide) ?_
              refine lv_icmp_ne (pc := 247) (tgt := 254) hx hb dL_clues_247 (by decide) (fun c21 => ?_) (fun c21 => ?_)
              · have h := (if_neg c21).symm.trans h
                refine lv_iconst (pc := 254) (v := (0 : Int32)) hx hb dL_clues_254 (by decide) ?_
                obtain rfl := som1 h
                exact x_iret E hP hS rfl dL_clues_255
              · have h := (if_pos c21).symm.trans h
                refine lv_iconst (pc := 250) (v := (1 : Int32)) hx hb dL_clues_250 (by decide) ?_
                refine lv_goto (pc := 251) (tgt := 255) hx hb dL_clues_251 (by decide) ?_
                obtain rfl := som1 h
                exact x_iret E hP hS rfl dL_clues_255
      · have h := (if_neg c5).symm.trans h
        refine lv_aload_n (pc := 27) hx hb dL_clues_27 rfl (lv_at hl 0 rfl) ?_
        refine lv_iload (pc := 28) hx hb dL_clues_28 (lv_at hl 5 rfl) ?_
        refine lv_iconst (pc := 30) (v := (3 : Int32)) hx hb dL_clues_30 (by decide) ?_
        obtain ⟨y22, hy22, h⟩ := bnd_ex h
        refine x_callVi (pc := 31) (st := .int (3 : Int32) :: .int x5 :: .ref (ad 0) :: []) (As := [.int x5, .int (3 : Int32)]) E hEx hl.1 hP hS (kX7_clue hap  M _ _ _ hy22) gL_34 hdX7_clue rfl (by decide) sh7 rfl ⟨Nat.le_of_ble_eq_true rfl, Nat.le_of_ble_eq_true rfl⟩ ⟨rfl, rfl⟩ dL_clues_31 rfl (Nat.le_of_ble_eq_true rfl) (fun H locs hP hS n23 => ?_)
        refine lv_istore (pc := 34) (lv' := [(6, .int y22), (0, .ref (ad 0)), (1, .int x1), (2, .int x2), (3, .int x3), (4, .int x4), (5, .int x5)]) hx hb dL_clues_34 hl (by decide) rfl (fun ls hl => ?_)
        refine lv_aload_n (pc := 36) hx hb dL_clues_36 rfl (lv_at hl 1 rfl) ?_
        refine lv_aload_n (pc := 37) hx hb dL_clues_37 rfl (lv_at hl 1 rfl) ?_
        refine lv_iload (pc := 38) hx hb dL_clues_38 (lv_at hl 6 rfl) ?_
        refine lv_iconst (pc := 40) (v := (1 : Int32)) hx hb dL_clues_40 (by decide) ?_
        obtain ⟨y24, hy24, h⟩ := bnd_ex h
        refine x_callVi (pc := 41) (st := .int (1 : Int32) :: .int x5 :: .ref (ad 0) :: .ref (ad 0) :: []) (As := [.int x5, .int (1 : Int32)]) E hEx hl.1 hP hS (kX7_clue hap  M _ _ _ hy24) gL_34 hdX7_clue rfl (by decide) sh7 rfl ⟨Nat.le_of_ble_eq_true rfl, Nat.le_of_ble_eq_true rfl⟩ ⟨rfl, rfl⟩ dL_clues_41 rfl (Nat.le_of_ble_eq_true rfl) (fun H locs hP hS n25 => ?_)
        refine lv_bipush (pc := 44) (v := (6 : Int32)) hx hb dL_clues_44 (by decide) ?_
        obtain ⟨y26, hy26, h⟩ := bnd_ex h
        refine x_callVi (pc := 46) (st := .int (6 : Int32) :: .int y24 :: .ref (ad 0) :: []) (As := [.int y24, .int (6 : Int32)]) E hEx hl.1 hP hS (kX7_box hap  M _ _ _ hy26) gL_9 hdX7_box rfl (by decide) sh7 rfl ⟨Nat.le_of_ble_eq_true rfl, Nat.le_of_ble_eq_true rfl⟩ ⟨rfl, rfl⟩ dL_clues_46 rfl (Nat.le_of_ble_eq_true rfl) (fun H locs hP hS n27 => ?_)
        refine lv_istore (pc := 49) (lv' := [(7, .int y26), (6, .int y22), (0, .ref (ad 0)), (1, .int x1), (2, .int x2), (3, .int x3), (4, .int x4), (5, .int x5)]) hx hb dL_clues_49 hl (by decide) rfl (fun ls hl => ?_)
        refine lv_iconst (pc := 51) (v := (1 : Int32)) hx hb dL_clues_51 (by decide) ?_
        refine lv_istore (pc := 52) (lv' := [(8, .int (1 : Int32)), (7, .int y26), (6, .int y22), (0, .ref (ad 0)), (1, .int x1), (2, .int x2), (3, .int x3), (4, .int x4), (5, .int x5)]) hx hb dL_clues_52 hl (by decide) rfl (fun ls hl => ?_)
        refine lv_aload_n (pc := 54) hx hb dL_clues_54 rfl (lv_at hl 3 rfl) ?_
        refine lv_iload (pc := 55) hx hb dL_clues_55 (lv_at hl 8 rfl) ?_
        refine lv_iconst (pc := 57) (v := (2 : Int32)) hx hb dL_clues_57 (by decide) ?_
        obtain ⟨y28, hy28, h⟩ := bnd_ex h
        refine x_callVi (pc := 58) (st := .int (2 : Int32) :: .int x5 :: .ref (ad 0) :: []) (As := [.int x5, .int (2 : Int32)]) E hEx hl.1 hP hS (kX7_clue hap  M _ _ _ hy28) gL_34 hdX7_clue rfl (by decide) sh7 rfl ⟨Nat.le_of_ble_eq_true rfl, Nat.le_of_ble_eq_true rfl⟩ ⟨rfl, rfl⟩ dL_clues_58 rfl (Nat.le_of_ble_eq_true rfl) (fun H locs hP hS n29 => ?_)
        refine lv_istore (pc := 61) (lv' := [(9, .int y28), (8, .int (1 : Int32)), (7, .int y26), (6, .int y22), (0, .ref (ad 0)), (1, .int x1), (2, .int x2), (3, .int x3), (4, .int x4), (5, .int x5)]) hx hb dL_clues_61 hl (by decide) rfl (fun ls hl => ?_)
        refine hI63 M _ H locs (fun z31 z32 z33 z34 z35 z36 z37 z38 ls h hP hS hl => ?_) 5000 x1 x2 x3 x4 x5 y22 y26 (1 : Int32) y28 _ h hP hS (lv_sub hl [4, 5, 6, 7, 8, 9, 3, 2, 1, 0] rfl)
        refine lv_aload_n (pc := 82) hx hb dL_clues_82 rfl (lv_at hl 0 rfl) ?_
        refine lv_iload (pc := 83) hx hb dL_clues_83 (lv_at hl 5 rfl) ?_
        refine lv_iconst (pc := 85) (v := (4 : Int32)) hx hb dL_clues_85 (by decide) ?_
        obtain ⟨y39, hy39, h⟩ := bnd_ex h
        refine x_callVi (pc := 86) (st := .int (4 : Int32) :: .int z35 :: .ref (ad 0) :: []) (As := [.int z35, .int (4 : Int32)]) E hEx hl.1 hP hS (kX7_clue hap  M _ _ _ hy39) gL_34 hdX7_clue rfl (by decide) sh7 rfl ⟨Nat.le_of_ble_eq_true rfl, Nat.le_of_ble_eq_true rfl⟩ ⟨rfl, rfl⟩ dL_clues_86 rfl (Nat.le_of_ble_eq_true rfl) (fun H locs hP hS n40 => ?_)
        refine lv_iload (pc := 89) hx hb dL_clues_89 (lv_at hl 7 rfl) ?_
        refine lv_iload (pc := 91) hx hb dL_clues_91 (lv_at hl 8 rfl) ?_
        obtain ⟨c41, h⟩ := ite_some h
        refine lv_idiv (pc := 93) hx hb dL_clues_93 c41 ?_
        refine lv_bipush (pc := 94) (v := (10 : Int32)) hx hb dL_clues_94 (by decide) ?_
        refine x_irem (pc := 96) hx hb dL_clues_96 (by decide) ?_
        refine lv_icmp_ne (pc := 97) (tgt := 150) hx hb dL_clues_97 (by decide) (fun c42 => ?_) (fun c42 => ?_)
        · have h := (if_neg c42).symm.trans h
          refine lv_iconst (pc := 150) (v := (0 : Int32)) hx hb dL_clues_150 (by decide) ?_
          obtain rfl := som1 h
          exact x_iret E hP hS rfl dL_clues_151
        · have h := (if_pos c42).symm.trans h
          refine lv_aload_n (pc := 100) hx hb dL_clues_100 rfl (lv_at hl 0 rfl) ?_
          refine lv_iload (pc := 101) hx hb dL_clues_101 (lv_at hl 5 rfl) ?_
          refine lv_iconst (pc := 103) (v := (5 : Int32)) hx hb dL_clues_103 (by decide) ?_
          obtain ⟨y43, hy43, h⟩ := bnd_ex h
          refine x_callVi (pc := 104) (st := .int (5 : Int32) :: .int z35 :: .ref (ad 0) :: []) (As := [.int z35, .int (5 : Int32)]) E hEx hl.1 hP hS (kX7_clue hap  M _ _ _ hy43) gL_34 hdX7_clue rfl (by decide) sh7 rfl ⟨Nat.le_of_ble_eq_true rfl, Nat.le_of_ble_eq_true rfl⟩ ⟨rfl, rfl⟩ dL_clues_104 rfl (Nat.le_of_ble_eq_true rfl) (fun H locs hP hS n44 => ?_)
          refine lv_aload_n (pc := 107) hx hb dL_clues_107 rfl (lv_at hl 0 rfl) ?_
          refine lv_aload_n (pc := 108) hx hb dL_clues_108 rfl (lv_at hl 0 rfl) ?_
          refine lv_iload (pc := 109) hx hb dL_clues_109 (lv_at hl 5 rfl) ?_
          refine lv_iconst (pc := 111) (v := (0 : Int32)) hx hb dL_clues_111 (by decide) ?_
          obtain ⟨y45, hy45, h⟩ := bnd_ex h
          refine x_callVi (pc := 112) (st := .int (0 : Int32) :: .int z35 :: .ref (ad 0) :: .ref (ad 0) :: .int y43 :: []) (As := [.int z35, .int (0 : Int32)]) E hEx hl.1 hP hS (kX7_clue hap  M _ _ _ hy45) gL_34 hdX7_clue rfl (by decide) sh7 rfl ⟨Nat.le_of_ble_eq_true rfl, Nat.le_of_ble_eq_true rfl⟩ ⟨rfl, rfl⟩ dL_clues_112 rfl (Nat.le_of_ble_eq_true rfl) (fun H locs hP hS n46 => ?_)
          refine lv_iconst (pc := 115) (v := (2 : Int32)) hx hb dL_clues_115 (by decide) ?_
          obtain ⟨y47, hy47, h⟩ := bnd_ex h
          refine x_callVi (pc := 116) (st := .int (2 : Int32) :: .int y45 :: .ref (ad 0) :: .int y43 :: []) (As := [.int y45, .int (2 : Int32)]) E hEx hl.1 hP hS (kX7_prop hap  M _ _ _ hy47) gL_25 hdX7_prop rfl (by decide) sh7 rfl ⟨Nat.le_of_ble_eq_true rfl, Nat.le_of_ble_eq_true rfl⟩ ⟨rfl, rfl⟩ dL_clues_116 rfl (Nat.le_of_ble_eq_true rfl) (fun H locs hP hS n48 => ?_)
          refine lv_icmp_ne (pc := 119) (tgt := 150) hx hb dL_clues_119 (by decide) (fun c49 => ?_) (fun c49 => ?_)
          · have h := (if_neg c49).symm.trans h
            refine lv_iconst (pc := 150) (v := (0 : Int32)) hx hb dL_clues_150 (by decide) ?_
            obtain rfl := som1 h
            exact x_iret E hP hS rfl dL_clues_151
          · have h := (if_pos c49).symm.trans h
            refine lv_iload (pc := 122) hx hb dL_clues_122 (lv_at hl 6 rfl) ?_
            refine lv_if_lt (pc := 124) (tgt := 150) hx hb dL_clues_124 (by decide) (fun c50 => ?_) (fun c50 => ?_)
            · have h := (if_pos c50).symm.trans h
              refine lv_iconst (pc := 150) (v := (0 : Int32)) hx hb dL_clues_150 (by decide) ?_
              obtain rfl := som1 h
              exact x_iret E hP hS rfl dL_clues_151
            · have h := (if_neg c50).symm.trans h
              refine lv_iload (pc := 127) hx hb dL_clues_127 (lv_at hl 6 rfl) ?_
              refine lv_bipush (pc := 129) (v := (9 : Int32)) hx hb dL_clues_129 (by decide) ?_
              refine lv_icmp_gt (pc := 131) (tgt := 150) hx hb dL_clues_131 (by decide) (fun c51 => ?_) (fun c51 => ?_)
              · have h := (if_pos c51).symm.trans h
                refine lv_iconst (pc := 150) (v := (0 : Int32)) hx hb dL_clues_150 (by decide) ?_
                obtain rfl := som1 h
                exact x_iret E hP hS rfl dL_clues_151
              · have h := (if_neg c51).symm.trans h
                refine lv_aload_n (pc := 134) hx hb dL_clues_134 rfl (lv_at hl 0 rfl) ?_
                refine lv_aload_n (pc := 135) hx hb dL_clues_135 rfl (lv_at hl 0 rfl) ?_
                refine lv_iload (pc := 136) hx hb dL_clues_136 (lv_at hl 5 rfl) ?_
                refine lv_iconst (pc := 138) (v := (1 : Int32)) hx hb dL_clues_138 (by decide) ?_
                obtain ⟨y52, hy52, h⟩ := bnd_ex h
                refine x_callVi (pc := 139) (st := .int (1 : Int32) :: .int z35 :: .ref (ad 0) :: .ref (ad 0) :: []) (As := [.int z35, .int (1 : Int32)]) E hEx hl.1 hP hS (kX7_clue hap  M _ _ _ hy52) gL_34 hdX7_clue rfl (by decide) sh7 rfl ⟨Nat.le_of_ble_eq_true rfl, Nat.le_of_ble_eq_true rfl⟩ ⟨rfl, rfl⟩ dL_clues_139 rfl (Nat.le_of_ble_eq_true rfl) (fun H locs hP hS n53 => ?_)
                refine lv_iconst (pc := 142) (v := (1 : Int32)) hx hb dL_clues_142 (by decide) ?_
                obtain ⟨y54, hy54, h⟩ := bnd_ex h
                refine x_callVi (pc := 143) (st := .int (1 : Int32) :: .int y52 :: .ref (ad 0) :: []) (As := [.int y52, .int (1 : Int32)]) E hEx hl.1 hP hS (kX7_box hap  M _ _ _ hy54) gL_9 hdX7_box rfl (by decide) sh7 rfl ⟨Nat.le_of_ble_eq_true rfl, Nat.le_of_ble_eq_true rfl⟩ ⟨rfl, rfl⟩ dL_clues_143 rfl (Nat.le_of_ble_eq_true rfl) (fun H locs hP hS n55 => ?_)
                refine lv_iconst (pc := 146) (v := (2 : Int32)) hx hb dL_clues_146 (by decide) ?_
                refine lv_icmp_eq (pc := 147) (tgt := 152) hx hb dL_clues_147 (by decide) (fun c56 => ?_) (fun c56 => ?_)
                · have h := (if_pos c56).symm.trans h
                  refine lv_iload_n (pc := 152) hx hb dL_clues_152 rfl (lv_at hl 1 rfl) ?_
                  refine lv_iload (pc := 153) hx hb dL_clues_153 (lv_at hl 6 rfl) ?_
                  refine lv_iconst (pc := 155) (v := (4 : Int32)) hx hb dL_clues_155 (by decide) ?_
                  refine lv_icmp_ge (pc := 156) (tgt := 163) hx hb dL_clues_156 (by decide) (fun c57 => ?_) (fun c57 => ?_)
                  · have h := (if_pos c57).symm.trans h
                    refine lv_iconst (pc := 163) (v := (0 : Int32)) hx hb dL_clues_163 (by decide) ?_
                    refine lv_iadd (pc := 164) hx hb dL_clues_164 ?_
                    refine lv_istore_n (pc := 165) (lv' := [(1, .int (z31 + (0 : Int32))), (0, .ref (ad 0)), (2, .int z32), (3, .int z33), (4, .int z34), (5, .int z35), (6, .int z36), (7, .int z37), (8, .int z38)]) hx hb dL_clues_165 rfl hl (by decide) rfl (fun ls hl => ?_)
                    refine lv_iload (pc := 166) hx hb dL_clues_166 (lv_at hl 6 rfl) ?_
                    refine lv_iconst (pc := 168) (v := (4 : Int32)) hx hb dL_clues_168 (by decide) ?_
                    refine lv_icmp_ge (pc := 169) (tgt := 194) hx hb dL_clues_169 (by decide) (fun c58 => ?_) (fun c58 => ?_)
                    · have h := (if_pos c58).symm.trans h
                      refine lv_iinc (pc := 194) (v := (z35 + 1)) (lv' := [(5, .int (z35 + 1)), (1, .int (z31 + (0 : Int32))), (0, .ref (ad 0)), (2, .int z32), (3, .int z33), (4, .int z34), (6, .int z36), (7, .int z37), (8, .int z38)]) hx hb dL_clues_194 hl (k := 5) rfl rfl (by decide) rfl (fun ls hl => ?_)
                      refine lv_goto (pc := 197) (tgt := 17) hx hb dL_clues_197 (by decide) ?_
                      exact ih M (z31 + (0 : Int32)) z32 z33 z34 (z35 + 1) _ _ _ h hP hS (lv_sub hl [2, 1, 3, 4, 5, 0] rfl)
                    · have h := (if_neg c58).symm.trans h
                      refine lv_bipush (pc := 172) (v := (9 : Int32)) hx hb dL_clues_172 (by decide) ?_
                      refine lv_iload (pc := 174) hx hb dL_clues_174 (lv_at hl 6 rfl) ?_
                      refine lv_isub (pc := 176) hx hb dL_clues_176 ?_
                      refine lv_iload_n (pc := 177) hx hb dL_clues_177 rfl (lv_at hl 2 rfl) ?_
                      refine lv_iload_n (pc := 178) hx hb dL_clues_178 rfl (lv_at hl 3 rfl) ?_
                      refine lv_isub (pc := 179) hx hb dL_clues_179 ?_
                      refine lv_icmp_gt (pc := 180) (tgt := 194) hx hb dL_clues_180 (by decide) (fun c59 => ?_) (fun c59 => ?_)
                      · have h := (if_pos c59).symm.trans h
                        refine lv_iinc (pc := 194) (v := (z35 + 1)) (lv' := [(5, .int (z35 + 1)), (1, .int (z31 + (0 : Int32))), (0, .ref (ad 0)), (2, .int z32), (3, .int z33), (4, .int z34), (6, .int z36), (7, .int z37), (8, .int z38)]) hx hb dL_clues_194 hl (k := 5) rfl rfl (by decide) rfl (fun ls hl => ?_)
                        refine lv_goto (pc := 197) (tgt := 17) hx hb dL_clues_197 (by decide) ?_
                        exact ih M (z31 + (0 : Int32)) z32 z33 z34 (z35 + 1) _ _ _ h hP hS (lv_sub hl [2, 1, 3, 4, 5, 0] rfl)
                      · have h := (if_neg c59).symm.trans h
                        refine lv_iload_n (pc := 183) hx hb dL_clues_183 rfl (lv_at hl 3 rfl) ?_
                        refine lv_bipush (pc := 184) (v := (9 : Int32)) hx hb dL_clues_184 (by decide) ?_
                        refine lv_iload (pc := 186) hx hb dL_clues_186 (lv_at hl 6 rfl) ?_
                        refine lv_isub (pc := 188) hx hb dL_clues_188 ?_
                        refine lv_iadd (pc := 189) hx hb dL_clues_189 ?_
                        obtain ⟨y60, hy60, h⟩ := thn_ex h
                        refine W.eq (g2 := F0 m 190 ls (.int y60 :: [])) (by rw [← hy60]) ?_
                        refine lv_istore_n (pc := 190) (lv' := [(3, .int y60), (1, .int (z31 + (0 : Int32))), (0, .ref (ad 0)), (2, .int z32), (4, .int z34), (5, .int z35), (6, .int z36), (7, .int z37), (8, .int z38)]) hx hb dL_clues_190 rfl hl (by decide) rfl (fun ls hl => ?_)
                        refine lv_iinc (pc := 191) (v := (z34 + 1)) (lv' := [(4, .int (z34 + 1)), (3, .int y60), (1, .int (z31 + (0 : Int32))), (0, .ref (ad 0)), (2, .int z32), (5, .int z35), (6, .int z36), (7, .int z37), (8, .int z38)]) hx hb dL_clues_191 hl (k := 4) rfl rfl (by decide) rfl (fun ls hl => ?_)
                        refine lv_iinc (pc := 194) (v := (z35 + 1)) (lv' := [(5, .int (z35 + 1)), (4, .int (z34 + 1)), (3, .int y60), (1, .int (z31 + (0 : Int32))), (0, .ref (ad 0)), (2, .int z32), (6, .int z36), (7, .int z37), (8, .int z38)]) hx hb dL_clues_194 hl (k := 5) rfl rfl (by decide) rfl (fun ls hl => ?_)
                        refine lv_goto (pc := 197) (tgt := 17) hx hb dL_clues_197 (by decide) ?_
                        exact ih M (z31 + (0 : Int32)) z32 y60 (z34 + 1) (z35 + 1) _ _ _ h hP hS (lv_sub hl [4, 3, 5, 2, 1, 0] rfl)
                  · have h := (if_neg c57).symm.trans h
                    refine lv_iconst (pc := 159) (v := (1 : Int32)) hx hb dL_clues_159 (by decide) ?_
                    refine lv_goto (pc := 160) (tgt := 164) hx hb dL_clues_160 (by decide) ?_
                    refine lv_iadd (pc := 164) hx hb dL_clues_164 ?_
                    refine lv_istore_n (pc := 165) (lv' := [(1, .int (z31 + (1 : Int32))), (0, .ref (ad 0)), (2, .int z32), (3, .int z33), (4, .int z34), (5, .int z35), (6, .int z36), (7, .int z37), (8, .int z38)]) hx hb dL_clues_165 rfl hl (by decide) rfl (fun ls hl => ?_)
                    refine lv_iload (pc := 166) hx hb dL_clues_166 (lv_at hl 6 rfl) ?_
                    refine lv_iconst (pc := 168) (v := (4 : Int32)) hx hb dL_clues_168 (by decide) ?_
                    refine lv_icmp_ge (pc := 169) (tgt := 194) hx hb dL_clues_169 (by decide) (fun c61 => ?_) (fun c61 => ?_)
                    · have h := (if_pos c61).symm.trans h
                      refine lv_iinc (pc := 194) (v := (z35 + 1)) (lv' := [(5, .int (z35 + 1)), (1, .int (z31 + (1 : Int32))), (0, .ref (ad 0)), (2, .int z32), (3, .int z33), (4, .int z34), (6, .int z36), (7, .int z37), (8, .int z38)]) hx hb dL_clues_194 hl (k := 5) rfl rfl (by decide) rfl (fun ls hl => ?_)
                      refine lv_goto (pc := 197) (tgt := 17) hx hb dL_clues_197 (by decide) ?_
                      exact ih M (z31 + (1 : Int32)) z32 z33 z34 (z35 + 1) _ _ _ h hP hS (lv_sub hl [2, 1, 3, 4, 5, 0] rfl)
                    · have h := (if_neg c61).symm.trans h
                      refine lv_bipush (pc := 172) (v := (9 : Int32)) hx hb dL_clues_172 (by decide) ?_
                      refine lv_iload (pc := 174) hx hb dL_clues_174 (lv_at hl 6 rfl) ?_
                      refine lv_isub (pc := 176) hx hb dL_clues_176 ?_
                      refine lv_iload_n (pc := 177) hx hb dL_clues_177 rfl (lv_at hl 2 rfl) ?_
                      refine lv_iload_n (pc := 178) hx hb dL_clues_178 rfl (lv_at hl 3 rfl) ?_
                      refine lv_isub (pc := 179) hx hb dL_clues_179 ?_
                      refine lv_icmp_gt (pc := 180) (tgt := 194) hx hb dL_clues_180 (by decide) (fun c62 => ?_) (fun c62 => ?_)
                      · have h := (if_pos c62).symm.trans h
                        refine lv_iinc (pc := 194) (v := (z35 + 1)) (lv' := [(5, .int (z35 + 1)), (1, .int (z31 + (1 : Int32))), (0, .ref (ad 0)), (2, .int z32), (3, .int z33), (4, .int z34), (6, .int z36), (7, .int z37), (8, .int z38)]) hx hb dL_clues_194 hl (k := 5) rfl rfl (by decide) rfl (fun ls hl => ?_)
                        refine lv_goto (pc := 197) (tgt := 17) hx hb dL_clues_197 (by decide) ?_
                        exact ih M (z31 + (1 : Int32)) z32 z33 z34 (z35 + 1) _ _ _ h hP hS (lv_sub hl [2, 1, 3, 4, 5, 0] rfl)
                      · have h := (if_neg c62).symm.trans h
                        refine lv_iload_n (pc := 183) hx hb dL_clues_183 rfl (lv_at hl 3 rfl) ?_
                        refine lv_bipush (pc := 184) (v := (9 : Int32)) hx hb dL_clues_184 (by decide) ?_
                        refine lv_iload (pc := 186) hx hb dL_clues_186 (lv_at hl 6 rfl) ?_
                        refine lv_isub (pc := 188) hx hb dL_clues_188 ?_
                        refine lv_iadd (pc := 189) hx hb dL_clues_189 ?_
                        obtain ⟨y63, hy63, h⟩ := thn_ex h
                        refine W.eq (g2 := F0 m 190 ls (.int y63 :: [])) (by rw [← hy63]) ?_
                        refine lv_istore_n (pc := 190) (lv' := [(3, .int y63), (1, .int (z31 + (1 : Int32))), (0, .ref (ad 0)), (2, .int z32), (4, .int z34), (5, .int z35), (6, .int z36), (7, .int z37), (8, .int z38)]) hx hb dL_clues_190 rfl hl (by decide) rfl (fun ls hl => ?_)
                        refine lv_iinc (pc := 191) (v := (z34 + 1)) (lv' := [(4, .int (z34 + 1)), (3, .int y63), (1, .int (z31 + (1 : Int32))), (0, .ref (ad 0)), (2, .int z32), (5, .int z35), (6, .int z36), (7, .int z37), (8, .int z38)]) hx hb dL_clues_191 hl (k := 4) rfl rfl (by decide) rfl (fun ls hl => ?_)
                        refine lv_iinc (pc := 194) (v := (z35 + 1)) (lv' := [(5, .int (z35 + 1)), (4, .int (z34 + 1)), (3, .int y63), (1, .int (z31 + (1 : Int32))), (0, .ref (ad 0)), (2, .int z32), (6, .int z36), (7, .int z37), (8, .int z38)]) hx hb dL_clues_194 hl (k := 5) rfl rfl (by decide) rfl (fun ls hl => ?_)
                        refine lv_goto (pc := 197) (tgt := 17) hx hb dL_clues_197 (by decide) ?_
                        exact ih M (z31 + (1 : Int32)) z32 y63 (z34 + 1) (z35 + 1) _ _ _ h hP hS (lv_sub hl [4, 3, 5, 2, 1, 0] rfl)
                · have h := (if_neg c56).symm.trans h
                  refine lv_iconst (pc := 150) (v := (0 : Int32)) hx hb dL_clues_150 (by decide) ?_
                  obtain rfl := som1 h
                  exact x_iret E hP hS rfl dL_clues_151
  unfold fL_clues at h
  refine lv_iconst (pc := 0) (v := (0 : Int32)) hx hb dL_clues_0 (by decide) ?_
  refine lv_istore_n (pc := 1) (lv' := [(1, .int (0 : Int32)), (0, .ref (ad 0))]) hx hb dL_clues_1 rfl hl (by decide) rfl (fun ls hl => ?_)
  refine lv_aload_n (pc := 2) hx hb dL_clues_2 rfl (lv_at hl 1 rfl) ?_
  refine lv_bipush (pc := 3) (v := (6 : Int32)) hx hb dL_clues_3 (by decide) ?_
  obtain ⟨y1, hy1, h⟩ := bnd_ex h
  refine x_callVi (pc := 5) (st := .int (6 : Int32) :: .ref (ad 0) :: []) (As := [.int (6 : Int32)]) E hEx hl.1 hP hS (kX7_count hap  M _ _ hy1) gL_15 hdX7_count rfl (by decide) sh7 rfl ⟨Nat.le_of_ble_eq_true rfl, Nat.le_of_ble_eq_true rfl⟩ ⟨rfl, rfl⟩ dL_clues_5 rfl (Nat.le_of_ble_eq_true rfl) (fun H locs hP hS n2 => ?_)
  refine lv_istore_n (pc := 8) (lv' := [(2, .int y1), (1, .int (0 : Int32)), (0, .ref (ad 0))]) hx hb dL_clues_8 rfl hl (by decide) rfl (fun ls hl => ?_)
  refine lv_iconst (pc := 9) (v := (0 : Int32)) hx hb dL_clues_9 (by decide) ?_
  refine lv_istore_n (pc := 10) (lv' := [(3, .int (0 : Int32)), (2, .int y1), (1, .int (0 : Int32)), (0, .ref (ad 0))]) hx hb dL_clues_10 rfl hl (by decide) rfl (fun ls hl => ?_)
  refine lv_iconst (pc := 11) (v := (0 : Int32)) hx hb dL_clues_11 (by decide) ?_
  refine lv_istore (pc := 12) (lv' := [(4, .int (0 : Int32)), (3, .int (0 : Int32)), (2, .int y1), (1, .int (0 : Int32)), (0, .ref (ad 0))]) hx hb dL_clues_12 hl (by decide) rfl (fun ls hl => ?_)
  refine lv_iconst (pc := 14) (v := (0 : Int32)) hx hb dL_clues_14 (by decide) ?_
  refine lv_istore (pc := 15) (lv' := [(5, .int (0 : Int32)), (4, .int (0 : Int32)), (3, .int (0 : Int32)), (2, .int y1), (1, .int (0 : Int32)), (0, .ref (ad 0))]) hx hb dL_clues_15 hl (by decide) rfl (fun ls hl => ?_)
  exact hL17 5000 M (0 : Int32) y1 (0 : Int32) (0 : Int32) (0 : Int32) _ _ _ h hP hS (lv_sub hl [5, 4, 3, 2, 1, 0] rfl)
set_option maxRecDepth 100000 in
set_option maxHeartbeats 4000000 in
theorem kL_groups (hap : Apart 78 ad)   (M : Mem)  (v : Int32) (h : fL_groups M = some v) : XI G ad sK sV cA cZ cC yL_groups cL_groups 7 .boolean ({ frames := 4, cells := 0, slots := 0, locals := 85 } : Room) [.ref (ad 0)] M v M := by
  refine CI.mk (own := RL) (ls0 := [(0, .ref (ad 0))]) (by decide +kernel) rfl hap (Nat.le_of_ble_eq_true rfl) rfl ?_
  intro p l e s m args below meth c ls E hP hl
  have hx := E.1
  have hb := E.2.1
  have hown := E.2.2.2.2.2.1
  have hts := E.2.2.2.2.2.2.1
  have hNe := E.2.2.2.2.2.2.2.2.1.1
  have hEx := ExX.ok ad sK sV
  have hS : va_S (AW 78 ad) s.heap s.heap [] := va_S.rf
  have hL141 : ∀ (n : Nat) (M : Mem) (x1 x2 x4 : Int32) (H : Heap) (locs : List Loc) (ls : Array Slot), fL_groups_L141 n M x1 x2 x4 = some v → va_P G vwCl (WW 78 (shX cA ad) ad M) H → va_S (AW 78 ad) s.heap H locs → lv_has ls 7 [(0, .ref (ad 0)), (1, .int x1), (2, .int x2), (4, .int x4)] → W p l e ({ frames := 4, cells := 0, slots := 0, locals := 85 } : Room) s m args below meth c H locs 0 0 (QI below G 78 (shX cA ad) ad .boolean args s v M) (F0 m 141 ls []) := by
    intro n
    induction n with
    | zero => intro M x1 x2 x4 H locs ls h; cases h
    | succ n ih =>
      intro M x1 x2 x4 H locs ls h hP hS hl
      rw [fL_groups_L141] at h
      refine lv_iload (pc := 141) hx hb dL_groups_141 (lv_at hl 3 rfl) ?_
      refine lv_aload_n (pc := 143) hx hb dL_groups_143 rfl (lv_at hl 0 rfl) ?_
      refine lv_bipush (pc := 144) (v := (7 : Int32)) hx hb dL_groups_144 (by decide) ?_
      obtain ⟨y9, hy9, h⟩ := bnd_ex h
      refine x_callVi (pc := 146) (st := .int (7 : Int32) :: .ref (ad 0) :: .int x4 :: []) (As := [.int (7 : Int32)]) E hEx hl.1 hP hS (kX7_count hap  M _ _ hy9) gL_15 hdX7_count rfl (by decide) sh7 rfl ⟨Nat.le_of_ble_eq_true rfl, Nat.le_of_ble_eq_true rfl⟩ ⟨rfl, rfl⟩ dL_groups_146 rfl (Nat.le_of_ble_eq_true rfl) (fun H locs hP hS n10 => ?_)
      refine lv_icmp_ge (pc := 149) (tgt := 211) hx hb dL_groups_149 (by decide) (fun c11 => ?_) (fun c11 => ?_)
      · have h := (if_pos c11).symm.trans h
        refine lv_aload_n (pc := 211) hx hb dL_groups_211 rfl (lv_at hl 0 rfl) ?_
        refine lv_iconst (pc := 212) (v := (4 : Int32)) hx hb dL_groups_212 (by decide) ?_
        obtain ⟨y12, hy12, h⟩ := bnd_ex h
        refine x_callVi (pc := 213) (st := .int (4 : Int32) :: .ref (ad 0) :: []) (As := [.int (4 : Int32)]) E hEx hl.1 hP hS (kX7_count hap  M _ _ hy12) gL_15 hdX7_count rfl (by decide) sh7 rfl ⟨Nat.le_of_ble_eq_true rfl, Nat.le_of_ble_eq_true rfl⟩ ⟨rfl, rfl⟩ dL_groups_213 rfl (Nat.le_of_ble_eq_true rfl) (fun H locs hP hS n13 => ?_)
        refine lv_iload_n (pc := 216) hx hb dL_groups_216 rfl (lv_at hl 1 rfl) ?_
        refine lv_icmp_ne (pc := 217) (tgt := 263) hx hb dL_groups_217 (by decide) (fun c14 => ?_) (fun c14 => ?_)
        · have h := (if_neg c14).symm.trans h
          refine lv_iconst (pc := 263) (v := (0 : Int32)) hx hb dL_groups_263 (by decide) ?_
          obtain rfl := som1 h
          exact x_iret E hP hS rfl dL_groups_264
        · have h := (if_pos c14).symm.trans h
          refine lv_aload_n (pc := 220) hx hb dL_groups_220 rfl (lv_at hl 0 rfl) ?_
          refine lv_bipush (pc := 221) (v := (8 : Int32)) hx hb dL_groups_221 (by decide) ?_
          obtain ⟨y15, hy15, h⟩ := bnd_ex h
          refine x_callVi (pc := 223) (st := .int (8 : Int32) :: .ref (ad 0) :: []) (As := [.int (8 : Int32)]) E hEx hl.1 hP hS (kX7_count hap  M _ _ hy15) gL_15 hdX7_count rfl (by decide) sh7 rfl ⟨Nat.le_of_ble_eq_true rfl, Nat.le_of_ble_eq_true rfl⟩ ⟨rfl, rfl⟩ dL_groups_223 rfl (Nat.le_of_ble_eq_true rfl) (fun H locs hP hS n16 => ?_)
          refine lv_iload_n (pc := 226) hx hb dL_groups_226 rfl (lv_at hl 2 rfl) ?_
          refine lv_icmp_ne (pc := 227) (tgt := 263) hx hb dL_groups_227 (by decide) (fun c17 => ?_) (fun c17 => ?_)
          · have h := (if_neg c17).symm.trans h
            refine lv_iconst (pc := 263) (v := (0 : Int32)) hx hb dL_groups_263 (by decide) ?_
            obtain rfl := som1 h
            exact x_iret E hP hS rfl dL_groups_264
          · have h := (if_pos c17).symm.trans h
            refine lv_aload_n (pc := 230) hx hb dL_groups_230 rfl (lv_at hl 0 rfl) ?_
            refine lv_aload_n (pc := 231) hx hb dL_groups_231 rfl (lv_at hl 0 rfl) ?_
            refine lv_iconst (pc := 232) (v := (3 : Int32)) hx hb dL_groups_232 (by decide) ?_
            obtain ⟨y18, hy18, h⟩ := bnd_ex h
            refine x_callVi (pc := 233) (st := .int (3 : Int32) :: .ref (ad 0) :: .ref (ad 0) :: []) (As := [.int (3 : Int32)]) E hEx hl.1 hP hS (kX7_count hap  M _ _ hy18) gL_15 hdX7_count rfl (by decide) sh7 rfl ⟨Nat.le_of_ble_eq_true rfl, Nat.le_of_ble_eq_true rfl⟩ ⟨rfl, rfl⟩ dL_groups_233 rfl (Nat.le_of_ble_eq_true rfl) (fun H locs hP hS n19 => ?_)
            refine lv_iconst (pc := 236) (v := (0 : Int32)) hx hb dL_groups_236 (by decide) ?_
            obtain ⟨y20, hy20, h⟩ := bnd_ex h
            refine x_callVi (pc := 237) (st := .int (0 : Int32) :: .int y18 :: .ref (ad 0) :: []) (As := [.int y18, .int (0 : Int32)]) E hEx hl.1 hP hS (kX7_group hap  M _ _ _ hy20) gL_37 hdX7_group rfl (by decide) sh7 rfl ⟨Nat.le_of_ble_eq_true rfl, Nat.le_of_ble_eq_true rfl⟩ ⟨rfl, rfl⟩ dL_groups_237 rfl (Nat.le_of_ble_eq_true rfl) (fun H locs hP hS n21 => ?_)
            refine lv_iconst (pc := 240) (v := (-1 : Int32)) hx hb dL_groups_240 (by decide) ?_
            refine lv_icmp_ne (pc := 241) (tgt := 263) hx hb dL_groups_241 (by decide) (fun c22 => ?_) (fun c22 => ?_)
            · have h := (if_neg c22).symm.trans h
              refine lv_iconst (pc := 263) (v := (0 : Int32)) hx hb dL_groups_263 (by decide) ?_
              obtain rfl := som1 h
              exact x_iret E hP hS rfl dL_groups_264
            · have h := (if_pos c22).symm.trans h
              refine lv_aload_n (pc := 244) hx hb dL_groups_244 rfl (lv_at hl 0 rfl) ?_
              refine lv_aload_n (pc := 245) hx hb dL_groups_245 rfl (lv_at hl 0 rfl) ?_
              refine lv_bipush (pc := 246) (v := (7 : Int32)) hx hb dL_groups_246 (by decide) ?_
              obtain ⟨y23, hy23, h⟩ := bnd_ex h
              refine x_callVi (pc := 248) (st := .int (7 : Int32) :: .ref (ad 0) :: .ref (ad 0) :: []) (As := [.int (7 : Int32)]) E hEx hl.1 hP hS (kX7_count hap  M _ _ hy23) gL_15 hdX7_count rfl (by decide) sh7 rfl ⟨Nat.le_of_ble_eq_true rfl, Nat.le_of_ble_eq_true rfl⟩ ⟨rfl, rfl⟩ dL_groups_248 rfl (Nat.le_of_ble_eq_true rfl) (fun H locs hP hS n24 => ?_)
              refine lv_iconst (pc := 251) (v := (0 : Int32)) hx hb dL_groups_251 (by decide) ?_
              refine x_callVi (pc := 252) (st := .int (0 : Int32) :: .int y23 :: .ref (ad 0) :: []) (As := [.int y23, .int (0 : Int32)]) E hEx hl.1 hP hS (kX7_result hap  M _ _ _ rfl) gL_43 hdX7_result rfl (by decide) sh7 rfl ⟨Nat.le_of_ble_eq_true rfl, Nat.le_of_ble_eq_true rfl⟩ ⟨rfl, rfl⟩ dL_groups_252 rfl (Nat.le_of_ble_eq_true rfl) (fun H locs hP hS n25 => ?_)
              refine lv_iconst (pc := 255) (v := (-1 : Int32)) hx hb dL_groups_255 (by decide) ?_
              refine lv_icmp_ne (pc := 256) (tgt := 263) hx hb dL_groups_256 (by decide) (fun c26 => ?_) (fun c26 => ?_)
              · have h := (if_neg c26).symm.trans h
                refine lv_iconst (pc := 263) (v := (0 : Int32)) hx hb dL_groups_263 (by decide) ?_
                obtain rfl := som1 h
                exact x_iret E hP hS rfl dL_groups_264
              · have h := (if_pos c26).symm.trans h
                refine lv_iconst (pc := 259) (v := (1 : Int32)) hx hb dL_groups_259 (by decide) ?_
                refine lv_goto (pc := 260) (tgt := 264) hx hb dL_groups_260 (by decide) ?_
                obtain rfl := som1 h
                exact x_iret E hP hS rfl dL_groups_264
      · have h := (if_neg c11).symm.trans h
        refine lv_iload_n (pc := 152) hx hb dL_groups_152 rfl (lv_at hl 2 rfl) ?_
        refine lv_aload_n (pc := 153) hx hb dL_groups_153 rfl (lv_at hl 0 rfl) ?_
        refine lv_iload (pc := 154) hx hb dL_groups_154 (lv_at hl 3 rfl) ?_
        refine lv_iconst (pc := 156) (v := (4 : Int32)) hx hb dL_groups_156 (by decide) ?_
        refine x_callVi (pc := 157) (st := .int (4 : Int32) :: .int x4 :: .ref (ad 0) :: .int x2 :: []) (As := [.int x4, .int (4 : Int32)]) E hEx hl.1 hP hS (kX7_result hap  M _ _ _ rfl) gL_43 hdX7_result rfl (by decide) sh7 rfl ⟨Nat.le_of_ble_eq_true rfl, Nat.le_of_ble_eq_true rfl⟩ ⟨rfl, rfl⟩ dL_groups_157 rfl (Nat.le_of_ble_eq_true rfl) (fun H locs hP hS n27 => ?_)
        refine lv_iadd (pc := 160) hx hb dL_groups_160 ?_
        obtain ⟨y28, hy28, h⟩ := thn_ex h
        refine W.eq (g2 := F0 m 161 ls (.int y28 :: [])) (by rw [← hy28]) ?_
        refine lv_istore_n (pc := 161) (lv' := [(2, .int y28), (0, .ref (ad 0)), (1, .int x1), (4, .int x4)]) hx hb dL_groups_161 rfl hl (by decide) rfl (fun ls hl => ?_)
        refine lv_aload_n (pc := 162) hx hb dL_groups_162 rfl (lv_at hl 1 rfl) ?_
        refine lv_iload (pc := 163) hx hb dL_groups_163 (lv_at hl 3 rfl) ?_
        refine lv_iconst (pc := 165) (v := (2 : Int32)) hx hb dL_groups_165 (by decide) ?_
        refine x_callVi (pc := 166) (st := .int (2 : Int32) :: .int x4 :: .ref (ad 0) :: []) (As := [.int x4, .int (2 : Int32)]) E hEx hl.1 hP hS (kX7_result hap  M _ _ _ rfl) gL_43 hdX7_result rfl (by decide) sh7 rfl ⟨Nat.le_of_ble_eq_true rfl, Nat.le_of_ble_eq_true rfl⟩ ⟨rfl, rfl⟩ dL_groups_166 rfl (Nat.le_of_ble_eq_true rfl) (fun H locs hP hS n29 => ?_)
        refine lv_aload_n (pc := 169) hx hb dL_groups_169 rfl (lv_at hl 1 rfl) ?_
        refine lv_iload (pc := 170) hx hb dL_groups_170 (lv_at hl 3 rfl) ?_
        refine lv_iconst (pc := 172) (v := (1 : Int32)) hx hb dL_groups_172 (by decide) ?_
        refine x_callVi (pc := 173) (st := .int (1 : Int32) :: .int x4 :: .ref (ad 0) :: .int (fX7_result M x4 (2 : Int32)) :: []) (As := [.int x4, .int (1 : Int32)]) E hEx hl.1 hP hS (kX7_result hap  M _ _ _ rfl) gL_43 hdX7_result rfl (by decide) sh7 rfl ⟨Nat.le_of_ble_eq_true rfl, Nat.le_of_ble_eq_true rfl⟩ ⟨rfl, rfl⟩ dL_groups_173 rfl (Nat.le_of_ble_eq_true rfl) (fun H locs hP hS n30 => ?_)
        refine lv_icmp_lt (pc := 176) (tgt := 203) hx hb dL_groups_176 (by decide) (fun c31 => ?_) (fun c31 => ?_)
        · have h := (if_pos c31).symm.trans h
          refine lv_iconst (pc := 203) (v := (0 : Int32)) hx hb dL_groups_203 (by decide) ?_
          obtain rfl := som1 h
          exact x_iret E hP hS rfl dL_groups_204
        · have h := (if_neg c31).symm.trans h
          refine lv_aload_n (pc := 179) hx hb dL_groups_179 rfl (lv_at hl 1 rfl) ?_
          refine lv_iload (pc := 180) hx hb dL_groups_180 (lv_at hl 3 rfl) ?_
          refine lv_iconst (pc := 182) (v := (3 : Int32)) hx hb dL_groups_182 (by decide) ?_
          refine x_callVi (pc := 183) (st := .int (3 : Int32) :: .int x4 :: .ref (ad 0) :: []) (As := [.int x4, .int (3 : Int32)]) E hEx hl.1 hP hS (kX7_result hap  M _ _ _ rfl) gL_43 hdX7_result rfl (by decide) sh7 rfl ⟨Nat.le_of_ble_eq_true rfl, Nat.le_of_ble_eq_true rfl⟩ ⟨rfl, rfl⟩ dL_groups_183 rfl (Nat.le_of_ble_eq_true rfl) (fun H locs hP hS n32 => ?_)
          refine lv_bipush (pc := 186) (v := (120 : Int32)) hx hb dL_groups_186 (by decide) ?_
          refine lv_icmp_gt (pc := 188) (tgt := 203) hx hb dL_groups_188 (by decide) (fun c33 => ?_) (fun c33 => ?_)
          · have h := (if_pos c33).symm.trans h
            refine lv_iconst (pc := 203) (v := (0 : Int32)) hx hb dL_groups_203 (by decide) ?_
            obtain rfl := som1 h
            exact x_iret E hP hS rfl dL_groups_204
          · have h := (if_neg c33).symm.trans h
            refine lv_aload_n (pc := 191) hx hb dL_groups_191 rfl (lv_at hl 1 rfl) ?_
            refine lv_iload (pc := 192) hx hb dL_groups_192 (lv_at hl 3 rfl) ?_
            refine lv_iconst (pc := 194) (v := (5 : Int32)) hx hb dL_groups_194 (by decide) ?_
            refine x_callVi (pc := 195) (st := .int (5 : Int32) :: .int x4 :: .ref (ad 0) :: []) (As := [.int x4, .int (5 : Int32)]) E hEx hl.1 hP hS (kX7_result hap  M _ _ _ rfl) gL_43 hdX7_result rfl (by decide) sh7 rfl ⟨Nat.le_of_ble_eq_true rfl, Nat.le_of_ble_eq_true rfl⟩ ⟨rfl, rfl⟩ dL_groups_195 rfl (Nat.le_of_ble_eq_true rfl) (fun H locs hP hS n34 => ?_)
            refine lv_bipush (pc := 198) (v := (9 : Int32)) hx hb dL_groups_198 (by decide) ?_
            refine lv_icmp_le (pc := 200) (tgt := 205) hx hb dL_groups_200 (by decide) (fun c35 => ?_) (fun c35 => ?_)
            · have h := (if_pos c35).symm.trans h
              refine lv_iinc (pc := 205) (v := (x4 + 1)) (lv' := [(4, .int (x4 + 1)), (2, .int y28), (0, .ref (ad 0)), (1, .int x1)]) hx hb dL_groups_205 hl (k := 3) rfl rfl (by decide) rfl (fun ls hl => ?_)
              refine lv_goto (pc := 208) (tgt := 141) hx hb dL_groups_208 (by decide) ?_
              exact ih M x1 y28 (x4 + 1) _ _ _ h hP hS (lv_sub hl [2, 3, 1, 0] rfl)
            · have h := (if_neg c35).symm.trans h
              refine lv_iconst (pc := 203) (v := (0 : Int32)) hx hb dL_groups_203 (by decide) ?_
              obtain rfl := som1 h
              exact x_iret E hP hS rfl dL_groups_204
  have hL41 : ∀ (n : Nat) (M : Mem) (x1 x2 x3 x4 : Int32) (H : Heap) (locs : List Loc) (ls : Array Slot), fL_groups_L41 n M x1 x2 x3 x4 = some v → va_P G vwCl (WW 78 (shX cA ad) ad M) H → va_S (AW 78 ad) s.heap H locs → lv_has ls 7 [(0, .ref (ad 0)), (1, .int x1), (2, .int x2), (3, .int x3), (4, .int x4)] → W p l e ({ frames := 4, cells := 0, slots := 0, locals := 85 } : Room) s m args below meth c H locs 0 0 (QI below G 78 (shX cA ad) ad .boolean args s v M) (F0 m 41 ls []) := by
    intro n
    induction n with
    | zero => intro M x1 x2 x3 x4 H locs ls h; cases h
    | succ n ih =>
      intro M x1 x2 x3 x4 H locs ls h hP hS hl
      rw [fL_groups_L41] at h
      refine lv_iload (pc := 41) hx hb dL_groups_41 (lv_at hl 4 rfl) ?_
      refine lv_aload_n (pc := 43) hx hb dL_groups_43 rfl (lv_at hl 0 rfl) ?_
      refine lv_iconst (pc := 44) (v := (3 : Int32)) hx hb dL_groups_44 (by decide) ?_
      obtain ⟨y6, hy6, h⟩ := bnd_ex h
      refine x_callVi (pc := 45) (st := .int (3 : Int32) :: .ref (ad 0) :: .int x4 :: []) (As := [.int (3 : Int32)]) E hEx hl.1 hP hS (kX7_count hap  M _ _ hy6) gL_15 hdX7_count rfl (by decide) sh7 rfl ⟨Nat.le_of_ble_eq_true rfl, Nat.le_of_ble_eq_true rfl⟩ ⟨rfl, rfl⟩ dL_groups_45 rfl (Nat.le_of_ble_eq_true rfl) (fun H locs hP hS n7 => ?_)
      refine lv_icmp_ge (pc := 48) (tgt := 138) hx hb dL_groups_48 (by decide) (fun c8 => ?_) (fun c8 => ?_)
      · have h := (if_pos c8).symm.trans h
        refine lv_iconst (pc := 138) (v := (0 : Int32)) hx hb dL_groups_138 (by decide) ?_
        refine lv_istore (pc := 139) (lv' := [(4, .int (0 : Int32)), (0, .ref (ad 0)), (1, .int x1), (2, .int x2), (3, .int x3)]) hx hb dL_groups_139 hl (by decide) rfl (fun ls hl => ?_)
        exact hL141 5000 M x1 x2 (0 : Int32) _ _ _ h hP hS (lv_sub hl [1, 2, 3, 0] rfl)
      · have h := (if_neg c8).symm.trans h
        refine lv_aload_n (pc := 51) hx hb dL_groups_51 rfl (lv_at hl 0 rfl) ?_
        refine lv_iload (pc := 52) hx hb dL_groups_52 (lv_at hl 4 rfl) ?_
        refine lv_iconst (pc := 54) (v := (1 : Int32)) hx hb dL_groups_54 (by decide) ?_
        obtain ⟨y36, hy36, h⟩ := bnd_ex h
        refine x_callVi (pc := 55) (st := .int (1 : Int32) :: .int x4 :: .ref (ad 0) :: []) (As := [.int x4, .int (1 : Int32)]) E hEx hl.1 hP hS (kX7_group hap  M _ _ _ hy36) gL_37 hdX7_group rfl (by decide) sh7 rfl ⟨Nat.le_of_ble_eq_true rfl, Nat.le_of_ble_eq_true rfl⟩ ⟨rfl, rfl⟩ dL_groups_55 rfl (Nat.le_of_ble_eq_true rfl) (fun H locs hP hS n37 => ?_)
        refine lv_istore (pc := 58) (lv' := [(5, .int y36), (0, .ref (ad 0)), (1, .int x1), (2, .int x2), (3, .int x3), (4, .int x4)]) hx hb dL_groups_58 hl (by decide) rfl (fun ls hl => ?_)
        refine lv_iload_n (pc := 60) hx hb dL_groups_60 rfl (lv_at hl 4 rfl) ?_
        refine lv_iload (pc := 61) hx hb dL_groups_61 (lv_at hl 0 rfl) ?_
        refine x_callSi (pc := 63) (st := .int y36 :: .int x3 :: []) (As := [.int x3, .int y36]) E hEx hl.1 hP hS (kL_max hap  M _ _ _ rfl) gL_40 hsL_max rfl ⟨Nat.le_of_ble_eq_true rfl, Nat.le_of_ble_eq_true rfl⟩ ⟨rfl, rfl⟩ dL_groups_63 rfl (Nat.le_of_ble_eq_true rfl) (fun H locs hP hS n38 => ?_)
        refine lv_istore (pc := 66) (lv' := [(6, .int (fL_max M x3 y36)), (5, .int y36), (0, .ref (ad 0)), (1, .int x1), (2, .int x2), (3, .int x3), (4, .int x4)]) hx hb dL_groups_66 hl (by decide) rfl (fun ls hl => ?_)
        refine lv_iload_n (pc := 68) hx hb dL_groups_68 rfl (lv_at hl 3 rfl) ?_
        refine lv_iload (pc := 69) hx hb dL_groups_69 (lv_at hl 1 rfl) ?_
        refine lv_aload_n (pc := 71) hx hb dL_groups_71 rfl (lv_at hl 2 rfl) ?_
        refine lv_iconst (pc := 72) (v := (5 : Int32)) hx hb dL_groups_72 (by decide) ?_
        obtain ⟨y39, hy39, h⟩ := bnd_ex h
        refine x_callVi (pc := 73) (st := .int (5 : Int32) :: .ref (ad 0) :: .int y36 :: .int x1 :: []) (As := [.int (5 : Int32)]) E hEx hl.1 hP hS (kX7_count hap  M _ _ hy39) gL_15 hdX7_count rfl (by decide) sh7 rfl ⟨Nat.le_of_ble_eq_true rfl, Nat.le_of_ble_eq_true rfl⟩ ⟨rfl, rfl⟩ dL_groups_73 rfl (Nat.le_of_ble_eq_true rfl) (fun H locs hP hS n40 => ?_)
        refine lv_icmp_ge (pc := 76) (tgt := 83) hx hb dL_groups_76 (by decide) (fun c41 => ?_) (fun c41 => ?_)
        · have h := (if_pos c41).symm.trans h
          refine lv_iconst (pc := 83) (v := (0 : Int32)) hx hb dL_groups_83 (by decide) ?_
          refine lv_iadd (pc := 84) hx hb dL_groups_84 ?_
          refine lv_istore_n (pc := 85) (lv' := [(1, .int (x1 + (0 : Int32))), (6, .int (fL_max M x3 y36)), (5, .int y36), (0, .ref (ad 0)), (2, .int x2), (3, .int x3), (4, .int x4)]) hx hb dL_groups_85 rfl hl (by decide) rfl (fun ls hl => ?_)
          refine lv_aload_n (pc := 86) hx hb dL_groups_86 rfl (lv_at hl 3 rfl) ?_
          refine lv_iload (pc := 87) hx hb dL_groups_87 (lv_at hl 6 rfl) ?_
          refine lv_iconst (pc := 89) (v := (2 : Int32)) hx hb dL_groups_89 (by decide) ?_
          obtain ⟨y42, hy42, h⟩ := bnd_ex h
          refine x_callVi (pc := 90) (st := .int (2 : Int32) :: .int x4 :: .ref (ad 0) :: []) (As := [.int x4, .int (2 : Int32)]) E hEx hl.1 hP hS (kX7_group hap  M _ _ _ hy42) gL_37 hdX7_group rfl (by decide) sh7 rfl ⟨Nat.le_of_ble_eq_true rfl, Nat.le_of_ble_eq_true rfl⟩ ⟨rfl, rfl⟩ dL_groups_90 rfl (Nat.le_of_ble_eq_true rfl) (fun H locs hP hS n43 => ?_)
          refine lv_iload (pc := 93) hx hb dL_groups_93 (lv_at hl 1 rfl) ?_
          refine lv_icmp_ne (pc := 95) (tgt := 117) hx hb dL_groups_95 (by decide) (fun c44 => ?_) (fun c44 => ?_)
          · have h := (if_neg c44).symm.trans h
            refine lv_iconst (pc := 117) (v := (0 : Int32)) hx hb dL_groups_117 (by decide) ?_
            obtain rfl := som1 h
            exact x_iret E hP hS rfl dL_groups_118
          · have h := (if_pos c44).symm.trans h
            refine lv_iload (pc := 98) hx hb dL_groups_98 (lv_at hl 6 rfl) ?_
            refine lv_if_le (pc := 100) (tgt := 119) hx hb dL_groups_100 (by decide) (fun c45 => ?_) (fun c45 => ?_)
            · have h := (if_pos c45).symm.trans h
              refine lv_iload (pc := 119) hx hb dL_groups_119 (lv_at hl 1 rfl) ?_
              refine lv_aload_n (pc := 121) hx hb dL_groups_121 rfl (lv_at hl 3 rfl) ?_
              refine lv_bipush (pc := 122) (v := (12 : Int32)) hx hb dL_groups_122 (by decide) ?_
              obtain ⟨y46, hy46, h⟩ := bnd_ex h
              refine x_callVi (pc := 124) (st := .int (12 : Int32) :: .ref (ad 0) :: .int (fL_max M x3 y36) :: []) (As := [.int (12 : Int32)]) E hEx hl.1 hP hS (kX7_count hap  M _ _ hy46) gL_15 hdX7_count rfl (by decide) sh7 rfl ⟨Nat.le_of_ble_eq_true rfl, Nat.le_of_ble_eq_true rfl⟩ ⟨rfl, rfl⟩ dL_groups_124 rfl (Nat.le_of_ble_eq_true rfl) (fun H locs hP hS n47 => ?_)
              refine lv_iadd (pc := 127) hx hb dL_groups_127 ?_
              refine lv_bipush (pc := 128) (v := (10 : Int32)) hx hb dL_groups_128 (by decide) ?_
              refine lv_iadd (pc := 130) hx hb dL_groups_130 ?_
              obtain ⟨y48, hy48, h⟩ := thn_ex h
              refine W.eq (g2 := F0 m 131 ls (.int y48 :: [])) (by rw [← hy48]) ?_
              refine lv_istore_n (pc := 131) (lv' := [(3, .int y48), (1, .int (x1 + (0 : Int32))), (6, .int (fL_max M x3 y36)), (5, .int y36), (0, .ref (ad 0)), (2, .int x2), (4, .int x4)]) hx hb dL_groups_131 rfl hl (by decide) rfl (fun ls hl => ?_)
              refine lv_iinc (pc := 132) (v := (x4 + 1)) (lv' := [(4, .int (x4 + 1)), (3, .int y48), (1, .int (x1 + (0 : Int32))), (6, .int (fL_max M x3 y36)), (5, .int y36), (0, .ref (ad 0)), (2, .int x2)]) hx hb dL_groups_132 hl (k := 6) rfl rfl (by decide) rfl (fun ls hl => ?_)
              refine lv_goto (pc := 135) (tgt := 41) hx hb dL_groups_135 (by decide) ?_
              exact ih M (x1 + (0 : Int32)) x2 y48 (x4 + 1) _ _ _ h hP hS (lv_sub hl [5, 2, 6, 1, 0] rfl)
            · have h := (if_neg c45).symm.trans h
              refine lv_aload_n (pc := 103) hx hb dL_groups_103 rfl (lv_at hl 3 rfl) ?_
              refine lv_iload (pc := 104) hx hb dL_groups_104 (lv_at hl 6 rfl) ?_
              refine lv_iconst (pc := 106) (v := (1 : Int32)) hx hb dL_groups_106 (by decide) ?_
              refine lv_isub (pc := 107) hx hb dL_groups_107 ?_
              refine lv_iconst (pc := 108) (v := (1 : Int32)) hx hb dL_groups_108 (by decide) ?_
              obtain ⟨y49, hy49, h⟩ := bnd_ex h
              refine x_callVi (pc := 109) (st := .int (1 : Int32) :: .int (x4 - (1 : Int32)) :: .ref (ad 0) :: []) (As := [.int (x4 - (1 : Int32)), .int (1 : Int32)]) E hEx hl.1 hP hS (kX7_group hap  M _ _ _ hy49) gL_37 hdX7_group rfl (by decide) sh7 rfl ⟨Nat.le_of_ble_eq_true rfl, Nat.le_of_ble_eq_true rfl⟩ ⟨rfl, rfl⟩ dL_groups_109 rfl (Nat.le_of_ble_eq_true rfl) (fun H locs hP hS n50 => ?_)
              refine lv_iload (pc := 112) hx hb dL_groups_112 (lv_at hl 2 rfl) ?_
              refine lv_icmp_le (pc := 114) (tgt := 119) hx hb dL_groups_114 (by decide) (fun c51 => ?_) (fun c51 => ?_)
              · have h := (if_pos c51).symm.trans h
                refine lv_iload (pc := 119) hx hb dL_groups_119 (lv_at hl 1 rfl) ?_
                refine lv_aload_n (pc := 121) hx hb dL_groups_121 rfl (lv_at hl 3 rfl) ?_
                refine lv_bipush (pc := 122) (v := (12 : Int32)) hx hb dL_groups_122 (by decide) ?_
                obtain ⟨y52, hy52, h⟩ := bnd_ex h
                refine x_callVi (pc := 124) (st := .int (12 : Int32) :: .ref (ad 0) :: .int (fL_max M x3 y36) :: []) (As := [.int (12 : Int32)]) E hEx hl.1 hP hS (kX7_count hap  M _ _ hy52) gL_15 hdX7_count rfl (by decide) sh7 rfl ⟨Nat.le_of_ble_eq_true rfl, Nat.le_of_ble_eq_true rfl⟩ ⟨rfl, rfl⟩ dL_groups_124 rfl (Nat.le_of_ble_eq_true rfl) (fun H locs hP hS n53 => ?_)
                refine lv_iadd (pc := 127) hx hb dL_groups_127 ?_
                refine lv_bipush (pc := 128) (v := (10 : Int32)) hx hb dL_groups_128 (by decide) ?_
                refine lv_iadd (pc := 130) hx hb dL_groups_130 ?_
                obtain ⟨y54, hy54, h⟩ := thn_ex h
                refine W.eq (g2 := F0 m 131 ls (.int y54 :: [])) (by rw [← hy54]) ?_
                refine lv_istore_n (pc := 131) (lv' := [(3, .int y54), (1, .int (x1 + (0 : Int32))), (6, .int (fL_max M x3 y36)), (5, .int y36), (0, .ref (ad 0)), (2, .int x2), (4, .int x4)]) hx hb dL_groups_131 rfl hl (by decide) rfl (fun ls hl => ?_)
                refine lv_iinc (pc := 132) (v := (x4 + 1)) (lv' := [(4, .int (x4 + 1)), (3, .int y54), (1, .int (x1 + (0 : Int32))), (6, .int (fL_max M x3 y36)), (5, .int y36), (0, .ref (ad 0)), (2, .int x2)]) hx hb dL_groups_132 hl (k := 6) rfl rfl (by decide) rfl (fun ls hl => ?_)
                refine lv_goto (pc := 135) (tgt := 41) hx hb dL_groups_135 (by decide) ?_
                exact ih M (x1 + (0 : Int32)) x2 y54 (x4 + 1) _ _ _ h hP hS (lv_sub hl [5, 2, 6, 1, 0] rfl)
              · have h := (if_neg c51).symm.trans h
                refine lv_iconst (pc := 117) (v := (0 : Int32)) hx hb dL_groups_117 (by decide) ?_
                obtain rfl := som1 h
                exact x_iret E hP hS rfl dL_groups_118
        · have h := (if_neg c41).symm.trans h
          refine lv_iconst (pc := 79) (v := (1 : Int32)) hx hb dL_groups_79 (by decide) ?_
          refine lv_goto (pc := 80) (tgt := 84) hx hb dL_groups_80 (by decide) ?_
          refine lv_iadd (pc := 84) hx hb dL_groups_84 ?_
          refine lv_istore_n (pc := 85) (lv' := [(1, .int (x1 + (1 : Int32))), (6, .int (fL_max M x3 y36)), (5, .int y36), (0, .ref (ad 0)), (2, .int x2), (3, .int x3), (4, .int x4)]) hx hb dL_groups_85 rfl hl (by decide) rfl (fun ls hl => ?_)
          refine lv_aload_n (pc := 86) hx hb dL_groups_86 rfl (lv_at hl 3 rfl) ?_
          refine lv_iload (pc := 87) hx hb dL_groups_87 (lv_at hl 6 rfl) ?_
          refine lv_iconst (pc := 89) (v := (2 : Int32)) hx hb dL_groups_89 (by decide) ?_
          obtain ⟨y55, hy55, h⟩ := bnd_ex h
          refine x_callVi (pc := 90) (st := .int (2 : Int32) :: .int x4 :: .ref (ad 0) :: []) (As := [.int x4, .int (2 : Int32)]) E hEx hl.1 hP hS (kX7_group hap  M _ _ _ hy55) gL_37 hdX7_group rfl (by decide) sh7 rfl ⟨Nat.le_of_ble_eq_true rfl, Nat.le_of_ble_eq_true rfl⟩ ⟨rfl, rfl⟩ dL_groups_90 rfl (Nat.le_of_ble_eq_true rfl) (fun H locs hP hS n56 => ?_)
          refine lv_iload (pc := 93) hx hb dL_groups_93 (lv_at hl 1 rfl) ?_
          refine lv_icmp_ne (pc := 95) (tgt := 117) hx hb dL_groups_95 (by decide) (fun c57 => ?_) (fun c57 => ?_)
          · have h := (if_neg c57).symm.trans h
            refine lv_iconst (pc := 117) (v := (0 : Int32)) hx hb dL_groups_117 (by decide) ?_
            obtain rfl := som1 h
            exact x_iret E hP hS rfl dL_groups_118
          · have h := (if_pos c57).symm.trans h
            refine lv_iload (pc := 98) hx hb dL_groups_98 (lv_at hl 6 rfl) ?_
            refine lv_if_le (pc := 100) (tgt := 119) hx hb dL_groups_100 (by decide) (fun c58 => ?_) (fun c58 => ?_)
            · have h := (if_pos c58).symm.trans h
              refine lv_iload (pc := 119) hx hb dL_groups_119 (lv_at hl 1 rfl) ?_
              refine lv_aload_n (pc := 121) hx hb dL_groups_121 rfl (lv_at hl 3 rfl) ?_
              refine lv_bipush (pc := 122) (v := (12 : Int32)) hx hb dL_groups_122 (by decide) ?_
              obtain ⟨y59, hy59, h⟩ := bnd_ex h
              refine x_callVi (pc := 124) (st := .int (12 : Int32) :: .ref (ad 0) :: .int (fL_max M x3 y36) :: []) (As := [.int (12 : Int32)]) E hEx hl.1 hP hS (kX7_count hap  M _ _ hy59) gL_15 hdX7_count rfl (by decide) sh7 rfl ⟨Nat.le_of_ble_eq_true rfl, Nat.le_of_ble_eq_true rfl⟩ ⟨rfl, rfl⟩ dL_groups_124 rfl (Nat.le_of_ble_eq_true rfl) (fun H locs hP hS n60 => ?_)
              refine lv_iadd (pc := 127) hx hb dL_groups_127 ?_
              refine lv_bipush (pc := 128) (v := (10 : Int32)) hx hb dL_groups_128 (by decide) ?_
              refine lv_iadd (pc := 130) hx hb dL_groups_130 ?_
              obtain ⟨y61, hy61, h⟩ := thn_ex h
              refine W.eq (g2 := F0 m 131 ls (.int y61 :: [])) (by rw [← hy61]) ?_
              refine lv_istore_n (pc := 131) (lv' := [(3, .int y61), (1, .int (x1 + (1 : Int32))), (6, .int (fL_max M x3 y36)), (5, .int y36), (0, .ref (ad 0)), (2, .int x2), (4, .int x4)]) hx hb dL_groups_131 rfl hl (by decide) rfl (fun ls hl => ?_)
              refine lv_iinc (pc := 132) (v := (x4 + 1)) (lv' := [(4, .int (x4 + 1)), (3, .int y61), (1, .int (x1 + (1 : Int32))), (6, .int (fL_max M x3 y36)), (5, .int y36), (0, .ref (ad 0)), (2, .int x2)]) hx hb dL_groups_132 hl (k := 6) rfl rfl (by decide) rfl (fun ls hl => ?_)
              refine lv_goto (pc := 135) (tgt := 41) hx hb dL_groups_135 (by decide) ?_
              exact ih M (x1 + (1 : Int32)) x2 y61 (x4 + 1) _ _ _ h hP hS (lv_sub hl [5, 2, 6, 1, 0] rfl)
            · have h := (if_neg c58).symm.trans h
              refine lv_aload_n (pc := 103) hx hb dL_groups_103 rfl (lv_at hl 3 rfl) ?_
              refine lv_iload (pc := 104) hx hb dL_groups_104 (lv_at hl 6 rfl) ?_
              refine lv_iconst (pc := 106) (v := (1 : Int32)) hx hb dL_groups_106 (by decide) ?_
              refine lv_isub (pc := 107) hx hb dL_groups_107 ?_
              refine lv_iconst (pc := 108) (v := (1 : Int32)) hx hb dL_groups_108 (by decide) ?_
              obtain ⟨y62, hy62, h⟩ := bnd_ex h
              refine x_callVi (pc := 109) (st := .int (1 : Int32) :: .int (x4 - (1 : Int32)) :: .ref (ad 0) :: []) (As := [.int (x4 - (1 : Int32)), .int (1 : Int32)]) E hEx hl.1 hP hS (kX7_group hap  M _ _ _ hy62) gL_37 hdX7_group rfl (by decide) sh7 rfl ⟨Nat.le_of_ble_eq_true rfl, Nat.le_of_ble_eq_true rfl⟩ ⟨rfl, rfl⟩ dL_groups_109 rfl (Nat.le_of_ble_eq_true rfl) (fun H locs hP hS n63 => ?_)
              refine lv_iload (pc := 112) hx hb dL_groups_112 (lv_at hl 2 rfl) ?_
              refine lv_icmp_le (pc := 114) (tgt := 119) hx hb dL_groups_114 (by decide) (fun c64 => ?_) (fun c64 => ?_)
              · have h := (if_pos c64).symm.trans h
                refine lv_iload (pc := 119) hx hb dL_groups_119 (lv_at hl 1 rfl) ?_
                refine lv_aload_n (pc := 121) hx hb dL_groups_121 rfl (lv_at hl 3 rfl) ?_
                refine lv_bipush (pc := 122) (v := (12 : Int32)) hx hb dL_groups_122 (by decide) ?_
                obtain ⟨y65, hy65, h⟩ := bnd_ex h
                refine x_callVi (pc := 124) (st := .int (12 : Int32) :: .ref (ad 0) :: .int (fL_max M x3 y36) :: []) (As := [.int (12 : Int32)]) E hEx hl.1 hP hS (kX7_count hap  M _ _ hy65) gL_15 hdX7_count rfl (by decide) sh7 rfl ⟨Nat.le_of_ble_eq_true rfl, Nat.le_of_ble_eq_true rfl⟩ ⟨rfl, rfl⟩ dL_groups_124 rfl (Nat.le_of_ble_eq_true rfl) (fun H locs hP hS n66 => ?_)
                refine lv_iadd (pc := 127) hx hb dL_groups_127 ?_
                refine lv_bipush (pc := 128) (v := (10 : Int32)) hx hb dL_groups_128 (by decide) ?_
                refine lv_iadd (pc := 130) hx hb dL_groups_130 ?_
                obtain ⟨y67, hy67, h⟩ := thn_ex h
                refine W.eq (g2 := F0 m 131 ls (.int y67 :: [])) (by rw [← hy67]) ?_
                refine lv_istore_n (pc := 131) (lv' := [(3, .int y67), (1, .int (x1 + (1 : Int32))), (6, .int (fL_max M x3 y36)), (5, .int y36), (0, .ref (ad 0)), (2, .int x2), (4, .int x4)]) hx hb dL_groups_131 rfl hl (by decide) rfl (fun ls hl => ?_)
                refine lv_iinc (pc := 132) (v := (x4 + 1)) (lv' := [(4, .int (x4 + 1)), (3, .int y67), (1, .int (x1 + (1 : Int32))), (6, .int (fL_max M x3 y36)), (5, .int y36), (0, .ref (ad 0)), (2, .int x2)]) hx hb dL_groups_132 hl (k := 6) rfl rfl (by decide) rfl (fun ls hl => ?_)
                refine lv_goto (pc := 135) (tgt := 41) hx hb dL_groups_135 (by decide) ?_
                exact ih M (x1 + (1 : Int32)) x2 y67 (x4 + 1) _ _ _ h hP hS (lv_sub hl [5, 2, 6, 1, 0] rfl)
              · have h := (if_neg c64).symm.trans h
                refine lv_iconst (pc := 117) (v := (0 : Int32)) hx hb dL_groups_117 (by decide) ?_
                obtain rfl := som1 h
                exact x_iret E hP hS rfl dL_groups_118
  unfold fL_groups at h
  refine lv_iconst (pc := 0) (v := (0 : Int32)) hx hb dL_groups_0 (by decide) ?_
  refine lv_istore_n (pc := 1) (lv' := [(1, .int (0 : Int32)), (0, .ref (ad 0))]) hx hb dL_groups_1 rfl hl (by decide) rfl (fun ls hl => ?_)
  refine lv_iconst (pc := 2) (v := (0 : Int32)) hx hb dL_groups_2 (by decide) ?_
  refine lv_istore_n (pc := 3) (lv' := [(2, .int (0 : Int32)), (1, .int (0 : Int32)), (0, .ref (ad 0))]) hx hb dL_groups_3 rfl hl (by decide) rfl (fun ls hl => ?_)
  refine lv_aload_n (pc := 4) hx hb dL_groups_4 rfl (lv_at hl 2 rfl) ?_
  refine lv_bipush (pc := 5) (v := (14 : Int32)) hx hb dL_groups_5 (by decide) ?_
  obtain ⟨y1, hy1, h⟩ := bnd_ex h
  refine x_callVi (pc := 7) (st := .int (14 : Int32) :: .ref (ad 0) :: []) (As := [.int (14 : Int32)]) E hEx hl.1 hP hS (kX7_count hap  M _ _ hy1) gL_15 hdX7_count rfl (by decide) sh7 rfl ⟨Nat.le_of_ble_eq_true rfl, Nat.le_of_ble_eq_true rfl⟩ ⟨rfl, rfl⟩ dL_groups_7 rfl (Nat.le_of_ble_eq_true rfl) (fun H locs hP hS n2 => ?_)
  refine lv_iconst (pc := 10) (v := (1 : Int32)) hx hb dL_groups_10 (by decide) ?_
  refine lv_icmp_ne (pc := 11) (tgt := 32) hx hb dL_groups_11 (by decide) (fun c3 => ?_) (fun c3 => ?_)
  · have h := (if_neg c3).symm.trans h
    refine lv_aload_n (pc := 32) hx hb dL_groups_32 rfl (lv_at hl 2 rfl) ?_
    refine lv_iconst (pc := 33) (v := (5 : Int32)) hx hb dL_groups_33 (by decide) ?_
    obtain ⟨y4, hy4, h⟩ := bnd_ex h
    refine x_callVi (pc := 34) (st := .int (5 : Int32) :: .ref (ad 0) :: []) (As := [.int (5 : Int32)]) E hEx hl.1 hP hS (kX7_count hap  M _ _ hy4) gL_15 hdX7_count rfl (by decide) sh7 rfl ⟨Nat.le_of_ble_eq_true rfl, Nat.le_of_ble_eq_true rfl⟩ ⟨rfl, rfl⟩ dL_groups_34 rfl (Nat.le_of_ble_eq_true rfl) (fun H locs hP hS n5 => ?_)
    refine lv_istore_n (pc := 37) (lv' := [(3, .int y4), (2, .int (0 : Int32)), (1, .int (0 : Int32)), (0, .ref (ad 0))]) hx hb dL_groups_37 rfl hl (by decide) rfl (fun ls hl => ?_)
    refine lv_iconst (pc := 38) (v := (0 : Int32)) hx hb dL_groups_38 (by decide) ?_
    refine lv_istore (pc := 39) (lv' := [(4, .int (0 : Int32)), (3, .int y4), (2, .int (0 : Int32)), (1, .int (0 : Int32)), (0, .ref (ad 0))]) hx hb dL_groups_39 hl (by decide) rfl (fun ls hl => ?_)
    exact hL41 5000 M (0 : Int32) (0 : Int32) y4 (0 : Int32) _ _ _ h hP hS (lv_sub hl [4, 3, 2, 1, 0] rfl)
  · have h := (if_pos c3).symm.trans h
    refine lv_aload_n (pc := 14) hx hb dL_groups_14 rfl (lv_at hl 2 rfl) ?_
    refine lv_iconst (pc := 15) (v := (1 : Int32)) hx hb dL_groups_15 (by decide) ?_
    obtain ⟨y68, hy68, h⟩ := bnd_ex h
    refine x_callVi (pc := 16) (st := .int (1 : Int32) :: .ref (ad 0) :: []) (As := [.int (1 : Int32)]) E hEx hl.1 hP hS (kX7_game hap  M _ _ hy68) gL_28 hdX7_game rfl (by decide) sh7 rfl ⟨Nat.le_of_ble_eq_true rfl, Nat.le_of_ble_eq_true rfl⟩ ⟨rfl, rfl⟩ dL_groups_16 rfl (Nat.le_of_ble_eq_true rfl) (fun H locs hP hS n69 => ?_)
    refine lv_aload_n (pc := 19) hx hb dL_groups_19 rfl (lv_at hl 2 rfl) ?_
    refine lv_bipush (pc := 20) (v := (12 : Int32)) hx hb dL_groups_20 (by decide) ?_
    obtain ⟨y70, hy70, h⟩ := bnd_ex h
    refine x_callVi (pc := 22) (st := .int (12 : Int32) :: .ref (ad 0) :: .int y68 :: []) (As := [.int (12 : Int32)]) E hEx hl.1 hP hS (kX7_count hap  M _ _ hy70) gL_15 hdX7_count rfl (by decide) sh7 rfl ⟨Nat.le_of_ble_eq_true rfl, Nat.le_of_ble_eq_true rfl⟩ ⟨rfl, rfl⟩ dL_groups_22 rfl (Nat.le_of_ble_eq_true rfl) (fun H locs hP hS n71 => ?_)
    refine lv_iadd (pc := 25) hx hb dL_groups_25 ?_
    refine lv_bipush (pc := 26) (v := (10 : Int32)) hx hb dL_groups_26 (by decide) ?_
    refine lv_iadd (pc := 28) hx hb dL_groups_28 ?_
    refine lv_goto (pc := 29) (tgt := 37) hx hb dL_groups_29 (by decide) ?_
    obtain ⟨y72, hy72, h⟩ := thn_ex h
    refine W.eq (g2 := F0 m 37 ls (.int y72 :: [])) (by rw [← hy72]) ?_
    refine lv_istore_n (pc := 37) (lv' := [(3, .int y72), (2, .int (0 : Int32)), (1, .int (0 : Int32)), (0, .ref (ad 0))]) hx hb dL_groups_37 rfl hl (by decide) rfl (fun ls hl => ?_)
    refine lv_iconst (pc := 38) (v := (0 : Int32)) hx hb dL_groups_38 (by decide) ?_
    refine lv_istore (pc := 39) (lv' := [(4, .int (0 : Int32)), (3, .int y72), (2, .int (0 : Int32)), (1, .int (0 : Int32)), (0, .ref (ad 0))]) hx hb dL_groups_39 hl (by decide) rfl (fun ls hl => ?_)
    exact hL41 5000 M (0 : Int32) (0 : Int32) y72 (0 : Int32) _ _ _ h hP hS (lv_sub hl [4, 3, 2, 1, 0] rfl)
set_option maxRecDepth 100000 in
set_option maxHeartbeats 4000000 in
theorem kL_types (hap : Apart 78 ad)   (M : Mem) (x1 x2 x3 : Int32) (M' : Mem) (h : fL_types M x1 x2 x3 = some M') : XV G ad sK sV cA cZ cC yL_types cL_types 5 ({ frames := 2, cells := 0, slots := 0, locals := 43 } : Room) [.ref (ad 0), .int x1, .int x2, .int x3] M M' := by
  refine CV.mk (own := RL) (ls0 := [(0, .ref (ad 0)), (1, .int x1), (2, .int x2), (3, .int x3)]) (by decide +kernel) rfl hap (Nat.le_of_ble_eq_true rfl) rfl ?_
  intro p l e s m args below meth c ls E hP hl
  have hx := E.1
  have hb := E.2.1
  have hown := E.2.2.2.2.2.1
  have hts := E.2.2.2.2.2.2.1
  have hNe := E.2.2.2.2.2.2.2.2.1.1
  have hEx := ExX.ok ad sK sV
  have hS : va_S (AW 78 ad) s.heap s.heap [] := va_S.rf
  have hL244 : ∀ (n : Nat) (M : Mem) (x3 x4 : Int32) (H : Heap) (locs : List Loc) (ls : Array Slot), fL_types_L244 n M x3 x4 = some M' → va_P G vwCl (WW 78 (shX cA ad) ad M) H → va_S (AW 78 ad) s.heap H locs → lv_has ls 5 [(0, .ref (ad 0)), (3, .int x3), (4, .int x4)] → W p l e ({ frames := 2, cells := 0, slots := 0, locals := 43 } : Room) s m args below meth c H locs 0 0 (QV below G 78 (shX cA ad) ad args s M') (F0 m 244 ls []) := by
    intro n
    induction n with
    | zero => intro M x3 x4 H locs ls h; cases h
    | succ n ih =>
      intro M x3 x4 H locs ls h hP hS hl
      rw [fL_types_L244] at h
      refine lv_iload (pc := 244) hx hb dL_types_244 (lv_at hl 2 rfl) ?_
      refine lv_if_le (pc := 246) (tgt := 275) hx hb dL_types_246 (by decide) (fun c33 => ?_) (fun c33 => ?_)
      · have h := (if_pos c33).symm.trans h
        obtain rfl := som1 h
        exact x_vret E hP hS dL_types_275
      · have h := (if_neg c33).symm.trans h
        refine lv_aload_n (pc := 249) hx hb dL_types_249 rfl (lv_at hl 0 rfl) ?_
        refine lv_bipush (pc := 250) (v := (48 : Int32)) hx hb dL_types_250 (by decide) ?_
        refine lv_iload_n (pc := 252) hx hb dL_types_252 rfl (lv_at hl 1 rfl) ?_
        refine lv_iload (pc := 253) hx hb dL_types_253 (lv_at hl 2 rfl) ?_
        obtain ⟨c34, h⟩ := ite_some h
        refine lv_idiv (pc := 255) hx hb dL_types_255 c34 ?_
        refine lv_bipush (pc := 256) (v := (10 : Int32)) hx hb dL_types_256 (by decide) ?_
        refine x_irem (pc := 258) hx hb dL_types_258 (by decide) ?_
        refine lv_iadd (pc := 259) hx hb dL_types_259 ?_
        refine lv_i2c (pc := 260) (v := (x_c ((48 : Int32) + (irm (x3 / x4) (10 : Int32))))) hx hb dL_types_260 rfl ?_
        obtain ⟨q35, hq35, h⟩ := bnd_ex h
        refine x_callVi (pc := 261) (st := .int (x_c ((48 : Int32) + (irm (x3 / x4) (10 : Int32)))) :: .ref (ad 0) :: []) (As := [.int (x_c ((48 : Int32) + (irm (x3 / x4) (10 : Int32))))]) E hEx hl.1 hP hS (kX7_type hap  M _ _ _ hq35) gL_50 hdX7_type rfl (by decide) sh7 rfl ⟨Nat.le_of_ble_eq_true rfl, Nat.le_of_ble_eq_true rfl⟩ ⟨rfl, rfl⟩ dL_types_261 rfl (Nat.le_of_ble_eq_true rfl) (fun H locs hP hS n36 => ?_)
        refine lv_pop (pc := 264) hx hb dL_types_264 rfl ?_
        refine lv_iload (pc := 265) hx hb dL_types_265 (lv_at hl 2 rfl) ?_
        refine lv_bipush (pc := 267) (v := (10 : Int32)) hx hb dL_types_267 (by decide) ?_
        refine lv_idiv (pc := 269) hx hb dL_types_269 (by decide) ?_
        refine lv_istore (pc := 270) (lv' := [(4, .int (x4 / (10 : Int32))), (0, .ref (ad 0)), (3, .int x3)]) hx hb dL_types_270 hl (by decide) rfl (fun ls hl => ?_)
        refine lv_goto (pc := 272) (tgt := 244) hx hb dL_types_272 (by decide) ?_
        exact ih q35.2 x3 (x4 / (10 : Int32)) _ _ _ h hP hS (lv_sub hl [1, 2, 0] rfl)
  have hB208 : ∀ (M : Mem) (x2 x3 : Int32) (H : Heap) (locs : List Loc) (ls : Array Slot), fL_types_B208 M x2 x3 = some M' → va_P G vwCl (WW 78 (shX cA ad) ad M) H → va_S (AW 78 ad) s.heap H locs → lv_has ls 5 [(0, .ref (ad 0)), (2, .int x2), (3, .int x3)] → W p l e ({ frames := 2, cells := 0, slots := 0, locals := 43 } : Room) s m args below meth c H locs 0 0 (QV below G 78 (shX cA ad) ad args s M') (F0 m 208 ls []) := by
    intro M x2 x3 H locs ls h hP hS hl
    unfold fL_types_B208 at h
    refine lv_iload_n (pc := 208) hx hb dL_types_208 rfl (lv_at hl 1 rfl) ?_
    refine lv_if_le (pc := 209) (tgt := 275) hx hb dL_types_209 (by decide) (fun c28 => ?_) (fun c28 => ?_)
    · have h := (if_pos c28).symm.trans h
      obtain rfl := som1 h
      exact x_vret E hP hS dL_types_275
    · have h := (if_neg c28).symm.trans h
      refine lv_aload_n (pc := 212) hx hb dL_types_212 rfl (lv_at hl 0 rfl) ?_
      refine lv_bipush (pc := 213) (v := (32 : Int32)) hx hb dL_types_213 (by decide) ?_
      obtain ⟨q29, hq29, h⟩ := bnd_ex h
      refine x_callVi (pc := 215) (st := .int (32 : Int32) :: .ref (ad 0) :: []) (As := [.int (32 : Int32)]) E hEx hl.1 hP hS (kX7_type hap  M _ _ _ hq29) gL_50 hdX7_type rfl (by decide) sh7 rfl ⟨Nat.le_of_ble_eq_true rfl, Nat.le_of_ble_eq_true rfl⟩ ⟨rfl, rfl⟩ dL_types_215 rfl (Nat.le_of_ble_eq_true rfl) (fun H locs hP hS n30 => ?_)
      refine lv_pop (pc := 218) hx hb dL_types_218 rfl ?_
      refine lv_iload_n (pc := 219) hx hb dL_types_219 rfl (lv_at hl 1 rfl) ?_
      refine lv_iconst (pc := 220) (v := (2 : Int32)) hx hb dL_types_220 (by decide) ?_
      refine lv_icmp_ne (pc := 221) (tgt := 230) hx hb dL_types_221 (by decide) (fun c31 => ?_) (fun c31 => ?_)
      · have h := (if_neg c31).symm.trans h
        refine lv_iload_n (pc := 230) hx hb dL_types_230 rfl (lv_at hl 2 rfl) ?_
        refine lv_bipush (pc := 231) (v := (9 : Int32)) hx hb dL_types_231 (by decide) ?_
        refine lv_icmp_le (pc := 233) (tgt := 241) hx hb dL_types_233 (by decide) (fun c32 => ?_) (fun c32 => ?_)
        · have h := (if_pos c32).symm.trans h
          refine lv_iconst (pc := 241) (v := (1 : Int32)) hx hb dL_types_241 (by decide) ?_
          refine lv_istore (pc := 242) (lv' := [(4, .int (1 : Int32)), (0, .ref (ad 0)), (2, .int x2), (3, .int x3)]) hx hb dL_types_242 hl (by decide) rfl (fun ls hl => ?_)
          exact hL244 5000 q29.2 x3 (1 : Int32) _ _ _ h hP hS (lv_sub hl [1, 3, 0] rfl)
        · have h := (if_neg c32).symm.trans h
          refine lv_bipush (pc := 236) (v := (10 : Int32)) hx hb dL_types_236 (by decide) ?_
          refine lv_goto (pc := 238) (tgt := 242) hx hb dL_types_238 (by decide) ?_
          refine lv_istore (pc := 242) (lv' := [(4, .int (10 : Int32)), (0, .ref (ad 0)), (2, .int x2), (3, .int x3)]) hx hb dL_types_242 hl (by decide) rfl (fun ls hl => ?_)
          exact hL244 5000 q29.2 x3 (10 : Int32) _ _ _ h hP hS (lv_sub hl [1, 3, 0] rfl)
      · have h := (if_pos c31).symm.trans h
        refine lv_sipush (pc := 224) (v := (1000 : Int32)) hx hb dL_types_224 (by decide) ?_
        refine lv_goto (pc := 227) (tgt := 242) hx hb dL_types_227 (by decide) ?_
        refine lv_istore (pc := 242) (lv' := [(4, .int (1000 : Int32)), (0, .ref (ad 0)), (2, .int x2), (3, .int x3)]) hx hb dL_types_242 hl (by decide) rfl (fun ls hl => ?_)
        exact hL244 5000 q29.2 x3 (1000 : Int32) _ _ _ h hP hS (lv_sub hl [1, 3, 0] rfl)
  have hB192 : ∀ (M : Mem) (x2 x3 : Int32) (H : Heap) (locs : List Loc) (ls : Array Slot), fL_types_B192 M x2 x3 = some M' → va_P G vwCl (WW 78 (shX cA ad) ad M) H → va_S (AW 78 ad) s.heap H locs → lv_has ls 5 [(0, .ref (ad 0)), (2, .int x2), (3, .int x3)] → W p l e ({ frames := 2, cells := 0, slots := 0, locals := 43 } : Room) s m args below meth c H locs 0 0 (QV below G 78 (shX cA ad) ad args s M') (F0 m 192 ls []) := by
    intro M x2 x3 H locs ls h hP hS hl
    unfold fL_types_B192 at h
    refine lv_aload_n (pc := 192) hx hb dL_types_192 rfl (lv_at hl 0 rfl) ?_
    refine lv_iload_n (pc := 193) hx hb dL_types_193 rfl (lv_at hl 1 rfl) ?_
    refine lv_if_ne (pc := 194) (tgt := 202) hx hb dL_types_194 (by decide) (fun c25 => ?_) (fun c25 => ?_)
    · have h := (if_neg c25).symm.trans h
      refine lv_bipush (pc := 202) (v := (101 : Int32)) hx hb dL_types_202 (by decide) ?_
      obtain ⟨q26, hq26, h⟩ := bnd_ex h
      refine x_callVi (pc := 204) (st := .int (101 : Int32) :: .ref (ad 0) :: []) (As := [.int (101 : Int32)]) E hEx hl.1 hP hS (kX7_type hap  M _ _ _ hq26) gL_50 hdX7_type rfl (by decide) sh7 rfl ⟨Nat.le_of_ble_eq_true rfl, Nat.le_of_ble_eq_true rfl⟩ ⟨rfl, rfl⟩ dL_types_204 rfl (Nat.le_of_ble_eq_true rfl) (fun H locs hP hS n27 => ?_)
      refine lv_pop (pc := 207) hx hb dL_types_207 rfl ?_
      exact hB208 q26.2 x2 x3 _ _ _ h hP hS (lv_sub hl [0, 1, 2] rfl)
    · have h := (if_pos c25).symm.trans h
      refine lv_bipush (pc := 197) (v := (104 : Int32)) hx hb dL_types_197 (by decide) ?_
      refine lv_goto (pc := 199) (tgt := 204) hx hb dL_types_199 (by decide) ?_
      obtain ⟨q37, hq37, h⟩ := bnd_ex h
      refine x_callVi (pc := 204) (st := .int (104 : Int32) :: .ref (ad 0) :: []) (As := [.int (104 : Int32)]) E hEx hl.1 hP hS (kX7_type hap  M _ _ _ hq37) gL_50 hdX7_type rfl (by decide) sh7 rfl ⟨Nat.le_of_ble_eq_true rfl, Nat.le_of_ble_eq_true rfl⟩ ⟨rfl, rfl⟩ dL_types_204 rfl (Nat.le_of_ble_eq_true rfl) (fun H locs hP hS n38 => ?_)
      refine lv_pop (pc := 207) hx hb dL_types_207 rfl ?_
      exact hB208 q37.2 x2 x3 _ _ _ h hP hS (lv_sub hl [0, 1, 2] rfl)
  have hB183 : ∀ (M : Mem) (x2 x3 : Int32) (H : Heap) (locs : List Loc) (ls : Array Slot), fL_types_B183 M x2 x3 = some M' → va_P G vwCl (WW 78 (shX cA ad) ad M) H → va_S (AW 78 ad) s.heap H locs → lv_has ls 5 [(0, .ref (ad 0)), (2, .int x2), (3, .int x3)] → W p l e ({ frames := 2, cells := 0, slots := 0, locals := 43 } : Room) s m args below meth c H locs 0 0 (QV below G 78 (shX cA ad) ad args s M') (F0 m 183 ls []) := by
    intro M x2 x3 H locs ls h hP hS hl
    unfold fL_types_B183 at h
    refine lv_iload_n (pc := 183) hx hb dL_types_183 rfl (lv_at hl 1 rfl) ?_
    refine lv_if_eq (pc := 184) (tgt := 192) hx hb dL_types_184 (by decide) (fun c24 => ?_) (fun c24 => ?_)
    · have h := (if_pos c24).symm.trans h
      exact hB192 M x2 x3 _ _ _ h hP hS (lv_sub hl [0, 1, 2] rfl)
    · have h := (if_neg c24).symm.trans h
      refine lv_iload_n (pc := 187) hx hb dL_types_187 rfl (lv_at hl 1 rfl) ?_
      refine lv_iconst (pc := 188) (v := (3 : Int32)) hx hb dL_types_188 (by decide) ?_
      refine lv_icmp_ne (pc := 189) (tgt := 208) hx hb dL_types_189 (by decide) (fun c39 => ?_) (fun c39 => ?_)
      · have h := (if_neg c39).symm.trans h
        exact hB208 M x2 x3 _ _ _ h hP hS (lv_sub hl [0, 1, 2] rfl)
      · have h := (if_pos c39).symm.trans h
        exact hB192 M x2 x3 _ _ _ h hP hS (lv_sub hl [0, 1, 2] rfl)
  have hB152 : ∀ (M : Mem) (x2 x3 : Int32) (H : Heap) (locs : List Loc) (ls : Array Slot), fL_types_B152 M x2 x3 = some M' → va_P G vwCl (WW 78 (shX cA ad) ad M) H → va_S (AW 78 ad) s.heap H locs → lv_has ls 5 [(0, .ref (ad 0)), (2, .int x2), (3, .int x3)] → W p l e ({ frames := 2, cells := 0, slots := 0, locals := 43 } : Room) s m args below meth c H locs 0 0 (QV below G 78 (shX cA ad) ad args s M') (F0 m 152 ls []) := by
    intro M x2 x3 H locs ls h hP hS hl
    unfold fL_types_B152 at h
    refine lv_iload_n (pc := 152) hx hb dL_types_152 rfl (lv_at hl 1 rfl) ?_
    refine lv_iconst (pc := 153) (v := (1 : Int32)) hx hb dL_types_153 (by decide) ?_
    refine lv_icmp_eq (pc := 154) (tgt := 183) hx hb dL_types_154 (by decide) (fun c23 => ?_) (fun c23 => ?_)
    · have h := (if_pos c23).symm.trans h
      exact hB183 M x2 x3 _ _ _ h hP hS (lv_sub hl [0, 1, 2] rfl)
    · have h := (if_neg c23).symm.trans h
      refine lv_aload_n (pc := 157) hx hb dL_types_157 rfl (lv_at hl 0 rfl) ?_
      refine lv_iload_n (pc := 158) hx hb dL_types_158 rfl (lv_at hl 1 rfl) ?_
      refine lv_if_ne (pc := 159) (tgt := 167) hx hb dL_types_159 (by decide) (fun c40 => ?_) (fun c40 => ?_)
      · have h := (if_neg c40).symm.trans h
        refine lv_iload_n (pc := 167) hx hb dL_types_167 rfl (lv_at hl 1 rfl) ?_
        refine lv_iconst (pc := 168) (v := (2 : Int32)) hx hb dL_types_168 (by decide) ?_
        refine lv_icmp_ne (pc := 169) (tgt := 177) hx hb dL_types_169 (by decide) (fun c41 => ?_) (fun c41 => ?_)
        · have h := (if_neg c41).symm.trans h
          refine lv_bipush (pc := 177) (v := (116 : Int32)) hx hb dL_types_177 (by decide) ?_
          obtain ⟨q42, hq42, h⟩ := bnd_ex h
          refine x_callVi (pc := 179) (st := .int (116 : Int32) :: .ref (ad 0) :: []) (As := [.int (116 : Int32)]) E hEx hl.1 hP hS (kX7_type hap  M _ _ _ hq42) gL_50 hdX7_type rfl (by decide) sh7 rfl ⟨Nat.le_of_ble_eq_true rfl, Nat.le_of_ble_eq_true rfl⟩ ⟨rfl, rfl⟩ dL_types_179 rfl (Nat.le_of_ble_eq_true rfl) (fun H locs hP hS n43 => ?_)
          refine lv_pop (pc := 182) hx hb dL_types_182 rfl ?_
          exact hB183 q42.2 x2 x3 _ _ _ h hP hS (lv_sub hl [0, 1, 2] rfl)
        · have h := (if_pos c41).symm.trans h
          refine lv_bipush (pc := 172) (v := (101 : Int32)) hx hb dL_types_172 (by decide) ?_
          refine lv_goto (pc := 174) (tgt := 179) hx hb dL_types_174 (by decide) ?_
          obtain ⟨q44, hq44, h⟩ := bnd_ex h
          refine x_callVi (pc := 179) (st := .int (101 : Int32) :: .ref (ad 0) :: []) (As := [.int (101 : Int32)]) E hEx hl.1 hP hS (kX7_type hap  M _ _ _ hq44) gL_50 hdX7_type rfl (by decide) sh7 rfl ⟨Nat.le_of_ble_eq_true rfl, Nat.le_of_ble_eq_true rfl⟩ ⟨rfl, rfl⟩ dL_types_179 rfl (Nat.le_of_ble_eq_true rfl) (fun H locs hP hS n45 => ?_)
          refine lv_pop (pc := 182) hx hb dL_types_182 rfl ?_
          exact hB183 q44.2 x2 x3 _ _ _ h hP hS (lv_sub hl [0, 1, 2] rfl)
      · have h := (if_pos c40).symm.trans h
        refine lv_bipush (pc := 162) (v := (99 : Int32)) hx hb dL_types_162 (by decide) ?_
        refine lv_goto (pc := 164) (tgt := 179) hx hb dL_types_164 (by decide) ?_
        obtain ⟨q46, hq46, h⟩ := bnd_ex h
        refine x_callVi (pc := 179) (st := .int (99 : Int32) :: .ref (ad 0) :: []) (As := [.int (99 : Int32)]) E hEx hl.1 hP hS (kX7_type hap  M _ _ _ hq46) gL_50 hdX7_type rfl (by decide) sh7 rfl ⟨Nat.le_of_ble_eq_true rfl, Nat.le_of_ble_eq_true rfl⟩ ⟨rfl, rfl⟩ dL_types_179 rfl (Nat.le_of_ble_eq_true rfl) (fun H locs hP hS n47 => ?_)
        refine lv_pop (pc := 182) hx hb dL_types_182 rfl ?_
        exact hB183 q46.2 x2 x3 _ _ _ h hP hS (lv_sub hl [0, 1, 2] rfl)
  have hB116 : ∀ (M : Mem) (x2 x3 : Int32) (H : Heap) (locs : List Loc) (ls : Array Slot), fL_types_B116 M x2 x3 = some M' → va_P G vwCl (WW 78 (shX cA ad) ad M) H → va_S (AW 78 ad) s.heap H locs → lv_has ls 5 [(0, .ref (ad 0)), (2, .int x2), (3, .int x3)] → W p l e ({ frames := 2, cells := 0, slots := 0, locals := 43 } : Room) s m args below meth c H locs 0 0 (QV below G 78 (shX cA ad) ad args s M') (F0 m 116 ls []) := by
    intro M x2 x3 H locs ls h hP hS hl
    unfold fL_types_B116 at h
    refine lv_aload_n (pc := 116) hx hb dL_types_116 rfl (lv_at hl 0 rfl) ?_
    refine lv_iload_n (pc := 117) hx hb dL_types_117 rfl (lv_at hl 1 rfl) ?_
    refine lv_if_ne (pc := 118) (tgt := 126) hx hb dL_types_118 (by decide) (fun c18 => ?_) (fun c18 => ?_)
    · have h := (if_neg c18).symm.trans h
      refine lv_iload_n (pc := 126) hx hb dL_types_126 rfl (lv_at hl 1 rfl) ?_
      refine lv_iconst (pc := 127) (v := (1 : Int32)) hx hb dL_types_127 (by decide) ?_
      refine lv_icmp_ne (pc := 128) (tgt := 136) hx hb dL_types_128 (by decide) (fun c19 => ?_) (fun c19 => ?_)
      · have h := (if_neg c19).symm.trans h
        refine lv_iload_n (pc := 136) hx hb dL_types_136 rfl (lv_at hl 1 rfl) ?_
        refine lv_iconst (pc := 137) (v := (2 : Int32)) hx hb dL_types_137 (by decide) ?_
        refine lv_icmp_ne (pc := 138) (tgt := 146) hx hb dL_types_138 (by decide) (fun c20 => ?_) (fun c20 => ?_)
        · have h := (if_neg c20).symm.trans h
          refine lv_bipush (pc := 146) (v := (97 : Int32)) hx hb dL_types_146 (by decide) ?_
          obtain ⟨q21, hq21, h⟩ := bnd_ex h
          refine x_callVi (pc := 148) (st := .int (97 : Int32) :: .ref (ad 0) :: []) (As := [.int (97 : Int32)]) E hEx hl.1 hP hS (kX7_type hap  M _ _ _ hq21) gL_50 hdX7_type rfl (by decide) sh7 rfl ⟨Nat.le_of_ble_eq_true rfl, Nat.le_of_ble_eq_true rfl⟩ ⟨rfl, rfl⟩ dL_types_148 rfl (Nat.le_of_ble_eq_true rfl) (fun H locs hP hS n22 => ?_)
          refine lv_pop (pc := 151) hx hb dL_types_151 rfl ?_
          exact hB152 q21.2 x2 x3 _ _ _ h hP hS (lv_sub hl [0, 1, 2] rfl)
        · have h := (if_pos c20).symm.trans h
          refine lv_bipush (pc := 141) (v := (100 : Int32)) hx hb dL_types_141 (by decide) ?_
          refine lv_goto (pc := 143) (tgt := 148) hx hb dL_types_143 (by decide) ?_
          obtain ⟨q48, hq48, h⟩ := bnd_ex h
          refine x_callVi (pc := 148) (st := .int (100 : Int32) :: .ref (ad 0) :: []) (As := [.int (100 : Int32)]) E hEx hl.1 hP hS (kX7_type hap  M _ _ _ hq48) gL_50 hdX7_type rfl (by decide) sh7 rfl ⟨Nat.le_of_ble_eq_true rfl, Nat.le_of_ble_eq_true rfl⟩ ⟨rfl, rfl⟩ dL_types_148 rfl (Nat.le_of_ble_eq_true rfl) (fun H locs hP hS n49 => ?_)
          refine lv_pop (pc := 151) hx hb dL_types_151 rfl ?_
          exact hB152 q48.2 x2 x3 _ _ _ h hP hS (lv_sub hl [0, 1, 2] rfl)
      · have h := (if_pos c19).symm.trans h
        refine lv_bipush (pc := 131) (v := (121 : Int32)) hx hb dL_types_131 (by decide) ?_
        refine lv_goto (pc := 133) (tgt := 148) hx hb dL_types_133 (by decide) ?_
        obtain ⟨q50, hq50, h⟩ := bnd_ex h
        refine x_callVi (pc := 148) (st := .int (121 : Int32) :: .ref (ad 0) :: []) (As := [.int (121 : Int32)]) E hEx hl.1 hP hS (kX7_type hap  M _ _ _ hq50) gL_50 hdX7_type rfl (by decide) sh7 rfl ⟨Nat.le_of_ble_eq_true rfl, Nat.le_of_ble_eq_true rfl⟩ ⟨rfl, rfl⟩ dL_types_148 rfl (Nat.le_of_ble_eq_true rfl) (fun H locs hP hS n51 => ?_)
        refine lv_pop (pc := 151) hx hb dL_types_151 rfl ?_
        exact hB152 q50.2 x2 x3 _ _ _ h hP hS (lv_sub hl [0, 1, 2] rfl)
    · have h := (if_pos c18).symm.trans h
      refine lv_bipush (pc := 121) (v := (116 : Int32)) hx hb dL_types_121 (by decide) ?_
      refine lv_goto (pc := 123) (tgt := 148) hx hb dL_types_123 (by decide) ?_
      obtain ⟨q52, hq52, h⟩ := bnd_ex h
      refine x_callVi (pc := 148) (st := .int (116 : Int32) :: .ref (ad 0) :: []) (As := [.int (116 : Int32)]) E hEx hl.1 hP hS (kX7_type hap  M _ _ _ hq52) gL_50 hdX7_type rfl (by decide) sh7 rfl ⟨Nat.le_of_ble_eq_true rfl, Nat.le_of_ble_eq_true rfl⟩ ⟨rfl, rfl⟩ dL_types_148 rfl (Nat.le_of_ble_eq_true rfl) (fun H locs hP hS n53 => ?_)
      refine lv_pop (pc := 151) hx hb dL_types_151 rfl ?_
      exact hB152 q52.2 x2 x3 _ _ _ h hP hS (lv_sub hl [0, 1, 2] rfl)
  have hB80 : ∀ (M : Mem) (x2 x3 : Int32) (H : Heap) (locs : List Loc) (ls : Array Slot), fL_types_B80 M x2 x3 = some M' → va_P G vwCl (WW 78 (shX cA ad) ad M) H → va_S (AW 78 ad) s.heap H locs → lv_has ls 5 [(0, .ref (ad 0)), (2, .int x2), (3, .int x3)] → W p l e ({ frames := 2, cells := 0, slots := 0, locals := 43 } : Room) s m args below meth c H locs 0 0 (QV below G 78 (shX cA ad) ad args s M') (F0 m 80 ls []) := by
    intro M x2 x3 H locs ls h hP hS hl
    unfold fL_types_B80 at h
    refine lv_aload_n (pc := 80) hx hb dL_types_80 rfl (lv_at hl 0 rfl) ?_
    refine lv_iload_n (pc := 81) hx hb dL_types_81 rfl (lv_at hl 1 rfl) ?_
    refine lv_if_ne (pc := 82) (tgt := 90) hx hb dL_types_82 (by decide) (fun c13 => ?_) (fun c13 => ?_)
    · have h := (if_neg c13).symm.trans h
      refine lv_iload_n (pc := 90) hx hb dL_types_90 rfl (lv_at hl 1 rfl) ?_
      refine lv_iconst (pc := 91) (v := (1 : Int32)) hx hb dL_types_91 (by decide) ?_
      refine lv_icmp_ne (pc := 92) (tgt := 100) hx hb dL_types_92 (by decide) (fun c14 => ?_) (fun c14 => ?_)
      · have h := (if_neg c14).symm.trans h
        refine lv_iload_n (pc := 100) hx hb dL_types_100 rfl (lv_at hl 1 rfl) ?_
        refine lv_iconst (pc := 101) (v := (2 : Int32)) hx hb dL_types_101 (by decide) ?_
        refine lv_icmp_ne (pc := 102) (tgt := 110) hx hb dL_types_102 (by decide) (fun c15 => ?_) (fun c15 => ?_)
        · have h := (if_neg c15).symm.trans h
          refine lv_bipush (pc := 110) (v := (108 : Int32)) hx hb dL_types_110 (by decide) ?_
          obtain ⟨q16, hq16, h⟩ := bnd_ex h
          refine x_callVi (pc := 112) (st := .int (108 : Int32) :: .ref (ad 0) :: []) (As := [.int (108 : Int32)]) E hEx hl.1 hP hS (kX7_type hap  M _ _ _ hq16) gL_50 hdX7_type rfl (by decide) sh7 rfl ⟨Nat.le_of_ble_eq_true rfl, Nat.le_of_ble_eq_true rfl⟩ ⟨rfl, rfl⟩ dL_types_112 rfl (Nat.le_of_ble_eq_true rfl) (fun H locs hP hS n17 => ?_)
          refine lv_pop (pc := 115) hx hb dL_types_115 rfl ?_
          exact hB116 q16.2 x2 x3 _ _ _ h hP hS (lv_sub hl [0, 1, 2] rfl)
        · have h := (if_pos c15).symm.trans h
          refine lv_bipush (pc := 105) (v := (111 : Int32)) hx hb dL_types_105 (by decide) ?_
          refine lv_goto (pc := 107) (tgt := 112) hx hb dL_types_107 (by decide) ?_
          obtain ⟨q54, hq54, h⟩ := bnd_ex h
          refine x_callVi (pc := 112) (st := .int (111 : Int32) :: .ref (ad 0) :: []) (As := [.int (111 : Int32)]) E hEx hl.1 hP hS (kX7_type hap  M _ _ _ hq54) gL_50 hdX7_type rfl (by decide) sh7 rfl ⟨Nat.le_of_ble_eq_true rfl, Nat.le_of_ble_eq_true rfl⟩ ⟨rfl, rfl⟩ dL_types_112 rfl (Nat.le_of_ble_eq_true rfl) (fun H locs hP hS n55 => ?_)
          refine lv_pop (pc := 115) hx hb dL_types_115 rfl ?_
          exact hB116 q54.2 x2 x3 _ _ _ h hP hS (lv_sub hl [0, 1, 2] rfl)
      · have h := (if_pos c14).symm.trans h
        refine lv_bipush (pc := 95) (v := (101 : Int32)) hx hb dL_types_95 (by decide) ?_
        refine lv_goto (pc := 97) (tgt := 112) hx hb dL_types_97 (by decide) ?_
        obtain ⟨q56, hq56, h⟩ := bnd_ex h
        refine x_callVi (pc := 112) (st := .int (101 : Int32) :: .ref (ad 0) :: []) (As := [.int (101 : Int32)]) E hEx hl.1 hP hS (kX7_type hap  M _ _ _ hq56) gL_50 hdX7_type rfl (by decide) sh7 rfl ⟨Nat.le_of_ble_eq_true rfl, Nat.le_of_ble_eq_true rfl⟩ ⟨rfl, rfl⟩ dL_types_112 rfl (Nat.le_of_ble_eq_true rfl) (fun H locs hP hS n57 => ?_)
        refine lv_pop (pc := 115) hx hb dL_types_115 rfl ?_
        exact hB116 q56.2 x2 x3 _ _ _ h hP hS (lv_sub hl [0, 1, 2] rfl)
    · have h := (if_pos c13).symm.trans h
      refine lv_bipush (pc := 85) (v := (97 : Int32)) hx hb dL_types_85 (by decide) ?_
      refine lv_goto (pc := 87) (tgt := 112) hx hb dL_types_87 (by decide) ?_
      obtain ⟨q58, hq58, h⟩ := bnd_ex h
      refine x_callVi (pc := 112) (st := .int (97 : Int32) :: .ref (ad 0) :: []) (As := [.int (97 : Int32)]) E hEx hl.1 hP hS (kX7_type hap  M _ _ _ hq58) gL_50 hdX7_type rfl (by decide) sh7 rfl ⟨Nat.le_of_ble_eq_true rfl, Nat.le_of_ble_eq_true rfl⟩ ⟨rfl, rfl⟩ dL_types_112 rfl (Nat.le_of_ble_eq_true rfl) (fun H locs hP hS n59 => ?_)
      refine lv_pop (pc := 115) hx hb dL_types_115 rfl ?_
      exact hB116 q58.2 x2 x3 _ _ _ h hP hS (lv_sub hl [0, 1, 2] rfl)
  have hB24 : ∀ (M : Mem) (x1 x2 x3 : Int32) (H : Heap) (locs : List Loc) (ls : Array Slot), fL_types_B24 M x1 x2 x3 = some M' → va_P G vwCl (WW 78 (shX cA ad) ad M) H → va_S (AW 78 ad) s.heap H locs → lv_has ls 5 [(0, .ref (ad 0)), (1, .int x1), (2, .int x2), (3, .int x3)] → W p l e ({ frames := 2, cells := 0, slots := 0, locals := 43 } : Room) s m args below meth c H locs 0 0 (QV below G 78 (shX cA ad) ad args s M') (F0 m 24 ls []) := by
    intro M x1 x2 x3 H locs ls h hP hS hl
    unfold fL_types_B24 at h
    refine lv_aload_n (pc := 24) hx hb dL_types_24 rfl (lv_at hl 0 rfl) ?_
    refine lv_bipush (pc := 25) (v := (48 : Int32)) hx hb dL_types_25 (by decide) ?_
    refine lv_iload_n (pc := 27) hx hb dL_types_27 rfl (lv_at hl 1 rfl) ?_
    refine lv_bipush (pc := 28) (v := (10 : Int32)) hx hb dL_types_28 (by decide) ?_
    refine x_irem (pc := 30) hx hb dL_types_30 (by decide) ?_
    refine lv_iadd (pc := 31) hx hb dL_types_31 ?_
    refine lv_i2c (pc := 32) (v := (x_c ((48 : Int32) + (irm x1 (10 : Int32))))) hx hb dL_types_32 rfl ?_
    obtain ⟨q4, hq4, h⟩ := bnd_ex h
    refine x_callVi (pc := 33) (st := .int (x_c ((48 : Int32) + (irm x1 (10 : Int32)))) :: .ref (ad 0) :: []) (As := [.int (x_c ((48 : Int32) + (irm x1 (10 : Int32))))]) E hEx hl.1 hP hS (kX7_type hap  M _ _ _ hq4) gL_50 hdX7_type rfl (by decide) sh7 rfl ⟨Nat.le_of_ble_eq_true rfl, Nat.le_of_ble_eq_true rfl⟩ ⟨rfl, rfl⟩ dL_types_33 rfl (Nat.le_of_ble_eq_true rfl) (fun H locs hP hS n5 => ?_)
    refine lv_pop (pc := 36) hx hb dL_types_36 rfl ?_
    refine lv_aload_n (pc := 37) hx hb dL_types_37 rfl (lv_at hl 0 rfl) ?_
    refine lv_bipush (pc := 38) (v := (32 : Int32)) hx hb dL_types_38 (by decide) ?_
    obtain ⟨q6, hq6, h⟩ := bnd_ex h
    refine x_callVi (pc := 40) (st := .int (32 : Int32) :: .ref (ad 0) :: []) (As := [.int (32 : Int32)]) E hEx hl.1 hP hS (kX7_type hap  q4.2 _ _ _ hq6) gL_50 hdX7_type rfl (by decide) sh7 rfl ⟨Nat.le_of_ble_eq_true rfl, Nat.le_of_ble_eq_true rfl⟩ ⟨rfl, rfl⟩ dL_types_40 rfl (Nat.le_of_ble_eq_true rfl) (fun H locs hP hS n7 => ?_)
    refine lv_pop (pc := 43) hx hb dL_types_43 rfl ?_
    refine lv_aload_n (pc := 44) hx hb dL_types_44 rfl (lv_at hl 0 rfl) ?_
    refine lv_iload_n (pc := 45) hx hb dL_types_45 rfl (lv_at hl 2 rfl) ?_
    refine lv_if_ne (pc := 46) (tgt := 54) hx hb dL_types_46 (by decide) (fun c8 => ?_) (fun c8 => ?_)
    · have h := (if_neg c8).symm.trans h
      refine lv_iload_n (pc := 54) hx hb dL_types_54 rfl (lv_at hl 2 rfl) ?_
      refine lv_iconst (pc := 55) (v := (1 : Int32)) hx hb dL_types_55 (by decide) ?_
      refine lv_icmp_ne (pc := 56) (tgt := 64) hx hb dL_types_56 (by decide) (fun c9 => ?_) (fun c9 => ?_)
      · have h := (if_neg c9).symm.trans h
        refine lv_iload_n (pc := 64) hx hb dL_types_64 rfl (lv_at hl 2 rfl) ?_
        refine lv_iconst (pc := 65) (v := (2 : Int32)) hx hb dL_types_65 (by decide) ?_
        refine lv_icmp_ne (pc := 66) (tgt := 74) hx hb dL_types_66 (by decide) (fun c10 => ?_) (fun c10 => ?_)
        · have h := (if_neg c10).symm.trans h
          refine lv_bipush (pc := 74) (v := (112 : Int32)) hx hb dL_types_74 (by decide) ?_
          obtain ⟨q11, hq11, h⟩ := bnd_ex h
          refine x_callVi (pc := 76) (st := .int (112 : Int32) :: .ref (ad 0) :: []) (As := [.int (112 : Int32)]) E hEx hl.1 hP hS (kX7_type hap  q6.2 _ _ _ hq11) gL_50 hdX7_type rfl (by decide) sh7 rfl ⟨Nat.le_of_ble_eq_true rfl, Nat.le_of_ble_eq_true rfl⟩ ⟨rfl, rfl⟩ dL_types_76 rfl (Nat.le_of_ble_eq_true rfl) (fun H locs hP hS n12 => ?_)
          refine lv_pop (pc := 79) hx hb dL_types_79 rfl ?_
          exact hB80 q11.2 x2 x3 _ _ _ h hP hS (lv_sub hl [0, 2, 3] rfl)
        · have h := (if_pos c10).symm.trans h
          refine lv_bipush (pc := 69) (v := (99 : Int32)) hx hb dL_types_69 (by decide) ?_
          refine lv_goto (pc := 71) (tgt := 76) hx hb dL_types_71 (by decide) ?_
          obtain ⟨q60, hq60, h⟩ := bnd_ex h
          refine x_callVi (pc := 76) (st := .int (99 : Int32) :: .ref (ad 0) :: []) (As := [.int (99 : Int32)]) E hEx hl.1 hP hS (kX7_type hap  q6.2 _ _ _ hq60) gL_50 hdX7_type rfl (by decide) sh7 rfl ⟨Nat.le_of_ble_eq_true rfl, Nat.le_of_ble_eq_true rfl⟩ ⟨rfl, rfl⟩ dL_types_76 rfl (Nat.le_of_ble_eq_true rfl) (fun H locs hP hS n61 => ?_)
          refine lv_pop (pc := 79) hx hb dL_types_79 rfl ?_
          exact hB80 q60.2 x2 x3 _ _ _ h hP hS (lv_sub hl [0, 2, 3] rfl)
      · have h := (if_pos c9).symm.trans h
        refine lv_bipush (pc := 59) (v := (107 : Int32)) hx hb dL_types_59 (by decide) ?_
        refine lv_goto (pc := 61) (tgt := 76) hx hb dL_types_61 (by decide) ?_
        obtain ⟨q62, hq62, h⟩ := bnd_ex h
        refine x_callVi (pc := 76) (st := .int (107 : Int32) :: .ref (ad 0) :: []) (As := [.int (107 : Int32)]) E hEx hl.1 hP hS (kX7_type hap  q6.2 _ _ _ hq62) gL_50 hdX7_type rfl (by decide) sh7 rfl ⟨Nat.le_of_ble_eq_true rfl, Nat.le_of_ble_eq_true rfl⟩ ⟨rfl, rfl⟩ dL_types_76 rfl (Nat.le_of_ble_eq_true rfl) (fun H locs hP hS n63 => ?_)
        refine lv_pop (pc := 79) hx hb dL_types_79 rfl ?_
        exact hB80 q62.2 x2 x3 _ _ _ h hP hS (lv_sub hl [0, 2, 3] rfl)
    · have h := (if_pos c8).symm.trans h
      refine lv_bipush (pc := 49) (v := (108 : Int32)) hx hb dL_types_49 (by decide) ?_
      refine lv_goto (pc := 51) (tgt := 76) hx hb dL_types_51 (by decide) ?_
      obtain ⟨q64, hq64, h⟩ := bnd_ex h
      refine x_callVi (pc := 76) (st := .int (108 : Int32) :: .ref (ad 0) :: []) (As := [.int (108 : Int32)]) E hEx hl.1 hP hS (kX7_type hap  q6.2 _ _ _ hq64) gL_50 hdX7_type rfl (by decide) sh7 rfl ⟨Nat.le_of_ble_eq_true rfl, Nat.le_of_ble_eq_true rfl⟩ ⟨rfl, rfl⟩ dL_types_76 rfl (Nat.le_of_ble_eq_true rfl) (fun H locs hP hS n65 => ?_)
      refine lv_pop (pc := 79) hx hb dL_types_79 rfl ?_
      exact hB80 q64.2 x2 x3 _ _ _ h hP hS (lv_sub hl [0, 2, 3] rfl)
  unfold fL_types at h
  refine lv_aload_n (pc := 0) hx hb dL_types_0 rfl (lv_at hl 0 rfl) ?_
  obtain ⟨q1, hq1, h⟩ := bnd_ex h
  refine x_callVi (pc := 1) (st := .ref (ad 0) :: []) (As := []) E hEx hl.1 hP hS (kX7_clearText hap  M  _ _ hq1) gL_46 hdX7_clearText rfl (by decide) sh7 rfl ⟨Nat.le_of_ble_eq_true rfl, Nat.le_of_ble_eq_true rfl⟩ ⟨rfl, rfl⟩ dL_types_1 rfl (Nat.le_of_ble_eq_true rfl) (fun H locs hP hS n2 => ?_)
  refine lv_pop (pc := 4) hx hb dL_types_4 rfl ?_
  refine lv_iload_n (pc := 5) hx hb dL_types_5 rfl (lv_at hl 1 rfl) ?_
  refine lv_bipush (pc := 6) (v := (9 : Int32)) hx hb dL_types_6 (by decide) ?_
  refine lv_icmp_le (pc := 8) (tgt := 24) hx hb dL_types_8 (by decide) (fun c3 => ?_) (fun c3 => ?_)
  · have h := (if_pos c3).symm.trans h
    exact hB24 q1.2 x1 x2 x3 _ _ _ h hP hS (lv_sub hl [0, 1, 2, 3] rfl)
  · have h := (if_neg c3).symm.trans h
    refine lv_aload_n (pc := 11) hx hb dL_types_11 rfl (lv_at hl 0 rfl) ?_
    refine lv_bipush (pc := 12) (v := (48 : Int32)) hx hb dL_types_12 (by decide) ?_
    refine lv_iload_n (pc := 14) hx hb dL_types_14 rfl (lv_at hl 1 rfl) ?_
    refine lv_bipush (pc := 15) (v := (10 : Int32)) hx hb dL_types_15 (by decide) ?_
    refine lv_idiv (pc := 17) hx hb dL_types_17 (by decide) ?_
    refine lv_iadd (pc := 18) hx hb dL_types_18 ?_
    refine lv_i2c (pc := 19) (v := (x_c ((48 : Int32) + (x1 / (10 : Int32))))) hx hb dL_types_19 rfl ?_
    obtain ⟨q66, hq66, h⟩ := bnd_ex h
    refine x_callVi (pc := 20) (st := .int (x_c ((48 : Int32) + (x1 / (10 : Int32)))) :: .ref (ad 0) :: []) (As := [.int (x_c ((48 : Int32) + (x1 / (10 : Int32))))]) E hEx hl.1 hP hS (kX7_type hap  q1.2 _ _ _ hq66) gL_50 hdX7_type rfl (by decide) sh7 rfl ⟨Nat.le_of_ble_eq_true rfl, Nat.le_of_ble_eq_true rfl⟩ ⟨rfl, rfl⟩ dL_types_20 rfl (Nat.le_of_ble_eq_true rfl) (fun H locs hP hS n67 => ?_)
    refine lv_pop (pc := 23) hx hb dL_types_23 rfl ?_
    exact hB24 q66.2 x1 x2 x3 _ _ _ h hP hS (lv_sub hl [0, 1, 2, 3] rfl)
set_option maxRecDepth 100000 in
set_option maxHeartbeats 4000000 in
theorem kL_build (hap : Apart 78 ad)   (M : Mem) (x1 x2 : Int32) (v : Int32) (M' : Mem) (h : fL_build M x1 x2 = some (v, M')) : XI G ad sK sV cA cZ cC yL_build cL_build 12 .boolean ({ frames := 9, cells := 0, slots := 0, locals := 246 } : Room) [.ref (ad 0), .int x1, .int x2] M v M' := by
  refine CI.mk (own := RL) (ls0 := [(0, .ref (ad 0)), (1, .int x1), (2, .int x2)]) (by decide +kernel) rfl hap (Nat.le_of_ble_eq_true rfl) rfl ?_
  intro p l e s m args below meth c ls E hP hl
  have hx := E.1
  have hb := E.2.1
  have hown := E.2.2.2.2.2.1
  have hts := E.2.2.2.2.2.2.1
  have hNe := E.2.2.2.2.2.2.2.2.1.1
  have hEx := ExX.ok ad sK sV
  have hS : va_S (AW 78 ad) s.heap s.heap [] := va_S.rf
  have hB293 : ∀ (M : Mem) (x9 x10 : Int32) (H : Heap) (locs : List Loc) (ls : Array Slot), fL_build_B293 M x9 x10 = some (v, M') → va_P G vwCl (WW 78 (shX cA ad) ad M) H → va_S (AW 78 ad) s.heap H locs → lv_has ls 12 [(9, .int x9), (10, .int x10)] → W p l e ({ frames := 9, cells := 0, slots := 0, locals := 246 } : Room) s m args below meth c H locs 0 0 (QI below G 78 (shX cA ad) ad .boolean args s v M') (F0 m 293 ls []) := by
    intro M x9 x10 H locs ls h hP hS hl
    unfold fL_build_B293 at h
    refine lv_iload (pc := 293) hx hb dL_build_293 (lv_at hl 0 rfl) ?_
    refine lv_if_eq (pc := 295) (tgt := 307) hx hb dL_build_295 (by decide) (fun c33 => ?_) (fun c33 => ?_)
    · have h := (if_pos c33).symm.trans h
      refine lv_iconst (pc := 307) (v := (0 : Int32)) hx hb dL_build_307 (by decide) ?_
      obtain ⟨rfl, rfl⟩ := som2 h
      exact x_iret E hP hS rfl dL_build_308
    · have h := (if_neg c33).symm.trans h
      refine lv_iload (pc := 298) hx hb dL_build_298 (lv_at hl 1 rfl) ?_
      refine lv_if_eq (pc := 300) (tgt := 307) hx hb dL_build_300 (by decide) (fun c34 => ?_) (fun c34 => ?_)
      · have h := (if_pos c34).symm.trans h
        refine lv_iconst (pc := 307) (v := (0 : Int32)) hx hb dL_build_307 (by decide) ?_
        obtain ⟨rfl, rfl⟩ := som2 h
        exact x_iret E hP hS rfl dL_build_308
      · have h := (if_neg c34).symm.trans h
        refine lv_iconst (pc := 303) (v := (1 : Int32)) hx hb dL_build_303 (by decide) ?_
        refine lv_goto (pc := 304) (tgt := 308) hx hb dL_build_304 (by decide) ?_
        obtain ⟨rfl, rfl⟩ := som2 h
        exact x_iret E hP hS rfl dL_build_308
  have hB231 : ∀ (M : Mem) (x2 x4 x7 x9 x10 : Int32) (H : Heap) (locs : List Loc) (ls : Array Slot), fL_build_B231 M x2 x4 x7 x9 x10 = some (v, M') → va_P G vwCl (WW 78 (shX cA ad) ad M) H → va_S (AW 78 ad) s.heap H locs → lv_has ls 12 [(0, .ref (ad 0)), (2, .int x2), (4, .int x4), (7, .int x7), (9, .int x9), (10, .int x10)] → W p l e ({ frames := 9, cells := 0, slots := 0, locals := 246 } : Room) s m args below meth c H locs 0 0 (QI below G 78 (shX cA ad) ad .boolean args s v M') (F0 m 231 ls []) := by
    intro M x2 x4 x7 x9 x10 H locs ls h hP hS hl
    unfold fL_build_B231 at h
    refine lv_iload (pc := 231) hx hb dL_build_231 (lv_at hl 2 rfl) ?_
    refine lv_iconst (pc := 233) (v := (2 : Int32)) hx hb dL_build_233 (by decide) ?_
    refine lv_icmp_ne (pc := 234) (tgt := 278) hx hb dL_build_234 (by decide) (fun c28 => ?_) (fun c28 => ?_)
    · have h := (if_neg c28).symm.trans h
      refine lv_aload_n (pc := 278) hx hb dL_build_278 rfl (lv_at hl 0 rfl) ?_
      refine lv_iload_n (pc := 279) hx hb dL_build_279 rfl (lv_at hl 1 rfl) ?_
      refine lv_iconst (pc := 280) (v := (3 : Int32)) hx hb dL_build_280 (by decide) ?_
      refine lv_ishr (pc := 281) hx hb dL_build_281 ?_
      refine lv_iload (pc := 282) hx hb dL_build_282 (lv_at hl 3 rfl) ?_
      refine lv_iconst (pc := 284) (v := (1 : Int32)) hx hb dL_build_284 (by decide) ?_
      refine lv_iadd (pc := 285) hx hb dL_build_285 ?_
      obtain ⟨y29, hy29, h⟩ := bnd_ex h
      refine x_callSi (pc := 286) (st := .int (x7 + (1 : Int32)) :: .int (x2 >>> ((3 : Int32) &&& 31)) :: .ref (ad 0) :: []) (As := [.int (x2 >>> ((3 : Int32) &&& 31)), .int (x7 + (1 : Int32))]) E hEx hl.1 hP hS (kL_low hap  M _ _ _ hy29) gL_54 hsL_low rfl ⟨Nat.le_of_ble_eq_true rfl, Nat.le_of_ble_eq_true rfl⟩ ⟨rfl, rfl⟩ dL_build_286 rfl (Nat.le_of_ble_eq_true rfl) (fun H locs hP hS n30 => ?_)
      obtain ⟨q31, hq31, h⟩ := bnd_ex h
      refine x_callVi (pc := 289) (st := .int y29 :: .ref (ad 0) :: []) (As := [.int y29]) E hEx hl.1 hP hS (kX7_addProp hap  M _ _ _ hq31) gL_64 hdX7_addProp rfl (by decide) sh7 rfl ⟨Nat.le_of_ble_eq_true rfl, Nat.le_of_ble_eq_true rfl⟩ ⟨rfl, rfl⟩ dL_build_289 rfl (Nat.le_of_ble_eq_true rfl) (fun H locs hP hS n32 => ?_)
      refine lv_pop (pc := 292) hx hb dL_build_292 rfl ?_
      exact hB293 q31.2 x9 x10 _ _ _ h hP hS (lv_sub hl [4, 5] rfl)
    · have h := (if_pos c28).symm.trans h
      refine lv_aload_n (pc := 237) hx hb dL_build_237 rfl (lv_at hl 0 rfl) ?_
      refine lv_iload_n (pc := 238) hx hb dL_build_238 rfl (lv_at hl 1 rfl) ?_
      refine lv_bipush (pc := 239) (v := (8 : Int32)) hx hb dL_build_239 (by decide) ?_
      refine lv_ishr (pc := 241) hx hb dL_build_241 ?_
      refine lv_iload (pc := 242) hx hb dL_build_242 (lv_at hl 3 rfl) ?_
      obtain ⟨y35, hy35, h⟩ := bnd_ex h
      refine x_callSi (pc := 244) (st := .int x7 :: .int (x2 >>> ((8 : Int32) &&& 31)) :: .ref (ad 0) :: []) (As := [.int (x2 >>> ((8 : Int32) &&& 31)), .int x7]) E hEx hl.1 hP hS (kL_low hap  M _ _ _ hy35) gL_54 hsL_low rfl ⟨Nat.le_of_ble_eq_true rfl, Nat.le_of_ble_eq_true rfl⟩ ⟨rfl, rfl⟩ dL_build_244 rfl (Nat.le_of_ble_eq_true rfl) (fun H locs hP hS n36 => ?_)
      obtain ⟨q37, hq37, h⟩ := bnd_ex h
      refine x_callVi (pc := 247) (st := .int y35 :: .ref (ad 0) :: []) (As := [.int y35]) E hEx hl.1 hP hS (kX7_addProp hap  M _ _ _ hq37) gL_64 hdX7_addProp rfl (by decide) sh7 rfl ⟨Nat.le_of_ble_eq_true rfl, Nat.le_of_ble_eq_true rfl⟩ ⟨rfl, rfl⟩ dL_build_247 rfl (Nat.le_of_ble_eq_true rfl) (fun H locs hP hS n38 => ?_)
      refine lv_istore (pc := 250) (lv' := [(11, .int q37.1), (0, .ref (ad 0)), (2, .int x2), (4, .int x4), (7, .int x7), (9, .int x9), (10, .int x10)]) hx hb dL_build_250 hl (by decide) rfl (fun ls hl => ?_)
      refine lv_aload_n (pc := 252) hx hb dL_build_252 rfl (lv_at hl 1 rfl) ?_
      refine lv_iload (pc := 253) hx hb dL_build_253 (lv_at hl 0 rfl) ?_
      refine lv_if_ge (pc := 255) (tgt := 262) hx hb dL_build_255 (by decide) (fun c39 => ?_) (fun c39 => ?_)
      · have h := (if_pos c39).symm.trans h
        refine lv_iload (pc := 262) hx hb dL_build_262 (lv_at hl 0 rfl) ?_
        refine lv_iload (pc := 264) hx hb dL_build_264 (lv_at hl 4 rfl) ?_
        refine lv_iload_n (pc := 266) hx hb dL_build_266 rfl (lv_at hl 2 rfl) ?_
        refine lv_iconst (pc := 267) (v := (4 : Int32)) hx hb dL_build_267 (by decide) ?_
        obtain ⟨y40, hy40, h⟩ := bnd_ex h
        refine x_callSi (pc := 268) (st := .int (4 : Int32) :: .int x2 :: .int x7 :: .int q37.1 :: .ref (ad 0) :: []) (As := [.int x2, .int (4 : Int32)]) E hEx hl.1 hP hS (kL_low hap  q37.2 _ _ _ hy40) gL_54 hsL_low rfl ⟨Nat.le_of_ble_eq_true rfl, Nat.le_of_ble_eq_true rfl⟩ ⟨rfl, rfl⟩ dL_build_268 rfl (Nat.le_of_ble_eq_true rfl) (fun H locs hP hS n41 => ?_)
        obtain ⟨q42, hq42, h⟩ := bnd_ex h
        refine x_callVi (pc := 271) (st := .int y40 :: .int x7 :: .int q37.1 :: .ref (ad 0) :: []) (As := [.int q37.1, .int x7, .int y40]) E hEx hl.1 hP hS (kX7_addClue hap  q37.2 _ _ _ _ _ hq42) gL_67 hdX7_addClue rfl (by decide) sh7 rfl ⟨Nat.le_of_ble_eq_true rfl, Nat.le_of_ble_eq_true rfl⟩ ⟨rfl, rfl⟩ dL_build_271 rfl (Nat.le_of_ble_eq_true rfl) (fun H locs hP hS n43 => ?_)
        refine lv_pop (pc := 274) hx hb dL_build_274 rfl ?_
        refine lv_goto (pc := 275) (tgt := 293) hx hb dL_build_275 (by decide) ?_
        exact hB293 q42.2 x9 x10 _ _ _ h hP hS (lv_sub hl [5, 6] rfl)
      · have h := (if_neg c39).symm.trans h
        refine lv_iconst (pc := 258) (v := (0 : Int32)) hx hb dL_build_258 (by decide) ?_
        refine lv_goto (pc := 259) (tgt := 264) hx hb dL_build_259 (by decide) ?_
        refine lv_iload (pc := 264) hx hb dL_build_264 (lv_at hl 4 rfl) ?_
        refine lv_iload_n (pc := 266) hx hb dL_build_266 rfl (lv_at hl 2 rfl) ?_
        refine lv_iconst (pc := 267) (v := (4 : Int32)) hx hb dL_build_267 (by decide) ?_
        obtain ⟨y44, hy44, h⟩ := bnd_ex h
        refine x_callSi (pc := 268) (st := .int (4 : Int32) :: .int x2 :: .int x7 :: .int (0 : Int32) :: .ref (ad 0) :: []) (As := [.int x2, .int (4 : Int32)]) E hEx hl.1 hP hS (kL_low hap  q37.2 _ _ _ hy44) gL_54 hsL_low rfl ⟨Nat.le_of_ble_eq_true rfl, Nat.le_of_ble_eq_true rfl⟩ ⟨rfl, rfl⟩ dL_build_268 rfl (Nat.le_of_ble_eq_true rfl) (fun H locs hP hS n45 => ?_)
        obtain ⟨q46, hq46, h⟩ := bnd_ex h
        refine x_callVi (pc := 271) (st := .int y44 :: .int x7 :: .int (0 : Int32) :: .ref (ad 0) :: []) (As := [.int (0 : Int32), .int x7, .int y44]) E hEx hl.1 hP hS (kX7_addClue hap  q37.2 _ _ _ _ _ hq46) gL_67 hdX7_addClue rfl (by decide) sh7 rfl ⟨Nat.le_of_ble_eq_true rfl, Nat.le_of_ble_eq_true rfl⟩ ⟨rfl, rfl⟩ dL_build_271 rfl (Nat.le_of_ble_eq_true rfl) (fun H locs hP hS n47 => ?_)
        refine lv_pop (pc := 274) hx hb dL_build_274 rfl ?_
        refine lv_goto (pc := 275) (tgt := 293) hx hb dL_build_275 (by decide) ?_
        exact hB293 q46.2 x9 x10 _ _ _ h hP hS (lv_sub hl [5, 6] rfl)
  have hB205 : ∀ (M : Mem) (x2 x4 x7 x8 x9 : Int32) (H : Heap) (locs : List Loc) (ls : Array Slot), fL_build_B205 M x2 x4 x7 x8 x9 = some (v, M') → va_P G vwCl (WW 78 (shX cA ad) ad M) H → va_S (AW 78 ad) s.heap H locs → lv_has ls 12 [(0, .ref (ad 0)), (2, .int x2), (4, .int x4), (7, .int x7), (8, .int x8), (9, .int x9)] → W p l e ({ frames := 9, cells := 0, slots := 0, locals := 246 } : Room) s m args below meth c H locs 0 0 (QI below G 78 (shX cA ad) ad .boolean args s v M') (F0 m 205 ls []) := by
    intro M x2 x4 x7 x8 x9 H locs ls h hP hS hl
    unfold fL_build_B205 at h
    refine lv_aload_n (pc := 205) hx hb dL_build_205 rfl (lv_at hl 0 rfl) ?_
    refine lv_bipush (pc := 206) (v := (120 : Int32)) hx hb dL_build_206 (by decide) ?_
    obtain ⟨q23, hq23, h⟩ := bnd_ex h
    refine x_callVi (pc := 208) (st := .int (120 : Int32) :: .ref (ad 0) :: []) (As := [.int (120 : Int32)]) E hEx hl.1 hP hS (kX7_type hap  M _ _ _ hq23) gL_50 hdX7_type rfl (by decide) sh7 rfl ⟨Nat.le_of_ble_eq_true rfl, Nat.le_of_ble_eq_true rfl⟩ ⟨rfl, rfl⟩ dL_build_208 rfl (Nat.le_of_ble_eq_true rfl) (fun H locs hP hS n24 => ?_)
    refine lv_pop (pc := 211) hx hb dL_build_211 rfl ?_
    refine lv_aload_n (pc := 212) hx hb dL_build_212 rfl (lv_at hl 0 rfl) ?_
    obtain ⟨q25, hq25, h⟩ := bnd_ex h
    refine x_callVi (pc := 213) (st := .ref (ad 0) :: []) (As := []) E hEx hl.1 hP hS (kX7_addBox hap  q23.2  _ _ hq25) gL_61 hdX7_addBox rfl (by decide) sh7 rfl ⟨Nat.le_of_ble_eq_true rfl, Nat.le_of_ble_eq_true rfl⟩ ⟨rfl, rfl⟩ dL_build_213 rfl (Nat.le_of_ble_eq_true rfl) (fun H locs hP hS n26 => ?_)
    refine lv_bipush (pc := 216) (v := (-100 : Int32)) hx hb dL_build_216 (by decide) ?_
    refine lv_iload (pc := 218) hx hb dL_build_218 (lv_at hl 4 rfl) ?_
    refine lv_isub (pc := 220) hx hb dL_build_220 ?_
    refine lv_icmp_ne (pc := 221) (tgt := 228) hx hb dL_build_221 (by decide) (fun c27 => ?_) (fun c27 => ?_)
    · have h := (if_neg c27).symm.trans h
      refine lv_iconst (pc := 228) (v := (0 : Int32)) hx hb dL_build_228 (by decide) ?_
      refine lv_istore (pc := 229) (lv' := [(10, .int (0 : Int32)), (0, .ref (ad 0)), (2, .int x2), (4, .int x4), (7, .int x7), (8, .int x8), (9, .int x9)]) hx hb dL_build_229 hl (by decide) rfl (fun ls hl => ?_)
      exact hB231 q25.2 x2 x4 x7 x9 (0 : Int32) _ _ _ h hP hS (lv_sub hl [1, 2, 3, 4, 6, 0] rfl)
    · have h := (if_pos c27).symm.trans h
      refine lv_iconst (pc := 224) (v := (1 : Int32)) hx hb dL_build_224 (by decide) ?_
      refine lv_goto (pc := 225) (tgt := 229) hx hb dL_build_225 (by decide) ?_
      refine lv_istore (pc := 229) (lv' := [(10, .int (1 : Int32)), (0, .ref (ad 0)), (2, .int x2), (4, .int x4), (7, .int x7), (8, .int x8), (9, .int x9)]) hx hb dL_build_229 hl (by decide) rfl (fun ls hl => ?_)
      exact hB231 q25.2 x2 x4 x7 x9 (1 : Int32) _ _ _ h hP hS (lv_sub hl [1, 2, 3, 4, 6, 0] rfl)
  have hB84 : ∀ (M : Mem) (x2 x3 x4 x6 : Int32) (H : Heap) (locs : List Loc) (ls : Array Slot), fL_build_B84 M x2 x3 x4 x6 = some (v, M') → va_P G vwCl (WW 78 (shX cA ad) ad M) H → va_S (AW 78 ad) s.heap H locs → lv_has ls 12 [(0, .ref (ad 0)), (2, .int x2), (3, .int x3), (4, .int x4), (6, .int x6)] → W p l e ({ frames := 9, cells := 0, slots := 0, locals := 246 } : Room) s m args below meth c H locs 0 0 (QI below G 78 (shX cA ad) ad .boolean args s v M') (F0 m 84 ls []) := by
    intro M x2 x3 x4 x6 H locs ls h hP hS hl
    unfold fL_build_B84 at h
    refine lv_aload_n (pc := 84) hx hb dL_build_84 rfl (lv_at hl 0 rfl) ?_
    refine lv_iload_n (pc := 85) hx hb dL_build_85 rfl (lv_at hl 2 rfl) ?_
    refine lv_iload (pc := 86) hx hb dL_build_86 (lv_at hl 3 rfl) ?_
    refine lv_iload (pc := 88) hx hb dL_build_88 (lv_at hl 4 rfl) ?_
    obtain ⟨M14, hM14, h⟩ := bnd_ex h
    refine x_callSv (pc := 90) (st := .int x6 :: .int x4 :: .int x3 :: .ref (ad 0) :: []) (As := [.ref (ad 0), .int x3, .int x4, .int x6]) E hEx hl.1 hP hS (kL_types hap  M _ _ _ _ hM14) gL_57 hsL_types rfl ⟨Nat.le_of_ble_eq_true rfl, Nat.le_of_ble_eq_true rfl⟩ ⟨rfl, rfl⟩ dL_build_90 rfl (Nat.le_of_ble_eq_true rfl) (fun H locs hP hS => ?_)
    refine lv_aload_n (pc := 93) hx hb dL_build_93 rfl (lv_at hl 0 rfl) ?_
    obtain ⟨q15, hq15, h⟩ := bnd_ex h
    refine x_callVi (pc := 94) (st := .ref (ad 0) :: []) (As := []) E hEx hl.1 hP hS (kX7_addBox hap  M14  _ _ hq15) gL_61 hdX7_addBox rfl (by decide) sh7 rfl ⟨Nat.le_of_ble_eq_true rfl, Nat.le_of_ble_eq_true rfl⟩ ⟨rfl, rfl⟩ dL_build_94 rfl (Nat.le_of_ble_eq_true rfl) (fun H locs hP hS n16 => ?_)
    refine lv_istore (pc := 97) (lv' := [(7, .int q15.1), (0, .ref (ad 0)), (2, .int x2), (3, .int x3), (4, .int x4), (6, .int x6)]) hx hb dL_build_97 hl (by decide) rfl (fun ls hl => ?_)
    refine lv_iload (pc := 99) hx hb dL_build_99 (lv_at hl 0 rfl) ?_
    refine lv_bipush (pc := 101) (v := (-3 : Int32)) hx hb dL_build_101 (by decide) ?_
    refine lv_icmp_ne (pc := 103) (tgt := 122) hx hb dL_build_103 (by decide) (fun c17 => ?_) (fun c17 => ?_)
    · have h := (if_neg c17).symm.trans h
      refine lv_aload_n (pc := 122) hx hb dL_build_122 rfl (lv_at hl 1 rfl) ?_
      refine lv_bipush (pc := 123) (v := (11 : Int32)) hx hb dL_build_123 (by decide) ?_
      obtain ⟨y18, hy18, h⟩ := bnd_ex h
      refine x_callVi (pc := 125) (st := .int (11 : Int32) :: .ref (ad 0) :: []) (As := [.int (11 : Int32)]) E hEx hl.1 hP hS (kX7_count hap  q15.2 _ _ hy18) gL_15 hdX7_count rfl (by decide) sh7 rfl ⟨Nat.le_of_ble_eq_true rfl, Nat.le_of_ble_eq_true rfl⟩ ⟨rfl, rfl⟩ dL_build_125 rfl (Nat.le_of_ble_eq_true rfl) (fun H locs hP hS n19 => ?_)
      refine lv_istore (pc := 128) (lv' := [(8, .int y18), (7, .int q15.1), (0, .ref (ad 0)), (2, .int x2), (3, .int x3), (4, .int x4), (6, .int x6)]) hx hb dL_build_128 hl (by decide) rfl (fun ls hl => ?_)
      refine lv_iload (pc := 130) hx hb dL_build_130 (lv_at hl 1 rfl) ?_
      refine lv_aload_n (pc := 132) hx hb dL_build_132 rfl (lv_at hl 2 rfl) ?_
      refine lv_iconst (pc := 133) (v := (0 : Int32)) hx hb dL_build_133 (by decide) ?_
      obtain ⟨y20, hy20, h⟩ := bnd_ex h
      refine x_callVi (pc := 134) (st := .int (0 : Int32) :: .ref (ad 0) :: .int q15.1 :: []) (As := [.int (0 : Int32)]) E hEx hl.1 hP hS (kX7_count hap  q15.2 _ _ hy20) gL_15 hdX7_count rfl (by decide) sh7 rfl ⟨Nat.le_of_ble_eq_true rfl, Nat.le_of_ble_eq_true rfl⟩ ⟨rfl, rfl⟩ dL_build_134 rfl (Nat.le_of_ble_eq_true rfl) (fun H locs hP hS n21 => ?_)
      refine lv_iconst (pc := 137) (v := (1 : Int32)) hx hb dL_build_137 (by decide) ?_
      refine lv_isub (pc := 138) hx hb dL_build_138 ?_
      refine lv_icmp_ne (pc := 139) (tgt := 202) hx hb dL_build_139 (by decide) (fun c22 => ?_) (fun c22 => ?_)
      · have h := (if_neg c22).symm.trans h
        refine lv_iconst (pc := 202) (v := (0 : Int32)) hx hb dL_build_202 (by decide) ?_
        refine lv_istore (pc := 203) (lv' := [(9, .int (0 : Int32)), (8, .int y18), (7, .int q15.1), (0, .ref (ad 0)), (2, .int x2), (3, .int x3), (4, .int x4), (6, .int x6)]) hx hb dL_build_203 hl (by decide) rfl (fun ls hl => ?_)
        exact hB205 q15.2 x2 x4 q15.1 y18 (0 : Int32) _ _ _ h hP hS (lv_sub hl [3, 4, 6, 2, 1, 0] rfl)
      · have h := (if_pos c22).symm.trans h
        refine lv_aload_n (pc := 142) hx hb dL_build_142 rfl (lv_at hl 2 rfl) ?_
        refine lv_iload (pc := 143) hx hb dL_build_143 (lv_at hl 1 rfl) ?_
        refine lv_iconst (pc := 145) (v := (0 : Int32)) hx hb dL_build_145 (by decide) ?_
        obtain ⟨y48, hy48, h⟩ := bnd_ex h
        refine x_callVi (pc := 146) (st := .int (0 : Int32) :: .int q15.1 :: .ref (ad 0) :: []) (As := [.int q15.1, .int (0 : Int32)]) E hEx hl.1 hP hS (kX7_box hap  q15.2 _ _ _ hy48) gL_9 hdX7_box rfl (by decide) sh7 rfl ⟨Nat.le_of_ble_eq_true rfl, Nat.le_of_ble_eq_true rfl⟩ ⟨rfl, rfl⟩ dL_build_146 rfl (Nat.le_of_ble_eq_true rfl) (fun H locs hP hS n49 => ?_)
        refine lv_iload_n (pc := 149) hx hb dL_build_149 rfl (lv_at hl 4 rfl) ?_
        refine lv_icmp_ne (pc := 150) (tgt := 202) hx hb dL_build_150 (by decide) (fun c50 => ?_) (fun c50 => ?_)
        · have h := (if_neg c50).symm.trans h
          refine lv_iconst (pc := 202) (v := (0 : Int32)) hx hb dL_build_202 (by decide) ?_
          refine lv_istore (pc := 203) (lv' := [(9, .int (0 : Int32)), (8, .int y18), (7, .int q15.1), (0, .ref (ad 0)), (2, .int x2), (3, .int x3), (4, .int x4), (6, .int x6)]) hx hb dL_build_203 hl (by decide) rfl (fun ls hl => ?_)
          exact hB205 q15.2 x2 x4 q15.1 y18 (0 : Int32) _ _ _ h hP hS (lv_sub hl [3, 4, 6, 2, 1, 0] rfl)
        · have h := (if_pos c50).symm.trans h
          refine lv_aload_n (pc := 153) hx hb dL_build_153 rfl (lv_at hl 2 rfl) ?_
          refine lv_iload (pc := 154) hx hb dL_build_154 (lv_at hl 1 rfl) ?_
          refine lv_iconst (pc := 156) (v := (1 : Int32)) hx hb dL_build_156 (by decide) ?_
          obtain ⟨y51, hy51, h⟩ := bnd_ex h
          refine x_callVi (pc := 157) (st := .int (1 : Int32) :: .int q15.1 :: .ref (ad 0) :: []) (As := [.int q15.1, .int (1 : Int32)]) E hEx hl.1 hP hS (kX7_box hap  q15.2 _ _ _ hy51) gL_9 hdX7_box rfl (by decide) sh7 rfl ⟨Nat.le_of_ble_eq_true rfl, Nat.le_of_ble_eq_true rfl⟩ ⟨rfl, rfl⟩ dL_build_157 rfl (Nat.le_of_ble_eq_true rfl) (fun H locs hP hS n52 => ?_)
          refine lv_iload (pc := 160) hx hb dL_build_160 (lv_at hl 5 rfl) ?_
          refine lv_icmp_ne (pc := 162) (tgt := 202) hx hb dL_build_162 (by decide) (fun c53 => ?_) (fun c53 => ?_)
          · have h := (if_neg c53).symm.trans h
            refine lv_iconst (pc := 202) (v := (0 : Int32)) hx hb dL_build_202 (by decide) ?_
            refine lv_istore (pc := 203) (lv' := [(9, .int (0 : Int32)), (8, .int y18), (7, .int q15.1), (0, .ref (ad 0)), (2, .int x2), (3, .int x3), (4, .int x4), (6, .int x6)]) hx hb dL_build_203 hl (by decide) rfl (fun ls hl => ?_)
            exact hB205 q15.2 x2 x4 q15.1 y18 (0 : Int32) _ _ _ h hP hS (lv_sub hl [3, 4, 6, 2, 1, 0] rfl)
          · have h := (if_pos c53).symm.trans h
            refine lv_aload_n (pc := 165) hx hb dL_build_165 rfl (lv_at hl 2 rfl) ?_
            refine lv_iload (pc := 166) hx hb dL_build_166 (lv_at hl 1 rfl) ?_
            refine lv_iconst (pc := 168) (v := (2 : Int32)) hx hb dL_build_168 (by decide) ?_
            obtain ⟨y54, hy54, h⟩ := bnd_ex h
            refine x_callVi (pc := 169) (st := .int (2 : Int32) :: .int q15.1 :: .ref (ad 0) :: []) (As := [.int q15.1, .int (2 : Int32)]) E hEx hl.1 hP hS (kX7_box hap  q15.2 _ _ _ hy54) gL_9 hdX7_box rfl (by decide) sh7 rfl ⟨Nat.le_of_ble_eq_true rfl, Nat.le_of_ble_eq_true rfl⟩ ⟨rfl, rfl⟩ dL_build_169 rfl (Nat.le_of_ble_eq_true rfl) (fun H locs hP hS n55 => ?_)
            refine lv_if_ne (pc := 172) (tgt := 202) hx hb dL_build_172 (by decide) (fun c56 => ?_) (fun c56 => ?_)
            · have h := (if_neg c56).symm.trans h
              refine lv_iconst (pc := 202) (v := (0 : Int32)) hx hb dL_build_202 (by decide) ?_
              refine lv_istore (pc := 203) (lv' := [(9, .int (0 : Int32)), (8, .int y18), (7, .int q15.1), (0, .ref (ad 0)), (2, .int x2), (3, .int x3), (4, .int x4), (6, .int x6)]) hx hb dL_build_203 hl (by decide) rfl (fun ls hl => ?_)
              exact hB205 q15.2 x2 x4 q15.1 y18 (0 : Int32) _ _ _ h hP hS (lv_sub hl [3, 4, 6, 2, 1, 0] rfl)
            · have h := (if_pos c56).symm.trans h
              refine lv_aload_n (pc := 175) hx hb dL_build_175 rfl (lv_at hl 2 rfl) ?_
              refine lv_iload (pc := 176) hx hb dL_build_176 (lv_at hl 1 rfl) ?_
              refine lv_bipush (pc := 178) (v := (6 : Int32)) hx hb dL_build_178 (by decide) ?_
              obtain ⟨y57, hy57, h⟩ := bnd_ex h
              refine x_callVi (pc := 180) (st := .int (6 : Int32) :: .int q15.1 :: .ref (ad 0) :: []) (As := [.int q15.1, .int (6 : Int32)]) E hEx hl.1 hP hS (kX7_box hap  q15.2 _ _ _ hy57) gL_9 hdX7_box rfl (by decide) sh7 rfl ⟨Nat.le_of_ble_eq_true rfl, Nat.le_of_ble_eq_true rfl⟩ ⟨rfl, rfl⟩ dL_build_180 rfl (Nat.le_of_ble_eq_true rfl) (fun H locs hP hS n58 => ?_)
              refine lv_iload (pc := 183) hx hb dL_build_183 (lv_at hl 5 rfl) ?_
              refine lv_if_ne (pc := 185) (tgt := 193) hx hb dL_build_185 (by decide) (fun c59 => ?_) (fun c59 => ?_)
              · have h := (if_neg c59).symm.trans h
                refine lv_iload (pc := 193) hx hb dL_build_193 (lv_at hl 6 rfl) ?_
                refine lv_icmp_ne (pc := 195) (tgt := 202) hx hb dL_build_195 (by decide) (fun c60 => ?_) (fun c60 => ?_)
                · have h := (if_neg c60).symm.trans h
                  refine lv_iconst (pc := 202) (v := (0 : Int32)) hx hb dL_build_202 (by decide) ?_
                  refine lv_istore (pc := 203) (lv' := [(9, .int (0 : Int32)), (8, .int y18), (7, .int q15.1), (0, .ref (ad 0)), (2, .int x2), (3, .int x3), (4, .int x4), (6, .int x6)]) hx hb dL_build_203 hl (by decide) rfl (fun ls hl => ?_)
                  exact hB205 q15.2 x2 x4 q15.1 y18 (0 : Int32) _ _ _ h hP hS (lv_sub hl [3, 4, 6, 2, 1, 0] rfl)
                · have h := (if_pos c60).symm.trans h
                  refine lv_iconst (pc := 198) (v := (1 : Int32)) hx hb dL_build_198 (by decide) ?_
                  refine lv_goto (pc := 199) (tgt := 203) hx hb dL_build_199 (by decide) ?_
                  refine lv_istore (pc := 203) (lv' := [(9, .int (1 : Int32)), (8, .int y18), (7, .int q15.1), (0, .ref (ad 0)), (2, .int x2), (3, .int x3), (4, .int x4), (6, .int x6)]) hx hb dL_build_203 hl (by decide) rfl (fun ls hl => ?_)
                  exact hB205 q15.2 x2 x4 q15.1 y18 (1 : Int32) _ _ _ h hP hS (lv_sub hl [3, 4, 6, 2, 1, 0] rfl)
              · have h := (if_pos c59).symm.trans h
                refine lv_bipush (pc := 188) (v := (-5 : Int32)) hx hb dL_build_188 (by decide) ?_
                refine lv_goto (pc := 190) (tgt := 195) hx hb dL_build_190 (by decide) ?_
                refine lv_icmp_ne (pc := 195) (tgt := 202) hx hb dL_build_195 (by decide) (fun c61 => ?_) (fun c61 => ?_)
                · have h := (if_neg c61).symm.trans h
                  refine lv_iconst (pc := 202) (v := (0 : Int32)) hx hb dL_build_202 (by decide) ?_
                  refine lv_istore (pc := 203) (lv' := [(9, .int (0 : Int32)), (8, .int y18), (7, .int q15.1), (0, .ref (ad 0)), (2, .int x2), (3, .int x3), (4, .int x4), (6, .int x6)]) hx hb dL_build_203 hl (by decide) rfl (fun ls hl => ?_)
                  exact hB205 q15.2 x2 x4 q15.1 y18 (0 : Int32) _ _ _ h hP hS (lv_sub hl [3, 4, 6, 2, 1, 0] rfl)
                · have h := (if_pos c61).symm.trans h
                  refine lv_iconst (pc := 198) (v := (1 : Int32)) hx hb dL_build_198 (by decide) ?_
                  refine lv_goto (pc := 199) (tgt := 203) hx hb dL_build_199 (by decide) ?_
                  refine lv_istore (pc := 203) (lv' := [(9, .int (1 : Int32)), (8, .int y18), (7, .int q15.1), (0, .ref (ad 0)), (2, .int x2), (3, .int x3), (4, .int x4), (6, .int x6)]) hx hb dL_build_203 hl (by decide) rfl (fun ls hl => ?_)
                  exact hB205 q15.2 x2 x4 q15.1 y18 (1 : Int32) _ _ _ h hP hS (lv_sub hl [3, 4, 6, 2, 1, 0] rfl)
    · have h := (if_pos c17).symm.trans h
      refine lv_aload_n (pc := 106) hx hb dL_build_106 rfl (lv_at hl 1 rfl) ?_
      refine lv_iconst (pc := 107) (v := (0 : Int32)) hx hb dL_build_107 (by decide) ?_
      obtain ⟨y62, hy62, h⟩ := bnd_ex h
      refine x_callVi (pc := 108) (st := .int (0 : Int32) :: .ref (ad 0) :: []) (As := [.int (0 : Int32)]) E hEx hl.1 hP hS (kX7_count hap  q15.2 _ _ hy62) gL_15 hdX7_count rfl (by decide) sh7 rfl ⟨Nat.le_of_ble_eq_true rfl, Nat.le_of_ble_eq_true rfl⟩ ⟨rfl, rfl⟩ dL_build_108 rfl (Nat.le_of_ble_eq_true rfl) (fun H locs hP hS n63 => ?_)
      refine lv_bipush (pc := 111) (v := (12 : Int32)) hx hb dL_build_111 (by decide) ?_
      refine lv_icmp_ne (pc := 113) (tgt := 120) hx hb dL_build_113 (by decide) (fun c64 => ?_) (fun c64 => ?_)
      · have h := (if_neg c64).symm.trans h
        refine lv_iconst (pc := 120) (v := (0 : Int32)) hx hb dL_build_120 (by decide) ?_
        obtain ⟨rfl, rfl⟩ := som2 h
        exact x_iret E hP hS rfl dL_build_121
      · have h := (if_pos c64).symm.trans h
        refine lv_iconst (pc := 116) (v := (1 : Int32)) hx hb dL_build_116 (by decide) ?_
        refine lv_goto (pc := 117) (tgt := 121) hx hb dL_build_117 (by decide) ?_
        obtain ⟨rfl, rfl⟩ := som2 h
        exact x_iret E hP hS rfl dL_build_121
  have hB51 : ∀ (M : Mem) (x2 x3 x4 x5 : Int32) (H : Heap) (locs : List Loc) (ls : Array Slot), fL_build_B51 M x2 x3 x4 x5 = some (v, M') → va_P G vwCl (WW 78 (shX cA ad) ad M) H → va_S (AW 78 ad) s.heap H locs → lv_has ls 12 [(0, .ref (ad 0)), (2, .int x2), (3, .int x3), (4, .int x4), (5, .int x5)] → W p l e ({ frames := 9, cells := 0, slots := 0, locals := 246 } : Room) s m args below meth c H locs 0 0 (QI below G 78 (shX cA ad) ad .boolean args s v M') (F0 m 51 ls []) := by
    intro M x2 x3 x4 x5 H locs ls h hP hS hl
    unfold fL_build_B51 at h
    refine lv_iload (pc := 51) hx hb dL_build_51 (lv_at hl 3 rfl) ?_
    refine lv_iconst (pc := 53) (v := (2 : Int32)) hx hb dL_build_53 (by decide) ?_
    refine lv_icmp_ne (pc := 54) (tgt := 67) hx hb dL_build_54 (by decide) (fun c10 => ?_) (fun c10 => ?_)
    · have h := (if_neg c10).symm.trans h
      refine lv_iload (pc := 67) hx hb dL_build_67 (lv_at hl 4 rfl) ?_
      refine lv_if_ne (pc := 69) (tgt := 76) hx hb dL_build_69 (by decide) (fun c11 => ?_) (fun c11 => ?_)
      · have h := (if_neg c11).symm.trans h
        refine lv_iload_n (pc := 76) hx hb dL_build_76 rfl (lv_at hl 1 rfl) ?_
        refine lv_iload (pc := 77) hx hb dL_build_77 (lv_at hl 4 rfl) ?_
        obtain ⟨y12, hy12, h⟩ := bnd_ex h
        refine x_callSi (pc := 79) (st := .int x5 :: .int x2 :: []) (As := [.int x2, .int x5]) E hEx hl.1 hP hS (kL_low hap  M _ _ _ hy12) gL_54 hsL_low rfl ⟨Nat.le_of_ble_eq_true rfl, Nat.le_of_ble_eq_true rfl⟩ ⟨rfl, rfl⟩ dL_build_79 rfl (Nat.le_of_ble_eq_true rfl) (fun H locs hP hS n13 => ?_)
        refine lv_istore (pc := 82) (lv' := [(6, .int y12), (0, .ref (ad 0)), (2, .int x2), (3, .int x3), (4, .int x4), (5, .int x5)]) hx hb dL_build_82 hl (by decide) rfl (fun ls hl => ?_)
        exact hB84 M x2 x3 x4 y12 _ _ _ h hP hS (lv_sub hl [1, 2, 3, 4, 0] rfl)
      · have h := (if_pos c11).symm.trans h
        refine lv_iconst (pc := 72) (v := (0 : Int32)) hx hb dL_build_72 (by decide) ?_
        refine lv_goto (pc := 73) (tgt := 82) hx hb dL_build_73 (by decide) ?_
        refine lv_istore (pc := 82) (lv' := [(6, .int (0 : Int32)), (0, .ref (ad 0)), (2, .int x2), (3, .int x3), (4, .int x4), (5, .int x5)]) hx hb dL_build_82 hl (by decide) rfl (fun ls hl => ?_)
        exact hB84 M x2 x3 x4 (0 : Int32) _ _ _ h hP hS (lv_sub hl [1, 2, 3, 4, 0] rfl)
    · have h := (if_pos c10).symm.trans h
      refine lv_iload_n (pc := 57) hx hb dL_build_57 rfl (lv_at hl 1 rfl) ?_
      refine lv_sipush (pc := 58) (v := (10000 : Int32)) hx hb dL_build_58 (by decide) ?_
      obtain ⟨y65, hy65, h⟩ := bnd_ex h
      refine x_callSi (pc := 61) (st := .int (10000 : Int32) :: .int x2 :: []) (As := [.int x2, .int (10000 : Int32)]) E hEx hl.1 hP hS (kL_low hap  M _ _ _ hy65) gL_54 hsL_low rfl ⟨Nat.le_of_ble_eq_true rfl, Nat.le_of_ble_eq_true rfl⟩ ⟨rfl, rfl⟩ dL_build_61 rfl (Nat.le_of_ble_eq_true rfl) (fun H locs hP hS n66 => ?_)
      refine lv_goto (pc := 64) (tgt := 82) hx hb dL_build_64 (by decide) ?_
      refine lv_istore (pc := 82) (lv' := [(6, .int y65), (0, .ref (ad 0)), (2, .int x2), (3, .int x3), (4, .int x4), (5, .int x5)]) hx hb dL_build_82 hl (by decide) rfl (fun ls hl => ?_)
      exact hB84 M x2 x3 x4 y65 _ _ _ h hP hS (lv_sub hl [1, 2, 3, 4, 0] rfl)
  unfold fL_build at h
  refine lv_iload_n (pc := 0) hx hb dL_build_0 rfl (lv_at hl 1 rfl) ?_
  refine lv_aload_n (pc := 1) hx hb dL_build_1 rfl (lv_at hl 0 rfl) ?_
  refine lv_iconst (pc := 2) (v := (0 : Int32)) hx hb dL_build_2 (by decide) ?_
  obtain ⟨y1, hy1, h⟩ := bnd_ex h
  refine x_callVi (pc := 3) (st := .int (0 : Int32) :: .ref (ad 0) :: .int x1 :: []) (As := [.int (0 : Int32)]) E hEx hl.1 hP hS (kX7_count hap  M _ _ hy1) gL_15 hdX7_count rfl (by decide) sh7 rfl ⟨Nat.le_of_ble_eq_true rfl, Nat.le_of_ble_eq_true rfl⟩ ⟨rfl, rfl⟩ dL_build_3 rfl (Nat.le_of_ble_eq_true rfl) (fun H locs hP hS n2 => ?_)
  obtain ⟨y3, hy3, h⟩ := bnd_ex h
  refine x_callSi (pc := 6) (st := .int y1 :: .int x1 :: []) (As := [.int x1, .int y1]) E hEx hl.1 hP hS (kL_low hap  M _ _ _ hy3) gL_54 hsL_low rfl ⟨Nat.le_of_ble_eq_true rfl, Nat.le_of_ble_eq_true rfl⟩ ⟨rfl, rfl⟩ dL_build_6 rfl (Nat.le_of_ble_eq_true rfl) (fun H locs hP hS n4 => ?_)
  refine lv_istore_n (pc := 9) (lv' := [(3, .int y3), (0, .ref (ad 0)), (1, .int x1), (2, .int x2)]) hx hb dL_build_9 rfl hl (by decide) rfl (fun ls hl => ?_)
  refine lv_iload_n (pc := 10) hx hb dL_build_10 rfl (lv_at hl 2 rfl) ?_
  refine lv_iconst (pc := 11) (v := (4 : Int32)) hx hb dL_build_11 (by decide) ?_
  refine lv_ishr (pc := 12) hx hb dL_build_12 ?_
  refine lv_iconst (pc := 13) (v := (4 : Int32)) hx hb dL_build_13 (by decide) ?_
  obtain ⟨y5, hy5, h⟩ := bnd_ex h
  refine x_callSi (pc := 14) (st := .int (4 : Int32) :: .int (x1 >>> ((4 : Int32) &&& 31)) :: []) (As := [.int (x1 >>> ((4 : Int32) &&& 31)), .int (4 : Int32)]) E hEx hl.1 hP hS (kL_low hap  M _ _ _ hy5) gL_54 hsL_low rfl ⟨Nat.le_of_ble_eq_true rfl, Nat.le_of_ble_eq_true rfl⟩ ⟨rfl, rfl⟩ dL_build_14 rfl (Nat.le_of_ble_eq_true rfl) (fun H locs hP hS n6 => ?_)
  refine lv_istore (pc := 17) (lv' := [(4, .int y5), (3, .int y3), (0, .ref (ad 0)), (1, .int x1), (2, .int x2)]) hx hb dL_build_17 hl (by decide) rfl (fun ls hl => ?_)
  refine lv_aload_n (pc := 19) hx hb dL_build_19 rfl (lv_at hl 2 rfl) ?_
  refine lv_iconst (pc := 20) (v := (1 : Int32)) hx hb dL_build_20 (by decide) ?_
  obtain ⟨y7, hy7, h⟩ := bnd_ex h
  refine x_callVi (pc := 21) (st := .int (1 : Int32) :: .ref (ad 0) :: []) (As := [.int (1 : Int32)]) E hEx hl.1 hP hS (kX7_count hap  M _ _ hy7) gL_15 hdX7_count rfl (by decide) sh7 rfl ⟨Nat.le_of_ble_eq_true rfl, Nat.le_of_ble_eq_true rfl⟩ ⟨rfl, rfl⟩ dL_build_21 rfl (Nat.le_of_ble_eq_true rfl) (fun H locs hP hS n8 => ?_)
  refine lv_istore (pc := 24) (lv' := [(5, .int y7), (4, .int y5), (3, .int y3), (0, .ref (ad 0)), (1, .int x1), (2, .int x2)]) hx hb dL_build_24 hl (by decide) rfl (fun ls hl => ?_)
  refine lv_iload (pc := 26) hx hb dL_build_26 (lv_at hl 0 rfl) ?_
  refine lv_if_ne (pc := 28) (tgt := 47) hx hb dL_build_28 (by decide) (fun c9 => ?_) (fun c9 => ?_)
  · have h := (if_neg c9).symm.trans h
    refine lv_iload (pc := 47) hx hb dL_build_47 (lv_at hl 1 rfl) ?_
    refine lv_istore (pc := 49) (lv' := [(4, .int y5), (5, .int y7), (3, .int y3), (0, .ref (ad 0)), (1, .int x1), (2, .int x2)]) hx hb dL_build_49 hl (by decide) rfl (fun ls hl => ?_)
    exact hB51 M x2 y3 y5 y7 _ _ _ h hP hS (lv_sub hl [3, 5, 2, 0, 1] rfl)
  · have h := (if_pos c9).symm.trans h
    refine lv_iload (pc := 31) hx hb dL_build_31 (lv_at hl 1 rfl) ?_
    refine lv_iconst (pc := 33) (v := (1 : Int32)) hx hb dL_build_33 (by decide) ?_
    refine lv_icmp_eq (pc := 34) (tgt := 43) hx hb dL_build_34 (by decide) (fun c67 => ?_) (fun c67 => ?_)
    · have h := (if_pos c67).symm.trans h
      refine lv_iconst (pc := 43) (v := (2 : Int32)) hx hb dL_build_43 (by decide) ?_
      refine lv_goto (pc := 44) (tgt := 49) hx hb dL_build_44 (by decide) ?_
      refine lv_istore (pc := 49) (lv' := [(4, .int (2 : Int32)), (5, .int y7), (3, .int y3), (0, .ref (ad 0)), (1, .int x1), (2, .int x2)]) hx hb dL_build_49 hl (by decide) rfl (fun ls hl => ?_)
      exact hB51 M x2 y3 (2 : Int32) y7 _ _ _ h hP hS (lv_sub hl [3, 5, 2, 0, 1] rfl)
    · have h := (if_neg c67).symm.trans h
      refine lv_iload (pc := 37) hx hb dL_build_37 (lv_at hl 1 rfl) ?_
      refine lv_iconst (pc := 39) (v := (3 : Int32)) hx hb dL_build_39 (by decide) ?_
      refine lv_icmp_ne (pc := 40) (tgt := 47) hx hb dL_build_40 (by decide) (fun c68 => ?_) (fun c68 => ?_)
      · have h := (if_neg c68).symm.trans h
        refine lv_iload (pc := 47) hx hb dL_build_47 (lv_at hl 1 rfl) ?_
        refine lv_istore (pc := 49) (lv' := [(4, .int y5), (5, .int y7), (3, .int y3), (0, .ref (ad 0)), (1, .int x1), (2, .int x2)]) hx hb dL_build_49 hl (by decide) rfl (fun ls hl => ?_)
        exact hB51 M x2 y3 y5 y7 _ _ _ h hP hS (lv_sub hl [3, 5, 2, 0, 1] rfl)
      · have h := (if_pos c68).symm.trans h
        refine lv_iconst (pc := 43) (v := (2 : Int32)) hx hb dL_build_43 (by decide) ?_
        refine lv_goto (pc := 44) (tgt := 49) hx hb dL_build_44 (by decide) ?_
        refine lv_istore (pc := 49) (lv' := [(4, .int (2 : Int32)), (5, .int y7), (3, .int y3), (0, .ref (ad 0)), (1, .int x1), (2, .int x2)]) hx hb dL_build_49 hl (by decide) rfl (fun ls hl => ?_)
        exact hB51 M x2 y3 (2 : Int32) y7 _ _ _ h hP hS (lv_sub hl [3, 5, 2, 0, 1] rfl)
set_option maxRecDepth 100000 in
set_option maxHeartbeats 4000000 in
theorem kL_does (hap : Apart 78 ad)   (M : Mem) (x1 : Int32) (v : Int32) (M' : Mem) (h : fL_does M x1 = some (v, M')) : XI G ad sK sV cA cZ cC yL_does cL_does 7 .boolean ({ frames := 8, cells := 0, slots := 0, locals := 234 } : Room) [.ref (ad 0), .int x1] M v M' := by
  refine CI.mk (own := RL) (ls0 := [(0, .ref (ad 0)), (1, .int x1)]) (by decide +kernel) rfl hap (Nat.le_of_ble_eq_true rfl) rfl ?_
  intro p l e s m args below meth c ls E hP hl
  have hx := E.1
  have hb := E.2.1
  have hown := E.2.2.2.2.2.1
  have hts := E.2.2.2.2.2.2.1
  have hNe := E.2.2.2.2.2.2.2.2.1.1
  have hEx := ExX.ok ad sK sV
  have hS : va_S (AW 78 ad) s.heap s.heap [] := va_S.rf
  have hB139 : ∀ (M : Mem) (x2 x4 x5 : Int32) (H : Heap) (locs : List Loc) (ls : Array Slot), fL_does_B139 M x2 x4 x5 = some (v, M') → va_P G vwCl (WW 78 (shX cA ad) ad M) H → va_S (AW 78 ad) s.heap H locs → lv_has ls 7 [(0, .ref (ad 0)), (2, .int x2), (4, .int x4), (5, .int x5)] → W p l e ({ frames := 8, cells := 0, slots := 0, locals := 234 } : Room) s m args below meth c H locs 0 0 (QI below G 78 (shX cA ad) ad .boolean args s v M') (F0 m 139 ls []) := by
    intro M x2 x4 x5 H locs ls h hP hS hl
    unfold fL_does_B139 at h
    refine lv_aload_n (pc := 139) hx hb dL_does_139 rfl (lv_at hl 0 rfl) ?_
    refine lv_iload_n (pc := 140) hx hb dL_does_140 rfl (lv_at hl 1 rfl) ?_
    refine lv_iload (pc := 141) hx hb dL_does_141 (lv_at hl 2 rfl) ?_
    obtain ⟨q23, hq23, h⟩ := bnd_ex h
    refine x_callVi (pc := 143) (st := .int x4 :: .int x2 :: .ref (ad 0) :: []) (As := [.int x2, .int x4]) E hEx hl.1 hP hS (kX7_open hap  M _ _ _ _ hq23) gL_77 hdX7_open rfl (by decide) sh7 rfl ⟨Nat.le_of_ble_eq_true rfl, Nat.le_of_ble_eq_true rfl⟩ ⟨rfl, rfl⟩ dL_does_143 rfl (Nat.le_of_ble_eq_true rfl) (fun H locs hP hS n24 => ?_)
    refine lv_istore (pc := 146) (lv' := [(6, .int q23.1), (0, .ref (ad 0)), (2, .int x2), (4, .int x4), (5, .int x5)]) hx hb dL_does_146 hl (by decide) rfl (fun ls hl => ?_)
    refine lv_iload (pc := 148) hx hb dL_does_148 (lv_at hl 4 rfl) ?_
    refine lv_if_eq (pc := 150) (tgt := 186) hx hb dL_does_150 (by decide) (fun c25 => ?_) (fun c25 => ?_)
    · have h := (if_pos c25).symm.trans h
      refine lv_iconst (pc := 186) (v := (0 : Int32)) hx hb dL_does_186 (by decide) ?_
      obtain ⟨rfl, rfl⟩ := som2 h
      exact x_iret E hP hS rfl dL_does_187
    · have h := (if_neg c25).symm.trans h
      refine lv_iload (pc := 153) hx hb dL_does_153 (lv_at hl 0 rfl) ?_
      refine lv_bipush (pc := 155) (v := (-6 : Int32)) hx hb dL_does_155 (by decide) ?_
      refine lv_icmp_eq (pc := 157) (tgt := 182) hx hb dL_does_157 (by decide) (fun c26 => ?_) (fun c26 => ?_)
      · have h := (if_pos c26).symm.trans h
        refine lv_iconst (pc := 182) (v := (1 : Int32)) hx hb dL_does_182 (by decide) ?_
        refine lv_goto (pc := 183) (tgt := 187) hx hb dL_does_183 (by decide) ?_
        obtain ⟨rfl, rfl⟩ := som2 h
        exact x_iret E hP hS rfl dL_does_187
      · have h := (if_neg c26).symm.trans h
        refine lv_iload (pc := 160) hx hb dL_does_160 (lv_at hl 0 rfl) ?_
        refine lv_iconst (pc := 162) (v := (1 : Int32)) hx hb dL_does_162 (by decide) ?_
        refine lv_icmp_eq (pc := 163) (tgt := 182) hx hb dL_does_163 (by decide) (fun c27 => ?_) (fun c27 => ?_)
        · have h := (if_pos c27).symm.trans h
          refine lv_iconst (pc := 182) (v := (1 : Int32)) hx hb dL_does_182 (by decide) ?_
          refine lv_goto (pc := 183) (tgt := 187) hx hb dL_does_183 (by decide) ?_
          obtain ⟨rfl, rfl⟩ := som2 h
          exact x_iret E hP hS rfl dL_does_187
        · have h := (if_neg c27).symm.trans h
          refine lv_iload (pc := 166) hx hb dL_does_166 (lv_at hl 0 rfl) ?_
          refine lv_iconst (pc := 168) (v := (2 : Int32)) hx hb dL_does_168 (by decide) ?_
          refine lv_icmp_ne (pc := 169) (tgt := 186) hx hb dL_does_169 (by decide) (fun c28 => ?_) (fun c28 => ?_)
          · have h := (if_neg c28).symm.trans h
            refine lv_iconst (pc := 186) (v := (0 : Int32)) hx hb dL_does_186 (by decide) ?_
            obtain ⟨rfl, rfl⟩ := som2 h
            exact x_iret E hP hS rfl dL_does_187
          · have h := (if_pos c28).symm.trans h
            refine lv_aload_n (pc := 172) hx hb dL_does_172 rfl (lv_at hl 1 rfl) ?_
            refine lv_bipush (pc := 173) (v := (9 : Int32)) hx hb dL_does_173 (by decide) ?_
            obtain ⟨y29, hy29, h⟩ := bnd_ex h
            refine x_callVi (pc := 175) (st := .int (9 : Int32) :: .ref (ad 0) :: []) (As := [.int (9 : Int32)]) E hEx hl.1 hP hS (kX7_count hap  q23.2 _ _ hy29) gL_15 hdX7_count rfl (by decide) sh7 rfl ⟨Nat.le_of_ble_eq_true rfl, Nat.le_of_ble_eq_true rfl⟩ ⟨rfl, rfl⟩ dL_does_175 rfl (Nat.le_of_ble_eq_true rfl) (fun H locs hP hS n30 => ?_)
            refine lv_iload_n (pc := 178) hx hb dL_does_178 rfl (lv_at hl 2 rfl) ?_
            refine lv_icmp_ne (pc := 179) (tgt := 186) hx hb dL_does_179 (by decide) (fun c31 => ?_) (fun c31 => ?_)
            · have h := (if_neg c31).symm.trans h
              refine lv_iconst (pc := 186) (v := (0 : Int32)) hx hb dL_does_186 (by decide) ?_
              obtain ⟨rfl, rfl⟩ := som2 h
              exact x_iret E hP hS rfl dL_does_187
            · have h := (if_pos c31).symm.trans h
              refine lv_iconst (pc := 182) (v := (1 : Int32)) hx hb dL_does_182 (by decide) ?_
              refine lv_goto (pc := 183) (tgt := 187) hx hb dL_does_183 (by decide) ?_
              obtain ⟨rfl, rfl⟩ := som2 h
              exact x_iret E hP hS rfl dL_does_187
  have hB110 : ∀ (M : Mem) (x2 x4 : Int32) (H : Heap) (locs : List Loc) (ls : Array Slot), fL_does_B110 M x2 x4 = some (v, M') → va_P G vwCl (WW 78 (shX cA ad) ad M) H → va_S (AW 78 ad) s.heap H locs → lv_has ls 7 [(0, .ref (ad 0)), (2, .int x2), (4, .int x4)] → W p l e ({ frames := 8, cells := 0, slots := 0, locals := 234 } : Room) s m args below meth c H locs 0 0 (QI below G 78 (shX cA ad) ad .boolean args s v M') (F0 m 110 ls []) := by
    intro M x2 x4 H locs ls h hP hS hl
    unfold fL_does_B110 at h
    refine lv_aload_n (pc := 110) hx hb dL_does_110 rfl (lv_at hl 0 rfl) ?_
    refine lv_iload_n (pc := 111) hx hb dL_does_111 rfl (lv_at hl 1 rfl) ?_
    refine lv_iconst (pc := 112) (v := (1 : Int32)) hx hb dL_does_112 (by decide) ?_
    obtain ⟨y20, hy20, h⟩ := bnd_ex h
    refine x_callVi (pc := 113) (st := .int (1 : Int32) :: .int x2 :: .ref (ad 0) :: []) (As := [.int x2, .int (1 : Int32)]) E hEx hl.1 hP hS (kX7_box hap  M _ _ _ hy20) gL_9 hdX7_box rfl (by decide) sh7 rfl ⟨Nat.le_of_ble_eq_true rfl, Nat.le_of_ble_eq_true rfl⟩ ⟨rfl, rfl⟩ dL_does_113 rfl (Nat.le_of_ble_eq_true rfl) (fun H locs hP hS n21 => ?_)
    refine lv_iconst (pc := 116) (v := (2 : Int32)) hx hb dL_does_116 (by decide) ?_
    refine lv_icmp_ne (pc := 117) (tgt := 132) hx hb dL_does_117 (by decide) (fun c22 => ?_) (fun c22 => ?_)
    · have h := (if_neg c22).symm.trans h
      refine lv_iconst (pc := 132) (v := (1 : Int32)) hx hb dL_does_132 (by decide) ?_
      refine lv_goto (pc := 133) (tgt := 137) hx hb dL_does_133 (by decide) ?_
      refine lv_istore (pc := 137) (lv' := [(5, .int (1 : Int32)), (0, .ref (ad 0)), (2, .int x2), (4, .int x4)]) hx hb dL_does_137 hl (by decide) rfl (fun ls hl => ?_)
      exact hB139 M x2 x4 (1 : Int32) _ _ _ h hP hS (lv_sub hl [1, 2, 3, 0] rfl)
    · have h := (if_pos c22).symm.trans h
      refine lv_aload_n (pc := 120) hx hb dL_does_120 rfl (lv_at hl 0 rfl) ?_
      refine lv_iload_n (pc := 121) hx hb dL_does_121 rfl (lv_at hl 1 rfl) ?_
      refine lv_bipush (pc := 122) (v := (7 : Int32)) hx hb dL_does_122 (by decide) ?_
      obtain ⟨y32, hy32, h⟩ := bnd_ex h
      refine x_callVi (pc := 124) (st := .int (7 : Int32) :: .int x2 :: .ref (ad 0) :: []) (As := [.int x2, .int (7 : Int32)]) E hEx hl.1 hP hS (kX7_box hap  M _ _ _ hy32) gL_9 hdX7_box rfl (by decide) sh7 rfl ⟨Nat.le_of_ble_eq_true rfl, Nat.le_of_ble_eq_true rfl⟩ ⟨rfl, rfl⟩ dL_does_124 rfl (Nat.le_of_ble_eq_true rfl) (fun H locs hP hS n33 => ?_)
      refine lv_bipush (pc := 127) (v := (15 : Int32)) hx hb dL_does_127 (by decide) ?_
      refine lv_icmp_ne (pc := 129) (tgt := 136) hx hb dL_does_129 (by decide) (fun c34 => ?_) (fun c34 => ?_)
      · have h := (if_neg c34).symm.trans h
        refine lv_iconst (pc := 136) (v := (0 : Int32)) hx hb dL_does_136 (by decide) ?_
        refine lv_istore (pc := 137) (lv' := [(5, .int (0 : Int32)), (0, .ref (ad 0)), (2, .int x2), (4, .int x4)]) hx hb dL_does_137 hl (by decide) rfl (fun ls hl => ?_)
        exact hB139 M x2 x4 (0 : Int32) _ _ _ h hP hS (lv_sub hl [1, 2, 3, 0] rfl)
      · have h := (if_pos c34).symm.trans h
        refine lv_iconst (pc := 132) (v := (1 : Int32)) hx hb dL_does_132 (by decide) ?_
        refine lv_goto (pc := 133) (tgt := 137) hx hb dL_does_133 (by decide) ?_
        refine lv_istore (pc := 137) (lv' := [(5, .int (1 : Int32)), (0, .ref (ad 0)), (2, .int x2), (4, .int x4)]) hx hb dL_does_137 hl (by decide) rfl (fun ls hl => ?_)
        exact hB139 M x2 x4 (1 : Int32) _ _ _ h hP hS (lv_sub hl [1, 2, 3, 0] rfl)
  unfold fL_does at h
  refine lv_iload_n (pc := 0) hx hb dL_does_0 rfl (lv_at hl 1 rfl) ?_
  refine lv_bipush (pc := 1) (v := (100 : Int32)) hx hb dL_does_1 (by decide) ?_
  refine x_irem (pc := 3) hx hb dL_does_3 (by decide) ?_
  refine lv_istore_n (pc := 4) (lv' := [(2, .int (irm x1 (100 : Int32))), (0, .ref (ad 0)), (1, .int x1)]) hx hb dL_does_4 rfl hl (by decide) rfl (fun ls hl => ?_)
  refine lv_iload_n (pc := 5) hx hb dL_does_5 rfl (lv_at hl 2 rfl) ?_
  refine lv_sipush (pc := 6) (v := (1000 : Int32)) hx hb dL_does_6 (by decide) ?_
  refine x_irem (pc := 9) hx hb dL_does_9 (by decide) ?_
  refine lv_bipush (pc := 10) (v := (100 : Int32)) hx hb dL_does_10 (by decide) ?_
  refine lv_idiv (pc := 12) hx hb dL_does_12 (by decide) ?_
  obtain ⟨y1, hy1, h⟩ := thn_ex h
  refine W.eq (g2 := F0 m 13 ls (.int y1 :: [])) (by rw [← hy1]) ?_
  refine lv_istore_n (pc := 13) (lv' := [(3, .int y1), (2, .int (irm x1 (100 : Int32))), (0, .ref (ad 0)), (1, .int x1)]) hx hb dL_does_13 rfl hl (by decide) rfl (fun ls hl => ?_)
  refine lv_iload_n (pc := 14) hx hb dL_does_14 rfl (lv_at hl 0 rfl) ?_
  refine lv_iconst (pc := 15) (v := (1 : Int32)) hx hb dL_does_15 (by decide) ?_
  refine lv_icmp_ne (pc := 16) (tgt := 45) hx hb dL_does_16 (by decide) (fun c2 => ?_) (fun c2 => ?_)
  · have h := (if_neg c2).symm.trans h
    refine lv_iload_n (pc := 45) hx hb dL_does_45 rfl (lv_at hl 0 rfl) ?_
    refine lv_iconst (pc := 46) (v := (2 : Int32)) hx hb dL_does_46 (by decide) ?_
    refine lv_icmp_ne (pc := 47) (tgt := 82) hx hb dL_does_47 (by decide) (fun c3 => ?_) (fun c3 => ?_)
    · have h := (if_neg c3).symm.trans h
      refine lv_iload_n (pc := 82) hx hb dL_does_82 rfl (lv_at hl 0 rfl) ?_
      refine lv_iconst (pc := 83) (v := (3 : Int32)) hx hb dL_does_83 (by decide) ?_
      refine lv_icmp_ne (pc := 84) (tgt := 188) hx hb dL_does_84 (by decide) (fun c4 => ?_) (fun c4 => ?_)
      · have h := (if_neg c4).symm.trans h
        refine lv_iload_n (pc := 188) hx hb dL_does_188 rfl (lv_at hl 0 rfl) ?_
        refine lv_iconst (pc := 189) (v := (4 : Int32)) hx hb dL_does_189 (by decide) ?_
        refine lv_icmp_ne (pc := 190) (tgt := 228) hx hb dL_does_190 (by decide) (fun c5 => ?_) (fun c5 => ?_)
        · have h := (if_neg c5).symm.trans h
          refine lv_aload_n (pc := 228) hx hb dL_does_228 rfl (lv_at hl 2 rfl) ?_
          obtain ⟨q6, hq6, h⟩ := bnd_ex h
          refine x_callVi (pc := 229) (st := .ref (ad 0) :: []) (As := []) E hEx hl.1 hP hS (kX7_nudge hap  M  _ _ hq6) gL_83 hdX7_nudge rfl (by decide) sh7 rfl ⟨Nat.le_of_ble_eq_true rfl, Nat.le_of_ble_eq_true rfl⟩ ⟨rfl, rfl⟩ dL_does_229 rfl (Nat.le_of_ble_eq_true rfl) (fun H locs hP hS n7 => ?_)
          refine lv_istore (pc := 232) (lv' := [(4, .int q6.1), (3, .int y1), (2, .int (irm x1 (100 : Int32))), (0, .ref (ad 0)), (1, .int x1)]) hx hb dL_does_232 hl (by decide) rfl (fun ls hl => ?_)
          refine lv_iload (pc := 234) hx hb dL_does_234 (lv_at hl 0 rfl) ?_
          refine lv_bipush (pc := 236) (v := (-6 : Int32)) hx hb dL_does_236 (by decide) ?_
          refine lv_icmp_eq (pc := 238) (tgt := 254) hx hb dL_does_238 (by decide) (fun c8 => ?_) (fun c8 => ?_)
          · have h := (if_pos c8).symm.trans h
            refine lv_iconst (pc := 254) (v := (1 : Int32)) hx hb dL_does_254 (by decide) ?_
            refine lv_goto (pc := 255) (tgt := 259) hx hb dL_does_255 (by decide) ?_
            obtain ⟨rfl, rfl⟩ := som2 h
            exact x_iret E hP hS rfl dL_does_259
          · have h := (if_neg c8).symm.trans h
            refine lv_iload (pc := 241) hx hb dL_does_241 (lv_at hl 0 rfl) ?_
            refine lv_iload_n (pc := 243) hx hb dL_does_243 rfl (lv_at hl 4 rfl) ?_
            refine lv_icmp_eq (pc := 244) (tgt := 254) hx hb dL_does_244 (by decide) (fun c9 => ?_) (fun c9 => ?_)
            · have h := (if_pos c9).symm.trans h
              refine lv_iconst (pc := 254) (v := (1 : Int32)) hx hb dL_does_254 (by decide) ?_
              refine lv_goto (pc := 255) (tgt := 259) hx hb dL_does_255 (by decide) ?_
              obtain ⟨rfl, rfl⟩ := som2 h
              exact x_iret E hP hS rfl dL_does_259
            · have h := (if_neg c9).symm.trans h
              refine lv_iload (pc := 247) hx hb dL_does_247 (lv_at hl 0 rfl) ?_
              refine lv_bipush (pc := 249) (v := (-3 : Int32)) hx hb dL_does_249 (by decide) ?_
              refine lv_icmp_ne (pc := 251) (tgt := 258) hx hb dL_does_251 (by decide) (fun c10 => ?_) (fun c10 => ?_)
              · have h := (if_neg c10).symm.trans h
                refine lv_iconst (pc := 258) (v := (0 : Int32)) hx hb dL_does_258 (by decide) ?_
                obtain ⟨rfl, rfl⟩ := som2 h
                exact x_iret E hP hS rfl dL_does_259
              · have h := (if_pos c10).symm.trans h
                refine lv_iconst (pc := 254) (v := (1 : Int32)) hx hb dL_does_254 (by decide) ?_
                refine lv_goto (pc := 255) (tgt := 259) hx hb dL_does_255 (by decide) ?_
                obtain ⟨rfl, rfl⟩ := som2 h
                exact x_iret E hP hS rfl dL_does_259
        · have h := (if_pos c5).symm.trans h
          refine lv_aload_n (pc := 193) hx hb dL_does_193 rfl (lv_at hl 2 rfl) ?_
          refine lv_iload_n (pc := 194) hx hb dL_does_194 rfl (lv_at hl 1 rfl) ?_
          refine lv_iconst (pc := 195) (v := (4 : Int32)) hx hb dL_does_195 (by decide) ?_
          obtain ⟨y11, hy11, h⟩ := bnd_ex h
          refine x_callVi (pc := 196) (st := .int (4 : Int32) :: .int (irm x1 (100 : Int32)) :: .ref (ad 0) :: []) (As := [.int (irm x1 (100 : Int32)), .int (4 : Int32)]) E hEx hl.1 hP hS (kX7_clue hap  M _ _ _ hy11) gL_34 hdX7_clue rfl (by decide) sh7 rfl ⟨Nat.le_of_ble_eq_true rfl, Nat.le_of_ble_eq_true rfl⟩ ⟨rfl, rfl⟩ dL_does_196 rfl (Nat.le_of_ble_eq_true rfl) (fun H locs hP hS n12 => ?_)
          refine lv_istore (pc := 199) (lv' := [(4, .int y11), (3, .int y1), (2, .int (irm x1 (100 : Int32))), (0, .ref (ad 0)), (1, .int x1)]) hx hb dL_does_199 hl (by decide) rfl (fun ls hl => ?_)
          refine lv_aload_n (pc := 201) hx hb dL_does_201 rfl (lv_at hl 3 rfl) ?_
          refine lv_iload_n (pc := 202) hx hb dL_does_202 rfl (lv_at hl 2 rfl) ?_
          obtain ⟨q13, hq13, h⟩ := bnd_ex h
          refine x_callVi (pc := 203) (st := .int (irm x1 (100 : Int32)) :: .ref (ad 0) :: []) (As := [.int (irm x1 (100 : Int32))]) E hEx hl.1 hP hS (kX7_read hap  M _ _ _ hq13) gL_80 hdX7_read rfl (by decide) sh7 rfl ⟨Nat.le_of_ble_eq_true rfl, Nat.le_of_ble_eq_true rfl⟩ ⟨rfl, rfl⟩ dL_does_203 rfl (Nat.le_of_ble_eq_true rfl) (fun H locs hP hS n14 => ?_)
          refine lv_istore (pc := 206) (lv' := [(5, .int q13.1), (4, .int y11), (3, .int y1), (2, .int (irm x1 (100 : Int32))), (0, .ref (ad 0)), (1, .int x1)]) hx hb dL_does_206 hl (by decide) rfl (fun ls hl => ?_)
          refine lv_iload (pc := 208) hx hb dL_does_208 (lv_at hl 0 rfl) ?_
          refine lv_bipush (pc := 210) (v := (-6 : Int32)) hx hb dL_does_210 (by decide) ?_
          refine lv_icmp_eq (pc := 212) (tgt := 222) hx hb dL_does_212 (by decide) (fun c15 => ?_) (fun c15 => ?_)
          · have h := (if_pos c15).symm.trans h
            refine lv_iconst (pc := 222) (v := (1 : Int32)) hx hb dL_does_222 (by decide) ?_
            refine lv_goto (pc := 223) (tgt := 227) hx hb dL_does_223 (by decide) ?_
            obtain ⟨rfl, rfl⟩ := som2 h
            exact x_iret E hP hS rfl dL_does_227
          · have h := (if_neg c15).symm.trans h
            refine lv_iload (pc := 215) hx hb dL_does_215 (lv_at hl 0 rfl) ?_
            refine lv_iload (pc := 217) hx hb dL_does_217 (lv_at hl 1 rfl) ?_
            refine lv_icmp_ne (pc := 219) (tgt := 226) hx hb dL_does_219 (by decide) (fun c16 => ?_) (fun c16 => ?_)
            · have h := (if_neg c16).symm.trans h
              refine lv_iconst (pc := 226) (v := (0 : Int32)) hx hb dL_does_226 (by decide) ?_
              obtain ⟨rfl, rfl⟩ := som2 h
              exact x_iret E hP hS rfl dL_does_227
            · have h := (if_pos c16).symm.trans h
              refine lv_iconst (pc := 222) (v := (1 : Int32)) hx hb dL_does_222 (by decide) ?_
              refine lv_goto (pc := 223) (tgt := 227) hx hb dL_does_223 (by decide) ?_
              obtain ⟨rfl, rfl⟩ := som2 h
              exact x_iret E hP hS rfl dL_does_227
      · have h := (if_pos c4).symm.trans h
        refine lv_aload_n (pc := 87) hx hb dL_does_87 rfl (lv_at hl 2 rfl) ?_
        refine lv_iload_n (pc := 88) hx hb dL_does_88 rfl (lv_at hl 1 rfl) ?_
        refine lv_iconst (pc := 89) (v := (1 : Int32)) hx hb dL_does_89 (by decide) ?_
        obtain ⟨y17, hy17, h⟩ := bnd_ex h
        refine x_callVi (pc := 90) (st := .int (1 : Int32) :: .int (irm x1 (100 : Int32)) :: .ref (ad 0) :: []) (As := [.int (irm x1 (100 : Int32)), .int (1 : Int32)]) E hEx hl.1 hP hS (kX7_box hap  M _ _ _ hy17) gL_9 hdX7_box rfl (by decide) sh7 rfl ⟨Nat.le_of_ble_eq_true rfl, Nat.le_of_ble_eq_true rfl⟩ ⟨rfl, rfl⟩ dL_does_90 rfl (Nat.le_of_ble_eq_true rfl) (fun H locs hP hS n18 => ?_)
        refine lv_iconst (pc := 93) (v := (2 : Int32)) hx hb dL_does_93 (by decide) ?_
        refine lv_icmp_ne (pc := 94) (tgt := 107) hx hb dL_does_94 (by decide) (fun c19 => ?_) (fun c19 => ?_)
        · have h := (if_neg c19).symm.trans h
          refine lv_iconst (pc := 107) (v := (0 : Int32)) hx hb dL_does_107 (by decide) ?_
          refine lv_istore (pc := 108) (lv' := [(4, .int (0 : Int32)), (3, .int y1), (2, .int (irm x1 (100 : Int32))), (0, .ref (ad 0)), (1, .int x1)]) hx hb dL_does_108 hl (by decide) rfl (fun ls hl => ?_)
          exact hB110 M (irm x1 (100 : Int32)) (0 : Int32) _ _ _ h hP hS (lv_sub hl [3, 2, 0] rfl)
        · have h := (if_pos c19).symm.trans h
          refine lv_aload_n (pc := 97) hx hb dL_does_97 rfl (lv_at hl 2 rfl) ?_
          refine lv_iload_n (pc := 98) hx hb dL_does_98 rfl (lv_at hl 1 rfl) ?_
          refine lv_bipush (pc := 99) (v := (6 : Int32)) hx hb dL_does_99 (by decide) ?_
          obtain ⟨y35, hy35, h⟩ := bnd_ex h
          refine x_callVi (pc := 101) (st := .int (6 : Int32) :: .int (irm x1 (100 : Int32)) :: .ref (ad 0) :: []) (As := [.int (irm x1 (100 : Int32)), .int (6 : Int32)]) E hEx hl.1 hP hS (kX7_box hap  M _ _ _ hy35) gL_9 hdX7_box rfl (by decide) sh7 rfl ⟨Nat.le_of_ble_eq_true rfl, Nat.le_of_ble_eq_true rfl⟩ ⟨rfl, rfl⟩ dL_does_101 rfl (Nat.le_of_ble_eq_true rfl) (fun H locs hP hS n36 => ?_)
          refine lv_goto (pc := 104) (tgt := 108) hx hb dL_does_104 (by decide) ?_
          refine lv_istore (pc := 108) (lv' := [(4, .int y35), (3, .int y1), (2, .int (irm x1 (100 : Int32))), (0, .ref (ad 0)), (1, .int x1)]) hx hb dL_does_108 hl (by decide) rfl (fun ls hl => ?_)
          exact hB110 M (irm x1 (100 : Int32)) y35 _ _ _ h hP hS (lv_sub hl [3, 2, 0] rfl)
    · have h := (if_pos c3).symm.trans h
      refine lv_aload_n (pc := 50) hx hb dL_does_50 rfl (lv_at hl 2 rfl) ?_
      refine lv_iload_n (pc := 51) hx hb dL_does_51 rfl (lv_at hl 1 rfl) ?_
      refine lv_iconst (pc := 52) (v := (1 : Int32)) hx hb dL_does_52 (by decide) ?_
      obtain ⟨y37, hy37, h⟩ := bnd_ex h
      refine x_callVi (pc := 53) (st := .int (1 : Int32) :: .int (irm x1 (100 : Int32)) :: .ref (ad 0) :: []) (As := [.int (irm x1 (100 : Int32)), .int (1 : Int32)]) E hEx hl.1 hP hS (kX7_prop hap  M _ _ _ hy37) gL_25 hdX7_prop rfl (by decide) sh7 rfl ⟨Nat.le_of_ble_eq_true rfl, Nat.le_of_ble_eq_true rfl⟩ ⟨rfl, rfl⟩ dL_does_53 rfl (Nat.le_of_ble_eq_true rfl) (fun H locs hP hS n38 => ?_)
      refine lv_bipush (pc := 56) (v := (-5 : Int32)) hx hb dL_does_56 (by decide) ?_
      refine lv_icmp_ne (pc := 58) (tgt := 80) hx hb dL_does_58 (by decide) (fun c39 => ?_) (fun c39 => ?_)
      · have h := (if_neg c39).symm.trans h
        refine lv_iconst (pc := 80) (v := (0 : Int32)) hx hb dL_does_80 (by decide) ?_
        obtain ⟨rfl, rfl⟩ := som2 h
        exact x_iret E hP hS rfl dL_does_81
      · have h := (if_pos c39).symm.trans h
        refine lv_aload_n (pc := 61) hx hb dL_does_61 rfl (lv_at hl 2 rfl) ?_
        refine lv_iload_n (pc := 62) hx hb dL_does_62 rfl (lv_at hl 1 rfl) ?_
        refine lv_iload_n (pc := 63) hx hb dL_does_63 rfl (lv_at hl 3 rfl) ?_
        refine lv_sipush (pc := 64) (v := (1000 : Int32)) hx hb dL_does_64 (by decide) ?_
        refine lv_idiv (pc := 67) hx hb dL_does_67 (by decide) ?_
        obtain ⟨q40, hq40, h⟩ := bnd_ex h
        refine x_callVi (pc := 68) (st := .int (x1 / (1000 : Int32)) :: .int (irm x1 (100 : Int32)) :: .ref (ad 0) :: []) (As := [.int (irm x1 (100 : Int32)), .int (x1 / (1000 : Int32))]) E hEx hl.1 hP hS (kX7_lay hap  M _ _ _ _ hq40) gL_74 hdX7_lay rfl (by decide) sh7 rfl ⟨Nat.le_of_ble_eq_true rfl, Nat.le_of_ble_eq_true rfl⟩ ⟨rfl, rfl⟩ dL_does_68 rfl (Nat.le_of_ble_eq_true rfl) (fun H locs hP hS n41 => ?_)
        refine lv_bipush (pc := 71) (v := (-4 : Int32)) hx hb dL_does_71 (by decide) ?_
        refine lv_icmp_eq (pc := 73) (tgt := 80) hx hb dL_does_73 (by decide) (fun c42 => ?_) (fun c42 => ?_)
        · have h := (if_pos c42).symm.trans h
          refine lv_iconst (pc := 80) (v := (0 : Int32)) hx hb dL_does_80 (by decide) ?_
          obtain ⟨rfl, rfl⟩ := som2 h
          exact x_iret E hP hS rfl dL_does_81
        · have h := (if_neg c42).symm.trans h
          refine lv_iconst (pc := 76) (v := (1 : Int32)) hx hb dL_does_76 (by decide) ?_
          refine lv_goto (pc := 77) (tgt := 81) hx hb dL_does_77 (by decide) ?_
          obtain ⟨rfl, rfl⟩ := som2 h
          exact x_iret E hP hS rfl dL_does_81
  · have h := (if_pos c2).symm.trans h
    refine lv_aload_n (pc := 19) hx hb dL_does_19 rfl (lv_at hl 2 rfl) ?_
    refine lv_iload_n (pc := 20) hx hb dL_does_20 rfl (lv_at hl 1 rfl) ?_
    refine lv_iconst (pc := 21) (v := (2 : Int32)) hx hb dL_does_21 (by decide) ?_
    obtain ⟨y43, hy43, h⟩ := bnd_ex h
    refine x_callVi (pc := 22) (st := .int (2 : Int32) :: .int (irm x1 (100 : Int32)) :: .ref (ad 0) :: []) (As := [.int (irm x1 (100 : Int32)), .int (2 : Int32)]) E hEx hl.1 hP hS (kX7_prop hap  M _ _ _ hy43) gL_25 hdX7_prop rfl (by decide) sh7 rfl ⟨Nat.le_of_ble_eq_true rfl, Nat.le_of_ble_eq_true rfl⟩ ⟨rfl, rfl⟩ dL_does_22 rfl (Nat.le_of_ble_eq_true rfl) (fun H locs hP hS n44 => ?_)
    refine lv_iconst (pc := 25) (v := (1 : Int32)) hx hb dL_does_25 (by decide) ?_
    refine lv_icmp_ne (pc := 26) (tgt := 43) hx hb dL_does_26 (by decide) (fun c45 => ?_) (fun c45 => ?_)
    · have h := (if_neg c45).symm.trans h
      refine lv_iconst (pc := 43) (v := (0 : Int32)) hx hb dL_does_43 (by decide) ?_
      obtain ⟨rfl, rfl⟩ := som2 h
      exact x_iret E hP hS rfl dL_does_44
    · have h := (if_pos c45).symm.trans h
      refine lv_aload_n (pc := 29) hx hb dL_does_29 rfl (lv_at hl 2 rfl) ?_
      refine lv_iload_n (pc := 30) hx hb dL_does_30 rfl (lv_at hl 1 rfl) ?_
      obtain ⟨q46, hq46, h⟩ := bnd_ex h
      refine x_callVi (pc := 31) (st := .int (irm x1 (100 : Int32)) :: .ref (ad 0) :: []) (As := [.int (irm x1 (100 : Int32))]) E hEx hl.1 hP hS (kX7_take hap  M _ _ _ hq46) gL_71 hdX7_take rfl (by decide) sh7 rfl ⟨Nat.le_of_ble_eq_true rfl, Nat.le_of_ble_eq_true rfl⟩ ⟨rfl, rfl⟩ dL_does_31 rfl (Nat.le_of_ble_eq_true rfl) (fun H locs hP hS n47 => ?_)
      refine lv_bipush (pc := 34) (v := (-4 : Int32)) hx hb dL_does_34 (by decide) ?_
      refine lv_icmp_eq (pc := 36) (tgt := 43) hx hb dL_does_36 (by decide) (fun c48 => ?_) (fun c48 => ?_)
      · have h := (if_pos c48).symm.trans h
        refine lv_iconst (pc := 43) (v := (0 : Int32)) hx hb dL_does_43 (by decide) ?_
        obtain ⟨rfl, rfl⟩ := som2 h
        exact x_iret E hP hS rfl dL_does_44
      · have h := (if_neg c48).symm.trans h
        refine lv_iconst (pc := 39) (v := (1 : Int32)) hx hb dL_does_39 (by decide) ?_
        refine lv_goto (pc := 40) (tgt := 44) hx hb dL_does_40 (by decide) ?_
        obtain ⟨rfl, rfl⟩ := som2 h
        exact x_iret E hP hS rfl dL_does_44
set_option maxRecDepth 100000 in
set_option maxHeartbeats 4000000 in
theorem kL_acts (hap : Apart 78 ad)   (M : Mem) (x1 x2 : Int32) (v : Int32) (M' : Mem) (h : fL_acts M x1 x2 = some (v, M')) : XI G ad sK sV cA cZ cC yL_acts cL_acts 14 .boolean ({ frames := 9, cells := 0, slots := 0, locals := 260 } : Room) [.ref (ad 0), .int x1, .int x2] M v M' := by
  refine CI.mk (own := RL) (ls0 := [(0, .ref (ad 0)), (1, .int x1), (2, .int x2)]) (by decide +kernel) rfl hap (Nat.le_of_ble_eq_true rfl) rfl ?_
  intro p l e s m args below meth c ls E hP hl
  have hx := E.1
  have hb := E.2.1
  have hown := E.2.2.2.2.2.1
  have hts := E.2.2.2.2.2.2.1
  have hNe := E.2.2.2.2.2.2.2.2.1.1
  have hEx := ExX.ok ad sK sV
  have hS : va_S (AW 78 ad) s.heap s.heap [] := va_S.rf
  have hB453 : ∀ (M : Mem) (x4 x5 x8 : Int32) (H : Heap) (locs : List Loc) (ls : Array Slot), fL_acts_B453 M x4 x5 x8 = some (v, M') → va_P G vwCl (WW 78 (shX cA ad) ad M) H → va_S (AW 78 ad) s.heap H locs → lv_has ls 14 [(0, .ref (ad 0)), (4, .int x4), (5, .int x5), (8, .int x8)] → W p l e ({ frames := 9, cells := 0, slots := 0, locals := 260 } : Room) s m args below meth c H locs 0 0 (QI below G 78 (shX cA ad) ad .boolean args s v M') (F0 m 453 ls []) := by
    intro M x4 x5 x8 H locs ls h hP hS hl
    unfold fL_acts_B453 at h
    refine lv_aload_n (pc := 453) hx hb dL_acts_453 rfl (lv_at hl 0 rfl) ?_
    obtain ⟨q18, hq18, h⟩ := bnd_ex h
    refine x_callVi (pc := 454) (st := .ref (ad 0) :: []) (As := []) E hEx hl.1 hP hS (kX7_giveUp hap  M  _ _ hq18) gL_95 hdX7_giveUp rfl (by decide) sh7 rfl ⟨Nat.le_of_ble_eq_true rfl, Nat.le_of_ble_eq_true rfl⟩ ⟨rfl, rfl⟩ dL_acts_454 rfl (Nat.le_of_ble_eq_true rfl) (fun H locs hP hS n19 => ?_)
    refine lv_iload (pc := 457) hx hb dL_acts_457 (lv_at hl 1 rfl) ?_
    refine lv_iload (pc := 459) hx hb dL_acts_459 (lv_at hl 1 rfl) ?_
    refine lv_iload (pc := 461) hx hb dL_acts_461 (lv_at hl 2 rfl) ?_
    refine lv_iadd (pc := 463) hx hb dL_acts_463 ?_
    refine lv_aload_n (pc := 464) hx hb dL_acts_464 rfl (lv_at hl 0 rfl) ?_
    refine lv_bipush (pc := 465) (v := (12 : Int32)) hx hb dL_acts_465 (by decide) ?_
    obtain ⟨y20, hy20, h⟩ := bnd_ex h
    refine x_callVi (pc := 467) (st := .int (12 : Int32) :: .ref (ad 0) :: .int (x4 + x5) :: .int x4 :: .int q18.1 :: []) (As := [.int (12 : Int32)]) E hEx hl.1 hP hS (kX7_count hap  q18.2 _ _ hy20) gL_15 hdX7_count rfl (by decide) sh7 rfl ⟨Nat.le_of_ble_eq_true rfl, Nat.le_of_ble_eq_true rfl⟩ ⟨rfl, rfl⟩ dL_acts_467 rfl (Nat.le_of_ble_eq_true rfl) (fun H locs hP hS n21 => ?_)
    refine lv_isub (pc := 470) hx hb dL_acts_470 ?_
    refine lv_isub (pc := 471) hx hb dL_acts_471 ?_
    refine lv_icmp_ne (pc := 472) (tgt := 498) hx hb dL_acts_472 (by decide) (fun c22 => ?_) (fun c22 => ?_)
    · have h := (if_neg c22).symm.trans h
      refine lv_iconst (pc := 498) (v := (0 : Int32)) hx hb dL_acts_498 (by decide) ?_
      obtain ⟨rfl, rfl⟩ := som2 h
      exact x_iret E hP hS rfl dL_acts_499
    · have h := (if_pos c22).symm.trans h
      refine lv_aload_n (pc := 475) hx hb dL_acts_475 rfl (lv_at hl 0 rfl) ?_
      refine lv_bipush (pc := 476) (v := (14 : Int32)) hx hb dL_acts_476 (by decide) ?_
      obtain ⟨y23, hy23, h⟩ := bnd_ex h
      refine x_callVi (pc := 478) (st := .int (14 : Int32) :: .ref (ad 0) :: []) (As := [.int (14 : Int32)]) E hEx hl.1 hP hS (kX7_count hap  q18.2 _ _ hy23) gL_15 hdX7_count rfl (by decide) sh7 rfl ⟨Nat.le_of_ble_eq_true rfl, Nat.le_of_ble_eq_true rfl⟩ ⟨rfl, rfl⟩ dL_acts_478 rfl (Nat.le_of_ble_eq_true rfl) (fun H locs hP hS n24 => ?_)
      refine lv_if_ne (pc := 481) (tgt := 498) hx hb dL_acts_481 (by decide) (fun c25 => ?_) (fun c25 => ?_)
      · have h := (if_neg c25).symm.trans h
        refine lv_iconst (pc := 498) (v := (0 : Int32)) hx hb dL_acts_498 (by decide) ?_
        obtain ⟨rfl, rfl⟩ := som2 h
        exact x_iret E hP hS rfl dL_acts_499
      · have h := (if_pos c25).symm.trans h
        refine lv_aload_n (pc := 484) hx hb dL_acts_484 rfl (lv_at hl 0 rfl) ?_
        refine lv_iload (pc := 485) hx hb dL_acts_485 (lv_at hl 3 rfl) ?_
        refine lv_iconst (pc := 487) (v := (4 : Int32)) hx hb dL_acts_487 (by decide) ?_
        refine x_callVi (pc := 488) (st := .int (4 : Int32) :: .int x8 :: .ref (ad 0) :: []) (As := [.int x8, .int (4 : Int32)]) E hEx hl.1 hP hS (kX7_result hap  q18.2 _ _ _ rfl) gL_43 hdX7_result rfl (by decide) sh7 rfl ⟨Nat.le_of_ble_eq_true rfl, Nat.le_of_ble_eq_true rfl⟩ ⟨rfl, rfl⟩ dL_acts_488 rfl (Nat.le_of_ble_eq_true rfl) (fun H locs hP hS n26 => ?_)
        refine lv_if_ne (pc := 491) (tgt := 498) hx hb dL_acts_491 (by decide) (fun c27 => ?_) (fun c27 => ?_)
        · have h := (if_neg c27).symm.trans h
          refine lv_iconst (pc := 498) (v := (0 : Int32)) hx hb dL_acts_498 (by decide) ?_
          obtain ⟨rfl, rfl⟩ := som2 h
          exact x_iret E hP hS rfl dL_acts_499
        · have h := (if_pos c27).symm.trans h
          refine lv_iconst (pc := 494) (v := (1 : Int32)) hx hb dL_acts_494 (by decide) ?_
          refine lv_goto (pc := 495) (tgt := 499) hx hb dL_acts_495 (by decide) ?_
          obtain ⟨rfl, rfl⟩ := som2 h
          exact x_iret E hP hS rfl dL_acts_499
  have hB500 : ∀ (M : Mem) (x4 x5 x8 x9 x10 : Int32) (H : Heap) (locs : List Loc) (ls : Array Slot), fL_acts_B500 M x4 x5 x8 x9 x10 = some (v, M') → va_P G vwCl (WW 78 (shX cA ad) ad M) H → va_S (AW 78 ad) s.heap H locs → lv_has ls 14 [(0, .ref (ad 0)), (4, .int x4), (5, .int x5), (8, .int x8), (9, .int x9), (10, .int x10)] → W p l e ({ frames := 9, cells := 0, slots := 0, locals := 260 } : Room) s m args below meth c H locs 0 0 (QI below G 78 (shX cA ad) ad .boolean args s v M') (F0 m 500 ls []) := by
    intro M x4 x5 x8 x9 x10 H locs ls h hP hS hl
    unfold fL_acts_B500 at h
    refine lv_iload (pc := 500) hx hb dL_acts_500 (lv_at hl 4 rfl) ?_
    refine lv_bipush (pc := 502) (v := (-6 : Int32)) hx hb dL_acts_502 (by decide) ?_
    refine lv_icmp_ne (pc := 504) (tgt := 571) hx hb dL_acts_504 (by decide) (fun c44 => ?_) (fun c44 => ?_)
    · have h := (if_neg c44).symm.trans h
      refine lv_iload (pc := 571) hx hb dL_acts_571 (lv_at hl 5 rfl) ?_
      refine lv_iload (pc := 573) hx hb dL_acts_573 (lv_at hl 2 rfl) ?_
      refine lv_icmp_gt (pc := 575) (tgt := 595) hx hb dL_acts_575 (by decide) (fun c45 => ?_) (fun c45 => ?_)
      · have h := (if_pos c45).symm.trans h
        refine lv_iconst (pc := 595) (v := (0 : Int32)) hx hb dL_acts_595 (by decide) ?_
        obtain ⟨rfl, rfl⟩ := som2 h
        exact x_iret E hP hS rfl dL_acts_596
      · have h := (if_neg c45).symm.trans h
        refine lv_aload_n (pc := 578) hx hb dL_acts_578 rfl (lv_at hl 0 rfl) ?_
        refine lv_iconst (pc := 579) (v := (5 : Int32)) hx hb dL_acts_579 (by decide) ?_
        obtain ⟨y46, hy46, h⟩ := bnd_ex h
        refine x_callVi (pc := 580) (st := .int (5 : Int32) :: .ref (ad 0) :: []) (As := [.int (5 : Int32)]) E hEx hl.1 hP hS (kX7_count hap  M _ _ hy46) gL_15 hdX7_count rfl (by decide) sh7 rfl ⟨Nat.le_of_ble_eq_true rfl, Nat.le_of_ble_eq_true rfl⟩ ⟨rfl, rfl⟩ dL_acts_580 rfl (Nat.le_of_ble_eq_true rfl) (fun H locs hP hS n47 => ?_)
        refine lv_iload (pc := 583) hx hb dL_acts_583 (lv_at hl 1 rfl) ?_
        refine lv_iload (pc := 585) hx hb dL_acts_585 (lv_at hl 5 rfl) ?_
        refine lv_iadd (pc := 587) hx hb dL_acts_587 ?_
        refine lv_icmp_ne (pc := 588) (tgt := 595) hx hb dL_acts_588 (by decide) (fun c48 => ?_) (fun c48 => ?_)
        · have h := (if_neg c48).symm.trans h
          refine lv_iconst (pc := 595) (v := (0 : Int32)) hx hb dL_acts_595 (by decide) ?_
          obtain ⟨rfl, rfl⟩ := som2 h
          exact x_iret E hP hS rfl dL_acts_596
        · have h := (if_pos c48).symm.trans h
          refine lv_iconst (pc := 591) (v := (1 : Int32)) hx hb dL_acts_591 (by decide) ?_
          refine lv_goto (pc := 592) (tgt := 596) hx hb dL_acts_592 (by decide) ?_
          obtain ⟨rfl, rfl⟩ := som2 h
          exact x_iret E hP hS rfl dL_acts_596
    · have h := (if_pos c44).symm.trans h
      refine lv_iload (pc := 507) hx hb dL_acts_507 (lv_at hl 5 rfl) ?_
      refine lv_iload (pc := 509) hx hb dL_acts_509 (lv_at hl 2 rfl) ?_
      refine lv_icmp_le (pc := 511) (tgt := 569) hx hb dL_acts_511 (by decide) (fun c49 => ?_) (fun c49 => ?_)
      · have h := (if_pos c49).symm.trans h
        refine lv_iconst (pc := 569) (v := (0 : Int32)) hx hb dL_acts_569 (by decide) ?_
        obtain ⟨rfl, rfl⟩ := som2 h
        exact x_iret E hP hS rfl dL_acts_570
      · have h := (if_neg c49).symm.trans h
        refine lv_aload_n (pc := 514) hx hb dL_acts_514 rfl (lv_at hl 0 rfl) ?_
        refine lv_iconst (pc := 515) (v := (5 : Int32)) hx hb dL_acts_515 (by decide) ?_
        obtain ⟨y50, hy50, h⟩ := bnd_ex h
        refine x_callVi (pc := 516) (st := .int (5 : Int32) :: .ref (ad 0) :: []) (As := [.int (5 : Int32)]) E hEx hl.1 hP hS (kX7_count hap  M _ _ hy50) gL_15 hdX7_count rfl (by decide) sh7 rfl ⟨Nat.le_of_ble_eq_true rfl, Nat.le_of_ble_eq_true rfl⟩ ⟨rfl, rfl⟩ dL_acts_516 rfl (Nat.le_of_ble_eq_true rfl) (fun H locs hP hS n51 => ?_)
        refine lv_iload (pc := 519) hx hb dL_acts_519 (lv_at hl 1 rfl) ?_
        refine lv_iload (pc := 521) hx hb dL_acts_521 (lv_at hl 2 rfl) ?_
        refine lv_iadd (pc := 523) hx hb dL_acts_523 ?_
        refine lv_icmp_ne (pc := 524) (tgt := 569) hx hb dL_acts_524 (by decide) (fun c52 => ?_) (fun c52 => ?_)
        · have h := (if_neg c52).symm.trans h
          refine lv_iconst (pc := 569) (v := (0 : Int32)) hx hb dL_acts_569 (by decide) ?_
          obtain ⟨rfl, rfl⟩ := som2 h
          exact x_iret E hP hS rfl dL_acts_570
        · have h := (if_pos c52).symm.trans h
          refine lv_aload_n (pc := 527) hx hb dL_acts_527 rfl (lv_at hl 0 rfl) ?_
          refine lv_bipush (pc := 528) (v := (14 : Int32)) hx hb dL_acts_528 (by decide) ?_
          obtain ⟨y53, hy53, h⟩ := bnd_ex h
          refine x_callVi (pc := 530) (st := .int (14 : Int32) :: .ref (ad 0) :: []) (As := [.int (14 : Int32)]) E hEx hl.1 hP hS (kX7_count hap  M _ _ hy53) gL_15 hdX7_count rfl (by decide) sh7 rfl ⟨Nat.le_of_ble_eq_true rfl, Nat.le_of_ble_eq_true rfl⟩ ⟨rfl, rfl⟩ dL_acts_530 rfl (Nat.le_of_ble_eq_true rfl) (fun H locs hP hS n54 => ?_)
          refine lv_if_ne (pc := 533) (tgt := 569) hx hb dL_acts_533 (by decide) (fun c55 => ?_) (fun c55 => ?_)
          · have h := (if_neg c55).symm.trans h
            refine lv_iconst (pc := 569) (v := (0 : Int32)) hx hb dL_acts_569 (by decide) ?_
            obtain ⟨rfl, rfl⟩ := som2 h
            exact x_iret E hP hS rfl dL_acts_570
          · have h := (if_pos c55).symm.trans h
            refine lv_aload_n (pc := 536) hx hb dL_acts_536 rfl (lv_at hl 0 rfl) ?_
            refine lv_bipush (pc := 537) (v := (7 : Int32)) hx hb dL_acts_537 (by decide) ?_
            obtain ⟨y56, hy56, h⟩ := bnd_ex h
            refine x_callVi (pc := 539) (st := .int (7 : Int32) :: .ref (ad 0) :: []) (As := [.int (7 : Int32)]) E hEx hl.1 hP hS (kX7_count hap  M _ _ hy56) gL_15 hdX7_count rfl (by decide) sh7 rfl ⟨Nat.le_of_ble_eq_true rfl, Nat.le_of_ble_eq_true rfl⟩ ⟨rfl, rfl⟩ dL_acts_539 rfl (Nat.le_of_ble_eq_true rfl) (fun H locs hP hS n57 => ?_)
            refine lv_iload (pc := 542) hx hb dL_acts_542 (lv_at hl 3 rfl) ?_
            refine lv_iconst (pc := 544) (v := (1 : Int32)) hx hb dL_acts_544 (by decide) ?_
            refine lv_iadd (pc := 545) hx hb dL_acts_545 ?_
            refine lv_icmp_ne (pc := 546) (tgt := 569) hx hb dL_acts_546 (by decide) (fun c58 => ?_) (fun c58 => ?_)
            · have h := (if_neg c58).symm.trans h
              refine lv_iconst (pc := 569) (v := (0 : Int32)) hx hb dL_acts_569 (by decide) ?_
              obtain ⟨rfl, rfl⟩ := som2 h
              exact x_iret E hP hS rfl dL_acts_570
            · have h := (if_pos c58).symm.trans h
              refine lv_aload_n (pc := 549) hx hb dL_acts_549 rfl (lv_at hl 0 rfl) ?_
              refine lv_iload (pc := 550) hx hb dL_acts_550 (lv_at hl 3 rfl) ?_
              refine lv_iconst (pc := 552) (v := (3 : Int32)) hx hb dL_acts_552 (by decide) ?_
              refine x_callVi (pc := 553) (st := .int (3 : Int32) :: .int x8 :: .ref (ad 0) :: []) (As := [.int x8, .int (3 : Int32)]) E hEx hl.1 hP hS (kX7_result hap  M _ _ _ rfl) gL_43 hdX7_result rfl (by decide) sh7 rfl ⟨Nat.le_of_ble_eq_true rfl, Nat.le_of_ble_eq_true rfl⟩ ⟨rfl, rfl⟩ dL_acts_553 rfl (Nat.le_of_ble_eq_true rfl) (fun H locs hP hS n59 => ?_)
              refine lv_aload_n (pc := 556) hx hb dL_acts_556 rfl (lv_at hl 0 rfl) ?_
              refine lv_bipush (pc := 557) (v := (12 : Int32)) hx hb dL_acts_557 (by decide) ?_
              obtain ⟨y60, hy60, h⟩ := bnd_ex h
              refine x_callVi (pc := 559) (st := .int (12 : Int32) :: .ref (ad 0) :: .int (fX7_result M x8 (3 : Int32)) :: []) (As := [.int (12 : Int32)]) E hEx hl.1 hP hS (kX7_count hap  M _ _ hy60) gL_15 hdX7_count rfl (by decide) sh7 rfl ⟨Nat.le_of_ble_eq_true rfl, Nat.le_of_ble_eq_true rfl⟩ ⟨rfl, rfl⟩ dL_acts_559 rfl (Nat.le_of_ble_eq_true rfl) (fun H locs hP hS n61 => ?_)
              refine lv_icmp_ne (pc := 562) (tgt := 569) hx hb dL_acts_562 (by decide) (fun c62 => ?_) (fun c62 => ?_)
              · have h := (if_neg c62).symm.trans h
                refine lv_iconst (pc := 569) (v := (0 : Int32)) hx hb dL_acts_569 (by decide) ?_
                obtain ⟨rfl, rfl⟩ := som2 h
                exact x_iret E hP hS rfl dL_acts_570
              · have h := (if_pos c62).symm.trans h
                refine lv_iconst (pc := 565) (v := (1 : Int32)) hx hb dL_acts_565 (by decide) ?_
                refine lv_goto (pc := 566) (tgt := 570) hx hb dL_acts_566 (by decide) ?_
                obtain ⟨rfl, rfl⟩ := som2 h
                exact x_iret E hP hS rfl dL_acts_570
  have hB426 : ∀ (M : Mem) (x4 x5 x8 x9 x10 x11 x12 : Int32) (H : Heap) (locs : List Loc) (ls : Array Slot), fL_acts_B426 M x4 x5 x8 x9 x10 x11 x12 = some (v, M') → va_P G vwCl (WW 78 (shX cA ad) ad M) H → va_S (AW 78 ad) s.heap H locs → lv_has ls 14 [(0, .ref (ad 0)), (4, .int x4), (5, .int x5), (8, .int x8), (9, .int x9), (10, .int x10), (11, .int x11), (12, .int x12)] → W p l e ({ frames := 9, cells := 0, slots := 0, locals := 260 } : Room) s m args below meth c H locs 0 0 (QI below G 78 (shX cA ad) ad .boolean args s v M') (F0 m 426 ls []) := by
    intro M x4 x5 x8 x9 x10 x11 x12 H locs ls h hP hS hl
    unfold fL_acts_B426 at h
    refine lv_iload (pc := 426) hx hb dL_acts_426 (lv_at hl 4 rfl) ?_
    refine lv_if_le (pc := 428) (tgt := 450) hx hb dL_acts_428 (by decide) (fun c43 => ?_) (fun c43 => ?_)
    · have h := (if_pos c43).symm.trans h
      refine lv_goto (pc := 450) (tgt := 500) hx hb dL_acts_450 (by decide) ?_
      exact hB500 M x4 x5 x8 x9 x10 _ _ _ h hP hS (lv_sub hl [0, 1, 2, 3, 4, 5] rfl)
    · have h := (if_neg c43).symm.trans h
      refine lv_iload (pc := 431) hx hb dL_acts_431 (lv_at hl 7 rfl) ?_
      refine lv_if_eq (pc := 433) (tgt := 448) hx hb dL_acts_433 (by decide) (fun c63 => ?_) (fun c63 => ?_)
      · have h := (if_pos c63).symm.trans h
        refine lv_iconst (pc := 448) (v := (0 : Int32)) hx hb dL_acts_448 (by decide) ?_
        obtain ⟨rfl, rfl⟩ := som2 h
        exact x_iret E hP hS rfl dL_acts_449
      · have h := (if_neg c63).symm.trans h
        refine lv_aload_n (pc := 436) hx hb dL_acts_436 rfl (lv_at hl 0 rfl) ?_
        refine lv_iload (pc := 437) hx hb dL_acts_437 (lv_at hl 6 rfl) ?_
        refine lv_iconst (pc := 439) (v := (1 : Int32)) hx hb dL_acts_439 (by decide) ?_
        obtain ⟨y64, hy64, h⟩ := bnd_ex h
        refine x_callVi (pc := 440) (st := .int (1 : Int32) :: .int x11 :: .ref (ad 0) :: []) (As := [.int x11, .int (1 : Int32)]) E hEx hl.1 hP hS (kX7_prop hap  M _ _ _ hy64) gL_25 hdX7_prop rfl (by decide) sh7 rfl ⟨Nat.le_of_ble_eq_true rfl, Nat.le_of_ble_eq_true rfl⟩ ⟨rfl, rfl⟩ dL_acts_440 rfl (Nat.le_of_ble_eq_true rfl) (fun H locs hP hS n65 => ?_)
        refine lv_bipush (pc := 443) (v := (-5 : Int32)) hx hb dL_acts_443 (by decide) ?_
        refine lv_icmp_eq (pc := 445) (tgt := 450) hx hb dL_acts_445 (by decide) (fun c66 => ?_) (fun c66 => ?_)
        · have h := (if_pos c66).symm.trans h
          refine lv_goto (pc := 450) (tgt := 500) hx hb dL_acts_450 (by decide) ?_
          exact hB500 M x4 x5 x8 x9 x10 _ _ _ h hP hS (lv_sub hl [0, 1, 2, 3, 4, 5] rfl)
        · have h := (if_neg c66).symm.trans h
          refine lv_iconst (pc := 448) (v := (0 : Int32)) hx hb dL_acts_448 (by decide) ?_
          obtain ⟨rfl, rfl⟩ := som2 h
          exact x_iret E hP hS rfl dL_acts_449
  have hB416 : ∀ (M : Mem) (x4 x5 x6 x8 x9 x11 x12 : Int32) (H : Heap) (locs : List Loc) (ls : Array Slot), fL_acts_B416 M x4 x5 x6 x8 x9 x11 x12 = some (v, M') → va_P G vwCl (WW 78 (shX cA ad) ad M) H → va_S (AW 78 ad) s.heap H locs → lv_has ls 14 [(0, .ref (ad 0)), (4, .int x4), (5, .int x5), (6, .int x6), (8, .int x8), (9, .int x9), (11, .int x11), (12, .int x12)] → W p l e ({ frames := 9, cells := 0, slots := 0, locals := 260 } : Room) s m args below meth c H locs 0 0 (QI below G 78 (shX cA ad) ad .boolean args s v M') (F0 m 416 ls []) := by
    intro M x4 x5 x6 x8 x9 x11 x12 H locs ls h hP hS hl
    unfold fL_acts_B416 at h
    refine lv_iconst (pc := 416) (v := (1 : Int32)) hx hb dL_acts_416 (by decide) ?_
    refine lv_iconst (pc := 417) (v := (3 : Int32)) hx hb dL_acts_417 (by decide) ?_
    refine lv_iload (pc := 418) hx hb dL_acts_418 (lv_at hl 3 rfl) ?_
    refine lv_isub (pc := 420) hx hb dL_acts_420 ?_
    refine x_callSi (pc := 421) (st := .int ((3 : Int32) - x6) :: .int (1 : Int32) :: []) (As := [.int (1 : Int32), .int ((3 : Int32) - x6)]) E hEx hl.1 hP hS (kL_max hap  M _ _ _ rfl) gL_40 hsL_max rfl ⟨Nat.le_of_ble_eq_true rfl, Nat.le_of_ble_eq_true rfl⟩ ⟨rfl, rfl⟩ dL_acts_421 rfl (Nat.le_of_ble_eq_true rfl) (fun H locs hP hS n41 => ?_)
    obtain ⟨y42, hy42, h⟩ := thn_ex h
    refine W.eq (g2 := F0 m 424 ls (.int y42 :: [])) (by rw [← hy42]) ?_
    refine lv_istore (pc := 424) (lv' := [(10, .int y42), (0, .ref (ad 0)), (4, .int x4), (5, .int x5), (6, .int x6), (8, .int x8), (9, .int x9), (11, .int x11), (12, .int x12)]) hx hb dL_acts_424 hl (by decide) rfl (fun ls hl => ?_)
    exact hB426 M x4 x5 x8 x9 y42 x11 x12 _ _ _ h hP hS (lv_sub hl [1, 2, 3, 5, 6, 0, 7, 8] rfl)
  have hB392 : ∀ (M : Mem) (x4 x5 x6 x8 x11 x12 : Int32) (H : Heap) (locs : List Loc) (ls : Array Slot), fL_acts_B392 M x4 x5 x6 x8 x11 x12 = some (v, M') → va_P G vwCl (WW 78 (shX cA ad) ad M) H → va_S (AW 78 ad) s.heap H locs → lv_has ls 14 [(0, .ref (ad 0)), (4, .int x4), (5, .int x5), (6, .int x6), (8, .int x8), (11, .int x11), (12, .int x12)] → W p l e ({ frames := 9, cells := 0, slots := 0, locals := 260 } : Room) s m args below meth c H locs 0 0 (QI below G 78 (shX cA ad) ad .boolean args s v M') (F0 m 392 ls []) := by
    intro M x4 x5 x6 x8 x11 x12 H locs ls h hP hS hl
    unfold fL_acts_B392 at h
    refine lv_aload_n (pc := 392) hx hb dL_acts_392 rfl (lv_at hl 0 rfl) ?_
    refine lv_iload (pc := 393) hx hb dL_acts_393 (lv_at hl 5 rfl) ?_
    obtain ⟨q38, hq38, h⟩ := bnd_ex h
    refine x_callVi (pc := 395) (st := .int x11 :: .ref (ad 0) :: []) (As := [.int x11]) E hEx hl.1 hP hS (kX7_take hap  M _ _ _ hq38) gL_71 hdX7_take rfl (by decide) sh7 rfl ⟨Nat.le_of_ble_eq_true rfl, Nat.le_of_ble_eq_true rfl⟩ ⟨rfl, rfl⟩ dL_acts_395 rfl (Nat.le_of_ble_eq_true rfl) (fun H locs hP hS n39 => ?_)
    refine lv_istore (pc := 398) (lv' := [(9, .int q38.1), (0, .ref (ad 0)), (4, .int x4), (5, .int x5), (6, .int x6), (8, .int x8), (11, .int x11), (12, .int x12)]) hx hb dL_acts_398 hl (by decide) rfl (fun ls hl => ?_)
    refine lv_iload (pc := 400) hx hb dL_acts_400 (lv_at hl 0 rfl) ?_
    refine lv_if_ge (pc := 402) (tgt := 416) hx hb dL_acts_402 (by decide) (fun c40 => ?_) (fun c40 => ?_)
    · have h := (if_pos c40).symm.trans h
      exact hB416 q38.2 x4 x5 x6 x8 q38.1 x11 x12 _ _ _ h hP hS (lv_sub hl [1, 2, 3, 4, 5, 0, 6, 7] rfl)
    · have h := (if_neg c40).symm.trans h
      refine lv_iload (pc := 405) hx hb dL_acts_405 (lv_at hl 0 rfl) ?_
      refine lv_bipush (pc := 407) (v := (-6 : Int32)) hx hb dL_acts_407 (by decide) ?_
      refine lv_icmp_eq (pc := 409) (tgt := 416) hx hb dL_acts_409 (by decide) (fun c67 => ?_) (fun c67 => ?_)
      · have h := (if_pos c67).symm.trans h
        exact hB416 q38.2 x4 x5 x6 x8 q38.1 x11 x12 _ _ _ h hP hS (lv_sub hl [1, 2, 3, 4, 5, 0, 6, 7] rfl)
      · have h := (if_neg c67).symm.trans h
        refine lv_iconst (pc := 412) (v := (0 : Int32)) hx hb dL_acts_412 (by decide) ?_
        refine lv_goto (pc := 413) (tgt := 424) hx hb dL_acts_413 (by decide) ?_
        refine lv_istore (pc := 424) (lv' := [(10, .int (0 : Int32)), (9, .int q38.1), (0, .ref (ad 0)), (4, .int x4), (5, .int x5), (6, .int x6), (8, .int x8), (11, .int x11), (12, .int x12)]) hx hb dL_acts_424 hl (by decide) rfl (fun ls hl => ?_)
        exact hB426 q38.2 x4 x5 x8 q38.1 (0 : Int32) x11 x12 _ _ _ h hP hS (lv_sub hl [2, 3, 4, 6, 1, 0, 7, 8] rfl)
  have hB339 : ∀ (M : Mem) (x2 x3 x4 x5 x6 x8 : Int32) (H : Heap) (locs : List Loc) (ls : Array Slot), fL_acts_B339 M x2 x3 x4 x5 x6 x8 = some (v, M') → va_P G vwCl (WW 78 (shX cA ad) ad M) H → va_S (AW 78 ad) s.heap H locs → lv_has ls 14 [(0, .ref (ad 0)), (2, .int x2), (3, .int x3), (4, .int x4), (5, .int x5), (6, .int x6), (8, .int x8)] → W p l e ({ frames := 9, cells := 0, slots := 0, locals := 260 } : Room) s m args below meth c H locs 0 0 (QI below G 78 (shX cA ad) ad .boolean args s v M') (F0 m 339 ls []) := by
    intro M x2 x3 x4 x5 x6 x8 H locs ls h hP hS hl
    unfold fL_acts_B339 at h
    refine lv_iload_n (pc := 339) hx hb dL_acts_339 rfl (lv_at hl 2 rfl) ?_
    refine lv_bipush (pc := 340) (v := (6 : Int32)) hx hb dL_acts_340 (by decide) ?_
    refine lv_icmp_ne (pc := 342) (tgt := 453) hx hb dL_acts_342 (by decide) (fun c17 => ?_) (fun c17 => ?_)
    · have h := (if_neg c17).symm.trans h
      exact hB453 M x4 x5 x8 _ _ _ h hP hS (lv_sub hl [0, 3, 4, 6] rfl)
    · have h := (if_pos c17).symm.trans h
      refine lv_aload_n (pc := 345) hx hb dL_acts_345 rfl (lv_at hl 0 rfl) ?_
      refine lv_iconst (pc := 346) (v := (1 : Int32)) hx hb dL_acts_346 (by decide) ?_
      obtain ⟨y28, hy28, h⟩ := bnd_ex h
      refine x_callVi (pc := 347) (st := .int (1 : Int32) :: .ref (ad 0) :: []) (As := [.int (1 : Int32)]) E hEx hl.1 hP hS (kX7_count hap  M _ _ hy28) gL_15 hdX7_count rfl (by decide) sh7 rfl ⟨Nat.le_of_ble_eq_true rfl, Nat.le_of_ble_eq_true rfl⟩ ⟨rfl, rfl⟩ dL_acts_347 rfl (Nat.le_of_ble_eq_true rfl) (fun H locs hP hS n29 => ?_)
      refine lv_if_le (pc := 350) (tgt := 453) hx hb dL_acts_350 (by decide) (fun c30 => ?_) (fun c30 => ?_)
      · have h := (if_pos c30).symm.trans h
        exact hB453 M x4 x5 x8 _ _ _ h hP hS (lv_sub hl [0, 3, 4, 6] rfl)
      · have h := (if_neg c30).symm.trans h
        refine lv_iload_n (pc := 353) hx hb dL_acts_353 rfl (lv_at hl 1 rfl) ?_
        refine lv_aload_n (pc := 354) hx hb dL_acts_354 rfl (lv_at hl 0 rfl) ?_
        refine lv_iconst (pc := 355) (v := (1 : Int32)) hx hb dL_acts_355 (by decide) ?_
        obtain ⟨y31, hy31, h⟩ := bnd_ex h
        refine x_callVi (pc := 356) (st := .int (1 : Int32) :: .ref (ad 0) :: .int x2 :: []) (As := [.int (1 : Int32)]) E hEx hl.1 hP hS (kX7_count hap  M _ _ hy31) gL_15 hdX7_count rfl (by decide) sh7 rfl ⟨Nat.le_of_ble_eq_true rfl, Nat.le_of_ble_eq_true rfl⟩ ⟨rfl, rfl⟩ dL_acts_356 rfl (Nat.le_of_ble_eq_true rfl) (fun H locs hP hS n32 => ?_)
        obtain ⟨y33, hy33, h⟩ := bnd_ex h
        refine x_callSi (pc := 359) (st := .int y31 :: .int x2 :: []) (As := [.int x2, .int y31]) E hEx hl.1 hP hS (kL_low hap  M _ _ _ hy33) gL_54 hsL_low rfl ⟨Nat.le_of_ble_eq_true rfl, Nat.le_of_ble_eq_true rfl⟩ ⟨rfl, rfl⟩ dL_acts_359 rfl (Nat.le_of_ble_eq_true rfl) (fun H locs hP hS n34 => ?_)
        refine lv_istore (pc := 362) (lv' := [(11, .int y33), (0, .ref (ad 0)), (2, .int x2), (3, .int x3), (4, .int x4), (5, .int x5), (6, .int x6), (8, .int x8)]) hx hb dL_acts_362 hl (by decide) rfl (fun ls hl => ?_)
        refine lv_aload_n (pc := 364) hx hb dL_acts_364 rfl (lv_at hl 1 rfl) ?_
        refine lv_iload (pc := 365) hx hb dL_acts_365 (lv_at hl 0 rfl) ?_
        refine lv_iconst (pc := 367) (v := (2 : Int32)) hx hb dL_acts_367 (by decide) ?_
        obtain ⟨y35, hy35, h⟩ := bnd_ex h
        refine x_callVi (pc := 368) (st := .int (2 : Int32) :: .int y33 :: .ref (ad 0) :: []) (As := [.int y33, .int (2 : Int32)]) E hEx hl.1 hP hS (kX7_prop hap  M _ _ _ hy35) gL_25 hdX7_prop rfl (by decide) sh7 rfl ⟨Nat.le_of_ble_eq_true rfl, Nat.le_of_ble_eq_true rfl⟩ ⟨rfl, rfl⟩ dL_acts_368 rfl (Nat.le_of_ble_eq_true rfl) (fun H locs hP hS n36 => ?_)
        refine lv_iconst (pc := 371) (v := (1 : Int32)) hx hb dL_acts_371 (by decide) ?_
        refine lv_icmp_ne (pc := 372) (tgt := 389) hx hb dL_acts_372 (by decide) (fun c37 => ?_) (fun c37 => ?_)
        · have h := (if_neg c37).symm.trans h
          refine lv_iconst (pc := 389) (v := (0 : Int32)) hx hb dL_acts_389 (by decide) ?_
          refine lv_istore (pc := 390) (lv' := [(12, .int (0 : Int32)), (11, .int y33), (0, .ref (ad 0)), (2, .int x2), (3, .int x3), (4, .int x4), (5, .int x5), (6, .int x6), (8, .int x8)]) hx hb dL_acts_390 hl (by decide) rfl (fun ls hl => ?_)
          exact hB392 M x4 x5 x6 x8 y33 (0 : Int32) _ _ _ h hP hS (lv_sub hl [2, 5, 6, 7, 8, 1, 0] rfl)
        · have h := (if_pos c37).symm.trans h
          refine lv_aload_n (pc := 375) hx hb dL_acts_375 rfl (lv_at hl 1 rfl) ?_
          refine lv_iload (pc := 376) hx hb dL_acts_376 (lv_at hl 0 rfl) ?_
          refine lv_iconst (pc := 378) (v := (1 : Int32)) hx hb dL_acts_378 (by decide) ?_
          obtain ⟨y68, hy68, h⟩ := bnd_ex h
          refine x_callVi (pc := 379) (st := .int (1 : Int32) :: .int y33 :: .ref (ad 0) :: []) (As := [.int y33, .int (1 : Int32)]) E hEx hl.1 hP hS (kX7_prop hap  M _ _ _ hy68) gL_25 hdX7_prop rfl (by decide) sh7 rfl ⟨Nat.le_of_ble_eq_true rfl, Nat.le_of_ble_eq_true rfl⟩ ⟨rfl, rfl⟩ dL_acts_379 rfl (Nat.le_of_ble_eq_true rfl) (fun H locs hP hS n69 => ?_)
          refine lv_if_lt (pc := 382) (tgt := 389) hx hb dL_acts_382 (by decide) (fun c70 => ?_) (fun c70 => ?_)
          · have h := (if_pos c70).symm.trans h
            refine lv_iconst (pc := 389) (v := (0 : Int32)) hx hb dL_acts_389 (by decide) ?_
            refine lv_istore (pc := 390) (lv' := [(12, .int (0 : Int32)), (11, .int y33), (0, .ref (ad 0)), (2, .int x2), (3, .int x3), (4, .int x4), (5, .int x5), (6, .int x6), (8, .int x8)]) hx hb dL_acts_390 hl (by decide) rfl (fun ls hl => ?_)
            exact hB392 M x4 x5 x6 x8 y33 (0 : Int32) _ _ _ h hP hS (lv_sub hl [2, 5, 6, 7, 8, 1, 0] rfl)
          · have h := (if_neg c70).symm.trans h
            refine lv_iconst (pc := 385) (v := (1 : Int32)) hx hb dL_acts_385 (by decide) ?_
            refine lv_goto (pc := 386) (tgt := 390) hx hb dL_acts_386 (by decide) ?_
            refine lv_istore (pc := 390) (lv' := [(12, .int (1 : Int32)), (11, .int y33), (0, .ref (ad 0)), (2, .int x2), (3, .int x3), (4, .int x4), (5, .int x5), (6, .int x6), (8, .int x8)]) hx hb dL_acts_390 hl (by decide) rfl (fun ls hl => ?_)
            exact hB392 M x4 x5 x6 x8 y33 (1 : Int32) _ _ _ h hP hS (lv_sub hl [2, 5, 6, 7, 8, 1, 0] rfl)
  have hB309 : ∀ (M : Mem) (x4 x5 x8 x9 x10 x12 x13 : Int32) (H : Heap) (locs : List Loc) (ls : Array Slot), fL_acts_B309 M x4 x5 x8 x9 x10 x12 x13 = some (v, M') → va_P G vwCl (WW 78 (shX cA ad) ad M) H → va_S (AW 78 ad) s.heap H locs → lv_has ls 14 [(0, .ref (ad 0)), (4, .int x4), (5, .int x5), (8, .int x8), (9, .int x9), (10, .int x10), (12, .int x12), (13, .int x13)] → W p l e ({ frames := 9, cells := 0, slots := 0, locals := 260 } : Room) s m args below meth c H locs 0 0 (QI below G 78 (shX cA ad) ad .boolean args s v M') (F0 m 309 ls []) := by
    intro M x4 x5 x8 x9 x10 x12 x13 H locs ls h hP hS hl
    unfold fL_acts_B309 at h
    refine lv_iload (pc := 309) hx hb dL_acts_309 (lv_at hl 4 rfl) ?_
    refine lv_if_lt (pc := 311) (tgt := 336) hx hb dL_acts_311 (by decide) (fun c90 => ?_) (fun c90 => ?_)
    · have h := (if_pos c90).symm.trans h
      refine lv_goto (pc := 336) (tgt := 500) hx hb dL_acts_336 (by decide) ?_
      exact hB500 M x4 x5 x8 x9 x10 _ _ _ h hP hS (lv_sub hl [0, 1, 2, 3, 4, 5] rfl)
    · have h := (if_neg c90).symm.trans h
      refine lv_iload (pc := 314) hx hb dL_acts_314 (lv_at hl 7 rfl) ?_
      refine lv_if_eq (pc := 316) (tgt := 334) hx hb dL_acts_316 (by decide) (fun c91 => ?_) (fun c91 => ?_)
      · have h := (if_pos c91).symm.trans h
        refine lv_iconst (pc := 334) (v := (0 : Int32)) hx hb dL_acts_334 (by decide) ?_
        obtain ⟨rfl, rfl⟩ := som2 h
        exact x_iret E hP hS rfl dL_acts_335
      · have h := (if_neg c91).symm.trans h
        refine lv_iload (pc := 319) hx hb dL_acts_319 (lv_at hl 6 rfl) ?_
        refine lv_iload (pc := 321) hx hb dL_acts_321 (lv_at hl 4 rfl) ?_
        refine lv_if_ne (pc := 323) (tgt := 330) hx hb dL_acts_323 (by decide) (fun c92 => ?_) (fun c92 => ?_)
        · have h := (if_neg c92).symm.trans h
          refine lv_iconst (pc := 330) (v := (0 : Int32)) hx hb dL_acts_330 (by decide) ?_
          refine lv_icmp_eq (pc := 331) (tgt := 336) hx hb dL_acts_331 (by decide) (fun c93 => ?_) (fun c93 => ?_)
          · have h := (if_pos c93).symm.trans h
            refine lv_goto (pc := 336) (tgt := 500) hx hb dL_acts_336 (by decide) ?_
            exact hB500 M x4 x5 x8 x9 x10 _ _ _ h hP hS (lv_sub hl [0, 1, 2, 3, 4, 5] rfl)
          · have h := (if_neg c93).symm.trans h
            refine lv_iconst (pc := 334) (v := (0 : Int32)) hx hb dL_acts_334 (by decide) ?_
            obtain ⟨rfl, rfl⟩ := som2 h
            exact x_iret E hP hS rfl dL_acts_335
        · have h := (if_pos c92).symm.trans h
          refine lv_iconst (pc := 326) (v := (1 : Int32)) hx hb dL_acts_326 (by decide) ?_
          refine lv_goto (pc := 327) (tgt := 331) hx hb dL_acts_327 (by decide) ?_
          refine lv_icmp_eq (pc := 331) (tgt := 336) hx hb dL_acts_331 (by decide) (fun c94 => ?_) (fun c94 => ?_)
          · have h := (if_pos c94).symm.trans h
            refine lv_goto (pc := 336) (tgt := 500) hx hb dL_acts_336 (by decide) ?_
            exact hB500 M x4 x5 x8 x9 x10 _ _ _ h hP hS (lv_sub hl [0, 1, 2, 3, 4, 5] rfl)
          · have h := (if_neg c94).symm.trans h
            refine lv_iconst (pc := 334) (v := (0 : Int32)) hx hb dL_acts_334 (by decide) ?_
            obtain ⟨rfl, rfl⟩ := som2 h
            exact x_iret E hP hS rfl dL_acts_335
  have hB281 : ∀ (M : Mem) (x4 x5 x6 x8 x9 x12 x13 : Int32) (H : Heap) (locs : List Loc) (ls : Array Slot), fL_acts_B281 M x4 x5 x6 x8 x9 x12 x13 = some (v, M') → va_P G vwCl (WW 78 (shX cA ad) ad M) H → va_S (AW 78 ad) s.heap H locs → lv_has ls 14 [(0, .ref (ad 0)), (4, .int x4), (5, .int x5), (6, .int x6), (8, .int x8), (9, .int x9), (12, .int x12), (13, .int x13)] → W p l e ({ frames := 9, cells := 0, slots := 0, locals := 260 } : Room) s m args below meth c H locs 0 0 (QI below G 78 (shX cA ad) ad .boolean args s v M') (F0 m 281 ls []) := by
    intro M x4 x5 x6 x8 x9 x12 x13 H locs ls h hP hS hl
    unfold fL_acts_B281 at h
    refine lv_iload (pc := 281) hx hb dL_acts_281 (lv_at hl 6 rfl) ?_
    refine lv_if_eq (pc := 283) (tgt := 299) hx hb dL_acts_283 (by decide) (fun c87 => ?_) (fun c87 => ?_)
    · have h := (if_pos c87).symm.trans h
      refine lv_iconst (pc := 299) (v := (1 : Int32)) hx hb dL_acts_299 (by decide) ?_
      refine lv_iconst (pc := 300) (v := (4 : Int32)) hx hb dL_acts_300 (by decide) ?_
      refine lv_iload (pc := 301) hx hb dL_acts_301 (lv_at hl 3 rfl) ?_
      refine lv_isub (pc := 303) hx hb dL_acts_303 ?_
      refine x_callSi (pc := 304) (st := .int ((4 : Int32) - x6) :: .int (1 : Int32) :: []) (As := [.int (1 : Int32), .int ((4 : Int32) - x6)]) E hEx hl.1 hP hS (kL_max hap  M _ _ _ rfl) gL_40 hsL_max rfl ⟨Nat.le_of_ble_eq_true rfl, Nat.le_of_ble_eq_true rfl⟩ ⟨rfl, rfl⟩ dL_acts_304 rfl (Nat.le_of_ble_eq_true rfl) (fun H locs hP hS n88 => ?_)
      obtain ⟨y89, hy89, h⟩ := thn_ex h
      refine W.eq (g2 := F0 m 307 ls (.int y89 :: [])) (by rw [← hy89]) ?_
      refine lv_istore (pc := 307) (lv' := [(10, .int y89), (0, .ref (ad 0)), (4, .int x4), (5, .int x5), (6, .int x6), (8, .int x8), (9, .int x9), (12, .int x12), (13, .int x13)]) hx hb dL_acts_307 hl (by decide) rfl (fun ls hl => ?_)
      exact hB309 M x4 x5 x8 x9 y89 x12 x13 _ _ _ h hP hS (lv_sub hl [1, 2, 3, 5, 6, 0, 7, 8] rfl)
    · have h := (if_neg c87).symm.trans h
      refine lv_iconst (pc := 286) (v := (2 : Int32)) hx hb dL_acts_286 (by decide) ?_
      refine lv_iconst (pc := 287) (v := (1 : Int32)) hx hb dL_acts_287 (by decide) ?_
      refine lv_iconst (pc := 288) (v := (4 : Int32)) hx hb dL_acts_288 (by decide) ?_
      refine lv_iload (pc := 289) hx hb dL_acts_289 (lv_at hl 3 rfl) ?_
      refine lv_isub (pc := 291) hx hb dL_acts_291 ?_
      refine x_callSi (pc := 292) (st := .int ((4 : Int32) - x6) :: .int (1 : Int32) :: .int (2 : Int32) :: []) (As := [.int (1 : Int32), .int ((4 : Int32) - x6)]) E hEx hl.1 hP hS (kL_max hap  M _ _ _ rfl) gL_40 hsL_max rfl ⟨Nat.le_of_ble_eq_true rfl, Nat.le_of_ble_eq_true rfl⟩ ⟨rfl, rfl⟩ dL_acts_292 rfl (Nat.le_of_ble_eq_true rfl) (fun H locs hP hS n95 => ?_)
      refine lv_imul (pc := 295) hx hb dL_acts_295 ?_
      refine lv_goto (pc := 296) (tgt := 307) hx hb dL_acts_296 (by decide) ?_
      obtain ⟨y96, hy96, h⟩ := thn_ex h
      refine W.eq (g2 := F0 m 307 ls (.int y96 :: [])) (by rw [← hy96]) ?_
      refine lv_istore (pc := 307) (lv' := [(10, .int y96), (0, .ref (ad 0)), (4, .int x4), (5, .int x5), (6, .int x6), (8, .int x8), (9, .int x9), (12, .int x12), (13, .int x13)]) hx hb dL_acts_307 hl (by decide) rfl (fun ls hl => ?_)
      exact hB309 M x4 x5 x8 x9 y96 x12 x13 _ _ _ h hP hS (lv_sub hl [1, 2, 3, 5, 6, 0, 7, 8] rfl)
  have hB256 : ∀ (M : Mem) (x4 x5 x6 x8 x11 x12 x13 : Int32) (H : Heap) (locs : List Loc) (ls : Array Slot), fL_acts_B256 M x4 x5 x6 x8 x11 x12 x13 = some (v, M') → va_P G vwCl (WW 78 (shX cA ad) ad M) H → va_S (AW 78 ad) s.heap H locs → lv_has ls 14 [(0, .ref (ad 0)), (4, .int x4), (5, .int x5), (6, .int x6), (8, .int x8), (11, .int x11), (12, .int x12), (13, .int x13)] → W p l e ({ frames := 9, cells := 0, slots := 0, locals := 260 } : Room) s m args below meth c H locs 0 0 (QI below G 78 (shX cA ad) ad .boolean args s v M') (F0 m 256 ls []) := by
    intro M x4 x5 x6 x8 x11 x12 x13 H locs ls h hP hS hl
    unfold fL_acts_B256 at h
    refine lv_aload_n (pc := 256) hx hb dL_acts_256 rfl (lv_at hl 0 rfl) ?_
    refine lv_iload (pc := 257) hx hb dL_acts_257 (lv_at hl 5 rfl) ?_
    refine lv_iconst (pc := 259) (v := (-1 : Int32)) hx hb dL_acts_259 (by decide) ?_
    obtain ⟨q84, hq84, h⟩ := bnd_ex h
    refine x_callVi (pc := 260) (st := .int (-1 : Int32) :: .int x11 :: .ref (ad 0) :: []) (As := [.int x11, .int (-1 : Int32)]) E hEx hl.1 hP hS (kX7_open hap  M _ _ _ _ hq84) gL_77 hdX7_open rfl (by decide) sh7 rfl ⟨Nat.le_of_ble_eq_true rfl, Nat.le_of_ble_eq_true rfl⟩ ⟨rfl, rfl⟩ dL_acts_260 rfl (Nat.le_of_ble_eq_true rfl) (fun H locs hP hS n85 => ?_)
    refine lv_istore (pc := 263) (lv' := [(9, .int q84.1), (0, .ref (ad 0)), (4, .int x4), (5, .int x5), (6, .int x6), (8, .int x8), (11, .int x11), (12, .int x12), (13, .int x13)]) hx hb dL_acts_263 hl (by decide) rfl (fun ls hl => ?_)
    refine lv_iload (pc := 265) hx hb dL_acts_265 (lv_at hl 0 rfl) ?_
    refine lv_if_ge (pc := 267) (tgt := 281) hx hb dL_acts_267 (by decide) (fun c86 => ?_) (fun c86 => ?_)
    · have h := (if_pos c86).symm.trans h
      exact hB281 q84.2 x4 x5 x6 x8 q84.1 x12 x13 _ _ _ h hP hS (lv_sub hl [1, 2, 3, 4, 5, 0, 7, 8] rfl)
    · have h := (if_neg c86).symm.trans h
      refine lv_iload (pc := 270) hx hb dL_acts_270 (lv_at hl 0 rfl) ?_
      refine lv_bipush (pc := 272) (v := (-6 : Int32)) hx hb dL_acts_272 (by decide) ?_
      refine lv_icmp_eq (pc := 274) (tgt := 281) hx hb dL_acts_274 (by decide) (fun c97 => ?_) (fun c97 => ?_)
      · have h := (if_pos c97).symm.trans h
        exact hB281 q84.2 x4 x5 x6 x8 q84.1 x12 x13 _ _ _ h hP hS (lv_sub hl [1, 2, 3, 4, 5, 0, 7, 8] rfl)
      · have h := (if_neg c97).symm.trans h
        refine lv_iconst (pc := 277) (v := (0 : Int32)) hx hb dL_acts_277 (by decide) ?_
        refine lv_goto (pc := 278) (tgt := 307) hx hb dL_acts_278 (by decide) ?_
        refine lv_istore (pc := 307) (lv' := [(10, .int (0 : Int32)), (9, .int q84.1), (0, .ref (ad 0)), (4, .int x4), (5, .int x5), (6, .int x6), (8, .int x8), (11, .int x11), (12, .int x12), (13, .int x13)]) hx hb dL_acts_307 hl (by decide) rfl (fun ls hl => ?_)
        exact hB309 q84.2 x4 x5 x8 q84.1 (0 : Int32) x12 x13 _ _ _ h hP hS (lv_sub hl [2, 3, 4, 6, 1, 0, 8, 9] rfl)
  have hB228 : ∀ (M : Mem) (x4 x5 x6 x8 x11 x12 : Int32) (H : Heap) (locs : List Loc) (ls : Array Slot), fL_acts_B228 M x4 x5 x6 x8 x11 x12 = some (v, M') → va_P G vwCl (WW 78 (shX cA ad) ad M) H → va_S (AW 78 ad) s.heap H locs → lv_has ls 14 [(0, .ref (ad 0)), (4, .int x4), (5, .int x5), (6, .int x6), (8, .int x8), (11, .int x11), (12, .int x12)] → W p l e ({ frames := 9, cells := 0, slots := 0, locals := 260 } : Room) s m args below meth c H locs 0 0 (QI below G 78 (shX cA ad) ad .boolean args s v M') (F0 m 228 ls []) := by
    intro M x4 x5 x6 x8 x11 x12 H locs ls h hP hS hl
    unfold fL_acts_B228 at h
    refine lv_aload_n (pc := 228) hx hb dL_acts_228 rfl (lv_at hl 0 rfl) ?_
    refine lv_iload (pc := 229) hx hb dL_acts_229 (lv_at hl 5 rfl) ?_
    refine lv_iconst (pc := 231) (v := (2 : Int32)) hx hb dL_acts_231 (by decide) ?_
    obtain ⟨y81, hy81, h⟩ := bnd_ex h
    refine x_callVi (pc := 232) (st := .int (2 : Int32) :: .int x11 :: .ref (ad 0) :: []) (As := [.int x11, .int (2 : Int32)]) E hEx hl.1 hP hS (kX7_box hap  M _ _ _ hy81) gL_9 hdX7_box rfl (by decide) sh7 rfl ⟨Nat.le_of_ble_eq_true rfl, Nat.le_of_ble_eq_true rfl⟩ ⟨rfl, rfl⟩ dL_acts_232 rfl (Nat.le_of_ble_eq_true rfl) (fun H locs hP hS n82 => ?_)
    refine lv_if_ne (pc := 235) (tgt := 253) hx hb dL_acts_235 (by decide) (fun c83 => ?_) (fun c83 => ?_)
    · have h := (if_neg c83).symm.trans h
      refine lv_iconst (pc := 253) (v := (0 : Int32)) hx hb dL_acts_253 (by decide) ?_
      refine lv_istore (pc := 254) (lv' := [(13, .int (0 : Int32)), (0, .ref (ad 0)), (4, .int x4), (5, .int x5), (6, .int x6), (8, .int x8), (11, .int x11), (12, .int x12)]) hx hb dL_acts_254 hl (by decide) rfl (fun ls hl => ?_)
      exact hB256 M x4 x5 x6 x8 x11 x12 (0 : Int32) _ _ _ h hP hS (lv_sub hl [1, 2, 3, 4, 5, 6, 7, 0] rfl)
    · have h := (if_pos c83).symm.trans h
      refine lv_aload_n (pc := 238) hx hb dL_acts_238 rfl (lv_at hl 0 rfl) ?_
      refine lv_iload (pc := 239) hx hb dL_acts_239 (lv_at hl 5 rfl) ?_
      refine lv_iconst (pc := 241) (v := (3 : Int32)) hx hb dL_acts_241 (by decide) ?_
      obtain ⟨y98, hy98, h⟩ := bnd_ex h
      refine x_callVi (pc := 242) (st := .int (3 : Int32) :: .int x11 :: .ref (ad 0) :: []) (As := [.int x11, .int (3 : Int32)]) E hEx hl.1 hP hS (kX7_box hap  M _ _ _ hy98) gL_9 hdX7_box rfl (by decide) sh7 rfl ⟨Nat.le_of_ble_eq_true rfl, Nat.le_of_ble_eq_true rfl⟩ ⟨rfl, rfl⟩ dL_acts_242 rfl (Nat.le_of_ble_eq_true rfl) (fun H locs hP hS n99 => ?_)
      refine lv_iconst (pc := 245) (v := (1 : Int32)) hx hb dL_acts_245 (by decide) ?_
      refine lv_icmp_ne (pc := 246) (tgt := 253) hx hb dL_acts_246 (by decide) (fun c100 => ?_) (fun c100 => ?_)
      · have h := (if_neg c100).symm.trans h
        refine lv_iconst (pc := 253) (v := (0 : Int32)) hx hb dL_acts_253 (by decide) ?_
        refine lv_istore (pc := 254) (lv' := [(13, .int (0 : Int32)), (0, .ref (ad 0)), (4, .int x4), (5, .int x5), (6, .int x6), (8, .int x8), (11, .int x11), (12, .int x12)]) hx hb dL_acts_254 hl (by decide) rfl (fun ls hl => ?_)
        exact hB256 M x4 x5 x6 x8 x11 x12 (0 : Int32) _ _ _ h hP hS (lv_sub hl [1, 2, 3, 4, 5, 6, 7, 0] rfl)
      · have h := (if_pos c100).symm.trans h
        refine lv_iconst (pc := 249) (v := (1 : Int32)) hx hb dL_acts_249 (by decide) ?_
        refine lv_goto (pc := 250) (tgt := 254) hx hb dL_acts_250 (by decide) ?_
        refine lv_istore (pc := 254) (lv' := [(13, .int (1 : Int32)), (0, .ref (ad 0)), (4, .int x4), (5, .int x5), (6, .int x6), (8, .int x8), (11, .int x11), (12, .int x12)]) hx hb dL_acts_254 hl (by decide) rfl (fun ls hl => ?_)
        exact hB256 M x4 x5 x6 x8 x11 x12 (1 : Int32) _ _ _ h hP hS (lv_sub hl [1, 2, 3, 4, 5, 6, 7, 0] rfl)
  have hB150 : ∀ (M : Mem) (x4 x5 x7 x8 x9 x10 x11 x12 : Int32) (H : Heap) (locs : List Loc) (ls : Array Slot), fL_acts_B150 M x4 x5 x7 x8 x9 x10 x11 x12 = some (v, M') → va_P G vwCl (WW 78 (shX cA ad) ad M) H → va_S (AW 78 ad) s.heap H locs → lv_has ls 14 [(0, .ref (ad 0)), (4, .int x4), (5, .int x5), (7, .int x7), (8, .int x8), (9, .int x9), (10, .int x10), (11, .int x11), (12, .int x12)] → W p l e ({ frames := 9, cells := 0, slots := 0, locals := 260 } : Room) s m args below meth c H locs 0 0 (QI below G 78 (shX cA ad) ad .boolean args s v M') (F0 m 150 ls []) := by
    intro M x4 x5 x7 x8 x9 x10 x11 x12 H locs ls h hP hS hl
    unfold fL_acts_B150 at h
    refine lv_iload (pc := 150) hx hb dL_acts_150 (lv_at hl 5 rfl) ?_
    refine lv_bipush (pc := 152) (v := (-6 : Int32)) hx hb dL_acts_152 (by decide) ?_
    refine lv_icmp_eq (pc := 154) (tgt := 178) hx hb dL_acts_154 (by decide) (fun c108 => ?_) (fun c108 => ?_)
    · have h := (if_pos c108).symm.trans h
      refine lv_goto (pc := 178) (tgt := 500) hx hb dL_acts_178 (by decide) ?_
      exact hB500 M x4 x5 x8 x9 x10 _ _ _ h hP hS (lv_sub hl [0, 1, 2, 4, 5, 6] rfl)
    · have h := (if_neg c108).symm.trans h
      refine lv_iload (pc := 157) hx hb dL_acts_157 (lv_at hl 5 rfl) ?_
      refine lv_iload (pc := 159) hx hb dL_acts_159 (lv_at hl 7 rfl) ?_
      refine lv_iload (pc := 161) hx hb dL_acts_161 (lv_at hl 8 rfl) ?_
      refine lv_icmp_ne (pc := 163) (tgt := 171) hx hb dL_acts_163 (by decide) (fun c109 => ?_) (fun c109 => ?_)
      · have h := (if_neg c109).symm.trans h
        refine lv_iload (pc := 171) hx hb dL_acts_171 (lv_at hl 3 rfl) ?_
        refine lv_icmp_eq (pc := 173) (tgt := 178) hx hb dL_acts_173 (by decide) (fun c110 => ?_) (fun c110 => ?_)
        · have h := (if_pos c110).symm.trans h
          refine lv_goto (pc := 178) (tgt := 500) hx hb dL_acts_178 (by decide) ?_
          exact hB500 M x4 x5 x8 x9 x10 _ _ _ h hP hS (lv_sub hl [0, 1, 2, 4, 5, 6] rfl)
        · have h := (if_neg c110).symm.trans h
          refine lv_iconst (pc := 176) (v := (0 : Int32)) hx hb dL_acts_176 (by decide) ?_
          obtain ⟨rfl, rfl⟩ := som2 h
          exact x_iret E hP hS rfl dL_acts_177
      · have h := (if_pos c109).symm.trans h
        refine lv_bipush (pc := 166) (v := (-3 : Int32)) hx hb dL_acts_166 (by decide) ?_
        refine lv_goto (pc := 168) (tgt := 173) hx hb dL_acts_168 (by decide) ?_
        refine lv_icmp_eq (pc := 173) (tgt := 178) hx hb dL_acts_173 (by decide) (fun c111 => ?_) (fun c111 => ?_)
        · have h := (if_pos c111).symm.trans h
          refine lv_goto (pc := 178) (tgt := 500) hx hb dL_acts_178 (by decide) ?_
          exact hB500 M x4 x5 x8 x9 x10 _ _ _ h hP hS (lv_sub hl [0, 1, 2, 4, 5, 6] rfl)
        · have h := (if_neg c111).symm.trans h
          refine lv_iconst (pc := 176) (v := (0 : Int32)) hx hb dL_acts_176 (by decide) ?_
          obtain ⟨rfl, rfl⟩ := som2 h
          exact x_iret E hP hS rfl dL_acts_177
  unfold fL_acts at h
  refine lv_iload_n (pc := 0) hx hb dL_acts_0 rfl (lv_at hl 1 rfl) ?_
  refine lv_bipush (pc := 1) (v := (7 : Int32)) hx hb dL_acts_1 (by decide) ?_
  obtain ⟨y1, hy1, h⟩ := bnd_ex h
  refine x_callSi (pc := 3) (st := .int (7 : Int32) :: .int x1 :: []) (As := [.int x1, .int (7 : Int32)]) E hEx hl.1 hP hS (kL_low hap  M _ _ _ hy1) gL_54 hsL_low rfl ⟨Nat.le_of_ble_eq_true rfl, Nat.le_of_ble_eq_true rfl⟩ ⟨rfl, rfl⟩ dL_acts_3 rfl (Nat.le_of_ble_eq_true rfl) (fun H locs hP hS n2 => ?_)
  refine lv_istore_n (pc := 6) (lv' := [(3, .int y1), (0, .ref (ad 0)), (1, .int x1), (2, .int x2)]) hx hb dL_acts_6 rfl hl (by decide) rfl (fun ls hl => ?_)
  refine lv_aload_n (pc := 7) hx hb dL_acts_7 rfl (lv_at hl 1 rfl) ?_
  refine lv_iconst (pc := 8) (v := (5 : Int32)) hx hb dL_acts_8 (by decide) ?_
  obtain ⟨y3, hy3, h⟩ := bnd_ex h
  refine x_callVi (pc := 9) (st := .int (5 : Int32) :: .ref (ad 0) :: []) (As := [.int (5 : Int32)]) E hEx hl.1 hP hS (kX7_count hap  M _ _ hy3) gL_15 hdX7_count rfl (by decide) sh7 rfl ⟨Nat.le_of_ble_eq_true rfl, Nat.le_of_ble_eq_true rfl⟩ ⟨rfl, rfl⟩ dL_acts_9 rfl (Nat.le_of_ble_eq_true rfl) (fun H locs hP hS n4 => ?_)
  refine lv_istore (pc := 12) (lv' := [(4, .int y3), (3, .int y1), (0, .ref (ad 0)), (1, .int x1), (2, .int x2)]) hx hb dL_acts_12 hl (by decide) rfl (fun ls hl => ?_)
  refine lv_aload_n (pc := 14) hx hb dL_acts_14 rfl (lv_at hl 2 rfl) ?_
  refine lv_iconst (pc := 15) (v := (2 : Int32)) hx hb dL_acts_15 (by decide) ?_
  obtain ⟨y5, hy5, h⟩ := bnd_ex h
  refine x_callVi (pc := 16) (st := .int (2 : Int32) :: .ref (ad 0) :: []) (As := [.int (2 : Int32)]) E hEx hl.1 hP hS (kX7_game hap  M _ _ hy5) gL_28 hdX7_game rfl (by decide) sh7 rfl ⟨Nat.le_of_ble_eq_true rfl, Nat.le_of_ble_eq_true rfl⟩ ⟨rfl, rfl⟩ dL_acts_16 rfl (Nat.le_of_ble_eq_true rfl) (fun H locs hP hS n6 => ?_)
  refine lv_istore (pc := 19) (lv' := [(5, .int y5), (4, .int y3), (3, .int y1), (0, .ref (ad 0)), (1, .int x1), (2, .int x2)]) hx hb dL_acts_19 hl (by decide) rfl (fun ls hl => ?_)
  refine lv_aload_n (pc := 21) hx hb dL_acts_21 rfl (lv_at hl 3 rfl) ?_
  refine lv_iconst (pc := 22) (v := (0 : Int32)) hx hb dL_acts_22 (by decide) ?_
  obtain ⟨y7, hy7, h⟩ := bnd_ex h
  refine x_callVi (pc := 23) (st := .int (0 : Int32) :: .ref (ad 0) :: []) (As := [.int (0 : Int32)]) E hEx hl.1 hP hS (kX7_game hap  M _ _ hy7) gL_28 hdX7_game rfl (by decide) sh7 rfl ⟨Nat.le_of_ble_eq_true rfl, Nat.le_of_ble_eq_true rfl⟩ ⟨rfl, rfl⟩ dL_acts_23 rfl (Nat.le_of_ble_eq_true rfl) (fun H locs hP hS n8 => ?_)
  refine lv_iconst (pc := 26) (v := (2 : Int32)) hx hb dL_acts_26 (by decide) ?_
  refine lv_idiv (pc := 27) hx hb dL_acts_27 (by decide) ?_
  refine lv_istore (pc := 28) (lv' := [(6, .int (y7 / (2 : Int32))), (5, .int y5), (4, .int y3), (3, .int y1), (0, .ref (ad 0)), (1, .int x1), (2, .int x2)]) hx hb dL_acts_28 hl (by decide) rfl (fun ls hl => ?_)
  refine lv_aload_n (pc := 30) hx hb dL_acts_30 rfl (lv_at hl 4 rfl) ?_
  obtain ⟨y9, hy9, h⟩ := bnd_ex h
  refine x_callVi (pc := 31) (st := .ref (ad 0) :: []) (As := []) E hEx hl.1 hP hS (kX7_nextStep hap  M  _ hy9) gL_86 hdX7_nextStep rfl (by decide) sh7 rfl ⟨Nat.le_of_ble_eq_true rfl, Nat.le_of_ble_eq_true rfl⟩ ⟨rfl, rfl⟩ dL_acts_31 rfl (Nat.le_of_ble_eq_true rfl) (fun H locs hP hS n10 => ?_)
  refine lv_istore (pc := 34) (lv' := [(7, .int y9), (6, .int (y7 / (2 : Int32))), (5, .int y5), (4, .int y3), (3, .int y1), (0, .ref (ad 0)), (1, .int x1), (2, .int x2)]) hx hb dL_acts_34 hl (by decide) rfl (fun ls hl => ?_)
  refine lv_aload_n (pc := 36) hx hb dL_acts_36 rfl (lv_at hl 5 rfl) ?_
  refine lv_bipush (pc := 37) (v := (7 : Int32)) hx hb dL_acts_37 (by decide) ?_
  obtain ⟨y11, hy11, h⟩ := bnd_ex h
  refine x_callVi (pc := 39) (st := .int (7 : Int32) :: .ref (ad 0) :: []) (As := [.int (7 : Int32)]) E hEx hl.1 hP hS (kX7_count hap  M _ _ hy11) gL_15 hdX7_count rfl (by decide) sh7 rfl ⟨Nat.le_of_ble_eq_true rfl, Nat.le_of_ble_eq_true rfl⟩ ⟨rfl, rfl⟩ dL_acts_39 rfl (Nat.le_of_ble_eq_true rfl) (fun H locs hP hS n12 => ?_)
  refine lv_istore (pc := 42) (lv' := [(8, .int y11), (7, .int y9), (6, .int (y7 / (2 : Int32))), (5, .int y5), (4, .int y3), (3, .int y1), (0, .ref (ad 0)), (1, .int x1), (2, .int x2)]) hx hb dL_acts_42 hl (by decide) rfl (fun ls hl => ?_)
  refine lv_iload_n (pc := 44) hx hb dL_acts_44 rfl (lv_at hl 5 rfl) ?_
  refine lv_iconst (pc := 45) (v := (3 : Int32)) hx hb dL_acts_45 (by decide) ?_
  refine lv_icmp_ge (pc := 46) (tgt := 71) hx hb dL_acts_46 (by decide) (fun c13 => ?_) (fun c13 => ?_)
  · have h := (if_pos c13).symm.trans h
    refine lv_iload_n (pc := 71) hx hb dL_acts_71 rfl (lv_at hl 5 rfl) ?_
    refine lv_iconst (pc := 72) (v := (3 : Int32)) hx hb dL_acts_72 (by decide) ?_
    refine lv_icmp_ne (pc := 73) (tgt := 103) hx hb dL_acts_73 (by decide) (fun c14 => ?_) (fun c14 => ?_)
    · have h := (if_neg c14).symm.trans h
      refine lv_iload_n (pc := 103) hx hb dL_acts_103 rfl (lv_at hl 5 rfl) ?_
      refine lv_iconst (pc := 104) (v := (4 : Int32)) hx hb dL_acts_104 (by decide) ?_
      refine lv_icmp_ne (pc := 105) (tgt := 181) hx hb dL_acts_105 (by decide) (fun c15 => ?_) (fun c15 => ?_)
      · have h := (if_neg c15).symm.trans h
        refine lv_iload_n (pc := 181) hx hb dL_acts_181 rfl (lv_at hl 5 rfl) ?_
        refine lv_iconst (pc := 182) (v := (5 : Int32)) hx hb dL_acts_182 (by decide) ?_
        refine lv_icmp_ne (pc := 183) (tgt := 339) hx hb dL_acts_183 (by decide) (fun c16 => ?_) (fun c16 => ?_)
        · have h := (if_neg c16).symm.trans h
          exact hB339 M x2 y1 y3 y5 (y7 / (2 : Int32)) y11 _ _ _ h hP hS (lv_sub hl [6, 8, 5, 4, 3, 2, 0] rfl)
        · have h := (if_pos c16).symm.trans h
          refine lv_aload_n (pc := 186) hx hb dL_acts_186 rfl (lv_at hl 6 rfl) ?_
          refine lv_iconst (pc := 187) (v := (0 : Int32)) hx hb dL_acts_187 (by decide) ?_
          obtain ⟨y71, hy71, h⟩ := bnd_ex h
          refine x_callVi (pc := 188) (st := .int (0 : Int32) :: .ref (ad 0) :: []) (As := [.int (0 : Int32)]) E hEx hl.1 hP hS (kX7_count hap  M _ _ hy71) gL_15 hdX7_count rfl (by decide) sh7 rfl ⟨Nat.le_of_ble_eq_true rfl, Nat.le_of_ble_eq_true rfl⟩ ⟨rfl, rfl⟩ dL_acts_188 rfl (Nat.le_of_ble_eq_true rfl) (fun H locs hP hS n72 => ?_)
          refine lv_iconst (pc := 191) (v := (1 : Int32)) hx hb dL_acts_191 (by decide) ?_
          refine lv_icmp_le (pc := 192) (tgt := 339) hx hb dL_acts_192 (by decide) (fun c73 => ?_) (fun c73 => ?_)
          · have h := (if_pos c73).symm.trans h
            exact hB339 M x2 y1 y3 y5 (y7 / (2 : Int32)) y11 _ _ _ h hP hS (lv_sub hl [6, 8, 5, 4, 3, 2, 0] rfl)
          · have h := (if_neg c73).symm.trans h
            refine lv_iconst (pc := 195) (v := (1 : Int32)) hx hb dL_acts_195 (by decide) ?_
            refine lv_iload_n (pc := 196) hx hb dL_acts_196 rfl (lv_at hl 8 rfl) ?_
            refine lv_aload_n (pc := 197) hx hb dL_acts_197 rfl (lv_at hl 6 rfl) ?_
            refine lv_iconst (pc := 198) (v := (0 : Int32)) hx hb dL_acts_198 (by decide) ?_
            obtain ⟨y74, hy74, h⟩ := bnd_ex h
            refine x_callVi (pc := 199) (st := .int (0 : Int32) :: .ref (ad 0) :: .int x2 :: .int (1 : Int32) :: []) (As := [.int (0 : Int32)]) E hEx hl.1 hP hS (kX7_count hap  M _ _ hy74) gL_15 hdX7_count rfl (by decide) sh7 rfl ⟨Nat.le_of_ble_eq_true rfl, Nat.le_of_ble_eq_true rfl⟩ ⟨rfl, rfl⟩ dL_acts_199 rfl (Nat.le_of_ble_eq_true rfl) (fun H locs hP hS n75 => ?_)
            refine lv_iconst (pc := 202) (v := (1 : Int32)) hx hb dL_acts_202 (by decide) ?_
            refine lv_isub (pc := 203) hx hb dL_acts_203 ?_
            obtain ⟨y76, hy76, h⟩ := bnd_ex h
            refine x_callSi (pc := 204) (st := .int (y74 - (1 : Int32)) :: .int x2 :: .int (1 : Int32) :: []) (As := [.int x2, .int (y74 - (1 : Int32))]) E hEx hl.1 hP hS (kL_low hap  M _ _ _ hy76) gL_54 hsL_low rfl ⟨Nat.le_of_ble_eq_true rfl, Nat.le_of_ble_eq_true rfl⟩ ⟨rfl, rfl⟩ dL_acts_204 rfl (Nat.le_of_ble_eq_true rfl) (fun H locs hP hS n77 => ?_)
            refine lv_iadd (pc := 207) hx hb dL_acts_207 ?_
            refine lv_istore (pc := 208) (lv' := [(11, .int ((1 : Int32) + y76)), (8, .int y11), (7, .int y9), (6, .int (y7 / (2 : Int32))), (5, .int y5), (4, .int y3), (3, .int y1), (0, .ref (ad 0)), (1, .int x1), (2, .int x2)]) hx hb dL_acts_208 hl (by decide) rfl (fun ls hl => ?_)
            refine lv_aload_n (pc := 210) hx hb dL_acts_210 rfl (lv_at hl 7 rfl) ?_
            refine lv_iload (pc := 211) hx hb dL_acts_211 (lv_at hl 0 rfl) ?_
            refine lv_iconst (pc := 213) (v := (1 : Int32)) hx hb dL_acts_213 (by decide) ?_
            obtain ⟨y78, hy78, h⟩ := bnd_ex h
            refine x_callVi (pc := 214) (st := .int (1 : Int32) :: .int ((1 : Int32) + y76) :: .ref (ad 0) :: []) (As := [.int ((1 : Int32) + y76), .int (1 : Int32)]) E hEx hl.1 hP hS (kX7_box hap  M _ _ _ hy78) gL_9 hdX7_box rfl (by decide) sh7 rfl ⟨Nat.le_of_ble_eq_true rfl, Nat.le_of_ble_eq_true rfl⟩ ⟨rfl, rfl⟩ dL_acts_214 rfl (Nat.le_of_ble_eq_true rfl) (fun H locs hP hS n79 => ?_)
            refine lv_iconst (pc := 217) (v := (2 : Int32)) hx hb dL_acts_217 (by decide) ?_
            refine lv_icmp_ne (pc := 218) (tgt := 225) hx hb dL_acts_218 (by decide) (fun c80 => ?_) (fun c80 => ?_)
            · have h := (if_neg c80).symm.trans h
              refine lv_iconst (pc := 225) (v := (0 : Int32)) hx hb dL_acts_225 (by decide) ?_
              refine lv_istore (pc := 226) (lv' := [(12, .int (0 : Int32)), (11, .int ((1 : Int32) + y76)), (8, .int y11), (7, .int y9), (6, .int (y7 / (2 : Int32))), (5, .int y5), (4, .int y3), (3, .int y1), (0, .ref (ad 0)), (1, .int x1), (2, .int x2)]) hx hb dL_acts_226 hl (by decide) rfl (fun ls hl => ?_)
              exact hB228 M y3 y5 (y7 / (2 : Int32)) y11 ((1 : Int32) + y76) (0 : Int32) _ _ _ h hP hS (lv_sub hl [8, 6, 5, 4, 2, 1, 0] rfl)
            · have h := (if_pos c80).symm.trans h
              refine lv_iconst (pc := 221) (v := (1 : Int32)) hx hb dL_acts_221 (by decide) ?_
              refine lv_goto (pc := 222) (tgt := 226) hx hb dL_acts_222 (by decide) ?_
              refine lv_istore (pc := 226) (lv' := [(12, .int (1 : Int32)), (11, .int ((1 : Int32) + y76)), (8, .int y11), (7, .int y9), (6, .int (y7 / (2 : Int32))), (5, .int y5), (4, .int y3), (3, .int y1), (0, .ref (ad 0)), (1, .int x1), (2, .int x2)]) hx hb dL_acts_226 hl (by decide) rfl (fun ls hl => ?_)
              exact hB228 M y3 y5 (y7 / (2 : Int32)) y11 ((1 : Int32) + y76) (1 : Int32) _ _ _ h hP hS (lv_sub hl [8, 6, 5, 4, 2, 1, 0] rfl)
      · have h := (if_pos c15).symm.trans h
        refine lv_aload_n (pc := 108) hx hb dL_acts_108 rfl (lv_at hl 6 rfl) ?_
        refine lv_iconst (pc := 109) (v := (3 : Int32)) hx hb dL_acts_109 (by decide) ?_
        obtain ⟨y101, hy101, h⟩ := bnd_ex h
        refine x_callVi (pc := 110) (st := .int (3 : Int32) :: .ref (ad 0) :: []) (As := [.int (3 : Int32)]) E hEx hl.1 hP hS (kX7_game hap  M _ _ hy101) gL_28 hdX7_game rfl (by decide) sh7 rfl ⟨Nat.le_of_ble_eq_true rfl, Nat.le_of_ble_eq_true rfl⟩ ⟨rfl, rfl⟩ dL_acts_110 rfl (Nat.le_of_ble_eq_true rfl) (fun H locs hP hS n102 => ?_)
        refine lv_istore (pc := 113) (lv' := [(11, .int y101), (8, .int y11), (7, .int y9), (6, .int (y7 / (2 : Int32))), (5, .int y5), (4, .int y3), (3, .int y1), (0, .ref (ad 0)), (1, .int x1), (2, .int x2)]) hx hb dL_acts_113 hl (by decide) rfl (fun ls hl => ?_)
        refine lv_aload_n (pc := 115) hx hb dL_acts_115 rfl (lv_at hl 7 rfl) ?_
        refine lv_bipush (pc := 116) (v := (13 : Int32)) hx hb dL_acts_116 (by decide) ?_
        obtain ⟨y103, hy103, h⟩ := bnd_ex h
        refine x_callVi (pc := 118) (st := .int (13 : Int32) :: .ref (ad 0) :: []) (As := [.int (13 : Int32)]) E hEx hl.1 hP hS (kX7_count hap  M _ _ hy103) gL_15 hdX7_count rfl (by decide) sh7 rfl ⟨Nat.le_of_ble_eq_true rfl, Nat.le_of_ble_eq_true rfl⟩ ⟨rfl, rfl⟩ dL_acts_118 rfl (Nat.le_of_ble_eq_true rfl) (fun H locs hP hS n104 => ?_)
        refine lv_istore (pc := 121) (lv' := [(12, .int y103), (11, .int y101), (8, .int y11), (7, .int y9), (6, .int (y7 / (2 : Int32))), (5, .int y5), (4, .int y3), (3, .int y1), (0, .ref (ad 0)), (1, .int x1), (2, .int x2)]) hx hb dL_acts_121 hl (by decide) rfl (fun ls hl => ?_)
        refine lv_aload_n (pc := 123) hx hb dL_acts_123 rfl (lv_at hl 8 rfl) ?_
        obtain ⟨q105, hq105, h⟩ := bnd_ex h
        refine x_callVi (pc := 124) (st := .ref (ad 0) :: []) (As := []) E hEx hl.1 hP hS (kX7_nudge hap  M  _ _ hq105) gL_83 hdX7_nudge rfl (by decide) sh7 rfl ⟨Nat.le_of_ble_eq_true rfl, Nat.le_of_ble_eq_true rfl⟩ ⟨rfl, rfl⟩ dL_acts_124 rfl (Nat.le_of_ble_eq_true rfl) (fun H locs hP hS n106 => ?_)
        refine lv_istore (pc := 127) (lv' := [(9, .int q105.1), (12, .int y103), (11, .int y101), (8, .int y11), (7, .int y9), (6, .int (y7 / (2 : Int32))), (5, .int y5), (4, .int y3), (3, .int y1), (0, .ref (ad 0)), (1, .int x1), (2, .int x2)]) hx hb dL_acts_127 hl (by decide) rfl (fun ls hl => ?_)
        refine lv_iload (pc := 129) hx hb dL_acts_129 (lv_at hl 2 rfl) ?_
        refine lv_iload (pc := 131) hx hb dL_acts_131 (lv_at hl 1 rfl) ?_
        refine lv_icmp_eq (pc := 133) (tgt := 143) hx hb dL_acts_133 (by decide) (fun c107 => ?_) (fun c107 => ?_)
        · have h := (if_pos c107).symm.trans h
          refine lv_iconst (pc := 143) (v := (0 : Int32)) hx hb dL_acts_143 (by decide) ?_
          refine lv_goto (pc := 144) (tgt := 148) hx hb dL_acts_144 (by decide) ?_
          refine lv_istore (pc := 148) (lv' := [(10, .int (0 : Int32)), (9, .int q105.1), (12, .int y103), (11, .int y101), (8, .int y11), (7, .int y9), (6, .int (y7 / (2 : Int32))), (5, .int y5), (4, .int y3), (3, .int y1), (0, .ref (ad 0)), (1, .int x1), (2, .int x2)]) hx hb dL_acts_148 hl (by decide) rfl (fun ls hl => ?_)
          exact hB150 q105.2 y3 y5 y9 y11 q105.1 (0 : Int32) y101 y103 _ _ _ h hP hS (lv_sub hl [10, 8, 7, 5, 4, 1, 0, 3, 2] rfl)
        · have h := (if_neg c107).symm.trans h
          refine lv_iload (pc := 136) hx hb dL_acts_136 (lv_at hl 4 rfl) ?_
          refine lv_bipush (pc := 138) (v := (-5 : Int32)) hx hb dL_acts_138 (by decide) ?_
          refine lv_icmp_ne (pc := 140) (tgt := 147) hx hb dL_acts_140 (by decide) (fun c112 => ?_) (fun c112 => ?_)
          · have h := (if_neg c112).symm.trans h
            refine lv_iconst (pc := 147) (v := (2 : Int32)) hx hb dL_acts_147 (by decide) ?_
            refine lv_istore (pc := 148) (lv' := [(10, .int (2 : Int32)), (9, .int q105.1), (12, .int y103), (11, .int y101), (8, .int y11), (7, .int y9), (6, .int (y7 / (2 : Int32))), (5, .int y5), (4, .int y3), (3, .int y1), (0, .ref (ad 0)), (1, .int x1), (2, .int x2)]) hx hb dL_acts_148 hl (by decide) rfl (fun ls hl => ?_)
            exact hB150 q105.2 y3 y5 y9 y11 q105.1 (2 : Int32) y101 y103 _ _ _ h hP hS (lv_sub hl [10, 8, 7, 5, 4, 1, 0, 3, 2] rfl)
          · have h := (if_pos c112).symm.trans h
            refine lv_iconst (pc := 143) (v := (0 : Int32)) hx hb dL_acts_143 (by decide) ?_
            refine lv_goto (pc := 144) (tgt := 148) hx hb dL_acts_144 (by decide) ?_
            refine lv_istore (pc := 148) (lv' := [(10, .int (0 : Int32)), (9, .int q105.1), (12, .int y103), (11, .int y101), (8, .int y11), (7, .int y9), (6, .int (y7 / (2 : Int32))), (5, .int y5), (4, .int y3), (3, .int y1), (0, .ref (ad 0)), (1, .int x1), (2, .int x2)]) hx hb dL_acts_148 hl (by decide) rfl (fun ls hl => ?_)
            exact hB150 q105.2 y3 y5 y9 y11 q105.1 (0 : Int32) y101 y103 _ _ _ h hP hS (lv_sub hl [10, 8, 7, 5, 4, 1, 0, 3, 2] rfl)
    · have h := (if_pos c14).symm.trans h
      refine lv_aload_n (pc := 76) hx hb dL_acts_76 rfl (lv_at hl 6 rfl) ?_
      refine lv_iconst (pc := 77) (v := (1 : Int32)) hx hb dL_acts_77 (by decide) ?_
      refine lv_iload_n (pc := 78) hx hb dL_acts_78 rfl (lv_at hl 8 rfl) ?_
      refine lv_bipush (pc := 79) (v := (9 : Int32)) hx hb dL_acts_79 (by decide) ?_
      obtain ⟨y113, hy113, h⟩ := bnd_ex h
      refine x_callSi (pc := 81) (st := .int (9 : Int32) :: .int x2 :: .int (1 : Int32) :: .ref (ad 0) :: []) (As := [.int x2, .int (9 : Int32)]) E hEx hl.1 hP hS (kL_low hap  M _ _ _ hy113) gL_54 hsL_low rfl ⟨Nat.le_of_ble_eq_true rfl, Nat.le_of_ble_eq_true rfl⟩ ⟨rfl, rfl⟩ dL_acts_81 rfl (Nat.le_of_ble_eq_true rfl) (fun H locs hP hS n114 => ?_)
      refine lv_iadd (pc := 84) hx hb dL_acts_84 ?_
      obtain ⟨q115, hq115, h⟩ := bnd_ex h
      refine x_callVi (pc := 85) (st := .int ((1 : Int32) + y113) :: .ref (ad 0) :: []) (As := [.int ((1 : Int32) + y113)]) E hEx hl.1 hP hS (kX7_rest hap  M _ _ _ hq115) gL_92 hdX7_rest rfl (by decide) sh7 rfl ⟨Nat.le_of_ble_eq_true rfl, Nat.le_of_ble_eq_true rfl⟩ ⟨rfl, rfl⟩ dL_acts_85 rfl (Nat.le_of_ble_eq_true rfl) (fun H locs hP hS n116 => ?_)
      refine lv_istore (pc := 88) (lv' := [(9, .int q115.1), (8, .int y11), (7, .int y9), (6, .int (y7 / (2 : Int32))), (5, .int y5), (4, .int y3), (3, .int y1), (0, .ref (ad 0)), (1, .int x1), (2, .int x2)]) hx hb dL_acts_88 hl (by decide) rfl (fun ls hl => ?_)
      refine lv_iconst (pc := 90) (v := (1 : Int32)) hx hb dL_acts_90 (by decide) ?_
      refine lv_iload_n (pc := 91) hx hb dL_acts_91 rfl (lv_at hl 9 rfl) ?_
      refine lv_bipush (pc := 92) (v := (9 : Int32)) hx hb dL_acts_92 (by decide) ?_
      obtain ⟨y117, hy117, h⟩ := bnd_ex h
      refine x_callSi (pc := 94) (st := .int (9 : Int32) :: .int x2 :: .int (1 : Int32) :: []) (As := [.int x2, .int (9 : Int32)]) E hEx hl.1 hP hS (kL_low hap  q115.2 _ _ _ hy117) gL_54 hsL_low rfl ⟨Nat.le_of_ble_eq_true rfl, Nat.le_of_ble_eq_true rfl⟩ ⟨rfl, rfl⟩ dL_acts_94 rfl (Nat.le_of_ble_eq_true rfl) (fun H locs hP hS n118 => ?_)
      refine lv_iadd (pc := 97) hx hb dL_acts_97 ?_
      refine lv_istore (pc := 98) (lv' := [(10, .int ((1 : Int32) + y117)), (9, .int q115.1), (8, .int y11), (7, .int y9), (6, .int (y7 / (2 : Int32))), (5, .int y5), (4, .int y3), (3, .int y1), (0, .ref (ad 0)), (1, .int x1), (2, .int x2)]) hx hb dL_acts_98 hl (by decide) rfl (fun ls hl => ?_)
      refine lv_goto (pc := 100) (tgt := 500) hx hb dL_acts_100 (by decide) ?_
      exact hB500 q115.2 y3 y5 y11 q115.1 ((1 : Int32) + y117) _ _ _ h hP hS (lv_sub hl [8, 6, 5, 2, 1, 0] rfl)
  · have h := (if_neg c13).symm.trans h
    refine lv_iload (pc := 49) hx hb dL_acts_49 (lv_at hl 1 rfl) ?_
    refine lv_bipush (pc := 51) (v := (-5 : Int32)) hx hb dL_acts_51 (by decide) ?_
    refine lv_icmp_eq (pc := 53) (tgt := 65) hx hb dL_acts_53 (by decide) (fun c119 => ?_) (fun c119 => ?_)
    · have h := (if_pos c119).symm.trans h
      refine lv_iconst (pc := 65) (v := (1 : Int32)) hx hb dL_acts_65 (by decide) ?_
      refine lv_goto (pc := 66) (tgt := 70) hx hb dL_acts_66 (by decide) ?_
      obtain ⟨rfl, rfl⟩ := som2 h
      exact x_iret E hP hS rfl dL_acts_70
    · have h := (if_neg c119).symm.trans h
      refine lv_aload_n (pc := 56) hx hb dL_acts_56 rfl (lv_at hl 6 rfl) ?_
      refine lv_iload (pc := 57) hx hb dL_acts_57 (lv_at hl 1 rfl) ?_
      obtain ⟨q120, hq120, h⟩ := bnd_ex h
      refine x_callSi (pc := 59) (st := .int y9 :: .ref (ad 0) :: []) (As := [.ref (ad 0), .int y9]) E hEx hl.1 hP hS (kL_does hap  M _ _ _ hq120) gL_89 hsL_does rfl ⟨Nat.le_of_ble_eq_true rfl, Nat.le_of_ble_eq_true rfl⟩ ⟨rfl, rfl⟩ dL_acts_59 rfl (Nat.le_of_ble_eq_true rfl) (fun H locs hP hS n121 => ?_)
      refine lv_if_eq (pc := 62) (tgt := 69) hx hb dL_acts_62 (by decide) (fun c122 => ?_) (fun c122 => ?_)
      · have h := (if_pos c122).symm.trans h
        refine lv_iconst (pc := 69) (v := (0 : Int32)) hx hb dL_acts_69 (by decide) ?_
        obtain ⟨rfl, rfl⟩ := som2 h
        exact x_iret E hP hS rfl dL_acts_70
      · have h := (if_neg c122).symm.trans h
        refine lv_iconst (pc := 65) (v := (1 : Int32)) hx hb dL_acts_65 (by decide) ?_
        refine lv_goto (pc := 66) (tgt := 70) hx hb dL_acts_66 (by decide) ?_
        obtain ⟨rfl, rfl⟩ := som2 h
        exact x_iret E hP hS rfl dL_acts_70
set_option maxRecDepth 100000 in
set_option maxHeartbeats 4000000 in
theorem kL_between (hap : Apart 78 ad)   (M : Mem) (x1 x2 : Int32) (v : Int32) (M' : Mem) (h : fL_between M x1 x2 = some (v, M')) : XI G ad sK sV cA cZ cC yL_between cL_between 11 .boolean ({ frames := 10, cells := 0, slots := 0, locals := 277 } : Room) [.ref (ad 0), .int x1, .int x2] M v M' := by
  refine CI.mk (own := RL) (ls0 := [(0, .ref (ad 0)), (1, .int x1), (2, .int x2)]) (by decide +kernel) rfl hap (Nat.le_of_ble_eq_true rfl) rfl ?_
  intro p l e s m args below meth c ls E hP hl
  have hx := E.1
  have hb := E.2.1
  have hown := E.2.2.2.2.2.1
  have hts := E.2.2.2.2.2.2.1
  have hNe := E.2.2.2.2.2.2.2.2.1.1
  have hEx := ExX.ok ad sK sV
  have hS : va_S (AW 78 ad) s.heap s.heap [] := va_S.rf
  have hB490 : ∀ (M : Mem) (x5 x7 : Int32) (H : Heap) (locs : List Loc) (ls : Array Slot), fL_between_B490 M x5 x7 = some (v, M') → va_P G vwCl (WW 78 (shX cA ad) ad M) H → va_S (AW 78 ad) s.heap H locs → lv_has ls 11 [(0, .ref (ad 0)), (5, .int x5), (7, .int x7)] → W p l e ({ frames := 10, cells := 0, slots := 0, locals := 277 } : Room) s m args below meth c H locs 0 0 (QI below G 78 (shX cA ad) ad .boolean args s v M') (F0 m 490 ls []) := by
    intro M x5 x7 H locs ls h hP hS hl
    unfold fL_between_B490 at h
    refine lv_iload (pc := 490) hx hb dL_between_490 (lv_at hl 2 rfl) ?_
    refine lv_iload (pc := 492) hx hb dL_between_492 (lv_at hl 1 rfl) ?_
    refine lv_bipush (pc := 494) (v := (8 : Int32)) hx hb dL_between_494 (by decide) ?_
    refine lv_icmp_ne (pc := 496) (tgt := 504) hx hb dL_between_496 (by decide) (fun c24 => ?_) (fun c24 => ?_)
    · have h := (if_neg c24).symm.trans h
      refine lv_iload (pc := 504) hx hb dL_between_504 (lv_at hl 1 rfl) ?_
      refine lv_iconst (pc := 506) (v := (1 : Int32)) hx hb dL_between_506 (by decide) ?_
      refine lv_iadd (pc := 507) hx hb dL_between_507 ?_
      refine lv_icmp_ne (pc := 508) (tgt := 522) hx hb dL_between_508 (by decide) (fun c25 => ?_) (fun c25 => ?_)
      · have h := (if_neg c25).symm.trans h
        refine lv_iconst (pc := 522) (v := (0 : Int32)) hx hb dL_between_522 (by decide) ?_
        obtain ⟨rfl, rfl⟩ := som2 h
        exact x_iret E hP hS rfl dL_between_523
      · have h := (if_pos c25).symm.trans h
        refine lv_aload_n (pc := 511) hx hb dL_between_511 rfl (lv_at hl 0 rfl) ?_
        obtain ⟨q26, hq26, h⟩ := bnd_ex h
        refine x_callVi (pc := 512) (st := .ref (ad 0) :: []) (As := []) E hEx hl.1 hP hS (kX7_startGame hap  M  _ _ hq26) gL_120 hdX7_startGame rfl (by decide) sh7 rfl ⟨Nat.le_of_ble_eq_true rfl, Nat.le_of_ble_eq_true rfl⟩ ⟨rfl, rfl⟩ dL_between_512 rfl (Nat.le_of_ble_eq_true rfl) (fun H locs hP hS n27 => ?_)
        refine lv_if_ge (pc := 515) (tgt := 522) hx hb dL_between_515 (by decide) (fun c28 => ?_) (fun c28 => ?_)
        · have h := (if_pos c28).symm.trans h
          refine lv_iconst (pc := 522) (v := (0 : Int32)) hx hb dL_between_522 (by decide) ?_
          obtain ⟨rfl, rfl⟩ := som2 h
          exact x_iret E hP hS rfl dL_between_523
        · have h := (if_neg c28).symm.trans h
          refine lv_iconst (pc := 518) (v := (1 : Int32)) hx hb dL_between_518 (by decide) ?_
          refine lv_goto (pc := 519) (tgt := 523) hx hb dL_between_519 (by decide) ?_
          obtain ⟨rfl, rfl⟩ := som2 h
          exact x_iret E hP hS rfl dL_between_523
    · have h := (if_pos c24).symm.trans h
      refine lv_bipush (pc := 499) (v := (-3 : Int32)) hx hb dL_between_499 (by decide) ?_
      refine lv_goto (pc := 501) (tgt := 508) hx hb dL_between_501 (by decide) ?_
      refine lv_icmp_ne (pc := 508) (tgt := 522) hx hb dL_between_508 (by decide) (fun c29 => ?_) (fun c29 => ?_)
      · have h := (if_neg c29).symm.trans h
        refine lv_iconst (pc := 522) (v := (0 : Int32)) hx hb dL_between_522 (by decide) ?_
        obtain ⟨rfl, rfl⟩ := som2 h
        exact x_iret E hP hS rfl dL_between_523
      · have h := (if_pos c29).symm.trans h
        refine lv_aload_n (pc := 511) hx hb dL_between_511 rfl (lv_at hl 0 rfl) ?_
        obtain ⟨q30, hq30, h⟩ := bnd_ex h
        refine x_callVi (pc := 512) (st := .ref (ad 0) :: []) (As := []) E hEx hl.1 hP hS (kX7_startGame hap  M  _ _ hq30) gL_120 hdX7_startGame rfl (by decide) sh7 rfl ⟨Nat.le_of_ble_eq_true rfl, Nat.le_of_ble_eq_true rfl⟩ ⟨rfl, rfl⟩ dL_between_512 rfl (Nat.le_of_ble_eq_true rfl) (fun H locs hP hS n31 => ?_)
        refine lv_if_ge (pc := 515) (tgt := 522) hx hb dL_between_515 (by decide) (fun c32 => ?_) (fun c32 => ?_)
        · have h := (if_pos c32).symm.trans h
          refine lv_iconst (pc := 522) (v := (0 : Int32)) hx hb dL_between_522 (by decide) ?_
          obtain ⟨rfl, rfl⟩ := som2 h
          exact x_iret E hP hS rfl dL_between_523
        · have h := (if_neg c32).symm.trans h
          refine lv_iconst (pc := 518) (v := (1 : Int32)) hx hb dL_between_518 (by decide) ?_
          refine lv_goto (pc := 519) (tgt := 523) hx hb dL_between_519 (by decide) ?_
          obtain ⟨rfl, rfl⟩ := som2 h
          exact x_iret E hP hS rfl dL_between_523
  have hB416 : ∀ (M : Mem) (x1 x4 x5 x6 : Int32) (H : Heap) (locs : List Loc) (ls : Array Slot), fL_between_B416 M x1 x4 x5 x6 = some (v, M') → va_P G vwCl (WW 78 (shX cA ad) ad M) H → va_S (AW 78 ad) s.heap H locs → lv_has ls 11 [(0, .ref (ad 0)), (1, .int x1), (4, .int x4), (5, .int x5), (6, .int x6)] → W p l e ({ frames := 10, cells := 0, slots := 0, locals := 277 } : Room) s m args below meth c H locs 0 0 (QI below G 78 (shX cA ad) ad .boolean args s v M') (F0 m 416 ls []) := by
    intro M x1 x4 x5 x6 H locs ls h hP hS hl
    unfold fL_between_B416 at h
    refine lv_aload_n (pc := 416) hx hb dL_between_416 rfl (lv_at hl 0 rfl) ?_
    refine lv_iconst (pc := 417) (v := (1 : Int32)) hx hb dL_between_417 (by decide) ?_
    refine lv_iload_n (pc := 418) hx hb dL_between_418 rfl (lv_at hl 1 rfl) ?_
    refine lv_iconst (pc := 419) (v := (3 : Int32)) hx hb dL_between_419 (by decide) ?_
    refine lv_ishr (pc := 420) hx hb dL_between_420 ?_
    refine lv_bipush (pc := 421) (v := (6 : Int32)) hx hb dL_between_421 (by decide) ?_
    obtain ⟨y18, hy18, h⟩ := bnd_ex h
    refine x_callSi (pc := 423) (st := .int (6 : Int32) :: .int (x1 >>> ((3 : Int32) &&& 31)) :: .int (1 : Int32) :: .ref (ad 0) :: []) (As := [.int (x1 >>> ((3 : Int32) &&& 31)), .int (6 : Int32)]) E hEx hl.1 hP hS (kL_low hap  M _ _ _ hy18) gL_54 hsL_low rfl ⟨Nat.le_of_ble_eq_true rfl, Nat.le_of_ble_eq_true rfl⟩ ⟨rfl, rfl⟩ dL_between_423 rfl (Nat.le_of_ble_eq_true rfl) (fun H locs hP hS n19 => ?_)
    refine lv_iadd (pc := 426) hx hb dL_between_426 ?_
    refine lv_iload (pc := 427) hx hb dL_between_427 (lv_at hl 4 rfl) ?_
    obtain ⟨q20, hq20, h⟩ := bnd_ex h
    refine x_callVi (pc := 429) (st := .int x6 :: .int ((1 : Int32) + y18) :: .ref (ad 0) :: []) (As := [.int ((1 : Int32) + y18), .int x6]) E hEx hl.1 hP hS (kX7_book hap  M _ _ _ _ hq20) gL_117 hdX7_book rfl (by decide) sh7 rfl ⟨Nat.le_of_ble_eq_true rfl, Nat.le_of_ble_eq_true rfl⟩ ⟨rfl, rfl⟩ dL_between_429 rfl (Nat.le_of_ble_eq_true rfl) (fun H locs hP hS n21 => ?_)
    refine lv_istore (pc := 432) (lv' := [(7, .int q20.1), (0, .ref (ad 0)), (1, .int x1), (4, .int x4), (5, .int x5), (6, .int x6)]) hx hb dL_between_432 hl (by decide) rfl (fun ls hl => ?_)
    refine lv_iload (pc := 434) hx hb dL_between_434 (lv_at hl 0 rfl) ?_
    refine lv_iload (pc := 436) hx hb dL_between_436 (lv_at hl 4 rfl) ?_
    refine lv_bipush (pc := 438) (v := (8 : Int32)) hx hb dL_between_438 (by decide) ?_
    refine lv_icmp_ne (pc := 440) (tgt := 448) hx hb dL_between_440 (by decide) (fun c22 => ?_) (fun c22 => ?_)
    · have h := (if_neg c22).symm.trans h
      refine lv_iload (pc := 448) hx hb dL_between_448 (lv_at hl 4 rfl) ?_
      refine lv_iconst (pc := 450) (v := (1 : Int32)) hx hb dL_between_450 (by decide) ?_
      refine lv_iadd (pc := 451) hx hb dL_between_451 ?_
      refine lv_icmp_ne (pc := 452) (tgt := 490) hx hb dL_between_452 (by decide) (fun c23 => ?_) (fun c23 => ?_)
      · have h := (if_neg c23).symm.trans h
        exact hB490 q20.2 x5 q20.1 _ _ _ h hP hS (lv_sub hl [1, 4, 0] rfl)
      · have h := (if_pos c23).symm.trans h
        refine lv_aload_n (pc := 455) hx hb dL_between_455 rfl (lv_at hl 1 rfl) ?_
        refine lv_bipush (pc := 456) (v := (9 : Int32)) hx hb dL_between_456 (by decide) ?_
        obtain ⟨y33, hy33, h⟩ := bnd_ex h
        refine x_callVi (pc := 458) (st := .int (9 : Int32) :: .ref (ad 0) :: []) (As := [.int (9 : Int32)]) E hEx hl.1 hP hS (kX7_count hap  q20.2 _ _ hy33) gL_15 hdX7_count rfl (by decide) sh7 rfl ⟨Nat.le_of_ble_eq_true rfl, Nat.le_of_ble_eq_true rfl⟩ ⟨rfl, rfl⟩ dL_between_458 rfl (Nat.le_of_ble_eq_true rfl) (fun H locs hP hS n34 => ?_)
        refine lv_if_lt (pc := 461) (tgt := 490) hx hb dL_between_461 (by decide) (fun c35 => ?_) (fun c35 => ?_)
        · have h := (if_pos c35).symm.trans h
          exact hB490 q20.2 x5 q20.1 _ _ _ h hP hS (lv_sub hl [1, 4, 0] rfl)
        · have h := (if_neg c35).symm.trans h
          refine lv_aload_n (pc := 464) hx hb dL_between_464 rfl (lv_at hl 1 rfl) ?_
          refine lv_aload_n (pc := 465) hx hb dL_between_465 rfl (lv_at hl 1 rfl) ?_
          refine lv_bipush (pc := 466) (v := (9 : Int32)) hx hb dL_between_466 (by decide) ?_
          obtain ⟨y36, hy36, h⟩ := bnd_ex h
          refine x_callVi (pc := 468) (st := .int (9 : Int32) :: .ref (ad 0) :: .ref (ad 0) :: []) (As := [.int (9 : Int32)]) E hEx hl.1 hP hS (kX7_count hap  q20.2 _ _ hy36) gL_15 hdX7_count rfl (by decide) sh7 rfl ⟨Nat.le_of_ble_eq_true rfl, Nat.le_of_ble_eq_true rfl⟩ ⟨rfl, rfl⟩ dL_between_468 rfl (Nat.le_of_ble_eq_true rfl) (fun H locs hP hS n37 => ?_)
          refine lv_iconst (pc := 471) (v := (2 : Int32)) hx hb dL_between_471 (by decide) ?_
          obtain ⟨y38, hy38, h⟩ := bnd_ex h
          refine x_callVi (pc := 472) (st := .int (2 : Int32) :: .int y36 :: .ref (ad 0) :: []) (As := [.int y36, .int (2 : Int32)]) E hEx hl.1 hP hS (kX7_box hap  q20.2 _ _ _ hy38) gL_9 hdX7_box rfl (by decide) sh7 rfl ⟨Nat.le_of_ble_eq_true rfl, Nat.le_of_ble_eq_true rfl⟩ ⟨rfl, rfl⟩ dL_between_472 rfl (Nat.le_of_ble_eq_true rfl) (fun H locs hP hS n39 => ?_)
          refine lv_iconst (pc := 475) (v := (1 : Int32)) hx hb dL_between_475 (by decide) ?_
          refine lv_icmp_eq (pc := 476) (tgt := 490) hx hb dL_between_476 (by decide) (fun c40 => ?_) (fun c40 => ?_)
          · have h := (if_pos c40).symm.trans h
            exact hB490 q20.2 x5 q20.1 _ _ _ h hP hS (lv_sub hl [1, 4, 0] rfl)
          · have h := (if_neg c40).symm.trans h
            refine lv_aload_n (pc := 479) hx hb dL_between_479 rfl (lv_at hl 1 rfl) ?_
            refine lv_bipush (pc := 480) (v := (7 : Int32)) hx hb dL_between_480 (by decide) ?_
            obtain ⟨y41, hy41, h⟩ := bnd_ex h
            refine x_callVi (pc := 482) (st := .int (7 : Int32) :: .ref (ad 0) :: []) (As := [.int (7 : Int32)]) E hEx hl.1 hP hS (kX7_count hap  q20.2 _ _ hy41) gL_15 hdX7_count rfl (by decide) sh7 rfl ⟨Nat.le_of_ble_eq_true rfl, Nat.le_of_ble_eq_true rfl⟩ ⟨rfl, rfl⟩ dL_between_482 rfl (Nat.le_of_ble_eq_true rfl) (fun H locs hP hS n42 => ?_)
            refine lv_bipush (pc := 485) (v := (30 : Int32)) hx hb dL_between_485 (by decide) ?_
            refine lv_icmp_ne (pc := 487) (tgt := 524) hx hb dL_between_487 (by decide) (fun c43 => ?_) (fun c43 => ?_)
            · have h := (if_neg c43).symm.trans h
              refine lv_aload_n (pc := 524) hx hb dL_between_524 rfl (lv_at hl 1 rfl) ?_
              refine lv_iconst (pc := 525) (v := (0 : Int32)) hx hb dL_between_525 (by decide) ?_
              refine lv_iconst (pc := 526) (v := (1 : Int32)) hx hb dL_between_526 (by decide) ?_
              obtain ⟨y44, hy44, h⟩ := bnd_ex h
              refine x_callVi (pc := 527) (st := .int (1 : Int32) :: .int (0 : Int32) :: .ref (ad 0) :: []) (As := [.int (0 : Int32), .int (1 : Int32)]) E hEx hl.1 hP hS (kX7_group hap  q20.2 _ _ _ hy44) gL_37 hdX7_group rfl (by decide) sh7 rfl ⟨Nat.le_of_ble_eq_true rfl, Nat.le_of_ble_eq_true rfl⟩ ⟨rfl, rfl⟩ dL_between_527 rfl (Nat.le_of_ble_eq_true rfl) (fun H locs hP hS n45 => ?_)
              refine lv_istore (pc := 530) (lv' := [(8, .int y44), (7, .int q20.1), (0, .ref (ad 0)), (1, .int x1), (4, .int x4), (5, .int x5), (6, .int x6)]) hx hb dL_between_530 hl (by decide) rfl (fun ls hl => ?_)
              refine lv_iload (pc := 532) hx hb dL_between_532 (lv_at hl 4 rfl) ?_
              refine lv_iload (pc := 534) hx hb dL_between_534 (lv_at hl 0 rfl) ?_
              refine x_callSi (pc := 536) (st := .int y44 :: .int x4 :: []) (As := [.int x4, .int y44]) E hEx hl.1 hP hS (kL_max hap  q20.2 _ _ _ rfl) gL_40 hsL_max rfl ⟨Nat.le_of_ble_eq_true rfl, Nat.le_of_ble_eq_true rfl⟩ ⟨rfl, rfl⟩ dL_between_536 rfl (Nat.le_of_ble_eq_true rfl) (fun H locs hP hS n46 => ?_)
              refine lv_istore (pc := 539) (lv' := [(9, .int (fL_max q20.2 x4 y44)), (8, .int y44), (7, .int q20.1), (0, .ref (ad 0)), (1, .int x1), (4, .int x4), (5, .int x5), (6, .int x6)]) hx hb dL_between_539 hl (by decide) rfl (fun ls hl => ?_)
              refine lv_aload_n (pc := 541) hx hb dL_between_541 rfl (lv_at hl 3 rfl) ?_
              refine lv_iconst (pc := 542) (v := (0 : Int32)) hx hb dL_between_542 (by decide) ?_
              obtain ⟨y47, hy47, h⟩ := bnd_ex h
              refine x_callVi (pc := 543) (st := .int (0 : Int32) :: .ref (ad 0) :: []) (As := [.int (0 : Int32)]) E hEx hl.1 hP hS (kX7_differences hap  q20.2 _ _ hy47) gL_31 hdX7_differences rfl (by decide) sh7 rfl ⟨Nat.le_of_ble_eq_true rfl, Nat.le_of_ble_eq_true rfl⟩ ⟨rfl, rfl⟩ dL_between_543 rfl (Nat.le_of_ble_eq_true rfl) (fun H locs hP hS n48 => ?_)
              refine lv_aload_n (pc := 546) hx hb dL_between_546 rfl (lv_at hl 3 rfl) ?_
              refine lv_iconst (pc := 547) (v := (1 : Int32)) hx hb dL_between_547 (by decide) ?_
              obtain ⟨y49, hy49, h⟩ := bnd_ex h
              refine x_callVi (pc := 548) (st := .int (1 : Int32) :: .ref (ad 0) :: .int y47 :: []) (As := [.int (1 : Int32)]) E hEx hl.1 hP hS (kX7_differences hap  q20.2 _ _ hy49) gL_31 hdX7_differences rfl (by decide) sh7 rfl ⟨Nat.le_of_ble_eq_true rfl, Nat.le_of_ble_eq_true rfl⟩ ⟨rfl, rfl⟩ dL_between_548 rfl (Nat.le_of_ble_eq_true rfl) (fun H locs hP hS n50 => ?_)
              refine lv_iadd (pc := 551) hx hb dL_between_551 ?_
              refine lv_istore (pc := 552) (lv' := [(10, .int (y47 + y49)), (9, .int (fL_max q20.2 x4 y44)), (8, .int y44), (7, .int q20.1), (0, .ref (ad 0)), (1, .int x1), (4, .int x4), (5, .int x5), (6, .int x6)]) hx hb dL_between_552 hl (by decide) rfl (fun ls hl => ?_)
              refine lv_aload_n (pc := 554) hx hb dL_between_554 rfl (lv_at hl 4 rfl) ?_
              obtain ⟨q51, hq51, h⟩ := bnd_ex h
              refine x_callVi (pc := 555) (st := .ref (ad 0) :: []) (As := []) E hEx hl.1 hP hS (kX7_startGame hap  q20.2  _ _ hq51) gL_120 hdX7_startGame rfl (by decide) sh7 rfl ⟨Nat.le_of_ble_eq_true rfl, Nat.le_of_ble_eq_true rfl⟩ ⟨rfl, rfl⟩ dL_between_555 rfl (Nat.le_of_ble_eq_true rfl) (fun H locs hP hS n52 => ?_)
              refine lv_iload (pc := 558) hx hb dL_between_558 (lv_at hl 1 rfl) ?_
              refine lv_iload (pc := 560) hx hb dL_between_560 (lv_at hl 2 rfl) ?_
              refine lv_isub (pc := 562) hx hb dL_between_562 ?_
              refine lv_icmp_ne (pc := 563) (tgt := 639) hx hb dL_between_563 (by decide) (fun c53 => ?_) (fun c53 => ?_)
              · have h := (if_neg c53).symm.trans h
                refine lv_iconst (pc := 639) (v := (0 : Int32)) hx hb dL_between_639 (by decide) ?_
                obtain ⟨rfl, rfl⟩ := som2 h
                exact x_iret E hP hS rfl dL_between_640
              · have h := (if_pos c53).symm.trans h
                refine lv_aload_n (pc := 566) hx hb dL_between_566 rfl (lv_at hl 4 rfl) ?_
                refine lv_bipush (pc := 567) (v := (14 : Int32)) hx hb dL_between_567 (by decide) ?_
                obtain ⟨y54, hy54, h⟩ := bnd_ex h
                refine x_callVi (pc := 569) (st := .int (14 : Int32) :: .ref (ad 0) :: []) (As := [.int (14 : Int32)]) E hEx hl.1 hP hS (kX7_count hap  q51.2 _ _ hy54) gL_15 hdX7_count rfl (by decide) sh7 rfl ⟨Nat.le_of_ble_eq_true rfl, Nat.le_of_ble_eq_true rfl⟩ ⟨rfl, rfl⟩ dL_between_569 rfl (Nat.le_of_ble_eq_true rfl) (fun H locs hP hS n55 => ?_)
                refine lv_iconst (pc := 572) (v := (1 : Int32)) hx hb dL_between_572 (by decide) ?_
                refine lv_icmp_ne (pc := 573) (tgt := 639) hx hb dL_between_573 (by decide) (fun c56 => ?_) (fun c56 => ?_)
                · have h := (if_neg c56).symm.trans h
                  refine lv_iconst (pc := 639) (v := (0 : Int32)) hx hb dL_between_639 (by decide) ?_
                  obtain ⟨rfl, rfl⟩ := som2 h
                  exact x_iret E hP hS rfl dL_between_640
                · have h := (if_pos c56).symm.trans h
                  refine lv_aload_n (pc := 576) hx hb dL_between_576 rfl (lv_at hl 4 rfl) ?_
                  refine lv_iconst (pc := 577) (v := (1 : Int32)) hx hb dL_between_577 (by decide) ?_
                  obtain ⟨y57, hy57, h⟩ := bnd_ex h
                  refine x_callVi (pc := 578) (st := .int (1 : Int32) :: .ref (ad 0) :: []) (As := [.int (1 : Int32)]) E hEx hl.1 hP hS (kX7_game hap  q51.2 _ _ hy57) gL_28 hdX7_game rfl (by decide) sh7 rfl ⟨Nat.le_of_ble_eq_true rfl, Nat.le_of_ble_eq_true rfl⟩ ⟨rfl, rfl⟩ dL_between_578 rfl (Nat.le_of_ble_eq_true rfl) (fun H locs hP hS n58 => ?_)
                  refine lv_iload (pc := 581) hx hb dL_between_581 (lv_at hl 1 rfl) ?_
                  refine lv_icmp_ne (pc := 583) (tgt := 639) hx hb dL_between_583 (by decide) (fun c59 => ?_) (fun c59 => ?_)
                  · have h := (if_neg c59).symm.trans h
                    refine lv_iconst (pc := 639) (v := (0 : Int32)) hx hb dL_between_639 (by decide) ?_
                    obtain ⟨rfl, rfl⟩ := som2 h
                    exact x_iret E hP hS rfl dL_between_640
                  · have h := (if_pos c59).symm.trans h
                    refine lv_aload_n (pc := 586) hx hb dL_between_586 rfl (lv_at hl 4 rfl) ?_
                    refine lv_iconst (pc := 587) (v := (5 : Int32)) hx hb dL_between_587 (by decide) ?_
                    obtain ⟨y60, hy60, h⟩ := bnd_ex h
                    refine x_callVi (pc := 588) (st := .int (5 : Int32) :: .ref (ad 0) :: []) (As := [.int (5 : Int32)]) E hEx hl.1 hP hS (kX7_count hap  q51.2 _ _ hy60) gL_15 hdX7_count rfl (by decide) sh7 rfl ⟨Nat.le_of_ble_eq_true rfl, Nat.le_of_ble_eq_true rfl⟩ ⟨rfl, rfl⟩ dL_between_588 rfl (Nat.le_of_ble_eq_true rfl) (fun H locs hP hS n61 => ?_)
                    refine lv_iload (pc := 591) hx hb dL_between_591 (lv_at hl 1 rfl) ?_
                    refine lv_icmp_ne (pc := 593) (tgt := 639) hx hb dL_between_593 (by decide) (fun c62 => ?_) (fun c62 => ?_)
                    · have h := (if_neg c62).symm.trans h
                      refine lv_iconst (pc := 639) (v := (0 : Int32)) hx hb dL_between_639 (by decide) ?_
                      obtain ⟨rfl, rfl⟩ := som2 h
                      exact x_iret E hP hS rfl dL_between_640
                    · have h := (if_pos c62).symm.trans h
                      refine lv_aload_n (pc := 596) hx hb dL_between_596 rfl (lv_at hl 4 rfl) ?_
                      refine lv_iconst (pc := 597) (v := (0 : Int32)) hx hb dL_between_597 (by decide) ?_
                      obtain ⟨y63, hy63, h⟩ := bnd_ex h
                      refine x_callVi (pc := 598) (st := .int (0 : Int32) :: .ref (ad 0) :: []) (As := [.int (0 : Int32)]) E hEx hl.1 hP hS (kX7_differences hap  q51.2 _ _ hy63) gL_31 hdX7_differences rfl (by decide) sh7 rfl ⟨Nat.le_of_ble_eq_true rfl, Nat.le_of_ble_eq_true rfl⟩ ⟨rfl, rfl⟩ dL_between_598 rfl (Nat.le_of_ble_eq_true rfl) (fun H locs hP hS n64 => ?_)
                      refine lv_aload_n (pc := 601) hx hb dL_between_601 rfl (lv_at hl 4 rfl) ?_
                      refine lv_iconst (pc := 602) (v := (1 : Int32)) hx hb dL_between_602 (by decide) ?_
                      obtain ⟨y65, hy65, h⟩ := bnd_ex h
                      refine x_callVi (pc := 603) (st := .int (1 : Int32) :: .ref (ad 0) :: .int y63 :: []) (As := [.int (1 : Int32)]) E hEx hl.1 hP hS (kX7_differences hap  q51.2 _ _ hy65) gL_31 hdX7_differences rfl (by decide) sh7 rfl ⟨Nat.le_of_ble_eq_true rfl, Nat.le_of_ble_eq_true rfl⟩ ⟨rfl, rfl⟩ dL_between_603 rfl (Nat.le_of_ble_eq_true rfl) (fun H locs hP hS n66 => ?_)
                      refine lv_iadd (pc := 606) hx hb dL_between_606 ?_
                      refine lv_iload (pc := 607) hx hb dL_between_607 (lv_at hl 0 rfl) ?_
                      refine lv_icmp_ne (pc := 609) (tgt := 639) hx hb dL_between_609 (by decide) (fun c67 => ?_) (fun c67 => ?_)
                      · have h := (if_neg c67).symm.trans h
                        refine lv_iconst (pc := 639) (v := (0 : Int32)) hx hb dL_between_639 (by decide) ?_
                        obtain ⟨rfl, rfl⟩ := som2 h
                        exact x_iret E hP hS rfl dL_between_640
                      · have h := (if_pos c67).symm.trans h
                        refine lv_aload_n (pc := 612) hx hb dL_between_612 rfl (lv_at hl 4 rfl) ?_
                        refine lv_bipush (pc := 613) (v := (10 : Int32)) hx hb dL_between_613 (by decide) ?_
                        obtain ⟨y68, hy68, h⟩ := bnd_ex h
                        refine x_callVi (pc := 615) (st := .int (10 : Int32) :: .ref (ad 0) :: []) (As := [.int (10 : Int32)]) E hEx hl.1 hP hS (kX7_count hap  q51.2 _ _ hy68) gL_15 hdX7_count rfl (by decide) sh7 rfl ⟨Nat.le_of_ble_eq_true rfl, Nat.le_of_ble_eq_true rfl⟩ ⟨rfl, rfl⟩ dL_between_615 rfl (Nat.le_of_ble_eq_true rfl) (fun H locs hP hS n69 => ?_)
                        refine lv_if_ne (pc := 618) (tgt := 639) hx hb dL_between_618 (by decide) (fun c70 => ?_) (fun c70 => ?_)
                        · have h := (if_neg c70).symm.trans h
                          refine lv_iconst (pc := 639) (v := (0 : Int32)) hx hb dL_between_639 (by decide) ?_
                          obtain ⟨rfl, rfl⟩ := som2 h
                          exact x_iret E hP hS rfl dL_between_640
                        · have h := (if_pos c70).symm.trans h
                          refine lv_aload_n (pc := 621) hx hb dL_between_621 rfl (lv_at hl 4 rfl) ?_
                          refine lv_iconst (pc := 622) (v := (2 : Int32)) hx hb dL_between_622 (by decide) ?_
                          obtain ⟨y71, hy71, h⟩ := bnd_ex h
                          refine x_callVi (pc := 623) (st := .int (2 : Int32) :: .ref (ad 0) :: []) (As := [.int (2 : Int32)]) E hEx hl.1 hP hS (kX7_game hap  q51.2 _ _ hy71) gL_28 hdX7_game rfl (by decide) sh7 rfl ⟨Nat.le_of_ble_eq_true rfl, Nat.le_of_ble_eq_true rfl⟩ ⟨rfl, rfl⟩ dL_between_623 rfl (Nat.le_of_ble_eq_true rfl) (fun H locs hP hS n72 => ?_)
                          refine lv_aload_n (pc := 626) hx hb dL_between_626 rfl (lv_at hl 4 rfl) ?_
                          refine lv_bipush (pc := 627) (v := (12 : Int32)) hx hb dL_between_627 (by decide) ?_
                          obtain ⟨y73, hy73, h⟩ := bnd_ex h
                          refine x_callVi (pc := 629) (st := .int (12 : Int32) :: .ref (ad 0) :: .int y71 :: []) (As := [.int (12 : Int32)]) E hEx hl.1 hP hS (kX7_count hap  q51.2 _ _ hy73) gL_15 hdX7_count rfl (by decide) sh7 rfl ⟨Nat.le_of_ble_eq_true rfl, Nat.le_of_ble_eq_true rfl⟩ ⟨rfl, rfl⟩ dL_between_629 rfl (Nat.le_of_ble_eq_true rfl) (fun H locs hP hS n74 => ?_)
                          refine lv_icmp_ne (pc := 632) (tgt := 639) hx hb dL_between_632 (by decide) (fun c75 => ?_) (fun c75 => ?_)
                          · have h := (if_neg c75).symm.trans h
                            refine lv_iconst (pc := 639) (v := (0 : Int32)) hx hb dL_between_639 (by decide) ?_
                            obtain ⟨rfl, rfl⟩ := som2 h
                            exact x_iret E hP hS rfl dL_between_640
                          · have h := (if_pos c75).symm.trans h
                            refine lv_iconst (pc := 635) (v := (1 : Int32)) hx hb dL_between_635 (by decide) ?_
                            refine lv_goto (pc := 636) (tgt := 640) hx hb dL_between_636 (by decide) ?_
                            obtain ⟨rfl, rfl⟩ := som2 h
                            exact x_iret E hP hS rfl dL_between_640
            · have h := (if_pos c43).symm.trans h
              exact hB490 q20.2 x5 q20.1 _ _ _ h hP hS (lv_sub hl [1, 4, 0] rfl)
    · have h := (if_pos c22).symm.trans h
      refine lv_bipush (pc := 443) (v := (-3 : Int32)) hx hb dL_between_443 (by decide) ?_
      refine lv_goto (pc := 445) (tgt := 452) hx hb dL_between_445 (by decide) ?_
      refine lv_icmp_ne (pc := 452) (tgt := 490) hx hb dL_between_452 (by decide) (fun c76 => ?_) (fun c76 => ?_)
      · have h := (if_neg c76).symm.trans h
        exact hB490 q20.2 x5 q20.1 _ _ _ h hP hS (lv_sub hl [1, 4, 0] rfl)
      · have h := (if_pos c76).symm.trans h
        refine lv_aload_n (pc := 455) hx hb dL_between_455 rfl (lv_at hl 1 rfl) ?_
        refine lv_bipush (pc := 456) (v := (9 : Int32)) hx hb dL_between_456 (by decide) ?_
        obtain ⟨y77, hy77, h⟩ := bnd_ex h
        refine x_callVi (pc := 458) (st := .int (9 : Int32) :: .ref (ad 0) :: []) (As := [.int (9 : Int32)]) E hEx hl.1 hP hS (kX7_count hap  q20.2 _ _ hy77) gL_15 hdX7_count rfl (by decide) sh7 rfl ⟨Nat.le_of_ble_eq_true rfl, Nat.le_of_ble_eq_true rfl⟩ ⟨rfl, rfl⟩ dL_between_458 rfl (Nat.le_of_ble_eq_true rfl) (fun H locs hP hS n78 => ?_)
        refine lv_if_lt (pc := 461) (tgt := 490) hx hb dL_between_461 (by decide) (fun c79 => ?_) (fun c79 => ?_)
        · have h := (if_pos c79).symm.trans h
          exact hB490 q20.2 x5 q20.1 _ _ _ h hP hS (lv_sub hl [1, 4, 0] rfl)
        · have h := (if_neg c79).symm.trans h
          refine lv_aload_n (pc := 464) hx hb dL_between_464 rfl (lv_at hl 1 rfl) ?_
          refine lv_aload_n (pc := 465) hx hb dL_between_465 rfl (lv_at hl 1 rfl) ?_
          refine lv_bipush (pc := 466) (v := (9 : Int32)) hx hb dL_between_466 (by decide) ?_
          obtain ⟨y80, hy80, h⟩ := bnd_ex h
          refine x_callVi (pc := 468) (st := .int (9 : Int32) :: .ref (ad 0) :: .ref (ad 0) :: []) (As := [.int (9 : Int32)]) E hEx hl.1 hP hS (kX7_count hap  q20.2 _ _ hy80) gL_15 hdX7_count rfl (by decide) sh7 rfl ⟨Nat.le_of_ble_eq_true rfl, Nat.le_of_ble_eq_true rfl⟩ ⟨rfl, rfl⟩ dL_between_468 rfl (Nat.le_of_ble_eq_true rfl) (fun H locs hP hS n81 => ?_)
          refine lv_iconst (pc := 471) (v := (2 : Int32)) hx hb dL_between_471 (by decide) ?_
          obtain ⟨y82, hy82, h⟩ := bnd_ex h
          refine x_callVi (pc := 472) (st := .int (2 : Int32) :: .int y80 :: .ref (ad 0) :: []) (As := [.int y80, .int (2 : Int32)]) E hEx hl.1 hP hS (kX7_box hap  q20.2 _ _ _ hy82) gL_9 hdX7_box rfl (by decide) sh7 rfl ⟨Nat.le_of_ble_eq_true rfl, Nat.le_of_ble_eq_true rfl⟩ ⟨rfl, rfl⟩ dL_between_472 rfl (Nat.le_of_ble_eq_true rfl) (fun H locs hP hS n83 => ?_)
          refine lv_iconst (pc := 475) (v := (1 : Int32)) hx hb dL_between_475 (by decide) ?_
          refine lv_icmp_eq (pc := 476) (tgt := 490) hx hb dL_between_476 (by decide) (fun c84 => ?_) (fun c84 => ?_)
          · have h := (if_pos c84).symm.trans h
            exact hB490 q20.2 x5 q20.1 _ _ _ h hP hS (lv_sub hl [1, 4, 0] rfl)
          · have h := (if_neg c84).symm.trans h
            refine lv_aload_n (pc := 479) hx hb dL_between_479 rfl (lv_at hl 1 rfl) ?_
            refine lv_bipush (pc := 480) (v := (7 : Int32)) hx hb dL_between_480 (by decide) ?_
            obtain ⟨y85, hy85, h⟩ := bnd_ex h
            refine x_callVi (pc := 482) (st := .int (7 : Int32) :: .ref (ad 0) :: []) (As := [.int (7 : Int32)]) E hEx hl.1 hP hS (kX7_count hap  q20.2 _ _ hy85) gL_15 hdX7_count rfl (by decide) sh7 rfl ⟨Nat.le_of_ble_eq_true rfl, Nat.le_of_ble_eq_true rfl⟩ ⟨rfl, rfl⟩ dL_between_482 rfl (Nat.le_of_ble_eq_true rfl) (fun H locs hP hS n86 => ?_)
            refine lv_bipush (pc := 485) (v := (30 : Int32)) hx hb dL_between_485 (by decide) ?_
            refine lv_icmp_ne (pc := 487) (tgt := 524) hx hb dL_between_487 (by decide) (fun c87 => ?_) (fun c87 => ?_)
            · have h := (if_neg c87).symm.trans h
              refine lv_aload_n (pc := 524) hx hb dL_between_524 rfl (lv_at hl 1 rfl) ?_
              refine lv_iconst (pc := 525) (v := (0 : Int32)) hx hb dL_between_525 (by decide) ?_
              refine lv_iconst (pc := 526) (v := (1 : Int32)) hx hb dL_between_526 (by decide) ?_
              obtain ⟨y88, hy88, h⟩ := bnd_ex h
              refine x_callVi (pc := 527) (st := .int (1 : Int32) :: .int (0 : Int32) :: .ref (ad 0) :: []) (As := [.int (0 : Int32), .int (1 : Int32)]) E hEx hl.1 hP hS (kX7_group hap  q20.2 _ _ _ hy88) gL_37 hdX7_group rfl (by decide) sh7 rfl ⟨Nat.le_of_ble_eq_true rfl, Nat.le_of_ble_eq_true rfl⟩ ⟨rfl, rfl⟩ dL_between_527 rfl (Nat.le_of_ble_eq_true rfl) (fun H locs hP hS n89 => ?_)
              refine lv_istore (pc := 530) (lv' := [(8, .int y88), (7, .int q20.1), (0, .ref (ad 0)), (1, .int x1), (4, .int x4), (5, .int x5), (6, .int x6)]) hx hb dL_between_530 hl (by decide) rfl (fun ls hl => ?_)
              refine lv_iload (pc := 532) hx hb dL_between_532 (lv_at hl 4 rfl) ?_
              refine lv_iload (pc := 534) hx hb dL_between_534 (lv_at hl 0 rfl) ?_
              refine x_callSi (pc := 536) (st := .int y88 :: .int x4 :: []) (As := [.int x4, .int y88]) E hEx hl.1 hP hS (kL_max hap  q20.2 _ _ _ rfl) gL_40 hsL_max rfl ⟨Nat.le_of_ble_eq_true rfl, Nat.le_of_ble_eq_true rfl⟩ ⟨rfl, rfl⟩ dL_between_536 rfl (Nat.le_of_ble_eq_true rfl) (fun H locs hP hS n90 => ?_)
              refine lv_istore (pc := 539) (lv' := [(9, .int (fL_max q20.2 x4 y88)), (8, .int y88), (7, .int q20.1), (0, .ref (ad 0)), (1, .int x1), (4, .int x4), (5, .int x5), (6, .int x6)]) hx hb dL_between_539 hl (by decide) rfl (fun ls hl => ?_)
              refine lv_aload_n (pc := 541) hx hb dL_between_541 rfl (lv_at hl 3 rfl) ?_
              refine lv_iconst (pc := 542) (v := (0 : Int32)) hx hb dL_between_542 (by decide) ?_
              obtain ⟨y91, hy91, h⟩ := bnd_ex h
              refine x_callVi (pc := 543) (st := .int (0 : Int32) :: .ref (ad 0) :: []) (As := [.int (0 : Int32)]) E hEx hl.1 hP hS (kX7_differences hap  q20.2 _ _ hy91) gL_31 hdX7_differences rfl (by decide) sh7 rfl ⟨Nat.le_of_ble_eq_true rfl, Nat.le_of_ble_eq_true rfl⟩ ⟨rfl, rfl⟩ dL_between_543 rfl (Nat.le_of_ble_eq_true rfl) (fun H locs hP hS n92 => ?_)
              refine lv_aload_n (pc := 546) hx hb dL_between_546 rfl (lv_at hl 3 rfl) ?_
              refine lv_iconst (pc := 547) (v := (1 : Int32)) hx hb dL_between_547 (by decide) ?_
              obtain ⟨y93, hy93, h⟩ := bnd_ex h
              refine x_callVi (pc := 548) (st := .int (1 : Int32) :: .ref (ad 0) :: .int y91 :: []) (As := [.int (1 : Int32)]) E hEx hl.1 hP hS (kX7_differences hap  q20.2 _ _ hy93) gL_31 hdX7_differences rfl (by decide) sh7 rfl ⟨Nat.le_of_ble_eq_true rfl, Nat.le_of_ble_eq_true rfl⟩ ⟨rfl, rfl⟩ dL_between_548 rfl (Nat.le_of_ble_eq_true rfl) (fun H locs hP hS n94 => ?_)
              refine lv_iadd (pc := 551) hx hb dL_between_551 ?_
              refine lv_istore (pc := 552) (lv' := [(10, .int (y91 + y93)), (9, .int (fL_max q20.2 x4 y88)), (8, .int y88), (7, .int q20.1), (0, .ref (ad 0)), (1, .int x1), (4, .int x4), (5, .int x5), (6, .int x6)]) hx hb dL_between_552 hl (by decide) rfl (fun ls hl => ?_)
              refine lv_aload_n (pc := 554) hx hb dL_between_554 rfl (lv_at hl 4 rfl) ?_
              obtain ⟨q95, hq95, h⟩ := bnd_ex h
              refine x_callVi (pc := 555) (st := .ref (ad 0) :: []) (As := []) E hEx hl.1 hP hS (kX7_startGame hap  q20.2  _ _ hq95) gL_120 hdX7_startGame rfl (by decide) sh7 rfl ⟨Nat.le_of_ble_eq_true rfl, Nat.le_of_ble_eq_true rfl⟩ ⟨rfl, rfl⟩ dL_between_555 rfl (Nat.le_of_ble_eq_true rfl) (fun H locs hP hS n96 => ?_)
              refine lv_iload (pc := 558) hx hb dL_between_558 (lv_at hl 1 rfl) ?_
              refine lv_iload (pc := 560) hx hb dL_between_560 (lv_at hl 2 rfl) ?_
              refine lv_isub (pc := 562) hx hb dL_between_562 ?_
              refine lv_icmp_ne (pc := 563) (tgt := 639) hx hb dL_between_563 (by decide) (fun c97 => ?_) (fun c97 => ?_)
              · have h := (if_neg c97).symm.trans h
                refine lv_iconst (pc := 639) (v := (0 : Int32)) hx hb dL_between_639 (by decide) ?_
                obtain ⟨rfl, rfl⟩ := som2 h
                exact x_iret E hP hS rfl dL_between_640
              · have h := (if_pos c97).symm.trans h
                refine lv_aload_n (pc := 566) hx hb dL_between_566 rfl (lv_at hl 4 rfl) ?_
                refine lv_bipush (pc := 567) (v := (14 : Int32)) hx hb dL_between_567 (by decide) ?_
                obtain ⟨y98, hy98, h⟩ := bnd_ex h
                refine x_callVi (pc := 569) (st := .int (14 : Int32) :: .ref (ad 0) :: []) (As := [.int (14 : Int32)]) E hEx hl.1 hP hS (kX7_count hap  q95.2 _ _ hy98) gL_15 hdX7_count rfl (by decide) sh7 rfl ⟨Nat.le_of_ble_eq_true rfl, Nat.le_of_ble_eq_true rfl⟩ ⟨rfl, rfl⟩ dL_between_569 rfl (Nat.le_of_ble_eq_true rfl) (fun H locs hP hS n99 => ?_)
                refine lv_iconst (pc := 572) (v := (1 : Int32)) hx hb dL_between_572 (by decide) ?_
                refine lv_icmp_ne (pc := 573) (tgt := 639) hx hb dL_between_573 (by decide) (fun c100 => ?_) (fun c100 => ?_)
                · have h := (if_neg c100).symm.trans h
                  refine lv_iconst (pc := 639) (v := (0 : Int32)) hx hb dL_between_639 (by decide) ?_
                  obtain ⟨rfl, rfl⟩ := som2 h
                  exact x_iret E hP hS rfl dL_between_640
                · have h := (if_pos c100).symm.trans h
                  refine lv_aload_n (pc := 576) hx hb dL_between_576 rfl (lv_at hl 4 rfl) ?_
                  refine lv_iconst (pc := 577) (v := (1 : Int32)) hx hb dL_between_577 (by decide) ?_
                  obtain ⟨y101, hy101, h⟩ := bnd_ex h
                  refine x_callVi (pc := 578) (st := .int (1 : Int32) :: .ref (ad 0) :: []) (As := [.int (1 : Int32)]) E hEx hl.1 hP hS (kX7_game hap  q95.2 _ _ hy101) gL_28 hdX7_game rfl (by decide) sh7 rfl ⟨Nat.le_of_ble_eq_true rfl, Nat.le_of_ble_eq_true rfl⟩ ⟨rfl, rfl⟩ dL_between_578 rfl (Nat.le_of_ble_eq_true rfl) (fun H locs hP hS n102 => ?_)
                  refine lv_iload (pc := 581) hx hb dL_between_581 (lv_at hl 1 rfl) ?_
                  refine lv_icmp_ne (pc := 583) (tgt := 639) hx hb dL_between_583 (by decide) (fun c103 => ?_) (fun c103 => ?_)
                  · have h := (if_neg c103).symm.trans h
                    refine lv_iconst (pc := 639) (v := (0 : Int32)) hx hb dL_between_639 (by decide) ?_
                    obtain ⟨rfl, rfl⟩ := som2 h
                    exact x_iret E hP hS rfl dL_between_640
                  · have h := (if_pos c103).symm.trans h
                    refine lv_aload_n (pc := 586) hx hb dL_between_586 rfl (lv_at hl 4 rfl) ?_
                    refine lv_iconst (pc := 587) (v := (5 : Int32)) hx hb dL_between_587 (by decide) ?_
                    obtain ⟨y104, hy104, h⟩ := bnd_ex h
                    refine x_callVi (pc := 588) (st := .int (5 : Int32) :: .ref (ad 0) :: []) (As := [.int (5 : Int32)]) E hEx hl.1 hP hS (kX7_count hap  q95.2 _ _ hy104) gL_15 hdX7_count rfl (by decide) sh7 rfl ⟨Nat.le_of_ble_eq_true rfl, Nat.le_of_ble_eq_true rfl⟩ ⟨rfl, rfl⟩ dL_between_588 rfl (Nat.le_of_ble_eq_true rfl) (fun H locs hP hS n105 => ?_)
                    refine lv_iload (pc := 591) hx hb dL_between_591 (lv_at hl 1 rfl) ?_
                    refine lv_icmp_ne (pc := 593) (tgt := 639) hx hb dL_between_593 (by decide) (fun c106 => ?_) (fun c106 => ?_)
                    · have h := (if_neg c106).symm.trans h
                      refine lv_iconst (pc := 639) (v := (0 : Int32)) hx hb dL_between_639 (by decide) ?_
                      obtain ⟨rfl, rfl⟩ := som2 h
                      exact x_iret E hP hS rfl dL_between_640
                    · have h := (if_pos c106).symm.trans h
                      refine lv_aload_n (pc := 596) hx hb dL_between_596 rfl (lv_at hl 4 rfl) ?_
                      refine lv_iconst (pc := 597) (v := (0 : Int32)) hx hb dL_between_597 (by decide) ?_
                      obtain ⟨y107, hy107, h⟩ := bnd_ex h
                      refine x_callVi (pc := 598) (st := .int (0 : Int32) :: .ref (ad 0) :: []) (As := [.int (0 : Int32)]) E hEx hl.1 hP hS (kX7_differences hap  q95.2 _ _ hy107) gL_31 hdX7_differences rfl (by decide) sh7 rfl ⟨Nat.le_of_ble_eq_true rfl, Nat.le_of_ble_eq_true rfl⟩ ⟨rfl, rfl⟩ dL_between_598 rfl (Nat.le_of_ble_eq_true rfl) (fun H locs hP hS n108 => ?_)
                      refine lv_aload_n (pc := 601) hx hb dL_between_601 rfl (lv_at hl 4 rfl) ?_
                      refine lv_iconst (pc := 602) (v := (1 : Int32)) hx hb dL_between_602 (by decide) ?_
                      obtain ⟨y109, hy109, h⟩ := bnd_ex h
                      refine x_callVi (pc := 603) (st := .int (1 : Int32) :: .ref (ad 0) :: .int y107 :: []) (As := [.int (1 : Int32)]) E hEx hl.1 hP hS (kX7_differences hap  q95.2 _ _ hy109) gL_31 hdX7_differences rfl (by decide) sh7 rfl ⟨Nat.le_of_ble_eq_true rfl, Nat.le_of_ble_eq_true rfl⟩ ⟨rfl, rfl⟩ dL_between_603 rfl (Nat.le_of_ble_eq_true rfl) (fun H locs hP hS n110 => ?_)
                      refine lv_iadd (pc := 606) hx hb dL_between_606 ?_
                      refine lv_iload (pc := 607) hx hb dL_between_607 (lv_at hl 0 rfl) ?_
                      refine lv_icmp_ne (pc := 609) (tgt := 639) hx hb dL_between_609 (by decide) (fun c111 => ?_) (fun c111 => ?_)
                      · have h := (if_neg c111).symm.trans h
                        refine lv_iconst (pc := 639) (v := (0 : Int32)) hx hb dL_between_639 (by decide) ?_
                        obtain ⟨rfl, rfl⟩ := som2 h
                        exact x_iret E hP hS rfl dL_between_640
                      · have h := (if_pos c111).symm.trans h
                        refine lv_aload_n (pc := 612) hx hb dL_between_612 rfl (lv_at hl 4 rfl) ?_
                        refine lv_bipush (pc := 613) (v := (10 : Int32)) hx hb dL_between_613 (by decide) ?_
                        obtain ⟨y112, hy112, h⟩ := bnd_ex h
                        refine x_callVi (pc := 615) (st := .int (10 : Int32) :: .ref (ad 0) :: []) (As := [.int (10 : Int32)]) E hEx hl.1 hP hS (kX7_count hap  q95.2 _ _ hy112) gL_15 hdX7_count rfl (by decide) sh7 rfl ⟨Nat.le_of_ble_eq_true rfl, Nat.le_of_ble_eq_true rfl⟩ ⟨rfl, rfl⟩ dL_between_615 rfl (Nat.le_of_ble_eq_true rfl) (fun H locs hP hS n113 => ?_)
                        refine lv_if_ne (pc := 618) (tgt := 639) hx hb dL_between_618 (by decide) (fun c114 => ?_) (fun c114 => ?_)
                        · have h := (if_neg c114).symm.trans h
                          refine lv_iconst (pc := 639) (v := (0 : Int32)) hx hb dL_between_639 (by decide) ?_
                          obtain ⟨rfl, rfl⟩ := som2 h
                          exact x_iret E hP hS rfl dL_between_640
                        · have h := (if_pos c114).symm.trans h
                          refine lv_aload_n (pc := 621) hx hb dL_between_621 rfl (lv_at hl 4 rfl) ?_
                          refine lv_iconst (pc := 622) (v := (2 : Int32)) hx hb dL_between_622 (by decide) ?_
                          obtain ⟨y115, hy115, h⟩ := bnd_ex h
                          refine x_callVi (pc := 623) (st := .int (2 : Int32) :: .ref (ad 0) :: []) (As := [.int (2 : Int32)]) E hEx hl.1 hP hS (kX7_game hap  q95.2 _ _ hy115) gL_28 hdX7_game rfl (by decide) sh7 rfl ⟨Nat.le_of_ble_eq_true rfl, Nat.le_of_ble_eq_true rfl⟩ ⟨rfl, rfl⟩ dL_between_623 rfl (Nat.le_of_ble_eq_true rfl) (fun H locs hP hS n116 => ?_)
                          refine lv_aload_n (pc := 626) hx hb dL_between_626 rfl (lv_at hl 4 rfl) ?_
                          refine lv_bipush (pc := 627) (v := (12 : Int32)) hx hb dL_between_627 (by decide) ?_
                          obtain ⟨y117, hy117, h⟩ := bnd_ex h
                          refine x_callVi (pc := 629) (st := .int (12 : Int32) :: .ref (ad 0) :: .int y115 :: []) (As := [.int (12 : Int32)]) E hEx hl.1 hP hS (kX7_count hap  q95.2 _ _ hy117) gL_15 hdX7_count rfl (by decide) sh7 rfl ⟨Nat.le_of_ble_eq_true rfl, Nat.le_of_ble_eq_true rfl⟩ ⟨rfl, rfl⟩ dL_between_629 rfl (Nat.le_of_ble_eq_true rfl) (fun H locs hP hS n118 => ?_)
                          refine lv_icmp_ne (pc := 632) (tgt := 639) hx hb dL_between_632 (by decide) (fun c119 => ?_) (fun c119 => ?_)
                          · have h := (if_neg c119).symm.trans h
                            refine lv_iconst (pc := 639) (v := (0 : Int32)) hx hb dL_between_639 (by decide) ?_
                            obtain ⟨rfl, rfl⟩ := som2 h
                            exact x_iret E hP hS rfl dL_between_640
                          · have h := (if_pos c119).symm.trans h
                            refine lv_iconst (pc := 635) (v := (1 : Int32)) hx hb dL_between_635 (by decide) ?_
                            refine lv_goto (pc := 636) (tgt := 640) hx hb dL_between_636 (by decide) ?_
                            obtain ⟨rfl, rfl⟩ := som2 h
                            exact x_iret E hP hS rfl dL_between_640
            · have h := (if_pos c87).symm.trans h
              exact hB490 q20.2 x5 q20.1 _ _ _ h hP hS (lv_sub hl [1, 4, 0] rfl)
  have hB362 : ∀ (M : Mem) (x1 x2 x3 x4 : Int32) (H : Heap) (locs : List Loc) (ls : Array Slot), fL_between_B362 M x1 x2 x3 x4 = some (v, M') → va_P G vwCl (WW 78 (shX cA ad) ad M) H → va_S (AW 78 ad) s.heap H locs → lv_has ls 11 [(0, .ref (ad 0)), (1, .int x1), (2, .int x2), (3, .int x3), (4, .int x4)] → W p l e ({ frames := 10, cells := 0, slots := 0, locals := 277 } : Room) s m args below meth c H locs 0 0 (QI below G 78 (shX cA ad) ad .boolean args s v M') (F0 m 362 ls []) := by
    intro M x1 x2 x3 x4 H locs ls h hP hS hl
    unfold fL_between_B362 at h
    refine lv_iload_n (pc := 362) hx hb dL_between_362 rfl (lv_at hl 3 rfl) ?_
    refine lv_iconst (pc := 363) (v := (5 : Int32)) hx hb dL_between_363 (by decide) ?_
    refine lv_icmp_ne (pc := 364) (tgt := 376) hx hb dL_between_364 (by decide) (fun c10 => ?_) (fun c10 => ?_)
    · have h := (if_neg c10).symm.trans h
      refine lv_aload_n (pc := 376) hx hb dL_between_376 rfl (lv_at hl 0 rfl) ?_
      refine lv_iconst (pc := 377) (v := (3 : Int32)) hx hb dL_between_377 (by decide) ?_
      obtain ⟨y11, hy11, h⟩ := bnd_ex h
      refine x_callVi (pc := 378) (st := .int (3 : Int32) :: .ref (ad 0) :: []) (As := [.int (3 : Int32)]) E hEx hl.1 hP hS (kX7_count hap  M _ _ hy11) gL_15 hdX7_count rfl (by decide) sh7 rfl ⟨Nat.le_of_ble_eq_true rfl, Nat.le_of_ble_eq_true rfl⟩ ⟨rfl, rfl⟩ dL_between_378 rfl (Nat.le_of_ble_eq_true rfl) (fun H locs hP hS n12 => ?_)
      refine lv_istore (pc := 381) (lv' := [(5, .int y11), (0, .ref (ad 0)), (1, .int x1), (2, .int x2), (3, .int x3), (4, .int x4)]) hx hb dL_between_381 hl (by decide) rfl (fun ls hl => ?_)
      refine lv_iload (pc := 383) hx hb dL_between_383 (lv_at hl 0 rfl) ?_
      refine lv_if_ne (pc := 385) (tgt := 398) hx hb dL_between_385 (by decide) (fun c13 => ?_) (fun c13 => ?_)
      · have h := (if_neg c13).symm.trans h
        refine lv_aload_n (pc := 398) hx hb dL_between_398 rfl (lv_at hl 1 rfl) ?_
        refine lv_iload (pc := 399) hx hb dL_between_399 (lv_at hl 0 rfl) ?_
        refine lv_iconst (pc := 401) (v := (1 : Int32)) hx hb dL_between_401 (by decide) ?_
        refine lv_isub (pc := 402) hx hb dL_between_402 ?_
        refine lv_iconst (pc := 403) (v := (1 : Int32)) hx hb dL_between_403 (by decide) ?_
        obtain ⟨y14, hy14, h⟩ := bnd_ex h
        refine x_callVi (pc := 404) (st := .int (1 : Int32) :: .int (y11 - (1 : Int32)) :: .ref (ad 0) :: []) (As := [.int (y11 - (1 : Int32)), .int (1 : Int32)]) E hEx hl.1 hP hS (kX7_group hap  M _ _ _ hy14) gL_37 hdX7_group rfl (by decide) sh7 rfl ⟨Nat.le_of_ble_eq_true rfl, Nat.le_of_ble_eq_true rfl⟩ ⟨rfl, rfl⟩ dL_between_404 rfl (Nat.le_of_ble_eq_true rfl) (fun H locs hP hS n15 => ?_)
        refine lv_iload_n (pc := 407) hx hb dL_between_407 rfl (lv_at hl 3 rfl) ?_
        refine lv_bipush (pc := 408) (v := (60 : Int32)) hx hb dL_between_408 (by decide) ?_
        obtain ⟨y16, hy16, h⟩ := bnd_ex h
        refine x_callSi (pc := 410) (st := .int (60 : Int32) :: .int x2 :: .int y14 :: []) (As := [.int x2, .int (60 : Int32)]) E hEx hl.1 hP hS (kL_low hap  M _ _ _ hy16) gL_54 hsL_low rfl ⟨Nat.le_of_ble_eq_true rfl, Nat.le_of_ble_eq_true rfl⟩ ⟨rfl, rfl⟩ dL_between_410 rfl (Nat.le_of_ble_eq_true rfl) (fun H locs hP hS n17 => ?_)
        refine lv_iadd (pc := 413) hx hb dL_between_413 ?_
        refine lv_istore (pc := 414) (lv' := [(6, .int (y14 + y16)), (5, .int y11), (0, .ref (ad 0)), (1, .int x1), (2, .int x2), (3, .int x3), (4, .int x4)]) hx hb dL_between_414 hl (by decide) rfl (fun ls hl => ?_)
        exact hB416 M x1 x4 y11 (y14 + y16) _ _ _ h hP hS (lv_sub hl [2, 3, 6, 1, 0] rfl)
      · have h := (if_pos c13).symm.trans h
        refine lv_iload_n (pc := 388) hx hb dL_between_388 rfl (lv_at hl 3 rfl) ?_
        refine lv_sipush (pc := 389) (v := (400 : Int32)) hx hb dL_between_389 (by decide) ?_
        obtain ⟨y120, hy120, h⟩ := bnd_ex h
        refine x_callSi (pc := 392) (st := .int (400 : Int32) :: .int x2 :: []) (As := [.int x2, .int (400 : Int32)]) E hEx hl.1 hP hS (kL_low hap  M _ _ _ hy120) gL_54 hsL_low rfl ⟨Nat.le_of_ble_eq_true rfl, Nat.le_of_ble_eq_true rfl⟩ ⟨rfl, rfl⟩ dL_between_392 rfl (Nat.le_of_ble_eq_true rfl) (fun H locs hP hS n121 => ?_)
        refine lv_goto (pc := 395) (tgt := 414) hx hb dL_between_395 (by decide) ?_
        refine lv_istore (pc := 414) (lv' := [(6, .int y120), (5, .int y11), (0, .ref (ad 0)), (1, .int x1), (2, .int x2), (3, .int x3), (4, .int x4)]) hx hb dL_between_414 hl (by decide) rfl (fun ls hl => ?_)
        exact hB416 M x1 x4 y11 y120 _ _ _ h hP hS (lv_sub hl [2, 3, 6, 1, 0] rfl)
    · have h := (if_pos c10).symm.trans h
      refine lv_aload_n (pc := 367) hx hb dL_between_367 rfl (lv_at hl 0 rfl) ?_
      refine lv_iload_n (pc := 368) hx hb dL_between_368 rfl (lv_at hl 1 rfl) ?_
      refine lv_iconst (pc := 369) (v := (3 : Int32)) hx hb dL_between_369 (by decide) ?_
      refine lv_ishr (pc := 370) hx hb dL_between_370 ?_
      refine lv_iload_n (pc := 371) hx hb dL_between_371 rfl (lv_at hl 2 rfl) ?_
      obtain ⟨q122, hq122, h⟩ := bnd_ex h
      refine x_callSi (pc := 372) (st := .int x2 :: .int (x1 >>> ((3 : Int32) &&& 31)) :: .ref (ad 0) :: []) (As := [.ref (ad 0), .int (x1 >>> ((3 : Int32) &&& 31)), .int x2]) E hEx hl.1 hP hS (kL_build hap  M _ _ _ _ hq122) gL_113 hsL_build rfl ⟨Nat.le_of_ble_eq_true rfl, Nat.le_of_ble_eq_true rfl⟩ ⟨rfl, rfl⟩ dL_between_372 rfl (Nat.le_of_ble_eq_true rfl) (fun H locs hP hS n123 => ?_)
      obtain ⟨rfl, rfl⟩ := som2 h
      exact x_iret E hP hS n123 dL_between_375
  have hB267 : ∀ (M : Mem) (x1 x2 x3 x4 : Int32) (H : Heap) (locs : List Loc) (ls : Array Slot), fL_between_B267 M x1 x2 x3 x4 = some (v, M') → va_P G vwCl (WW 78 (shX cA ad) ad M) H → va_S (AW 78 ad) s.heap H locs → lv_has ls 11 [(0, .ref (ad 0)), (1, .int x1), (2, .int x2), (3, .int x3), (4, .int x4)] → W p l e ({ frames := 10, cells := 0, slots := 0, locals := 277 } : Room) s m args below meth c H locs 0 0 (QI below G 78 (shX cA ad) ad .boolean args s v M') (F0 m 267 ls []) := by
    intro M x1 x2 x3 x4 H locs ls h hP hS hl
    unfold fL_between_B267 at h
    refine lv_iload_n (pc := 267) hx hb dL_between_267 rfl (lv_at hl 3 rfl) ?_
    refine lv_iconst (pc := 268) (v := (4 : Int32)) hx hb dL_between_268 (by decide) ?_
    refine lv_icmp_ne (pc := 269) (tgt := 362) hx hb dL_between_269 (by decide) (fun c9 => ?_) (fun c9 => ?_)
    · have h := (if_neg c9).symm.trans h
      exact hB362 M x1 x2 x3 x4 _ _ _ h hP hS (lv_sub hl [0, 1, 2, 3, 4] rfl)
    · have h := (if_pos c9).symm.trans h
      refine lv_aload_n (pc := 272) hx hb dL_between_272 rfl (lv_at hl 0 rfl) ?_
      refine lv_iconst (pc := 273) (v := (0 : Int32)) hx hb dL_between_273 (by decide) ?_
      obtain ⟨y124, hy124, h⟩ := bnd_ex h
      refine x_callVi (pc := 274) (st := .int (0 : Int32) :: .ref (ad 0) :: []) (As := [.int (0 : Int32)]) E hEx hl.1 hP hS (kX7_count hap  M _ _ hy124) gL_15 hdX7_count rfl (by decide) sh7 rfl ⟨Nat.le_of_ble_eq_true rfl, Nat.le_of_ble_eq_true rfl⟩ ⟨rfl, rfl⟩ dL_between_274 rfl (Nat.le_of_ble_eq_true rfl) (fun H locs hP hS n125 => ?_)
      refine lv_iconst (pc := 277) (v := (1 : Int32)) hx hb dL_between_277 (by decide) ?_
      refine lv_icmp_le (pc := 278) (tgt := 362) hx hb dL_between_278 (by decide) (fun c126 => ?_) (fun c126 => ?_)
      · have h := (if_pos c126).symm.trans h
        exact hB362 M x1 x2 x3 x4 _ _ _ h hP hS (lv_sub hl [0, 1, 2, 3, 4] rfl)
      · have h := (if_neg c126).symm.trans h
        refine lv_iconst (pc := 281) (v := (1 : Int32)) hx hb dL_between_281 (by decide) ?_
        refine lv_iload_n (pc := 282) hx hb dL_between_282 rfl (lv_at hl 2 rfl) ?_
        refine lv_aload_n (pc := 283) hx hb dL_between_283 rfl (lv_at hl 0 rfl) ?_
        refine lv_iconst (pc := 284) (v := (0 : Int32)) hx hb dL_between_284 (by decide) ?_
        obtain ⟨y127, hy127, h⟩ := bnd_ex h
        refine x_callVi (pc := 285) (st := .int (0 : Int32) :: .ref (ad 0) :: .int x2 :: .int (1 : Int32) :: []) (As := [.int (0 : Int32)]) E hEx hl.1 hP hS (kX7_count hap  M _ _ hy127) gL_15 hdX7_count rfl (by decide) sh7 rfl ⟨Nat.le_of_ble_eq_true rfl, Nat.le_of_ble_eq_true rfl⟩ ⟨rfl, rfl⟩ dL_between_285 rfl (Nat.le_of_ble_eq_true rfl) (fun H locs hP hS n128 => ?_)
        refine lv_iconst (pc := 288) (v := (1 : Int32)) hx hb dL_between_288 (by decide) ?_
        refine lv_isub (pc := 289) hx hb dL_between_289 ?_
        obtain ⟨y129, hy129, h⟩ := bnd_ex h
        refine x_callSi (pc := 290) (st := .int (y127 - (1 : Int32)) :: .int x2 :: .int (1 : Int32) :: []) (As := [.int x2, .int (y127 - (1 : Int32))]) E hEx hl.1 hP hS (kL_low hap  M _ _ _ hy129) gL_54 hsL_low rfl ⟨Nat.le_of_ble_eq_true rfl, Nat.le_of_ble_eq_true rfl⟩ ⟨rfl, rfl⟩ dL_between_290 rfl (Nat.le_of_ble_eq_true rfl) (fun H locs hP hS n130 => ?_)
        refine lv_iadd (pc := 293) hx hb dL_between_293 ?_
        refine lv_istore (pc := 294) (lv' := [(5, .int ((1 : Int32) + y129)), (0, .ref (ad 0)), (1, .int x1), (2, .int x2), (3, .int x3), (4, .int x4)]) hx hb dL_between_294 hl (by decide) rfl (fun ls hl => ?_)
        refine lv_aload_n (pc := 296) hx hb dL_between_296 rfl (lv_at hl 1 rfl) ?_
        refine lv_iload (pc := 297) hx hb dL_between_297 (lv_at hl 0 rfl) ?_
        refine lv_iconst (pc := 299) (v := (2 : Int32)) hx hb dL_between_299 (by decide) ?_
        obtain ⟨y131, hy131, h⟩ := bnd_ex h
        refine x_callVi (pc := 300) (st := .int (2 : Int32) :: .int ((1 : Int32) + y129) :: .ref (ad 0) :: []) (As := [.int ((1 : Int32) + y129), .int (2 : Int32)]) E hEx hl.1 hP hS (kX7_box hap  M _ _ _ hy131) gL_9 hdX7_box rfl (by decide) sh7 rfl ⟨Nat.le_of_ble_eq_true rfl, Nat.le_of_ble_eq_true rfl⟩ ⟨rfl, rfl⟩ dL_between_300 rfl (Nat.le_of_ble_eq_true rfl) (fun H locs hP hS n132 => ?_)
        refine lv_istore (pc := 303) (lv' := [(6, .int y131), (5, .int ((1 : Int32) + y129)), (0, .ref (ad 0)), (1, .int x1), (2, .int x2), (3, .int x3), (4, .int x4)]) hx hb dL_between_303 hl (by decide) rfl (fun ls hl => ?_)
        refine lv_aload_n (pc := 305) hx hb dL_between_305 rfl (lv_at hl 2 rfl) ?_
        refine lv_iload (pc := 306) hx hb dL_between_306 (lv_at hl 1 rfl) ?_
        obtain ⟨q133, hq133, h⟩ := bnd_ex h
        refine x_callVi (pc := 308) (st := .int ((1 : Int32) + y129) :: .ref (ad 0) :: []) (As := [.int ((1 : Int32) + y129)]) E hEx hl.1 hP hS (kX7_close hap  M _ _ _ hq133) gL_110 hdX7_close rfl (by decide) sh7 rfl ⟨Nat.le_of_ble_eq_true rfl, Nat.le_of_ble_eq_true rfl⟩ ⟨rfl, rfl⟩ dL_between_308 rfl (Nat.le_of_ble_eq_true rfl) (fun H locs hP hS n134 => ?_)
        refine lv_istore (pc := 311) (lv' := [(7, .int q133.1), (6, .int y131), (5, .int ((1 : Int32) + y129)), (0, .ref (ad 0)), (1, .int x1), (2, .int x2), (3, .int x3), (4, .int x4)]) hx hb dL_between_311 hl (by decide) rfl (fun ls hl => ?_)
        refine lv_iload (pc := 313) hx hb dL_between_313 (lv_at hl 0 rfl) ?_
        refine lv_iload (pc := 315) hx hb dL_between_315 (lv_at hl 1 rfl) ?_
        refine lv_if_ne (pc := 317) (tgt := 325) hx hb dL_between_317 (by decide) (fun c135 => ?_) (fun c135 => ?_)
        · have h := (if_neg c135).symm.trans h
          refine lv_aload_n (pc := 325) hx hb dL_between_325 rfl (lv_at hl 3 rfl) ?_
          refine lv_iconst (pc := 326) (v := (1 : Int32)) hx hb dL_between_326 (by decide) ?_
          obtain ⟨y136, hy136, h⟩ := bnd_ex h
          refine x_callVi (pc := 327) (st := .int (1 : Int32) :: .ref (ad 0) :: .int q133.1 :: []) (As := [.int (1 : Int32)]) E hEx hl.1 hP hS (kX7_differences hap  q133.2 _ _ hy136) gL_31 hdX7_differences rfl (by decide) sh7 rfl ⟨Nat.le_of_ble_eq_true rfl, Nat.le_of_ble_eq_true rfl⟩ ⟨rfl, rfl⟩ dL_between_327 rfl (Nat.le_of_ble_eq_true rfl) (fun H locs hP hS n137 => ?_)
          refine lv_icmp_ne (pc := 330) (tgt := 360) hx hb dL_between_330 (by decide) (fun c138 => ?_) (fun c138 => ?_)
          · have h := (if_neg c138).symm.trans h
            refine lv_iconst (pc := 360) (v := (0 : Int32)) hx hb dL_between_360 (by decide) ?_
            obtain ⟨rfl, rfl⟩ := som2 h
            exact x_iret E hP hS rfl dL_between_361
          · have h := (if_pos c138).symm.trans h
            refine lv_aload_n (pc := 333) hx hb dL_between_333 rfl (lv_at hl 3 rfl) ?_
            refine lv_iload (pc := 334) hx hb dL_between_334 (lv_at hl 2 rfl) ?_
            refine lv_iconst (pc := 336) (v := (2 : Int32)) hx hb dL_between_336 (by decide) ?_
            obtain ⟨y139, hy139, h⟩ := bnd_ex h
            refine x_callVi (pc := 337) (st := .int (2 : Int32) :: .int ((1 : Int32) + y129) :: .ref (ad 0) :: []) (As := [.int ((1 : Int32) + y129), .int (2 : Int32)]) E hEx hl.1 hP hS (kX7_box hap  q133.2 _ _ _ hy139) gL_9 hdX7_box rfl (by decide) sh7 rfl ⟨Nat.le_of_ble_eq_true rfl, Nat.le_of_ble_eq_true rfl⟩ ⟨rfl, rfl⟩ dL_between_337 rfl (Nat.le_of_ble_eq_true rfl) (fun H locs hP hS n140 => ?_)
            refine lv_if_ne (pc := 340) (tgt := 360) hx hb dL_between_340 (by decide) (fun c141 => ?_) (fun c141 => ?_)
            · have h := (if_neg c141).symm.trans h
              refine lv_iconst (pc := 360) (v := (0 : Int32)) hx hb dL_between_360 (by decide) ?_
              obtain ⟨rfl, rfl⟩ := som2 h
              exact x_iret E hP hS rfl dL_between_361
            · have h := (if_pos c141).symm.trans h
              refine lv_aload_n (pc := 343) hx hb dL_between_343 rfl (lv_at hl 3 rfl) ?_
              refine lv_iconst (pc := 344) (v := (5 : Int32)) hx hb dL_between_344 (by decide) ?_
              obtain ⟨y142, hy142, h⟩ := bnd_ex h
              refine x_callVi (pc := 345) (st := .int (5 : Int32) :: .ref (ad 0) :: []) (As := [.int (5 : Int32)]) E hEx hl.1 hP hS (kX7_count hap  q133.2 _ _ hy142) gL_15 hdX7_count rfl (by decide) sh7 rfl ⟨Nat.le_of_ble_eq_true rfl, Nat.le_of_ble_eq_true rfl⟩ ⟨rfl, rfl⟩ dL_between_345 rfl (Nat.le_of_ble_eq_true rfl) (fun H locs hP hS n143 => ?_)
              refine lv_iload (pc := 348) hx hb dL_between_348 (lv_at hl 7 rfl) ?_
              refine lv_iload (pc := 350) hx hb dL_between_350 (lv_at hl 1 rfl) ?_
              refine lv_iadd (pc := 352) hx hb dL_between_352 ?_
              refine lv_icmp_ne (pc := 353) (tgt := 360) hx hb dL_between_353 (by decide) (fun c144 => ?_) (fun c144 => ?_)
              · have h := (if_neg c144).symm.trans h
                refine lv_iconst (pc := 360) (v := (0 : Int32)) hx hb dL_between_360 (by decide) ?_
                obtain ⟨rfl, rfl⟩ := som2 h
                exact x_iret E hP hS rfl dL_between_361
              · have h := (if_pos c144).symm.trans h
                refine lv_iconst (pc := 356) (v := (1 : Int32)) hx hb dL_between_356 (by decide) ?_
                refine lv_goto (pc := 357) (tgt := 361) hx hb dL_between_357 (by decide) ?_
                obtain ⟨rfl, rfl⟩ := som2 h
                exact x_iret E hP hS rfl dL_between_361
        · have h := (if_pos c135).symm.trans h
          refine lv_bipush (pc := 320) (v := (-5 : Int32)) hx hb dL_between_320 (by decide) ?_
          refine lv_goto (pc := 322) (tgt := 330) hx hb dL_between_322 (by decide) ?_
          refine lv_icmp_ne (pc := 330) (tgt := 360) hx hb dL_between_330 (by decide) (fun c145 => ?_) (fun c145 => ?_)
          · have h := (if_neg c145).symm.trans h
            refine lv_iconst (pc := 360) (v := (0 : Int32)) hx hb dL_between_360 (by decide) ?_
            obtain ⟨rfl, rfl⟩ := som2 h
            exact x_iret E hP hS rfl dL_between_361
          · have h := (if_pos c145).symm.trans h
            refine lv_aload_n (pc := 333) hx hb dL_between_333 rfl (lv_at hl 3 rfl) ?_
            refine lv_iload (pc := 334) hx hb dL_between_334 (lv_at hl 2 rfl) ?_
            refine lv_iconst (pc := 336) (v := (2 : Int32)) hx hb dL_between_336 (by decide) ?_
            obtain ⟨y146, hy146, h⟩ := bnd_ex h
            refine x_callVi (pc := 337) (st := .int (2 : Int32) :: .int ((1 : Int32) + y129) :: .ref (ad 0) :: []) (As := [.int ((1 : Int32) + y129), .int (2 : Int32)]) E hEx hl.1 hP hS (kX7_box hap  q133.2 _ _ _ hy146) gL_9 hdX7_box rfl (by decide) sh7 rfl ⟨Nat.le_of_ble_eq_true rfl, Nat.le_of_ble_eq_true rfl⟩ ⟨rfl, rfl⟩ dL_between_337 rfl (Nat.le_of_ble_eq_true rfl) (fun H locs hP hS n147 => ?_)
            refine lv_if_ne (pc := 340) (tgt := 360) hx hb dL_between_340 (by decide) (fun c148 => ?_) (fun c148 => ?_)
            · have h := (if_neg c148).symm.trans h
              refine lv_iconst (pc := 360) (v := (0 : Int32)) hx hb dL_between_360 (by decide) ?_
              obtain ⟨rfl, rfl⟩ := som2 h
              exact x_iret E hP hS rfl dL_between_361
            · have h := (if_pos c148).symm.trans h
              refine lv_aload_n (pc := 343) hx hb dL_between_343 rfl (lv_at hl 3 rfl) ?_
              refine lv_iconst (pc := 344) (v := (5 : Int32)) hx hb dL_between_344 (by decide) ?_
              obtain ⟨y149, hy149, h⟩ := bnd_ex h
              refine x_callVi (pc := 345) (st := .int (5 : Int32) :: .ref (ad 0) :: []) (As := [.int (5 : Int32)]) E hEx hl.1 hP hS (kX7_count hap  q133.2 _ _ hy149) gL_15 hdX7_count rfl (by decide) sh7 rfl ⟨Nat.le_of_ble_eq_true rfl, Nat.le_of_ble_eq_true rfl⟩ ⟨rfl, rfl⟩ dL_between_345 rfl (Nat.le_of_ble_eq_true rfl) (fun H locs hP hS n150 => ?_)
              refine lv_iload (pc := 348) hx hb dL_between_348 (lv_at hl 7 rfl) ?_
              refine lv_iload (pc := 350) hx hb dL_between_350 (lv_at hl 1 rfl) ?_
              refine lv_iadd (pc := 352) hx hb dL_between_352 ?_
              refine lv_icmp_ne (pc := 353) (tgt := 360) hx hb dL_between_353 (by decide) (fun c151 => ?_) (fun c151 => ?_)
              · have h := (if_neg c151).symm.trans h
                refine lv_iconst (pc := 360) (v := (0 : Int32)) hx hb dL_between_360 (by decide) ?_
                obtain ⟨rfl, rfl⟩ := som2 h
                exact x_iret E hP hS rfl dL_between_361
              · have h := (if_pos c151).symm.trans h
                refine lv_iconst (pc := 356) (v := (1 : Int32)) hx hb dL_between_356 (by decide) ?_
                refine lv_goto (pc := 357) (tgt := 361) hx hb dL_between_357 (by decide) ?_
                obtain ⟨rfl, rfl⟩ := som2 h
                exact x_iret E hP hS rfl dL_between_361
  unfold fL_between at h
  refine lv_iload_n (pc := 0) hx hb dL_between_0 rfl (lv_at hl 1 rfl) ?_
  refine lv_bipush (pc := 1) (v := (8 : Int32)) hx hb dL_between_1 (by decide) ?_
  obtain ⟨y1, hy1, h⟩ := bnd_ex h
  refine x_callSi (pc := 3) (st := .int (8 : Int32) :: .int x1 :: []) (As := [.int x1, .int (8 : Int32)]) E hEx hl.1 hP hS (kL_low hap  M _ _ _ hy1) gL_54 hsL_low rfl ⟨Nat.le_of_ble_eq_true rfl, Nat.le_of_ble_eq_true rfl⟩ ⟨rfl, rfl⟩ dL_between_3 rfl (Nat.le_of_ble_eq_true rfl) (fun H locs hP hS n2 => ?_)
  refine lv_istore_n (pc := 6) (lv' := [(3, .int y1), (0, .ref (ad 0)), (1, .int x1), (2, .int x2)]) hx hb dL_between_6 rfl hl (by decide) rfl (fun ls hl => ?_)
  refine lv_aload_n (pc := 7) hx hb dL_between_7 rfl (lv_at hl 1 rfl) ?_
  refine lv_iconst (pc := 8) (v := (5 : Int32)) hx hb dL_between_8 (by decide) ?_
  obtain ⟨y3, hy3, h⟩ := bnd_ex h
  refine x_callVi (pc := 9) (st := .int (5 : Int32) :: .ref (ad 0) :: []) (As := [.int (5 : Int32)]) E hEx hl.1 hP hS (kX7_count hap  M _ _ hy3) gL_15 hdX7_count rfl (by decide) sh7 rfl ⟨Nat.le_of_ble_eq_true rfl, Nat.le_of_ble_eq_true rfl⟩ ⟨rfl, rfl⟩ dL_between_9 rfl (Nat.le_of_ble_eq_true rfl) (fun H locs hP hS n4 => ?_)
  refine lv_istore (pc := 12) (lv' := [(4, .int y3), (3, .int y1), (0, .ref (ad 0)), (1, .int x1), (2, .int x2)]) hx hb dL_between_12 hl (by decide) rfl (fun ls hl => ?_)
  refine lv_iload_n (pc := 14) hx hb dL_between_14 rfl (lv_at hl 1 rfl) ?_
  refine lv_if_ne (pc := 15) (tgt := 50) hx hb dL_between_15 (by decide) (fun c5 => ?_) (fun c5 => ?_)
  · have h := (if_neg c5).symm.trans h
    refine lv_iload_n (pc := 50) hx hb dL_between_50 rfl (lv_at hl 1 rfl) ?_
    refine lv_iconst (pc := 51) (v := (1 : Int32)) hx hb dL_between_51 (by decide) ?_
    refine lv_icmp_ne (pc := 52) (tgt := 149) hx hb dL_between_52 (by decide) (fun c6 => ?_) (fun c6 => ?_)
    · have h := (if_neg c6).symm.trans h
      refine lv_iload_n (pc := 149) hx hb dL_between_149 rfl (lv_at hl 1 rfl) ?_
      refine lv_iconst (pc := 150) (v := (2 : Int32)) hx hb dL_between_150 (by decide) ?_
      refine lv_icmp_ne (pc := 151) (tgt := 181) hx hb dL_between_151 (by decide) (fun c7 => ?_) (fun c7 => ?_)
      · have h := (if_neg c7).symm.trans h
        refine lv_iload_n (pc := 181) hx hb dL_between_181 rfl (lv_at hl 1 rfl) ?_
        refine lv_iconst (pc := 182) (v := (3 : Int32)) hx hb dL_between_182 (by decide) ?_
        refine lv_icmp_ne (pc := 183) (tgt := 267) hx hb dL_between_183 (by decide) (fun c8 => ?_) (fun c8 => ?_)
        · have h := (if_neg c8).symm.trans h
          exact hB267 M x1 x2 y1 y3 _ _ _ h hP hS (lv_sub hl [2, 3, 4, 1, 0] rfl)
        · have h := (if_pos c8).symm.trans h
          refine lv_aload_n (pc := 186) hx hb dL_between_186 rfl (lv_at hl 2 rfl) ?_
          refine lv_iconst (pc := 187) (v := (0 : Int32)) hx hb dL_between_187 (by decide) ?_
          obtain ⟨y152, hy152, h⟩ := bnd_ex h
          refine x_callVi (pc := 188) (st := .int (0 : Int32) :: .ref (ad 0) :: []) (As := [.int (0 : Int32)]) E hEx hl.1 hP hS (kX7_count hap  M _ _ hy152) gL_15 hdX7_count rfl (by decide) sh7 rfl ⟨Nat.le_of_ble_eq_true rfl, Nat.le_of_ble_eq_true rfl⟩ ⟨rfl, rfl⟩ dL_between_188 rfl (Nat.le_of_ble_eq_true rfl) (fun H locs hP hS n153 => ?_)
          refine lv_iconst (pc := 191) (v := (1 : Int32)) hx hb dL_between_191 (by decide) ?_
          refine lv_icmp_le (pc := 192) (tgt := 267) hx hb dL_between_192 (by decide) (fun c154 => ?_) (fun c154 => ?_)
          · have h := (if_pos c154).symm.trans h
            exact hB267 M x1 x2 y1 y3 _ _ _ h hP hS (lv_sub hl [2, 3, 4, 1, 0] rfl)
          · have h := (if_neg c154).symm.trans h
            refine lv_iconst (pc := 195) (v := (1 : Int32)) hx hb dL_between_195 (by decide) ?_
            refine lv_iload_n (pc := 196) hx hb dL_between_196 rfl (lv_at hl 4 rfl) ?_
            refine lv_aload_n (pc := 197) hx hb dL_between_197 rfl (lv_at hl 2 rfl) ?_
            refine lv_iconst (pc := 198) (v := (0 : Int32)) hx hb dL_between_198 (by decide) ?_
            obtain ⟨y155, hy155, h⟩ := bnd_ex h
            refine x_callVi (pc := 199) (st := .int (0 : Int32) :: .ref (ad 0) :: .int x2 :: .int (1 : Int32) :: []) (As := [.int (0 : Int32)]) E hEx hl.1 hP hS (kX7_count hap  M _ _ hy155) gL_15 hdX7_count rfl (by decide) sh7 rfl ⟨Nat.le_of_ble_eq_true rfl, Nat.le_of_ble_eq_true rfl⟩ ⟨rfl, rfl⟩ dL_between_199 rfl (Nat.le_of_ble_eq_true rfl) (fun H locs hP hS n156 => ?_)
            refine lv_iconst (pc := 202) (v := (1 : Int32)) hx hb dL_between_202 (by decide) ?_
            refine lv_isub (pc := 203) hx hb dL_between_203 ?_
            obtain ⟨y157, hy157, h⟩ := bnd_ex h
            refine x_callSi (pc := 204) (st := .int (y155 - (1 : Int32)) :: .int x2 :: .int (1 : Int32) :: []) (As := [.int x2, .int (y155 - (1 : Int32))]) E hEx hl.1 hP hS (kL_low hap  M _ _ _ hy157) gL_54 hsL_low rfl ⟨Nat.le_of_ble_eq_true rfl, Nat.le_of_ble_eq_true rfl⟩ ⟨rfl, rfl⟩ dL_between_204 rfl (Nat.le_of_ble_eq_true rfl) (fun H locs hP hS n158 => ?_)
            refine lv_iadd (pc := 207) hx hb dL_between_207 ?_
            refine lv_istore (pc := 208) (lv' := [(5, .int ((1 : Int32) + y157)), (4, .int y3), (3, .int y1), (0, .ref (ad 0)), (1, .int x1), (2, .int x2)]) hx hb dL_between_208 hl (by decide) rfl (fun ls hl => ?_)
            refine lv_aload_n (pc := 210) hx hb dL_between_210 rfl (lv_at hl 3 rfl) ?_
            refine lv_bipush (pc := 211) (v := (9 : Int32)) hx hb dL_between_211 (by decide) ?_
            obtain ⟨y159, hy159, h⟩ := bnd_ex h
            refine x_callVi (pc := 213) (st := .int (9 : Int32) :: .ref (ad 0) :: []) (As := [.int (9 : Int32)]) E hEx hl.1 hP hS (kX7_count hap  M _ _ hy159) gL_15 hdX7_count rfl (by decide) sh7 rfl ⟨Nat.le_of_ble_eq_true rfl, Nat.le_of_ble_eq_true rfl⟩ ⟨rfl, rfl⟩ dL_between_213 rfl (Nat.le_of_ble_eq_true rfl) (fun H locs hP hS n160 => ?_)
            refine lv_istore (pc := 216) (lv' := [(6, .int y159), (5, .int ((1 : Int32) + y157)), (4, .int y3), (3, .int y1), (0, .ref (ad 0)), (1, .int x1), (2, .int x2)]) hx hb dL_between_216 hl (by decide) rfl (fun ls hl => ?_)
            refine lv_aload_n (pc := 218) hx hb dL_between_218 rfl (lv_at hl 4 rfl) ?_
            refine lv_iload (pc := 219) hx hb dL_between_219 (lv_at hl 1 rfl) ?_
            obtain ⟨q161, hq161, h⟩ := bnd_ex h
            refine x_callVi (pc := 221) (st := .int ((1 : Int32) + y157) :: .ref (ad 0) :: []) (As := [.int ((1 : Int32) + y157)]) E hEx hl.1 hP hS (kX7_setExit hap  M _ _ _ hq161) gL_107 hdX7_setExit rfl (by decide) sh7 rfl ⟨Nat.le_of_ble_eq_true rfl, Nat.le_of_ble_eq_true rfl⟩ ⟨rfl, rfl⟩ dL_between_221 rfl (Nat.le_of_ble_eq_true rfl) (fun H locs hP hS n162 => ?_)
            refine lv_iload (pc := 224) hx hb dL_between_224 (lv_at hl 0 rfl) ?_
            refine lv_iload (pc := 226) hx hb dL_between_226 (lv_at hl 1 rfl) ?_
            refine lv_icmp_ne (pc := 228) (tgt := 236) hx hb dL_between_228 (by decide) (fun c163 => ?_) (fun c163 => ?_)
            · have h := (if_neg c163).symm.trans h
              refine lv_iload (pc := 236) hx hb dL_between_236 (lv_at hl 0 rfl) ?_
              refine lv_if_ge (pc := 238) (tgt := 245) hx hb dL_between_238 (by decide) (fun c164 => ?_) (fun c164 => ?_)
              · have h := (if_pos c164).symm.trans h
                refine lv_iload (pc := 245) hx hb dL_between_245 (lv_at hl 0 rfl) ?_
                refine lv_icmp_ne (pc := 247) (tgt := 265) hx hb dL_between_247 (by decide) (fun c165 => ?_) (fun c165 => ?_)
                · have h := (if_neg c165).symm.trans h
                  refine lv_iconst (pc := 265) (v := (0 : Int32)) hx hb dL_between_265 (by decide) ?_
                  obtain ⟨rfl, rfl⟩ := som2 h
                  exact x_iret E hP hS rfl dL_between_266
                · have h := (if_pos c165).symm.trans h
                  refine lv_aload_n (pc := 250) hx hb dL_between_250 rfl (lv_at hl 4 rfl) ?_
                  refine lv_bipush (pc := 251) (v := (9 : Int32)) hx hb dL_between_251 (by decide) ?_
                  obtain ⟨y166, hy166, h⟩ := bnd_ex h
                  refine x_callVi (pc := 253) (st := .int (9 : Int32) :: .ref (ad 0) :: []) (As := [.int (9 : Int32)]) E hEx hl.1 hP hS (kX7_count hap  q161.2 _ _ hy166) gL_15 hdX7_count rfl (by decide) sh7 rfl ⟨Nat.le_of_ble_eq_true rfl, Nat.le_of_ble_eq_true rfl⟩ ⟨rfl, rfl⟩ dL_between_253 rfl (Nat.le_of_ble_eq_true rfl) (fun H locs hP hS n167 => ?_)
                  refine lv_iload (pc := 256) hx hb dL_between_256 (lv_at hl 1 rfl) ?_
                  refine lv_icmp_ne (pc := 258) (tgt := 265) hx hb dL_between_258 (by decide) (fun c168 => ?_) (fun c168 => ?_)
                  · have h := (if_neg c168).symm.trans h
                    refine lv_iconst (pc := 265) (v := (0 : Int32)) hx hb dL_between_265 (by decide) ?_
                    obtain ⟨rfl, rfl⟩ := som2 h
                    exact x_iret E hP hS rfl dL_between_266
                  · have h := (if_pos c168).symm.trans h
                    refine lv_iconst (pc := 261) (v := (1 : Int32)) hx hb dL_between_261 (by decide) ?_
                    refine lv_goto (pc := 262) (tgt := 266) hx hb dL_between_262 (by decide) ?_
                    obtain ⟨rfl, rfl⟩ := som2 h
                    exact x_iret E hP hS rfl dL_between_266
              · have h := (if_neg c164).symm.trans h
                refine lv_iconst (pc := 241) (v := (0 : Int32)) hx hb dL_between_241 (by decide) ?_
                refine lv_goto (pc := 242) (tgt := 247) hx hb dL_between_242 (by decide) ?_
                refine lv_icmp_ne (pc := 247) (tgt := 265) hx hb dL_between_247 (by decide) (fun c169 => ?_) (fun c169 => ?_)
                · have h := (if_neg c169).symm.trans h
                  refine lv_iconst (pc := 265) (v := (0 : Int32)) hx hb dL_between_265 (by decide) ?_
                  obtain ⟨rfl, rfl⟩ := som2 h
                  exact x_iret E hP hS rfl dL_between_266
                · have h := (if_pos c169).symm.trans h
                  refine lv_aload_n (pc := 250) hx hb dL_between_250 rfl (lv_at hl 4 rfl) ?_
                  refine lv_bipush (pc := 251) (v := (9 : Int32)) hx hb dL_between_251 (by decide) ?_
                  obtain ⟨y170, hy170, h⟩ := bnd_ex h
                  refine x_callVi (pc := 253) (st := .int (9 : Int32) :: .ref (ad 0) :: []) (As := [.int (9 : Int32)]) E hEx hl.1 hP hS (kX7_count hap  q161.2 _ _ hy170) gL_15 hdX7_count rfl (by decide) sh7 rfl ⟨Nat.le_of_ble_eq_true rfl, Nat.le_of_ble_eq_true rfl⟩ ⟨rfl, rfl⟩ dL_between_253 rfl (Nat.le_of_ble_eq_true rfl) (fun H locs hP hS n171 => ?_)
                  refine lv_iload (pc := 256) hx hb dL_between_256 (lv_at hl 1 rfl) ?_
                  refine lv_icmp_ne (pc := 258) (tgt := 265) hx hb dL_between_258 (by decide) (fun c172 => ?_) (fun c172 => ?_)
                  · have h := (if_neg c172).symm.trans h
                    refine lv_iconst (pc := 265) (v := (0 : Int32)) hx hb dL_between_265 (by decide) ?_
                    obtain ⟨rfl, rfl⟩ := som2 h
                    exact x_iret E hP hS rfl dL_between_266
                  · have h := (if_pos c172).symm.trans h
                    refine lv_iconst (pc := 261) (v := (1 : Int32)) hx hb dL_between_261 (by decide) ?_
                    refine lv_goto (pc := 262) (tgt := 266) hx hb dL_between_262 (by decide) ?_
                    obtain ⟨rfl, rfl⟩ := som2 h
                    exact x_iret E hP hS rfl dL_between_266
            · have h := (if_pos c163).symm.trans h
              refine lv_bipush (pc := 231) (v := (-5 : Int32)) hx hb dL_between_231 (by decide) ?_
              refine lv_goto (pc := 233) (tgt := 247) hx hb dL_between_233 (by decide) ?_
              refine lv_icmp_ne (pc := 247) (tgt := 265) hx hb dL_between_247 (by decide) (fun c173 => ?_) (fun c173 => ?_)
              · have h := (if_neg c173).symm.trans h
                refine lv_iconst (pc := 265) (v := (0 : Int32)) hx hb dL_between_265 (by decide) ?_
                obtain ⟨rfl, rfl⟩ := som2 h
                exact x_iret E hP hS rfl dL_between_266
              · have h := (if_pos c173).symm.trans h
                refine lv_aload_n (pc := 250) hx hb dL_between_250 rfl (lv_at hl 4 rfl) ?_
                refine lv_bipush (pc := 251) (v := (9 : Int32)) hx hb dL_between_251 (by decide) ?_
                obtain ⟨y174, hy174, h⟩ := bnd_ex h
                refine x_callVi (pc := 253) (st := .int (9 : Int32) :: .ref (ad 0) :: []) (As := [.int (9 : Int32)]) E hEx hl.1 hP hS (kX7_count hap  q161.2 _ _ hy174) gL_15 hdX7_count rfl (by decide) sh7 rfl ⟨Nat.le_of_ble_eq_true rfl, Nat.le_of_ble_eq_true rfl⟩ ⟨rfl, rfl⟩ dL_between_253 rfl (Nat.le_of_ble_eq_true rfl) (fun H locs hP hS n175 => ?_)
                refine lv_iload (pc := 256) hx hb dL_between_256 (lv_at hl 1 rfl) ?_
                refine lv_icmp_ne (pc := 258) (tgt := 265) hx hb dL_between_258 (by decide) (fun c176 => ?_) (fun c176 => ?_)
                · have h := (if_neg c176).symm.trans h
                  refine lv_iconst (pc := 265) (v := (0 : Int32)) hx hb dL_between_265 (by decide) ?_
                  obtain ⟨rfl, rfl⟩ := som2 h
                  exact x_iret E hP hS rfl dL_between_266
                · have h := (if_pos c176).symm.trans h
                  refine lv_iconst (pc := 261) (v := (1 : Int32)) hx hb dL_between_261 (by decide) ?_
                  refine lv_goto (pc := 262) (tgt := 266) hx hb dL_between_262 (by decide) ?_
                  obtain ⟨rfl, rfl⟩ := som2 h
                  exact x_iret E hP hS rfl dL_between_266
      · have h := (if_pos c7).symm.trans h
        refine lv_aload_n (pc := 154) hx hb dL_between_154 rfl (lv_at hl 2 rfl) ?_
        refine lv_iconst (pc := 155) (v := (1 : Int32)) hx hb dL_between_155 (by decide) ?_
        refine lv_iload_n (pc := 156) hx hb dL_between_156 rfl (lv_at hl 4 rfl) ?_
        refine lv_bipush (pc := 157) (v := (12 : Int32)) hx hb dL_between_157 (by decide) ?_
        obtain ⟨y177, hy177, h⟩ := bnd_ex h
        refine x_callSi (pc := 159) (st := .int (12 : Int32) :: .int x2 :: .int (1 : Int32) :: .ref (ad 0) :: []) (As := [.int x2, .int (12 : Int32)]) E hEx hl.1 hP hS (kL_low hap  M _ _ _ hy177) gL_54 hsL_low rfl ⟨Nat.le_of_ble_eq_true rfl, Nat.le_of_ble_eq_true rfl⟩ ⟨rfl, rfl⟩ dL_between_159 rfl (Nat.le_of_ble_eq_true rfl) (fun H locs hP hS n178 => ?_)
        refine lv_iadd (pc := 162) hx hb dL_between_162 ?_
        obtain ⟨q179, hq179, h⟩ := bnd_ex h
        refine x_callVi (pc := 163) (st := .int ((1 : Int32) + y177) :: .ref (ad 0) :: []) (As := [.int ((1 : Int32) + y177)]) E hEx hl.1 hP hS (kX7_addPaint hap  M _ _ _ hq179) gL_104 hdX7_addPaint rfl (by decide) sh7 rfl ⟨Nat.le_of_ble_eq_true rfl, Nat.le_of_ble_eq_true rfl⟩ ⟨rfl, rfl⟩ dL_between_163 rfl (Nat.le_of_ble_eq_true rfl) (fun H locs hP hS n180 => ?_)
        refine lv_aload_n (pc := 166) hx hb dL_between_166 rfl (lv_at hl 2 rfl) ?_
        refine lv_bipush (pc := 167) (v := (6 : Int32)) hx hb dL_between_167 (by decide) ?_
        obtain ⟨y181, hy181, h⟩ := bnd_ex h
        refine x_callVi (pc := 169) (st := .int (6 : Int32) :: .ref (ad 0) :: .int q179.1 :: []) (As := [.int (6 : Int32)]) E hEx hl.1 hP hS (kX7_count hap  q179.2 _ _ hy181) gL_15 hdX7_count rfl (by decide) sh7 rfl ⟨Nat.le_of_ble_eq_true rfl, Nat.le_of_ble_eq_true rfl⟩ ⟨rfl, rfl⟩ dL_between_169 rfl (Nat.le_of_ble_eq_true rfl) (fun H locs hP hS n182 => ?_)
        refine lv_icmp_ne (pc := 172) (tgt := 179) hx hb dL_between_172 (by decide) (fun c183 => ?_) (fun c183 => ?_)
        · have h := (if_neg c183).symm.trans h
          refine lv_iconst (pc := 179) (v := (0 : Int32)) hx hb dL_between_179 (by decide) ?_
          obtain ⟨rfl, rfl⟩ := som2 h
          exact x_iret E hP hS rfl dL_between_180
        · have h := (if_pos c183).symm.trans h
          refine lv_iconst (pc := 175) (v := (1 : Int32)) hx hb dL_between_175 (by decide) ?_
          refine lv_goto (pc := 176) (tgt := 180) hx hb dL_between_176 (by decide) ?_
          obtain ⟨rfl, rfl⟩ := som2 h
          exact x_iret E hP hS rfl dL_between_180
    · have h := (if_pos c6).symm.trans h
      refine lv_aload_n (pc := 55) hx hb dL_between_55 rfl (lv_at hl 2 rfl) ?_
      refine lv_iconst (pc := 56) (v := (3 : Int32)) hx hb dL_between_56 (by decide) ?_
      obtain ⟨y184, hy184, h⟩ := bnd_ex h
      refine x_callVi (pc := 57) (st := .int (3 : Int32) :: .ref (ad 0) :: []) (As := [.int (3 : Int32)]) E hEx hl.1 hP hS (kX7_differences hap  M _ _ hy184) gL_31 hdX7_differences rfl (by decide) sh7 rfl ⟨Nat.le_of_ble_eq_true rfl, Nat.le_of_ble_eq_true rfl⟩ ⟨rfl, rfl⟩ dL_between_57 rfl (Nat.le_of_ble_eq_true rfl) (fun H locs hP hS n185 => ?_)
      refine lv_istore (pc := 60) (lv' := [(5, .int y184), (4, .int y3), (3, .int y1), (0, .ref (ad 0)), (1, .int x1), (2, .int x2)]) hx hb dL_between_60 hl (by decide) rfl (fun ls hl => ?_)
      refine lv_aload_n (pc := 62) hx hb dL_between_62 rfl (lv_at hl 3 rfl) ?_
      refine lv_iconst (pc := 63) (v := (4 : Int32)) hx hb dL_between_63 (by decide) ?_
      obtain ⟨y186, hy186, h⟩ := bnd_ex h
      refine x_callVi (pc := 64) (st := .int (4 : Int32) :: .ref (ad 0) :: []) (As := [.int (4 : Int32)]) E hEx hl.1 hP hS (kX7_differences hap  M _ _ hy186) gL_31 hdX7_differences rfl (by decide) sh7 rfl ⟨Nat.le_of_ble_eq_true rfl, Nat.le_of_ble_eq_true rfl⟩ ⟨rfl, rfl⟩ dL_between_64 rfl (Nat.le_of_ble_eq_true rfl) (fun H locs hP hS n187 => ?_)
      refine lv_istore (pc := 67) (lv' := [(6, .int y186), (5, .int y184), (4, .int y3), (3, .int y1), (0, .ref (ad 0)), (1, .int x1), (2, .int x2)]) hx hb dL_between_67 hl (by decide) rfl (fun ls hl => ?_)
      refine lv_aload_n (pc := 69) hx hb dL_between_69 rfl (lv_at hl 4 rfl) ?_
      refine lv_bipush (pc := 70) (v := (6 : Int32)) hx hb dL_between_70 (by decide) ?_
      obtain ⟨y188, hy188, h⟩ := bnd_ex h
      refine x_callVi (pc := 72) (st := .int (6 : Int32) :: .ref (ad 0) :: []) (As := [.int (6 : Int32)]) E hEx hl.1 hP hS (kX7_count hap  M _ _ hy188) gL_15 hdX7_count rfl (by decide) sh7 rfl ⟨Nat.le_of_ble_eq_true rfl, Nat.le_of_ble_eq_true rfl⟩ ⟨rfl, rfl⟩ dL_between_72 rfl (Nat.le_of_ble_eq_true rfl) (fun H locs hP hS n189 => ?_)
      refine lv_istore (pc := 75) (lv' := [(7, .int y188), (6, .int y186), (5, .int y184), (4, .int y3), (3, .int y1), (0, .ref (ad 0)), (1, .int x1), (2, .int x2)]) hx hb dL_between_75 hl (by decide) rfl (fun ls hl => ?_)
      refine lv_aload_n (pc := 77) hx hb dL_between_77 rfl (lv_at hl 5 rfl) ?_
      obtain ⟨q190, hq190, h⟩ := bnd_ex h
      refine x_callVi (pc := 78) (st := .ref (ad 0) :: []) (As := []) E hEx hl.1 hP hS (kX7_reset hap  M  _ _ hq190) gL_101 hdX7_reset rfl (by decide) sh7 rfl ⟨Nat.le_of_ble_eq_true rfl, Nat.le_of_ble_eq_true rfl⟩ ⟨rfl, rfl⟩ dL_between_78 rfl (Nat.le_of_ble_eq_true rfl) (fun H locs hP hS n191 => ?_)
      refine lv_istore (pc := 81) (lv' := [(8, .int q190.1), (7, .int y188), (6, .int y186), (5, .int y184), (4, .int y3), (3, .int y1), (0, .ref (ad 0)), (1, .int x1), (2, .int x2)]) hx hb dL_between_81 hl (by decide) rfl (fun ls hl => ?_)
      refine lv_iload (pc := 83) hx hb dL_between_83 (lv_at hl 0 rfl) ?_
      refine lv_iload (pc := 85) hx hb dL_between_85 (lv_at hl 3 rfl) ?_
      refine lv_if_ne (pc := 87) (tgt := 95) hx hb dL_between_87 (by decide) (fun c192 => ?_) (fun c192 => ?_)
      · have h := (if_neg c192).symm.trans h
        refine lv_iload (pc := 95) hx hb dL_between_95 (lv_at hl 3 rfl) ?_
        refine lv_icmp_ne (pc := 97) (tgt := 147) hx hb dL_between_97 (by decide) (fun c193 => ?_) (fun c193 => ?_)
        · have h := (if_neg c193).symm.trans h
          refine lv_iconst (pc := 147) (v := (0 : Int32)) hx hb dL_between_147 (by decide) ?_
          obtain ⟨rfl, rfl⟩ := som2 h
          exact x_iret E hP hS rfl dL_between_148
        · have h := (if_pos c193).symm.trans h
          refine lv_aload_n (pc := 100) hx hb dL_between_100 rfl (lv_at hl 6 rfl) ?_
          refine lv_iconst (pc := 101) (v := (5 : Int32)) hx hb dL_between_101 (by decide) ?_
          obtain ⟨y194, hy194, h⟩ := bnd_ex h
          refine x_callVi (pc := 102) (st := .int (5 : Int32) :: .ref (ad 0) :: []) (As := [.int (5 : Int32)]) E hEx hl.1 hP hS (kX7_count hap  q190.2 _ _ hy194) gL_15 hdX7_count rfl (by decide) sh7 rfl ⟨Nat.le_of_ble_eq_true rfl, Nat.le_of_ble_eq_true rfl⟩ ⟨rfl, rfl⟩ dL_between_102 rfl (Nat.le_of_ble_eq_true rfl) (fun H locs hP hS n195 => ?_)
          refine lv_iload (pc := 105) hx hb dL_between_105 (lv_at hl 4 rfl) ?_
          refine lv_iload (pc := 107) hx hb dL_between_107 (lv_at hl 3 rfl) ?_
          refine lv_iadd (pc := 109) hx hb dL_between_109 ?_
          refine lv_icmp_ne (pc := 110) (tgt := 147) hx hb dL_between_110 (by decide) (fun c196 => ?_) (fun c196 => ?_)
          · have h := (if_neg c196).symm.trans h
            refine lv_iconst (pc := 147) (v := (0 : Int32)) hx hb dL_between_147 (by decide) ?_
            obtain ⟨rfl, rfl⟩ := som2 h
            exact x_iret E hP hS rfl dL_between_148
          · have h := (if_pos c196).symm.trans h
            refine lv_aload_n (pc := 113) hx hb dL_between_113 rfl (lv_at hl 6 rfl) ?_
            refine lv_iconst (pc := 114) (v := (0 : Int32)) hx hb dL_between_114 (by decide) ?_
            obtain ⟨y197, hy197, h⟩ := bnd_ex h
            refine x_callVi (pc := 115) (st := .int (0 : Int32) :: .ref (ad 0) :: []) (As := [.int (0 : Int32)]) E hEx hl.1 hP hS (kX7_differences hap  q190.2 _ _ hy197) gL_31 hdX7_differences rfl (by decide) sh7 rfl ⟨Nat.le_of_ble_eq_true rfl, Nat.le_of_ble_eq_true rfl⟩ ⟨rfl, rfl⟩ dL_between_115 rfl (Nat.le_of_ble_eq_true rfl) (fun H locs hP hS n198 => ?_)
            refine lv_if_ne (pc := 118) (tgt := 147) hx hb dL_between_118 (by decide) (fun c199 => ?_) (fun c199 => ?_)
            · have h := (if_neg c199).symm.trans h
              refine lv_iconst (pc := 147) (v := (0 : Int32)) hx hb dL_between_147 (by decide) ?_
              obtain ⟨rfl, rfl⟩ := som2 h
              exact x_iret E hP hS rfl dL_between_148
            · have h := (if_pos c199).symm.trans h
              refine lv_aload_n (pc := 121) hx hb dL_between_121 rfl (lv_at hl 6 rfl) ?_
              refine lv_iconst (pc := 122) (v := (1 : Int32)) hx hb dL_between_122 (by decide) ?_
              obtain ⟨y200, hy200, h⟩ := bnd_ex h
              refine x_callVi (pc := 123) (st := .int (1 : Int32) :: .ref (ad 0) :: []) (As := [.int (1 : Int32)]) E hEx hl.1 hP hS (kX7_differences hap  q190.2 _ _ hy200) gL_31 hdX7_differences rfl (by decide) sh7 rfl ⟨Nat.le_of_ble_eq_true rfl, Nat.le_of_ble_eq_true rfl⟩ ⟨rfl, rfl⟩ dL_between_123 rfl (Nat.le_of_ble_eq_true rfl) (fun H locs hP hS n201 => ?_)
              refine lv_if_ne (pc := 126) (tgt := 147) hx hb dL_between_126 (by decide) (fun c202 => ?_) (fun c202 => ?_)
              · have h := (if_neg c202).symm.trans h
                refine lv_iconst (pc := 147) (v := (0 : Int32)) hx hb dL_between_147 (by decide) ?_
                obtain ⟨rfl, rfl⟩ := som2 h
                exact x_iret E hP hS rfl dL_between_148
              · have h := (if_pos c202).symm.trans h
                refine lv_aload_n (pc := 129) hx hb dL_between_129 rfl (lv_at hl 6 rfl) ?_
                refine lv_bipush (pc := 130) (v := (6 : Int32)) hx hb dL_between_130 (by decide) ?_
                obtain ⟨y203, hy203, h⟩ := bnd_ex h
                refine x_callVi (pc := 132) (st := .int (6 : Int32) :: .ref (ad 0) :: []) (As := [.int (6 : Int32)]) E hEx hl.1 hP hS (kX7_count hap  q190.2 _ _ hy203) gL_15 hdX7_count rfl (by decide) sh7 rfl ⟨Nat.le_of_ble_eq_true rfl, Nat.le_of_ble_eq_true rfl⟩ ⟨rfl, rfl⟩ dL_between_132 rfl (Nat.le_of_ble_eq_true rfl) (fun H locs hP hS n204 => ?_)
                refine lv_iload (pc := 135) hx hb dL_between_135 (lv_at hl 1 rfl) ?_
                refine lv_iload (pc := 137) hx hb dL_between_137 (lv_at hl 2 rfl) ?_
                refine lv_isub (pc := 139) hx hb dL_between_139 ?_
                refine lv_icmp_ne (pc := 140) (tgt := 147) hx hb dL_between_140 (by decide) (fun c205 => ?_) (fun c205 => ?_)
                · have h := (if_neg c205).symm.trans h
                  refine lv_iconst (pc := 147) (v := (0 : Int32)) hx hb dL_between_147 (by decide) ?_
                  obtain ⟨rfl, rfl⟩ := som2 h
                  exact x_iret E hP hS rfl dL_between_148
                · have h := (if_pos c205).symm.trans h
                  refine lv_iconst (pc := 143) (v := (1 : Int32)) hx hb dL_between_143 (by decide) ?_
                  refine lv_goto (pc := 144) (tgt := 148) hx hb dL_between_144 (by decide) ?_
                  obtain ⟨rfl, rfl⟩ := som2 h
                  exact x_iret E hP hS rfl dL_between_148
      · have h := (if_pos c192).symm.trans h
        refine lv_bipush (pc := 90) (v := (-5 : Int32)) hx hb dL_between_90 (by decide) ?_
        refine lv_goto (pc := 92) (tgt := 97) hx hb dL_between_92 (by decide) ?_
        refine lv_icmp_ne (pc := 97) (tgt := 147) hx hb dL_between_97 (by decide) (fun c206 => ?_) (fun c206 => ?_)
        · have h := (if_neg c206).symm.trans h
          refine lv_iconst (pc := 147) (v := (0 : Int32)) hx hb dL_between_147 (by decide) ?_
          obtain ⟨rfl, rfl⟩ := som2 h
          exact x_iret E hP hS rfl dL_between_148
        · have h := (if_pos c206).symm.trans h
          refine lv_aload_n (pc := 100) hx hb dL_between_100 rfl (lv_at hl 6 rfl) ?_
          refine lv_iconst (pc := 101) (v := (5 : Int32)) hx hb dL_between_101 (by decide) ?_
          obtain ⟨y207, hy207, h⟩ := bnd_ex h
          refine x_callVi (pc := 102) (st := .int (5 : Int32) :: .ref (ad 0) :: []) (As := [.int (5 : Int32)]) E hEx hl.1 hP hS (kX7_count hap  q190.2 _ _ hy207) gL_15 hdX7_count rfl (by decide) sh7 rfl ⟨Nat.le_of_ble_eq_true rfl, Nat.le_of_ble_eq_true rfl⟩ ⟨rfl, rfl⟩ dL_between_102 rfl (Nat.le_of_ble_eq_true rfl) (fun H locs hP hS n208 => ?_)
          refine lv_iload (pc := 105) hx hb dL_between_105 (lv_at hl 4 rfl) ?_
          refine lv_iload (pc := 107) hx hb dL_between_107 (lv_at hl 3 rfl) ?_
          refine lv_iadd (pc := 109) hx hb dL_between_109 ?_
          refine lv_icmp_ne (pc := 110) (tgt := 147) hx hb dL_between_110 (by decide) (fun c209 => ?_) (fun c209 => ?_)
          · have h := (if_neg c209).symm.trans h
            refine lv_iconst (pc := 147) (v := (0 : Int32)) hx hb dL_between_147 (by decide) ?_
            obtain ⟨rfl, rfl⟩ := som2 h
            exact x_iret E hP hS rfl dL_between_148
          · have h := (if_pos c209).symm.trans h
            refine lv_aload_n (pc := 113) hx hb dL_between_113 rfl (lv_at hl 6 rfl) ?_
            refine lv_iconst (pc := 114) (v := (0 : Int32)) hx hb dL_between_114 (by decide) ?_
            obtain ⟨y210, hy210, h⟩ := bnd_ex h
            refine x_callVi (pc := 115) (st := .int (0 : Int32) :: .ref (ad 0) :: []) (As := [.int (0 : Int32)]) E hEx hl.1 hP hS (kX7_differences hap  q190.2 _ _ hy210) gL_31 hdX7_differences rfl (by decide) sh7 rfl ⟨Nat.le_of_ble_eq_true rfl, Nat.le_of_ble_eq_true rfl⟩ ⟨rfl, rfl⟩ dL_between_115 rfl (Nat.le_of_ble_eq_true rfl) (fun H locs hP hS n211 => ?_)
            refine lv_if_ne (pc := 118) (tgt := 147) hx hb dL_between_118 (by decide) (fun c212 => ?_) (fun c212 => ?_)
            · have h := (if_neg c212).symm.trans h
              refine lv_iconst (pc := 147) (v := (0 : Int32)) hx hb dL_between_147 (by decide) ?_
              obtain ⟨rfl, rfl⟩ := som2 h
              exact x_iret E hP hS rfl dL_between_148
            · have h := (if_pos c212).symm.trans h
              refine lv_aload_n (pc := 121) hx hb dL_between_121 rfl (lv_at hl 6 rfl) ?_
              refine lv_iconst (pc := 122) (v := (1 : Int32)) hx hb dL_between_122 (by decide) ?_
              obtain ⟨y213, hy213, h⟩ := bnd_ex h
              refine x_callVi (pc := 123) (st := .int (1 : Int32) :: .ref (ad 0) :: []) (As := [.int (1 : Int32)]) E hEx hl.1 hP hS (kX7_differences hap  q190.2 _ _ hy213) gL_31 hdX7_differences rfl (by decide) sh7 rfl ⟨Nat.le_of_ble_eq_true rfl, Nat.le_of_ble_eq_true rfl⟩ ⟨rfl, rfl⟩ dL_between_123 rfl (Nat.le_of_ble_eq_true rfl) (fun H locs hP hS n214 => ?_)
              refine lv_if_ne (pc := 126) (tgt := 147) hx hb dL_between_126 (by decide) (fun c215 => ?_) (fun c215 => ?_)
              · have h := (if_neg c215).symm.trans h
                refine lv_iconst (pc := 147) (v := (0 : Int32)) hx hb dL_between_147 (by decide) ?_
                obtain ⟨rfl, rfl⟩ := som2 h
                exact x_iret E hP hS rfl dL_between_148
              · have h := (if_pos c215).symm.trans h
                refine lv_aload_n (pc := 129) hx hb dL_between_129 rfl (lv_at hl 6 rfl) ?_
                refine lv_bipush (pc := 130) (v := (6 : Int32)) hx hb dL_between_130 (by decide) ?_
                obtain ⟨y216, hy216, h⟩ := bnd_ex h
                refine x_callVi (pc := 132) (st := .int (6 : Int32) :: .ref (ad 0) :: []) (As := [.int (6 : Int32)]) E hEx hl.1 hP hS (kX7_count hap  q190.2 _ _ hy216) gL_15 hdX7_count rfl (by decide) sh7 rfl ⟨Nat.le_of_ble_eq_true rfl, Nat.le_of_ble_eq_true rfl⟩ ⟨rfl, rfl⟩ dL_between_132 rfl (Nat.le_of_ble_eq_true rfl) (fun H locs hP hS n217 => ?_)
                refine lv_iload (pc := 135) hx hb dL_between_135 (lv_at hl 1 rfl) ?_
                refine lv_iload (pc := 137) hx hb dL_between_137 (lv_at hl 2 rfl) ?_
                refine lv_isub (pc := 139) hx hb dL_between_139 ?_
                refine lv_icmp_ne (pc := 140) (tgt := 147) hx hb dL_between_140 (by decide) (fun c218 => ?_) (fun c218 => ?_)
                · have h := (if_neg c218).symm.trans h
                  refine lv_iconst (pc := 147) (v := (0 : Int32)) hx hb dL_between_147 (by decide) ?_
                  obtain ⟨rfl, rfl⟩ := som2 h
                  exact x_iret E hP hS rfl dL_between_148
                · have h := (if_pos c218).symm.trans h
                  refine lv_iconst (pc := 143) (v := (1 : Int32)) hx hb dL_between_143 (by decide) ?_
                  refine lv_goto (pc := 144) (tgt := 148) hx hb dL_between_144 (by decide) ?_
                  obtain ⟨rfl, rfl⟩ := som2 h
                  exact x_iret E hP hS rfl dL_between_148
  · have h := (if_pos c5).symm.trans h
    refine lv_aload_n (pc := 18) hx hb dL_between_18 rfl (lv_at hl 2 rfl) ?_
    refine lv_iconst (pc := 19) (v := (1 : Int32)) hx hb dL_between_19 (by decide) ?_
    refine lv_iload_n (pc := 20) hx hb dL_between_20 rfl (lv_at hl 4 rfl) ?_
    refine lv_bipush (pc := 21) (v := (100 : Int32)) hx hb dL_between_21 (by decide) ?_
    obtain ⟨y219, hy219, h⟩ := bnd_ex h
    refine x_callSi (pc := 23) (st := .int (100 : Int32) :: .int x2 :: .int (1 : Int32) :: .ref (ad 0) :: []) (As := [.int x2, .int (100 : Int32)]) E hEx hl.1 hP hS (kL_low hap  M _ _ _ hy219) gL_54 hsL_low rfl ⟨Nat.le_of_ble_eq_true rfl, Nat.le_of_ble_eq_true rfl⟩ ⟨rfl, rfl⟩ dL_between_23 rfl (Nat.le_of_ble_eq_true rfl) (fun H locs hP hS n220 => ?_)
    refine lv_iadd (pc := 26) hx hb dL_between_26 ?_
    obtain ⟨q221, hq221, h⟩ := bnd_ex h
    refine x_callVi (pc := 27) (st := .int ((1 : Int32) + y219) :: .ref (ad 0) :: []) (As := [.int ((1 : Int32) + y219)]) E hEx hl.1 hP hS (kX7_idle hap  M _ _ _ hq221) gL_98 hdX7_idle rfl (by decide) sh7 rfl ⟨Nat.le_of_ble_eq_true rfl, Nat.le_of_ble_eq_true rfl⟩ ⟨rfl, rfl⟩ dL_between_27 rfl (Nat.le_of_ble_eq_true rfl) (fun H locs hP hS n222 => ?_)
    refine lv_iload (pc := 30) hx hb dL_between_30 (lv_at hl 0 rfl) ?_
    refine lv_iconst (pc := 32) (v := (1 : Int32)) hx hb dL_between_32 (by decide) ?_
    refine lv_iadd (pc := 33) hx hb dL_between_33 ?_
    refine lv_iload_n (pc := 34) hx hb dL_between_34 rfl (lv_at hl 4 rfl) ?_
    refine lv_bipush (pc := 35) (v := (100 : Int32)) hx hb dL_between_35 (by decide) ?_
    obtain ⟨y223, hy223, h⟩ := bnd_ex h
    refine x_callSi (pc := 37) (st := .int (100 : Int32) :: .int x2 :: .int (y3 + (1 : Int32)) :: .int q221.1 :: []) (As := [.int x2, .int (100 : Int32)]) E hEx hl.1 hP hS (kL_low hap  q221.2 _ _ _ hy223) gL_54 hsL_low rfl ⟨Nat.le_of_ble_eq_true rfl, Nat.le_of_ble_eq_true rfl⟩ ⟨rfl, rfl⟩ dL_between_37 rfl (Nat.le_of_ble_eq_true rfl) (fun H locs hP hS n224 => ?_)
    refine lv_iadd (pc := 40) hx hb dL_between_40 ?_
    refine lv_icmp_ne (pc := 41) (tgt := 48) hx hb dL_between_41 (by decide) (fun c225 => ?_) (fun c225 => ?_)
    · have h := (if_neg c225).symm.trans h
      refine lv_iconst (pc := 48) (v := (0 : Int32)) hx hb dL_between_48 (by decide) ?_
      obtain ⟨rfl, rfl⟩ := som2 h
      exact x_iret E hP hS rfl dL_between_49
    · have h := (if_pos c225).symm.trans h
      refine lv_iconst (pc := 44) (v := (1 : Int32)) hx hb dL_between_44 (by decide) ?_
      refine lv_goto (pc := 45) (tgt := 49) hx hb dL_between_45 (by decide) ?_
      obtain ⟨rfl, rfl⟩ := som2 h
      exact x_iret E hP hS rfl dL_between_49
set_option maxRecDepth 100000 in
set_option maxHeartbeats 4000000 in
theorem kL_log (hap : Apart 78 ad)   (M : Mem)  (v : Int32) (h : fL_log M = some v) : XI G ad sK sV cA cZ cC yL_log cL_log 7 .boolean ({ frames := 3, cells := 0, slots := 0, locals := 65 } : Room) [.ref (ad 0)] M v M := by
  refine CI.mk (own := RL) (ls0 := [(0, .ref (ad 0))]) (by decide +kernel) rfl hap (Nat.le_of_ble_eq_true rfl) rfl ?_
  intro p l e s m args below meth c ls E hP hl
  have hx := E.1
  have hb := E.2.1
  have hown := E.2.2.2.2.2.1
  have hts := E.2.2.2.2.2.2.1
  have hNe := E.2.2.2.2.2.2.2.2.1.1
  have hEx := ExX.ok ad sK sV
  have hS : va_S (AW 78 ad) s.heap s.heap [] := va_S.rf
  have hL17 : ∀ (n : Nat) (M : Mem) (x1 x2 x3 x4 x5 : Int32) (H : Heap) (locs : List Loc) (ls : Array Slot), fL_log_L17 n M x1 x2 x3 x4 x5 = some v → va_P G vwCl (WW 78 (shX cA ad) ad M) H → va_S (AW 78 ad) s.heap H locs → lv_has ls 7 [(0, .ref (ad 0)), (1, .int x1), (2, .int x2), (3, .int x3), (4, .int x4), (5, .int x5)] → W p l e ({ frames := 3, cells := 0, slots := 0, locals := 65 } : Room) s m args below meth c H locs 0 0 (QI below G 78 (shX cA ad) ad .boolean args s v M) (F0 m 17 ls []) := by
    intro n
    induction n with
    | zero => intro M x1 x2 x3 x4 x5 H locs ls h; cases h
    | succ n ih =>
      intro M x1 x2 x3 x4 x5 H locs ls h hP hS hl
      rw [fL_log_L17] at h
      refine lv_iload (pc := 17) hx hb dL_log_17 (lv_at hl 5 rfl) ?_
      refine lv_iload_n (pc := 19) hx hb dL_log_19 rfl (lv_at hl 1 rfl) ?_
      refine lv_icmp_ge (pc := 20) (tgt := 95) hx hb dL_log_20 (by decide) (fun c3 => ?_) (fun c3 => ?_)
      · have h := (if_pos c3).symm.trans h
        refine lv_iload (pc := 95) hx hb dL_log_95 (lv_at hl 4 rfl) ?_
        refine lv_if_eq (pc := 97) (tgt := 134) hx hb dL_log_97 (by decide) (fun c4 => ?_) (fun c4 => ?_)
        · have h := (if_pos c4).symm.trans h
          refine lv_iconst (pc := 134) (v := (0 : Int32)) hx hb dL_log_134 (by decide) ?_
          obtain rfl := som1 h
          exact x_iret E hP hS rfl dL_log_135
        · have h := (if_neg c4).symm.trans h
          refine lv_aload_n (pc := 100) hx hb dL_log_100 rfl (lv_at hl 0 rfl) ?_
          refine lv_iload_n (pc := 101) hx hb dL_log_101 rfl (lv_at hl 1 rfl) ?_
          refine x_callVi (pc := 102) (st := .int x1 :: .ref (ad 0) :: []) (As := [.int x1]) E hEx hl.1 hP hS (kX7_logAt hap  M _ _ rfl) gL_123 hdX7_logAt rfl (by decide) sh7 rfl ⟨Nat.le_of_ble_eq_true rfl, Nat.le_of_ble_eq_true rfl⟩ ⟨rfl, rfl⟩ dL_log_102 rfl (Nat.le_of_ble_eq_true rfl) (fun H locs hP hS n5 => ?_)
          refine lv_bipush (pc := 105) (v := (-5 : Int32)) hx hb dL_log_105 (by decide) ?_
          refine lv_icmp_ne (pc := 107) (tgt := 134) hx hb dL_log_107 (by decide) (fun c6 => ?_) (fun c6 => ?_)
          · have h := (if_neg c6).symm.trans h
            refine lv_iconst (pc := 134) (v := (0 : Int32)) hx hb dL_log_134 (by decide) ?_
            obtain rfl := som1 h
            exact x_iret E hP hS rfl dL_log_135
          · have h := (if_pos c6).symm.trans h
            refine lv_aload_n (pc := 110) hx hb dL_log_110 rfl (lv_at hl 0 rfl) ?_
            refine lv_iconst (pc := 111) (v := (-1 : Int32)) hx hb dL_log_111 (by decide) ?_
            refine x_callVi (pc := 112) (st := .int (-1 : Int32) :: .ref (ad 0) :: []) (As := [.int (-1 : Int32)]) E hEx hl.1 hP hS (kX7_logAt hap  M _ _ rfl) gL_123 hdX7_logAt rfl (by decide) sh7 rfl ⟨Nat.le_of_ble_eq_true rfl, Nat.le_of_ble_eq_true rfl⟩ ⟨rfl, rfl⟩ dL_log_112 rfl (Nat.le_of_ble_eq_true rfl) (fun H locs hP hS n7 => ?_)
            refine lv_bipush (pc := 115) (v := (-2 : Int32)) hx hb dL_log_115 (by decide) ?_
            refine lv_icmp_ne (pc := 117) (tgt := 134) hx hb dL_log_117 (by decide) (fun c8 => ?_) (fun c8 => ?_)
            · have h := (if_neg c8).symm.trans h
              refine lv_iconst (pc := 134) (v := (0 : Int32)) hx hb dL_log_134 (by decide) ?_
              obtain rfl := som1 h
              exact x_iret E hP hS rfl dL_log_135
            · have h := (if_pos c8).symm.trans h
              refine lv_iload_n (pc := 120) hx hb dL_log_120 rfl (lv_at hl 3 rfl) ?_
              refine lv_aload_n (pc := 121) hx hb dL_log_121 rfl (lv_at hl 0 rfl) ?_
              refine lv_bipush (pc := 122) (v := (12 : Int32)) hx hb dL_log_122 (by decide) ?_
              obtain ⟨y9, hy9, h⟩ := bnd_ex h
              refine x_callVi (pc := 124) (st := .int (12 : Int32) :: .ref (ad 0) :: .int x3 :: []) (As := [.int (12 : Int32)]) E hEx hl.1 hP hS (kX7_count hap  M _ _ hy9) gL_15 hdX7_count rfl (by decide) sh7 rfl ⟨Nat.le_of_ble_eq_true rfl, Nat.le_of_ble_eq_true rfl⟩ ⟨rfl, rfl⟩ dL_log_124 rfl (Nat.le_of_ble_eq_true rfl) (fun H locs hP hS n10 => ?_)
              refine lv_icmp_gt (pc := 127) (tgt := 134) hx hb dL_log_127 (by decide) (fun c11 => ?_) (fun c11 => ?_)
              · have h := (if_pos c11).symm.trans h
                refine lv_iconst (pc := 134) (v := (0 : Int32)) hx hb dL_log_134 (by decide) ?_
                obtain rfl := som1 h
                exact x_iret E hP hS rfl dL_log_135
              · have h := (if_neg c11).symm.trans h
                refine lv_iconst (pc := 130) (v := (1 : Int32)) hx hb dL_log_130 (by decide) ?_
                refine lv_goto (pc := 131) (tgt := 135) hx hb dL_log_131 (by decide) ?_
                obtain rfl := som1 h
                exact x_iret E hP hS rfl dL_log_135
      · have h := (if_neg c3).symm.trans h
        refine lv_aload_n (pc := 23) hx hb dL_log_23 rfl (lv_at hl 0 rfl) ?_
        refine lv_iload (pc := 24) hx hb dL_log_24 (lv_at hl 5 rfl) ?_
        refine x_callVi (pc := 26) (st := .int x5 :: .ref (ad 0) :: []) (As := [.int x5]) E hEx hl.1 hP hS (kX7_logAt hap  M _ _ rfl) gL_123 hdX7_logAt rfl (by decide) sh7 rfl ⟨Nat.le_of_ble_eq_true rfl, Nat.le_of_ble_eq_true rfl⟩ ⟨rfl, rfl⟩ dL_log_26 rfl (Nat.le_of_ble_eq_true rfl) (fun H locs hP hS n12 => ?_)
        refine lv_istore (pc := 29) (lv' := [(6, .int (fX7_logAt M x5)), (0, .ref (ad 0)), (1, .int x1), (2, .int x2), (3, .int x3), (4, .int x4), (5, .int x5)]) hx hb dL_log_29 hl (by decide) rfl (fun ls hl => ?_)
        refine lv_iload (pc := 31) hx hb dL_log_31 (lv_at hl 5 rfl) ?_
        refine lv_if_eq (pc := 33) (tgt := 60) hx hb dL_log_33 (by decide) (fun c13 => ?_) (fun c13 => ?_)
        · have h := (if_pos c13).symm.trans h
          refine lv_iload (pc := 60) hx hb dL_log_60 (lv_at hl 5 rfl) ?_
          refine lv_if_eq (pc := 62) (tgt := 79) hx hb dL_log_62 (by decide) (fun c14 => ?_) (fun c14 => ?_)
          · have h := (if_pos c14).symm.trans h
            refine lv_iload (pc := 79) hx hb dL_log_79 (lv_at hl 0 rfl) ?_
            refine lv_bipush (pc := 81) (v := (47 : Int32)) hx hb dL_log_81 (by decide) ?_
            refine lv_icmp_ne (pc := 83) (tgt := 89) hx hb dL_log_83 (by decide) (fun c15 => ?_) (fun c15 => ?_)
            · have h := (if_neg c15).symm.trans h
              refine lv_iinc (pc := 89) (v := (x5 + 1)) (lv' := [(5, .int (x5 + 1)), (6, .int (fX7_logAt M x5)), (0, .ref (ad 0)), (1, .int x1), (2, .int x2), (3, .int x3), (4, .int x4)]) hx hb dL_log_89 hl (k := 6) rfl rfl (by decide) rfl (fun ls hl => ?_)
              refine lv_goto (pc := 92) (tgt := 17) hx hb dL_log_92 (by decide) ?_
              exact ih M x1 x2 x3 x4 (x5 + 1) _ _ _ h hP hS (lv_sub hl [2, 3, 4, 5, 6, 0] rfl)
            · have h := (if_pos c15).symm.trans h
              refine lv_iconst (pc := 86) (v := (1 : Int32)) hx hb dL_log_86 (by decide) ?_
              refine lv_istore (pc := 87) (lv' := [(4, .int (1 : Int32)), (6, .int (fX7_logAt M x5)), (0, .ref (ad 0)), (1, .int x1), (2, .int x2), (3, .int x3), (5, .int x5)]) hx hb dL_log_87 hl (by decide) rfl (fun ls hl => ?_)
              refine lv_iinc (pc := 89) (v := (x5 + 1)) (lv' := [(5, .int (x5 + 1)), (4, .int (1 : Int32)), (6, .int (fX7_logAt M x5)), (0, .ref (ad 0)), (1, .int x1), (2, .int x2), (3, .int x3)]) hx hb dL_log_89 hl (k := 6) rfl rfl (by decide) rfl (fun ls hl => ?_)
              refine lv_goto (pc := 92) (tgt := 17) hx hb dL_log_92 (by decide) ?_
              exact ih M x1 x2 x3 (1 : Int32) (x5 + 1) _ _ _ h hP hS (lv_sub hl [3, 4, 5, 6, 1, 0] rfl)
          · have h := (if_neg c14).symm.trans h
            refine lv_bipush (pc := 65) (v := (10 : Int32)) hx hb dL_log_65 (by decide) ?_
            refine lv_iload_n (pc := 67) hx hb dL_log_67 rfl (lv_at hl 3 rfl) ?_
            refine lv_imul (pc := 68) hx hb dL_log_68 ?_
            refine lv_iload (pc := 69) hx hb dL_log_69 (lv_at hl 0 rfl) ?_
            refine lv_iadd (pc := 71) hx hb dL_log_71 ?_
            refine lv_bipush (pc := 72) (v := (48 : Int32)) hx hb dL_log_72 (by decide) ?_
            refine lv_isub (pc := 74) hx hb dL_log_74 ?_
            obtain ⟨y16, hy16, h⟩ := thn_ex h
            refine W.eq (g2 := F0 m 75 ls (.int y16 :: [])) (by rw [← hy16]) ?_
            refine lv_istore_n (pc := 75) (lv' := [(2, .int y16), (6, .int (fX7_logAt M x5)), (0, .ref (ad 0)), (1, .int x1), (3, .int x3), (4, .int x4), (5, .int x5)]) hx hb dL_log_75 rfl hl (by decide) rfl (fun ls hl => ?_)
            refine lv_goto (pc := 76) (tgt := 89) hx hb dL_log_76 (by decide) ?_
            refine lv_iinc (pc := 89) (v := (x5 + 1)) (lv' := [(5, .int (x5 + 1)), (2, .int y16), (6, .int (fX7_logAt M x5)), (0, .ref (ad 0)), (1, .int x1), (3, .int x3), (4, .int x4)]) hx hb dL_log_89 hl (k := 6) rfl rfl (by decide) rfl (fun ls hl => ?_)
            refine lv_goto (pc := 92) (tgt := 17) hx hb dL_log_92 (by decide) ?_
            exact ih M x1 y16 x3 x4 (x5 + 1) _ _ _ h hP hS (lv_sub hl [3, 4, 1, 5, 6, 0] rfl)
        · have h := (if_neg c13).symm.trans h
          refine lv_iload (pc := 36) hx hb dL_log_36 (lv_at hl 0 rfl) ?_
          refine lv_bipush (pc := 38) (v := (58 : Int32)) hx hb dL_log_38 (by decide) ?_
          refine lv_icmp_ne (pc := 40) (tgt := 60) hx hb dL_log_40 (by decide) (fun c17 => ?_) (fun c17 => ?_)
          · have h := (if_neg c17).symm.trans h
            refine lv_iload (pc := 60) hx hb dL_log_60 (lv_at hl 5 rfl) ?_
            refine lv_if_eq (pc := 62) (tgt := 79) hx hb dL_log_62 (by decide) (fun c18 => ?_) (fun c18 => ?_)
            · have h := (if_pos c18).symm.trans h
              refine lv_iload (pc := 79) hx hb dL_log_79 (lv_at hl 0 rfl) ?_
              refine lv_bipush (pc := 81) (v := (47 : Int32)) hx hb dL_log_81 (by decide) ?_
              refine lv_icmp_ne (pc := 83) (tgt := 89) hx hb dL_log_83 (by decide) (fun c19 => ?_) (fun c19 => ?_)
              · have h := (if_neg c19).symm.trans h
                refine lv_iinc (pc := 89) (v := (x5 + 1)) (lv' := [(5, .int (x5 + 1)), (6, .int (fX7_logAt M x5)), (0, .ref (ad 0)), (1, .int x1), (2, .int x2), (3, .int x3), (4, .int x4)]) hx hb dL_log_89 hl (k := 6) rfl rfl (by decide) rfl (fun ls hl => ?_)
                refine lv_goto (pc := 92) (tgt := 17) hx hb dL_log_92 (by decide) ?_
                exact ih M x1 x2 x3 x4 (x5 + 1) _ _ _ h hP hS (lv_sub hl [2, 3, 4, 5, 6, 0] rfl)
              · have h := (if_pos c19).symm.trans h
                refine lv_iconst (pc := 86) (v := (1 : Int32)) hx hb dL_log_86 (by decide) ?_
                refine lv_istore (pc := 87) (lv' := [(4, .int (1 : Int32)), (6, .int (fX7_logAt M x5)), (0, .ref (ad 0)), (1, .int x1), (2, .int x2), (3, .int x3), (5, .int x5)]) hx hb dL_log_87 hl (by decide) rfl (fun ls hl => ?_)
                refine lv_iinc (pc := 89) (v := (x5 + 1)) (lv' := [(5, .int (x5 + 1)), (4, .int (1 : Int32)), (6, .int (fX7_logAt M x5)), (0, .ref (ad 0)), (1, .int x1), (2, .int x2), (3, .int x3)]) hx hb dL_log_89 hl (k := 6) rfl rfl (by decide) rfl (fun ls hl => ?_)
                refine lv_goto (pc := 92) (tgt := 17) hx hb dL_log_92 (by decide) ?_
                exact ih M x1 x2 x3 (1 : Int32) (x5 + 1) _ _ _ h hP hS (lv_sub hl [3, 4, 5, 6, 1, 0] rfl)
            · have h := (if_neg c18).symm.trans h
              refine lv_bipush (pc := 65) (v := (10 : Int32)) hx hb dL_log_65 (by decide) ?_
              refine lv_iload_n (pc := 67) hx hb dL_log_67 rfl (lv_at hl 3 rfl) ?_
              refine lv_imul (pc := 68) hx hb dL_log_68 ?_
              refine lv_iload (pc := 69) hx hb dL_log_69 (lv_at hl 0 rfl) ?_
              refine lv_iadd (pc := 71) hx hb dL_log_71 ?_
              refine lv_bipush (pc := 72) (v := (48 : Int32)) hx hb dL_log_72 (by decide) ?_
              refine lv_isub (pc := 74) hx hb dL_log_74 ?_
              obtain ⟨y20, hy20, h⟩ := thn_ex h
              refine W.eq (g2 := F0 m 75 ls (.int y20 :: [])) (by rw [← hy20]) ?_
              refine lv_istore_n (pc := 75) (lv' := [(2, .int y20), (6, .int (fX7_logAt M x5)), (0, .ref (ad 0)), (1, .int x1), (3, .int x3), (4, .int x4), (5, .int x5)]) hx hb dL_log_75 rfl hl (by decide) rfl (fun ls hl => ?_)
              refine lv_goto (pc := 76) (tgt := 89) hx hb dL_log_76 (by decide) ?_
              refine lv_iinc (pc := 89) (v := (x5 + 1)) (lv' := [(5, .int (x5 + 1)), (2, .int y20), (6, .int (fX7_logAt M x5)), (0, .ref (ad 0)), (1, .int x1), (3, .int x3), (4, .int x4)]) hx hb dL_log_89 hl (k := 6) rfl rfl (by decide) rfl (fun ls hl => ?_)
              refine lv_goto (pc := 92) (tgt := 17) hx hb dL_log_92 (by decide) ?_
              exact ih M x1 y20 x3 x4 (x5 + 1) _ _ _ h hP hS (lv_sub hl [3, 4, 1, 5, 6, 0] rfl)
          · have h := (if_pos c17).symm.trans h
            refine lv_iload_n (pc := 43) hx hb dL_log_43 rfl (lv_at hl 3 rfl) ?_
            refine lv_iload_n (pc := 44) hx hb dL_log_44 rfl (lv_at hl 4 rfl) ?_
            refine lv_icmp_ge (pc := 45) (tgt := 50) hx hb dL_log_45 (by decide) (fun c21 => ?_) (fun c21 => ?_)
            · have h := (if_pos c21).symm.trans h
              refine lv_iload_n (pc := 50) hx hb dL_log_50 rfl (lv_at hl 3 rfl) ?_
              refine lv_istore_n (pc := 51) (lv' := [(3, .int x2), (6, .int (fX7_logAt M x5)), (0, .ref (ad 0)), (1, .int x1), (2, .int x2), (4, .int x4), (5, .int x5)]) hx hb dL_log_51 rfl hl (by decide) rfl (fun ls hl => ?_)
              refine lv_iconst (pc := 52) (v := (0 : Int32)) hx hb dL_log_52 (by decide) ?_
              refine lv_istore_n (pc := 53) (lv' := [(2, .int (0 : Int32)), (3, .int x2), (6, .int (fX7_logAt M x5)), (0, .ref (ad 0)), (1, .int x1), (4, .int x4), (5, .int x5)]) hx hb dL_log_53 rfl hl (by decide) rfl (fun ls hl => ?_)
              refine lv_iconst (pc := 54) (v := (0 : Int32)) hx hb dL_log_54 (by decide) ?_
              refine lv_istore (pc := 55) (lv' := [(4, .int (0 : Int32)), (2, .int (0 : Int32)), (3, .int x2), (6, .int (fX7_logAt M x5)), (0, .ref (ad 0)), (1, .int x1), (5, .int x5)]) hx hb dL_log_55 hl (by decide) rfl (fun ls hl => ?_)
              refine lv_goto (pc := 57) (tgt := 89) hx hb dL_log_57 (by decide) ?_
              refine lv_iinc (pc := 89) (v := (x5 + 1)) (lv' := [(5, .int (x5 + 1)), (4, .int (0 : Int32)), (2, .int (0 : Int32)), (3, .int x2), (6, .int (fX7_logAt M x5)), (0, .ref (ad 0)), (1, .int x1)]) hx hb dL_log_89 hl (k := 6) rfl rfl (by decide) rfl (fun ls hl => ?_)
              refine lv_goto (pc := 92) (tgt := 17) hx hb dL_log_92 (by decide) ?_
              exact ih M x1 (0 : Int32) x2 (0 : Int32) (x5 + 1) _ _ _ h hP hS (lv_sub hl [5, 6, 2, 3, 1, 0] rfl)
            · have h := (if_neg c21).symm.trans h
              refine lv_iconst (pc := 48) (v := (0 : Int32)) hx hb dL_log_48 (by decide) ?_
              obtain rfl := som1 h
              exact x_iret E hP hS rfl dL_log_49
  unfold fL_log at h
  refine lv_aload_n (pc := 0) hx hb dL_log_0 rfl (lv_at hl 0 rfl) ?_
  refine lv_bipush (pc := 1) (v := (10 : Int32)) hx hb dL_log_1 (by decide) ?_
  obtain ⟨y1, hy1, h⟩ := bnd_ex h
  refine x_callVi (pc := 3) (st := .int (10 : Int32) :: .ref (ad 0) :: []) (As := [.int (10 : Int32)]) E hEx hl.1 hP hS (kX7_count hap  M _ _ hy1) gL_15 hdX7_count rfl (by decide) sh7 rfl ⟨Nat.le_of_ble_eq_true rfl, Nat.le_of_ble_eq_true rfl⟩ ⟨rfl, rfl⟩ dL_log_3 rfl (Nat.le_of_ble_eq_true rfl) (fun H locs hP hS n2 => ?_)
  refine lv_istore_n (pc := 6) (lv' := [(1, .int y1), (0, .ref (ad 0))]) hx hb dL_log_6 rfl hl (by decide) rfl (fun ls hl => ?_)
  refine lv_iconst (pc := 7) (v := (0 : Int32)) hx hb dL_log_7 (by decide) ?_
  refine lv_istore_n (pc := 8) (lv' := [(2, .int (0 : Int32)), (1, .int y1), (0, .ref (ad 0))]) hx hb dL_log_8 rfl hl (by decide) rfl (fun ls hl => ?_)
  refine lv_iconst (pc := 9) (v := (0 : Int32)) hx hb dL_log_9 (by decide) ?_
  refine lv_istore_n (pc := 10) (lv' := [(3, .int (0 : Int32)), (2, .int (0 : Int32)), (1, .int y1), (0, .ref (ad 0))]) hx hb dL_log_10 rfl hl (by decide) rfl (fun ls hl => ?_)
  refine lv_iconst (pc := 11) (v := (1 : Int32)) hx hb dL_log_11 (by decide) ?_
  refine lv_istore (pc := 12) (lv' := [(4, .int (1 : Int32)), (3, .int (0 : Int32)), (2, .int (0 : Int32)), (1, .int y1), (0, .ref (ad 0))]) hx hb dL_log_12 hl (by decide) rfl (fun ls hl => ?_)
  refine lv_iconst (pc := 14) (v := (0 : Int32)) hx hb dL_log_14 (by decide) ?_
  refine lv_istore (pc := 15) (lv' := [(5, .int (0 : Int32)), (4, .int (1 : Int32)), (3, .int (0 : Int32)), (2, .int (0 : Int32)), (1, .int y1), (0, .ref (ad 0))]) hx hb dL_log_15 hl (by decide) rfl (fun ls hl => ?_)
  exact hL17 5000 M y1 (0 : Int32) (0 : Int32) (1 : Int32) (0 : Int32) _ _ _ h hP hS (lv_sub hl [5, 4, 3, 2, 1, 0] rfl)
set_option maxRecDepth 100000 in
set_option maxHeartbeats 4000000 in
theorem kL_errors (hap : Apart 78 ad)   (M : Mem)  (v : Int32) (M' : Mem) (h : fL_errors M = some (v, M')) : XI G ad sK sV cA cZ cC yL_errors cL_errors 6 .boolean ({ frames := 8, cells := 0, slots := 0, locals := 234 } : Room) [.ref (ad 0)] M v M' := by
  refine CI.mk (own := RL) (ls0 := [(0, .ref (ad 0))]) (by decide +kernel) rfl hap (Nat.le_of_ble_eq_true rfl) rfl ?_
  intro p l e s m args below meth c ls E hP hl
  have hx := E.1
  have hb := E.2.1
  have hown := E.2.2.2.2.2.1
  have hts := E.2.2.2.2.2.2.1
  have hNe := E.2.2.2.2.2.2.2.2.1.1
  have hEx := ExX.ok ad sK sV
  have hS : va_S (AW 78 ad) s.heap s.heap [] := va_S.rf
  have hB224 : ∀ (M : Mem) (x1 x2 x3 x4 x5 : Int32) (H : Heap) (locs : List Loc) (ls : Array Slot), fL_errors_B224 M x1 x2 x3 x4 x5 = some (v, M') → va_P G vwCl (WW 78 (shX cA ad) ad M) H → va_S (AW 78 ad) s.heap H locs → lv_has ls 6 [(0, .ref (ad 0)), (1, .int x1), (2, .int x2), (3, .int x3), (4, .int x4), (5, .int x5)] → W p l e ({ frames := 8, cells := 0, slots := 0, locals := 234 } : Room) s m args below meth c H locs 0 0 (QI below G 78 (shX cA ad) ad .boolean args s v M') (F0 m 224 ls []) := by
    intro M x1 x2 x3 x4 x5 H locs ls h hP hS hl
    unfold fL_errors_B224 at h
    refine lv_iload (pc := 224) hx hb dL_errors_224 (lv_at hl 4 rfl) ?_
    refine lv_if_eq (pc := 226) (tgt := 321) hx hb dL_errors_226 (by decide) (fun c13 => ?_) (fun c13 => ?_)
    · have h := (if_pos c13).symm.trans h
      refine lv_iconst (pc := 321) (v := (0 : Int32)) hx hb dL_errors_321 (by decide) ?_
      obtain ⟨rfl, rfl⟩ := som2 h
      exact x_iret E hP hS rfl dL_errors_322
    · have h := (if_neg c13).symm.trans h
      refine lv_iload (pc := 229) hx hb dL_errors_229 (lv_at hl 5 rfl) ?_
      refine lv_if_eq (pc := 231) (tgt := 321) hx hb dL_errors_231 (by decide) (fun c14 => ?_) (fun c14 => ?_)
      · have h := (if_pos c14).symm.trans h
        refine lv_iconst (pc := 321) (v := (0 : Int32)) hx hb dL_errors_321 (by decide) ?_
        obtain ⟨rfl, rfl⟩ := som2 h
        exact x_iret E hP hS rfl dL_errors_322
      · have h := (if_neg c14).symm.trans h
        refine lv_aload_n (pc := 234) hx hb dL_errors_234 rfl (lv_at hl 0 rfl) ?_
        refine lv_aload_n (pc := 235) hx hb dL_errors_235 rfl (lv_at hl 0 rfl) ?_
        refine lv_iconst (pc := 236) (v := (3 : Int32)) hx hb dL_errors_236 (by decide) ?_
        obtain ⟨y15, hy15, h⟩ := bnd_ex h
        refine x_callVi (pc := 237) (st := .int (3 : Int32) :: .ref (ad 0) :: .ref (ad 0) :: []) (As := [.int (3 : Int32)]) E hEx hl.1 hP hS (kX7_count hap  M _ _ hy15) gL_15 hdX7_count rfl (by decide) sh7 rfl ⟨Nat.le_of_ble_eq_true rfl, Nat.le_of_ble_eq_true rfl⟩ ⟨rfl, rfl⟩ dL_errors_237 rfl (Nat.le_of_ble_eq_true rfl) (fun H locs hP hS n16 => ?_)
        obtain ⟨q17, hq17, h⟩ := bnd_ex h
        refine x_callVi (pc := 240) (st := .int y15 :: .ref (ad 0) :: []) (As := [.int y15]) E hEx hl.1 hP hS (kX7_cancel hap  M _ _ _ hq17) gL_138 hdX7_cancel rfl (by decide) sh7 rfl ⟨Nat.le_of_ble_eq_true rfl, Nat.le_of_ble_eq_true rfl⟩ ⟨rfl, rfl⟩ dL_errors_240 rfl (Nat.le_of_ble_eq_true rfl) (fun H locs hP hS n18 => ?_)
        refine lv_iconst (pc := 243) (v := (-1 : Int32)) hx hb dL_errors_243 (by decide) ?_
        refine lv_icmp_ne (pc := 244) (tgt := 321) hx hb dL_errors_244 (by decide) (fun c19 => ?_) (fun c19 => ?_)
        · have h := (if_neg c19).symm.trans h
          refine lv_iconst (pc := 321) (v := (0 : Int32)) hx hb dL_errors_321 (by decide) ?_
          obtain ⟨rfl, rfl⟩ := som2 h
          exact x_iret E hP hS rfl dL_errors_322
        · have h := (if_pos c19).symm.trans h
          refine lv_aload_n (pc := 247) hx hb dL_errors_247 rfl (lv_at hl 0 rfl) ?_
          refine lv_iconst (pc := 248) (v := (2 : Int32)) hx hb dL_errors_248 (by decide) ?_
          obtain ⟨q20, hq20, h⟩ := bnd_ex h
          refine x_callVi (pc := 249) (st := .int (2 : Int32) :: .ref (ad 0) :: []) (As := [.int (2 : Int32)]) E hEx hl.1 hP hS (kX7_keep hap  q17.2 _ _ _ hq20) gL_141 hdX7_keep rfl (by decide) sh7 rfl ⟨Nat.le_of_ble_eq_true rfl, Nat.le_of_ble_eq_true rfl⟩ ⟨rfl, rfl⟩ dL_errors_249 rfl (Nat.le_of_ble_eq_true rfl) (fun H locs hP hS n21 => ?_)
          refine lv_iconst (pc := 252) (v := (-1 : Int32)) hx hb dL_errors_252 (by decide) ?_
          refine lv_icmp_ne (pc := 253) (tgt := 321) hx hb dL_errors_253 (by decide) (fun c22 => ?_) (fun c22 => ?_)
          · have h := (if_neg c22).symm.trans h
            refine lv_iconst (pc := 321) (v := (0 : Int32)) hx hb dL_errors_321 (by decide) ?_
            obtain ⟨rfl, rfl⟩ := som2 h
            exact x_iret E hP hS rfl dL_errors_322
          · have h := (if_pos c22).symm.trans h
            refine lv_aload_n (pc := 256) hx hb dL_errors_256 rfl (lv_at hl 0 rfl) ?_
            refine lv_iconst (pc := 257) (v := (-1 : Int32)) hx hb dL_errors_257 (by decide) ?_
            obtain ⟨q23, hq23, h⟩ := bnd_ex h
            refine x_callVi (pc := 258) (st := .int (-1 : Int32) :: .ref (ad 0) :: []) (As := [.int (-1 : Int32)]) E hEx hl.1 hP hS (kX7_restore hap  q20.2 _ _ _ hq23) gL_144 hdX7_restore rfl (by decide) sh7 rfl ⟨Nat.le_of_ble_eq_true rfl, Nat.le_of_ble_eq_true rfl⟩ ⟨rfl, rfl⟩ dL_errors_258 rfl (Nat.le_of_ble_eq_true rfl) (fun H locs hP hS n24 => ?_)
            refine lv_iconst (pc := 261) (v := (-1 : Int32)) hx hb dL_errors_261 (by decide) ?_
            refine lv_icmp_ne (pc := 262) (tgt := 321) hx hb dL_errors_262 (by decide) (fun c25 => ?_) (fun c25 => ?_)
            · have h := (if_neg c25).symm.trans h
              refine lv_iconst (pc := 321) (v := (0 : Int32)) hx hb dL_errors_321 (by decide) ?_
              obtain ⟨rfl, rfl⟩ := som2 h
              exact x_iret E hP hS rfl dL_errors_322
            · have h := (if_pos c25).symm.trans h
              refine lv_aload_n (pc := 265) hx hb dL_errors_265 rfl (lv_at hl 0 rfl) ?_
              refine lv_bipush (pc := 266) (v := (6 : Int32)) hx hb dL_errors_266 (by decide) ?_
              obtain ⟨y26, hy26, h⟩ := bnd_ex h
              refine x_callVi (pc := 268) (st := .int (6 : Int32) :: .ref (ad 0) :: []) (As := [.int (6 : Int32)]) E hEx hl.1 hP hS (kX7_game hap  q23.2 _ _ hy26) gL_28 hdX7_game rfl (by decide) sh7 rfl ⟨Nat.le_of_ble_eq_true rfl, Nat.le_of_ble_eq_true rfl⟩ ⟨rfl, rfl⟩ dL_errors_268 rfl (Nat.le_of_ble_eq_true rfl) (fun H locs hP hS n27 => ?_)
              refine lv_bipush (pc := 271) (v := (-2 : Int32)) hx hb dL_errors_271 (by decide) ?_
              refine lv_icmp_ne (pc := 273) (tgt := 321) hx hb dL_errors_273 (by decide) (fun c28 => ?_) (fun c28 => ?_)
              · have h := (if_neg c28).symm.trans h
                refine lv_iconst (pc := 321) (v := (0 : Int32)) hx hb dL_errors_321 (by decide) ?_
                obtain ⟨rfl, rfl⟩ := som2 h
                exact x_iret E hP hS rfl dL_errors_322
              · have h := (if_pos c28).symm.trans h
                refine lv_aload_n (pc := 276) hx hb dL_errors_276 rfl (lv_at hl 0 rfl) ?_
                refine lv_iload_n (pc := 277) hx hb dL_errors_277 rfl (lv_at hl 1 rfl) ?_
                refine lv_iconst (pc := 278) (v := (0 : Int32)) hx hb dL_errors_278 (by decide) ?_
                obtain ⟨y29, hy29, h⟩ := bnd_ex h
                refine x_callVi (pc := 279) (st := .int (0 : Int32) :: .int x1 :: .ref (ad 0) :: []) (As := [.int x1, .int (0 : Int32)]) E hEx hl.1 hP hS (kX7_box hap  q23.2 _ _ _ hy29) gL_9 hdX7_box rfl (by decide) sh7 rfl ⟨Nat.le_of_ble_eq_true rfl, Nat.le_of_ble_eq_true rfl⟩ ⟨rfl, rfl⟩ dL_errors_279 rfl (Nat.le_of_ble_eq_true rfl) (fun H locs hP hS n30 => ?_)
                refine lv_iconst (pc := 282) (v := (-1 : Int32)) hx hb dL_errors_282 (by decide) ?_
                refine lv_icmp_ne (pc := 283) (tgt := 321) hx hb dL_errors_283 (by decide) (fun c31 => ?_) (fun c31 => ?_)
                · have h := (if_neg c31).symm.trans h
                  refine lv_iconst (pc := 321) (v := (0 : Int32)) hx hb dL_errors_321 (by decide) ?_
                  obtain ⟨rfl, rfl⟩ := som2 h
                  exact x_iret E hP hS rfl dL_errors_322
                · have h := (if_pos c31).symm.trans h
                  refine lv_aload_n (pc := 286) hx hb dL_errors_286 rfl (lv_at hl 0 rfl) ?_
                  refine lv_iload_n (pc := 287) hx hb dL_errors_287 rfl (lv_at hl 2 rfl) ?_
                  refine lv_iconst (pc := 288) (v := (0 : Int32)) hx hb dL_errors_288 (by decide) ?_
                  obtain ⟨y32, hy32, h⟩ := bnd_ex h
                  refine x_callVi (pc := 289) (st := .int (0 : Int32) :: .int x2 :: .ref (ad 0) :: []) (As := [.int x2, .int (0 : Int32)]) E hEx hl.1 hP hS (kX7_prop hap  q23.2 _ _ _ hy32) gL_25 hdX7_prop rfl (by decide) sh7 rfl ⟨Nat.le_of_ble_eq_true rfl, Nat.le_of_ble_eq_true rfl⟩ ⟨rfl, rfl⟩ dL_errors_289 rfl (Nat.le_of_ble_eq_true rfl) (fun H locs hP hS n33 => ?_)
                  refine lv_iconst (pc := 292) (v := (-1 : Int32)) hx hb dL_errors_292 (by decide) ?_
                  refine lv_icmp_ne (pc := 293) (tgt := 321) hx hb dL_errors_293 (by decide) (fun c34 => ?_) (fun c34 => ?_)
                  · have h := (if_neg c34).symm.trans h
                    refine lv_iconst (pc := 321) (v := (0 : Int32)) hx hb dL_errors_321 (by decide) ?_
                    obtain ⟨rfl, rfl⟩ := som2 h
                    exact x_iret E hP hS rfl dL_errors_322
                  · have h := (if_pos c34).symm.trans h
                    refine lv_aload_n (pc := 296) hx hb dL_errors_296 rfl (lv_at hl 0 rfl) ?_
                    refine lv_iload_n (pc := 297) hx hb dL_errors_297 rfl (lv_at hl 3 rfl) ?_
                    refine lv_iconst (pc := 298) (v := (0 : Int32)) hx hb dL_errors_298 (by decide) ?_
                    obtain ⟨y35, hy35, h⟩ := bnd_ex h
                    refine x_callVi (pc := 299) (st := .int (0 : Int32) :: .int x3 :: .ref (ad 0) :: []) (As := [.int x3, .int (0 : Int32)]) E hEx hl.1 hP hS (kX7_clue hap  q23.2 _ _ _ hy35) gL_34 hdX7_clue rfl (by decide) sh7 rfl ⟨Nat.le_of_ble_eq_true rfl, Nat.le_of_ble_eq_true rfl⟩ ⟨rfl, rfl⟩ dL_errors_299 rfl (Nat.le_of_ble_eq_true rfl) (fun H locs hP hS n36 => ?_)
                    refine lv_iconst (pc := 302) (v := (-1 : Int32)) hx hb dL_errors_302 (by decide) ?_
                    refine lv_icmp_ne (pc := 303) (tgt := 321) hx hb dL_errors_303 (by decide) (fun c37 => ?_) (fun c37 => ?_)
                    · have h := (if_neg c37).symm.trans h
                      refine lv_iconst (pc := 321) (v := (0 : Int32)) hx hb dL_errors_321 (by decide) ?_
                      obtain ⟨rfl, rfl⟩ := som2 h
                      exact x_iret E hP hS rfl dL_errors_322
                    · have h := (if_pos c37).symm.trans h
                      refine lv_aload_n (pc := 306) hx hb dL_errors_306 rfl (lv_at hl 0 rfl) ?_
                      refine lv_bipush (pc := 307) (v := (15 : Int32)) hx hb dL_errors_307 (by decide) ?_
                      obtain ⟨y38, hy38, h⟩ := bnd_ex h
                      refine x_callVi (pc := 309) (st := .int (15 : Int32) :: .ref (ad 0) :: []) (As := [.int (15 : Int32)]) E hEx hl.1 hP hS (kX7_count hap  q23.2 _ _ hy38) gL_15 hdX7_count rfl (by decide) sh7 rfl ⟨Nat.le_of_ble_eq_true rfl, Nat.le_of_ble_eq_true rfl⟩ ⟨rfl, rfl⟩ dL_errors_309 rfl (Nat.le_of_ble_eq_true rfl) (fun H locs hP hS n39 => ?_)
                      refine lv_bipush (pc := 312) (v := (-2 : Int32)) hx hb dL_errors_312 (by decide) ?_
                      refine lv_icmp_ne (pc := 314) (tgt := 321) hx hb dL_errors_314 (by decide) (fun c40 => ?_) (fun c40 => ?_)
                      · have h := (if_neg c40).symm.trans h
                        refine lv_iconst (pc := 321) (v := (0 : Int32)) hx hb dL_errors_321 (by decide) ?_
                        obtain ⟨rfl, rfl⟩ := som2 h
                        exact x_iret E hP hS rfl dL_errors_322
                      · have h := (if_pos c40).symm.trans h
                        refine lv_iconst (pc := 317) (v := (1 : Int32)) hx hb dL_errors_317 (by decide) ?_
                        refine lv_goto (pc := 318) (tgt := 322) hx hb dL_errors_318 (by decide) ?_
                        obtain ⟨rfl, rfl⟩ := som2 h
                        exact x_iret E hP hS rfl dL_errors_322
  have hB119 : ∀ (M : Mem) (x1 x2 x3 x4 : Int32) (H : Heap) (locs : List Loc) (ls : Array Slot), fL_errors_B119 M x1 x2 x3 x4 = some (v, M') → va_P G vwCl (WW 78 (shX cA ad) ad M) H → va_S (AW 78 ad) s.heap H locs → lv_has ls 6 [(0, .ref (ad 0)), (1, .int x1), (2, .int x2), (3, .int x3), (4, .int x4)] → W p l e ({ frames := 8, cells := 0, slots := 0, locals := 234 } : Room) s m args below meth c H locs 0 0 (QI below G 78 (shX cA ad) ad .boolean args s v M') (F0 m 119 ls []) := by
    intro M x1 x2 x3 x4 H locs ls h hP hS hl
    unfold fL_errors_B119 at h
    refine lv_aload_n (pc := 119) hx hb dL_errors_119 rfl (lv_at hl 0 rfl) ?_
    refine lv_iconst (pc := 120) (v := (0 : Int32)) hx hb dL_errors_120 (by decide) ?_
    obtain ⟨q10, hq10, h⟩ := bnd_ex h
    refine x_callVi (pc := 121) (st := .int (0 : Int32) :: .ref (ad 0) :: []) (As := [.int (0 : Int32)]) E hEx hl.1 hP hS (kX7_setExit hap  M _ _ _ hq10) gL_107 hdX7_setExit rfl (by decide) sh7 rfl ⟨Nat.le_of_ble_eq_true rfl, Nat.le_of_ble_eq_true rfl⟩ ⟨rfl, rfl⟩ dL_errors_121 rfl (Nat.le_of_ble_eq_true rfl) (fun H locs hP hS n11 => ?_)
    refine lv_bipush (pc := 124) (v := (-2 : Int32)) hx hb dL_errors_124 (by decide) ?_
    refine lv_icmp_ne (pc := 126) (tgt := 221) hx hb dL_errors_126 (by decide) (fun c12 => ?_) (fun c12 => ?_)
    · have h := (if_neg c12).symm.trans h
      refine lv_iconst (pc := 221) (v := (0 : Int32)) hx hb dL_errors_221 (by decide) ?_
      refine lv_istore (pc := 222) (lv' := [(5, .int (0 : Int32)), (0, .ref (ad 0)), (1, .int x1), (2, .int x2), (3, .int x3), (4, .int x4)]) hx hb dL_errors_222 hl (by decide) rfl (fun ls hl => ?_)
      exact hB224 q10.2 x1 x2 x3 x4 (0 : Int32) _ _ _ h hP hS (lv_sub hl [1, 2, 3, 4, 5, 0] rfl)
    · have h := (if_pos c12).symm.trans h
      refine lv_aload_n (pc := 129) hx hb dL_errors_129 rfl (lv_at hl 0 rfl) ?_
      refine lv_iconst (pc := 130) (v := (0 : Int32)) hx hb dL_errors_130 (by decide) ?_
      obtain ⟨q41, hq41, h⟩ := bnd_ex h
      refine x_callVi (pc := 131) (st := .int (0 : Int32) :: .ref (ad 0) :: []) (As := [.int (0 : Int32)]) E hEx hl.1 hP hS (kX7_close hap  q10.2 _ _ _ hq41) gL_110 hdX7_close rfl (by decide) sh7 rfl ⟨Nat.le_of_ble_eq_true rfl, Nat.le_of_ble_eq_true rfl⟩ ⟨rfl, rfl⟩ dL_errors_131 rfl (Nat.le_of_ble_eq_true rfl) (fun H locs hP hS n42 => ?_)
      refine lv_bipush (pc := 134) (v := (-2 : Int32)) hx hb dL_errors_134 (by decide) ?_
      refine lv_icmp_ne (pc := 136) (tgt := 221) hx hb dL_errors_136 (by decide) (fun c43 => ?_) (fun c43 => ?_)
      · have h := (if_neg c43).symm.trans h
        refine lv_iconst (pc := 221) (v := (0 : Int32)) hx hb dL_errors_221 (by decide) ?_
        refine lv_istore (pc := 222) (lv' := [(5, .int (0 : Int32)), (0, .ref (ad 0)), (1, .int x1), (2, .int x2), (3, .int x3), (4, .int x4)]) hx hb dL_errors_222 hl (by decide) rfl (fun ls hl => ?_)
        exact hB224 q41.2 x1 x2 x3 x4 (0 : Int32) _ _ _ h hP hS (lv_sub hl [1, 2, 3, 4, 5, 0] rfl)
      · have h := (if_pos c43).symm.trans h
        refine lv_aload_n (pc := 139) hx hb dL_errors_139 rfl (lv_at hl 0 rfl) ?_
        refine lv_bipush (pc := 140) (v := (9 : Int32)) hx hb dL_errors_140 (by decide) ?_
        refine lv_iconst (pc := 142) (v := (0 : Int32)) hx hb dL_errors_142 (by decide) ?_
        obtain ⟨q44, hq44, h⟩ := bnd_ex h
        refine x_callVi (pc := 143) (st := .int (0 : Int32) :: .int (9 : Int32) :: .ref (ad 0) :: []) (As := [.int (9 : Int32), .int (0 : Int32)]) E hEx hl.1 hP hS (kX7_setLimits hap  q41.2 _ _ _ _ hq44) gL_132 hdX7_setLimits rfl (by decide) sh7 rfl ⟨Nat.le_of_ble_eq_true rfl, Nat.le_of_ble_eq_true rfl⟩ ⟨rfl, rfl⟩ dL_errors_143 rfl (Nat.le_of_ble_eq_true rfl) (fun H locs hP hS n45 => ?_)
        refine lv_bipush (pc := 146) (v := (-2 : Int32)) hx hb dL_errors_146 (by decide) ?_
        refine lv_icmp_ne (pc := 148) (tgt := 221) hx hb dL_errors_148 (by decide) (fun c46 => ?_) (fun c46 => ?_)
        · have h := (if_neg c46).symm.trans h
          refine lv_iconst (pc := 221) (v := (0 : Int32)) hx hb dL_errors_221 (by decide) ?_
          refine lv_istore (pc := 222) (lv' := [(5, .int (0 : Int32)), (0, .ref (ad 0)), (1, .int x1), (2, .int x2), (3, .int x3), (4, .int x4)]) hx hb dL_errors_222 hl (by decide) rfl (fun ls hl => ?_)
          exact hB224 q44.2 x1 x2 x3 x4 (0 : Int32) _ _ _ h hP hS (lv_sub hl [1, 2, 3, 4, 5, 0] rfl)
        · have h := (if_pos c46).symm.trans h
          refine lv_aload_n (pc := 151) hx hb dL_errors_151 rfl (lv_at hl 0 rfl) ?_
          refine lv_bipush (pc := 152) (v := (10 : Int32)) hx hb dL_errors_152 (by decide) ?_
          refine lv_bipush (pc := 154) (v := (10 : Int32)) hx hb dL_errors_154 (by decide) ?_
          obtain ⟨q47, hq47, h⟩ := bnd_ex h
          refine x_callVi (pc := 156) (st := .int (10 : Int32) :: .int (10 : Int32) :: .ref (ad 0) :: []) (As := [.int (10 : Int32), .int (10 : Int32)]) E hEx hl.1 hP hS (kX7_setLimits hap  q44.2 _ _ _ _ hq47) gL_132 hdX7_setLimits rfl (by decide) sh7 rfl ⟨Nat.le_of_ble_eq_true rfl, Nat.le_of_ble_eq_true rfl⟩ ⟨rfl, rfl⟩ dL_errors_156 rfl (Nat.le_of_ble_eq_true rfl) (fun H locs hP hS n48 => ?_)
          refine lv_bipush (pc := 159) (v := (-2 : Int32)) hx hb dL_errors_159 (by decide) ?_
          refine lv_icmp_ne (pc := 161) (tgt := 221) hx hb dL_errors_161 (by decide) (fun c49 => ?_) (fun c49 => ?_)
          · have h := (if_neg c49).symm.trans h
            refine lv_iconst (pc := 221) (v := (0 : Int32)) hx hb dL_errors_221 (by decide) ?_
            refine lv_istore (pc := 222) (lv' := [(5, .int (0 : Int32)), (0, .ref (ad 0)), (1, .int x1), (2, .int x2), (3, .int x3), (4, .int x4)]) hx hb dL_errors_222 hl (by decide) rfl (fun ls hl => ?_)
            exact hB224 q47.2 x1 x2 x3 x4 (0 : Int32) _ _ _ h hP hS (lv_sub hl [1, 2, 3, 4, 5, 0] rfl)
          · have h := (if_pos c49).symm.trans h
            refine lv_aload_n (pc := 164) hx hb dL_errors_164 rfl (lv_at hl 0 rfl) ?_
            refine lv_iconst (pc := 165) (v := (0 : Int32)) hx hb dL_errors_165 (by decide) ?_
            obtain ⟨q50, hq50, h⟩ := bnd_ex h
            refine x_callVi (pc := 166) (st := .int (0 : Int32) :: .ref (ad 0) :: []) (As := [.int (0 : Int32)]) E hEx hl.1 hP hS (kX7_addPaint hap  q47.2 _ _ _ hq50) gL_104 hdX7_addPaint rfl (by decide) sh7 rfl ⟨Nat.le_of_ble_eq_true rfl, Nat.le_of_ble_eq_true rfl⟩ ⟨rfl, rfl⟩ dL_errors_166 rfl (Nat.le_of_ble_eq_true rfl) (fun H locs hP hS n51 => ?_)
            refine lv_bipush (pc := 169) (v := (-2 : Int32)) hx hb dL_errors_169 (by decide) ?_
            refine lv_icmp_ne (pc := 171) (tgt := 221) hx hb dL_errors_171 (by decide) (fun c52 => ?_) (fun c52 => ?_)
            · have h := (if_neg c52).symm.trans h
              refine lv_iconst (pc := 221) (v := (0 : Int32)) hx hb dL_errors_221 (by decide) ?_
              refine lv_istore (pc := 222) (lv' := [(5, .int (0 : Int32)), (0, .ref (ad 0)), (1, .int x1), (2, .int x2), (3, .int x3), (4, .int x4)]) hx hb dL_errors_222 hl (by decide) rfl (fun ls hl => ?_)
              exact hB224 q50.2 x1 x2 x3 x4 (0 : Int32) _ _ _ h hP hS (lv_sub hl [1, 2, 3, 4, 5, 0] rfl)
            · have h := (if_pos c52).symm.trans h
              refine lv_aload_n (pc := 174) hx hb dL_errors_174 rfl (lv_at hl 0 rfl) ?_
              refine lv_iconst (pc := 175) (v := (0 : Int32)) hx hb dL_errors_175 (by decide) ?_
              refine lv_iconst (pc := 176) (v := (0 : Int32)) hx hb dL_errors_176 (by decide) ?_
              obtain ⟨q53, hq53, h⟩ := bnd_ex h
              refine x_callVi (pc := 177) (st := .int (0 : Int32) :: .int (0 : Int32) :: .ref (ad 0) :: []) (As := [.int (0 : Int32), .int (0 : Int32)]) E hEx hl.1 hP hS (kX7_book hap  q50.2 _ _ _ _ hq53) gL_117 hdX7_book rfl (by decide) sh7 rfl ⟨Nat.le_of_ble_eq_true rfl, Nat.le_of_ble_eq_true rfl⟩ ⟨rfl, rfl⟩ dL_errors_177 rfl (Nat.le_of_ble_eq_true rfl) (fun H locs hP hS n54 => ?_)
              refine lv_bipush (pc := 180) (v := (-2 : Int32)) hx hb dL_errors_180 (by decide) ?_
              refine lv_icmp_ne (pc := 182) (tgt := 221) hx hb dL_errors_182 (by decide) (fun c55 => ?_) (fun c55 => ?_)
              · have h := (if_neg c55).symm.trans h
                refine lv_iconst (pc := 221) (v := (0 : Int32)) hx hb dL_errors_221 (by decide) ?_
                refine lv_istore (pc := 222) (lv' := [(5, .int (0 : Int32)), (0, .ref (ad 0)), (1, .int x1), (2, .int x2), (3, .int x3), (4, .int x4)]) hx hb dL_errors_222 hl (by decide) rfl (fun ls hl => ?_)
                exact hB224 q53.2 x1 x2 x3 x4 (0 : Int32) _ _ _ h hP hS (lv_sub hl [1, 2, 3, 4, 5, 0] rfl)
              · have h := (if_pos c55).symm.trans h
                refine lv_aload_n (pc := 185) hx hb dL_errors_185 rfl (lv_at hl 0 rfl) ?_
                refine lv_sipush (pc := 186) (v := (1001 : Int32)) hx hb dL_errors_186 (by decide) ?_
                obtain ⟨q56, hq56, h⟩ := bnd_ex h
                refine x_callVi (pc := 189) (st := .int (1001 : Int32) :: .ref (ad 0) :: []) (As := [.int (1001 : Int32)]) E hEx hl.1 hP hS (kX7_idle hap  q53.2 _ _ _ hq56) gL_98 hdX7_idle rfl (by decide) sh7 rfl ⟨Nat.le_of_ble_eq_true rfl, Nat.le_of_ble_eq_true rfl⟩ ⟨rfl, rfl⟩ dL_errors_189 rfl (Nat.le_of_ble_eq_true rfl) (fun H locs hP hS n57 => ?_)
                refine lv_bipush (pc := 192) (v := (-2 : Int32)) hx hb dL_errors_192 (by decide) ?_
                refine lv_icmp_ne (pc := 194) (tgt := 221) hx hb dL_errors_194 (by decide) (fun c58 => ?_) (fun c58 => ?_)
                · have h := (if_neg c58).symm.trans h
                  refine lv_iconst (pc := 221) (v := (0 : Int32)) hx hb dL_errors_221 (by decide) ?_
                  refine lv_istore (pc := 222) (lv' := [(5, .int (0 : Int32)), (0, .ref (ad 0)), (1, .int x1), (2, .int x2), (3, .int x3), (4, .int x4)]) hx hb dL_errors_222 hl (by decide) rfl (fun ls hl => ?_)
                  exact hB224 q56.2 x1 x2 x3 x4 (0 : Int32) _ _ _ h hP hS (lv_sub hl [1, 2, 3, 4, 5, 0] rfl)
                · have h := (if_pos c58).symm.trans h
                  refine lv_aload_n (pc := 197) hx hb dL_errors_197 rfl (lv_at hl 0 rfl) ?_
                  refine lv_iconst (pc := 198) (v := (0 : Int32)) hx hb dL_errors_198 (by decide) ?_
                  obtain ⟨q59, hq59, h⟩ := bnd_ex h
                  refine x_callVi (pc := 199) (st := .int (0 : Int32) :: .ref (ad 0) :: []) (As := [.int (0 : Int32)]) E hEx hl.1 hP hS (kX7_rest hap  q56.2 _ _ _ hq59) gL_92 hdX7_rest rfl (by decide) sh7 rfl ⟨Nat.le_of_ble_eq_true rfl, Nat.le_of_ble_eq_true rfl⟩ ⟨rfl, rfl⟩ dL_errors_199 rfl (Nat.le_of_ble_eq_true rfl) (fun H locs hP hS n60 => ?_)
                  refine lv_bipush (pc := 202) (v := (-2 : Int32)) hx hb dL_errors_202 (by decide) ?_
                  refine lv_icmp_ne (pc := 204) (tgt := 221) hx hb dL_errors_204 (by decide) (fun c61 => ?_) (fun c61 => ?_)
                  · have h := (if_neg c61).symm.trans h
                    refine lv_iconst (pc := 221) (v := (0 : Int32)) hx hb dL_errors_221 (by decide) ?_
                    refine lv_istore (pc := 222) (lv' := [(5, .int (0 : Int32)), (0, .ref (ad 0)), (1, .int x1), (2, .int x2), (3, .int x3), (4, .int x4)]) hx hb dL_errors_222 hl (by decide) rfl (fun ls hl => ?_)
                    exact hB224 q59.2 x1 x2 x3 x4 (0 : Int32) _ _ _ h hP hS (lv_sub hl [1, 2, 3, 4, 5, 0] rfl)
                  · have h := (if_pos c61).symm.trans h
                    refine lv_aload_n (pc := 207) hx hb dL_errors_207 rfl (lv_at hl 0 rfl) ?_
                    refine lv_iconst (pc := 208) (v := (0 : Int32)) hx hb dL_errors_208 (by decide) ?_
                    obtain ⟨q62, hq62, h⟩ := bnd_ex h
                    refine x_callVi (pc := 209) (st := .int (0 : Int32) :: .ref (ad 0) :: []) (As := [.int (0 : Int32)]) E hEx hl.1 hP hS (kX7_plan hap  q59.2 _ _ _ hq62) gL_135 hdX7_plan rfl (by decide) sh7 rfl ⟨Nat.le_of_ble_eq_true rfl, Nat.le_of_ble_eq_true rfl⟩ ⟨rfl, rfl⟩ dL_errors_209 rfl (Nat.le_of_ble_eq_true rfl) (fun H locs hP hS n63 => ?_)
                    refine lv_bipush (pc := 212) (v := (-2 : Int32)) hx hb dL_errors_212 (by decide) ?_
                    refine lv_icmp_ne (pc := 214) (tgt := 221) hx hb dL_errors_214 (by decide) (fun c64 => ?_) (fun c64 => ?_)
                    · have h := (if_neg c64).symm.trans h
                      refine lv_iconst (pc := 221) (v := (0 : Int32)) hx hb dL_errors_221 (by decide) ?_
                      refine lv_istore (pc := 222) (lv' := [(5, .int (0 : Int32)), (0, .ref (ad 0)), (1, .int x1), (2, .int x2), (3, .int x3), (4, .int x4)]) hx hb dL_errors_222 hl (by decide) rfl (fun ls hl => ?_)
                      exact hB224 q62.2 x1 x2 x3 x4 (0 : Int32) _ _ _ h hP hS (lv_sub hl [1, 2, 3, 4, 5, 0] rfl)
                    · have h := (if_pos c64).symm.trans h
                      refine lv_iconst (pc := 217) (v := (1 : Int32)) hx hb dL_errors_217 (by decide) ?_
                      refine lv_goto (pc := 218) (tgt := 222) hx hb dL_errors_218 (by decide) ?_
                      refine lv_istore (pc := 222) (lv' := [(5, .int (1 : Int32)), (0, .ref (ad 0)), (1, .int x1), (2, .int x2), (3, .int x3), (4, .int x4)]) hx hb dL_errors_222 hl (by decide) rfl (fun ls hl => ?_)
                      exact hB224 q62.2 x1 x2 x3 x4 (1 : Int32) _ _ _ h hP hS (lv_sub hl [1, 2, 3, 4, 5, 0] rfl)
  unfold fL_errors at h
  refine lv_aload_n (pc := 0) hx hb dL_errors_0 rfl (lv_at hl 0 rfl) ?_
  refine lv_iconst (pc := 1) (v := (0 : Int32)) hx hb dL_errors_1 (by decide) ?_
  obtain ⟨y1, hy1, h⟩ := bnd_ex h
  refine x_callVi (pc := 2) (st := .int (0 : Int32) :: .ref (ad 0) :: []) (As := [.int (0 : Int32)]) E hEx hl.1 hP hS (kX7_count hap  M _ _ hy1) gL_15 hdX7_count rfl (by decide) sh7 rfl ⟨Nat.le_of_ble_eq_true rfl, Nat.le_of_ble_eq_true rfl⟩ ⟨rfl, rfl⟩ dL_errors_2 rfl (Nat.le_of_ble_eq_true rfl) (fun H locs hP hS n2 => ?_)
  refine lv_istore_n (pc := 5) (lv' := [(1, .int y1), (0, .ref (ad 0))]) hx hb dL_errors_5 rfl hl (by decide) rfl (fun ls hl => ?_)
  refine lv_aload_n (pc := 6) hx hb dL_errors_6 rfl (lv_at hl 1 rfl) ?_
  refine lv_iconst (pc := 7) (v := (1 : Int32)) hx hb dL_errors_7 (by decide) ?_
  obtain ⟨y3, hy3, h⟩ := bnd_ex h
  refine x_callVi (pc := 8) (st := .int (1 : Int32) :: .ref (ad 0) :: []) (As := [.int (1 : Int32)]) E hEx hl.1 hP hS (kX7_count hap  M _ _ hy3) gL_15 hdX7_count rfl (by decide) sh7 rfl ⟨Nat.le_of_ble_eq_true rfl, Nat.le_of_ble_eq_true rfl⟩ ⟨rfl, rfl⟩ dL_errors_8 rfl (Nat.le_of_ble_eq_true rfl) (fun H locs hP hS n4 => ?_)
  refine lv_istore_n (pc := 11) (lv' := [(2, .int y3), (1, .int y1), (0, .ref (ad 0))]) hx hb dL_errors_11 rfl hl (by decide) rfl (fun ls hl => ?_)
  refine lv_aload_n (pc := 12) hx hb dL_errors_12 rfl (lv_at hl 2 rfl) ?_
  refine lv_iconst (pc := 13) (v := (2 : Int32)) hx hb dL_errors_13 (by decide) ?_
  obtain ⟨y5, hy5, h⟩ := bnd_ex h
  refine x_callVi (pc := 14) (st := .int (2 : Int32) :: .ref (ad 0) :: []) (As := [.int (2 : Int32)]) E hEx hl.1 hP hS (kX7_count hap  M _ _ hy5) gL_15 hdX7_count rfl (by decide) sh7 rfl ⟨Nat.le_of_ble_eq_true rfl, Nat.le_of_ble_eq_true rfl⟩ ⟨rfl, rfl⟩ dL_errors_14 rfl (Nat.le_of_ble_eq_true rfl) (fun H locs hP hS n6 => ?_)
  refine lv_istore_n (pc := 17) (lv' := [(3, .int y5), (2, .int y3), (1, .int y1), (0, .ref (ad 0))]) hx hb dL_errors_17 rfl hl (by decide) rfl (fun ls hl => ?_)
  refine lv_aload_n (pc := 18) hx hb dL_errors_18 rfl (lv_at hl 3 rfl) ?_
  refine lv_iload_n (pc := 19) hx hb dL_errors_19 rfl (lv_at hl 2 rfl) ?_
  obtain ⟨q7, hq7, h⟩ := bnd_ex h
  refine x_callVi (pc := 20) (st := .int y1 :: .ref (ad 0) :: []) (As := [.int y1]) E hEx hl.1 hP hS (kX7_addProp hap  M _ _ _ hq7) gL_64 hdX7_addProp rfl (by decide) sh7 rfl ⟨Nat.le_of_ble_eq_true rfl, Nat.le_of_ble_eq_true rfl⟩ ⟨rfl, rfl⟩ dL_errors_20 rfl (Nat.le_of_ble_eq_true rfl) (fun H locs hP hS n8 => ?_)
  refine lv_iconst (pc := 23) (v := (-1 : Int32)) hx hb dL_errors_23 (by decide) ?_
  refine lv_icmp_ne (pc := 24) (tgt := 116) hx hb dL_errors_24 (by decide) (fun c9 => ?_) (fun c9 => ?_)
  · have h := (if_neg c9).symm.trans h
    refine lv_iconst (pc := 116) (v := (0 : Int32)) hx hb dL_errors_116 (by decide) ?_
    refine lv_istore (pc := 117) (lv' := [(4, .int (0 : Int32)), (3, .int y5), (2, .int y3), (1, .int y1), (0, .ref (ad 0))]) hx hb dL_errors_117 hl (by decide) rfl (fun ls hl => ?_)
    exact hB119 q7.2 y1 y3 y5 (0 : Int32) _ _ _ h hP hS (lv_sub hl [4, 3, 2, 1, 0] rfl)
  · have h := (if_pos c9).symm.trans h
    refine lv_aload_n (pc := 27) hx hb dL_errors_27 rfl (lv_at hl 3 rfl) ?_
    refine lv_iload_n (pc := 28) hx hb dL_errors_28 rfl (lv_at hl 1 rfl) ?_
    refine lv_iconst (pc := 29) (v := (0 : Int32)) hx hb dL_errors_29 (by decide) ?_
    refine lv_iconst (pc := 30) (v := (0 : Int32)) hx hb dL_errors_30 (by decide) ?_
    obtain ⟨q65, hq65, h⟩ := bnd_ex h
    refine x_callVi (pc := 31) (st := .int (0 : Int32) :: .int (0 : Int32) :: .int y3 :: .ref (ad 0) :: []) (As := [.int y3, .int (0 : Int32), .int (0 : Int32)]) E hEx hl.1 hP hS (kX7_addClue hap  q7.2 _ _ _ _ _ hq65) gL_67 hdX7_addClue rfl (by decide) sh7 rfl ⟨Nat.le_of_ble_eq_true rfl, Nat.le_of_ble_eq_true rfl⟩ ⟨rfl, rfl⟩ dL_errors_31 rfl (Nat.le_of_ble_eq_true rfl) (fun H locs hP hS n66 => ?_)
    refine lv_iconst (pc := 34) (v := (-1 : Int32)) hx hb dL_errors_34 (by decide) ?_
    refine lv_icmp_ne (pc := 35) (tgt := 116) hx hb dL_errors_35 (by decide) (fun c67 => ?_) (fun c67 => ?_)
    · have h := (if_neg c67).symm.trans h
      refine lv_iconst (pc := 116) (v := (0 : Int32)) hx hb dL_errors_116 (by decide) ?_
      refine lv_istore (pc := 117) (lv' := [(4, .int (0 : Int32)), (3, .int y5), (2, .int y3), (1, .int y1), (0, .ref (ad 0))]) hx hb dL_errors_117 hl (by decide) rfl (fun ls hl => ?_)
      exact hB119 q65.2 y1 y3 y5 (0 : Int32) _ _ _ h hP hS (lv_sub hl [4, 3, 2, 1, 0] rfl)
    · have h := (if_pos c67).symm.trans h
      refine lv_aload_n (pc := 38) hx hb dL_errors_38 rfl (lv_at hl 3 rfl) ?_
      refine lv_iload_n (pc := 39) hx hb dL_errors_39 rfl (lv_at hl 2 rfl) ?_
      obtain ⟨q68, hq68, h⟩ := bnd_ex h
      refine x_callVi (pc := 40) (st := .int y1 :: .ref (ad 0) :: []) (As := [.int y1]) E hEx hl.1 hP hS (kX7_setExit hap  q65.2 _ _ _ hq68) gL_107 hdX7_setExit rfl (by decide) sh7 rfl ⟨Nat.le_of_ble_eq_true rfl, Nat.le_of_ble_eq_true rfl⟩ ⟨rfl, rfl⟩ dL_errors_40 rfl (Nat.le_of_ble_eq_true rfl) (fun H locs hP hS n69 => ?_)
      refine lv_iconst (pc := 43) (v := (-1 : Int32)) hx hb dL_errors_43 (by decide) ?_
      refine lv_icmp_ne (pc := 44) (tgt := 116) hx hb dL_errors_44 (by decide) (fun c70 => ?_) (fun c70 => ?_)
      · have h := (if_neg c70).symm.trans h
        refine lv_iconst (pc := 116) (v := (0 : Int32)) hx hb dL_errors_116 (by decide) ?_
        refine lv_istore (pc := 117) (lv' := [(4, .int (0 : Int32)), (3, .int y5), (2, .int y3), (1, .int y1), (0, .ref (ad 0))]) hx hb dL_errors_117 hl (by decide) rfl (fun ls hl => ?_)
        exact hB119 q68.2 y1 y3 y5 (0 : Int32) _ _ _ h hP hS (lv_sub hl [4, 3, 2, 1, 0] rfl)
      · have h := (if_pos c70).symm.trans h
        refine lv_aload_n (pc := 47) hx hb dL_errors_47 rfl (lv_at hl 3 rfl) ?_
        refine lv_iload_n (pc := 48) hx hb dL_errors_48 rfl (lv_at hl 1 rfl) ?_
        obtain ⟨q71, hq71, h⟩ := bnd_ex h
        refine x_callVi (pc := 49) (st := .int y3 :: .ref (ad 0) :: []) (As := [.int y3]) E hEx hl.1 hP hS (kX7_take hap  q68.2 _ _ _ hq71) gL_71 hdX7_take rfl (by decide) sh7 rfl ⟨Nat.le_of_ble_eq_true rfl, Nat.le_of_ble_eq_true rfl⟩ ⟨rfl, rfl⟩ dL_errors_49 rfl (Nat.le_of_ble_eq_true rfl) (fun H locs hP hS n72 => ?_)
        refine lv_iconst (pc := 52) (v := (-1 : Int32)) hx hb dL_errors_52 (by decide) ?_
        refine lv_icmp_ne (pc := 53) (tgt := 116) hx hb dL_errors_53 (by decide) (fun c73 => ?_) (fun c73 => ?_)
        · have h := (if_neg c73).symm.trans h
          refine lv_iconst (pc := 116) (v := (0 : Int32)) hx hb dL_errors_116 (by decide) ?_
          refine lv_istore (pc := 117) (lv' := [(4, .int (0 : Int32)), (3, .int y5), (2, .int y3), (1, .int y1), (0, .ref (ad 0))]) hx hb dL_errors_117 hl (by decide) rfl (fun ls hl => ?_)
          exact hB119 q71.2 y1 y3 y5 (0 : Int32) _ _ _ h hP hS (lv_sub hl [4, 3, 2, 1, 0] rfl)
        · have h := (if_pos c73).symm.trans h
          refine lv_aload_n (pc := 56) hx hb dL_errors_56 rfl (lv_at hl 3 rfl) ?_
          refine lv_iconst (pc := 57) (v := (0 : Int32)) hx hb dL_errors_57 (by decide) ?_
          refine lv_iload_n (pc := 58) hx hb dL_errors_58 rfl (lv_at hl 2 rfl) ?_
          obtain ⟨q74, hq74, h⟩ := bnd_ex h
          refine x_callVi (pc := 59) (st := .int y1 :: .int (0 : Int32) :: .ref (ad 0) :: []) (As := [.int (0 : Int32), .int y1]) E hEx hl.1 hP hS (kX7_lay hap  q71.2 _ _ _ _ hq74) gL_74 hdX7_lay rfl (by decide) sh7 rfl ⟨Nat.le_of_ble_eq_true rfl, Nat.le_of_ble_eq_true rfl⟩ ⟨rfl, rfl⟩ dL_errors_59 rfl (Nat.le_of_ble_eq_true rfl) (fun H locs hP hS n75 => ?_)
          refine lv_iconst (pc := 62) (v := (-1 : Int32)) hx hb dL_errors_62 (by decide) ?_
          refine lv_icmp_ne (pc := 63) (tgt := 116) hx hb dL_errors_63 (by decide) (fun c76 => ?_) (fun c76 => ?_)
          · have h := (if_neg c76).symm.trans h
            refine lv_iconst (pc := 116) (v := (0 : Int32)) hx hb dL_errors_116 (by decide) ?_
            refine lv_istore (pc := 117) (lv' := [(4, .int (0 : Int32)), (3, .int y5), (2, .int y3), (1, .int y1), (0, .ref (ad 0))]) hx hb dL_errors_117 hl (by decide) rfl (fun ls hl => ?_)
            exact hB119 q74.2 y1 y3 y5 (0 : Int32) _ _ _ h hP hS (lv_sub hl [4, 3, 2, 1, 0] rfl)
          · have h := (if_pos c76).symm.trans h
            refine lv_aload_n (pc := 66) hx hb dL_errors_66 rfl (lv_at hl 3 rfl) ?_
            refine lv_iload_n (pc := 67) hx hb dL_errors_67 rfl (lv_at hl 2 rfl) ?_
            refine lv_iconst (pc := 68) (v := (0 : Int32)) hx hb dL_errors_68 (by decide) ?_
            obtain ⟨q77, hq77, h⟩ := bnd_ex h
            refine x_callVi (pc := 69) (st := .int (0 : Int32) :: .int y1 :: .ref (ad 0) :: []) (As := [.int y1, .int (0 : Int32)]) E hEx hl.1 hP hS (kX7_open hap  q74.2 _ _ _ _ hq77) gL_77 hdX7_open rfl (by decide) sh7 rfl ⟨Nat.le_of_ble_eq_true rfl, Nat.le_of_ble_eq_true rfl⟩ ⟨rfl, rfl⟩ dL_errors_69 rfl (Nat.le_of_ble_eq_true rfl) (fun H locs hP hS n78 => ?_)
            refine lv_iconst (pc := 72) (v := (-1 : Int32)) hx hb dL_errors_72 (by decide) ?_
            refine lv_icmp_ne (pc := 73) (tgt := 116) hx hb dL_errors_73 (by decide) (fun c79 => ?_) (fun c79 => ?_)
            · have h := (if_neg c79).symm.trans h
              refine lv_iconst (pc := 116) (v := (0 : Int32)) hx hb dL_errors_116 (by decide) ?_
              refine lv_istore (pc := 117) (lv' := [(4, .int (0 : Int32)), (3, .int y5), (2, .int y3), (1, .int y1), (0, .ref (ad 0))]) hx hb dL_errors_117 hl (by decide) rfl (fun ls hl => ?_)
              exact hB119 q77.2 y1 y3 y5 (0 : Int32) _ _ _ h hP hS (lv_sub hl [4, 3, 2, 1, 0] rfl)
            · have h := (if_pos c79).symm.trans h
              refine lv_aload_n (pc := 76) hx hb dL_errors_76 rfl (lv_at hl 3 rfl) ?_
              refine lv_iload_n (pc := 77) hx hb dL_errors_77 rfl (lv_at hl 0 rfl) ?_
              obtain ⟨q80, hq80, h⟩ := bnd_ex h
              refine x_callVi (pc := 78) (st := .int y5 :: .ref (ad 0) :: []) (As := [.int y5]) E hEx hl.1 hP hS (kX7_read hap  q77.2 _ _ _ hq80) gL_80 hdX7_read rfl (by decide) sh7 rfl ⟨Nat.le_of_ble_eq_true rfl, Nat.le_of_ble_eq_true rfl⟩ ⟨rfl, rfl⟩ dL_errors_78 rfl (Nat.le_of_ble_eq_true rfl) (fun H locs hP hS n81 => ?_)
              refine lv_iconst (pc := 81) (v := (-1 : Int32)) hx hb dL_errors_81 (by decide) ?_
              refine lv_icmp_ne (pc := 82) (tgt := 116) hx hb dL_errors_82 (by decide) (fun c82 => ?_) (fun c82 => ?_)
              · have h := (if_neg c82).symm.trans h
                refine lv_iconst (pc := 116) (v := (0 : Int32)) hx hb dL_errors_116 (by decide) ?_
                refine lv_istore (pc := 117) (lv' := [(4, .int (0 : Int32)), (3, .int y5), (2, .int y3), (1, .int y1), (0, .ref (ad 0))]) hx hb dL_errors_117 hl (by decide) rfl (fun ls hl => ?_)
                exact hB119 q80.2 y1 y3 y5 (0 : Int32) _ _ _ h hP hS (lv_sub hl [4, 3, 2, 1, 0] rfl)
              · have h := (if_pos c82).symm.trans h
                refine lv_aload_n (pc := 85) hx hb dL_errors_85 rfl (lv_at hl 3 rfl) ?_
                refine lv_iload_n (pc := 86) hx hb dL_errors_86 rfl (lv_at hl 1 rfl) ?_
                obtain ⟨q83, hq83, h⟩ := bnd_ex h
                refine x_callVi (pc := 87) (st := .int y3 :: .ref (ad 0) :: []) (As := [.int y3]) E hEx hl.1 hP hS (kX7_putHome hap  q80.2 _ _ _ hq83) gL_126 hdX7_putHome rfl (by decide) sh7 rfl ⟨Nat.le_of_ble_eq_true rfl, Nat.le_of_ble_eq_true rfl⟩ ⟨rfl, rfl⟩ dL_errors_87 rfl (Nat.le_of_ble_eq_true rfl) (fun H locs hP hS n84 => ?_)
                refine lv_iconst (pc := 90) (v := (-1 : Int32)) hx hb dL_errors_90 (by decide) ?_
                refine lv_icmp_ne (pc := 91) (tgt := 116) hx hb dL_errors_91 (by decide) (fun c85 => ?_) (fun c85 => ?_)
                · have h := (if_neg c85).symm.trans h
                  refine lv_iconst (pc := 116) (v := (0 : Int32)) hx hb dL_errors_116 (by decide) ?_
                  refine lv_istore (pc := 117) (lv' := [(4, .int (0 : Int32)), (3, .int y5), (2, .int y3), (1, .int y1), (0, .ref (ad 0))]) hx hb dL_errors_117 hl (by decide) rfl (fun ls hl => ?_)
                  exact hB119 q83.2 y1 y3 y5 (0 : Int32) _ _ _ h hP hS (lv_sub hl [4, 3, 2, 1, 0] rfl)
                · have h := (if_pos c85).symm.trans h
                  refine lv_aload_n (pc := 94) hx hb dL_errors_94 rfl (lv_at hl 3 rfl) ?_
                  refine lv_iload_n (pc := 95) hx hb dL_errors_95 rfl (lv_at hl 2 rfl) ?_
                  obtain ⟨q86, hq86, h⟩ := bnd_ex h
                  refine x_callVi (pc := 96) (st := .int y1 :: .ref (ad 0) :: []) (As := [.int y1]) E hEx hl.1 hP hS (kX7_close hap  q83.2 _ _ _ hq86) gL_110 hdX7_close rfl (by decide) sh7 rfl ⟨Nat.le_of_ble_eq_true rfl, Nat.le_of_ble_eq_true rfl⟩ ⟨rfl, rfl⟩ dL_errors_96 rfl (Nat.le_of_ble_eq_true rfl) (fun H locs hP hS n87 => ?_)
                  refine lv_iconst (pc := 99) (v := (-1 : Int32)) hx hb dL_errors_99 (by decide) ?_
                  refine lv_icmp_ne (pc := 100) (tgt := 116) hx hb dL_errors_100 (by decide) (fun c88 => ?_) (fun c88 => ?_)
                  · have h := (if_neg c88).symm.trans h
                    refine lv_iconst (pc := 116) (v := (0 : Int32)) hx hb dL_errors_116 (by decide) ?_
                    refine lv_istore (pc := 117) (lv' := [(4, .int (0 : Int32)), (3, .int y5), (2, .int y3), (1, .int y1), (0, .ref (ad 0))]) hx hb dL_errors_117 hl (by decide) rfl (fun ls hl => ?_)
                    exact hB119 q86.2 y1 y3 y5 (0 : Int32) _ _ _ h hP hS (lv_sub hl [4, 3, 2, 1, 0] rfl)
                  · have h := (if_pos c88).symm.trans h
                    refine lv_aload_n (pc := 103) hx hb dL_errors_103 rfl (lv_at hl 3 rfl) ?_
                    refine lv_iload_n (pc := 104) hx hb dL_errors_104 rfl (lv_at hl 0 rfl) ?_
                    obtain ⟨q89, hq89, h⟩ := bnd_ex h
                    refine x_callVi (pc := 105) (st := .int y5 :: .ref (ad 0) :: []) (As := [.int y5]) E hEx hl.1 hP hS (kX7_writeOver hap  q86.2 _ _ _ hq89) gL_129 hdX7_writeOver rfl (by decide) sh7 rfl ⟨Nat.le_of_ble_eq_true rfl, Nat.le_of_ble_eq_true rfl⟩ ⟨rfl, rfl⟩ dL_errors_105 rfl (Nat.le_of_ble_eq_true rfl) (fun H locs hP hS n90 => ?_)
                    refine lv_iconst (pc := 108) (v := (-1 : Int32)) hx hb dL_errors_108 (by decide) ?_
                    refine lv_icmp_ne (pc := 109) (tgt := 116) hx hb dL_errors_109 (by decide) (fun c91 => ?_) (fun c91 => ?_)
                    · have h := (if_neg c91).symm.trans h
                      refine lv_iconst (pc := 116) (v := (0 : Int32)) hx hb dL_errors_116 (by decide) ?_
                      refine lv_istore (pc := 117) (lv' := [(4, .int (0 : Int32)), (3, .int y5), (2, .int y3), (1, .int y1), (0, .ref (ad 0))]) hx hb dL_errors_117 hl (by decide) rfl (fun ls hl => ?_)
                      exact hB119 q89.2 y1 y3 y5 (0 : Int32) _ _ _ h hP hS (lv_sub hl [4, 3, 2, 1, 0] rfl)
                    · have h := (if_pos c91).symm.trans h
                      refine lv_iconst (pc := 112) (v := (1 : Int32)) hx hb dL_errors_112 (by decide) ?_
                      refine lv_goto (pc := 113) (tgt := 117) hx hb dL_errors_113 (by decide) ?_
                      refine lv_istore (pc := 117) (lv' := [(4, .int (1 : Int32)), (3, .int y5), (2, .int y3), (1, .int y1), (0, .ref (ad 0))]) hx hb dL_errors_117 hl (by decide) rfl (fun ls hl => ?_)
                      exact hB119 q89.2 y1 y3 y5 (1 : Int32) _ _ _ h hP hS (lv_sub hl [4, 3, 2, 1, 0] rfl)
end
