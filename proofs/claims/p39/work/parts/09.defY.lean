def fX8_in  (M : Mem) (x0 x1 x2 : Int32) : Int32 :=
    if x0 < x1 then ((0 : Int32)) else (if x2 < x0 then ((0 : Int32)) else ((1 : Int32)))

def fX8_keep_L20  : Nat → Mem → Int32 → Int32 → Option (Int32 × Mem)
  | 0, _, _, _ => none
  | n + 1, M, x1, x2 =>
    if (902 : Int32) ≤ x2 then (some ((M 1 9), M)) else (if inb x2 902 = true then if inb (((902 : Int32) * x1) + x2) 1804 = true then thn (wr M 3 ((((902 : Int32) * x1) + x2).toNatClampNeg) (M 1 (x2.toNatClampNeg))) fun M8 => fX8_keep_L20 n M8 x1 (x2 + 1) else none else none)

def fX8_keep  (M : Mem) (x1 : Int32) : Option (Int32 × Mem) :=
    if (fX8_in M x1 (0 : Int32) (1 : Int32)) = 0 then (some ((-1 : Int32), M)) else (if inb x1 2 = true then thn (wr M 4 (x1.toNatClampNeg) (vp_nar .boolean (1 : Int32))) fun M4 => fX8_keep_L20 5000 M4 x1 (0 : Int32) else none)

def fX8_restore_L25  : Nat → Mem → Int32 → Int32 → Option (Int32 × Mem)
  | 0, _, _, _ => none
  | n + 1, M, x1, x2 =>
    if (902 : Int32) ≤ x2 then (some ((M 1 9), M)) else (if inb (((902 : Int32) * x1) + x2) 1804 = true then if inb x2 902 = true then thn (wr M 1 (x2.toNatClampNeg) (M 3 ((((902 : Int32) * x1) + x2).toNatClampNeg))) fun M8 => fX8_restore_L25 n M8 x1 (x2 + 1) else none else none)

def fX8_restore  (M : Mem) (x1 : Int32) : Option (Int32 × Mem) :=
    if (fX8_in M x1 (0 : Int32) (1 : Int32)) = 0 then (some ((-1 : Int32), M)) else (if inb x1 2 = true then if (M 4 (x1.toNatClampNeg)) = 0 then (some ((-5 : Int32), M)) else (fX8_restore_L25 5000 M x1 (0 : Int32)) else none)

def fX8_plays  (M : Mem)  : Option Int32 :=
    if (M 1 10) = (1 : Int32) then (some (1 : Int32)) else (some (0 : Int32))

def fX8_noBox  (M : Mem) (x1 : Int32) : Option Int32 :=
    if (fX8_in M x1 (0 : Int32) ((M 1 0) - (1 : Int32))) = 0 then (some (1 : Int32)) else (some (0 : Int32))

def fX8_noProp  (M : Mem) (x1 : Int32) : Option Int32 :=
    if (fX8_in M x1 (0 : Int32) ((M 1 1) - (1 : Int32))) = 0 then (some (1 : Int32)) else (some (0 : Int32))

def fX8_noClue  (M : Mem) (x1 : Int32) : Option Int32 :=
    if (fX8_in M x1 (0 : Int32) ((M 1 2) - (1 : Int32))) = 0 then (some (1 : Int32)) else (some (0 : Int32))

def fX8_isOpen  (M : Mem) (x1 : Int32) : Option Int32 :=
    if inb ((56 : Int32) + x1) 902 = true then if (M 1 (((56 : Int32) + x1).toNatClampNeg)) = (1 : Int32) then (some (1 : Int32)) else (some (0 : Int32)) else none

def fX8_closedFrom_L5  : Nat → Mem → Int32 → Int32 → Option Int32
  | 0, _, _, _ => none
  | n + 1, M, x2, x3 =>
    if x3 ≤ 0 then (some x2) else (bnd (fX8_isOpen M x3) fun y2 => if y2 = 0 then (if inb ((20 : Int32) + x3) 902 = true then thn (M 1 (((20 : Int32) + x3).toNatClampNeg)) fun y6 => fX8_closedFrom_L5 n M x3 y6 else none) else (if inb ((20 : Int32) + x3) 902 = true then thn (M 1 (((20 : Int32) + x3).toNatClampNeg)) fun y8 => fX8_closedFrom_L5 n M x2 y8 else none))

def fX8_closedFrom  (M : Mem) (x1 : Int32) : Option Int32 :=
    fX8_closedFrom_L5 5000 M (-5 : Int32) x1

def fX8_closedAround  (M : Mem) (x1 : Int32) : Option Int32 :=
    if x1 = 0 then (some (-5 : Int32)) else (if inb ((20 : Int32) + x1) 902 = true then bnd (fX8_closedFrom M (M 1 (((20 : Int32) + x1).toNatClampNeg))) fun y3 => some y3 else none)

def fX8_boxAtHand  (M : Mem) (x1 : Int32) : Option Int32 :=
    bnd (fX8_closedAround M x1) fun y1 => if 0 ≤ y1 then (some (0 : Int32)) else (some (1 : Int32))

def fX8_isHeld  (M : Mem) (x1 : Int32) : Option Int32 :=
    if inb ((104 : Int32) + x1) 902 = true then if (M 1 (((104 : Int32) + x1).toNatClampNeg)) = (-1 : Int32) then (some (1 : Int32)) else (some (0 : Int32)) else none

def fX8_propAtHand  (M : Mem) (x1 : Int32) : Option Int32 :=
    bnd (fX8_isHeld M x1) fun y1 => if y1 = 0 then (if inb ((104 : Int32) + x1) 902 = true then bnd (fX8_closedFrom M (M 1 (((104 : Int32) + x1).toNatClampNeg))) fun y5 => if 0 ≤ y5 then (some (0 : Int32)) else (some (1 : Int32)) else none) else (some (1 : Int32))

def fX8_clueAtHand  (M : Mem) (x1 : Int32) : Option Int32 :=
    if inb ((128 : Int32) + x1) 902 = true then bnd (fX8_propAtHand M (M 1 (((128 : Int32) + x1).toNatClampNeg))) fun y2 => some y2 else none

def fX8_held_L4  : Nat → Mem → Int32 → Int32 → Option Int32
  | 0, _, _, _ => none
  | n + 1, M, x1, x2 =>
    if (M 1 1) ≤ x2 then (some x1) else (bnd (fX8_isHeld M x2) fun y2 => if y2 = 0 then (fX8_held_L4 n M (x1 + (0 : Int32)) (x2 + 1)) else (fX8_held_L4 n M (x1 + (1 : Int32)) (x2 + 1)))

def fX8_held  (M : Mem)  : Option Int32 :=
    fX8_held_L4 5000 M (0 : Int32) (0 : Int32)

def fX8_digitOf_L30  : Nat → Mem → Int32 → Int32 → Option Int32
  | 0, _, _, _ => none
  | n + 1, M, x2, x3 =>
    if (3 : Int32) ≤ x3 then (some (irm x2 (10 : Int32))) else (fX8_digitOf_L30 n M (x2 / (10 : Int32)) (x3 + 1))

def fX8_digitOf  (M : Mem) (x1 : Int32) : Option Int32 :=
    if inb ((140 : Int32) + x1) 902 = true then if inb ((44 : Int32) + (M 1 (((140 : Int32) + x1).toNatClampNeg))) 902 = true then thn (M 1 (((44 : Int32) + (M 1 (((140 : Int32) + x1).toNatClampNeg))).toNatClampNeg)) fun y3 => if inb ((152 : Int32) + x1) 902 = true then thn (M 1 (((152 : Int32) + x1).toNatClampNeg)) fun y5 => fX8_digitOf_L30 5000 M y3 y5 else none else none else none

def fX8_pass_B102  (M : Mem) (x1 : Int32) : Option Mem :=
    thn (wr M 1 9 ((M 1 9) + x1)) fun M3 => some M3

def fX8_pass_L26  : Nat → Mem → Int32 → Int32 → Int32 → Option Mem
  | 0, _, _, _, _ => none
  | n + 1, M, x1, x2, x3 =>
    if (M 1 2) ≤ x3 then (fX8_pass_B102 M x1) else (if x2 ≤ 0 then (fX8_pass_B102 M x1) else (if inb ((164 : Int32) + x3) 902 = true then thn ((M 1 (((164 : Int32) + x3).toNatClampNeg)) - x2) fun y6 => bnd (fX8_clueAtHand M x3) fun y7 => if y7 = 0 then (if inb ((164 : Int32) + x3) 902 = true then if inb ((164 : Int32) + x3) 902 = true then thn (wr M 1 (((164 : Int32) + x3).toNatClampNeg) (M 1 (((164 : Int32) + x3).toNatClampNeg))) fun M17 => fX8_pass_L26 n M17 x1 x2 (x3 + 1) else none else none) else (if y6 ≤ 0 then (if inb ((164 : Int32) + x3) 902 = true then thn (wr M 1 (((164 : Int32) + x3).toNatClampNeg) (0 : Int32)) fun M12 => fX8_pass_L26 n M12 x1 x2 (x3 + 1) else none) else (if inb ((164 : Int32) + x3) 902 = true then thn (wr M 1 (((164 : Int32) + x3).toNatClampNeg) y6) fun M14 => fX8_pass_L26 n M14 x1 x2 (x3 + 1) else none)) else none))

def fX8_pass  (M : Mem) (x1 : Int32) : Option Mem :=
    thn ((((M 1 9) + x1) / (60 : Int32)) - ((M 1 9) / (60 : Int32))) fun y1 => fX8_pass_L26 5000 M x1 y1 (0 : Int32)

def fX8_type  (M : Mem) (x1 : Int32) : Option (Int32 × Mem) :=
    if (M 0 4) = (20 : Int32) then (some ((-3 : Int32), M)) else (if inb (M 0 4) 20 = true then thn (wr M 5 ((M 0 4).toNatClampNeg) (vp_nar .char x1)) fun M3 => thn (wr M3 0 4 ((M3 0 4) + (1 : Int32))) fun M4 => some ((M4 0 4), M4) else none)

def fX8_clearText  (M : Mem)  : Option (Int32 × Mem) :=
    thn (wr M 0 4 (0 : Int32)) fun M1 => some ((M 0 4), M1)

def fX8_lockLetter  (M : Mem) (x0 x1 : Int32) : Int32 :=
    if x0 = (0 : Int32) then (if x1 = 0 then ((108 : Int32)) else (if x1 = (1 : Int32) then ((97 : Int32)) else (if x1 = (2 : Int32) then ((116 : Int32)) else (if x1 = (3 : Int32) then ((99 : Int32)) else (if x1 = (4 : Int32) then ((104 : Int32)) else ((0 : Int32))))))) else (if x0 = (1 : Int32) then (if x1 = 0 then ((107 : Int32)) else (if x1 = (1 : Int32) then ((101 : Int32)) else (if x1 = (2 : Int32) then ((121 : Int32)) else ((0 : Int32))))) else (if x0 = (2 : Int32) then (if x1 = 0 then ((99 : Int32)) else (if x1 = (1 : Int32) then ((111 : Int32)) else (if x1 = (2 : Int32) then ((100 : Int32)) else (if x1 = (3 : Int32) then ((101 : Int32)) else ((0 : Int32)))))) else ((if x1 = 0 then ((112 : Int32)) else (if x1 = (1 : Int32) then ((108 : Int32)) else (if x1 = (2 : Int32) then ((97 : Int32)) else (if x1 = (3 : Int32) then ((116 : Int32)) else (if x1 = (4 : Int32) then ((101 : Int32)) else ((0 : Int32))))))))))

def fX8_sees  (M : Mem)  : Option Int32 :=
    if (M 0 4) ≤ (M 0 6) then (some (0 : Int32)) else (if inb (M 0 6) 20 = true then some (M 5 ((M 0 6).toNatClampNeg)) else none)

def fX8_takes_B35  (M : Mem)  : Option Mem :=
    if (bz (M 0 7)) = 0 then (thn (wr M 0 6 ((M 0 6) + (1 : Int32))) fun M4 => some M4) else (thn (wr M 0 6 ((M 0 6) + (0 : Int32))) fun M5 => some M5)

def fX8_takes  (M : Mem) (x1 : Int32) : Option Mem :=
    if (bz (M 0 7)) = 0 then (if (M 0 4) ≤ (M 0 6) then (thn (wr M 0 7 (1 : Int32)) fun M7 => fX8_takes_B35 M7) else (bnd (fX8_sees M) fun y8 => if y8 = x1 then (thn (wr M 0 7 (0 : Int32)) fun M11 => fX8_takes_B35 M11) else (thn (wr M 0 7 (1 : Int32)) fun M12 => fX8_takes_B35 M12))) else (thn (wr M 0 7 (1 : Int32)) fun M2 => fX8_takes_B35 M2)

def fX8_seesDigit  (M : Mem)  : Option Int32 :=
    if (M 0 4) ≤ (M 0 6) then (some (0 : Int32)) else (bnd (fX8_sees M) fun y2 => if (fX8_in M y2 (48 : Int32) (57 : Int32)) = 0 then (some (0 : Int32)) else (some (1 : Int32)))

def fX8_number_L5  : Nat → Mem → Int32 → Int32 → Int32 → Int32 → Option (Int32 × Mem)
  | 0, _, _, _, _, _ => none
  | n + 1, M, x1, x2, x3, x4 =>
    if (bz (M 0 7)) = 0 then (if x2 ≤ x4 then (some (x3, M)) else (if x4 < x1 then (bnd (fX8_seesDigit M) fun y4 => if y4 = 0 then (thn (wr M 0 7 (1 : Int32)) fun M19 => if (bz (M19 0 7)) = 0 then (bnd (fX8_sees M19) fun y21 => thn (((10 : Int32) * x3) + (y21 - (48 : Int32))) fun y23 => if (bz (M19 0 7)) = 0 then (thn (wr M19 0 6 ((M19 0 6) + (1 : Int32))) fun M25 => fX8_number_L5 n M25 x1 x2 y23 (x4 + 1)) else (thn (wr M19 0 6 ((M19 0 6) + (0 : Int32))) fun M26 => fX8_number_L5 n M26 x1 x2 y23 (x4 + 1))) else (thn (((10 : Int32) * x3) + (0 : Int32)) fun y27 => if (bz (M19 0 7)) = 0 then (thn (wr M19 0 6 ((M19 0 6) + (1 : Int32))) fun M29 => fX8_number_L5 n M29 x1 x2 y27 (x4 + 1)) else (thn (wr M19 0 6 ((M19 0 6) + (0 : Int32))) fun M30 => fX8_number_L5 n M30 x1 x2 y27 (x4 + 1)))) else (thn (wr M 0 7 (0 : Int32)) fun M7 => if (bz (M7 0 7)) = 0 then (bnd (fX8_sees M7) fun y9 => thn (((10 : Int32) * x3) + (y9 - (48 : Int32))) fun y11 => if (bz (M7 0 7)) = 0 then (thn (wr M7 0 6 ((M7 0 6) + (1 : Int32))) fun M13 => fX8_number_L5 n M13 x1 x2 y11 (x4 + 1)) else (thn (wr M7 0 6 ((M7 0 6) + (0 : Int32))) fun M14 => fX8_number_L5 n M14 x1 x2 y11 (x4 + 1))) else (thn (((10 : Int32) * x3) + (0 : Int32)) fun y15 => if (bz (M7 0 7)) = 0 then (thn (wr M7 0 6 ((M7 0 6) + (1 : Int32))) fun M17 => fX8_number_L5 n M17 x1 x2 y15 (x4 + 1)) else (thn (wr M7 0 6 ((M7 0 6) + (0 : Int32))) fun M18 => fX8_number_L5 n M18 x1 x2 y15 (x4 + 1))))) else (bnd (fX8_seesDigit M) fun y31 => if y31 = 0 then (some (x3, M)) else (bnd (fX8_seesDigit M) fun y34 => if y34 = 0 then (thn (wr M 0 7 (1 : Int32)) fun M49 => if (bz (M49 0 7)) = 0 then (bnd (fX8_sees M49) fun y51 => thn (((10 : Int32) * x3) + (y51 - (48 : Int32))) fun y53 => if (bz (M49 0 7)) = 0 then (thn (wr M49 0 6 ((M49 0 6) + (1 : Int32))) fun M55 => fX8_number_L5 n M55 x1 x2 y53 (x4 + 1)) else (thn (wr M49 0 6 ((M49 0 6) + (0 : Int32))) fun M56 => fX8_number_L5 n M56 x1 x2 y53 (x4 + 1))) else (thn (((10 : Int32) * x3) + (0 : Int32)) fun y57 => if (bz (M49 0 7)) = 0 then (thn (wr M49 0 6 ((M49 0 6) + (1 : Int32))) fun M59 => fX8_number_L5 n M59 x1 x2 y57 (x4 + 1)) else (thn (wr M49 0 6 ((M49 0 6) + (0 : Int32))) fun M60 => fX8_number_L5 n M60 x1 x2 y57 (x4 + 1)))) else (thn (wr M 0 7 (0 : Int32)) fun M37 => if (bz (M37 0 7)) = 0 then (bnd (fX8_sees M37) fun y39 => thn (((10 : Int32) * x3) + (y39 - (48 : Int32))) fun y41 => if (bz (M37 0 7)) = 0 then (thn (wr M37 0 6 ((M37 0 6) + (1 : Int32))) fun M43 => fX8_number_L5 n M43 x1 x2 y41 (x4 + 1)) else (thn (wr M37 0 6 ((M37 0 6) + (0 : Int32))) fun M44 => fX8_number_L5 n M44 x1 x2 y41 (x4 + 1))) else (thn (((10 : Int32) * x3) + (0 : Int32)) fun y45 => if (bz (M37 0 7)) = 0 then (thn (wr M37 0 6 ((M37 0 6) + (1 : Int32))) fun M47 => fX8_number_L5 n M47 x1 x2 y45 (x4 + 1)) else (thn (wr M37 0 6 ((M37 0 6) + (0 : Int32))) fun M48 => fX8_number_L5 n M48 x1 x2 y45 (x4 + 1)))))))) else (some (x3, M))

def fX8_number  (M : Mem) (x1 x2 : Int32) : Option (Int32 × Mem) :=
    fX8_number_L5 5000 M x1 x2 (0 : Int32) (0 : Int32)

def fX8_readsLock_B115  (M : Mem)  : Option Mem :=
    thn (wr M 0 10 (-5 : Int32)) fun M6 => if (bz (M6 0 7)) = 0 then (if (M6 0 9) = 0 then (some M6) else (bnd (fX8_takes M6 (32 : Int32)) fun M9 => if (M9 0 9) = (2 : Int32) then (bnd (fX8_number M9 (4 : Int32) (4 : Int32)) fun q14 => thn (wr q14.2 0 10 q14.1) fun M16 => some M16) else (bnd (fX8_number M9 (1 : Int32) (2 : Int32)) fun q11 => thn (wr q11.2 0 10 q11.1) fun M13 => some M13))) else (some M6)

def fX8_readsLock_L79  : Nat → Mem → Int32 → Option Mem
  | 0, _, _ => none
  | n + 1, M, x1 =>
    if (bz (M 0 7)) = 0 then (if (fX8_lockLetter M (M 0 9) x1) ≤ 0 then (fX8_readsLock_B115 M) else (bnd (fX8_takes M (fX8_lockLetter M (M 0 9) x1)) fun M20 => fX8_readsLock_L79 n M20 (x1 + 1))) else (fX8_readsLock_B115 M)

def fX8_readsLock_L8  : Nat → Mem → Int32 → Option Mem
  | 0, _, _ => none
  | n + 1, M, x1 =>
    if (4 : Int32) ≤ x1 then (if (bz (M 0 7)) = 0 then (if 0 ≤ (M 0 9) then (thn (wr M 0 7 (0 : Int32)) fun M22 => fX8_readsLock_L79 5000 M22 (0 : Int32)) else (thn (wr M 0 7 (1 : Int32)) fun M23 => fX8_readsLock_L79 5000 M23 (0 : Int32))) else (thn (wr M 0 7 (1 : Int32)) fun M4 => fX8_readsLock_L79 5000 M4 (0 : Int32))) else (if (M 0 4) ≤ (M 0 6) then (thn (wr M 0 9 (M 0 9)) fun M25 => fX8_readsLock_L8 n M25 (x1 + 1)) else (bnd (fX8_sees M) fun y26 => if y26 = (fX8_lockLetter M x1 (0 : Int32)) then (thn (wr M 0 9 x1) fun M31 => fX8_readsLock_L8 n M31 (x1 + 1)) else (thn (wr M 0 9 (M 0 9)) fun M30 => fX8_readsLock_L8 n M30 (x1 + 1))))

def fX8_readsLock  (M : Mem)  : Option Mem :=
    thn (wr M 0 9 (-5 : Int32)) fun M1 => fX8_readsLock_L8 5000 M1 (0 : Int32)

def fX8_faultOfText_B37  (M : Mem)  : Option (Int32 × Mem) :=
    if (bz (M 0 7)) = 0 then (if (M 0 4) ≤ (M 0 6) then (some ((-5 : Int32), M)) else (some ((M 0 6), M))) else (some ((M 0 6), M))

def fX8_faultOfText  (M : Mem)  : Option (Int32 × Mem) :=
    thn (wr M 0 6 (0 : Int32)) fun M1 => thn (wr M1 0 7 (0 : Int32)) fun M2 => bnd (fX8_number M2 (1 : Int32) (2 : Int32)) fun q3 => thn (wr q3.2 0 8 q3.1) fun M5 => bnd (fX8_takes M5 (32 : Int32)) fun M6 => if (bz (M6 0 7)) = 0 then (bnd (fX8_readsLock M6) fun M10 => fX8_faultOfText_B37 M10) else (fX8_faultOfText_B37 M6)

def fX8_addBox_B64  (M : Mem)  : Option (Int32 × Mem) :=
    bnd (fX8_plays M) fun y9 => if y9 = 0 then (if (M 1 0) = (12 : Int32) then (some ((-3 : Int32), M)) else (if inb ((20 : Int32) + (M 1 0)) 902 = true then thn (wr M 1 (((20 : Int32) + (M 1 0)).toNatClampNeg) (M 0 8)) fun M14 => if inb ((32 : Int32) + (M 1 0)) 902 = true then thn (wr M14 1 (((32 : Int32) + (M 1 0)).toNatClampNeg) (M14 0 9)) fun M16 => if inb ((44 : Int32) + (M 1 0)) 902 = true then thn (wr M16 1 (((44 : Int32) + (M 1 0)).toNatClampNeg) (M16 0 10)) fun M18 => if inb ((56 : Int32) + (M 1 0)) 902 = true then thn (wr M18 1 (((56 : Int32) + (M 1 0)).toNatClampNeg) (0 : Int32)) fun M20 => thn (wr M20 1 0 ((M20 1 0) + (1 : Int32))) fun M21 => some ((M 1 0), M21) else none else none else none else none)) else (some ((-4 : Int32), M))

def fX8_addBox_B36  (M : Mem) (x2 : Int32) : Option (Int32 × Mem) :=
    bnd (fX8_noBox M (M 0 8)) fun y5 => if y5 = 0 then (if x2 = 0 then (fX8_addBox_B64 M) else (bnd (fX8_noProp M (M 0 10)) fun y22 => if y22 = 0 then (fX8_addBox_B64 M) else (some ((-1 : Int32), M)))) else (some ((-1 : Int32), M))

def fX8_addBox  (M : Mem)  : Option (Int32 × Mem) :=
    bnd (fX8_faultOfText M) fun q1 => if q1.1 < 0 then (if (q1.2 0 9) = (1 : Int32) then (fX8_addBox_B36 q1.2 (1 : Int32)) else (if (q1.2 0 9) ≤ (2 : Int32) then (fX8_addBox_B36 q1.2 (0 : Int32)) else (fX8_addBox_B36 q1.2 (1 : Int32)))) else (some (((-100 : Int32) - q1.1), q1.2))

def fX8_addProp  (M : Mem) (x1 : Int32) : Option (Int32 × Mem) :=
    bnd (fX8_noBox M x1) fun y1 => if y1 = 0 then (bnd (fX8_plays M) fun y4 => if y4 = 0 then (if (M 1 1) = (24 : Int32) then (some ((-3 : Int32), M)) else (if inb ((80 : Int32) + (M 1 1)) 902 = true then thn (wr M 1 (((80 : Int32) + (M 1 1)).toNatClampNeg) x1) fun M9 => if inb ((104 : Int32) + (M 1 1)) 902 = true then thn (wr M9 1 (((104 : Int32) + (M 1 1)).toNatClampNeg) x1) fun M11 => thn (wr M11 1 1 ((M11 1 1) + (1 : Int32))) fun M12 => some ((M 1 1), M12) else none else none)) else (some ((-4 : Int32), M))) else (some ((-1 : Int32), M))

def fX8_addClue  (M : Mem) (x1 x2 x3 : Int32) : Option (Int32 × Mem) :=
    bnd (fX8_noProp M x1) fun y1 => if y1 = 0 then (bnd (fX8_noBox M x2) fun y4 => if y4 = 0 then (if (fX8_in M x3 (0 : Int32) (3 : Int32)) = 0 then (some ((-2 : Int32), M)) else (if x2 = 0 then (some ((-4 : Int32), M)) else (if inb ((32 : Int32) + x2) 902 = true then if (M 1 (((32 : Int32) + x2).toNatClampNeg)) = (2 : Int32) then (bnd (fX8_plays M) fun y12 => if y12 = 0 then (if (M 1 2) = (12 : Int32) then (some ((-3 : Int32), M)) else (if inb ((128 : Int32) + (M 1 2)) 902 = true then thn (wr M 1 (((128 : Int32) + (M 1 2)).toNatClampNeg) x1) fun M17 => if inb ((140 : Int32) + (M 1 2)) 902 = true then thn (wr M17 1 (((140 : Int32) + (M 1 2)).toNatClampNeg) x2) fun M19 => if inb ((152 : Int32) + (M 1 2)) 902 = true then thn (wr M19 1 (((152 : Int32) + (M 1 2)).toNatClampNeg) x3) fun M21 => if inb ((164 : Int32) + (M 1 2)) 902 = true then thn (wr M21 1 (((164 : Int32) + (M 1 2)).toNatClampNeg) (9 : Int32)) fun M23 => thn (wr M23 1 2 ((M23 1 2) + (1 : Int32))) fun M24 => some ((M 1 2), M24) else none else none else none else none)) else (some ((-4 : Int32), M))) else (some ((-4 : Int32), M)) else none))) else (some ((-1 : Int32), M))) else (some ((-1 : Int32), M))

def fX8_setExit  (M : Mem) (x1 : Int32) : Option (Int32 × Mem) :=
    bnd (fX8_noBox M x1) fun y1 => if y1 = 0 then (if x1 = 0 then (some ((-2 : Int32), M)) else (bnd (fX8_plays M) fun y5 => if y5 = 0 then (thn (wr M 1 5 x1) fun M8 => if (M 1 5) = x1 then (some ((-5 : Int32), M8)) else (some ((M 1 5), M8))) else (some ((-4 : Int32), M)))) else (some ((-1 : Int32), M))

def fX8_setLimits_B65  (M : Mem) (x1 x2 x3 x4 : Int32) : Option (Int32 × Mem) :=
    thn (wr M 1 6 x1) fun M9 => thn (wr M9 1 7 x2) fun M10 => if x4 = 0 then (some (x3, M10)) else (some ((-5 : Int32), M10))

def fX8_setLimits  (M : Mem) (x1 x2 : Int32) : Option (Int32 × Mem) :=
    if (fX8_in M x1 (10 : Int32) (120 : Int32)) = 0 then (some ((-2 : Int32), M)) else (if (fX8_in M x2 (0 : Int32) (9 : Int32)) = 0 then (some ((-2 : Int32), M)) else (bnd (fX8_plays M) fun y5 => if y5 = 0 then (if (M 1 6) = x1 then (if (M 1 7) = x2 then (fX8_setLimits_B65 M x1 x2 (M 1 6) (1 : Int32)) else (fX8_setLimits_B65 M x1 x2 (M 1 6) (0 : Int32))) else (fX8_setLimits_B65 M x1 x2 (M 1 6) (0 : Int32))) else (some ((-4 : Int32), M))))

def fX8_addPaint  (M : Mem) (x1 : Int32) : Option (Int32 × Mem) :=
    if (fX8_in M x1 (1 : Int32) (1000 : Int32)) = 0 then (some ((-2 : Int32), M)) else (thn (wr M 1 8 ((M 1 8) + x1)) fun M3 => some ((M3 1 8), M3))

def fX8_book_B53  (M : Mem) (x1 x2 x3 : Int32) : Option (Int32 × Mem) :=
    if x3 = (8 : Int32) then (some ((-3 : Int32), M)) else (if inb ((176 : Int32) + x3) 902 = true then thn (wr M 1 (((176 : Int32) + x3).toNatClampNeg) x1) fun M8 => if inb ((184 : Int32) + x3) 902 = true then thn (wr M8 1 (((184 : Int32) + x3).toNatClampNeg) x2) fun M10 => thn (wr M10 1 3 ((M10 1 3) + (1 : Int32))) fun M11 => some ((x3 + (1 : Int32)), M11) else none else none)

def fX8_book  (M : Mem) (x1 x2 : Int32) : Option (Int32 × Mem) :=
    if (fX8_in M x1 (1 : Int32) (6 : Int32)) = 0 then (some ((-2 : Int32), M)) else (if (fX8_in M x2 (0 : Int32) (100000 : Int32)) = 0 then (some ((-2 : Int32), M)) else (if (M 1 3) ≤ 0 then (fX8_book_B53 M x1 x2 (M 1 3)) else (if inb (((184 : Int32) + (M 1 3)) - (1 : Int32)) 902 = true then if (M 1 ((((184 : Int32) + (M 1 3)) - (1 : Int32)).toNatClampNeg)) ≤ x2 then (fX8_book_B53 M x1 x2 (M 1 3)) else (some ((-4 : Int32), M)) else none)))

def fX8_noGroup  (M : Mem) (x1 : Int32) : Option Int32 :=
    if (fX8_in M x1 (0 : Int32) ((M 1 3) - (1 : Int32))) = 0 then (some (1 : Int32)) else (some (0 : Int32))

def fX8_removeGroup_L12  : Nat → Mem → Int32 → Option Mem
  | 0, _, _ => none
  | n + 1, M, x2 =>
    if (M 1 3) ≤ x2 then (some M) else (if inb (((176 : Int32) + x2) + (1 : Int32)) 902 = true then if inb ((176 : Int32) + x2) 902 = true then thn (wr M 1 (((176 : Int32) + x2).toNatClampNeg) (M 1 ((((176 : Int32) + x2) + (1 : Int32)).toNatClampNeg))) fun M5 => if inb (((184 : Int32) + x2) + (1 : Int32)) 902 = true then if inb ((184 : Int32) + x2) 902 = true then thn (wr M5 1 (((184 : Int32) + x2).toNatClampNeg) (M5 1 ((((184 : Int32) + x2) + (1 : Int32)).toNatClampNeg))) fun M8 => fX8_removeGroup_L12 n M8 (x2 + 1) else none else none else none else none)

def fX8_removeGroup  (M : Mem) (x1 : Int32) : Option Mem :=
    thn (wr M 1 3 ((M 1 3) - (1 : Int32))) fun M1 => fX8_removeGroup_L12 5000 M1 x1

def fX8_cancel  (M : Mem) (x1 : Int32) : Option (Int32 × Mem) :=
    bnd (fX8_noGroup M x1) fun y1 => if y1 = 0 then (bnd (fX8_removeGroup M x1) fun M4 => some ((M4 1 3), M4)) else (some ((-1 : Int32), M))

def fX8_notAtHome_L4  : Nat → Mem → Int32 → Int32 → Option Int32
  | 0, _, _, _ => none
  | n + 1, M, x1, x2 =>
    if (M 1 1) ≤ x2 then (some x1) else (if inb ((104 : Int32) + x2) 902 = true then if inb ((80 : Int32) + x2) 902 = true then if (M 1 (((104 : Int32) + x2).toNatClampNeg)) = (M 1 (((80 : Int32) + x2).toNatClampNeg)) then (fX8_notAtHome_L4 n M (x1 + (0 : Int32)) (x2 + 1)) else (fX8_notAtHome_L4 n M (x1 + (1 : Int32)) (x2 + 1)) else none else none)

def fX8_notAtHome  (M : Mem)  : Option Int32 :=
    fX8_notAtHome_L4 5000 M (0 : Int32) (0 : Int32)

def fX8_openOnes_L4  : Nat → Mem → Int32 → Int32 → Option Int32
  | 0, _, _, _ => none
  | n + 1, M, x1, x2 =>
    if (M 1 0) ≤ x2 then (some x1) else (if inb ((56 : Int32) + x2) 902 = true then thn (x1 + (M 1 (((56 : Int32) + x2).toNatClampNeg))) fun y3 => fX8_openOnes_L4 n M y3 (x2 + 1) else none)

def fX8_openOnes  (M : Mem)  : Option Int32 :=
    fX8_openOnes_L4 5000 M (0 : Int32) (1 : Int32)

def fX8_startGame_L190  : Nat → Mem → Int32 → Option (Int32 × Mem)
  | 0, _, _ => none
  | n + 1, M, x1 =>
    if (12 : Int32) ≤ x1 then (some (((M 1 13) - (M 1 12)), M)) else (if inb ((68 : Int32) + x1) 902 = true then thn (wr M 1 (((68 : Int32) + x1).toNatClampNeg) (0 : Int32)) fun M26 => fX8_startGame_L190 n M26 (x1 + 1) else none)

def fX8_startGame_B126  (M : Mem)  : Option (Int32 × Mem) :=
    thn (wr M 1 10 (1 : Int32)) fun M14 => thn (wr M14 1 13 (M14 1 9)) fun M15 => thn (wr M15 1 14 (0 : Int32)) fun M16 => thn (wr M16 1 15 (0 : Int32)) fun M17 => bnd (fX8_notAtHome M17) fun y18 => bnd (fX8_openOnes M17) fun y20 => thn (wr M17 1 16 (y18 + y20)) fun M22 => thn (wr M22 1 17 (0 : Int32)) fun M23 => fX8_startGame_L190 5000 M23 (0 : Int32)

def fX8_startGame  (M : Mem)  : Option (Int32 × Mem) :=
    bnd (fX8_plays M) fun y1 => if y1 = 0 then (if (M 1 3) = 0 then (some ((-4 : Int32), M)) else (if (M 1 5) = 0 then (some ((-4 : Int32), M)) else (bnd (fX8_isOpen M (M 1 5)) fun y6 => if y6 = 0 then (if (M 1 4) = (30 : Int32) then (some ((-3 : Int32), M)) else (thn (wr M 1 11 (M 1 176)) fun M10 => thn (wr M10 1 12 (M10 1 184)) fun M11 => bnd (fX8_removeGroup M11 (0 : Int32)) fun M12 => if (M12 1 12) ≤ (M12 1 9) then (fX8_startGame_B126 M12) else (bnd (fX8_pass M12 ((M12 1 12) - (M12 1 9))) fun M27 => fX8_startGame_B126 M27))) else (some ((-4 : Int32), M))))) else (some ((-4 : Int32), M))

def fX8_note  (M : Mem) (x1 x2 x3 : Int32) : Option Mem :=
    thn ((402 : Int32) + ((4 : Int32) * (M 1 17))) fun y1 => if inb y1 902 = true then thn (wr M 1 (y1.toNatClampNeg) ((M 1 9) - (M 1 13))) fun M3 => if inb (y1 + (1 : Int32)) 902 = true then thn (wr M3 1 ((y1 + (1 : Int32)).toNatClampNeg) x1) fun M5 => if inb (y1 + (2 : Int32)) 902 = true then thn (wr M5 1 ((y1 + (2 : Int32)).toNatClampNeg) x2) fun M7 => if inb (y1 + (3 : Int32)) 902 = true then thn (wr M7 1 ((y1 + (3 : Int32)).toNatClampNeg) x3) fun M9 => thn (wr M9 1 17 ((M9 1 17) + (1 : Int32))) fun M10 => some M10 else none else none else none else none

def fX8_end_L2  : Nat → Mem → Int32 → Int32 → Option Mem
  | 0, _, _, _ => none
  | n + 1, M, x1, x2 =>
    if (M 1 1) ≤ x2 then (thn ((192 : Int32) + ((7 : Int32) * (M 1 4))) fun y2 => if inb y2 902 = true then thn (wr M 1 (y2.toNatClampNeg) (M 1 11)) fun M4 => if inb (y2 + (1 : Int32)) 902 = true then thn (wr M4 1 ((y2 + (1 : Int32)).toNatClampNeg) (M4 1 12)) fun M6 => if inb (y2 + (2 : Int32)) 902 = true then thn (wr M6 1 ((y2 + (2 : Int32)).toNatClampNeg) (M6 1 13)) fun M8 => if inb (y2 + (3 : Int32)) 902 = true then thn (wr M8 1 ((y2 + (3 : Int32)).toNatClampNeg) ((M8 1 9) - (M8 1 13))) fun M10 => if inb (y2 + (4 : Int32)) 902 = true then thn (wr M10 1 ((y2 + (4 : Int32)).toNatClampNeg) x1) fun M12 => if inb (y2 + (5 : Int32)) 902 = true then thn (wr M12 1 ((y2 + (5 : Int32)).toNatClampNeg) (M12 1 14)) fun M14 => if inb (y2 + (6 : Int32)) 902 = true then thn (wr M14 1 ((y2 + (6 : Int32)).toNatClampNeg) (M14 1 16)) fun M16 => thn (wr M16 1 4 ((M16 1 4) + (1 : Int32))) fun M17 => thn (wr M17 1 10 (0 : Int32)) fun M18 => some M18 else none else none else none else none else none else none else none) else (bnd (fX8_isHeld M x2) fun y19 => if y19 = 0 then (if inb ((104 : Int32) + x2) 902 = true then if inb ((104 : Int32) + x2) 902 = true then thn (wr M 1 (((104 : Int32) + x2).toNatClampNeg) (M 1 (((104 : Int32) + x2).toNatClampNeg))) fun M24 => fX8_end_L2 n M24 x1 (x2 + 1) else none else none) else (if inb ((104 : Int32) + x2) 902 = true then thn (wr M 1 (((104 : Int32) + x2).toNatClampNeg) (0 : Int32)) fun M26 => fX8_end_L2 n M26 x1 (x2 + 1) else none))

def fX8_end  (M : Mem) (x1 : Int32) : Option Mem :=
    fX8_end_L2 5000 M x1 (0 : Int32)

def fX8_minutesLeft  (M : Mem)  : Option Int32 :=
    some (((M 1 13) + (M 1 6)) - (M 1 9))

def fX8_lessHalf  (M : Mem) (x1 : Int32) : Option Int32 :=
    thn (x1 - ((M 1 11) / (2 : Int32))) fun y1 => if y1 ≤ (1 : Int32) then (some (1 : Int32)) else (some y1)

def fX8_readMinutes  (M : Mem) (x1 : Int32) : Option Int32 :=
    bnd (fX8_lessHalf M (3 : Int32)) fun y1 => if inb ((164 : Int32) + x1) 902 = true then if (4 : Int32) ≤ (M 1 (((164 : Int32) + x1).toNatClampNeg)) then (some y1) else (some ((2 : Int32) * y1)) else none

def fX8_isOver  (M : Mem) (x1 : Int32) : Option (Int32 × Mem) :=
    bnd (fX8_minutesLeft M) fun y1 => if y1 < x1 then (bnd (fX8_note M (6 : Int32) (0 : Int32) (0 : Int32)) fun M4 => bnd (fX8_minutesLeft M4) fun y5 => bnd (fX8_pass M4 y5) fun M7 => bnd (fX8_end M7 (0 : Int32)) fun M8 => some ((1 : Int32), M8)) else (some ((0 : Int32), M))

def fX8_take  (M : Mem) (x1 : Int32) : Option (Int32 × Mem) :=
    bnd (fX8_noProp M x1) fun y1 => if y1 = 0 then (bnd (fX8_plays M) fun y4 => if y4 = 0 then (some ((-4 : Int32), M)) else (bnd (fX8_isHeld M x1) fun y7 => if y7 = 0 then (bnd (fX8_propAtHand M x1) fun y10 => if y10 = 0 then (some ((-4 : Int32), M)) else (bnd (fX8_held M) fun y13 => if y13 < (M 1 11) then (bnd (fX8_lessHalf M (3 : Int32)) fun y16 => bnd (fX8_isOver M y16) fun q18 => if q18.1 = 0 then (bnd (fX8_note q18.2 (0 : Int32) x1 (0 : Int32)) fun M21 => if inb ((104 : Int32) + x1) 902 = true then thn (wr M21 1 (((104 : Int32) + x1).toNatClampNeg) (-1 : Int32)) fun M23 => bnd (fX8_lessHalf M23 (3 : Int32)) fun y24 => bnd (fX8_pass M23 y24) fun M26 => bnd (fX8_held M26) fun y27 => some (y27, M26) else none) else (some ((-6 : Int32), q18.2))) else (some ((-3 : Int32), M)))) else (some ((-4 : Int32), M)))) else (some ((-1 : Int32), M))

def fX8_lay  (M : Mem) (x1 x2 : Int32) : Option (Int32 × Mem) :=
    bnd (fX8_noProp M x1) fun y1 => if y1 = 0 then (bnd (fX8_noBox M x2) fun y4 => if y4 = 0 then (bnd (fX8_plays M) fun y7 => if y7 = 0 then (some ((-4 : Int32), M)) else (bnd (fX8_isHeld M x1) fun y10 => if y10 = 0 then (some ((-4 : Int32), M)) else (bnd (fX8_isOpen M x2) fun y13 => if y13 = 0 then (some ((-4 : Int32), M)) else (bnd (fX8_boxAtHand M x2) fun y16 => if y16 = 0 then (some ((-4 : Int32), M)) else (bnd (fX8_lessHalf M (2 : Int32)) fun y19 => bnd (fX8_isOver M y19) fun q21 => if q21.1 = 0 then (bnd (fX8_note q21.2 (1 : Int32) x1 x2) fun M24 => if inb ((104 : Int32) + x1) 902 = true then thn (wr M24 1 (((104 : Int32) + x1).toNatClampNeg) x2) fun M26 => bnd (fX8_lessHalf M26 (2 : Int32)) fun y27 => bnd (fX8_pass M26 y27) fun M29 => bnd (fX8_held M29) fun y30 => some (y30, M29) else none) else (some ((-6 : Int32), q21.2))))))) else (some ((-1 : Int32), M))) else (some ((-1 : Int32), M))

def fX8_lets  (M : Mem) (x1 : Int32) : Option Int32 :=
    if inb ((32 : Int32) + x1) 902 = true then thn (M 1 (((32 : Int32) + x1).toNatClampNeg)) fun y2 => if inb ((44 : Int32) + x1) 902 = true then thn (M 1 (((44 : Int32) + x1).toNatClampNeg)) fun y4 => if y2 = 0 then (some (1 : Int32)) else (if y2 = (2 : Int32) then (some (1 : Int32)) else (if y2 = (1 : Int32) then (bnd (fX8_isHeld M y4) fun y11 => if y11 = 0 then (some (0 : Int32)) else (some (1 : Int32))) else (if inb ((104 : Int32) + y4) 902 = true then if inb ((20 : Int32) + x1) 902 = true then if (M 1 (((104 : Int32) + y4).toNatClampNeg)) = (M 1 (((20 : Int32) + x1).toNatClampNeg)) then (some (1 : Int32)) else (some (0 : Int32)) else none else none))) else none else none

def fX8_open_B180  (M : Mem) (x3 : Int32) : Option (Int32 × Mem) :=
    if x3 = 0 then (some ((0 : Int32), M)) else (some ((1 : Int32), M))

def fX8_open_B153  (M : Mem) (x1 x3 x4 : Int32) : Option (Int32 × Mem) :=
    bnd (fX8_pass M x4) fun M30 => if x3 = 0 then (fX8_open_B180 M30 x3) else (if x1 = (M30 1 5) then (bnd (fX8_end M30 (1 : Int32)) fun M34 => some ((2 : Int32), M34)) else (fX8_open_B180 M30 x3))

def fX8_open_B134  (M : Mem) (x1 x3 x4 : Int32) : Option (Int32 × Mem) :=
    if x3 = 0 then (thn (wr M 1 15 ((M 1 15) + (1 : Int32))) fun M29 => fX8_open_B153 M29 x1 x3 x4) else (thn (wr M 1 15 ((M 1 15) + (0 : Int32))) fun M35 => fX8_open_B153 M35 x1 x3 x4)

def fX8_open_B97  (M : Mem) (x1 x3 x4 : Int32) : Option (Int32 × Mem) :=
    bnd (fX8_isOver M x4) fun q21 => if q21.1 = 0 then (bnd (fX8_note q21.2 (2 : Int32) x1 (0 : Int32)) fun M24 => if x3 = 0 then (if inb ((56 : Int32) + x1) 902 = true then thn (wr M24 1 (((56 : Int32) + x1).toNatClampNeg) (0 : Int32)) fun M27 => fX8_open_B134 M27 x1 x3 x4 else none) else (if inb ((56 : Int32) + x1) 902 = true then thn (wr M24 1 (((56 : Int32) + x1).toNatClampNeg) (1 : Int32)) fun M37 => fX8_open_B134 M37 x1 x3 x4 else none)) else (some ((-6 : Int32), q21.2))

def fX8_open_B76  (M : Mem) (x1 x3 : Int32) : Option (Int32 × Mem) :=
    if x3 = 0 then (bnd (fX8_lessHalf M (4 : Int32)) fun y19 => fX8_open_B97 M x1 x3 ((2 : Int32) * y19)) else (bnd (fX8_lessHalf M (4 : Int32)) fun y38 => fX8_open_B97 M x1 x3 y38)

def fX8_open  (M : Mem) (x1 x2 : Int32) : Option (Int32 × Mem) :=
    bnd (fX8_noBox M x1) fun y1 => if y1 = 0 then (bnd (fX8_plays M) fun y4 => if y4 = 0 then (some ((-4 : Int32), M)) else (bnd (fX8_isOpen M x1) fun y7 => if y7 = 0 then (bnd (fX8_boxAtHand M x1) fun y10 => if y10 = 0 then (some ((-4 : Int32), M)) else (bnd (fX8_lets M x1) fun y13 => if y13 = 0 then (some ((-4 : Int32), M)) else (if inb ((32 : Int32) + x1) 902 = true then if (M 1 (((32 : Int32) + x1).toNatClampNeg)) = (2 : Int32) then (if inb ((44 : Int32) + x1) 902 = true then if (M 1 (((44 : Int32) + x1).toNatClampNeg)) = x2 then (fX8_open_B76 M x1 (1 : Int32)) else (fX8_open_B76 M x1 (0 : Int32)) else none) else (fX8_open_B76 M x1 (1 : Int32)) else none))) else (some ((-4 : Int32), M)))) else (some ((-1 : Int32), M))

def fX8_learn  (M : Mem) (x1 : Int32) : Option Mem :=
    if inb ((140 : Int32) + x1) 902 = true then if inb ((68 : Int32) + (M 1 (((140 : Int32) + x1).toNatClampNeg))) 902 = true then if inb ((152 : Int32) + x1) 902 = true then if inb ((68 : Int32) + (M 1 (((140 : Int32) + x1).toNatClampNeg))) 902 = true then thn (wr M 1 (((68 : Int32) + (M 1 (((140 : Int32) + x1).toNatClampNeg))).toNatClampNeg) ((M 1 (((68 : Int32) + (M 1 (((140 : Int32) + x1).toNatClampNeg))).toNatClampNeg)) ||| ((1 : Int32) <<< ((M 1 (((152 : Int32) + x1).toNatClampNeg)) &&& 31)))) fun M5 => some M5 else none else none else none else none

def fX8_read  (M : Mem) (x1 : Int32) : Option (Int32 × Mem) :=
    bnd (fX8_noClue M x1) fun y1 => if y1 = 0 then (bnd (fX8_plays M) fun y4 => if y4 = 0 then (some ((-4 : Int32), M)) else (bnd (fX8_clueAtHand M x1) fun y7 => if y7 = 0 then (some ((-4 : Int32), M)) else (if inb ((164 : Int32) + x1) 902 = true then if (M 1 (((164 : Int32) + x1).toNatClampNeg)) = 0 then (some ((-5 : Int32), M)) else (bnd (fX8_readMinutes M x1) fun y12 => bnd (fX8_isOver M y12) fun q14 => if q14.1 = 0 then (bnd (fX8_note q14.2 (3 : Int32) x1 (0 : Int32)) fun M17 => bnd (fX8_learn M17 x1) fun M18 => if inb ((164 : Int32) + x1) 902 = true then if inb ((164 : Int32) + x1) 902 = true then thn (wr M18 1 (((164 : Int32) + x1).toNatClampNeg) ((M18 1 (((164 : Int32) + x1).toNatClampNeg)) - (1 : Int32))) fun M21 => bnd (fX8_pass M21 y12) fun M22 => bnd (fX8_digitOf M22 x1) fun y23 => some (y23, M22) else none else none) else (some ((-6 : Int32), q14.2))) else none))) else (some ((-1 : Int32), M))

def fX8_rest  (M : Mem) (x1 : Int32) : Option (Int32 × Mem) :=
    if (fX8_in M x1 (1 : Int32) (60 : Int32)) = 0 then (some ((-2 : Int32), M)) else (bnd (fX8_plays M) fun y3 => if y3 = 0 then (some ((-4 : Int32), M)) else (bnd (fX8_isOver M x1) fun q6 => if q6.1 = 0 then (bnd (fX8_note q6.2 (5 : Int32) x1 (0 : Int32)) fun M9 => bnd (fX8_pass M9 x1) fun M10 => bnd (fX8_minutesLeft M10) fun y11 => some (y11, M10)) else (some ((-6 : Int32), q6.2))))

def fX8_clueFor_L14  : Nat → Mem → Int32 → Int32 → Int32 → Int32 → Int32 → Option Int32
  | 0, _, _, _, _, _, _ => none
  | n + 1, M, x1, x2, x3, x4, x5 =>
    if x5 < 0 then (some x4) else (if inb ((140 : Int32) + x5) 902 = true then if (M 1 (((140 : Int32) + x5).toNatClampNeg)) = x1 then (if inb ((152 : Int32) + x5) 902 = true then if (M 1 (((152 : Int32) + x5).toNatClampNeg)) = x2 then (if inb ((164 : Int32) + x5) 902 = true then if (M 1 (((164 : Int32) + x5).toNatClampNeg)) ≤ 0 then (fX8_clueFor_L14 n M x1 x2 x3 x4 (x5 + (-1))) else (bnd (fX8_clueAtHand M x5) fun y11 => if y11 = x3 then (if x4 < 0 then (fX8_clueFor_L14 n M x1 x2 x3 x5 (x5 + (-1))) else (if x3 = 0 then (fX8_clueFor_L14 n M x1 x2 x3 x5 (x5 + (-1))) else (if inb ((164 : Int32) + x5) 902 = true then if inb ((164 : Int32) + x4) 902 = true then if (M 1 (((164 : Int32) + x5).toNatClampNeg)) < (M 1 (((164 : Int32) + x4).toNatClampNeg)) then (fX8_clueFor_L14 n M x1 x2 x3 x4 (x5 + (-1))) else (fX8_clueFor_L14 n M x1 x2 x3 x5 (x5 + (-1))) else none else none))) else (fX8_clueFor_L14 n M x1 x2 x3 x4 (x5 + (-1)))) else none) else (fX8_clueFor_L14 n M x1 x2 x3 x4 (x5 + (-1))) else none) else (fX8_clueFor_L14 n M x1 x2 x3 x4 (x5 + (-1))) else none)

def fX8_clueFor  (M : Mem) (x1 x2 x3 : Int32) : Option Int32 :=
    fX8_clueFor_L14 5000 M x1 x2 x3 (-5 : Int32) ((M 1 2) - (1 : Int32))

def fX8_lowestUnknown_L2  : Nat → Mem → Int32 → Int32 → Option Int32
  | 0, _, _, _ => none
  | n + 1, M, x1, x2 =>
    if (4 : Int32) ≤ x2 then (some x2) else (if inb ((68 : Int32) + x1) 902 = true then if (((M 1 (((68 : Int32) + x1).toNatClampNeg)) >>> (x2 &&& 31)) &&& (1 : Int32)) = (1 : Int32) then (fX8_lowestUnknown_L2 n M x1 (x2 + 1)) else (some x2) else none)

def fX8_lowestUnknown  (M : Mem) (x1 : Int32) : Option Int32 :=
    fX8_lowestUnknown_L2 5000 M x1 (0 : Int32)

def fX8_lowestHeld_L2  : Nat → Mem → Int32 → Option Int32
  | 0, _, _ => none
  | n + 1, M, x1 =>
    bnd (fX8_isHeld M x1) fun y1 => if y1 = 0 then (fX8_lowestHeld_L2 n M (x1 + 1)) else (some x1)

def fX8_lowestHeld  (M : Mem)  : Option Int32 :=
    fX8_lowestHeld_L2 5000 M (0 : Int32)

def fX8_stepToHold  (M : Mem) (x1 : Int32) : Option Int32 :=
    bnd (fX8_held M) fun y1 => if y1 < (M 1 11) then (some ((100 : Int32) + x1)) else (bnd (fX8_lowestHeld M) fun y4 => some ((200 : Int32) + y4))

def fX8_stepFor_B169  (M : Mem) (x3 : Int32) : Option (Int32 × Mem) :=
    bnd (fX8_propAtHand M x3) fun y10 => if y10 = 0 then (if inb ((104 : Int32) + x3) 902 = true then bnd (fX8_closedFrom M (M 1 (((104 : Int32) + x3).toNatClampNeg))) fun y14 => some (((-10 : Int32) - y14), M) else none) else (bnd (fX8_stepToHold M x3) fun y16 => some (y16, M))

def fX8_stepFor  (M : Mem) (x1 : Int32) : Option (Int32 × Mem) :=
    if inb ((32 : Int32) + x1) 902 = true then thn (M 1 (((32 : Int32) + x1).toNatClampNeg)) fun y2 => if inb ((44 : Int32) + x1) 902 = true then thn (M 1 (((44 : Int32) + x1).toNatClampNeg)) fun y4 => if y2 = (2 : Int32) then (bnd (fX8_lowestUnknown M x1) fun y22 => if y22 = (4 : Int32) then (some (((300 : Int32) + x1), M)) else (bnd (fX8_clueFor M x1 y22 (1 : Int32)) fun y25 => if y25 < 0 then (bnd (fX8_clueFor M x1 y22 (0 : Int32)) fun y28 => thn (wr M 0 11 x1) fun M30 => if 0 ≤ y28 then (if inb ((128 : Int32) + y28) 902 = true then if inb ((104 : Int32) + (M30 1 (((128 : Int32) + y28).toNatClampNeg))) 902 = true then bnd (fX8_closedFrom M30 (M30 1 (((104 : Int32) + (M30 1 (((128 : Int32) + y28).toNatClampNeg))).toNatClampNeg))) fun y34 => some (((-10 : Int32) - y34), M30) else none else none) else (some (((500 : Int32) + y22), M30))) else (some (((400 : Int32) + y25), M)))) else (bnd (fX8_lets M x1) fun y6 => if y6 = 0 then (if y2 = (1 : Int32) then (fX8_stepFor_B169 M y4) else (bnd (fX8_isHeld M y4) fun y18 => if y18 = 0 then (fX8_stepFor_B169 M y4) else (if inb ((20 : Int32) + x1) 902 = true then some ((((200 : Int32) + y4) + ((1000 : Int32) * (M 1 (((20 : Int32) + x1).toNatClampNeg)))), M) else none))) else (some (((300 : Int32) + x1), M))) else none else none

def fX8_step_L9  : Nat → Mem → Int32 → Int32 → Option (Int32 × Mem)
  | 0, _, _, _ => none
  | n + 1, M, x1, x2 =>
    if ((x1 >>> (x2 &&& 31)) &&& (1 : Int32)) = 0 then (thn (x1 ||| ((1 : Int32) <<< (x2 &&& 31))) fun y2 => bnd (fX8_closedAround M x2) fun y3 => if y3 < 0 then (bnd (fX8_stepFor M x2) fun q6 => if q6.1 < 0 then (fX8_step_L9 n q6.2 y2 ((-10 : Int32) - q6.1)) else (some (q6.1, q6.2))) else (if ((-10 : Int32) - y3) < 0 then (thn ((-10 : Int32) - ((-10 : Int32) - y3)) fun y10 => fX8_step_L9 n M y2 y10) else (some (((-10 : Int32) - y3), M)))) else (some ((-5 : Int32), M))

def fX8_step  (M : Mem)  : Option (Int32 × Mem) :=
    fX8_step_L9 5000 M (0 : Int32) (M 1 5)

def fX8_nextStep  (M : Mem)  : Option (Int32 × Mem) :=
    bnd (fX8_plays M) fun y1 => if y1 = 0 then (some ((-4 : Int32), M)) else (bnd (fX8_step M) fun q4 => some (q4.1, q4.2))

def fX8_nudge_B95  (M : Mem) (x1 : Int32) : Option (Int32 × Mem) :=
    thn (wr M 1 14 ((M 1 14) + (1 : Int32))) fun M14 => bnd (fX8_pass M14 (2 : Int32)) fun M15 => some (x1, M15)

def fX8_nudge  (M : Mem)  : Option (Int32 × Mem) :=
    bnd (fX8_plays M) fun y1 => if y1 = 0 then (some ((-4 : Int32), M)) else (if (M 1 14) = (M 1 7) then (some ((-3 : Int32), M)) else (bnd (fX8_step M) fun q5 => if 0 ≤ q5.1 then (bnd (fX8_isOver q5.2 (2 : Int32)) fun q8 => if q8.1 = 0 then (bnd (fX8_note q8.2 (4 : Int32) q5.1 (0 : Int32)) fun M11 => if (fX8_in M11 q5.1 (500 : Int32) (503 : Int32)) = 0 then (fX8_nudge_B95 M11 q5.1) else (if inb ((68 : Int32) + (M11 0 11)) 902 = true then if inb ((68 : Int32) + (M11 0 11)) 902 = true then thn (wr M11 1 (((68 : Int32) + (M11 0 11)).toNatClampNeg) ((M11 1 (((68 : Int32) + (M11 0 11)).toNatClampNeg)) ||| ((1 : Int32) <<< ((q5.1 - (500 : Int32)) &&& 31)))) fun M18 => fX8_nudge_B95 M18 q5.1 else none else none)) else (some ((-6 : Int32), q8.2))) else (some ((-5 : Int32), q5.2))))

def fX8_giveUp  (M : Mem)  : Option (Int32 × Mem) :=
    bnd (fX8_plays M) fun y1 => if y1 = 0 then (some ((-4 : Int32), M)) else (bnd (fX8_note M (7 : Int32) (0 : Int32) (0 : Int32)) fun M4 => bnd (fX8_end M4 (0 : Int32)) fun M5 => some (((M4 1 9) - (M4 1 13)), M5))

def fX8_planned  (M : Mem) (x1 : Int32) : Option (Int32 × Mem) :=
    thn ((irm x1 (1000 : Int32)) / (100 : Int32)) fun y1 => if y1 = (1 : Int32) then (if inb ((104 : Int32) + (irm x1 (100 : Int32))) 902 = true then thn (wr M 1 (((104 : Int32) + (irm x1 (100 : Int32))).toNatClampNeg) (-1 : Int32)) fun M24 => bnd (fX8_lessHalf M24 (3 : Int32)) fun y25 => some (y25, M24) else none) else (if y1 = (2 : Int32) then (if inb ((104 : Int32) + (irm x1 (100 : Int32))) 902 = true then thn (wr M 1 (((104 : Int32) + (irm x1 (100 : Int32))).toNatClampNeg) (x1 / (1000 : Int32))) fun M20 => bnd (fX8_lessHalf M20 (2 : Int32)) fun y21 => some (y21, M20) else none) else (if y1 = (3 : Int32) then (if inb ((56 : Int32) + (irm x1 (100 : Int32))) 902 = true then thn (wr M 1 (((56 : Int32) + (irm x1 (100 : Int32))).toNatClampNeg) (1 : Int32)) fun M16 => bnd (fX8_lessHalf M16 (4 : Int32)) fun y17 => some (y17, M16) else none) else (if y1 = (4 : Int32) then (bnd (fX8_readMinutes M (irm x1 (100 : Int32))) fun y9 => bnd (fX8_learn M (irm x1 (100 : Int32))) fun M11 => if inb ((164 : Int32) + (irm x1 (100 : Int32))) 902 = true then if inb ((164 : Int32) + (irm x1 (100 : Int32))) 902 = true then thn (wr M11 1 (((164 : Int32) + (irm x1 (100 : Int32))).toNatClampNeg) ((M11 1 (((164 : Int32) + (irm x1 (100 : Int32))).toNatClampNeg)) - (1 : Int32))) fun M14 => some (y9, M14) else none else none) else ((if inb ((68 : Int32) + (M 0 11)) 902 = true then if inb ((68 : Int32) + (M 0 11)) 902 = true then thn (wr M 1 (((68 : Int32) + (M 0 11)).toNatClampNeg) ((M 1 (((68 : Int32) + (M 0 11)).toNatClampNeg)) ||| ((1 : Int32) <<< ((irm x1 (100 : Int32)) &&& 31)))) fun M8 => some ((2 : Int32), M8) else none else none)))))

def fX8_plan_L137  : Nat → Mem → Int32 → Int32 → Option (Int32 × Mem)
  | 0, _, _, _ => none
  | n + 1, M, x2, x3 =>
    if (902 : Int32) ≤ x3 then (some (x2, M)) else (if inb x3 902 = true then if inb x3 902 = true then thn (wr M 1 (x3.toNatClampNeg) (M 2 (x3.toNatClampNeg))) fun M14 => fX8_plan_L137 n M14 x2 (x3 + 1) else none else none)

def fX8_plan_L93  : Nat → Mem → Int32 → Option (Int32 × Mem)
  | 0, _, _ => none
  | n + 1, M, x2 =>
    if x2 < 0 then (fX8_plan_L137 5000 M x2 (0 : Int32)) else (bnd (fX8_isOpen M (M 1 5)) fun y15 => if y15 = 0 then (bnd (fX8_step M) fun q18 => if 0 ≤ q18.1 then (bnd (fX8_planned q18.2 q18.1) fun q21 => fX8_plan_L93 n q21.2 (x2 + q21.1)) else (fX8_plan_L93 n q18.2 (-5 : Int32))) else (fX8_plan_L137 5000 M x2 (0 : Int32)))

def fX8_plan_L69  : Nat → Mem → Int32 → Option (Int32 × Mem)
  | 0, _, _ => none
  | n + 1, M, x2 =>
    if (12 : Int32) ≤ x2 then (fX8_plan_L93 5000 M (0 : Int32)) else (if inb ((68 : Int32) + x2) 902 = true then thn (wr M 1 (((68 : Int32) + x2).toNatClampNeg) (0 : Int32)) fun M24 => fX8_plan_L69 n M24 (x2 + 1) else none)

def fX8_plan_L34  : Nat → Mem → Int32 → Int32 → Option (Int32 × Mem)
  | 0, _, _, _ => none
  | n + 1, M, x1, x2 =>
    if (902 : Int32) ≤ x2 then (thn (wr M 1 11 x1) fun M8 => fX8_plan_L69 5000 M8 (0 : Int32)) else (if inb x2 902 = true then if inb x2 902 = true then thn (wr M 2 (x2.toNatClampNeg) (M 1 (x2.toNatClampNeg))) fun M27 => fX8_plan_L34 n M27 x1 (x2 + 1) else none else none)

def fX8_plan  (M : Mem) (x1 : Int32) : Option (Int32 × Mem) :=
    if (fX8_in M x1 (1 : Int32) (6 : Int32)) = 0 then (some ((-2 : Int32), M)) else (bnd (fX8_plays M) fun y3 => if y3 = 0 then (if (M 1 5) = 0 then (some ((-4 : Int32), M)) else (fX8_plan_L34 5000 M x1 (0 : Int32))) else (some ((-4 : Int32), M)))

def fX8_idle  (M : Mem) (x1 : Int32) : Option (Int32 × Mem) :=
    if (fX8_in M x1 (1 : Int32) (1000 : Int32)) = 0 then (some ((-2 : Int32), M)) else (bnd (fX8_plays M) fun y3 => if y3 = 0 then (bnd (fX8_pass M x1) fun M6 => some ((M6 1 9), M6)) else (some ((-4 : Int32), M)))

def fX8_putHome  (M : Mem) (x1 : Int32) : Option (Int32 × Mem) :=
    bnd (fX8_noProp M x1) fun y1 => if y1 = 0 then (bnd (fX8_plays M) fun y4 => if y4 = 0 then (if inb ((104 : Int32) + x1) 902 = true then thn (M 1 (((104 : Int32) + x1).toNatClampNeg)) fun y8 => if inb ((80 : Int32) + x1) 902 = true then if y8 = (M 1 (((80 : Int32) + x1).toNatClampNeg)) then (some ((-5 : Int32), M)) else (if inb ((80 : Int32) + x1) 902 = true then if inb ((104 : Int32) + x1) 902 = true then thn (wr M 1 (((104 : Int32) + x1).toNatClampNeg) (M 1 (((80 : Int32) + x1).toNatClampNeg))) fun M13 => bnd (fX8_pass M13 (1 : Int32)) fun M14 => some (y8, M14) else none else none) else none else none) else (some ((-4 : Int32), M))) else (some ((-1 : Int32), M))

def fX8_close  (M : Mem) (x1 : Int32) : Option (Int32 × Mem) :=
    bnd (fX8_noBox M x1) fun y1 => if y1 = 0 then (if x1 = 0 then (some ((-2 : Int32), M)) else (bnd (fX8_plays M) fun y5 => if y5 = 0 then (bnd (fX8_isOpen M x1) fun y8 => if y8 = 0 then (some ((-5 : Int32), M)) else (if inb ((56 : Int32) + x1) 902 = true then thn (wr M 1 (((56 : Int32) + x1).toNatClampNeg) (0 : Int32)) fun M12 => bnd (fX8_pass M12 (1 : Int32)) fun M13 => bnd (fX8_openOnes M13) fun y14 => some (y14, M13) else none)) else (some ((-4 : Int32), M)))) else (some ((-1 : Int32), M))

def fX8_writeOver  (M : Mem) (x1 : Int32) : Option (Int32 × Mem) :=
    bnd (fX8_noClue M x1) fun y1 => if y1 = 0 then (if inb ((164 : Int32) + x1) 902 = true then thn ((9 : Int32) - (M 1 (((164 : Int32) + x1).toNatClampNeg))) fun y5 => bnd (fX8_plays M) fun y6 => if y6 = 0 then (if y5 ≤ (M 1 8) then (if y5 = 0 then (some ((-5 : Int32), M)) else (if inb ((164 : Int32) + x1) 902 = true then thn (wr M 1 (((164 : Int32) + x1).toNatClampNeg) (9 : Int32)) fun M12 => thn (wr M12 1 8 ((M12 1 8) - y5)) fun M13 => bnd (fX8_pass M13 (1 : Int32)) fun M14 => some (y5, M14) else none)) else (some ((-4 : Int32), M))) else (some ((-4 : Int32), M)) else none) else (some ((-1 : Int32), M))

def fX8_written_B123  (M : Mem) (x1 x3 x4 : Int32) : Option (Int32 × Mem) :=
    if x1 = 0 then (some (x3, M)) else (some (x4, M))

def fX8_written_L8  : Nat → Mem → Int32 → Int32 → Int32 → Int32 → Int32 → Option (Int32 × Mem)
  | 0, _, _, _, _, _, _ => none
  | n + 1, M, x1, x2, x3, x4, x5 =>
    if (M 1 2) ≤ x5 then (if x2 = 0 then (thn (wr M 1 8 ((M 1 8) - (0 : Int32))) fun M3 => fX8_written_B123 M3 x1 x3 x4) else (thn (wr M 1 8 ((M 1 8) - x4)) fun M5 => fX8_written_B123 M5 x1 x3 x4)) else (if inb ((164 : Int32) + x5) 902 = true then thn ((9 : Int32) - (M 1 (((164 : Int32) + x5).toNatClampNeg))) fun y7 => if y7 ≤ (5 : Int32) then (fX8_written_L8 n M x1 x2 x3 x4 (x5 + 1)) else (if ((M 1 8) - x4) < y7 then (fX8_written_L8 n M x1 x2 x3 x4 (x5 + 1)) else (if x2 = 0 then (if inb ((164 : Int32) + x5) 902 = true then if inb ((164 : Int32) + x5) 902 = true then thn (wr M 1 (((164 : Int32) + x5).toNatClampNeg) (M 1 (((164 : Int32) + x5).toNatClampNeg))) fun M13 => fX8_written_L8 n M13 x1 x2 (x3 + 1) (x4 + y7) (x5 + 1) else none else none) else (if inb ((164 : Int32) + x5) 902 = true then thn (wr M 1 (((164 : Int32) + x5).toNatClampNeg) (9 : Int32)) fun M15 => fX8_written_L8 n M15 x1 x2 (x3 + 1) (x4 + y7) (x5 + 1) else none))) else none)

def fX8_written  (M : Mem) (x1 x2 : Int32) : Option (Int32 × Mem) :=
    fX8_written_L8 5000 M x1 x2 (0 : Int32) (0 : Int32) (0 : Int32)

def fX8_resetMinutes  (M : Mem)  : Option (Int32 × Mem) :=
    bnd (fX8_notAtHome M) fun y1 => bnd (fX8_openOnes M) fun y3 => bnd (fX8_written M (0 : Int32) (0 : Int32)) fun q5 => some (((y1 + y3) + q5.1), q5.2)

def fX8_reset_L60  : Nat → Mem → Int32 → Int32 → Option (Int32 × Mem)
  | 0, _, _, _ => none
  | n + 1, M, x1, x2 =>
    if (M 1 0) ≤ x2 then (bnd (fX8_written M (0 : Int32) (1 : Int32)) fun q9 => bnd (fX8_pass q9.2 x1) fun M11 => some (x1, M11)) else (if inb ((56 : Int32) + x2) 902 = true then thn (wr M 1 (((56 : Int32) + x2).toNatClampNeg) (0 : Int32)) fun M13 => fX8_reset_L60 n M13 x1 (x2 + 1) else none)

def fX8_reset_L24  : Nat → Mem → Int32 → Int32 → Option (Int32 × Mem)
  | 0, _, _, _ => none
  | n + 1, M, x1, x2 =>
    if (M 1 1) ≤ x2 then (fX8_reset_L60 5000 M x1 (1 : Int32)) else (if inb ((80 : Int32) + x2) 902 = true then if inb ((104 : Int32) + x2) 902 = true then thn (wr M 1 (((104 : Int32) + x2).toNatClampNeg) (M 1 (((80 : Int32) + x2).toNatClampNeg))) fun M16 => fX8_reset_L24 n M16 x1 (x2 + 1) else none else none)

def fX8_reset  (M : Mem)  : Option (Int32 × Mem) :=
    bnd (fX8_plays M) fun y1 => if y1 = 0 then (bnd (fX8_resetMinutes M) fun q4 => if q4.1 = 0 then (some ((-5 : Int32), q4.2)) else (fX8_reset_L24 5000 q4.2 q4.1 (0 : Int32))) else (some ((-4 : Int32), M))

def fX8_propsIn_L4  : Nat → Mem → Int32 → Int32 → Int32 → Option Int32
  | 0, _, _, _, _ => none
  | n + 1, M, x1, x2, x3 =>
    if (M 1 1) ≤ x3 then (some x2) else (if inb ((104 : Int32) + x3) 902 = true then if (M 1 (((104 : Int32) + x3).toNatClampNeg)) = x1 then (fX8_propsIn_L4 n M x1 (x2 + (1 : Int32)) (x3 + 1)) else (fX8_propsIn_L4 n M x1 (x2 + (0 : Int32)) (x3 + 1)) else none)

def fX8_propsIn  (M : Mem) (x1 : Int32) : Option Int32 :=
    fX8_propsIn_L4 5000 M x1 (0 : Int32) (0 : Int32)

def fX8_boxesIn_L4  : Nat → Mem → Int32 → Int32 → Int32 → Option Int32
  | 0, _, _, _, _ => none
  | n + 1, M, x1, x2, x3 =>
    if (M 1 0) ≤ x3 then (some x2) else (if inb ((20 : Int32) + x3) 902 = true then if (M 1 (((20 : Int32) + x3).toNatClampNeg)) = x1 then (fX8_boxesIn_L4 n M x1 (x2 + (1 : Int32)) (x3 + 1)) else (fX8_boxesIn_L4 n M x1 (x2 + (0 : Int32)) (x3 + 1)) else none)

def fX8_boxesIn  (M : Mem) (x1 : Int32) : Option Int32 :=
    fX8_boxesIn_L4 5000 M x1 (0 : Int32) (1 : Int32)

def fX8_box  (M : Mem) (x1 x2 : Int32) : Option Int32 :=
    bnd (fX8_noBox M x1) fun y1 => if y1 = 0 then (if x2 = (0 : Int32) then (if x1 = 0 then (some (-5 : Int32)) else (if inb ((20 : Int32) + x1) 902 = true then some (M 1 (((20 : Int32) + x1).toNatClampNeg)) else none)) else (if x2 = (1 : Int32) then (if x1 = 0 then (some (-5 : Int32)) else (if inb ((32 : Int32) + x1) 902 = true then some (M 1 (((32 : Int32) + x1).toNatClampNeg)) else none)) else (if x2 = (2 : Int32) then (if inb ((56 : Int32) + x1) 902 = true then some (M 1 (((56 : Int32) + x1).toNatClampNeg)) else none) else (if x2 = (3 : Int32) then (bnd (fX8_boxAtHand M x1) fun y22 => if y22 = 0 then (some (0 : Int32)) else (some (1 : Int32))) else (if x2 = (4 : Int32) then (bnd (fX8_propsIn M x1) fun y20 => some y20) else (if x2 = (5 : Int32) then (bnd (fX8_boxesIn M x1) fun y18 => some y18) else (if x2 = (6 : Int32) then (if x1 = 0 then (some (-5 : Int32)) else (if inb ((44 : Int32) + x1) 902 = true then some (M 1 (((44 : Int32) + x1).toNatClampNeg)) else none)) else (if x2 = (7 : Int32) then (bnd (fX8_plays M) fun y12 => if y12 = 0 then (some (0 : Int32)) else (if inb ((68 : Int32) + x1) 902 = true then some (M 1 (((68 : Int32) + x1).toNatClampNeg)) else none)) else ((some (-2 : Int32))))))))))) else (some (-1 : Int32))

def fX8_cluesOn_L4  : Nat → Mem → Int32 → Int32 → Int32 → Option Int32
  | 0, _, _, _, _ => none
  | n + 1, M, x1, x2, x3 =>
    if (M 1 2) ≤ x3 then (some x2) else (if inb ((128 : Int32) + x3) 902 = true then if (M 1 (((128 : Int32) + x3).toNatClampNeg)) = x1 then (fX8_cluesOn_L4 n M x1 (x2 + (1 : Int32)) (x3 + 1)) else (fX8_cluesOn_L4 n M x1 (x2 + (0 : Int32)) (x3 + 1)) else none)

def fX8_cluesOn  (M : Mem) (x1 : Int32) : Option Int32 :=
    fX8_cluesOn_L4 5000 M x1 (0 : Int32) (0 : Int32)

def fX8_locksWith_L4  : Nat → Mem → Int32 → Int32 → Int32 → Option Int32
  | 0, _, _, _, _ => none
  | n + 1, M, x1, x2, x3 =>
    if (M 1 0) ≤ x3 then (some x2) else (if inb ((32 : Int32) + x3) 902 = true then if (M 1 (((32 : Int32) + x3).toNatClampNeg)) = (1 : Int32) then (if inb ((44 : Int32) + x3) 902 = true then if (M 1 (((44 : Int32) + x3).toNatClampNeg)) = x1 then (fX8_locksWith_L4 n M x1 (x2 + (1 : Int32)) (x3 + 1)) else (fX8_locksWith_L4 n M x1 (x2 + (0 : Int32)) (x3 + 1)) else none) else (if inb ((32 : Int32) + x3) 902 = true then if (M 1 (((32 : Int32) + x3).toNatClampNeg)) ≤ (2 : Int32) then (fX8_locksWith_L4 n M x1 (x2 + (0 : Int32)) (x3 + 1)) else (if inb ((44 : Int32) + x3) 902 = true then if (M 1 (((44 : Int32) + x3).toNatClampNeg)) = x1 then (fX8_locksWith_L4 n M x1 (x2 + (1 : Int32)) (x3 + 1)) else (fX8_locksWith_L4 n M x1 (x2 + (0 : Int32)) (x3 + 1)) else none) else none) else none)

def fX8_locksWith  (M : Mem) (x1 : Int32) : Option Int32 :=
    fX8_locksWith_L4 5000 M x1 (0 : Int32) (1 : Int32)

def fX8_prop  (M : Mem) (x1 x2 : Int32) : Option Int32 :=
    bnd (fX8_noProp M x1) fun y1 => if y1 = 0 then (if x2 = (0 : Int32) then (if inb ((80 : Int32) + x1) 902 = true then some (M 1 (((80 : Int32) + x1).toNatClampNeg)) else none) else (if x2 = (1 : Int32) then (bnd (fX8_isHeld M x1) fun y16 => if y16 = 0 then (if inb ((104 : Int32) + x1) 902 = true then some (M 1 (((104 : Int32) + x1).toNatClampNeg)) else none) else (some (-5 : Int32))) else (if x2 = (2 : Int32) then (bnd (fX8_propAtHand M x1) fun y13 => if y13 = 0 then (some (0 : Int32)) else (some (1 : Int32))) else (if x2 = (3 : Int32) then (bnd (fX8_cluesOn M x1) fun y11 => some y11) else (if x2 = (4 : Int32) then (bnd (fX8_locksWith M x1) fun y9 => some y9) else ((some (-2 : Int32)))))))) else (some (-1 : Int32))

def fX8_clue  (M : Mem) (x1 x2 : Int32) : Option Int32 :=
    bnd (fX8_noClue M x1) fun y1 => if y1 = 0 then (if x2 = (0 : Int32) then (if inb ((128 : Int32) + x1) 902 = true then some (M 1 (((128 : Int32) + x1).toNatClampNeg)) else none) else (if x2 = (1 : Int32) then (if inb ((140 : Int32) + x1) 902 = true then some (M 1 (((140 : Int32) + x1).toNatClampNeg)) else none) else (if x2 = (2 : Int32) then (if inb ((152 : Int32) + x1) 902 = true then some (M 1 (((152 : Int32) + x1).toNatClampNeg)) else none) else (if x2 = (3 : Int32) then (if inb ((164 : Int32) + x1) 902 = true then some (M 1 (((164 : Int32) + x1).toNatClampNeg)) else none) else (if x2 = (4 : Int32) then (bnd (fX8_digitOf M x1) fun y13 => some y13) else (if x2 = (5 : Int32) then (bnd (fX8_clueAtHand M x1) fun y10 => if y10 = 0 then (some (0 : Int32)) else (some (1 : Int32))) else ((some (-2 : Int32))))))))) else (some (-1 : Int32))

def fX8_heldSet_L4  : Nat → Mem → Int32 → Int32 → Option Int32
  | 0, _, _, _ => none
  | n + 1, M, x1, x2 =>
    if (M 1 1) ≤ x2 then (some x1) else (bnd (fX8_isHeld M x2) fun y2 => if y2 = 0 then (fX8_heldSet_L4 n M (x1 ||| (0 : Int32)) (x2 + 1)) else (thn (x1 ||| ((1 : Int32) <<< (x2 &&& 31))) fun y5 => fX8_heldSet_L4 n M y5 (x2 + 1)))

def fX8_heldSet  (M : Mem)  : Option Int32 :=
    fX8_heldSet_L4 5000 M (0 : Int32) (0 : Int32)

def fX8_game  (M : Mem) (x1 : Int32) : Option Int32 :=
    if (fX8_in M x1 (0 : Int32) (5 : Int32)) = 0 then (some (-2 : Int32)) else (bnd (fX8_plays M) fun y3 => if y3 = 0 then (some (-4 : Int32)) else (if x1 = (0 : Int32) then (some (M 1 11)) else (if x1 = (1 : Int32) then (some (M 1 13)) else (if x1 = (2 : Int32) then (bnd (fX8_minutesLeft M) fun y13 => some y13) else (if x1 = (3 : Int32) then (some (M 1 14)) else (if x1 = (4 : Int32) then (bnd (fX8_heldSet M) fun y11 => some y11) else ((some (M 1 15)))))))))

def fX8_startOf_L38  : Nat → Mem → Int32 → Int32 → Int32 → Option Int32
  | 0, _, _, _, _ => none
  | n + 1, M, x1, x2, x3 =>
    if x1 ≤ x3 then (if inb ((184 : Int32) + x1) 902 = true then if x2 ≤ (M 1 (((184 : Int32) + x1).toNatClampNeg)) then (if inb ((184 : Int32) + x1) 902 = true then some (M 1 (((184 : Int32) + x1).toNatClampNeg)) else none) else (some x2) else none) else (if inb ((184 : Int32) + x3) 902 = true then if x2 ≤ (M 1 (((184 : Int32) + x3).toNatClampNeg)) then (if inb ((184 : Int32) + x3) 902 = true then thn (((M 1 (((184 : Int32) + x3).toNatClampNeg)) + (M 1 6)) + (10 : Int32)) fun y11 => fX8_startOf_L38 n M x1 y11 (x3 + 1) else none) else (thn ((x2 + (M 1 6)) + (10 : Int32)) fun y12 => fX8_startOf_L38 n M x1 y12 (x3 + 1)) else none)

def fX8_startOf  (M : Mem) (x1 : Int32) : Option Int32 :=
    bnd (fX8_plays M) fun y1 => if y1 = 0 then (fX8_startOf_L38 5000 M x1 (M 1 9) (0 : Int32)) else (thn (((M 1 13) + (M 1 6)) + (10 : Int32)) fun y13 => fX8_startOf_L38 5000 M x1 y13 (0 : Int32))

def fX8_group  (M : Mem) (x1 x2 : Int32) : Option Int32 :=
    bnd (fX8_noGroup M x1) fun y1 => if y1 = 0 then (if x2 = 0 then (if inb ((176 : Int32) + x1) 902 = true then some (M 1 (((176 : Int32) + x1).toNatClampNeg)) else none) else (if x2 = (1 : Int32) then (if inb ((184 : Int32) + x1) 902 = true then some (M 1 (((184 : Int32) + x1).toNatClampNeg)) else none) else (if x2 = (2 : Int32) then (bnd (fX8_startOf M x1) fun y7 => some y7) else (some (-2 : Int32))))) else (some (-1 : Int32))

def fX8_result  (M : Mem) (x1 x2 : Int32) : Option Int32 :=
    if (fX8_in M x1 (0 : Int32) ((M 1 4) - (1 : Int32))) = 0 then (some (-1 : Int32)) else (if (fX8_in M x2 (0 : Int32) (6 : Int32)) = 0 then (some (-2 : Int32)) else (if inb (((192 : Int32) + ((7 : Int32) * x1)) + x2) 902 = true then some (M 1 ((((192 : Int32) + ((7 : Int32) * x1)) + x2).toNatClampNeg)) else none))

def fX8_faded_L4  : Nat → Mem → Int32 → Int32 → Option Int32
  | 0, _, _, _ => none
  | n + 1, M, x1, x2 =>
    if (M 1 2) ≤ x2 then (some x1) else (if inb ((164 : Int32) + x2) 902 = true then if (4 : Int32) ≤ (M 1 (((164 : Int32) + x2).toNatClampNeg)) then (fX8_faded_L4 n M (x1 + (0 : Int32)) (x2 + 1)) else (fX8_faded_L4 n M (x1 + (1 : Int32)) (x2 + 1)) else none)

def fX8_faded  (M : Mem)  : Option Int32 :=
    fX8_faded_L4 5000 M (0 : Int32) (0 : Int32)

def fX8_differences  (M : Mem) (x1 : Int32) : Option (Int32 × Mem) :=
    if x1 = (0 : Int32) then (bnd (fX8_notAtHome M) fun y14 => some (y14, M)) else (if x1 = (1 : Int32) then (bnd (fX8_openOnes M) fun y12 => some (y12, M)) else (if x1 = (2 : Int32) then (bnd (fX8_faded M) fun y10 => some (y10, M)) else (if x1 = (3 : Int32) then (bnd (fX8_resetMinutes M) fun q8 => some (q8.1, q8.2)) else (if x1 = (4 : Int32) then (bnd (fX8_written M (1 : Int32) (0 : Int32)) fun q6 => some (q6.1, q6.2)) else ((some ((-2 : Int32), M)))))))

def fX8_wordLetter  (M : Mem) (x0 x1 : Int32) : Int32 :=
    if x0 = (0 : Int32) then (if x1 = 0 then ((116 : Int32)) else (if x1 = (1 : Int32) then ((97 : Int32)) else (if x1 = (2 : Int32) then ((107 : Int32)) else ((101 : Int32))))) else (if x0 = (1 : Int32) then (if x1 = 0 then ((108 : Int32)) else (if x1 = (1 : Int32) then ((97 : Int32)) else ((121 : Int32)))) else (if x0 = (2 : Int32) then (if x1 = 0 then ((111 : Int32)) else (if x1 = (1 : Int32) then ((112 : Int32)) else (if x1 = (2 : Int32) then ((101 : Int32)) else ((110 : Int32))))) else (if x0 = (3 : Int32) then (if x1 = 0 then ((114 : Int32)) else (if x1 = (1 : Int32) then ((101 : Int32)) else (if x1 = (2 : Int32) then ((97 : Int32)) else ((100 : Int32))))) else (if x0 = (4 : Int32) then (if x1 = 0 then ((110 : Int32)) else (if x1 = (1 : Int32) then ((117 : Int32)) else (if x1 = (2 : Int32) then ((100 : Int32)) else (if x1 = (3 : Int32) then ((103 : Int32)) else ((101 : Int32)))))) else (if x0 = (5 : Int32) then (if x1 = 0 then ((114 : Int32)) else (if x1 = (1 : Int32) then ((101 : Int32)) else (if x1 = (2 : Int32) then ((115 : Int32)) else ((116 : Int32))))) else (if x0 = (6 : Int32) then (if x1 = 0 then ((111 : Int32)) else (if x1 = (1 : Int32) then ((118 : Int32)) else (if x1 = (2 : Int32) then ((101 : Int32)) else ((114 : Int32))))) else ((if x1 = 0 then ((117 : Int32)) else ((112 : Int32))))))))))

def fX8_lettersOf  (M : Mem) (x0 : Int32) : Int32 :=
    if x0 = (1 : Int32) then ((3 : Int32)) else (if x0 = (4 : Int32) then ((5 : Int32)) else (if x0 = (7 : Int32) then ((2 : Int32)) else ((4 : Int32))))

def fX8_argumentsOf  (M : Mem) (x0 : Int32) : Int32 :=
    if x0 = (1 : Int32) then ((2 : Int32)) else (if (6 : Int32) ≤ x0 then ((0 : Int32)) else ((1 : Int32)))

def fX8_put  (M : Mem) (x1 : Int32) : Option Mem :=
    if inb (M 0 13) 24 = true then thn (wr M 6 ((M 0 13).toNatClampNeg) x1) fun M2 => thn (wr M2 0 13 ((M2 0 13) + (1 : Int32))) fun M3 => some M3 else none

def fX8_putNumber_L18  : Nat → Mem → Int32 → Int32 → Option Mem
  | 0, _, _, _ => none
  | n + 1, M, x1, x2 =>
    if x2 ≤ 0 then (some M) else (if ¬ x2 = 0 then bnd (fX8_put M ((48 : Int32) + (irm (x1 / x2) (10 : Int32)))) fun M5 => fX8_putNumber_L18 n M5 x1 (x2 / (10 : Int32)) else none)

def fX8_putNumber_L2  : Nat → Mem → Int32 → Int32 → Option Mem
  | 0, _, _, _ => none
  | n + 1, M, x1, x2 =>
    if ¬ x2 = 0 then if (x1 / x2) ≤ (9 : Int32) then (fX8_putNumber_L18 5000 M x1 x2) else (fX8_putNumber_L2 n M x1 (x2 * (10 : Int32))) else none

def fX8_putNumber  (M : Mem) (x1 : Int32) : Option Mem :=
    fX8_putNumber_L2 5000 M x1 (1 : Int32)

def fX8_spell_L69  : Nat → Mem → Int32 → Int32 → Int32 → Option Mem
  | 0, _, _, _, _ => none
  | n + 1, M, x2, x3, x4 =>
    if (fX8_argumentsOf M x3) ≤ x4 then (bnd (fX8_put M (47 : Int32)) fun M12 => some M12) else (bnd (fX8_put M (32 : Int32)) fun M13 => if inb ((x2 + (2 : Int32)) + x4) 902 = true then bnd (fX8_putNumber M13 (M13 1 (((x2 + (2 : Int32)) + x4).toNatClampNeg))) fun M15 => fX8_spell_L69 n M15 x2 x3 (x4 + 1) else none)

def fX8_spell_L41  : Nat → Mem → Int32 → Int32 → Int32 → Option Mem
  | 0, _, _, _, _ => none
  | n + 1, M, x2, x3, x4 =>
    if (fX8_lettersOf M x3) ≤ x4 then (fX8_spell_L69 5000 M x2 x3 (0 : Int32)) else (bnd (fX8_put M (fX8_wordLetter M x3 x4)) fun M17 => fX8_spell_L41 n M17 x2 x3 (x4 + 1))

def fX8_spell  (M : Mem) (x1 : Int32) : Option Mem :=
    thn ((402 : Int32) + ((4 : Int32) * x1)) fun y1 => if inb (y1 + (1 : Int32)) 902 = true then thn (M 1 ((y1 + (1 : Int32)).toNatClampNeg)) fun y3 => thn (wr M 0 13 (0 : Int32)) fun M4 => if inb y1 902 = true then bnd (fX8_putNumber M4 (M4 1 (y1.toNatClampNeg))) fun M6 => bnd (fX8_put M6 (58 : Int32)) fun M7 => fX8_spell_L41 5000 M7 y1 y3 (0 : Int32) else none else none

def fX8_logAt_L11  : Nat → Mem → Int32 → Int32 → Option (Int32 × Mem)
  | 0, _, _, _ => none
  | n + 1, M, x2, x3 =>
    if (M 1 17) ≤ x3 then (some ((-5 : Int32), M)) else (bnd (fX8_spell M x3) fun M3 => if (M3 0 13) ≤ x2 then (fX8_logAt_L11 n M3 (x2 - (M3 0 13)) (x3 + 1)) else (if inb x2 24 = true then some ((M3 6 (x2.toNatClampNeg)), M3) else none))

def fX8_logAt  (M : Mem) (x1 : Int32) : Option (Int32 × Mem) :=
    if 0 ≤ x1 then (fX8_logAt_L11 5000 M x1 (0 : Int32)) else (some ((-2 : Int32), M))

def fX8_logLength_L4  : Nat → Mem → Int32 → Int32 → Option (Int32 × Mem)
  | 0, _, _, _ => none
  | n + 1, M, x1, x2 =>
    if (M 1 17) ≤ x2 then (some (x1, M)) else (bnd (fX8_spell M x2) fun M2 => fX8_logLength_L4 n M2 (x1 + (M2 0 13)) (x2 + 1))

def fX8_logLength  (M : Mem)  : Option (Int32 × Mem) :=
    fX8_logLength_L4 5000 M (0 : Int32) (0 : Int32)

def fX8_behind_L4  : Nat → Mem → Int32 → Int32 → Option Int32
  | 0, _, _, _ => none
  | n + 1, M, x1, x2 =>
    if (M 1 3) ≤ x2 then (some x1) else (if inb ((184 : Int32) + x2) 902 = true then if (M 1 9) ≤ (M 1 (((184 : Int32) + x2).toNatClampNeg)) then (fX8_behind_L4 n M (x1 + (0 : Int32)) (x2 + 1)) else (fX8_behind_L4 n M (x1 + (1 : Int32)) (x2 + 1)) else none)

def fX8_behind  (M : Mem)  : Option Int32 :=
    fX8_behind_L4 5000 M (0 : Int32) (0 : Int32)

def fX8_wins_L4  : Nat → Mem → Int32 → Int32 → Option Int32
  | 0, _, _, _ => none
  | n + 1, M, x1, x2 =>
    if (M 1 4) ≤ x2 then (some x1) else (if inb (((192 : Int32) + ((7 : Int32) * x2)) + (4 : Int32)) 902 = true then thn (x1 + (M 1 ((((192 : Int32) + ((7 : Int32) * x2)) + (4 : Int32)).toNatClampNeg))) fun y3 => fX8_wins_L4 n M y3 (x2 + 1) else none)

def fX8_wins  (M : Mem)  : Option Int32 :=
    fX8_wins_L4 5000 M (0 : Int32) (0 : Int32)

def fX8_count  (M : Mem) (x1 : Int32) : Option (Int32 × Mem) :=
    if x1 = (0 : Int32) then (some ((M 1 0), M)) else (if x1 = (1 : Int32) then (some ((M 1 1), M)) else (if x1 = (2 : Int32) then (some ((M 1 2), M)) else (if x1 = (3 : Int32) then (some ((M 1 3), M)) else (if x1 = (4 : Int32) then (bnd (fX8_behind M) fun y21 => some (y21, M)) else (if x1 = (5 : Int32) then (some ((M 1 9), M)) else (if x1 = (6 : Int32) then (some ((M 1 8), M)) else (if x1 = (7 : Int32) then (some ((M 1 4), M)) else (if x1 = (8 : Int32) then (bnd (fX8_wins M) fun y19 => some (y19, M)) else (if x1 = (9 : Int32) then (if (M 1 5) = 0 then (some ((-5 : Int32), M)) else (some ((M 1 5), M))) else (if x1 = (10 : Int32) then (bnd (fX8_logLength M) fun q16 => some (q16.1, q16.2)) else (if x1 = (11 : Int32) then (some ((M 0 4), M)) else (if x1 = (12 : Int32) then (some ((M 1 6), M)) else (if x1 = (13 : Int32) then (some ((M 1 7), M)) else (if x1 = (14 : Int32) then (some ((M 1 10), M)) else ((some ((-2 : Int32), M)))))))))))))))))

