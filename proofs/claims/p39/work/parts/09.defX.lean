def fX0_signHere  (M : Mem)  : Int32 :=
    if (M 1 1) ≤ (M 1 5) then ((-1 : Int32)) else ((atX M 2 20 (M 1 5)))

def fX0_digitHere  (M : Mem)  : Int32 :=
    if (fX0_signHere M) < (48 : Int32) then ((0 : Int32)) else (if (57 : Int32) < (fX0_signHere M) then ((0 : Int32)) else ((1 : Int32)))

def fX0_matchesDigits_B54  (M : Mem) (x1 x3 : Int32) : Option (Int32 × Mem) :=
    if x3 < x1 then (some ((0 : Int32), M)) else (some ((1 : Int32), M))

def fX0_matchesDigits_L7  : Nat → Mem → Int32 → Int32 → Int32 → Option (Int32 × Mem)
  | 0, _, _, _, _ => none
  | n + 1, M, x1, x2, x3 =>
    if x2 ≤ x3 then (fX0_matchesDigits_B54 M x1 x3) else (if (fX0_digitHere M) = 0 then (fX0_matchesDigits_B54 M x1 x3) else (thn (wr M 1 6 ((((M 1 6) * (10 : Int32)) + (fX0_signHere M)) - (48 : Int32))) fun M7 => thn (wr M7 1 5 ((M7 1 5) + (1 : Int32))) fun M8 => fX0_matchesDigits_L7 n M8 x1 x2 (x3 + 1)))

def fX0_matchesDigits  (M : Mem) (x1 x2 : Int32) : Option (Int32 × Mem) :=
    thn (wr M 1 6 (0 : Int32)) fun M1 => fX0_matchesDigits_L7 5000 M1 x1 x2 (0 : Int32)

def fX0_matchesWord_L2 (j : Nat) : Nat → Mem → Int32 → Option (Int32 × Mem)
  | 0, _, _ => none
  | n + 1, M, x2 =>
    if (strLen j) ≤ x2 then (some ((1 : Int32), M)) else (bnd (strAt j x2) fun y4 => if (fX0_signHere M) = y4 then (thn (wr M 1 5 ((M 1 5) + (1 : Int32))) fun M7 => fX0_matchesWord_L2 j n M7 (x2 + 1)) else (some ((0 : Int32), M)))

def fX0_matchesWord (j : Nat) (M : Mem)  : Option (Int32 × Mem) :=
    fX0_matchesWord_L2 j 5000 M (0 : Int32)

def fX0_matchesLock  (M : Mem)  : Option (Int32 × Mem) :=
    if (fX0_signHere M) = (99 : Int32) then (thn (wr M 1 3 (2 : Int32)) fun M23 => bnd (fX0_matchesWord 3 M23) fun q24 => if q24.1 = 0 then (some ((0 : Int32), q24.2)) else (bnd (fX0_matchesDigits q24.2 (4 : Int32) (4 : Int32)) fun q27 => if q27.1 = 0 then (some ((0 : Int32), q27.2)) else (some ((1 : Int32), q27.2)))) else (if (fX0_signHere M) = (107 : Int32) then (thn (wr M 1 3 (1 : Int32)) fun M16 => bnd (fX0_matchesWord 2 M16) fun q17 => if q17.1 = 0 then (some ((0 : Int32), q17.2)) else (bnd (fX0_matchesDigits q17.2 (1 : Int32) (2 : Int32)) fun q20 => if q20.1 = 0 then (some ((0 : Int32), q20.2)) else (some ((1 : Int32), q20.2)))) else (if (fX0_signHere M) = (108 : Int32) then (thn (wr M 1 3 (0 : Int32)) fun M13 => bnd (fX0_matchesWord 1 M13) fun q14 => some (q14.1, q14.2)) else (if (fX0_signHere M) = (112 : Int32) then (thn (wr M 1 3 (3 : Int32)) fun M6 => bnd (fX0_matchesWord 4 M6) fun q7 => if q7.1 = 0 then (some ((0 : Int32), q7.2)) else (bnd (fX0_matchesDigits q7.2 (1 : Int32) (2 : Int32)) fun q10 => if q10.1 = 0 then (some ((0 : Int32), q10.2)) else (some ((1 : Int32), q10.2)))) else ((some ((0 : Int32), M))))))

def fX0_findFault  (M : Mem)  : Option (Int32 × Mem) :=
    thn (wr M 1 5 (0 : Int32)) fun M1 => bnd (fX0_matchesDigits M1 (1 : Int32) (2 : Int32)) fun q2 => if q2.1 = 0 then (some ((q2.2 1 5), q2.2)) else (thn (wr q2.2 1 2 (q2.2 1 6)) fun M5 => thn (wr M5 1 6 (0 : Int32)) fun M6 => bnd (fX0_matchesWord 0 M6) fun q7 => if q7.1 = 0 then (some ((q7.2 1 5), q7.2)) else (bnd (fX0_matchesLock q7.2) fun q10 => if q10.1 = 0 then (some ((q10.2 1 5), q10.2)) else (if (q10.2 1 5) = (q10.2 1 1) then (thn (wr q10.2 1 4 (q10.2 1 6)) fun M14 => some ((-1 : Int32), M14)) else (some ((q10.2 1 5), q10.2)))))

def fX1_copyFrom (k : Nat) (k2 : Nat) (M : Mem)  : Option Mem :=
    thn (wr M k 0 (bz (M k2 0))) fun M1 => thn (wr M1 k 1 (M1 k2 1)) fun M2 => thn (wr M2 k 2 (M2 k2 2)) fun M3 => thn (wr M3 k 3 (M3 k2 3)) fun M4 => thn (wr M4 k 4 (M4 k2 4)) fun M5 => thn (wr M5 k 5 (M5 k2 5)) fun M6 => thn (wr M6 k 6 (M6 k2 6)) fun M7 => some M7

def fX2_copyFrom_L10 (k : Nat) (k2 : Nat) : Nat → Mem → Int32 → Option Mem
  | 0, _, _ => none
  | n + 1, M, x2 =>
    if (M k 0) ≤ x2 then (some M) else (thn (putX M (k + 1) 2048 x2 (atX M (k2 + 1) 2048 x2)) fun M4 => fX2_copyFrom_L10 k k2 n M4 (x2 + 1))

def fX2_copyFrom (k : Nat) (k2 : Nat) (M : Mem)  : Option Mem :=
    thn (wr M k 0 (M k2 0)) fun M1 => fX2_copyFrom_L10 k k2 5000 M1 (0 : Int32)

def fX2_appendSign (k : Nat) (M : Mem) (x1 : Int32) : Option Mem :=
    if (2048 : Int32) ≤ (M k 0) then (some M) else (thn (putX M (k + 1) 2048 (M k 0) x1) fun M2 => thn (wr M2 k 0 ((M2 k 0) + (1 : Int32))) fun M3 => some M3)

def fX2_appendNumber_L3 (k : Nat) : Nat → Mem → Int32 → Int32 → Option Mem
  | 0, _, _, _ => none
  | n + 1, M, x1, x2 =>
    if x2 ≤ 0 then (some M) else (if x2 ≤ x1 then (if ¬ x2 = 0 then bnd (fX2_appendSign k M ((48 : Int32) + (irm (x1 / x2) (10 : Int32)))) fun M4 => fX2_appendNumber_L3 k n M4 x1 (x2 / (10 : Int32)) else none) else (if x2 = (1 : Int32) then (if ¬ x2 = 0 then bnd (fX2_appendSign k M ((48 : Int32) + (irm (x1 / x2) (10 : Int32)))) fun M7 => fX2_appendNumber_L3 k n M7 x1 (x2 / (10 : Int32)) else none) else (fX2_appendNumber_L3 k n M x1 (x2 / (10 : Int32)))))

def fX2_appendNumber (k : Nat) (M : Mem) (x1 : Int32) : Option Mem :=
    fX2_appendNumber_L3 k 5000 M x1 (100000 : Int32)

def fX2_appendArgument (k : Nat) (M : Mem) (x1 : Int32) : Option Mem :=
    if x1 = (-1 : Int32) then (some M) else (bnd (fX2_appendSign k M (32 : Int32)) fun M2 => bnd (fX2_appendNumber k M2 x1) fun M3 => some M3)

def fX2_append_L14 (k : Nat) (j : Nat) : Nat → Mem → Int32 → Int32 → Int32 → Option Mem
  | 0, _, _, _, _ => none
  | n + 1, M, x3, x4, x5 =>
    if (strLen j) ≤ x5 then (bnd (fX2_appendArgument k M x3) fun M5 => bnd (fX2_appendArgument k M5 x4) fun M6 => bnd (fX2_appendSign k M6 (47 : Int32)) fun M7 => some M7) else (bnd (strAt j x5) fun y8 => bnd (fX2_appendSign k M y8) fun M10 => fX2_append_L14 k j n M10 x3 x4 (x5 + 1))

def fX2_append (k : Nat) (j : Nat) (M : Mem) (x1 x3 x4 : Int32) : Option Mem :=
    bnd (fX2_appendNumber k M x1) fun M1 => bnd (fX2_appendSign k M1 (58 : Int32)) fun M2 => fX2_append_L14 k j 5000 M2 x3 x4 (0 : Int32)

def fX3_copyFrom (k : Nat) (k2 : Nat) (M : Mem)  : Option Mem :=
    thn (wr M k 0 (M k2 0)) fun M1 => thn (copyX M1 (k2 + 1) (k + 1) 8) fun M2 => thn (copyX M2 (k2 + 2) (k + 2) 8) fun M3 => some M3

def fX3_hasGroup (k : Nat) (M : Mem) (x1 : Int32) : Int32 :=
    if x1 < 0 then ((0 : Int32)) else (if (M k 0) ≤ x1 then ((0 : Int32)) else ((1 : Int32)))

def fX3_append (k : Nat) (M : Mem) (x1 x2 : Int32) : Option Mem :=
    thn (putX M (k + 1) 8 (M k 0) x1) fun M1 => thn (putX M1 (k + 2) 8 (M1 k 0) x2) fun M2 => thn (wr M2 k 0 ((M2 k 0) + (1 : Int32))) fun M3 => some M3

def fX3_remove_L4 (k : Nat) : Nat → Mem → Int32 → Option Mem
  | 0, _, _ => none
  | n + 1, M, x2 =>
    if (M k 0) ≤ x2 then (thn (wr M k 0 ((M k 0) - (1 : Int32))) fun M2 => some M2) else (thn (putX M (k + 1) 8 (x2 - (1 : Int32)) (atX M (k + 1) 8 x2)) fun M4 => thn (putX M4 (k + 2) 8 (x2 - (1 : Int32)) (atX M4 (k + 2) 8 x2)) fun M6 => fX3_remove_L4 k n M6 (x2 + 1))

def fX3_remove (k : Nat) (M : Mem) (x1 : Int32) : Option Mem :=
    fX3_remove_L4 k 5000 M (x1 + (1 : Int32))

def fX3_waitingBefore_L4 (k : Nat) : Nat → Mem → Int32 → Int32 → Int32 → Option Int32
  | 0, _, _, _, _ => none
  | n + 1, M, x1, x2, x3 =>
    if (M k 0) ≤ x3 then (some x2) else (if x1 ≤ (atX M (k + 2) 8 x3) then (fX3_waitingBefore_L4 k n M x1 x2 (x3 + 1)) else (fX3_waitingBefore_L4 k n M x1 (x2 + 1) (x3 + 1)))

def fX3_waitingBefore (k : Nat) (M : Mem) (x1 : Int32) : Option Int32 :=
    fX3_waitingBefore_L4 k 5000 M x1 (0 : Int32) (0 : Int32)

def fX4_copyFrom (k : Nat) (k2 : Nat) (M : Mem)  : Option Mem :=
    thn (wr M k 0 (M k2 0)) fun M1 => thn (copyX M1 (k2 + 1) (k + 1) 210) fun M2 => some M2

def fX4_append (k : Nat) (k2 : Nat) (M : Mem) (x2 x3 : Int32) : Option Mem :=
    thn (putX M (k + 1) 210 ((M k 0) * (7 : Int32)) (M k2 1)) fun M1 => thn (putX M1 (k + 1) 210 (((M k 0) * (7 : Int32)) + (1 : Int32)) (M1 k2 2)) fun M2 => thn (putX M2 (k + 1) 210 (((M k 0) * (7 : Int32)) + (2 : Int32)) (M2 k2 3)) fun M3 => thn (putX M3 (k + 1) 210 (((M k 0) * (7 : Int32)) + (3 : Int32)) x2) fun M4 => thn (putX M4 (k + 1) 210 (((M k 0) * (7 : Int32)) + (4 : Int32)) x3) fun M5 => thn (putX M5 (k + 1) 210 (((M k 0) * (7 : Int32)) + (5 : Int32)) (M5 k2 4)) fun M6 => thn (putX M6 (k + 1) 210 (((M k 0) * (7 : Int32)) + (6 : Int32)) (M6 k2 6)) fun M7 => thn (wr M7 k 0 ((M7 k 0) + (1 : Int32))) fun M8 => some M8

def fX4_wins_L4 (k : Nat) : Nat → Mem → Int32 → Int32 → Option Int32
  | 0, _, _, _ => none
  | n + 1, M, x1, x2 =>
    if (M k 0) ≤ x2 then (some x1) else (thn (x1 + (atX M (k + 1) 210 ((x2 * (7 : Int32)) + (4 : Int32)))) fun y3 => fX4_wins_L4 k n M y3 (x2 + 1))

def fX4_wins (k : Nat) (M : Mem)  : Option Int32 :=
    fX4_wins_L4 k 5000 M (0 : Int32) (0 : Int32)

def fX5_copyFrom (k : Nat) (k2 : Nat) (M : Mem)  : Option Mem :=
    thn (wr M k 0 (M k2 0)) fun M1 => thn (copyX M1 (k2 + 1) (k + 1) 12) fun M2 => thn (copyX M2 (k2 + 2) (k + 2) 12) fun M3 => thn (copyX M3 (k2 + 3) (k + 3) 12) fun M4 => thn (copyX M4 (k2 + 4) (k + 4) 12) fun M5 => thn (copyX M5 (k2 + 5) (k + 5) 12) fun M6 => thn (wr M6 k 6 (M6 k2 6)) fun M7 => thn (copyX M7 (k2 + 6) (k + 6) 24) fun M8 => thn (copyX M8 (k2 + 7) (k + 7) 24) fun M9 => thn (wr M9 k 9 (M9 k2 9)) fun M10 => thn (copyX M10 (k2 + 8) (k + 8) 12) fun M11 => thn (copyX M11 (k2 + 9) (k + 9) 12) fun M12 => thn (copyX M12 (k2 + 10) (k + 10) 12) fun M13 => thn (copyX M13 (k2 + 11) (k + 11) 12) fun M14 => thn (wr M14 k 14 (M14 k2 14)) fun M15 => thn (wr M15 k 15 (M15 k2 15)) fun M16 => some M16

def fX5_appendBox (k : Nat) (M : Mem) (x1 x2 x3 : Int32) : Option (Int32 × Mem) :=
    thn (putX M (k + 1) 12 (M k 0) x1) fun M1 => thn (putX M1 (k + 2) 12 (M k 0) x2) fun M2 => thn (putX M2 (k + 3) 12 (M k 0) x3) fun M3 => thn (putX M3 (k + 4) 12 (M k 0) (0 : Int32)) fun M4 => thn (putX M4 (k + 5) 12 (M k 0) (0 : Int32)) fun M5 => thn (wr M5 k 0 ((M5 k 0) + (1 : Int32))) fun M6 => some ((M k 0), M6)

def fX5_appendProp (k : Nat) (M : Mem) (x1 : Int32) : Option (Int32 × Mem) :=
    thn (putX M (k + 6) 24 (M k 6) x1) fun M1 => thn (putX M1 (k + 7) 24 (M k 6) x1) fun M2 => thn (wr M2 k 6 ((M2 k 6) + (1 : Int32))) fun M3 => some ((M k 6), M3)

def fX5_appendClue (k : Nat) (M : Mem) (x1 x2 x3 : Int32) : Option (Int32 × Mem) :=
    thn (putX M (k + 8) 12 (M k 9) x1) fun M1 => thn (putX M1 (k + 9) 12 (M k 9) x2) fun M2 => thn (putX M2 (k + 10) 12 (M k 9) x3) fun M3 => thn (putX M3 (k + 11) 12 (M k 9) (9 : Int32)) fun M4 => thn (wr M4 k 9 ((M4 k 9) + (1 : Int32))) fun M5 => some ((M k 9), M5)

def fX5_hasBox (k : Nat) (M : Mem) (x1 : Int32) : Int32 :=
    if x1 < 0 then ((0 : Int32)) else (if (M k 0) ≤ x1 then ((0 : Int32)) else ((1 : Int32)))

def fX5_hasProp (k : Nat) (M : Mem) (x1 : Int32) : Int32 :=
    if x1 < 0 then ((0 : Int32)) else (if (M k 6) ≤ x1 then ((0 : Int32)) else ((1 : Int32)))

def fX5_hasClue (k : Nat) (M : Mem) (x1 : Int32) : Int32 :=
    if x1 < 0 then ((0 : Int32)) else (if (M k 9) ≤ x1 then ((0 : Int32)) else ((1 : Int32)))

def fX5_hasLock (k : Nat) (M : Mem) (x1 x2 : Int32) : Int32 :=
    if x1 ≤ 0 then ((0 : Int32)) else (if (atX M (k + 2) 12 x1) = x2 then ((1 : Int32)) else ((0 : Int32)))

def fX5_isOpen (k : Nat) (M : Mem) (x1 : Int32) : Int32 :=
    if (atX M (k + 4) 12 x1) = (1 : Int32) then ((1 : Int32)) else ((0 : Int32))

def fX5_isHeld (k : Nat) (M : Mem) (x1 : Int32) : Int32 :=
    if (atX M (k + 7) 24 x1) = (-1 : Int32) then ((1 : Int32)) else ((0 : Int32))

def fX5_outermostClosed_L7 (k : Nat) : Nat → Mem → Int32 → Int32 → Int32 → Option Int32
  | 0, _, _, _, _ => none
  | n + 1, M, x2, x3, x4 =>
    if (12 : Int32) ≤ x4 then (some x2) else (if x3 ≤ 0 then (some x2) else (if (atX M (k + 4) 12 x3) = 0 then (fX5_outermostClosed_L7 k n M x3 (atX M (k + 1) 12 x3) (x4 + 1)) else (fX5_outermostClosed_L7 k n M x2 (atX M (k + 1) 12 x3) (x4 + 1))))

def fX5_outermostClosed (k : Nat) (M : Mem) (x1 : Int32) : Option Int32 :=
    fX5_outermostClosed_L7 k 5000 M (0 : Int32) x1 (0 : Int32)

def fX5_boxAtHand (k : Nat) (M : Mem) (x1 : Int32) : Option Int32 :=
    if x1 = 0 then (some (1 : Int32)) else (bnd (fX5_outermostClosed k M (atX M (k + 1) 12 x1)) fun y3 => if y3 = 0 then (some (1 : Int32)) else (some (0 : Int32)))

def fX5_propAtHand (k : Nat) (M : Mem) (x1 : Int32) : Option Int32 :=
    bnd (fX5_outermostClosed k M (atX M (k + 7) 24 x1)) fun y2 => if y2 = 0 then (some (1 : Int32)) else (some (0 : Int32))

def fX5_clueAtHand (k : Nat) (M : Mem) (x1 : Int32) : Option Int32 :=
    bnd (fX5_outermostClosed k M (atX M (k + 7) 24 (atX M (k + 8) 12 x1))) fun y3 => if y3 = 0 then (some (1 : Int32)) else (some (0 : Int32))

def fX5_canBeOpened (k : Nat) (M : Mem) (x1 : Int32) : Option Int32 :=
    if (fX5_isOpen k M x1) = 0 then (bnd (fX5_boxAtHand k M x1) fun y3 => if y3 = 0 then (some (0 : Int32)) else (if (fX5_hasLock k M x1 (1 : Int32)) = 0 then (if (fX5_hasLock k M x1 (3 : Int32)) = 0 then (some (1 : Int32)) else (if (atX M (k + 7) 24 (atX M (k + 3) 12 x1)) = (atX M (k + 1) 12 x1) then (some (1 : Int32)) else (some (0 : Int32)))) else (some (fX5_isHeld k M (atX M (k + 3) 12 x1))))) else (some (0 : Int32))

def fX5_propsIn_L4 (k : Nat) : Nat → Mem → Int32 → Int32 → Int32 → Option Int32
  | 0, _, _, _, _ => none
  | n + 1, M, x1, x2, x3 =>
    if (M k 6) ≤ x3 then (some x2) else (if (atX M (k + 7) 24 x3) = x1 then (fX5_propsIn_L4 k n M x1 (x2 + 1) (x3 + 1)) else (fX5_propsIn_L4 k n M x1 x2 (x3 + 1)))

def fX5_propsIn (k : Nat) (M : Mem) (x1 : Int32) : Option Int32 :=
    fX5_propsIn_L4 k 5000 M x1 (0 : Int32) (0 : Int32)

def fX5_heldProps (k : Nat) (M : Mem)  : Option Int32 :=
    bnd (fX5_propsIn k M (-1 : Int32)) fun y1 => some y1

def fX5_heldBits_L4 (k : Nat) : Nat → Mem → Int32 → Int32 → Option Int32
  | 0, _, _, _ => none
  | n + 1, M, x1, x2 =>
    if (M k 6) ≤ x2 then (some x1) else (if (fX5_isHeld k M x2) = 0 then (fX5_heldBits_L4 k n M x1 (x2 + 1)) else (thn (x1 ||| ((1 : Int32) <<< (x2 &&& 31))) fun y4 => fX5_heldBits_L4 k n M y4 (x2 + 1)))

def fX5_heldBits (k : Nat) (M : Mem)  : Option Int32 :=
    fX5_heldBits_L4 k 5000 M (0 : Int32) (0 : Int32)

def fX5_boxesIn_L4 (k : Nat) : Nat → Mem → Int32 → Int32 → Int32 → Option Int32
  | 0, _, _, _, _ => none
  | n + 1, M, x1, x2, x3 =>
    if (M k 0) ≤ x3 then (some x2) else (if (atX M (k + 1) 12 x3) = x1 then (fX5_boxesIn_L4 k n M x1 (x2 + 1) (x3 + 1)) else (fX5_boxesIn_L4 k n M x1 x2 (x3 + 1)))

def fX5_boxesIn (k : Nat) (M : Mem) (x1 : Int32) : Option Int32 :=
    fX5_boxesIn_L4 k 5000 M x1 (0 : Int32) (1 : Int32)

def fX5_cluesOn_L4 (k : Nat) : Nat → Mem → Int32 → Int32 → Int32 → Option Int32
  | 0, _, _, _, _ => none
  | n + 1, M, x1, x2, x3 =>
    if (M k 9) ≤ x3 then (some x2) else (if (atX M (k + 8) 12 x3) = x1 then (fX5_cluesOn_L4 k n M x1 (x2 + 1) (x3 + 1)) else (fX5_cluesOn_L4 k n M x1 x2 (x3 + 1)))

def fX5_cluesOn (k : Nat) (M : Mem) (x1 : Int32) : Option Int32 :=
    fX5_cluesOn_L4 k 5000 M x1 (0 : Int32) (0 : Int32)

def fX5_locksWith_L4 (k : Nat) : Nat → Mem → Int32 → Int32 → Int32 → Option Int32
  | 0, _, _, _, _ => none
  | n + 1, M, x1, x2, x3 =>
    if (M k 0) ≤ x3 then (some x2) else (if (fX5_hasLock k M x3 (1 : Int32)) = 0 then (if (fX5_hasLock k M x3 (3 : Int32)) = 0 then (fX5_locksWith_L4 k n M x1 x2 (x3 + 1)) else (if (atX M (k + 3) 12 x3) = x1 then (fX5_locksWith_L4 k n M x1 (x2 + 1) (x3 + 1)) else (fX5_locksWith_L4 k n M x1 x2 (x3 + 1)))) else (if (atX M (k + 3) 12 x3) = x1 then (fX5_locksWith_L4 k n M x1 (x2 + 1) (x3 + 1)) else (fX5_locksWith_L4 k n M x1 x2 (x3 + 1))))

def fX5_locksWith (k : Nat) (M : Mem) (x1 : Int32) : Option Int32 :=
    fX5_locksWith_L4 k 5000 M x1 (0 : Int32) (1 : Int32)

def fX5_propsAway_L4 (k : Nat) : Nat → Mem → Int32 → Int32 → Option Int32
  | 0, _, _, _ => none
  | n + 1, M, x1, x2 =>
    if (M k 6) ≤ x2 then (some x1) else (if (atX M (k + 7) 24 x2) = (atX M (k + 6) 24 x2) then (fX5_propsAway_L4 k n M x1 (x2 + 1)) else (fX5_propsAway_L4 k n M (x1 + 1) (x2 + 1)))

def fX5_propsAway (k : Nat) (M : Mem)  : Option Int32 :=
    fX5_propsAway_L4 k 5000 M (0 : Int32) (0 : Int32)

def fX5_openBoxes_L4 (k : Nat) : Nat → Mem → Int32 → Int32 → Option Int32
  | 0, _, _, _ => none
  | n + 1, M, x1, x2 =>
    if (M k 0) ≤ x2 then (some x1) else (if (fX5_isOpen k M x2) = 0 then (fX5_openBoxes_L4 k n M x1 (x2 + 1)) else (fX5_openBoxes_L4 k n M (x1 + 1) (x2 + 1)))

def fX5_openBoxes (k : Nat) (M : Mem)  : Option Int32 :=
    fX5_openBoxes_L4 k 5000 M (0 : Int32) (1 : Int32)

def fX5_isPale (k : Nat) (M : Mem) (x1 : Int32) : Int32 :=
    if (3 : Int32) < (atX M (k + 11) 12 x1) then ((0 : Int32)) else ((1 : Int32))

def fX5_paleClues_L4 (k : Nat) : Nat → Mem → Int32 → Int32 → Option Int32
  | 0, _, _, _ => none
  | n + 1, M, x1, x2 =>
    if (M k 9) ≤ x2 then (some x1) else (if (fX5_isPale k M x2) = 0 then (fX5_paleClues_L4 k n M x1 (x2 + 1)) else (fX5_paleClues_L4 k n M (x1 + 1) (x2 + 1)))

def fX5_paleClues (k : Nat) (M : Mem)  : Option Int32 :=
    fX5_paleClues_L4 k 5000 M (0 : Int32) (0 : Int32)

def fX5_inkLack (k : Nat) (M : Mem) (x1 : Int32) : Int32 :=
    ((9 : Int32) - (atX M (k + 11) 12 x1))

def fX5_fade_L2 (k : Nat) : Nat → Mem → Int32 → Int32 → Option Mem
  | 0, _, _, _ => none
  | n + 1, M, x1, x2 =>
    if (M k 9) ≤ x2 then (some M) else (bnd (fX5_clueAtHand k M x2) fun y2 => if y2 = 0 then (fX5_fade_L2 k n M x1 (x2 + 1)) else (thn (putX M (k + 11) 12 x2 (mxi (0 : Int32) ((atX M (k + 11) 12 x2) - x1))) fun M6 => fX5_fade_L2 k n M6 x1 (x2 + 1)))

def fX5_fade (k : Nat) (M : Mem) (x1 : Int32) : Option Mem :=
    fX5_fade_L2 k 5000 M x1 (0 : Int32)

def fX5_clueDigit (k : Nat) (M : Mem) (x1 : Int32) : Int32 :=
    thn (atX M (k + 3) 12 (atX M (k + 9) 12 x1)) fun y3 => if (atX M (k + 10) 12 x1) = (0 : Int32) then ((irm (y3 / (1000 : Int32)) (10 : Int32))) else (if (atX M (k + 10) 12 x1) = (1 : Int32) then ((irm (y3 / (100 : Int32)) (10 : Int32))) else (if (atX M (k + 10) 12 x1) = (2 : Int32) then ((irm (y3 / (10 : Int32)) (10 : Int32))) else (((irm y3 (10 : Int32))))))

def fX7_actMinutes  (M : Mem) (x0 x1 : Int32) : Int32 :=
    (mxi (1 : Int32) (x0 - (x1 / (2 : Int32))))

def fX5_readingMinutes (k : Nat) (M : Mem) (x1 : Int32) : Int32 :=
    if (fX5_isPale k M x1) = 0 then (((fX7_actMinutes M (3 : Int32) (M k 15)) * (1 : Int32))) else (((fX7_actMinutes M (3 : Int32) (M k 15)) * (2 : Int32)))

def fX5_learnDigit (k : Nat) (M : Mem) (x1 x2 : Int32) : Option Mem :=
    thn (putX M (k + 5) 12 x1 ((atX M (k + 5) 12 x1) ||| ((1 : Int32) <<< (x2 &&& 31)))) fun M2 => some M2

def fX5_learnFromClue (k : Nat) (M : Mem) (x1 : Int32) : Option Mem :=
    bnd (fX5_learnDigit k M (atX M (k + 9) 12 x1) (atX M (k + 10) 12 x1)) fun M3 => thn (putX M3 (k + 11) 12 x1 (mxi (0 : Int32) ((atX M3 (k + 11) 12 x1) - (1 : Int32)))) fun M5 => some M5

def fX5_forgetDigits_L2 (k : Nat) : Nat → Mem → Int32 → Option Mem
  | 0, _, _ => none
  | n + 1, M, x1 =>
    if (M k 0) ≤ x1 then (some M) else (thn (putX M (k + 5) 12 x1 (0 : Int32)) fun M2 => fX5_forgetDigits_L2 k n M2 (x1 + 1))

def fX5_forgetDigits (k : Nat) (M : Mem)  : Option Mem :=
    fX5_forgetDigits_L2 k 5000 M (0 : Int32)

def fX5_dropHeldProps_L2 (k : Nat) : Nat → Mem → Int32 → Option Mem
  | 0, _, _ => none
  | n + 1, M, x1 =>
    if (M k 6) ≤ x1 then (some M) else (if (fX5_isHeld k M x1) = 0 then (fX5_dropHeldProps_L2 k n M (x1 + 1)) else (thn (putX M (k + 7) 24 x1 (0 : Int32)) fun M4 => fX5_dropHeldProps_L2 k n M4 (x1 + 1)))

def fX5_dropHeldProps (k : Nat) (M : Mem)  : Option Mem :=
    fX5_dropHeldProps_L2 k 5000 M (0 : Int32)

def fX5_bringPropsHome_L2 (k : Nat) : Nat → Mem → Int32 → Option Mem
  | 0, _, _ => none
  | n + 1, M, x1 =>
    if (M k 6) ≤ x1 then (some M) else (thn (putX M (k + 7) 24 x1 (atX M (k + 6) 24 x1)) fun M3 => fX5_bringPropsHome_L2 k n M3 (x1 + 1))

def fX5_bringPropsHome (k : Nat) (M : Mem)  : Option Mem :=
    fX5_bringPropsHome_L2 k 5000 M (0 : Int32)

def fX5_closeBoxes_L2 (k : Nat) : Nat → Mem → Int32 → Option Mem
  | 0, _, _ => none
  | n + 1, M, x1 =>
    if (M k 0) ≤ x1 then (some M) else (thn (putX M (k + 4) 12 x1 (0 : Int32)) fun M2 => fX5_closeBoxes_L2 k n M2 (x1 + 1))

def fX5_closeBoxes (k : Nat) (M : Mem)  : Option Mem :=
    fX5_closeBoxes_L2 k 5000 M (1 : Int32)

def fX5_lowestUnknownPlace_L2 (k : Nat) : Nat → Mem → Int32 → Int32 → Option Int32
  | 0, _, _, _ => none
  | n + 1, M, x1, x2 =>
    if (4 : Int32) ≤ x2 then (some x2) else (if (((atX M (k + 5) 12 x1) >>> (x2 &&& 31)) &&& (1 : Int32)) = (1 : Int32) then (fX5_lowestUnknownPlace_L2 k n M x1 (x2 + 1)) else (some x2))

def fX5_lowestUnknownPlace (k : Nat) (M : Mem) (x1 : Int32) : Option Int32 :=
    fX5_lowestUnknownPlace_L2 k 5000 M x1 (0 : Int32)

def fX5_stepForCode_L30 (k : Nat) : Nat → Mem → Int32 → Int32 → Int32 → Int32 → Int32 → Option Int32
  | 0, _, _, _, _, _, _ => none
  | n + 1, M, x1, x2, x3, x4, x5 =>
    if x5 < 0 then (if x3 < 0 then (if x4 < 0 then (some (((500 : Int32) + x2) + ((1000 : Int32) * x1))) else (bnd (fX5_outermostClosed k M (atX M (k + 7) 24 (atX M (k + 8) 12 x4))) fun y9 => some y9)) else (some ((400 : Int32) + x3))) else (if (atX M (k + 9) 12 x5) = x1 then (if (atX M (k + 10) 12 x5) = x2 then (if (atX M (k + 11) 12 x5) ≤ 0 then (fX5_stepForCode_L30 k n M x1 x2 x3 x4 (x5 + (-1))) else (bnd (fX5_clueAtHand k M x5) fun y17 => if y17 = 0 then (fX5_stepForCode_L30 k n M x1 x2 x3 x5 (x5 + (-1))) else (if x3 < 0 then (fX5_stepForCode_L30 k n M x1 x2 x5 x5 (x5 + (-1))) else (if (atX M (k + 11) 12 x5) < (atX M (k + 11) 12 x3) then (fX5_stepForCode_L30 k n M x1 x2 x3 x5 (x5 + (-1))) else (fX5_stepForCode_L30 k n M x1 x2 x5 x5 (x5 + (-1))))))) else (fX5_stepForCode_L30 k n M x1 x2 x3 x4 (x5 + (-1)))) else (fX5_stepForCode_L30 k n M x1 x2 x3 x4 (x5 + (-1))))

def fX5_stepForCode (k : Nat) (M : Mem) (x1 : Int32) : Option Int32 :=
    bnd (fX5_lowestUnknownPlace k M x1) fun y1 => if y1 = (4 : Int32) then (some ((300 : Int32) + x1)) else (fX5_stepForCode_L30 k 5000 M x1 y1 (-1 : Int32) (-1 : Int32) ((M k 9) - (1 : Int32)))

def fX5_lowestHeld_L2 (k : Nat) : Nat → Mem → Int32 → Option Int32
  | 0, _, _ => none
  | n + 1, M, x1 =>
    if (M k 6) ≤ x1 then (some x1) else (if (fX5_isHeld k M x1) = 0 then (fX5_lowestHeld_L2 k n M (x1 + 1)) else (some x1))

def fX5_lowestHeld (k : Nat) (M : Mem)  : Option Int32 :=
    fX5_lowestHeld_L2 k 5000 M (0 : Int32)

def fX5_stepToHold (k : Nat) (M : Mem) (x1 : Int32) : Option Int32 :=
    bnd (fX5_outermostClosed k M (atX M (k + 7) 24 x1)) fun y2 => if y2 ≤ 0 then (bnd (fX5_heldProps k M) fun y5 => if (M k 15) ≤ y5 then (bnd (fX5_lowestHeld k M) fun y8 => some ((200 : Int32) + y8)) else (some ((100 : Int32) + x1))) else (some y2)

def fX5_stepForThing_B68 (k : Nat) (M : Mem) (x1 x2 x3 : Int32) : Option Int32 :=
    if x3 = (-1 : Int32) then (some (((200 : Int32) + x2) + ((1000 : Int32) * (atX M (k + 1) 12 x1)))) else (bnd (fX5_stepToHold k M x2) fun y11 => some y11)

def fX5_stepForThing_B41 (k : Nat) (M : Mem) (x1 x2 x3 : Int32) : Option Int32 :=
    if (fX5_hasLock k M x1 (3 : Int32)) = 0 then (fX5_stepForThing_B68 k M x1 x2 x3) else (if x3 = (atX M (k + 1) 12 x1) then (some ((300 : Int32) + x1)) else (fX5_stepForThing_B68 k M x1 x2 x3))

def fX5_stepForThing (k : Nat) (M : Mem) (x1 : Int32) : Option Int32 :=
    thn (atX M (k + 7) 24 (atX M (k + 3) 12 x1)) fun y3 => if (fX5_hasLock k M x1 (0 : Int32)) = 0 then (if (fX5_hasLock k M x1 (1 : Int32)) = 0 then (fX5_stepForThing_B41 k M x1 (atX M (k + 3) 12 x1) y3) else (if y3 = (-1 : Int32) then (some ((300 : Int32) + x1)) else (fX5_stepForThing_B41 k M x1 (atX M (k + 3) 12 x1) y3))) else (some ((300 : Int32) + x1))

def fX5_stepFor_L7 (k : Nat) : Nat → Mem → Int32 → Int32 → Int32 → Option Int32
  | 0, _, _, _, _ => none
  | n + 1, M, x2, x3, x4 =>
    if (12 : Int32) ≤ x4 then (some (-5 : Int32)) else (if x3 ≤ 0 then (some (-5 : Int32)) else (if ((x2 >>> (x3 &&& 31)) &&& (1 : Int32)) = (1 : Int32) then (some (-5 : Int32)) else (thn (x2 ||| ((1 : Int32) <<< (x3 &&& 31))) fun y4 => bnd (fX5_outermostClosed k M (atX M (k + 1) 12 x3)) fun y6 => if y6 = 0 then (if (fX5_hasLock k M x3 (2 : Int32)) = 0 then (bnd (fX5_stepForThing k M x3) fun y12 => if y12 < (100 : Int32) then (fX5_stepFor_L7 k n M y4 y12 (x4 + 1)) else (some y12)) else (bnd (fX5_stepForCode k M x3) fun y15 => if y15 < (100 : Int32) then (fX5_stepFor_L7 k n M y4 y15 (x4 + 1)) else (some y15))) else (if y6 < (100 : Int32) then (fX5_stepFor_L7 k n M y4 y6 (x4 + 1)) else (some y6)))))

def fX5_stepFor (k : Nat) (M : Mem) (x1 : Int32) : Option Int32 :=
    fX5_stepFor_L7 k 5000 M (0 : Int32) x1 (0 : Int32)

def fX7_stepKind  (M : Mem) (x0 : Int32) : Int32 :=
    (((irm x0 (1000 : Int32)) / (100 : Int32)) * (100 : Int32))

def fX5_follow (k : Nat) (M : Mem) (x1 x2 x3 : Int32) : Option (Int32 × Mem) :=
    if x1 = (100 : Int32) then (thn (putX M (k + 7) 24 x2 (-1 : Int32)) fun M13 => some ((fX7_actMinutes M13 (3 : Int32) (M13 k 15)), M13)) else (if x1 = (200 : Int32) then (thn (putX M (k + 7) 24 x2 x3) fun M11 => some ((fX7_actMinutes M11 (2 : Int32) (M11 k 15)), M11)) else (if x1 = (300 : Int32) then (thn (putX M (k + 4) 12 x2 (1 : Int32)) fun M9 => some ((fX7_actMinutes M9 (4 : Int32) (M9 k 15)), M9)) else (if x1 = (400 : Int32) then (thn (fX5_readingMinutes k M x2) fun y7 => bnd (fX5_learnFromClue k M x2) fun M8 => some (y7, M8)) else ((bnd (fX5_learnDigit k M x3 x2) fun M5 => some ((2 : Int32), M5))))))

def fX5_minutesToExit_B66 (k : Nat) (M : Mem) (x1 : Int32) : Option (Int32 × Mem) :=
    if (fX5_isOpen k M (M k 14)) = 0 then (some ((-5 : Int32), M)) else (some (x1, M))

def fX5_minutesToExit_L4 (k : Nat) : Nat → Mem → Int32 → Int32 → Option (Int32 × Mem)
  | 0, _, _, _ => none
  | n + 1, M, x1, x2 =>
    if (1000 : Int32) ≤ x2 then (fX5_minutesToExit_B66 k M x1) else (if (fX5_isOpen k M (M k 14)) = 0 then (bnd (fX5_stepFor k M (M k 14)) fun y6 => if y6 = (-5 : Int32) then (some ((-5 : Int32), M)) else (bnd (fX5_follow k M (fX7_stepKind M y6) (irm y6 (100 : Int32)) (y6 / (1000 : Int32))) fun q10 => fX5_minutesToExit_L4 k n q10.2 (x1 + q10.1) (x2 + 1))) else (fX5_minutesToExit_B66 k M x1))

def fX5_minutesToExit (k : Nat) (M : Mem)  : Option (Int32 × Mem) :=
    fX5_minutesToExit_L4 k 5000 M (0 : Int32) (0 : Int32)

def fX6_copyFrom (k : Nat) (k2 : Nat) (M : Mem)  : Option Mem :=
    bnd (fX5_copyFrom (k + 1) (k2 + 1) M) fun M1 => bnd (fX3_copyFrom (k + 13) (k2 + 13) M1) fun M2 => bnd (fX1_copyFrom (k + 16) (k2 + 16) M2) fun M3 => bnd (fX4_copyFrom (k + 17) (k2 + 17) M3) fun M4 => bnd (fX2_copyFrom (k + 19) (k2 + 19) M4) fun M5 => thn (wr M5 k 5 (M5 k2 5)) fun M6 => thn (wr M6 k 6 (M6 k2 6)) fun M7 => thn (wr M7 k 7 (M7 k2 7)) fun M8 => thn (wr M8 k 8 (M8 k2 8)) fun M9 => some M9

def fX6_pass (k : Nat) (M : Mem) (x1 : Int32) : Option Mem :=
    thn ((((M k 5) + x1) / (60 : Int32)) - ((M k 5) / (60 : Int32))) fun y1 => thn (wr M k 5 ((M k 5) + x1)) fun M2 => if y1 ≤ 0 then (some M2) else (bnd (fX5_fade (k + 1) M2 y1) fun M4 => some M4)

def fX6_gameMinute (k : Nat) (M : Mem)  : Int32 :=
    ((M k 5) - (M (k + 16) 3))

def fX6_minutesLeft (k : Nat) (M : Mem)  : Int32 :=
    (((M (k + 16) 3) + (M k 7)) - (M k 5))

def fX6_hasTimeFor (k : Nat) (M : Mem) (x1 : Int32) : Int32 :=
    if (fX6_minutesLeft k M) < x1 then ((0 : Int32)) else ((1 : Int32))

def fX6_note (k : Nat) (j : Nat) (M : Mem) (x2 x3 : Int32) : Option Mem :=
    bnd (fX2_append (k + 19) j M (fX6_gameMinute k M) x2 x3) fun M2 => some M2

def fX6_beginGame (k : Nat) (M : Mem)  : Option (Int32 × Mem) :=
    thn (wr M (k + 16) 1 (atX M (k + 14) 8 (0 : Int32))) fun M2 => thn (wr M2 (k + 16) 2 (atX M2 (k + 15) 8 (0 : Int32))) fun M4 => bnd (fX3_remove (k + 13) M4 (0 : Int32)) fun M5 => thn (wr M5 (k + 16) 3 (mxi (M5 k 5) (M5 (k + 16) 2))) fun M6 => bnd (fX6_pass k M6 ((M6 (k + 16) 3) - (M6 k 5))) fun M7 => thn (wr M7 (k + 16) 4 (0 : Int32)) fun M8 => thn (wr M8 (k + 16) 5 (0 : Int32)) fun M9 => bnd (fX5_propsAway (k + 1) M9) fun y10 => bnd (fX5_openBoxes (k + 1) M9) fun y12 => thn (wr M9 (k + 16) 6 (y10 + y12)) fun M14 => thn (wr M14 (k + 16) 0 (1 : Int32)) fun M15 => thn (wr M15 (k + 1) 15 (M15 (k + 16) 1)) fun M16 => thn (wr M16 (k + 19) 0 (0 : Int32)) fun M17 => some (((M17 (k + 16) 3) - (M17 (k + 16) 2)), M17)

def fX7_asNumber  (M : Mem) (x0 : Int32) : Int32 :=
    if x0 = 0 then ((0 : Int32)) else ((1 : Int32))

def fX6_endGame (k : Nat) (M : Mem) (x1 : Int32) : Option Mem :=
    bnd (fX4_append (k + 17) (k + 16) M (fX6_gameMinute k M) (fX7_asNumber M x1)) fun M3 => thn (wr M3 (k + 16) 0 (0 : Int32)) fun M4 => bnd (fX5_dropHeldProps (k + 1) M4) fun M5 => bnd (fX5_forgetDigits (k + 1) M5) fun M6 => some M6

def fX6_runOutOfTime (k : Nat) (M : Mem)  : Option (Int32 × Mem) :=
    bnd (fX2_append (k + 19) 5 M (fX6_gameMinute k M) (-1 : Int32) (-1 : Int32)) fun M2 => bnd (fX6_pass k M2 (fX6_minutesLeft k M2)) fun M4 => bnd (fX6_endGame k M4 (0 : Int32)) fun M5 => some ((-6 : Int32), M5)

def fX6_latestStart_L35 (k : Nat) : Nat → Mem → Int32 → Int32 → Int32 → Option Int32
  | 0, _, _, _, _ => none
  | n + 1, M, x1, x2, x3 =>
    if x1 ≤ x3 then (some (mxi x2 (atX M (k + 15) 8 x1))) else (thn (((mxi x2 (atX M (k + 15) 8 x3)) + (M k 7)) + (10 : Int32)) fun y5 => fX6_latestStart_L35 k n M x1 y5 (x3 + 1))

def fX6_latestStart (k : Nat) (M : Mem) (x1 : Int32) : Option Int32 :=
    if (bz (M (k + 16) 0)) = 0 then (fX6_latestStart_L35 k 5000 M x1 (M k 5) (0 : Int32)) else (thn (((M (k + 16) 3) + (M k 7)) + (10 : Int32)) fun y6 => fX6_latestStart_L35 k 5000 M x1 y6 (0 : Int32))

def fX6_refill (k : Nat) (M : Mem) (x1 : Int32) : Option Mem :=
    thn (wr M k 6 ((M k 6) - (fX5_inkLack (k + 1) M x1))) fun M2 => thn (putX M2 (k + 12) 12 x1 (9 : Int32)) fun M3 => some M3

def fX6_cluesOfReset_L9 (k : Nat) : Nat → Mem → Int32 → Int32 → Int32 → Option Int32
  | 0, _, _, _, _ => none
  | n + 1, M, x1, x2, x3 =>
    if (M (k + 1) 9) ≤ x3 then (some x1) else (if (fX5_isPale (k + 1) M x3) = 0 then (fX6_cluesOfReset_L9 k n M x1 x2 (x3 + 1)) else (if x2 < (fX5_inkLack (k + 1) M x3) then (fX6_cluesOfReset_L9 k n M x1 x2 (x3 + 1)) else (thn (x2 - (fX5_inkLack (k + 1) M x3)) fun y7 => thn (x1 ||| ((1 : Int32) <<< (x3 &&& 31))) fun y8 => fX6_cluesOfReset_L9 k n M y8 y7 (x3 + 1))))

def fX6_cluesOfReset (k : Nat) (M : Mem)  : Option Int32 :=
    fX6_cluesOfReset_L9 k 5000 M (0 : Int32) (M k 6) (0 : Int32)

def fJ6_bitCount_0f7a4  (M : Mem) (x0 : Int32) : Int32 :=
    thn (x0 - (((x0.toUInt32 >>> ((1 : Int32).toUInt32 &&& Int32.toUInt32 31)).toInt32) &&& (1431655765 : Int32))) fun y1 => thn ((y1 &&& (858993459 : Int32)) + (((y1.toUInt32 >>> ((2 : Int32).toUInt32 &&& Int32.toUInt32 31)).toInt32) &&& (858993459 : Int32))) fun y2 => thn ((y2 + ((y2.toUInt32 >>> ((4 : Int32).toUInt32 &&& Int32.toUInt32 31)).toInt32)) &&& (252645135 : Int32)) fun y3 => thn (y3 + ((y3.toUInt32 >>> ((8 : Int32).toUInt32 &&& Int32.toUInt32 31)).toInt32)) fun y4 => thn (y4 + ((y4.toUInt32 >>> ((16 : Int32).toUInt32 &&& Int32.toUInt32 31)).toInt32)) fun y5 => (y5 &&& (63 : Int32))

def fX6_resetMinutes (k : Nat) (M : Mem)  : Option Int32 :=
    bnd (fX5_propsAway (k + 1) M) fun y1 => bnd (fX5_openBoxes (k + 1) M) fun y3 => bnd (fX6_cluesOfReset k M) fun y5 => some ((y1 + y3) + (fJ6_bitCount_0f7a4 M y5))

def fX6_resetPaint_L9 (k : Nat) : Nat → Mem → Int32 → Int32 → Int32 → Option Int32
  | 0, _, _, _, _ => none
  | n + 1, M, x1, x2, x3 =>
    if (M (k + 1) 9) ≤ x3 then (some x2) else (thn (x2 + (((x1 >>> (x3 &&& 31)) &&& (1 : Int32)) * (fX5_inkLack (k + 1) M x3))) fun y5 => fX6_resetPaint_L9 k n M x1 y5 (x3 + 1))

def fX6_resetPaint (k : Nat) (M : Mem)  : Option Int32 :=
    bnd (fX6_cluesOfReset k M) fun y1 => fX6_resetPaint_L9 k 5000 M y1 (0 : Int32) (0 : Int32)

def fX6_bringToOrder_L21 (k : Nat) : Nat → Mem → Int32 → Int32 → Option Mem
  | 0, _, _, _ => none
  | n + 1, M, x1, x2 =>
    if (M (k + 1) 9) ≤ x2 then (some M) else (if ((x1 >>> (x2 &&& 31)) &&& (1 : Int32)) = (1 : Int32) then (bnd (fX6_refill k M x2) fun M7 => fX6_bringToOrder_L21 k n M7 x1 (x2 + 1)) else (fX6_bringToOrder_L21 k n M x1 (x2 + 1)))

def fX6_bringToOrder (k : Nat) (M : Mem)  : Option Mem :=
    bnd (fX6_cluesOfReset k M) fun y1 => bnd (fX5_bringPropsHome (k + 1) M) fun M3 => bnd (fX5_closeBoxes (k + 1) M3) fun M4 => fX6_bringToOrder_L21 k 5000 M4 y1 (0 : Int32)

def fX7_type  (M : Mem) (x1 : Int32) : Option (Int32 × Mem) :=
    if (M 1 1) < (20 : Int32) then (thn (putX M 2 20 (M 1 1) x1) fun M2 => thn (wr M2 1 1 ((M2 1 1) + (1 : Int32))) fun M3 => some ((M3 1 1), M3)) else (some ((-3 : Int32), M))

def fX7_clearText  (M : Mem)  : Option (Int32 × Mem) :=
    thn (wr M 1 1 (0 : Int32)) fun M1 => some ((M 1 1), M1)

def fX7_addBox_B88  (M : Mem)  : Option (Int32 × Mem) :=
    if (bz (M 19 0)) = 0 then (if (M 4 0) < (12 : Int32) then (bnd (fX5_appendBox 4 M (M 1 2) (M 1 3) (M 1 4)) fun q10 => some (q10.1, q10.2)) else (some ((-3 : Int32), M))) else (some ((-4 : Int32), M))

def fX7_addBox_B54  (M : Mem) (x3 : Int32) : Option (Int32 × Mem) :=
    if (fX5_hasBox 4 M (M 1 2)) = 0 then (some ((-1 : Int32), M)) else (if x3 = 0 then (fX7_addBox_B88 M) else (if (fX5_hasProp 4 M (M 1 4)) = 0 then (some ((-1 : Int32), M)) else (fX7_addBox_B88 M)))

def fX7_addBox  (M : Mem)  : Option (Int32 × Mem) :=
    bnd (fX0_findFault M) fun q1 => if q1.1 = (-1 : Int32) then (if (q1.2 1 3) = (1 : Int32) then (fX7_addBox_B54 q1.2 (1 : Int32)) else (if (q1.2 1 3) = (3 : Int32) then (fX7_addBox_B54 q1.2 (1 : Int32)) else (fX7_addBox_B54 q1.2 (0 : Int32)))) else (some (((-100 : Int32) - q1.1), q1.2))

def fX7_addProp  (M : Mem) (x1 : Int32) : Option (Int32 × Mem) :=
    if (fX5_hasBox 4 M x1) = 0 then (some ((-1 : Int32), M)) else (if (bz (M 19 0)) = 0 then (if (M 4 6) < (24 : Int32) then (bnd (fX5_appendProp 4 M x1) fun q5 => some (q5.1, q5.2)) else (some ((-3 : Int32), M))) else (some ((-4 : Int32), M)))

def fX7_addClue  (M : Mem) (x1 x2 x3 : Int32) : Option (Int32 × Mem) :=
    if (fX5_hasProp 4 M x1) = 0 then (some ((-1 : Int32), M)) else (if (fX5_hasBox 4 M x2) = 0 then (some ((-1 : Int32), M)) else (if x3 < 0 then (some ((-2 : Int32), M)) else (if x3 < (4 : Int32) then (if (fX5_hasLock 4 M x2 (2 : Int32)) = 0 then (some ((-4 : Int32), M)) else (if (bz (M 19 0)) = 0 then (if (M 4 9) < (12 : Int32) then (bnd (fX5_appendClue 4 M x1 x2 x3) fun q11 => some (q11.1, q11.2)) else (some ((-3 : Int32), M))) else (some ((-4 : Int32), M)))) else (some ((-2 : Int32), M)))))

def fX7_setExit  (M : Mem) (x1 : Int32) : Option (Int32 × Mem) :=
    if (fX5_hasBox 4 M x1) = 0 then (some ((-1 : Int32), M)) else (if x1 = 0 then (some ((-2 : Int32), M)) else (if (bz (M 19 0)) = 0 then (if (M 4 14) = x1 then (some ((-5 : Int32), M)) else (thn (wr M 4 14 x1) fun M6 => some ((M 4 14), M6))) else (some ((-4 : Int32), M))))

def fX7_setLimits_B68  (M : Mem) (x1 x2 x3 : Int32) : Option (Int32 × Mem) :=
    thn (wr M 3 7 x1) fun M7 => thn (wr M7 3 8 x2) fun M8 => some (x3, M8)

def fX7_setLimits  (M : Mem) (x1 x2 : Int32) : Option (Int32 × Mem) :=
    if x1 < (10 : Int32) then (some ((-2 : Int32), M)) else (if (120 : Int32) < x1 then (some ((-2 : Int32), M)) else (if x2 < 0 then (some ((-2 : Int32), M)) else (if x2 ≤ (9 : Int32) then (if (bz (M 19 0)) = 0 then (if (M 3 7) = x1 then (if (M 3 8) = x2 then (some ((-5 : Int32), M)) else (fX7_setLimits_B68 M x1 x2 (M 3 7))) else (fX7_setLimits_B68 M x1 x2 (M 3 7))) else (some ((-4 : Int32), M))) else (some ((-2 : Int32), M)))))

def fX7_addPaint  (M : Mem) (x1 : Int32) : Option (Int32 × Mem) :=
    if x1 < (1 : Int32) then (some ((-2 : Int32), M)) else (if x1 ≤ (1000 : Int32) then (thn (wr M 3 6 ((M 3 6) + x1)) fun M3 => some ((M3 3 6), M3)) else (some ((-2 : Int32), M)))

def fX7_isGroupSize  (M : Mem) (x0 : Int32) : Int32 :=
    if x0 < (1 : Int32) then ((0 : Int32)) else (if (6 : Int32) < x0 then ((0 : Int32)) else ((1 : Int32)))

def fX7_book_B55  (M : Mem) (x1 x2 : Int32) : Option (Int32 × Mem) :=
    if (M 16 0) < (8 : Int32) then (bnd (fX3_append 16 M x1 x2) fun M7 => some ((M7 16 0), M7)) else (some ((-3 : Int32), M))

def fX7_book  (M : Mem) (x1 x2 : Int32) : Option (Int32 × Mem) :=
    if (fX7_isGroupSize M x1) = 0 then (some ((-2 : Int32), M)) else (if x2 < 0 then (some ((-2 : Int32), M)) else (if x2 ≤ (100000 : Int32) then (if (M 16 0) ≤ 0 then (fX7_book_B55 M x1 x2) else (if (atX M 18 8 ((M 16 0) - (1 : Int32))) ≤ x2 then (fX7_book_B55 M x1 x2) else (some ((-4 : Int32), M)))) else (some ((-2 : Int32), M))))

def fX7_cancel  (M : Mem) (x1 : Int32) : Option (Int32 × Mem) :=
    if (fX3_hasGroup 16 M x1) = 0 then (some ((-1 : Int32), M)) else (bnd (fX3_remove 16 M x1) fun M3 => some ((M3 16 0), M3))

def fX7_startGame  (M : Mem)  : Option (Int32 × Mem) :=
    if (bz (M 19 0)) = 0 then (if (M 16 0) = 0 then (some ((-4 : Int32), M)) else (if (M 4 14) = 0 then (some ((-4 : Int32), M)) else (if (fX5_isOpen 4 M (M 4 14)) = 0 then (if (M 20 0) < (30 : Int32) then (bnd (fX6_beginGame 3 M) fun q7 => some (q7.1, q7.2)) else (some ((-3 : Int32), M))) else (some ((-4 : Int32), M))))) else (some ((-4 : Int32), M))

def fX7_take  (M : Mem) (x1 : Int32) : Option (Int32 × Mem) :=
    if (fX5_hasProp 4 M x1) = 0 then (some ((-1 : Int32), M)) else (if (bz (M 19 0)) = 0 then (some ((-4 : Int32), M)) else (if (fX5_isHeld 4 M x1) = 0 then (bnd (fX5_propAtHand 4 M x1) fun y6 => if y6 = 0 then (some ((-4 : Int32), M)) else (bnd (fX5_heldProps 4 M) fun y9 => if y9 < (M 4 15) then (thn (fX7_actMinutes M (3 : Int32) (M 4 15)) fun y13 => if (fX6_hasTimeFor 3 M y13) = 0 then (bnd (fX6_runOutOfTime 3 M) fun q21 => some (q21.1, q21.2)) else (bnd (fX6_note 3 6 M x1 (-1 : Int32)) fun M16 => thn (putX M16 11 24 x1 (-1 : Int32)) fun M17 => bnd (fX6_pass 3 M17 y13) fun M18 => bnd (fX5_heldProps 4 M18) fun y19 => some (y19, M18))) else (some ((-3 : Int32), M)))) else (some ((-4 : Int32), M))))

def fX7_lay  (M : Mem) (x1 x2 : Int32) : Option (Int32 × Mem) :=
    if (fX5_hasProp 4 M x1) = 0 then (some ((-1 : Int32), M)) else (if (fX5_hasBox 4 M x2) = 0 then (some ((-1 : Int32), M)) else (if (bz (M 19 0)) = 0 then (some ((-4 : Int32), M)) else (if (fX5_isHeld 4 M x1) = 0 then (some ((-4 : Int32), M)) else (bnd (fX5_outermostClosed 4 M x2) fun y8 => if y8 = 0 then (thn (fX7_actMinutes M (2 : Int32) (M 4 15)) fun y12 => if (fX6_hasTimeFor 3 M y12) = 0 then (bnd (fX6_runOutOfTime 3 M) fun q20 => some (q20.1, q20.2)) else (bnd (fX6_note 3 7 M x1 x2) fun M15 => thn (putX M15 11 24 x1 x2) fun M16 => bnd (fX6_pass 3 M16 y12) fun M17 => bnd (fX5_heldProps 4 M17) fun y18 => some (y18, M17))) else (some ((-4 : Int32), M))))))

def fX7_open_B91  (M : Mem) (x1 x4 x5 : Int32) : Option (Int32 × Mem) :=
    if (fX6_hasTimeFor 3 M x5) = 0 then (bnd (fX6_runOutOfTime 3 M) fun q22 => some (q22.1, q22.2)) else (bnd (fX6_note 3 8 M x1 (-1 : Int32)) fun M14 => if x4 = 0 then (thn (putX M14 8 12 x1 (1 : Int32)) fun M16 => bnd (fX6_pass 3 M16 x5) fun M17 => if x1 = (M17 4 14) then (bnd (fX6_endGame 3 M17 (1 : Int32)) fun M19 => some ((2 : Int32), M19)) else (some ((1 : Int32), M17))) else (thn (wr M14 19 5 ((M14 19 5) + (1 : Int32))) fun M20 => bnd (fX6_pass 3 M20 x5) fun M21 => some ((0 : Int32), M21)))

def fX7_open_B70  (M : Mem) (x1 x4 : Int32) : Option (Int32 × Mem) :=
    if x4 = 0 then (thn ((fX7_actMinutes M (4 : Int32) (M 4 15)) * (1 : Int32)) fun y11 => fX7_open_B91 M x1 x4 y11) else (thn ((fX7_actMinutes M (4 : Int32) (M 4 15)) * (2 : Int32)) fun y24 => fX7_open_B91 M x1 x4 y24)

def fX7_open  (M : Mem) (x1 x2 : Int32) : Option (Int32 × Mem) :=
    if (fX5_hasBox 4 M x1) = 0 then (some ((-1 : Int32), M)) else (if (bz (M 19 0)) = 0 then (some ((-4 : Int32), M)) else (bnd (fX5_canBeOpened 4 M x1) fun y4 => if y4 = 0 then (some ((-4 : Int32), M)) else (if (fX5_hasLock 4 M x1 (2 : Int32)) = 0 then (fX7_open_B70 M x1 (0 : Int32)) else (if (atX M 7 12 x1) = x2 then (fX7_open_B70 M x1 (0 : Int32)) else (fX7_open_B70 M x1 (1 : Int32))))))

def fX7_read  (M : Mem) (x1 : Int32) : Option (Int32 × Mem) :=
    if (fX5_hasClue 4 M x1) = 0 then (some ((-1 : Int32), M)) else (if (bz (M 19 0)) = 0 then (some ((-4 : Int32), M)) else (bnd (fX5_clueAtHand 4 M x1) fun y4 => if y4 = 0 then (some ((-4 : Int32), M)) else (if (atX M 15 12 x1) = 0 then (some ((-5 : Int32), M)) else (thn (fX5_readingMinutes 4 M x1) fun y10 => if (fX6_hasTimeFor 3 M y10) = 0 then (bnd (fX6_runOutOfTime 3 M) fun q17 => some (q17.1, q17.2)) else (bnd (fX6_note 3 9 M x1 (-1 : Int32)) fun M13 => bnd (fX5_learnFromClue 4 M13 x1) fun M14 => bnd (fX6_pass 3 M14 y10) fun M15 => some ((fX5_clueDigit 4 M15 x1), M15))))))

def fX7_rest  (M : Mem) (x1 : Int32) : Option (Int32 × Mem) :=
    if x1 < (1 : Int32) then (some ((-2 : Int32), M)) else (if x1 ≤ (60 : Int32) then (if (bz (M 19 0)) = 0 then (some ((-4 : Int32), M)) else (if (fX6_hasTimeFor 3 M x1) = 0 then (bnd (fX6_runOutOfTime 3 M) fun q9 => some (q9.1, q9.2)) else (bnd (fX6_note 3 10 M x1 (-1 : Int32)) fun M6 => bnd (fX6_pass 3 M6 x1) fun M7 => some ((fX6_minutesLeft 3 M7), M7)))) else (some ((-2 : Int32), M)))

def fX7_toldStep  (M : Mem) (x0 : Int32) : Int32 :=
    if (fX7_stepKind M x0) = (500 : Int32) then ((irm x0 (1000 : Int32))) else (x0)

def fX7_nudge_B147  (M : Mem) (x1 : Int32) : Option (Int32 × Mem) :=
    bnd (fX6_pass 3 M (2 : Int32)) fun M13 => some ((fX7_toldStep M13 x1), M13)

def fX7_nudge  (M : Mem)  : Option (Int32 × Mem) :=
    if (bz (M 19 0)) = 0 then (some ((-4 : Int32), M)) else (if (M 19 4) < (M 3 8) then (bnd (fX5_stepFor 4 M (M 4 14)) fun y3 => if y3 = (-5 : Int32) then (some ((-5 : Int32), M)) else (if (fX6_hasTimeFor 3 M (2 : Int32)) = 0 then (bnd (fX6_runOutOfTime 3 M) fun q16 => some (q16.1, q16.2)) else (bnd (fX6_note 3 11 M (fX7_toldStep M y3) (-1 : Int32)) fun M9 => thn (wr M9 19 4 ((M9 19 4) + (1 : Int32))) fun M10 => if (fX7_stepKind M10 y3) = (500 : Int32) then (bnd (fX5_learnDigit 4 M10 (y3 / (1000 : Int32)) (irm y3 (100 : Int32))) fun M15 => fX7_nudge_B147 M15 y3) else (fX7_nudge_B147 M10 y3)))) else (some ((-3 : Int32), M)))

def fX7_giveUp  (M : Mem)  : Option (Int32 × Mem) :=
    if (bz (M 19 0)) = 0 then (some ((-4 : Int32), M)) else (bnd (fX6_note 3 12 M (-1 : Int32) (-1 : Int32)) fun M3 => bnd (fX6_endGame 3 M3 (0 : Int32)) fun M4 => some ((fX6_gameMinute 3 M), M4))

def fX7_idle  (M : Mem) (x1 : Int32) : Option (Int32 × Mem) :=
    if x1 < (1 : Int32) then (some ((-2 : Int32), M)) else (if x1 ≤ (1000 : Int32) then (if (bz (M 19 0)) = 0 then (bnd (fX6_pass 3 M x1) fun M4 => some ((M4 3 5), M4)) else (some ((-4 : Int32), M))) else (some ((-2 : Int32), M)))

def fX7_putHome  (M : Mem) (x1 : Int32) : Option (Int32 × Mem) :=
    if (fX5_hasProp 4 M x1) = 0 then (some ((-1 : Int32), M)) else (if (bz (M 19 0)) = 0 then (if (atX M 11 24 x1) = (atX M 10 24 x1) then (some ((-5 : Int32), M)) else (thn (putX M 11 24 x1 (atX M 10 24 x1)) fun M8 => bnd (fX6_pass 3 M8 (1 : Int32)) fun M9 => some ((atX M 11 24 x1), M9))) else (some ((-4 : Int32), M)))

def fX7_close  (M : Mem) (x1 : Int32) : Option (Int32 × Mem) :=
    if (fX5_hasBox 4 M x1) = 0 then (some ((-1 : Int32), M)) else (if x1 = 0 then (some ((-2 : Int32), M)) else (if (bz (M 19 0)) = 0 then (if (fX5_isOpen 4 M x1) = 0 then (some ((-5 : Int32), M)) else (thn (putX M 8 12 x1 (0 : Int32)) fun M7 => bnd (fX6_pass 3 M7 (1 : Int32)) fun M8 => bnd (fX5_openBoxes 4 M8) fun y9 => some (y9, M8))) else (some ((-4 : Int32), M))))

def fX7_writeOver  (M : Mem) (x1 : Int32) : Option (Int32 × Mem) :=
    if (fX5_hasClue 4 M x1) = 0 then (some ((-1 : Int32), M)) else (if (bz (M 19 0)) = 0 then (if (fX5_inkLack 4 M x1) ≤ (M 3 6) then (if (fX5_inkLack 4 M x1) = 0 then (some ((-5 : Int32), M)) else (bnd (fX6_refill 3 M x1) fun M7 => bnd (fX6_pass 3 M7 (1 : Int32)) fun M8 => some ((fX5_inkLack 4 M x1), M8))) else (some ((-4 : Int32), M))) else (some ((-4 : Int32), M)))

def fX7_reset  (M : Mem)  : Option (Int32 × Mem) :=
    if (bz (M 19 0)) = 0 then (bnd (fX6_resetMinutes 3 M) fun y2 => if y2 = 0 then (some ((-5 : Int32), M)) else (bnd (fX6_bringToOrder 3 M) fun M5 => bnd (fX6_pass 3 M5 y2) fun M6 => some (y2, M6))) else (some ((-4 : Int32), M))

def fX7_isSlot  (M : Mem) (x0 : Int32) : Int32 :=
    if x0 = 0 then ((1 : Int32)) else (if x0 = (1 : Int32) then ((1 : Int32)) else ((0 : Int32)))

def fX7_keep  (M : Mem) (x1 : Int32) : Option (Int32 × Mem) :=
    if (fX7_isSlot M x1) = 0 then (some ((-1 : Int32), M)) else (bnd (fX6_copyFrom (slotK x1) 3 M) fun M3 => thn (wr M3 0 5 ((M3 0 5) ||| ((1 : Int32) <<< (x1 &&& 31)))) fun M4 => some ((M4 3 5), M4))

def fX7_restore  (M : Mem) (x1 : Int32) : Option (Int32 × Mem) :=
    if (fX7_isSlot M x1) = 0 then (some ((-1 : Int32), M)) else (if (((M 0 5) >>> (x1 &&& 31)) &&& (1 : Int32)) = 0 then (some ((-5 : Int32), M)) else (bnd (fX6_copyFrom 3 (slotK x1) M) fun M4 => some ((M4 3 5), M4)))

def fX7_box  (M : Mem) (x1 x2 : Int32) : Option Int32 :=
    if (fX5_hasBox 4 M x1) = 0 then (some (-1 : Int32)) else (if x2 = (0 : Int32) then (if x1 = 0 then (some (-5 : Int32)) else (some (atX M 5 12 x1))) else (if x2 = (1 : Int32) then (if x1 = 0 then (some (-5 : Int32)) else (some (atX M 6 12 x1))) else (if x2 = (2 : Int32) then (some (atX M 8 12 x1)) else (if x2 = (3 : Int32) then (bnd (fX5_boxAtHand 4 M x1) fun y20 => some (fX7_asNumber M y20)) else (if x2 = (4 : Int32) then (bnd (fX5_propsIn 4 M x1) fun y18 => some y18) else (if x2 = (5 : Int32) then (bnd (fX5_boxesIn 4 M x1) fun y16 => some y16) else (if x2 = (6 : Int32) then (if x1 = 0 then (some (-5 : Int32)) else (if (fX5_hasLock 4 M x1 (0 : Int32)) = 0 then (some (atX M 7 12 x1)) else (some (-5 : Int32)))) else (if x2 = (7 : Int32) then (some (atX M 9 12 x1)) else ((some (-2 : Int32)))))))))))

def fX7_prop  (M : Mem) (x1 x2 : Int32) : Option Int32 :=
    if (fX5_hasProp 4 M x1) = 0 then (some (-1 : Int32)) else (if x2 = (0 : Int32) then (some (atX M 10 24 x1)) else (if x2 = (1 : Int32) then (if (fX5_isHeld 4 M x1) = 0 then (some (atX M 11 24 x1)) else (some (-5 : Int32))) else (if x2 = (2 : Int32) then (bnd (fX5_propAtHand 4 M x1) fun y12 => some (fX7_asNumber M y12)) else (if x2 = (3 : Int32) then (bnd (fX5_cluesOn 4 M x1) fun y10 => some y10) else (if x2 = (4 : Int32) then (bnd (fX5_locksWith 4 M x1) fun y8 => some y8) else ((some (-2 : Int32))))))))

def fX7_clue  (M : Mem) (x1 x2 : Int32) : Option Int32 :=
    if (fX5_hasClue 4 M x1) = 0 then (some (-1 : Int32)) else (if x2 = (0 : Int32) then (some (atX M 12 12 x1)) else (if x2 = (1 : Int32) then (some (atX M 13 12 x1)) else (if x2 = (2 : Int32) then (some (atX M 14 12 x1)) else (if x2 = (3 : Int32) then (some (atX M 15 12 x1)) else (if x2 = (4 : Int32) then (some (fX5_clueDigit 4 M x1)) else (if x2 = (5 : Int32) then (bnd (fX5_clueAtHand 4 M x1) fun y9 => some (fX7_asNumber M y9)) else ((some (-2 : Int32)))))))))

def fX7_game  (M : Mem) (x1 : Int32) : Option Int32 :=
    if x1 < 0 then (some (-2 : Int32)) else (if x1 ≤ (5 : Int32) then (if (bz (M 19 0)) = 0 then (some (-4 : Int32)) else (if x1 = (0 : Int32) then (some (M 19 1)) else (if x1 = (1 : Int32) then (some (M 19 3)) else (if x1 = (2 : Int32) then (some (fX6_minutesLeft 3 M)) else (if x1 = (3 : Int32) then (some (M 19 4)) else (if x1 = (4 : Int32) then (bnd (fX5_heldBits 4 M) fun y9 => some y9) else ((some (M 19 5))))))))) else (some (-2 : Int32)))

def fX7_group  (M : Mem) (x1 x2 : Int32) : Option Int32 :=
    if (fX3_hasGroup 16 M x1) = 0 then (some (-1 : Int32)) else (if x2 = (0 : Int32) then (some (atX M 17 8 x1)) else (if x2 = (1 : Int32) then (some (atX M 18 8 x1)) else (if x2 = (2 : Int32) then (bnd (fX6_latestStart 3 M x1) fun y6 => some y6) else ((some (-2 : Int32))))))

def fX7_result  (M : Mem) (x1 x2 : Int32) : Int32 :=
    if x1 < 0 then ((-1 : Int32)) else (if x1 < (M 20 0) then (if x2 < 0 then ((-2 : Int32)) else (if x2 < (7 : Int32) then ((atX M 21 210 ((x1 * (7 : Int32)) + x2))) else ((-2 : Int32)))) else ((-1 : Int32)))

def fX7_nextStep  (M : Mem)  : Option Int32 :=
    if (bz (M 19 0)) = 0 then (some (-4 : Int32)) else (bnd (fX5_stepFor 4 M (M 4 14)) fun y2 => some (fX7_toldStep M y2))

def fX7_plan  (M : Mem) (x1 : Int32) : Option (Int32 × Mem) :=
    if (fX7_isGroupSize M x1) = 0 then (some ((-2 : Int32), M)) else (if (bz (M 19 0)) = 0 then (if (M 4 14) = 0 then (some ((-4 : Int32), M)) else (bnd (fX5_copyFrom 66 4 M) fun M5 => thn (wr M5 66 15 x1) fun M6 => bnd (fX5_minutesToExit 66 M6) fun q7 => some (q7.1, q7.2))) else (some ((-4 : Int32), M)))

def fX7_differences  (M : Mem) (x1 : Int32) : Option Int32 :=
    if x1 = (0 : Int32) then (bnd (fX5_propsAway 4 M) fun y14 => some y14) else (if x1 = (1 : Int32) then (bnd (fX5_openBoxes 4 M) fun y12 => some y12) else (if x1 = (2 : Int32) then (bnd (fX5_paleClues 4 M) fun y10 => some y10) else (if x1 = (3 : Int32) then (bnd (fX6_resetMinutes 3 M) fun y8 => some y8) else (if x1 = (4 : Int32) then (bnd (fX6_resetPaint 3 M) fun y6 => some y6) else ((some (-2 : Int32)))))))

def fX7_logAt  (M : Mem) (x1 : Int32) : Int32 :=
    if 0 ≤ x1 then (if x1 < (M 22 0) then ((atX M 23 2048 x1)) else ((-5 : Int32))) else ((-2 : Int32))

def fX7_count  (M : Mem) (x1 : Int32) : Option Int32 :=
    if x1 = (0 : Int32) then (some (M 4 0)) else (if x1 = (1 : Int32) then (some (M 4 6)) else (if x1 = (2 : Int32) then (some (M 4 9)) else (if x1 = (3 : Int32) then (some (M 16 0)) else (if x1 = (4 : Int32) then (bnd (fX3_waitingBefore 16 M (M 3 5)) fun y20 => some y20) else (if x1 = (5 : Int32) then (some (M 3 5)) else (if x1 = (6 : Int32) then (some (M 3 6)) else (if x1 = (7 : Int32) then (some (M 20 0)) else (if x1 = (8 : Int32) then (bnd (fX4_wins 20 M) fun y18 => some y18) else (if x1 = (9 : Int32) then (if (M 4 14) = 0 then (some (-5 : Int32)) else (some (M 4 14))) else (if x1 = (10 : Int32) then (some (M 22 0)) else (if x1 = (11 : Int32) then (some (M 1 1)) else (if x1 = (12 : Int32) then (some (M 3 7)) else (if x1 = (13 : Int32) then (some (M 3 8)) else (if x1 = (14 : Int32) then (some (fX7_asNumber M (bz (M 19 0)))) else ((some (-2 : Int32)))))))))))))))))

